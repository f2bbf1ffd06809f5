abbrev P_MT_forget (K : Nat → ClassId) (M : zq_M) (o : Nat) (dt : Nat) (la : Nat) (lr : Int) (lc : Int) (kn : Int) : Option Value → zq_M → Prop := fun v M' => v = none ∧ M' o = some (.inr (6, [.ref dt, .ref la, .int (iI lr), .int (iI lc), .int (iI 0)])) ∧ ∀ q, q ≠ o → M' q = M q
set_option maxHeartbeats 4000000 in
set_option maxRecDepth 100000 in
theorem c_MT_forget (l : Launch) (D : va_G) (K : Nat → ClassId) (M : zq_M) (o : Nat) (dt : Nat) (la : Nat) (lr : Int) (lc : Int) (kn : Int) (h_o : M o = some (.inr (6, [.ref dt, .ref la, .int (iI lr), .int (iI lc), .int (iI kn)]))) : zq_Met l y_MT_forget (.code y_MT_forget b_MT_forget 1 none :: lw_gd) { frames := 0, cells := 0, slots := 0, locals := 0 } D vwCl (zT K) [.ref o] M (P_MT_forget K M o dt la lr lc kn) 0 0 := by
  refine zq_start (cc := b_MT_forget) (maxL := 1) (ret := none) (by decide) rfl (Nat.le_of_ble_eq_true rfl) ?_
  intro p e s m below meth co A ls hx hb hr hml hts hown hnm hlocks hA hZ hw hl
  have hts : ∀ w ∈ lw_gd, w.before [.ref o].toArray s = true := fun w h => hts w (List.mem_cons_of_mem _ h)
  have hown : s.vm.findClass R_MT = some m.cls := hown
  have hK := hZ.1
  have hl : lv_has ls 1 [(0, .ref o)] := hl
  have hfr : ∀ q, q ≠ o → M q = M q := fun q _ => rfl
  refine lv_aload_n hx hb d_MT_forget_0 rfl (lv_at hl 0 rfl) ?_
  refine lv_iconst (v := iI 0) hx hb d_MT_forget_1 rfl ?_
  refine zq_put (ci := 6) (v := .int (iI 0)) (ty := .boolean) hx hb hts i_MT t_MT t_MT_ok n_MT hown hK hw h_o rfl 4 (by decide) (hts _ tw_157) rfl (by decide +kernel) rfl rfl (Nat.le_of_ble_eq_true rfl) d_MT_forget_2 (fun M1 H locs hs ho hw => ?_)
  have h_o : M1 o = some (.inr (6, [.ref dt, .ref la, .int (iI lr), .int (iI lc), .int (iI 0)])) := hs
  have hfr : ∀ q, q ≠ o → M1 q = M q := fun q g0 => (ho q g0).trans (hfr q g0)
  exact zq_vret hx hb hr hlocks hZ hw ⟨rfl, h_o, hfr⟩ d_MT_forget_5
abbrev P_MT_fillCells (K : Nat → ClassId) (M : zq_M) (o : Nat) (dt : Nat) (la : Nat) (lr : Int) (lc : Int) (kn : Int) (cA : Nat) (pr : Nat) (on : Nat) (pa : Int → Nat) (qa : Int → Nat) (dg : Int → Int) (fc : Int → Int → Int) (eo : Nat) (gA : Nat) (kA : Nat) (ra : Int → Nat) (rb : Int → Nat) (rw0 : Int) (co0 : Int) (F : Int → Int → Int) (G : Int → Int → Int) (od : Int) : Option Value → zq_M → Prop := fun v M' => v = none ∧ ∃ dg1 fc1, zPG K M' cA pa qa dg1 fc1 ∧ zPI dg1 fc1 ∧ zMx F G rw0 co0 lr lc od fc1 ∧ ∀ q, (∀ i, 0 ≤ i → i < 144 → q ≠ pa i) → (∀ i, 0 ≤ i → i < 144 → q ≠ qa i) → M' q = M q
set_option maxHeartbeats 4000000 in
set_option maxRecDepth 100000 in
theorem c_MT_fillCells (l : Launch) (D : va_G) (K : Nat → ClassId) (M : zq_M) (o : Nat) (dt : Nat) (la : Nat) (lr : Int) (lc : Int) (kn : Int) (cA : Nat) (pr : Nat) (on : Nat) (pa : Int → Nat) (qa : Int → Nat) (dg : Int → Int) (fc : Int → Int → Int) (eo : Nat) (gA : Nat) (kA : Nat) (ra : Int → Nat) (rb : Int → Nat) (rw0 : Int) (co0 : Int) (F : Int → Int → Int) (G : Int → Int → Int) (od : Int) (h_o : M o = some (.inr (6, [.ref dt, .ref la, .int (iI lr), .int (iI lc), .int (iI kn)]))) (h_d : M dt = some (.inr (3, [.ref cA, .ref pr, .ref on]))) (hPG : zPG K M cA pa qa dg fc) (hPI : zPI dg fc) (h_e : M eo = some (.inr (5, [.ref gA, .ref kA, .int (iI rw0), .int (iI co0)]))) (hG1 : zG K M gA ra F) (hG2 : zG K M kA rb G) (hE : zE rw0 co0 ra rb F G) (hFb : ∀ i j, -4 ≤ F i j ∧ F i j ≤ 4) (hGb : ∀ i j, -4 ≤ G i j ∧ G i j ≤ 4) (hod : 0 ≤ od ∧ od ≤ 12) (hl : -1 ≤ lr ∧ lr ≤ 12 ∧ 0 ≤ lc ∧ lc ≤ 33) : zq_Met l y_MT_fillCells (.code y_MT_fillCells b_MT_fillCells 7 none :: lw_gd) { frames := 3, cells := 0, slots := 0, locals := 70 } D vwCl (zT K) [.ref o, .ref eo, .int (iI od)] M (P_MT_fillCells K M o dt la lr lc kn cA pr on pa qa dg fc eo gA kA ra rb rw0 co0 F G od) 0 0 := by
  refine zq_start (cc := b_MT_fillCells) (maxL := 7) (ret := none) (by decide) rfl (Nat.le_of_ble_eq_true rfl) ?_
  intro p e s m below meth co A ls hx hb hr hml hts hown hnm hlocks hA hZ hw hl
  have hts : ∀ w ∈ lw_gd, w.before [.ref o, .ref eo, .int (iI od)].toArray s = true := fun w h => hts w (List.mem_cons_of_mem _ h)
  have hown : s.vm.findClass R_MT = some m.cls := hown
  have hK := hZ.1
  have hl : lv_has ls 7 [(0, .ref o), (1, .ref eo), (2, .int (iI od))] := hl
  have hfr : ∀ q, (∀ i, 0 ≤ i → i < 144 → q ≠ pa i) → (∀ i, 0 ≤ i → i < 144 → q ≠ qa i) → M q = M q := fun q _ _ => rfl
  have h_c := hPG.1
  have h_g := hG1.1
  have h_k := hG2.1
  obtain ⟨he1, he2, he3, he4, he5, he6, he7⟩ := id hE
  have hO : ∀ (n : Nat) (i : Int) (dg1 : Int → Int) (fc1 : Int → Int → Int) (Mz : zq_M) (H : Heap) (locs : List Loc) (ls : Array Slot), (0 ≤ i ∧ i ≤ od) → (zPG K Mz cA pa qa dg1 fc1) → (zPI dg1 fc1) → (∀ x y, 0 ≤ x ∧ x < i ∧ 0 ≤ y ∧ y < od → fc1 (x * 12 + y) = zMe F G rw0 co0 lr lc x y) → (od - i).toNat < n → (∀ q, (∀ i, 0 ≤ i → i < 144 → q ≠ pa i) → (∀ i, 0 ≤ i → i < 144 → q ≠ qa i) → Mz q = M q) → Mz o = some (.inr (6, [.ref dt, .ref la, .int (iI lr), .int (iI lc), .int (iI kn)])) → Mz dt = some (.inr (3, [.ref cA, .ref pr, .ref on])) → Mz cA = some (cQ (K 3) 144 (fun i => some (pa i))) → Mz eo = some (.inr (5, [.ref gA, .ref kA, .int (iI rw0), .int (iI co0)])) → Mz gA = some (cQ (K 4) 12 (fun i => some (ra i))) → Mz kA = some (cQ (K 4) 12 (fun i => some (rb i))) → zq_W D vwCl A s.heap Mz H locs → lv_has ls 7 [(0, .ref o), (1, .ref eo), (2, .int (iI od)), (3, .int (iI i))] → W p l e ({ frames := 3, cells := 0, slots := 0, locals := 70 } : Room) s m [.ref o, .ref eo, .int (iI od)].toArray below meth co H locs 0 0 (MQ below (zq_Q D vwCl (zT K) (P_MT_fillCells K M o dt la lr lc kn cA pr on pa qa dg fc eo gA kA ra rb rw0 co0 F G od) A) [.ref o, .ref eo, .int (iI od)].toArray s 0 0 A) (F0 m 2 ls []) := by
    intro n
    induction n with
    | zero =>
      intro i dg1 fc1 Mz H locs ls hi hP1 hPI1 hMx hms hfr h_o h_d h_c h_e h_g h_k hw hl
      exact absurd hms (Nat.not_lt_zero _)
    | succ n ih_hO =>
      intro i dg1 fc1 Mz H locs ls hi hP1 hPI1 hMx hms hfr h_o h_d h_c h_e h_g h_k hw hl
      have hN : ∀ (n : Nat) (jj : Int) (rr : Int) (dg1 : Int → Int) (fc1 : Int → Int → Int) (Mq : zq_M) (H : Heap) (locs : List Loc) (ls : Array Slot), (0 ≤ jj ∧ jj ≤ od ∧ i < od) → (rr = zsr lr i) → (zPG K Mq cA pa qa dg1 fc1) → (zPI dg1 fc1) → (∀ x y, (0 ≤ x ∧ x < i ∧ 0 ≤ y ∧ y < od) ∨ (x = i ∧ 0 ≤ y ∧ y < jj) → fc1 (x * 12 + y) = zMe F G rw0 co0 lr lc x y) → (od - jj).toNat < n → (∀ q, (∀ i, 0 ≤ i → i < 144 → q ≠ pa i) → (∀ i, 0 ≤ i → i < 144 → q ≠ qa i) → Mq q = M q) → Mq o = some (.inr (6, [.ref dt, .ref la, .int (iI lr), .int (iI lc), .int (iI kn)])) → Mq dt = some (.inr (3, [.ref cA, .ref pr, .ref on])) → Mq cA = some (cQ (K 3) 144 (fun i => some (pa i))) → Mq eo = some (.inr (5, [.ref gA, .ref kA, .int (iI rw0), .int (iI co0)])) → Mq gA = some (cQ (K 4) 12 (fun i => some (ra i))) → Mq kA = some (cQ (K 4) 12 (fun i => some (rb i))) → zq_W D vwCl A s.heap Mq H locs → lv_has ls 7 [(0, .ref o), (1, .ref eo), (2, .int (iI od)), (3, .int (iI i)), (4, .int (iI rr)), (5, .int (iI jj))] → W p l e ({ frames := 3, cells := 0, slots := 0, locals := 70 } : Room) s m [.ref o, .ref eo, .int (iI od)].toArray below meth co H locs 0 0 (MQ below (zq_Q D vwCl (zT K) (P_MT_fillCells K M o dt la lr lc kn cA pr on pa qa dg fc eo gA kA ra rb rw0 co0 F G od) A) [.ref o, .ref eo, .int (iI od)].toArray s 0 0 A) (F0 m 34 ls []) := by
        intro n
        induction n with
        | zero =>
          intro jj rr dg1 fc1 Mq H locs ls hj hrr hP1 hPI1 hMx2 hms hfr h_o h_d h_c h_e h_g h_k hw hl
          exact absurd hms (Nat.not_lt_zero _)
        | succ n ih_hN =>
          intro jj rr dg1 fc1 Mq H locs ls hj hrr hP1 hPI1 hMx2 hms hfr h_o h_d h_c h_e h_g h_k hw hl
          refine lv_iload hx hb d_MT_fillCells_34 (lv_at hl 5 rfl) ?_
          refine lv_iload_n hx hb d_MT_fillCells_36 rfl (lv_at hl 2 rfl) ?_
          refine zq_icmp_ge (tgt := 92) hx hb d_MT_fillCells_37 (by decide) ⟨by omega, by omega⟩ ⟨by omega, by omega⟩ (fun hc1 => ?_) (fun hc1 => ?_)
          · refine lv_iinc (v := iI (i + 1)) (lv' := [(3, .int (iI (i + 1))), (0, .ref o), (1, .ref eo), (2, .int (iI od)), (4, .int (iI rr)), (5, .int (iI jj))]) hx hb d_MT_fillCells_92 hl (k := 3) rfl (iI_add _ _) (by decide) rfl (fun ls hl => ?_)
            refine lv_goto (tgt := 2) hx hb d_MT_fillCells_95 (by decide) ?_
            exact ih_hO (i + 1) dg1 fc1 Mq _ _ _ (by omega) hP1 hPI1 (fun x y h => hMx2 x y (by omega)) (by omega) hfr h_o h_d h_c h_e h_g h_k hw (lv_sub hl [1, 2, 3, 0] rfl)
          · refine lv_iload hx hb d_MT_fillCells_40 (lv_at hl 5 rfl) ?_
            refine lv_aload_n hx hb d_MT_fillCells_42 rfl (lv_at hl 0 rfl) ?_
            refine zq_get hx hb hts i_MT hown hK hw h_o rfl 3 (by decide) (hts _ tw_156) rfl d_MT_fillCells_43 ?_
            refine zq_icmp_lt (tgt := 56) hx hb d_MT_fillCells_46 (by decide) ⟨by omega, by omega⟩ ⟨by omega, by omega⟩ (fun hc2 => ?_) (fun hc2 => ?_)
            · refine lv_iload hx hb d_MT_fillCells_56 (lv_at hl 5 rfl) ?_
              refine lv_istore (lv' := [(6, .int (iI jj)), (0, .ref o), (1, .ref eo), (2, .int (iI od)), (3, .int (iI i)), (4, .int (iI rr)), (5, .int (iI jj))]) hx hb d_MT_fillCells_58 hl (by decide) rfl (fun ls hl => ?_)
              have hfb : ∀ q, q ≠ (pa (i * 12 + jj)) → q ≠ (qa (i * 12 + jj)) → Mq q = Mq q := fun q _ _ => rfl
              obtain ⟨h_p, h_q⟩ := hP1.2.1 (i * 12 + jj) (by omega) (by omega)
              have hG1m := zG_pool hG1 hPG hfr
              have hG2m := zG_pool hG2 hPG hfr
              have hDo := (hPI1 (i * 12 + jj) (by omega) (by omega)).1
              refine lv_aload_n hx hb d_MT_fillCells_60 rfl (lv_at hl 1 rfl) ?_
              refine zq_get hx hb hts i_MT hown hK hw h_o rfl 0 (by decide) (hts _ tw_153) rfl d_MT_fillCells_61 ?_
              refine lv_iload_n hx hb d_MT_fillCells_64 rfl (lv_at hl 4 rfl) ?_
              refine lv_iload hx hb d_MT_fillCells_65 (lv_at hl 6 rfl) ?_
              refine lv_aload_n hx hb d_MT_fillCells_67 rfl (lv_at hl 2 rfl) ?_
              refine lv_iload hx hb d_MT_fillCells_68 (lv_at hl 5 rfl) ?_
              refine lv_iload hx hb d_MT_fillCells_70 (lv_at hl 0 rfl) ?_
              refine zq_callV (As := [.int (iI rr), .int (iI jj)]) (rest := [.int (iI jj), .int (iI i), .ref dt]) ⟨hx, hb, hml, hown, hts⟩ (c_ET_constantAt l D K Mq eo gA kA ra rb rw0 co0 F G rr jj h_e hG1m hG2m hE (by rw [hrr]; unfold zsr; split <;> exact ⟨by omega, by omega⟩) ⟨by omega, by omega⟩) (cwV 2 hts (zg_V tw_408 tw_409 tw_410 tw_5 tw_411) rfl rfl rfl (by decide +kernel) ⟨Nat.le_of_ble_eq_true rfl, Nat.le_of_ble_eq_true rfl⟩) hZ hw hA h_e rfl rfl rfl rfl hl.1 (Nat.le_of_ble_eq_true rfl) d_MT_fillCells_72 ⟨Nat.le_of_ble_eq_true rfl, Nat.le_of_ble_eq_true rfl⟩ (fun v M3 H locs hp hw => ?_)
              obtain ⟨rfl, hMe⟩ := hp
              rw [hMe] at hw
              refine W.eq (g2 := F0 m 75 ls [.int (iI (zat F rw0 co0 rr jj)), .int (iI jj), .int (iI i), .ref dt]) rfl ?_
              refine lv_aload_n hx hb d_MT_fillCells_75 rfl (lv_at hl 2 rfl) ?_
              refine lv_iload hx hb d_MT_fillCells_76 (lv_at hl 5 rfl) ?_
              refine lv_iload hx hb d_MT_fillCells_78 (lv_at hl 0 rfl) ?_
              refine zq_callV (As := [.int (iI rr), .int (iI jj)]) (rest := [.int (iI (zat F rw0 co0 rr jj)), .int (iI jj), .int (iI i), .ref dt]) ⟨hx, hb, hml, hown, hts⟩ (c_ET_slopeAt l D K Mq eo gA kA ra rb rw0 co0 F G rr jj h_e hG1m hG2m hE (by rw [hrr]; unfold zsr; split <;> exact ⟨by omega, by omega⟩) ⟨by omega, by omega⟩) (cwV 2 hts (zg_V tw_412 tw_413 tw_414 tw_5 tw_415) rfl rfl rfl (by decide +kernel) ⟨Nat.le_of_ble_eq_true rfl, Nat.le_of_ble_eq_true rfl⟩) hZ hw hA h_e rfl rfl rfl rfl hl.1 (Nat.le_of_ble_eq_true rfl) d_MT_fillCells_80 ⟨Nat.le_of_ble_eq_true rfl, Nat.le_of_ble_eq_true rfl⟩ (fun v M4 H locs hp hw => ?_)
              obtain ⟨rfl, hMe⟩ := hp
              rw [hMe] at hw
              refine W.eq (g2 := F0 m 83 ls [.int (iI (zat G rw0 co0 rr jj)), .int (iI (zat F rw0 co0 rr jj)), .int (iI jj), .int (iI i), .ref dt]) rfl ?_
              refine zq_callV (As := [.int (iI i), .int (iI jj), .int (iI (zat F rw0 co0 rr jj)), .int (iI (zat G rw0 co0 rr jj))]) (rest := []) ⟨hx, hb, hml, hown, hts⟩ (c_DT_put l D K Mq dt cA pr on pa i jj (zat F rw0 co0 rr jj) (zat G rw0 co0 rr jj) (qa (i * 12 + jj)) (dg1 (i * 12 + jj)) (fc1 (i * 12 + jj)) h_d h_c h_p h_q (zD_U hDo) ⟨by omega, by omega⟩ ⟨by omega, by omega⟩ (zat_inI hFb) (zat_inI hGb)) (cwV 4 hts (zg_V tw_416 tw_417 tw_418 tw_7 tw_419) rfl rfl rfl (by decide +kernel) ⟨Nat.le_of_ble_eq_true rfl, Nat.le_of_ble_eq_true rfl⟩) hZ hw hA h_d rfl rfl rfl rfl hl.1 (Nat.le_of_ble_eq_true rfl) d_MT_fillCells_83 ⟨Nat.le_of_ble_eq_true rfl, Nat.le_of_ble_eq_true rfl⟩ (fun v M6 H locs hp hw => ?_)
              obtain ⟨rfl, dd5, hDdd5, hs1, hs2, ho⟩ := hp
              have h_o : M6 o = some (.inr (6, [.ref dt, .ref la, .int (iI lr), .int (iI lc), .int (iI kn)])) := (ho _ (zq_ne h_o h_p (by simp)) (zq_ne h_o h_q (by simp))).trans h_o
              have h_d : M6 dt = some (.inr (3, [.ref cA, .ref pr, .ref on])) := (ho _ (zq_ne h_d h_p (by simp)) (zq_ne h_d h_q (by simp))).trans h_d
              have h_c : M6 cA = some (cQ (K 3) 144 (fun i => some (pa i))) := (ho _ (zq_ne h_c h_p (by simp)) (zq_ne h_c h_q (by simp))).trans h_c
              have h_e : M6 eo = some (.inr (5, [.ref gA, .ref kA, .int (iI rw0), .int (iI co0)])) := (ho _ (zq_ne h_e h_p (by simp)) (zq_ne h_e h_q (by simp))).trans h_e
              have h_g : M6 gA = some (cQ (K 4) 12 (fun i => some (ra i))) := (ho _ (zq_ne h_g h_p (by simp)) (zq_ne h_g h_q (by simp))).trans h_g
              have h_k : M6 kA = some (cQ (K 4) 12 (fun i => some (rb i))) := (ho _ (zq_ne h_k h_p (by simp)) (zq_ne h_k h_q (by simp))).trans h_k
              have h_p : M6 (pa (i * 12 + jj)) = some (.inr (8, [.ref (qa (i * 12 + jj)), .int (iI dd5)])) := hs1
              have h_q : M6 (qa (i * 12 + jj)) = some (cJ (K 1) 25 (zu (zu (fun _ => 0) 0 (zat F rw0 co0 rr jj)) 1 (zat G rw0 co0 rr jj))) := hs2
              have hfr : ∀ q, (∀ i, 0 ≤ i → i < 144 → q ≠ pa i) → (∀ i, 0 ≤ i → i < 144 → q ≠ qa i) → M6 q = M q := fun q g0 g1 => (ho q (g0 (i * 12 + jj) (by omega) (by omega)) (g1 (i * 12 + jj) (by omega) (by omega))).trans (hfr q g0 g1)
              have hfb : ∀ q, q ≠ (pa (i * 12 + jj)) → q ≠ (qa (i * 12 + jj)) → M6 q = Mq q := fun q g0 g1 => (ho q g0 g1).trans (hfb q g0 g1)
              refine W.eq (g2 := F0 m 86 ls []) rfl ?_
              refine lv_iinc (v := iI (jj + 1)) (lv' := [(5, .int (iI (jj + 1))), (6, .int (iI jj)), (0, .ref o), (1, .ref eo), (2, .int (iI od)), (3, .int (iI i)), (4, .int (iI rr))]) hx hb d_MT_fillCells_86 hl (k := 6) rfl (iI_add _ _) (by decide) rfl (fun ls hl => ?_)
              refine lv_goto (tgt := 34) hx hb d_MT_fillCells_89 (by decide) ?_
              exact ih_hN (jj + 1) rr (zu dg1 (i * 12 + jj) dd5) (zu fc1 (i * 12 + jj) (zu (zu (fun _ => 0) 0 (zat F rw0 co0 rr jj)) 1 (zat G rw0 co0 rr jj))) M6 _ _ _ (by omega) hrr (zPG_up1 hP1 (by omega) h_p h_q hfb) (zPI_up hPI1 hDdd5 (zlin_B (zat_bd hFb) (zat_bd hGb)) (zlin_d hDdd5)) (zMx_step hMx2 (by omega) hrr (by unfold zsc; rw [if_neg (by omega)])) (by omega) hfr h_o h_d h_c h_e h_g h_k hw (lv_sub hl [2, 3, 4, 5, 6, 0] rfl)
            · refine lv_iload hx hb d_MT_fillCells_49 (lv_at hl 5 rfl) ?_
              refine lv_iconst (v := iI 1) hx hb d_MT_fillCells_51 rfl ?_
              refine zq_iadd hx hb d_MT_fillCells_52 ?_
              refine lv_goto (tgt := 58) hx hb d_MT_fillCells_53 (by decide) ?_
              refine lv_istore (lv' := [(6, .int (iI (jj + 1))), (0, .ref o), (1, .ref eo), (2, .int (iI od)), (3, .int (iI i)), (4, .int (iI rr)), (5, .int (iI jj))]) hx hb d_MT_fillCells_58 hl (by decide) rfl (fun ls hl => ?_)
              have hfb : ∀ q, q ≠ (pa (i * 12 + jj)) → q ≠ (qa (i * 12 + jj)) → Mq q = Mq q := fun q _ _ => rfl
              obtain ⟨h_p, h_q⟩ := hP1.2.1 (i * 12 + jj) (by omega) (by omega)
              have hG1m := zG_pool hG1 hPG hfr
              have hG2m := zG_pool hG2 hPG hfr
              have hDo := (hPI1 (i * 12 + jj) (by omega) (by omega)).1
              refine lv_aload_n hx hb d_MT_fillCells_60 rfl (lv_at hl 1 rfl) ?_
              refine zq_get hx hb hts i_MT hown hK hw h_o rfl 0 (by decide) (hts _ tw_153) rfl d_MT_fillCells_61 ?_
              refine lv_iload_n hx hb d_MT_fillCells_64 rfl (lv_at hl 4 rfl) ?_
              refine lv_iload hx hb d_MT_fillCells_65 (lv_at hl 6 rfl) ?_
              refine lv_aload_n hx hb d_MT_fillCells_67 rfl (lv_at hl 2 rfl) ?_
              refine lv_iload hx hb d_MT_fillCells_68 (lv_at hl 5 rfl) ?_
              refine lv_iload hx hb d_MT_fillCells_70 (lv_at hl 0 rfl) ?_
              refine zq_callV (As := [.int (iI rr), .int (iI (jj + 1))]) (rest := [.int (iI jj), .int (iI i), .ref dt]) ⟨hx, hb, hml, hown, hts⟩ (c_ET_constantAt l D K Mq eo gA kA ra rb rw0 co0 F G rr (jj + 1) h_e hG1m hG2m hE (by rw [hrr]; unfold zsr; split <;> exact ⟨by omega, by omega⟩) ⟨by omega, by omega⟩) (cwV 2 hts (zg_V tw_408 tw_409 tw_410 tw_5 tw_411) rfl rfl rfl (by decide +kernel) ⟨Nat.le_of_ble_eq_true rfl, Nat.le_of_ble_eq_true rfl⟩) hZ hw hA h_e rfl rfl rfl rfl hl.1 (Nat.le_of_ble_eq_true rfl) d_MT_fillCells_72 ⟨Nat.le_of_ble_eq_true rfl, Nat.le_of_ble_eq_true rfl⟩ (fun v M7 H locs hp hw => ?_)
              obtain ⟨rfl, hMe⟩ := hp
              rw [hMe] at hw
              refine W.eq (g2 := F0 m 75 ls [.int (iI (zat F rw0 co0 rr (jj + 1))), .int (iI jj), .int (iI i), .ref dt]) rfl ?_
              refine lv_aload_n hx hb d_MT_fillCells_75 rfl (lv_at hl 2 rfl) ?_
              refine lv_iload hx hb d_MT_fillCells_76 (lv_at hl 5 rfl) ?_
              refine lv_iload hx hb d_MT_fillCells_78 (lv_at hl 0 rfl) ?_
              refine zq_callV (As := [.int (iI rr), .int (iI (jj + 1))]) (rest := [.int (iI (zat F rw0 co0 rr (jj + 1))), .int (iI jj), .int (iI i), .ref dt]) ⟨hx, hb, hml, hown, hts⟩ (c_ET_slopeAt l D K Mq eo gA kA ra rb rw0 co0 F G rr (jj + 1) h_e hG1m hG2m hE (by rw [hrr]; unfold zsr; split <;> exact ⟨by omega, by omega⟩) ⟨by omega, by omega⟩) (cwV 2 hts (zg_V tw_412 tw_413 tw_414 tw_5 tw_415) rfl rfl rfl (by decide +kernel) ⟨Nat.le_of_ble_eq_true rfl, Nat.le_of_ble_eq_true rfl⟩) hZ hw hA h_e rfl rfl rfl rfl hl.1 (Nat.le_of_ble_eq_true rfl) d_MT_fillCells_80 ⟨Nat.le_of_ble_eq_true rfl, Nat.le_of_ble_eq_true rfl⟩ (fun v M8 H locs hp hw => ?_)
              obtain ⟨rfl, hMe⟩ := hp
              rw [hMe] at hw
              refine W.eq (g2 := F0 m 83 ls [.int (iI (zat G rw0 co0 rr (jj + 1))), .int (iI (zat F rw0 co0 rr (jj + 1))), .int (iI jj), .int (iI i), .ref dt]) rfl ?_
              refine zq_callV (As := [.int (iI i), .int (iI jj), .int (iI (zat F rw0 co0 rr (jj + 1))), .int (iI (zat G rw0 co0 rr (jj + 1)))]) (rest := []) ⟨hx, hb, hml, hown, hts⟩ (c_DT_put l D K Mq dt cA pr on pa i jj (zat F rw0 co0 rr (jj + 1)) (zat G rw0 co0 rr (jj + 1)) (qa (i * 12 + jj)) (dg1 (i * 12 + jj)) (fc1 (i * 12 + jj)) h_d h_c h_p h_q (zD_U hDo) ⟨by omega, by omega⟩ ⟨by omega, by omega⟩ (zat_inI hFb) (zat_inI hGb)) (cwV 4 hts (zg_V tw_416 tw_417 tw_418 tw_7 tw_419) rfl rfl rfl (by decide +kernel) ⟨Nat.le_of_ble_eq_true rfl, Nat.le_of_ble_eq_true rfl⟩) hZ hw hA h_d rfl rfl rfl rfl hl.1 (Nat.le_of_ble_eq_true rfl) d_MT_fillCells_83 ⟨Nat.le_of_ble_eq_true rfl, Nat.le_of_ble_eq_true rfl⟩ (fun v M10 H locs hp hw => ?_)
              obtain ⟨rfl, dd9, hDdd9, hs1, hs2, ho⟩ := hp
              have h_o : M10 o = some (.inr (6, [.ref dt, .ref la, .int (iI lr), .int (iI lc), .int (iI kn)])) := (ho _ (zq_ne h_o h_p (by simp)) (zq_ne h_o h_q (by simp))).trans h_o
              have h_d : M10 dt = some (.inr (3, [.ref cA, .ref pr, .ref on])) := (ho _ (zq_ne h_d h_p (by simp)) (zq_ne h_d h_q (by simp))).trans h_d
              have h_c : M10 cA = some (cQ (K 3) 144 (fun i => some (pa i))) := (ho _ (zq_ne h_c h_p (by simp)) (zq_ne h_c h_q (by simp))).trans h_c
              have h_e : M10 eo = some (.inr (5, [.ref gA, .ref kA, .int (iI rw0), .int (iI co0)])) := (ho _ (zq_ne h_e h_p (by simp)) (zq_ne h_e h_q (by simp))).trans h_e
              have h_g : M10 gA = some (cQ (K 4) 12 (fun i => some (ra i))) := (ho _ (zq_ne h_g h_p (by simp)) (zq_ne h_g h_q (by simp))).trans h_g
              have h_k : M10 kA = some (cQ (K 4) 12 (fun i => some (rb i))) := (ho _ (zq_ne h_k h_p (by simp)) (zq_ne h_k h_q (by simp))).trans h_k
              have h_p : M10 (pa (i * 12 + jj)) = some (.inr (8, [.ref (qa (i * 12 + jj)), .int (iI dd9)])) := hs1
              have h_q : M10 (qa (i * 12 + jj)) = some (cJ (K 1) 25 (zu (zu (fun _ => 0) 0 (zat F rw0 co0 rr (jj + 1))) 1 (zat G rw0 co0 rr (jj + 1)))) := hs2
              have hfr : ∀ q, (∀ i, 0 ≤ i → i < 144 → q ≠ pa i) → (∀ i, 0 ≤ i → i < 144 → q ≠ qa i) → M10 q = M q := fun q g0 g1 => (ho q (g0 (i * 12 + jj) (by omega) (by omega)) (g1 (i * 12 + jj) (by omega) (by omega))).trans (hfr q g0 g1)
              have hfb : ∀ q, q ≠ (pa (i * 12 + jj)) → q ≠ (qa (i * 12 + jj)) → M10 q = Mq q := fun q g0 g1 => (ho q g0 g1).trans (hfb q g0 g1)
              refine W.eq (g2 := F0 m 86 ls []) rfl ?_
              refine lv_iinc (v := iI (jj + 1)) (lv' := [(5, .int (iI (jj + 1))), (6, .int (iI (jj + 1))), (0, .ref o), (1, .ref eo), (2, .int (iI od)), (3, .int (iI i)), (4, .int (iI rr))]) hx hb d_MT_fillCells_86 hl (k := 6) rfl (iI_add _ _) (by decide) rfl (fun ls hl => ?_)
              refine lv_goto (tgt := 34) hx hb d_MT_fillCells_89 (by decide) ?_
              exact ih_hN (jj + 1) rr (zu dg1 (i * 12 + jj) dd9) (zu fc1 (i * 12 + jj) (zu (zu (fun _ => 0) 0 (zat F rw0 co0 rr (jj + 1))) 1 (zat G rw0 co0 rr (jj + 1)))) M10 _ _ _ (by omega) hrr (zPG_up1 hP1 (by omega) h_p h_q hfb) (zPI_up hPI1 hDdd9 (zlin_B (zat_bd hFb) (zat_bd hGb)) (zlin_d hDdd9)) (zMx_step hMx2 (by omega) hrr (by unfold zsc; rw [if_pos (by omega)])) (by omega) hfr h_o h_d h_c h_e h_g h_k hw (lv_sub hl [2, 3, 4, 5, 6, 0] rfl)
      refine lv_iload_n hx hb d_MT_fillCells_2 rfl (lv_at hl 3 rfl) ?_
      refine lv_iload_n hx hb d_MT_fillCells_3 rfl (lv_at hl 2 rfl) ?_
      refine zq_icmp_ge (tgt := 98) hx hb d_MT_fillCells_4 (by decide) ⟨by omega, by omega⟩ ⟨by omega, by omega⟩ (fun hc11 => ?_) (fun hc11 => ?_)
      · exact zq_vret hx hb hr hlocks hZ hw ⟨rfl, dg1, fc1, hP1, hPI1, fun x y h1 h2 h3 h4 => hMx x y (by omega), hfr⟩ d_MT_fillCells_98
      · refine lv_aload_n hx hb d_MT_fillCells_7 rfl (lv_at hl 0 rfl) ?_
        refine zq_get hx hb hts i_MT hown hK hw h_o rfl 2 (by decide) (hts _ tw_155) rfl d_MT_fillCells_8 ?_
        refine zq_if_lt (tgt := 28) hx hb d_MT_fillCells_11 (by decide) ⟨by omega, by omega⟩ (fun hc12 => ?_) (fun hc12 => ?_)
        · refine lv_iload_n hx hb d_MT_fillCells_28 rfl (lv_at hl 3 rfl) ?_
          refine lv_istore (lv' := [(4, .int (iI i)), (0, .ref o), (1, .ref eo), (2, .int (iI od)), (3, .int (iI i))]) hx hb d_MT_fillCells_29 hl (by decide) rfl (fun ls hl => ?_)
          refine lv_iconst (v := iI 0) hx hb d_MT_fillCells_31 rfl ?_
          refine lv_istore (lv' := [(5, .int (iI 0)), (4, .int (iI i)), (0, .ref o), (1, .ref eo), (2, .int (iI od)), (3, .int (iI i))]) hx hb d_MT_fillCells_32 hl (by decide) rfl (fun ls hl => ?_)
          exact hN _ 0 i dg1 fc1 Mz _ _ _ (by omega) (by unfold zsr; rw [if_neg (by omega)]) hP1 hPI1 (fun x y h => hMx x y (by omega)) (Nat.lt_succ_self _) hfr h_o h_d h_c h_e h_g h_k hw (lv_sub hl [2, 3, 4, 5, 1, 0] rfl)
        · refine lv_iload_n hx hb d_MT_fillCells_14 rfl (lv_at hl 3 rfl) ?_
          refine lv_aload_n hx hb d_MT_fillCells_15 rfl (lv_at hl 0 rfl) ?_
          refine zq_get hx hb hts i_MT hown hK hw h_o rfl 2 (by decide) (hts _ tw_155) rfl d_MT_fillCells_16 ?_
          refine zq_icmp_lt (tgt := 28) hx hb d_MT_fillCells_19 (by decide) ⟨by omega, by omega⟩ ⟨by omega, by omega⟩ (fun hc13 => ?_) (fun hc13 => ?_)
          · refine lv_iload_n hx hb d_MT_fillCells_28 rfl (lv_at hl 3 rfl) ?_
            refine lv_istore (lv' := [(4, .int (iI i)), (0, .ref o), (1, .ref eo), (2, .int (iI od)), (3, .int (iI i))]) hx hb d_MT_fillCells_29 hl (by decide) rfl (fun ls hl => ?_)
            refine lv_iconst (v := iI 0) hx hb d_MT_fillCells_31 rfl ?_
            refine lv_istore (lv' := [(5, .int (iI 0)), (4, .int (iI i)), (0, .ref o), (1, .ref eo), (2, .int (iI od)), (3, .int (iI i))]) hx hb d_MT_fillCells_32 hl (by decide) rfl (fun ls hl => ?_)
            exact hN _ 0 i dg1 fc1 Mz _ _ _ (by omega) (by unfold zsr; rw [if_neg (by omega)]) hP1 hPI1 (fun x y h => hMx x y (by omega)) (Nat.lt_succ_self _) hfr h_o h_d h_c h_e h_g h_k hw (lv_sub hl [2, 3, 4, 5, 1, 0] rfl)
          · refine lv_iload_n hx hb d_MT_fillCells_22 rfl (lv_at hl 3 rfl) ?_
            refine lv_iconst (v := iI 1) hx hb d_MT_fillCells_23 rfl ?_
            refine zq_iadd hx hb d_MT_fillCells_24 ?_
            refine lv_goto (tgt := 29) hx hb d_MT_fillCells_25 (by decide) ?_
            refine lv_istore (lv' := [(4, .int (iI (i + 1))), (0, .ref o), (1, .ref eo), (2, .int (iI od)), (3, .int (iI i))]) hx hb d_MT_fillCells_29 hl (by decide) rfl (fun ls hl => ?_)
            refine lv_iconst (v := iI 0) hx hb d_MT_fillCells_31 rfl ?_
            refine lv_istore (lv' := [(5, .int (iI 0)), (4, .int (iI (i + 1))), (0, .ref o), (1, .ref eo), (2, .int (iI od)), (3, .int (iI i))]) hx hb d_MT_fillCells_32 hl (by decide) rfl (fun ls hl => ?_)
            exact hN _ 0 (i + 1) dg1 fc1 Mz _ _ _ (by omega) (by unfold zsr; rw [if_pos (by omega)]) hP1 hPI1 (fun x y h => hMx x y (by omega)) (Nat.lt_succ_self _) hfr h_o h_d h_c h_e h_g h_k hw (lv_sub hl [2, 3, 4, 5, 1, 0] rfl)
  refine lv_iconst (v := iI 0) hx hb d_MT_fillCells_0 rfl ?_
  refine lv_istore_n (lv' := [(3, .int (iI 0)), (0, .ref o), (1, .ref eo), (2, .int (iI od))]) hx hb d_MT_fillCells_1 rfl hl (by decide) rfl (fun ls hl => ?_)
  exact hO _ 0 dg fc M _ _ _ (by omega) hPG hPI (fun x y h => by omega) (Nat.lt_succ_self _) hfr h_o h_d h_c h_e h_g h_k hw (lv_sub hl [1, 2, 3, 0] rfl)
