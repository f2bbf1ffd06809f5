abbrev P_MM_hang (K : Nat → ClassId) (M : zq_M) (o : Nat) (bd : Nat → Nat) (th : Int) (put : Int) (wr : Int) (nn : Int) (cir : Int) (oN : Int) (oC : Int) (lbs : Int) (fcs : Int) (arcs : Int) (mns : Int) (kn : Int) (lb : Int → Int) (pi : Int → Int) : Option Value → zq_M → Prop := fun v M' => v = none ∧ ∃ g', zHg lb nn g' ∧ M' (bd 8) = some (cI (K 0) 12 g') ∧ ∀ q, q ≠ (bd 8) → M' q = M q
set_option maxHeartbeats 4000000 in
set_option maxRecDepth 100000 in
theorem c_MM_hang (l : Launch) (D : va_G) (K : Nat → ClassId) (M : zq_M) (o : Nat) (bd : Nat → Nat) (th : Int) (put : Int) (wr : Int) (nn : Int) (cir : Int) (oN : Int) (oC : Int) (lbs : Int) (fcs : Int) (arcs : Int) (mns : Int) (kn : Int) (lb : Int → Int) (pi : Int → Int) (h_o : M o = some (.inr (9, [.int (iI th), .int (iI put), .int (iI wr), .ref (bd 0), .ref (bd 1), .int (iI nn), .int (iI cir), .int (iI oN), .int (iI oC), .ref (bd 2), .ref (bd 3), .ref (bd 4), .ref (bd 5), .int (iI lbs), .ref (bd 6), .ref (bd 7), .ref (bd 8), .int (iI fcs), .ref (bd 9), .int (iI arcs), .ref (bd 10), .ref (bd 11), .ref (bd 12), .ref (bd 13), .int (iI mns), .ref (bd 14), .ref (bd 15), .ref (bd 16), .int (iI kn), .ref (bd 17)]))) (hbd : ∀ i j, i < 18 → j < 18 → bd i = bd j → i = j) (h_lb : M (bd 3) = some (cI (K 0) 48 lb)) (h_pi : M (bd 8) = some (cI (K 0) 12 pi)) (hlb : ∀ j, inI (lb j)) (hnn : 0 ≤ nn ∧ nn ≤ 12) : zq_Met l y_MM_hang (.code y_MM_hang b_MM_hang 4 none :: lw_gd) { frames := 0, cells := 0, slots := 0, locals := 0 } D vwCl (zT K) [.ref o] M (P_MM_hang K M o bd th put wr nn cir oN oC lbs fcs arcs mns kn lb pi) 0 0 := by
  refine zq_start (cc := b_MM_hang) (maxL := 4) (ret := none) (by decide) rfl (Nat.le_of_ble_eq_true rfl) ?_
  intro p e s m below meth co A ls hx hb hr hml hts hown hnm hlocks hA hZ hw hl
  have hts : ∀ w ∈ lw_gd, w.before [.ref o].toArray s = true := fun w h => hts w (List.mem_cons_of_mem _ h)
  have hown : s.vm.findClass R_MM = some m.cls := hown
  have hK := hZ.1
  have hl : lv_has ls 4 [(0, .ref o)] := hl
  have hfr : ∀ q, q ≠ (bd 8) → M q = M q := fun q _ => rfl
  have hL2 : ∀ (n : Nat) (mo0 : Int) (g0 : Int → Int) (Mq : zq_M) (H : Heap) (locs : List Loc) (ls : Array Slot), (mo0 = 0 ∨ mo0 = 1) → (zHs lb nn g0) → (mo0 = 0 → zEc lb (4 * nn) g0) → (2 * zsg2 g0 nn + mo0).toNat < n → (∀ q, q ≠ (bd 8) → Mq q = M q) → Mq o = some (.inr (9, [.int (iI th), .int (iI put), .int (iI wr), .ref (bd 0), .ref (bd 1), .int (iI nn), .int (iI cir), .int (iI oN), .int (iI oC), .ref (bd 2), .ref (bd 3), .ref (bd 4), .ref (bd 5), .int (iI lbs), .ref (bd 6), .ref (bd 7), .ref (bd 8), .int (iI fcs), .ref (bd 9), .int (iI arcs), .ref (bd 10), .ref (bd 11), .ref (bd 12), .ref (bd 13), .int (iI mns), .ref (bd 14), .ref (bd 15), .ref (bd 16), .int (iI kn), .ref (bd 17)])) → Mq (bd 3) = some (cI (K 0) 48 lb) → Mq (bd 8) = some (cI (K 0) 12 g0) → zq_W D vwCl A s.heap Mq H locs → lv_has ls 4 [(0, .ref o), (1, .int (iI mo0))] → W p l e ({ frames := 0, cells := 0, slots := 0, locals := 0 } : Room) s m [.ref o].toArray below meth co H locs 0 0 (MQ below (zq_Q D vwCl (zT K) (P_MM_hang K M o bd th put wr nn cir oN oC lbs fcs arcs mns kn lb pi) A) [.ref o].toArray s 0 0 A) (F0 m 25 ls []) := by
    intro n
    induction n with
    | zero =>
      intro mo0 g0 Mq H locs ls hm0 hH0 hE0 hms hfr h_o h_lb h_pi hw hl
      exact absurd hms (Nat.not_lt_zero _)
    | succ n ih_hL2 =>
      intro mo0 g0 Mq H locs ls hm0 hH0 hE0 hms hfr h_o h_lb h_pi hw hl
      refine lv_iload_n hx hb d_MM_hang_25 rfl (lv_at hl 1 rfl) ?_
      refine zq_if_eq (tgt := 122) hx hb d_MM_hang_26 (by decide) ⟨by omega, by omega⟩ (fun hc1 => ?_) (fun hc1 => ?_)
      · exact zq_vret hx hb hr hlocks hZ hw ⟨rfl, g0, ⟨hH0, hE0 (by omega)⟩, h_pi, hfr⟩ d_MM_hang_122
      · have hL3 : ∀ (n : Nat) (mo : Int) (a : Int) (g : Int → Int) (Mq : zq_M) (H : Heap) (locs : List Loc) (ls : Array Slot), (mo = 0 ∨ mo = 1) → (0 ≤ a ∧ a ≤ 4 * nn) → (zHs lb nn g) → (mo = 0 → ∀ a0, 0 ≤ a0 → a0 < a → ∀ b0, 0 ≤ b0 → b0 < 4 * nn → lb a0 = lb b0 → ¬ g (a0 / 4) < g (b0 / 4)) → (2 * zsg2 g nn + mo ≤ 2 * zsg2 g0 nn) → (4 * nn - a).toNat < n → (∀ q, q ≠ (bd 8) → Mq q = M q) → Mq o = some (.inr (9, [.int (iI th), .int (iI put), .int (iI wr), .ref (bd 0), .ref (bd 1), .int (iI nn), .int (iI cir), .int (iI oN), .int (iI oC), .ref (bd 2), .ref (bd 3), .ref (bd 4), .ref (bd 5), .int (iI lbs), .ref (bd 6), .ref (bd 7), .ref (bd 8), .int (iI fcs), .ref (bd 9), .int (iI arcs), .ref (bd 10), .ref (bd 11), .ref (bd 12), .ref (bd 13), .int (iI mns), .ref (bd 14), .ref (bd 15), .ref (bd 16), .int (iI kn), .ref (bd 17)])) → Mq (bd 3) = some (cI (K 0) 48 lb) → Mq (bd 8) = some (cI (K 0) 12 g) → zq_W D vwCl A s.heap Mq H locs → lv_has ls 4 [(0, .ref o), (1, .int (iI mo)), (2, .int (iI a))] → W p l e ({ frames := 0, cells := 0, slots := 0, locals := 0 } : Room) s m [.ref o].toArray below meth co H locs 0 0 (MQ below (zq_Q D vwCl (zT K) (P_MM_hang K M o bd th put wr nn cir oN oC lbs fcs arcs mns kn lb pi) A) [.ref o].toArray s 0 0 A) (F0 m 33 ls []) := by
          intro n
          induction n with
          | zero =>
            intro mo a g Mq H locs ls hmo ha hH hN hW hms hfr h_o h_lb h_pi hw hl
            exact absurd hms (Nat.not_lt_zero _)
          | succ n ih_hL3 =>
            intro mo a g Mq H locs ls hmo ha hH hN hW hms hfr h_o h_lb h_pi hw hl
            refine lv_iload_n hx hb d_MM_hang_33 rfl (lv_at hl 2 rfl) ?_
            refine lv_iconst (v := iI 4) hx hb d_MM_hang_34 rfl ?_
            refine lv_aload_n hx hb d_MM_hang_35 rfl (lv_at hl 0 rfl) ?_
            refine zq_get hx hb hts i_MM hown hK hw h_o rfl 5 (by decide) (hts _ tw_591) rfl d_MM_hang_36 ?_
            refine zq_imul hx hb d_MM_hang_39 ?_
            refine zq_icmp_ge (tgt := 119) hx hb d_MM_hang_40 (by decide) ⟨by omega, by omega⟩ ⟨by omega, by omega⟩ (fun hc2 => ?_) (fun hc2 => ?_)
            · refine lv_goto (tgt := 25) hx hb d_MM_hang_119 (by decide) ?_
              exact ih_hL2 mo g Mq _ _ _ hmo hH (fun z => zEc_of (fun a0 h1 h2 => hN z a0 h1 (by omega))) (by have := zsg2_nn hH; omega) hfr h_o h_lb h_pi hw (lv_sub hl [0, 1] rfl)
            · have hL4 : ∀ (n : Nat) (mo : Int) (b : Int) (g : Int → Int) (Mq : zq_M) (H : Heap) (locs : List Loc) (ls : Array Slot), (mo = 0 ∨ mo = 1) → (0 ≤ b ∧ b ≤ 4 * nn) → (zHs lb nn g) → (mo = 0 → ∀ a0, 0 ≤ a0 → a0 < a → ∀ b0, 0 ≤ b0 → b0 < 4 * nn → lb a0 = lb b0 → ¬ g (a0 / 4) < g (b0 / 4)) → (mo = 0 → ∀ b0, 0 ≤ b0 → b0 < b → lb a = lb b0 → ¬ g (a / 4) < g (b0 / 4)) → (2 * zsg2 g nn + mo ≤ 2 * zsg2 g0 nn) → (4 * nn - b).toNat < n → (∀ q, q ≠ (bd 8) → Mq q = M q) → Mq o = some (.inr (9, [.int (iI th), .int (iI put), .int (iI wr), .ref (bd 0), .ref (bd 1), .int (iI nn), .int (iI cir), .int (iI oN), .int (iI oC), .ref (bd 2), .ref (bd 3), .ref (bd 4), .ref (bd 5), .int (iI lbs), .ref (bd 6), .ref (bd 7), .ref (bd 8), .int (iI fcs), .ref (bd 9), .int (iI arcs), .ref (bd 10), .ref (bd 11), .ref (bd 12), .ref (bd 13), .int (iI mns), .ref (bd 14), .ref (bd 15), .ref (bd 16), .int (iI kn), .ref (bd 17)])) → Mq (bd 3) = some (cI (K 0) 48 lb) → Mq (bd 8) = some (cI (K 0) 12 g) → zq_W D vwCl A s.heap Mq H locs → lv_has ls 4 [(0, .ref o), (1, .int (iI mo)), (2, .int (iI a)), (3, .int (iI b))] → W p l e ({ frames := 0, cells := 0, slots := 0, locals := 0 } : Room) s m [.ref o].toArray below meth co H locs 0 0 (MQ below (zq_Q D vwCl (zT K) (P_MM_hang K M o bd th put wr nn cir oN oC lbs fcs arcs mns kn lb pi) A) [.ref o].toArray s 0 0 A) (F0 m 45 ls []) := by
                intro n
                induction n with
                | zero =>
                  intro mo b g Mq H locs ls hmo hb0 hH hNo hN hW hms hfr h_o h_lb h_pi hw hl
                  exact absurd hms (Nat.not_lt_zero _)
                | succ n ih_hL4 =>
                  intro mo b g Mq H locs ls hmo hb0 hH hNo hN hW hms hfr h_o h_lb h_pi hw hl
                  refine lv_iload_n hx hb d_MM_hang_45 rfl (lv_at hl 3 rfl) ?_
                  refine lv_iconst (v := iI 4) hx hb d_MM_hang_46 rfl ?_
                  refine lv_aload_n hx hb d_MM_hang_47 rfl (lv_at hl 0 rfl) ?_
                  refine zq_get hx hb hts i_MM hown hK hw h_o rfl 5 (by decide) (hts _ tw_591) rfl d_MM_hang_48 ?_
                  refine zq_imul hx hb d_MM_hang_51 ?_
                  refine zq_icmp_ge (tgt := 113) hx hb d_MM_hang_52 (by decide) ⟨by omega, by omega⟩ ⟨by omega, by omega⟩ (fun hc3 => ?_) (fun hc3 => ?_)
                  · refine lv_iinc (v := iI (a + 1)) (lv' := [(2, .int (iI (a + 1))), (0, .ref o), (1, .int (iI mo)), (3, .int (iI b))]) hx hb d_MM_hang_113 hl (k := 2) rfl (iI_add _ _) (by decide) rfl (fun ls hl => ?_)
                    refine lv_goto (tgt := 33) hx hb d_MM_hang_116 (by decide) ?_
                    exact ih_hL3 mo (a + 1) g Mq _ _ _ hmo (by omega) hH (fun z a0 h1 h2 b0 h3 h4 h5 => by by_cases q : a0 = a; rw [q] at h5 ⊢; exact hN z b0 h3 (by omega) h5; exact hNo z a0 h1 (by omega) b0 h3 h4 h5) hW (by omega) hfr h_o h_lb h_pi hw (lv_sub hl [1, 2, 0] rfl)
                  · refine lv_aload_n hx hb d_MM_hang_55 rfl (lv_at hl 0 rfl) ?_
                    refine zq_get hx hb hts i_MM hown hK hw h_o rfl 10 (by decide) (hts _ tw_596) rfl d_MM_hang_56 ?_
                    refine lv_iload_n hx hb d_MM_hang_59 rfl (lv_at hl 2 rfl) ?_
                    refine zq_iald hx hb hK hw 0 h_lb rfl (by omega) (by omega) (by decide) d_MM_hang_60 ?_
                    refine lv_aload_n hx hb d_MM_hang_61 rfl (lv_at hl 0 rfl) ?_
                    refine zq_get hx hb hts i_MM hown hK hw h_o rfl 10 (by decide) (hts _ tw_596) rfl d_MM_hang_62 ?_
                    refine lv_iload_n hx hb d_MM_hang_65 rfl (lv_at hl 3 rfl) ?_
                    refine zq_iald hx hb hK hw 0 h_lb rfl (by omega) (by omega) (by decide) d_MM_hang_66 ?_
                    refine zq_icmp_ne (tgt := 107) hx hb d_MM_hang_67 (by decide) (hlb _) (hlb _) (fun hc4 => ?_) (fun hc4 => ?_)
                    · refine lv_iinc (v := iI (b + 1)) (lv' := [(3, .int (iI (b + 1))), (0, .ref o), (1, .int (iI mo)), (2, .int (iI a))]) hx hb d_MM_hang_107 hl (k := 3) rfl (iI_add _ _) (by decide) rfl (fun ls hl => ?_)
                      refine lv_goto (tgt := 45) hx hb d_MM_hang_110 (by decide) ?_
                      exact ih_hL4 mo (b + 1) g Mq _ _ _ hmo (by omega) hH hNo (fun z b0 h1 h2 h3 => by by_cases q : b0 = b; rw [q] at h3 ⊢; omega; exact hN z b0 h1 (by omega) h3) hW (by omega) hfr h_o h_lb h_pi hw (lv_sub hl [1, 2, 3, 0] rfl)
                    · refine lv_aload_n hx hb d_MM_hang_70 rfl (lv_at hl 0 rfl) ?_
                      refine zq_get hx hb hts i_MM hown hK hw h_o rfl 16 (by decide) (hts _ tw_602) rfl d_MM_hang_71 ?_
                      refine lv_iload_n hx hb d_MM_hang_74 rfl (lv_at hl 2 rfl) ?_
                      refine lv_iconst (v := iI 4) hx hb d_MM_hang_75 rfl ?_
                      refine zq_idiv hx hb (by omega) ⟨by omega, by omega⟩ (by decide) (by decide) d_MM_hang_76 ?_
                      refine zq_iald hx hb hK hw 0 h_pi rfl (by omega) (by omega) (by decide) d_MM_hang_77 ?_
                      refine lv_aload_n hx hb d_MM_hang_78 rfl (lv_at hl 0 rfl) ?_
                      refine zq_get hx hb hts i_MM hown hK hw h_o rfl 16 (by decide) (hts _ tw_602) rfl d_MM_hang_79 ?_
                      refine lv_iload_n hx hb d_MM_hang_82 rfl (lv_at hl 3 rfl) ?_
                      refine lv_iconst (v := iI 4) hx hb d_MM_hang_83 rfl ?_
                      refine zq_idiv hx hb (by omega) ⟨by omega, by omega⟩ (by decide) (by decide) d_MM_hang_84 ?_
                      refine zq_iald hx hb hK hw 0 h_pi rfl (by omega) (by omega) (by decide) d_MM_hang_85 ?_
                      refine zq_icmp_ge (tgt := 107) hx hb d_MM_hang_86 (by decide) (by have := hH.1 (a / 4) (by omega) (by omega); exact ⟨by omega, by omega⟩) (by have := hH.1 (b / 4) (by omega) (by omega); exact ⟨by omega, by omega⟩) (fun hc5 => ?_) (fun hc5 => ?_)
                      · refine lv_iinc (v := iI (b + 1)) (lv' := [(3, .int (iI (b + 1))), (0, .ref o), (1, .int (iI mo)), (2, .int (iI a))]) hx hb d_MM_hang_107 hl (k := 3) rfl (iI_add _ _) (by decide) rfl (fun ls hl => ?_)
                        refine lv_goto (tgt := 45) hx hb d_MM_hang_110 (by decide) ?_
                        exact ih_hL4 mo (b + 1) g Mq _ _ _ hmo (by omega) hH hNo (fun z b0 h1 h2 h3 => by by_cases q : b0 = b; rw [q] at h3 ⊢; omega; exact hN z b0 h1 (by omega) h3) hW (by omega) hfr h_o h_lb h_pi hw (lv_sub hl [1, 2, 3, 0] rfl)
                      · have hst := zHs_step hH (a := a) (b := b) ⟨by omega, by omega⟩ ⟨by omega, by omega⟩ (by omega) (by omega)
                        refine lv_aload_n hx hb d_MM_hang_89 rfl (lv_at hl 0 rfl) ?_
                        refine zq_get hx hb hts i_MM hown hK hw h_o rfl 16 (by decide) (hts _ tw_602) rfl d_MM_hang_90 ?_
                        refine lv_iload_n hx hb d_MM_hang_93 rfl (lv_at hl 3 rfl) ?_
                        refine lv_iconst (v := iI 4) hx hb d_MM_hang_94 rfl ?_
                        refine zq_idiv hx hb (by omega) ⟨by omega, by omega⟩ (by decide) (by decide) d_MM_hang_95 ?_
                        refine lv_aload_n hx hb d_MM_hang_96 rfl (lv_at hl 0 rfl) ?_
                        refine zq_get hx hb hts i_MM hown hK hw h_o rfl 16 (by decide) (hts _ tw_602) rfl d_MM_hang_97 ?_
                        refine lv_iload_n hx hb d_MM_hang_100 rfl (lv_at hl 2 rfl) ?_
                        refine lv_iconst (v := iI 4) hx hb d_MM_hang_101 rfl ?_
                        refine zq_idiv hx hb (by omega) ⟨by omega, by omega⟩ (by decide) (by decide) d_MM_hang_102 ?_
                        refine zq_iald hx hb hK hw 0 h_pi rfl (by omega) (by omega) (by decide) d_MM_hang_103 ?_
                        refine zq_iast hx hb hK hw 0 h_pi rfl (by omega) (by omega) (by decide) d_MM_hang_104 (fun M6 H locs hs ho hw => ?_)
                        have h_o : M6 o = some (.inr (9, [.int (iI th), .int (iI put), .int (iI wr), .ref (bd 0), .ref (bd 1), .int (iI nn), .int (iI cir), .int (iI oN), .int (iI oC), .ref (bd 2), .ref (bd 3), .ref (bd 4), .ref (bd 5), .int (iI lbs), .ref (bd 6), .ref (bd 7), .ref (bd 8), .int (iI fcs), .ref (bd 9), .int (iI arcs), .ref (bd 10), .ref (bd 11), .ref (bd 12), .ref (bd 13), .int (iI mns), .ref (bd 14), .ref (bd 15), .ref (bd 16), .int (iI kn), .ref (bd 17)])) := (ho _ (zq_ne h_o h_pi (by simp))).trans h_o
                        have h_lb : M6 (bd 3) = some (cI (K 0) 48 lb) := (ho _ (zbd hbd 3 8)).trans h_lb
                        have h_pi : M6 (bd 8) = some (cI (K 0) 12 (zu g (b / 4) (g (a / 4)))) := hs
                        have hfr : ∀ q, q ≠ (bd 8) → M6 q = M q := fun q g0 => (ho q g0).trans (hfr q g0)
                        refine lv_iconst (v := iI 1) hx hb d_MM_hang_105 rfl ?_
                        refine lv_istore_n (lv' := [(1, .int (iI 1)), (0, .ref o), (2, .int (iI a)), (3, .int (iI b))]) hx hb d_MM_hang_106 rfl hl (by decide) rfl (fun ls hl => ?_)
                        refine lv_iinc (v := iI (b + 1)) (lv' := [(3, .int (iI (b + 1))), (1, .int (iI 1)), (0, .ref o), (2, .int (iI a))]) hx hb d_MM_hang_107 hl (k := 3) rfl (iI_add _ _) (by decide) rfl (fun ls hl => ?_)
                        refine lv_goto (tgt := 45) hx hb d_MM_hang_110 (by decide) ?_
                        exact ih_hL4 1 (b + 1) (zu g (b / 4) (g (a / 4))) M6 _ _ _ (Or.inr rfl) (by omega) hst.1 (fun z => absurd z (by decide)) (fun z => absurd z (by decide)) (by have := hst.2; omega) (by omega) hfr h_o h_lb h_pi hw (lv_sub hl [2, 1, 3, 0] rfl)
              refine lv_iconst (v := iI 0) hx hb d_MM_hang_43 rfl ?_
              refine lv_istore_n (lv' := [(3, .int (iI 0)), (0, .ref o), (1, .int (iI mo)), (2, .int (iI a))]) hx hb d_MM_hang_44 rfl hl (by decide) rfl (fun ls hl => ?_)
              exact hL4 _ mo 0 g Mq _ _ _ hmo ⟨by omega, by omega⟩ hH hN (fun _ b0 h1 h2 => by omega) hW (Nat.lt_succ_self _) hfr h_o h_lb h_pi hw (lv_sub hl [1, 2, 3, 0] rfl)
        refine lv_iconst (v := iI 0) hx hb d_MM_hang_29 rfl ?_
        refine lv_istore_n (lv' := [(1, .int (iI 0)), (0, .ref o)]) hx hb d_MM_hang_30 rfl hl (by decide) rfl (fun ls hl => ?_)
        refine lv_iconst (v := iI 0) hx hb d_MM_hang_31 rfl ?_
        refine lv_istore_n (lv' := [(2, .int (iI 0)), (1, .int (iI 0)), (0, .ref o)]) hx hb d_MM_hang_32 rfl hl (by decide) rfl (fun ls hl => ?_)
        exact hL3 _ 0 0 g0 Mq _ _ _ (Or.inl rfl) ⟨by omega, by omega⟩ hH0 (fun _ a0 h1 h2 => by omega) (by omega) (Nat.lt_succ_self _) hfr h_o h_lb h_pi hw (lv_sub hl [2, 1, 0] rfl)
  have hL1 : ∀ (n : Nat) (i : Int) (g : Int → Int) (Mq : zq_M) (H : Heap) (locs : List Loc) (ls : Array Slot), (0 ≤ i ∧ i ≤ nn) → (∀ z, g z = if 0 ≤ z ∧ z < i then z else pi z) → (nn - i).toNat < n → (∀ q, q ≠ (bd 8) → Mq q = M q) → Mq o = some (.inr (9, [.int (iI th), .int (iI put), .int (iI wr), .ref (bd 0), .ref (bd 1), .int (iI nn), .int (iI cir), .int (iI oN), .int (iI oC), .ref (bd 2), .ref (bd 3), .ref (bd 4), .ref (bd 5), .int (iI lbs), .ref (bd 6), .ref (bd 7), .ref (bd 8), .int (iI fcs), .ref (bd 9), .int (iI arcs), .ref (bd 10), .ref (bd 11), .ref (bd 12), .ref (bd 13), .int (iI mns), .ref (bd 14), .ref (bd 15), .ref (bd 16), .int (iI kn), .ref (bd 17)])) → Mq (bd 3) = some (cI (K 0) 48 lb) → Mq (bd 8) = some (cI (K 0) 12 g) → zq_W D vwCl A s.heap Mq H locs → lv_has ls 4 [(0, .ref o), (1, .int (iI i))] → W p l e ({ frames := 0, cells := 0, slots := 0, locals := 0 } : Room) s m [.ref o].toArray below meth co H locs 0 0 (MQ below (zq_Q D vwCl (zT K) (P_MM_hang K M o bd th put wr nn cir oN oC lbs fcs arcs mns kn lb pi) A) [.ref o].toArray s 0 0 A) (F0 m 2 ls []) := by
    intro n
    induction n with
    | zero =>
      intro i g Mq H locs ls hi hg hms hfr h_o h_lb h_pi hw hl
      exact absurd hms (Nat.not_lt_zero _)
    | succ n ih_hL1 =>
      intro i g Mq H locs ls hi hg hms hfr h_o h_lb h_pi hw hl
      refine lv_iload_n hx hb d_MM_hang_2 rfl (lv_at hl 1 rfl) ?_
      refine lv_aload_n hx hb d_MM_hang_3 rfl (lv_at hl 0 rfl) ?_
      refine zq_get hx hb hts i_MM hown hK hw h_o rfl 5 (by decide) (hts _ tw_591) rfl d_MM_hang_4 ?_
      refine zq_icmp_ge (tgt := 23) hx hb d_MM_hang_7 (by decide) ⟨by omega, by omega⟩ ⟨by omega, by omega⟩ (fun hc7 => ?_) (fun hc7 => ?_)
      · refine lv_iconst (v := iI 1) hx hb d_MM_hang_23 rfl ?_
        refine lv_istore_n (lv' := [(1, .int (iI 1)), (0, .ref o)]) hx hb d_MM_hang_24 rfl hl (by decide) rfl (fun ls hl => ?_)
        exact hL2 _ 1 g Mq _ _ _ (Or.inr rfl) (zHs_id (fun k h1 h2 => by rw [hg, if_pos ⟨h1, by omega⟩])) (fun z => absurd z (by decide)) (Nat.lt_succ_self _) hfr h_o h_lb h_pi hw (lv_sub hl [1, 0] rfl)
      · refine lv_aload_n hx hb d_MM_hang_10 rfl (lv_at hl 0 rfl) ?_
        refine zq_get hx hb hts i_MM hown hK hw h_o rfl 16 (by decide) (hts _ tw_602) rfl d_MM_hang_11 ?_
        refine lv_iload_n hx hb d_MM_hang_14 rfl (lv_at hl 1 rfl) ?_
        refine lv_iload_n hx hb d_MM_hang_15 rfl (lv_at hl 1 rfl) ?_
        refine zq_iast hx hb hK hw 0 h_pi rfl (by omega) (by omega) (by decide) d_MM_hang_16 (fun M8 H locs hs ho hw => ?_)
        have h_o : M8 o = some (.inr (9, [.int (iI th), .int (iI put), .int (iI wr), .ref (bd 0), .ref (bd 1), .int (iI nn), .int (iI cir), .int (iI oN), .int (iI oC), .ref (bd 2), .ref (bd 3), .ref (bd 4), .ref (bd 5), .int (iI lbs), .ref (bd 6), .ref (bd 7), .ref (bd 8), .int (iI fcs), .ref (bd 9), .int (iI arcs), .ref (bd 10), .ref (bd 11), .ref (bd 12), .ref (bd 13), .int (iI mns), .ref (bd 14), .ref (bd 15), .ref (bd 16), .int (iI kn), .ref (bd 17)])) := (ho _ (zq_ne h_o h_pi (by simp))).trans h_o
        have h_lb : M8 (bd 3) = some (cI (K 0) 48 lb) := (ho _ (zbd hbd 3 8)).trans h_lb
        have h_pi : M8 (bd 8) = some (cI (K 0) 12 (zu g i i)) := hs
        have hfr : ∀ q, q ≠ (bd 8) → M8 q = M q := fun q g0 => (ho q g0).trans (hfr q g0)
        refine lv_iinc (v := iI (i + 1)) (lv' := [(1, .int (iI (i + 1))), (0, .ref o)]) hx hb d_MM_hang_17 hl (k := 1) rfl (iI_add _ _) (by decide) rfl (fun ls hl => ?_)
        refine lv_goto (tgt := 2) hx hb d_MM_hang_20 (by decide) ?_
        exact ih_hL1 (i + 1) (zu g i i) M8 _ _ _ (by omega) (zup_id hg hi.1) (by omega) hfr h_o h_lb h_pi hw (lv_sub hl [1, 0] rfl)
  refine lv_iconst (v := iI 0) hx hb d_MM_hang_0 rfl ?_
  refine lv_istore_n (lv' := [(1, .int (iI 0)), (0, .ref o)]) hx hb d_MM_hang_1 rfl hl (by decide) rfl (fun ls hl => ?_)
  exact hL1 _ 0 pi M _ _ _ ⟨by omega, by omega⟩ (fun z => (if_neg (by omega)).symm) (Nat.lt_succ_self _) hfr h_o h_lb h_pi hw (lv_sub hl [1, 0] rfl)
abbrev P_MM_findFaces (K : Nat → ClassId) (M : zq_M) (o : Nat) (bd : Nat → Nat) (th : Int) (put : Int) (wr : Int) (nn : Int) (cir : Int) (oN : Int) (oC : Int) (lbs : Int) (fcs : Int) (arcs : Int) (mns : Int) (kn : Int) (sg : Int → Int) (lb : Int → Int) (rw : Int → Int) (fo : Int → Int) : Option Value → zq_M → Prop := fun v M' => v = none ∧ ∃ (c' : Int) (f' ix dv ta fo' : Int → Int) (F' : Int), zLs lb (4 * nn) f' c' ∧ zIx sg lb (4 * nn) f' c' ix dv ta ∧ zFo (4 * nn) c' ix ta fo' F' (2 * c') ∧ M' o = some (.inr (9, [.int (iI th), .int (iI put), .int (iI wr), .ref (bd 0), .ref (bd 1), .int (iI nn), .int (iI cir), .int (iI oN), .int (iI oC), .ref (bd 2), .ref (bd 3), .ref (bd 4), .ref (bd 5), .int (iI c'), .ref (bd 6), .ref (bd 7), .ref (bd 8), .int (iI F'), .ref (bd 9), .int (iI arcs), .ref (bd 10), .ref (bd 11), .ref (bd 12), .ref (bd 13), .int (iI mns), .ref (bd 14), .ref (bd 15), .ref (bd 16), .int (iI kn), .ref (bd 17)])) ∧ M' (bd 6) = some (cI (K 0) 48 f') ∧ M' (bd 9) = some (cI (K 0) 48 fo') ∧ ∀ q, q ≠ o → q ≠ (bd 6) → q ≠ (bd 9) → M' q = M q
set_option maxHeartbeats 4000000 in
set_option maxRecDepth 100000 in
theorem c_MM_findFaces (l : Launch) (D : va_G) (K : Nat → ClassId) (M : zq_M) (o : Nat) (bd : Nat → Nat) (th : Int) (put : Int) (wr : Int) (nn : Int) (cir : Int) (oN : Int) (oC : Int) (lbs : Int) (fcs : Int) (arcs : Int) (mns : Int) (kn : Int) (sg : Int → Int) (lb : Int → Int) (rw : Int → Int) (fo : Int → Int) (h_o : M o = some (.inr (9, [.int (iI th), .int (iI put), .int (iI wr), .ref (bd 0), .ref (bd 1), .int (iI nn), .int (iI cir), .int (iI oN), .int (iI oC), .ref (bd 2), .ref (bd 3), .ref (bd 4), .ref (bd 5), .int (iI lbs), .ref (bd 6), .ref (bd 7), .ref (bd 8), .int (iI fcs), .ref (bd 9), .int (iI arcs), .ref (bd 10), .ref (bd 11), .ref (bd 12), .ref (bd 13), .int (iI mns), .ref (bd 14), .ref (bd 15), .ref (bd 16), .int (iI kn), .ref (bd 17)]))) (hbd : ∀ i j, i < 18 → j < 18 → bd i = bd j → i = j) (h_sg : M (bd 2) = some (cI (K 0) 12 sg)) (h_lb : M (bd 3) = some (cI (K 0) 48 lb)) (h_rw : M (bd 6) = some (cI (K 0) 48 rw)) (h_fo : M (bd 9) = some (cI (K 0) 48 fo)) (hsg : ∀ j, inI (sg j)) (hlb : ∀ j, inI (lb j)) (hnn : 0 ≤ nn ∧ nn ≤ 12) (hrw : ∀ j, inI (rw j)) (hfo : ∀ j, inI (fo j)) (hgd : zGd sg lb (4 * nn)) (hlp : ∀ z, 0 ≤ z → z < 4 * nn → 1 ≤ lb z ∧ lb z ≤ 9999) : zq_Met l y_MM_findFaces (.code y_MM_findFaces b_MM_findFaces 4 none :: lw_gd) { frames := 3, cells := 0, slots := 0, locals := 69 } D vwCl (zT K) [.ref o] M (P_MM_findFaces K M o bd th put wr nn cir oN oC lbs fcs arcs mns kn sg lb rw fo) 0 0 := by
  refine zq_start (cc := b_MM_findFaces) (maxL := 4) (ret := none) (by decide) rfl (Nat.le_of_ble_eq_true rfl) ?_
  intro p e s m below meth co A ls hx hb hr hml hts hown hnm hlocks hA hZ hw hl
  have hts : ∀ w ∈ lw_gd, w.before [.ref o].toArray s = true := fun w h => hts w (List.mem_cons_of_mem _ h)
  have hown : s.vm.findClass R_MM = some m.cls := hown
  have hK := hZ.1
  have hl : lv_has ls 4 [(0, .ref o)] := hl
  have hfr : ∀ q, q ≠ o → q ≠ (bd 6) → q ≠ (bd 9) → M q = M q := fun q _ _ _ => rfl
  refine lv_aload_n hx hb d_MM_findFaces_0 rfl (lv_at hl 0 rfl) ?_
  refine zq_callV (As := []) (rest := []) ⟨hx, hb, hml, hown, hts⟩ (c_MM_sort l D K M o bd th put wr nn cir oN oC lbs fcs arcs mns kn lb rw   h_o hbd h_lb h_rw hlb hnn hrw) (cwV 0 hts (zg_V tw_697 tw_699 ts_29 tw_10 tw_700) rfl rfl rfl (by decide +kernel) ⟨Nat.le_of_ble_eq_true rfl, Nat.le_of_ble_eq_true rfl⟩) hZ hw hA h_o rfl rfl rfl rfl hl.1 (Nat.le_of_ble_eq_true rfl) d_MM_findFaces_1 ⟨Nat.le_of_ble_eq_true rfl, Nat.le_of_ble_eq_true rfl⟩ (fun v M1 H locs hp hw => ?_)
  obtain ⟨rfl, cS, fS, hLs, hs1, hs2, ho⟩ := hp
  have h_sg : M1 (bd 2) = some (cI (K 0) 12 sg) := (ho _ (zq_ne h_sg h_o (by simp)) (zbd hbd 2 6)).trans h_sg
  have h_lb : M1 (bd 3) = some (cI (K 0) 48 lb) := (ho _ (zq_ne h_lb h_o (by simp)) (zbd hbd 3 6)).trans h_lb
  have h_fo : M1 (bd 9) = some (cI (K 0) 48 fo) := (ho _ (zq_ne h_fo h_o (by simp)) (Ne.symm (zbd hbd 6 9))).trans h_fo
  have h_o : M1 o = some (.inr (9, [.int (iI th), .int (iI put), .int (iI wr), .ref (bd 0), .ref (bd 1), .int (iI nn), .int (iI cir), .int (iI oN), .int (iI oC), .ref (bd 2), .ref (bd 3), .ref (bd 4), .ref (bd 5), .int (iI cS), .ref (bd 6), .ref (bd 7), .ref (bd 8), .int (iI fcs), .ref (bd 9), .int (iI arcs), .ref (bd 10), .ref (bd 11), .ref (bd 12), .ref (bd 13), .int (iI mns), .ref (bd 14), .ref (bd 15), .ref (bd 16), .int (iI kn), .ref (bd 17)])) := hs1
  have h_rw : M1 (bd 6) = some (cI (K 0) 48 fS) := hs2
  have hfr : ∀ q, q ≠ o → q ≠ (bd 6) → q ≠ (bd 9) → M1 q = M q := fun q g0 g1 g2 => (ho q g0 g1).trans (hfr q g0 g1 g2)
  refine W.eq (g2 := F0 m 4 ls []) rfl ?_
  have hcS := hLs.2.2
  obtain ⟨ix, dv, ta, hIx⟩ := zIx_ex (by omega) hLs hgd
  have h24 := zLs_24 hgd hnn hLs hIx
  have hL2 : ∀ (n : Nat) (j : Int) (F : Int) (g : Int → Int) (Mq : zq_M) (H : Heap) (locs : List Loc) (ls : Array Slot), (0 ≤ j ∧ j ≤ 2 * cS) → (zFo (4 * nn) cS ix ta g F j) → (2 * cS - j).toNat < n → (∀ q, q ≠ o → q ≠ (bd 6) → q ≠ (bd 9) → Mq q = M q) → Mq o = some (.inr (9, [.int (iI th), .int (iI put), .int (iI wr), .ref (bd 0), .ref (bd 1), .int (iI nn), .int (iI cir), .int (iI oN), .int (iI oC), .ref (bd 2), .ref (bd 3), .ref (bd 4), .ref (bd 5), .int (iI cS), .ref (bd 6), .ref (bd 7), .ref (bd 8), .int (iI F), .ref (bd 9), .int (iI arcs), .ref (bd 10), .ref (bd 11), .ref (bd 12), .ref (bd 13), .int (iI mns), .ref (bd 14), .ref (bd 15), .ref (bd 16), .int (iI kn), .ref (bd 17)])) → Mq (bd 2) = some (cI (K 0) 12 sg) → Mq (bd 3) = some (cI (K 0) 48 lb) → Mq (bd 6) = some (cI (K 0) 48 fS) → Mq (bd 9) = some (cI (K 0) 48 g) → zq_W D vwCl A s.heap Mq H locs → lv_has ls 4 [(0, .ref o), (1, .int (iI j))] → W p l e ({ frames := 3, cells := 0, slots := 0, locals := 69 } : Room) s m [.ref o].toArray below meth co H locs 0 0 (MQ below (zq_Q D vwCl (zT K) (P_MM_findFaces K M o bd th put wr nn cir oN oC lbs fcs arcs mns kn sg lb rw fo) A) [.ref o].toArray s 0 0 A) (F0 m 32 ls []) := by
    intro n
    induction n with
    | zero =>
      intro j F g Mq H locs ls hj hFo hms hfr h_o h_sg h_lb h_rw h_fo hw hl
      exact absurd hms (Nat.not_lt_zero _)
    | succ n ih_hL2 =>
      intro j F g Mq H locs ls hj hFo hms hfr h_o h_sg h_lb h_rw h_fo hw hl
      refine lv_iload_n hx hb d_MM_findFaces_32 rfl (lv_at hl 1 rfl) ?_
      refine lv_iconst (v := iI 2) hx hb d_MM_findFaces_33 rfl ?_
      refine lv_aload_n hx hb d_MM_findFaces_34 rfl (lv_at hl 0 rfl) ?_
      refine zq_get hx hb hts i_MM hown hK hw h_o rfl 13 (by decide) (hts _ tw_599) rfl d_MM_findFaces_35 ?_
      refine zq_imul hx hb d_MM_findFaces_38 ?_
      refine zq_icmp_ge (tgt := 152) hx hb d_MM_findFaces_39 (by decide) ⟨by omega, by omega⟩ ⟨by omega, by omega⟩ (fun hc2 => ?_) (fun hc2 => ?_)
      · exact zq_vret hx hb hr hlocks hZ hw ⟨rfl, cS, fS, ix, dv, ta, g, F, hLs, hIx, (by rw [show 2 * cS = j by omega]; exact hFo), h_o, h_rw, h_fo, hfr⟩ d_MM_findFaces_152
      · have hL3 : ∀ (n : Nat) (d0 : Int) (z : Int) (pv : Int) (iz : Int) (g2 : Int → Int) (Mq : zq_M) (H : Heap) (locs : List Loc) (ls : Array Slot), (d0 = 2 * lb z + zki sg z) → (0 ≤ z ∧ z < 4 * nn) → ((iz = 0 ∧ 0 ≤ g2 j ∧ zFo (4 * nn) cS ix ta g2 F j) ∨ (iz = 1 ∧ zWs (4 * nn) cS ix ta g2 F j (dv j) z pv)) → (znf g2).toNat < n → (∀ q, q ≠ o → q ≠ (bd 6) → q ≠ (bd 9) → Mq q = M q) → Mq o = some (.inr (9, [.int (iI th), .int (iI put), .int (iI wr), .ref (bd 0), .ref (bd 1), .int (iI nn), .int (iI cir), .int (iI oN), .int (iI oC), .ref (bd 2), .ref (bd 3), .ref (bd 4), .ref (bd 5), .int (iI cS), .ref (bd 6), .ref (bd 7), .ref (bd 8), .int (iI F), .ref (bd 9), .int (iI arcs), .ref (bd 10), .ref (bd 11), .ref (bd 12), .ref (bd 13), .int (iI mns), .ref (bd 14), .ref (bd 15), .ref (bd 16), .int (iI kn), .ref (bd 17)])) → Mq (bd 2) = some (cI (K 0) 12 sg) → Mq (bd 3) = some (cI (K 0) 48 lb) → Mq (bd 6) = some (cI (K 0) 48 fS) → Mq (bd 9) = some (cI (K 0) 48 g2) → zq_W D vwCl A s.heap Mq H locs → lv_has ls 4 [(0, .ref o), (1, .int (iI j)), (2, .int (iI d0)), (3, .int (iI iz))] → W p l e ({ frames := 3, cells := 0, slots := 0, locals := 69 } : Room) s m [.ref o].toArray below meth co H locs 0 0 (MQ below (zq_Q D vwCl (zT K) (P_MM_findFaces K M o bd th put wr nn cir oN oC lbs fcs arcs mns kn sg lb rw fo) A) [.ref o].toArray s 0 0 A) (F0 m 72 ls []) := by
          intro n
          induction n with
          | zero =>
            intro d0 z pv iz g2 Mq H locs ls hd hz hI hms hfr h_o h_sg h_lb h_rw h_fo hw hl
            exact absurd hms (Nat.not_lt_zero _)
          | succ n ih_hL3 =>
            intro d0 z pv iz g2 Mq H locs ls hd hz hI hms hfr h_o h_sg h_lb h_rw h_fo hw hl
            refine lv_iload_n hx hb d_MM_findFaces_72 rfl (lv_at hl 3 rfl) ?_
            refine zq_if_eq (tgt := 128) hx hb d_MM_findFaces_73 (by decide) ⟨by omega, by omega⟩ (fun hc3 => ?_) (fun hc3 => ?_)
            · have hFn0 := zFo_skip (hI.resolve_right (fun q => by omega)).2.2 (hI.resolve_right (fun q => by omega)).2.1
              refine lv_aload_n hx hb d_MM_findFaces_128 rfl (lv_at hl 0 rfl) ?_
              refine lv_dup hx hb d_MM_findFaces_129 rfl ?_
              refine zq_get hx hb hts i_MM hown hK hw h_o rfl 17 (by decide) (hts _ tw_603) rfl d_MM_findFaces_130 ?_
              refine lv_iload_n hx hb d_MM_findFaces_133 rfl (lv_at hl 3 rfl) ?_
              refine zq_if_eq (tgt := 141) hx hb d_MM_findFaces_134 (by decide) ⟨by omega, by omega⟩ (fun hc4 => ?_) (fun hc4 => ?_)
              · refine lv_iconst (v := iI 0) hx hb d_MM_findFaces_141 rfl ?_
                refine zq_iadd hx hb d_MM_findFaces_142 ?_
                rw [show F + 0 = (F : Int) from by omega]
                refine zq_put (ci := 9) (v := .int (iI F)) (ty := .int) hx hb hts i_MM t_MM t_MM_ok n_MM hown hK hw h_o rfl 17 (by decide) (hts _ tw_603) rfl (by decide +kernel) rfl rfl (Nat.le_of_ble_eq_true rfl) d_MM_findFaces_143 (fun M5 H locs hs ho hw => ?_)
                have h_sg : M5 (bd 2) = some (cI (K 0) 12 sg) := (ho _ (zq_ne h_sg h_o (by simp))).trans h_sg
                have h_lb : M5 (bd 3) = some (cI (K 0) 48 lb) := (ho _ (zq_ne h_lb h_o (by simp))).trans h_lb
                have h_rw : M5 (bd 6) = some (cI (K 0) 48 fS) := (ho _ (zq_ne h_rw h_o (by simp))).trans h_rw
                have h_fo : M5 (bd 9) = some (cI (K 0) 48 g2) := (ho _ (zq_ne h_fo h_o (by simp))).trans h_fo
                have h_o : M5 o = some (.inr (9, [.int (iI th), .int (iI put), .int (iI wr), .ref (bd 0), .ref (bd 1), .int (iI nn), .int (iI cir), .int (iI oN), .int (iI oC), .ref (bd 2), .ref (bd 3), .ref (bd 4), .ref (bd 5), .int (iI cS), .ref (bd 6), .ref (bd 7), .ref (bd 8), .int (iI F), .ref (bd 9), .int (iI arcs), .ref (bd 10), .ref (bd 11), .ref (bd 12), .ref (bd 13), .int (iI mns), .ref (bd 14), .ref (bd 15), .ref (bd 16), .int (iI kn), .ref (bd 17)])) := hs
                have hfr : ∀ q, q ≠ o → q ≠ (bd 6) → q ≠ (bd 9) → M5 q = M q := fun q g0 g1 g2 => (ho q g0).trans (hfr q g0 g1 g2)
                refine lv_iinc (v := iI (j + 1)) (lv' := [(1, .int (iI (j + 1))), (0, .ref o), (2, .int (iI d0)), (3, .int (iI iz))]) hx hb d_MM_findFaces_146 hl (k := 1) rfl (iI_add _ _) (by decide) rfl (fun ls hl => ?_)
                refine lv_goto (tgt := 32) hx hb d_MM_findFaces_149 (by decide) ?_
                exact ih_hL2 (j + 1) F g2 M5 _ _ _ (by omega) (by first | exact hFn0 | (exfalso; omega)) (by omega) hfr h_o h_sg h_lb h_rw h_fo hw (lv_sub hl [1, 0] rfl)
              · refine lv_iconst (v := iI 1) hx hb d_MM_findFaces_137 rfl ?_
                refine lv_goto (tgt := 142) hx hb d_MM_findFaces_138 (by decide) ?_
                refine zq_iadd hx hb d_MM_findFaces_142 ?_
                refine zq_put (ci := 9) (v := .int (iI (F + 1))) (ty := .int) hx hb hts i_MM t_MM t_MM_ok n_MM hown hK hw h_o rfl 17 (by decide) (hts _ tw_603) rfl (by decide +kernel) rfl rfl (Nat.le_of_ble_eq_true rfl) d_MM_findFaces_143 (fun M6 H locs hs ho hw => ?_)
                have h_sg : M6 (bd 2) = some (cI (K 0) 12 sg) := (ho _ (zq_ne h_sg h_o (by simp))).trans h_sg
                have h_lb : M6 (bd 3) = some (cI (K 0) 48 lb) := (ho _ (zq_ne h_lb h_o (by simp))).trans h_lb
                have h_rw : M6 (bd 6) = some (cI (K 0) 48 fS) := (ho _ (zq_ne h_rw h_o (by simp))).trans h_rw
                have h_fo : M6 (bd 9) = some (cI (K 0) 48 g2) := (ho _ (zq_ne h_fo h_o (by simp))).trans h_fo
                have h_o : M6 o = some (.inr (9, [.int (iI th), .int (iI put), .int (iI wr), .ref (bd 0), .ref (bd 1), .int (iI nn), .int (iI cir), .int (iI oN), .int (iI oC), .ref (bd 2), .ref (bd 3), .ref (bd 4), .ref (bd 5), .int (iI cS), .ref (bd 6), .ref (bd 7), .ref (bd 8), .int (iI (F + 1)), .ref (bd 9), .int (iI arcs), .ref (bd 10), .ref (bd 11), .ref (bd 12), .ref (bd 13), .int (iI mns), .ref (bd 14), .ref (bd 15), .ref (bd 16), .int (iI kn), .ref (bd 17)])) := hs
                have hfr : ∀ q, q ≠ o → q ≠ (bd 6) → q ≠ (bd 9) → M6 q = M q := fun q g0 g1 g2 => (ho q g0).trans (hfr q g0 g1 g2)
                refine lv_iinc (v := iI (j + 1)) (lv' := [(1, .int (iI (j + 1))), (0, .ref o), (2, .int (iI d0)), (3, .int (iI iz))]) hx hb d_MM_findFaces_146 hl (k := 1) rfl (iI_add _ _) (by decide) rfl (fun ls hl => ?_)
                refine lv_goto (tgt := 32) hx hb d_MM_findFaces_149 (by decide) ?_
                exact ih_hL2 (j + 1) (F + 1) g2 M6 _ _ _ (by omega) (by first | exact hFn1 | (exfalso; omega)) (by omega) hfr h_o h_sg h_lb h_rw h_fo hw (lv_sub hl [1, 0] rfl)
            · have hk := zki_or sg z
              have hlz := hlp z hz.1 hz.2
              have hxz := (hIx.1 z hz.1 hz.2).1
              refine lv_aload_n hx hb d_MM_findFaces_76 rfl (lv_at hl 0 rfl) ?_
              refine zq_get hx hb hts i_MM hown hK hw h_o rfl 18 (by decide) (hts _ tw_604) rfl d_MM_findFaces_77 ?_
              refine lv_iconst (v := iI 2) hx hb d_MM_findFaces_80 rfl ?_
              refine lv_aload_n hx hb d_MM_findFaces_81 rfl (lv_at hl 0 rfl) ?_
              refine lv_iload_n hx hb d_MM_findFaces_82 rfl (lv_at hl 2 rfl) ?_
              refine lv_iconst (v := iI 2) hx hb d_MM_findFaces_83 rfl ?_
              refine zq_idiv hx hb (by omega) ⟨by omega, by omega⟩ (by decide) (by decide) d_MM_findFaces_84 ?_
              refine zq_callV (As := [.int (iI (d0 / 2))]) (rest := [.int (iI 2), .ref (bd 9)]) ⟨hx, hb, hml, hown, hts⟩ (c_MM_rowOf l D K Mq o bd th put wr nn cir oN oC cS F arcs mns kn fS  (d0 / 2) h_o hbd h_rw hLs.2.2.2.2 ⟨by omega, by omega⟩ ⟨ix z / 2, by omega, by omega, by rw [(hIx.1 z hz.1 hz.2).2.1]; omega⟩) (cwV 1 hts (zg_V tw_721 tw_723 ts_35 tw_10 tw_724) rfl rfl rfl (by decide +kernel) ⟨Nat.le_of_ble_eq_true rfl, Nat.le_of_ble_eq_true rfl⟩) hZ hw hA h_o rfl rfl rfl rfl hl.1 (Nat.le_of_ble_eq_true rfl) d_MM_findFaces_85 ⟨Nat.le_of_ble_eq_true rfl, Nat.le_of_ble_eq_true rfl⟩ (fun v M8 H locs hp hw => ?_)
              obtain ⟨rr7, rfl, hQrr7, hErr7, hFrr7, hMe⟩ := hp
              rw [hMe] at hw
              refine W.eq (g2 := F0 m 88 ls [.int (iI rr7), .int (iI 2), .ref (bd 9)]) rfl ?_
              refine zq_imul hx hb d_MM_findFaces_88 ?_
              refine lv_iload_n hx hb d_MM_findFaces_89 rfl (lv_at hl 2 rfl) ?_
              refine lv_iconst (v := iI 2) hx hb d_MM_findFaces_90 rfl ?_
              refine zq_irem hx hb (by omega) ⟨by omega, by omega⟩ (by decide) (by decide) d_MM_findFaces_91 ?_
              refine zq_iadd hx hb d_MM_findFaces_92 ?_
              have hrr7x : 2 * rr7 + d0 % 2 = ix z := by have hk := zki_or sg z; have hx := hIx.1 z hz.1 hz.2; have e1 : rr7 = ix z / 2 := (by have e2 : rr7 ≤ ix z / 2 := (Int.not_lt.mp fun q => hFrr7 (ix z / 2) (by omega) q (by rw [hx.2.1]; omega)); exact zSr_inj hLs.1 ⟨by omega, by omega⟩ ⟨by omega, by omega⟩ (by rw [hErr7, hx.2.1]; omega)); omega
              rw [hrr7x]
              refine zq_iald hx hb hK hw 0 h_fo rfl (by omega) (by omega) (by decide) d_MM_findFaces_93 ?_
              refine zq_if_ge (tgt := 128) hx hb d_MM_findFaces_94 (by decide) (by rcases hI with q | q; exact q.2.2.2.2.2.2.2.2.2.2 _; exact q.2.2.2.2.2.2.2.2.2.2.2.2.2.2.2.2 _) (fun hc9 => ?_) (fun hc9 => ?_)
              · have hFn1 := zWs_end hIx (hI.resolve_left (fun q => by omega)).2 (by omega)
                refine lv_aload_n hx hb d_MM_findFaces_128 rfl (lv_at hl 0 rfl) ?_
                refine lv_dup hx hb d_MM_findFaces_129 rfl ?_
                refine zq_get hx hb hts i_MM hown hK hw h_o rfl 17 (by decide) (hts _ tw_603) rfl d_MM_findFaces_130 ?_
                refine lv_iload_n hx hb d_MM_findFaces_133 rfl (lv_at hl 3 rfl) ?_
                refine zq_if_eq (tgt := 141) hx hb d_MM_findFaces_134 (by decide) ⟨by omega, by omega⟩ (fun hc10 => ?_) (fun hc10 => ?_)
                · refine lv_iconst (v := iI 0) hx hb d_MM_findFaces_141 rfl ?_
                  refine zq_iadd hx hb d_MM_findFaces_142 ?_
                  rw [show F + 0 = (F : Int) from by omega]
                  refine zq_put (ci := 9) (v := .int (iI F)) (ty := .int) hx hb hts i_MM t_MM t_MM_ok n_MM hown hK hw h_o rfl 17 (by decide) (hts _ tw_603) rfl (by decide +kernel) rfl rfl (Nat.le_of_ble_eq_true rfl) d_MM_findFaces_143 (fun M11 H locs hs ho hw => ?_)
                  have h_sg : M11 (bd 2) = some (cI (K 0) 12 sg) := (ho _ (zq_ne h_sg h_o (by simp))).trans h_sg
                  have h_lb : M11 (bd 3) = some (cI (K 0) 48 lb) := (ho _ (zq_ne h_lb h_o (by simp))).trans h_lb
                  have h_rw : M11 (bd 6) = some (cI (K 0) 48 fS) := (ho _ (zq_ne h_rw h_o (by simp))).trans h_rw
                  have h_fo : M11 (bd 9) = some (cI (K 0) 48 g2) := (ho _ (zq_ne h_fo h_o (by simp))).trans h_fo
                  have h_o : M11 o = some (.inr (9, [.int (iI th), .int (iI put), .int (iI wr), .ref (bd 0), .ref (bd 1), .int (iI nn), .int (iI cir), .int (iI oN), .int (iI oC), .ref (bd 2), .ref (bd 3), .ref (bd 4), .ref (bd 5), .int (iI cS), .ref (bd 6), .ref (bd 7), .ref (bd 8), .int (iI F), .ref (bd 9), .int (iI arcs), .ref (bd 10), .ref (bd 11), .ref (bd 12), .ref (bd 13), .int (iI mns), .ref (bd 14), .ref (bd 15), .ref (bd 16), .int (iI kn), .ref (bd 17)])) := hs
                  have hfr : ∀ q, q ≠ o → q ≠ (bd 6) → q ≠ (bd 9) → M11 q = M q := fun q g0 g1 g2 => (ho q g0).trans (hfr q g0 g1 g2)
                  refine lv_iinc (v := iI (j + 1)) (lv' := [(1, .int (iI (j + 1))), (0, .ref o), (2, .int (iI d0)), (3, .int (iI iz))]) hx hb d_MM_findFaces_146 hl (k := 1) rfl (iI_add _ _) (by decide) rfl (fun ls hl => ?_)
                  refine lv_goto (tgt := 32) hx hb d_MM_findFaces_149 (by decide) ?_
                  exact ih_hL2 (j + 1) F g2 M11 _ _ _ (by omega) (by first | exact hFn0 | (exfalso; omega)) (by omega) hfr h_o h_sg h_lb h_rw h_fo hw (lv_sub hl [1, 0] rfl)
                · refine lv_iconst (v := iI 1) hx hb d_MM_findFaces_137 rfl ?_
                  refine lv_goto (tgt := 142) hx hb d_MM_findFaces_138 (by decide) ?_
                  refine zq_iadd hx hb d_MM_findFaces_142 ?_
                  refine zq_put (ci := 9) (v := .int (iI (F + 1))) (ty := .int) hx hb hts i_MM t_MM t_MM_ok n_MM hown hK hw h_o rfl 17 (by decide) (hts _ tw_603) rfl (by decide +kernel) rfl rfl (Nat.le_of_ble_eq_true rfl) d_MM_findFaces_143 (fun M12 H locs hs ho hw => ?_)
                  have h_sg : M12 (bd 2) = some (cI (K 0) 12 sg) := (ho _ (zq_ne h_sg h_o (by simp))).trans h_sg
                  have h_lb : M12 (bd 3) = some (cI (K 0) 48 lb) := (ho _ (zq_ne h_lb h_o (by simp))).trans h_lb
                  have h_rw : M12 (bd 6) = some (cI (K 0) 48 fS) := (ho _ (zq_ne h_rw h_o (by simp))).trans h_rw
                  have h_fo : M12 (bd 9) = some (cI (K 0) 48 g2) := (ho _ (zq_ne h_fo h_o (by simp))).trans h_fo
                  have h_o : M12 o = some (.inr (9, [.int (iI th), .int (iI put), .int (iI wr), .ref (bd 0), .ref (bd 1), .int (iI nn), .int (iI cir), .int (iI oN), .int (iI oC), .ref (bd 2), .ref (bd 3), .ref (bd 4), .ref (bd 5), .int (iI cS), .ref (bd 6), .ref (bd 7), .ref (bd 8), .int (iI (F + 1)), .ref (bd 9), .int (iI arcs), .ref (bd 10), .ref (bd 11), .ref (bd 12), .ref (bd 13), .int (iI mns), .ref (bd 14), .ref (bd 15), .ref (bd 16), .int (iI kn), .ref (bd 17)])) := hs
                  have hfr : ∀ q, q ≠ o → q ≠ (bd 6) → q ≠ (bd 9) → M12 q = M q := fun q g0 g1 g2 => (ho q g0).trans (hfr q g0 g1 g2)
                  refine lv_iinc (v := iI (j + 1)) (lv' := [(1, .int (iI (j + 1))), (0, .ref o), (2, .int (iI d0)), (3, .int (iI iz))]) hx hb d_MM_findFaces_146 hl (k := 1) rfl (iI_add _ _) (by decide) rfl (fun ls hl => ?_)
                  refine lv_goto (tgt := 32) hx hb d_MM_findFaces_149 (by decide) ?_
                  exact ih_hL2 (j + 1) (F + 1) g2 M12 _ _ _ (by omega) (by first | exact hFn1 | (exfalso; omega)) (by omega) hfr h_o h_sg h_lb h_rw h_fo hw (lv_sub hl [1, 0] rfl)
              · refine lv_aload_n hx hb d_MM_findFaces_97 rfl (lv_at hl 0 rfl) ?_
                refine zq_get hx hb hts i_MM hown hK hw h_o rfl 18 (by decide) (hts _ tw_604) rfl d_MM_findFaces_98 ?_
                refine lv_iconst (v := iI 2) hx hb d_MM_findFaces_101 rfl ?_
                refine lv_aload_n hx hb d_MM_findFaces_102 rfl (lv_at hl 0 rfl) ?_
                refine lv_iload_n hx hb d_MM_findFaces_103 rfl (lv_at hl 2 rfl) ?_
                refine lv_iconst (v := iI 2) hx hb d_MM_findFaces_104 rfl ?_
                refine zq_idiv hx hb (by omega) ⟨by omega, by omega⟩ (by decide) (by decide) d_MM_findFaces_105 ?_
                refine zq_callV (As := [.int (iI (d0 / 2))]) (rest := [.int (iI 2), .ref (bd 9)]) ⟨hx, hb, hml, hown, hts⟩ (c_MM_rowOf l D K Mq o bd th put wr nn cir oN oC cS F arcs mns kn fS  (d0 / 2) h_o hbd h_rw hLs.2.2.2.2 ⟨by omega, by omega⟩ ⟨ix z / 2, by omega, by omega, by rw [(hIx.1 z hz.1 hz.2).2.1]; omega⟩) (cwV 1 hts (zg_V tw_721 tw_723 ts_35 tw_10 tw_724) rfl rfl rfl (by decide +kernel) ⟨Nat.le_of_ble_eq_true rfl, Nat.le_of_ble_eq_true rfl⟩) hZ hw hA h_o rfl rfl rfl rfl hl.1 (Nat.le_of_ble_eq_true rfl) d_MM_findFaces_106 ⟨Nat.le_of_ble_eq_true rfl, Nat.le_of_ble_eq_true rfl⟩ (fun v M14 H locs hp hw => ?_)
                obtain ⟨rr13, rfl, hQrr13, hErr13, hFrr13, hMe⟩ := hp
                rw [hMe] at hw
                refine W.eq (g2 := F0 m 109 ls [.int (iI rr13), .int (iI 2), .ref (bd 9)]) rfl ?_
                refine zq_imul hx hb d_MM_findFaces_109 ?_
                refine lv_iload_n hx hb d_MM_findFaces_110 rfl (lv_at hl 2 rfl) ?_
                refine lv_iconst (v := iI 2) hx hb d_MM_findFaces_111 rfl ?_
                refine zq_irem hx hb (by omega) ⟨by omega, by omega⟩ (by decide) (by decide) d_MM_findFaces_112 ?_
                refine zq_iadd hx hb d_MM_findFaces_113 ?_
                have hrr13x : 2 * rr13 + d0 % 2 = ix z := by have hk := zki_or sg z; have hx := hIx.1 z hz.1 hz.2; have e1 : rr13 = ix z / 2 := (by have e2 : rr13 ≤ ix z / 2 := (Int.not_lt.mp fun q => hFrr13 (ix z / 2) (by omega) q (by rw [hx.2.1]; omega)); exact zSr_inj hLs.1 ⟨by omega, by omega⟩ ⟨by omega, by omega⟩ (by rw [hErr13, hx.2.1]; omega)); omega
                rw [hrr13x]
                refine lv_aload_n hx hb d_MM_findFaces_114 rfl (lv_at hl 0 rfl) ?_
                refine zq_get hx hb hts i_MM hown hK hw h_o rfl 17 (by decide) (hts _ tw_603) rfl d_MM_findFaces_115 ?_
                refine zq_iast hx hb hK hw 0 h_fo rfl (by omega) (by omega) (by decide) d_MM_findFaces_118 (fun M15 H locs hs ho hw => ?_)
                have h_o : M15 o = some (.inr (9, [.int (iI th), .int (iI put), .int (iI wr), .ref (bd 0), .ref (bd 1), .int (iI nn), .int (iI cir), .int (iI oN), .int (iI oC), .ref (bd 2), .ref (bd 3), .ref (bd 4), .ref (bd 5), .int (iI cS), .ref (bd 6), .ref (bd 7), .ref (bd 8), .int (iI F), .ref (bd 9), .int (iI arcs), .ref (bd 10), .ref (bd 11), .ref (bd 12), .ref (bd 13), .int (iI mns), .ref (bd 14), .ref (bd 15), .ref (bd 16), .int (iI kn), .ref (bd 17)])) := (ho _ (zq_ne h_o h_fo (by simp))).trans h_o
                have h_sg : M15 (bd 2) = some (cI (K 0) 12 sg) := (ho _ (zbd hbd 2 9)).trans h_sg
                have h_lb : M15 (bd 3) = some (cI (K 0) 48 lb) := (ho _ (zbd hbd 3 9)).trans h_lb
                have h_rw : M15 (bd 6) = some (cI (K 0) 48 fS) := (ho _ (zbd hbd 6 9)).trans h_rw
                have h_fo : M15 (bd 9) = some (cI (K 0) 48 (zu g2 (ix z) F)) := hs
                have hfr : ∀ q, q ≠ o → q ≠ (bd 6) → q ≠ (bd 9) → M15 q = M q := fun q g0 g1 g2 => (ho q g2).trans (hfr q g0 g1 g2)
                refine lv_aload_n hx hb d_MM_findFaces_119 rfl (lv_at hl 0 rfl) ?_
                refine lv_iload_n hx hb d_MM_findFaces_120 rfl (lv_at hl 2 rfl) ?_
                refine zq_callV (As := [.int (iI d0)]) (rest := []) ⟨hx, hb, hml, hown, hts⟩ (c_MM_turn l D K M15 o bd th put wr nn cir oN oC cS F arcs mns kn sg lb  d0 h_o hbd h_sg h_lb hsg hlb hnn ⟨by omega, by omega⟩ hlp ⟨z, hz.1, hz.2, by omega, by show zki sg z = d0 % 2; omega⟩) (cwV 1 hts (zg_V tw_725 tw_727 ts_36 tw_10 tw_728) rfl rfl rfl (by decide +kernel) ⟨Nat.le_of_ble_eq_true rfl, Nat.le_of_ble_eq_true rfl⟩) hZ hw hA h_o rfl rfl rfl rfl hl.1 (Nat.le_of_ble_eq_true rfl) d_MM_findFaces_121 ⟨Nat.le_of_ble_eq_true rfl, Nat.le_of_ble_eq_true rfl⟩ (fun v M17 H locs hp hw => ?_)
                obtain ⟨rt16, rfl, hPrt16, hQrt16, hMe⟩ := hp
                rw [hMe] at hw
                refine W.eq (g2 := F0 m 124 ls [.int (iI (2 * lb (ztp rt16) + (if zoo (sg (ztp rt16 / 4)) (ztp rt16) then 0 else 1)))]) rfl ?_
                have hre : rt16 = z := zGd_pl hgd hPrt16 hz (by omega) (by omega)
                have htz := hIx.2.2.1 z hz.1 hz.2
                have hdn : 2 * lb (ztp rt16) + (if zoo (sg (ztp rt16 / 4)) (ztp rt16) then 0 else 1) = 2 * lb (ta z) + zki sg (ta z) := by rw [hre, htz.2.1]; have h1 := htz.2.2; have h2 := zki_or sg (ta z); have h3 := zki_or sg (ztp z); have h4 : (if zoo (sg (ztp z / 4)) (ztp z) then (0 : Int) else 1) = 1 - zki sg (ztp z) := (by show _ = 1 - (if zoo (sg (ztp z / 4)) (ztp z) then (1 : Int) else 0); split <;> omega); omega
                have hiz1 : iz = 1 := by omega
                have hWn := zWs_step hIx (hI.resolve_left (fun q => by omega)).2 (by omega) (by omega)
                have hzl := znf_lt (F := F) ⟨hxz.1, by omega⟩ (show g2 (ix z) < 0 by omega) (by have := (hI.resolve_left (fun q => by omega)).2.2.2.2.2.2.2.2.2.2.2.1; omega)
                refine lv_istore_n (lv' := [(2, .int (iI (2 * lb (ztp rt16) + (if zoo (sg (ztp rt16 / 4)) (ztp rt16) then 0 else 1)))), (0, .ref o), (1, .int (iI j)), (3, .int (iI iz))]) hx hb d_MM_findFaces_124 rfl hl (by decide) rfl (fun ls hl => ?_)
                refine lv_goto (tgt := 72) hx hb d_MM_findFaces_125 (by decide) ?_
                exact ih_hL3 (2 * lb (ztp rt16) + (if zoo (sg (ztp rt16 / 4)) (ztp rt16) then 0 else 1)) (ta z) z iz (zu g2 (ix z) F) M15 _ _ _ hdn (hIx.2.2.1 z hz.1 hz.2).1 (Or.inr ⟨hiz1, hWn⟩) (by have := znf_nn g2; have := znf_nn (zu g2 (ix z) F); have := hzl; omega) hfr h_o h_sg h_lb h_rw h_fo hw (lv_sub hl [1, 2, 0, 3] rfl)
        refine lv_iconst (v := iI 2) hx hb d_MM_findFaces_42 rfl ?_
        refine lv_aload_n hx hb d_MM_findFaces_43 rfl (lv_at hl 0 rfl) ?_
        refine zq_get hx hb hts i_MM hown hK hw h_o rfl 14 (by decide) (hts _ tw_600) rfl d_MM_findFaces_44 ?_
        refine lv_iload_n hx hb d_MM_findFaces_47 rfl (lv_at hl 1 rfl) ?_
        refine lv_iconst (v := iI 2) hx hb d_MM_findFaces_48 rfl ?_
        refine zq_idiv hx hb (by omega) ⟨by omega, by omega⟩ (by decide) (by decide) d_MM_findFaces_49 ?_
        refine zq_iald hx hb hK hw 0 h_rw rfl (by omega) (by omega) (by decide) d_MM_findFaces_50 ?_
        refine zq_imul hx hb d_MM_findFaces_51 ?_
        refine lv_iload_n hx hb d_MM_findFaces_52 rfl (lv_at hl 1 rfl) ?_
        refine lv_iconst (v := iI 2) hx hb d_MM_findFaces_53 rfl ?_
        refine zq_irem hx hb (by omega) ⟨by omega, by omega⟩ (by decide) (by decide) d_MM_findFaces_54 ?_
        refine zq_iadd hx hb d_MM_findFaces_55 ?_
        refine lv_istore_n (lv' := [(2, .int (iI ((2 * (fS (j / 2))) + (j % 2)))), (0, .ref o), (1, .int (iI j))]) hx hb d_MM_findFaces_56 rfl hl (by decide) rfl (fun ls hl => ?_)
        have hdv := hIx.2.1 j (by omega) (by omega)
        have hxv := hIx.1 (dv j) hdv.1.1 hdv.1.2
        have hd0 : 2 * fS (j / 2) + j % 2 = 2 * lb (dv j) + zki sg (dv j) := by rw [hdv.2] at hxv; rw [hxv.2.1, hxv.2.2.1]
        refine lv_aload_n hx hb d_MM_findFaces_57 rfl (lv_at hl 1 rfl) ?_
        refine zq_get hx hb hts i_MM hown hK hw h_o rfl 18 (by decide) (hts _ tw_604) rfl d_MM_findFaces_58 ?_
        refine lv_iload_n hx hb d_MM_findFaces_61 rfl (lv_at hl 2 rfl) ?_
        refine zq_iald hx hb hK hw 0 h_fo rfl (by omega) (by omega) (by decide) d_MM_findFaces_62 ?_
        refine zq_if_ge (tgt := 70) hx hb d_MM_findFaces_63 (by decide) (hFo.2.2.2.2.2.2.2.2 j) (fun hc18 => ?_) (fun hc18 => ?_)
        · refine lv_iconst (v := iI 0) hx hb d_MM_findFaces_70 rfl ?_
          refine lv_istore_n (lv' := [(3, .int (iI 0)), (2, .int (iI ((2 * (fS (j / 2))) + (j % 2)))), (0, .ref o), (1, .int (iI j))]) hx hb d_MM_findFaces_71 rfl hl (by decide) rfl (fun ls hl => ?_)
          exact hL3 _ ((2 * (fS (j / 2))) + (j % 2)) (dv j) 0 0 g Mq _ _ _ hd0 (hIx.2.1 j (by omega) (by omega)).1 (Or.inl ⟨rfl, by omega, hFo⟩) (Nat.lt_succ_self _) hfr h_o h_sg h_lb h_rw h_fo hw (lv_sub hl [2, 3, 1, 0] rfl)
        · refine lv_iconst (v := iI 1) hx hb d_MM_findFaces_66 rfl ?_
          refine lv_goto (tgt := 71) hx hb d_MM_findFaces_67 (by decide) ?_
          refine lv_istore_n (lv' := [(3, .int (iI 1)), (2, .int (iI ((2 * (fS (j / 2))) + (j % 2)))), (0, .ref o), (1, .int (iI j))]) hx hb d_MM_findFaces_71 rfl hl (by decide) rfl (fun ls hl => ?_)
          exact hL3 _ ((2 * (fS (j / 2))) + (j % 2)) (dv j) 0 1 g Mq _ _ _ hd0 (hIx.2.1 j (by omega) (by omega)).1 (Or.inr ⟨rfl, zWs_start hIx hFo ⟨by omega, by omega⟩ (by omega)⟩) (Nat.lt_succ_self _) hfr h_o h_sg h_lb h_rw h_fo hw (lv_sub hl [2, 3, 1, 0] rfl)
  have hL1 : ∀ (n : Nat) (i : Int) (g : Int → Int) (Mq : zq_M) (H : Heap) (locs : List Loc) (ls : Array Slot), (0 ≤ i ∧ i ≤ 48) → (∀ z, g z = if 0 ≤ z ∧ z < i then -1 else fo z) → (48 - i).toNat < n → (∀ q, q ≠ o → q ≠ (bd 6) → q ≠ (bd 9) → Mq q = M q) → Mq o = some (.inr (9, [.int (iI th), .int (iI put), .int (iI wr), .ref (bd 0), .ref (bd 1), .int (iI nn), .int (iI cir), .int (iI oN), .int (iI oC), .ref (bd 2), .ref (bd 3), .ref (bd 4), .ref (bd 5), .int (iI cS), .ref (bd 6), .ref (bd 7), .ref (bd 8), .int (iI fcs), .ref (bd 9), .int (iI arcs), .ref (bd 10), .ref (bd 11), .ref (bd 12), .ref (bd 13), .int (iI mns), .ref (bd 14), .ref (bd 15), .ref (bd 16), .int (iI kn), .ref (bd 17)])) → Mq (bd 2) = some (cI (K 0) 12 sg) → Mq (bd 3) = some (cI (K 0) 48 lb) → Mq (bd 6) = some (cI (K 0) 48 fS) → Mq (bd 9) = some (cI (K 0) 48 g) → zq_W D vwCl A s.heap Mq H locs → lv_has ls 4 [(0, .ref o), (1, .int (iI i))] → W p l e ({ frames := 3, cells := 0, slots := 0, locals := 69 } : Room) s m [.ref o].toArray below meth co H locs 0 0 (MQ below (zq_Q D vwCl (zT K) (P_MM_findFaces K M o bd th put wr nn cir oN oC lbs fcs arcs mns kn sg lb rw fo) A) [.ref o].toArray s 0 0 A) (F0 m 6 ls []) := by
    intro n
    induction n with
    | zero =>
      intro i g Mq H locs ls hi hg hms hfr h_o h_sg h_lb h_rw h_fo hw hl
      exact absurd hms (Nat.not_lt_zero _)
    | succ n ih_hL1 =>
      intro i g Mq H locs ls hi hg hms hfr h_o h_sg h_lb h_rw h_fo hw hl
      refine lv_iload_n hx hb d_MM_findFaces_6 rfl (lv_at hl 1 rfl) ?_
      refine lv_bipush (v := iI 48) hx hb d_MM_findFaces_7 (by decide) ?_
      refine zq_icmp_ge (tgt := 25) hx hb d_MM_findFaces_9 (by decide) ⟨by omega, by omega⟩ (by decide) (fun hc19 => ?_) (fun hc19 => ?_)
      · refine lv_aload_n hx hb d_MM_findFaces_25 rfl (lv_at hl 0 rfl) ?_
        refine lv_iconst (v := iI 0) hx hb d_MM_findFaces_26 rfl ?_
        refine zq_put (ci := 9) (v := .int (iI 0)) (ty := .int) hx hb hts i_MM t_MM t_MM_ok n_MM hown hK hw h_o rfl 17 (by decide) (hts _ tw_603) rfl (by decide +kernel) rfl rfl (Nat.le_of_ble_eq_true rfl) d_MM_findFaces_27 (fun M20 H locs hs ho hw => ?_)
        have h_sg : M20 (bd 2) = some (cI (K 0) 12 sg) := (ho _ (zq_ne h_sg h_o (by simp))).trans h_sg
        have h_lb : M20 (bd 3) = some (cI (K 0) 48 lb) := (ho _ (zq_ne h_lb h_o (by simp))).trans h_lb
        have h_rw : M20 (bd 6) = some (cI (K 0) 48 fS) := (ho _ (zq_ne h_rw h_o (by simp))).trans h_rw
        have h_fo : M20 (bd 9) = some (cI (K 0) 48 g) := (ho _ (zq_ne h_fo h_o (by simp))).trans h_fo
        have h_o : M20 o = some (.inr (9, [.int (iI th), .int (iI put), .int (iI wr), .ref (bd 0), .ref (bd 1), .int (iI nn), .int (iI cir), .int (iI oN), .int (iI oC), .ref (bd 2), .ref (bd 3), .ref (bd 4), .ref (bd 5), .int (iI cS), .ref (bd 6), .ref (bd 7), .ref (bd 8), .int (iI 0), .ref (bd 9), .int (iI arcs), .ref (bd 10), .ref (bd 11), .ref (bd 12), .ref (bd 13), .int (iI mns), .ref (bd 14), .ref (bd 15), .ref (bd 16), .int (iI kn), .ref (bd 17)])) := hs
        have hfr : ∀ q, q ≠ o → q ≠ (bd 6) → q ≠ (bd 9) → M20 q = M q := fun q g0 g1 g2 => (ho q g0).trans (hfr q g0 g1 g2)
        refine lv_iconst (v := iI 0) hx hb d_MM_findFaces_30 rfl ?_
        refine lv_istore_n (lv' := [(1, .int (iI 0)), (0, .ref o)]) hx hb d_MM_findFaces_31 rfl hl (by decide) rfl (fun ls hl => ?_)
        exact hL2 _ 0 0 g M20 _ _ _ ⟨by omega, by omega⟩ (zFo_0 hIx (fun z h1 h2 => by rw [hg, if_pos ⟨h1, by omega⟩]) (fun z => by rw [hg]; split; decide; exact hfo z)) (Nat.lt_succ_self _) hfr h_o h_sg h_lb h_rw h_fo hw (lv_sub hl [1, 0] rfl)
      · refine lv_aload_n hx hb d_MM_findFaces_12 rfl (lv_at hl 0 rfl) ?_
        refine zq_get hx hb hts i_MM hown hK hw h_o rfl 18 (by decide) (hts _ tw_604) rfl d_MM_findFaces_13 ?_
        refine lv_iload_n hx hb d_MM_findFaces_16 rfl (lv_at hl 1 rfl) ?_
        refine lv_iconst (v := iI (-1)) hx hb d_MM_findFaces_17 rfl ?_
        refine zq_iast hx hb hK hw 0 h_fo rfl (by omega) (by omega) (by decide) d_MM_findFaces_18 (fun M21 H locs hs ho hw => ?_)
        have h_o : M21 o = some (.inr (9, [.int (iI th), .int (iI put), .int (iI wr), .ref (bd 0), .ref (bd 1), .int (iI nn), .int (iI cir), .int (iI oN), .int (iI oC), .ref (bd 2), .ref (bd 3), .ref (bd 4), .ref (bd 5), .int (iI cS), .ref (bd 6), .ref (bd 7), .ref (bd 8), .int (iI fcs), .ref (bd 9), .int (iI arcs), .ref (bd 10), .ref (bd 11), .ref (bd 12), .ref (bd 13), .int (iI mns), .ref (bd 14), .ref (bd 15), .ref (bd 16), .int (iI kn), .ref (bd 17)])) := (ho _ (zq_ne h_o h_fo (by simp))).trans h_o
        have h_sg : M21 (bd 2) = some (cI (K 0) 12 sg) := (ho _ (zbd hbd 2 9)).trans h_sg
        have h_lb : M21 (bd 3) = some (cI (K 0) 48 lb) := (ho _ (zbd hbd 3 9)).trans h_lb
        have h_rw : M21 (bd 6) = some (cI (K 0) 48 fS) := (ho _ (zbd hbd 6 9)).trans h_rw
        have h_fo : M21 (bd 9) = some (cI (K 0) 48 (zu g i (-1))) := hs
        have hfr : ∀ q, q ≠ o → q ≠ (bd 6) → q ≠ (bd 9) → M21 q = M q := fun q g0 g1 g2 => (ho q g2).trans (hfr q g0 g1 g2)
        refine lv_iinc (v := iI (i + 1)) (lv' := [(1, .int (iI (i + 1))), (0, .ref o)]) hx hb d_MM_findFaces_19 hl (k := 1) rfl (iI_add _ _) (by decide) rfl (fun ls hl => ?_)
        refine lv_goto (tgt := 6) hx hb d_MM_findFaces_22 (by decide) ?_
        exact ih_hL1 (i + 1) (zu g i (-1)) M21 _ _ _ (by omega) (zup_c hg hi.1) (by omega) hfr h_o h_sg h_lb h_rw h_fo hw (lv_sub hl [1, 0] rfl)
  refine lv_iconst (v := iI 0) hx hb d_MM_findFaces_4 rfl ?_
  refine lv_istore_n (lv' := [(1, .int (iI 0)), (0, .ref o)]) hx hb d_MM_findFaces_5 rfl hl (by decide) rfl (fun ls hl => ?_)
  exact hL1 _ 0 fo M1 _ _ _ ⟨by omega, by omega⟩ (fun z => (if_neg (by omega)).symm) (Nat.lt_succ_self _) hfr h_o h_sg h_lb h_rw h_fo hw (lv_sub hl [1, 0] rfl)
