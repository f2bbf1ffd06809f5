/-! THE CLAIM OUT OF ONE WALK OF THE LAW'S BODY. Your part is whole_start (and what it stands on); all else here is the same for every law, but numbers. -/
def R_law : String := "AlexanderMatrixLaw"
def lw_P (b : Addr) (xs : List Int32) (args : Array Value) (s : State) : Prop := args = #[.ref b] ∧ s.IntsAt b xs ∧ xs.length ≤ 3072 ∧ (Jvm.Cond.and given_1 narrow_1).before args s = true
def lw_Q (_ : Array Value) (s : State) (o : Outcome) (t : State) : Prop := o = .returned (some (.int 1)) ∧ Framed s o t [] 600000 7302250
def lw_Z (below : List Frame) (a : Array Value) (s : State) : State → Prop := fun t => ∃ o, t.status = .running ∧ Ended t below o ∧ lw_Q a s o t
/-- the law's own end, with 1 on the stack, nothing written that was there before, its room as the claim has it -/
theorem lw_ret {p : Program} {l : Launch} {e : Env} {s : State} {m : MethodId} {below : List Frame} {meth : Method} {c : Code} {b : Nat} (hx : p.tables.exec = Jvm.exec) (hb : c.code = code) (hr : meth.sig.returnType = ret) (hlocks : meth.locks = false) {pc : Nat} {H : Heap} {ls : Array Slot} (hdg : decode code pc = .ok (.ireturn, 1)) : W p l e room_1 s m #[Value.ref b] below meth c H [] 600000 7302250 (lw_Z below #[Value.ref b] s) (F0 m pc ls [.int 1]) := by
  intro T hT X
  obtain ⟨fs, hret, hrun, hended, hW, hframe⟩ := X.leave (v := some (.int 1)) (hlocks := hlocks) (fun h => by rw [hr] at h; cases h)
  have hmeth' : T.vm.method? m = some meth := X.method'
  refine ⟨T.setFrames fs, ?_, .returned (some (.int 1)), hrun, hended, rfl, ⟨_, rfl⟩, hW, hframe⟩
  jvm_step X.here [X.here.top, hx, hb, hdg, hmeth', hr, ret, narrow_b1]
  (try refine ⟨rfl, ?_⟩); (try refine ⟨rfl, ?_⟩)
  first | (intro acts; rw [hret _ acts rfl rfl rfl]) | rw [hret _ _ rfl rfl rfl]
  exact Steps.refl _
/-- what holds at the law's entry: the machine, the code, the tables' words (any of lw_tbl by 'hts w (by decide +kernel)'), the script of L ints xs at the cell b, what the Statement gives of the start (any of its parts by flat_of_before) -/
def lw_At (p : Program) (s : State) (m : MethodId) (meth : Method) (c : Code) (b L : Nat) (xs : Nat → Int32) : Prop :=
  p.tables.exec = Jvm.exec ∧ c.code = code ∧ meth.sig.returnType = ret ∧ c.maxLocals = 4 ∧ s.vm.findClass R_law = some m.cls ∧ (∀ w ∈ lw_tbl, w.before #[Value.ref b] s = true) ∧ va_X b L xs s s.heap ∧ b < s.heap.size ∧ meth.locks = false ∧ (Jvm.Cond.and given_1 narrow_1).before #[Value.ref b] s = true
section ZLW
variable {p : Program} {l : Launch} {e : Env} {R : Room} {s : State} {m : MethodId} {args : Array Value} {below : List Frame} {meth : Method} {c : Code} {H : Heap} {locs : List Loc} {cells slots : Nat} {Q : State → Prop}
variable {cc : ByteArray} {pc : Nat} {ls : Array Slot} {rest : List Value} {A : Nat → Prop} {H0 : Heap}
/-- script[i + k] -/
theorem zlw_rd (hx : p.tables.exec = Jvm.exec) (hb : c.code = cc) {b L : Nat} {xs : Nat → Int32} (hX : va_X b L xs s H0) (hbl : b < H0.size) (hbA : ¬ A b) (hS : va_S A H0 H locs) (hL : L ≤ 3072) {i j : Nat} {k : Int} (hj : (i : Int) + k = (j : Int)) (hjL : j < L) (h0 : ls[0]? = some (.val (.ref b))) (h3 : ls[3]? = some (.val (.int (iI (i : Int))))) {z : Int} (ez : xs j = iI z) (d1 : decode cc pc = .ok (.aload_n 0, 1)) (d2 : decode cc (pc + 1) = .ok (.iload_n 3, 1)) (d3 : decode cc (pc + 2) = .ok (.iconst k, 1)) (d4 : decode cc (pc + 3) = .ok (.iadd, 1)) (d5 : decode cc (pc + 4) = .ok (.iaload, 1)) (kk : W p l e R s m args below meth c H locs cells slots Q (F0 m (pc + 5) ls (.int (iI z) :: rest))) : W p l e R s m args below meth c H locs cells slots Q (F0 m pc ls rest) := by
  refine lv_aload_n hx hb d1 rfl h0 ?_
  refine lv_iload_n hx hb d2 rfl h3 ?_
  refine lv_iconst (v := iI k) hx hb d3 rfl ?_
  refine zq_iadd hx hb d4 ?_
  refine va_sld hx hb hX hbl hbA hS (iI_vp (by omega) (by omega) (by omega)) d5 ?_
  rw [iI_clamp ⟨by omega, by omega⟩, hj, Int.toNat_natCast, ez]
  exact kk
/-- two longs that are one -/
theorem zlw_lc (hx : p.tables.exec = Jvm.exec) (hb : c.code = cc) {y : Int64} {off : Int} {tgt : Nat} (hdg0 : decode cc pc = .ok (.lcmp, 1)) (hdg : decode cc (pc + 1) = .ok (.ifCond .eq off, 3)) (ht : ((pc + 1 : Nat) : Int) + off = (tgt : Int)) (kt : W p l e R s m args below meth c H locs cells slots Q (F0 m tgt ls rest)) : W p l e R s m args below meth c H locs cells slots Q (F0 m pc ls (.long y :: .long y :: rest)) := by
  refine W.lcmp hx hb hdg0 ?_
  rw [show lg_cmp y y = 0 by unfold lg_cmp; simp]
  exact lv_if_eq hx hb hdg ht (fun _ => kt) (fun h => absurd rfl h)
end ZLW
set_option maxHeartbeats 4000000 in
set_option maxRecDepth 100000 in
/-- the law's loop -/
theorem zlaw {p : Program} {l : Launch} {e : Env} {s : State} {m : MethodId} {below : List Frame} {meth : Method} {c : Code} {b L : Nat} {xs : Nat → Int32} (hL : L ≤ 3072) (C0 : lw_At p s m meth c b L xs) {D : va_G} {K : Nat → ClassId} (hZ : zK D vwCl (zT K) s) {own : Nat → Nat} {x o : Nat} {bd : Nat → Nat} (hO : zOw own o bd) :
    ∀ (n i : Nat), i ≤ L + 6 → L + 6 < i + n → ∀ (M : zq_M) (H : Heap) (locs : List Loc), zLI K M own x o bd → zq_W D vwCl (fun q : Nat => s.heap.size ≤ q) s.heap M H locs → ∀ (ls : Array Slot), lv_has ls 4 [(0, .ref b), (1, .ref x), (2, .ref o), (3, .int (iI (i : Int)))] → W p l e room_1 s m #[Value.ref b] below meth c H locs 375 124159 (lw_Z below #[Value.ref b] s) (F0 m 18 ls []) := by
  obtain ⟨hx, hb, hr, hml, hown, hts0, hX, hbl, hlocks, hgv⟩ := C0
  have hts : ∀ w ∈ lw_gd, w.before #[Value.ref b] s = true := fun w h => hts0 w (List.mem_filter.mp h).1
  have hown : s.vm.findClass "AlexanderMatrixLaw" = some m.cls := hown
  have hA : ∀ q : Nat, s.heap.size ≤ q → (fun q : Nat => s.heap.size ≤ q) q := fun _ h => h
  have hbA : ¬ (fun q : Nat => s.heap.size ≤ q) b := Nat.not_le.mpr hbl
  intro n
  induction n with
  | zero =>
    intro i h1 h2
    exact absurd h2 (by omega)
  | succ n ih =>
    intro i hi hin M H locs hI hw ls hl
    refine lv_iload_n hx hb d_LW_law_18 rfl (lv_at hl 3 rfl) ?_
    refine lv_aload_n hx hb d_LW_law_19 rfl (lv_at hl 0 rfl) ?_
    refine va_slen hx hb hX hbl hbA hw.2.2 d_LW_law_20 ?_
    rw [zofN (by omega)]
    refine lv_bipush (v := iI 6) hx hb d_LW_law_21 rfl ?_
    refine zq_isub hx hb d_LW_law_23 ?_
    refine zq_icmp_gt (tgt := 444) hx hb d_LW_law_24 (by decide) ⟨by omega, by omega⟩ ⟨by omega, by omega⟩ (fun hc => ?_) (fun hc => ?_)
    · refine lv_iconst (v := 1) hx hb d_LW_law_444 rfl ?_
      refine va_forget (fun q hq => hw.2.2.2.2 q hq) ?_
      refine W.widen (k := 600000) (n := 7302250) (by decide) (by decide) ?_
      exact lw_ret hx hb hr hlocks d_LW_law_445
    · have hi6 : i + 6 ≤ L := by omega
      have hJ : ∀ (M : zq_M) (H : Heap) (locs : List Loc), zLI K M own x o bd → zq_W D vwCl (fun q : Nat => s.heap.size ≤ q) s.heap M H locs → W p l e room_1 s m #[Value.ref b] below meth c H locs 375 124159 (lw_Z below #[Value.ref b] s) (F0 m 438 ls []) := fun M H locs hI hw => by
        refine lv_iinc (v := iI ((i : Int) + 6)) (lv' := [(3, .int (iI ((i : Int) + 6))), (0, .ref b), (1, .ref x), (2, .ref o)]) hx hb d_LW_law_438 hl (k := 3) rfl (iI_add _ _) (by decide) rfl (fun ls hl => ?_)
        refine lv_goto (tgt := 18) hx hb d_LW_law_441 (by decide) ?_
        exact ih (i + 6) (by omega) (by omega) M H locs hI hw ls (by
          rw [show ((i + 6 : Nat) : Int) = (i : Int) + 6 by omega]
          exact lv_sub hl [1, 2, 3, 0] rfl)
      obtain ⟨ad, S, put, pS, pL, nn, cir, sg, lb, kn, arcs, al, on, tw, mns, av, po, rfl, hS, hMM, hR⟩ := hI
      have hxx := hS.w.hx
      obtain ⟨a1, a2, a3, a4, a5, a6, a7, a8, a9, a10, a11, a12, a13, a14⟩ := id hR
      obtain ⟨_, hHok, hRb⟩ := zRl_c hS hR
      obtain ⟨hgd, hmath, hsk⟩ := zRl_m hR (zMK_hi hMM).2
      have hpl : ∀ z, 0 ≤ z → z < 4 * put → 1 ≤ pL z ∧ pL z ≤ 9999 := fun z h1 h2 => by rw [(a4 z h1 h2).1]; exact (a4 z h1 h2).2
      obtain ⟨z1, hz1, ez1⟩ : ∃ z : Int, inI z ∧ xs (i + 1) = iI z := ⟨_, iI_in _, iI_of _⟩
      obtain ⟨z2, hz2, ez2⟩ : ∃ z : Int, inI z ∧ xs (i + 2) = iI z := ⟨_, iI_in _, iI_of _⟩
      obtain ⟨z3, hz3, ez3⟩ : ∃ z : Int, inI z ∧ xs (i + 3) = iI z := ⟨_, iI_in _, iI_of _⟩
      obtain ⟨z4, hz4, ez4⟩ : ∃ z : Int, inI z ∧ xs (i + 4) = iI z := ⟨_, iI_in _, iI_of _⟩
      obtain ⟨z5, hz5, ez5⟩ : ∃ z : Int, inI z ∧ xs (i + 5) = iI z := ⟨_, iI_in _, iI_of _⟩
      refine lv_aload_n hx hb d_LW_law_27 rfl (lv_at hl 0 rfl) ?_
      refine lv_iload_n hx hb d_LW_law_28 rfl (lv_at hl 3 rfl) ?_
      refine va_sld hx hb hX hbl hbA hw.2.2 (iI_vp (by omega) (by omega) (by omega)) d_LW_law_29 ?_
      refine lv_bipush (v := iI 15) hx hb d_LW_law_30 rfl ?_
      refine lv_iand hx hb d_LW_law_32 ?_
      refine lv_topi (fun y ey => ?_)
      clear ey
      obtain ⟨z0, hz0, ez0⟩ : ∃ z : Int, inI z ∧ y = iI z := ⟨_, iI_in _, iI_of _⟩
      rw [ez0]
      rcases (show z0 = 0 ∨ z0 = 1 ∨ z0 = 2 ∨ z0 = 3 ∨ z0 = 4 ∨ z0 = 5 ∨ z0 = 6 ∨ z0 = 7 ∨ z0 = 8 ∨ z0 = 9 ∨ z0 = 10 ∨ (z0 < 0 ∨ 10 < z0) by omega) with h9 | h9 | h9 | h9 | h9 | h9 | h9 | h9 | h9 | h9 | h9 | h9
      · subst h9
        refine lv_tableIn (tgt := 92) hx hb d_LW_law_33 (by decide) (by decide) rfl (by decide) ?_
        refine lv_aload_n hx hb d_LW_law_92 rfl (lv_at hl 1 rfl) ?_
        refine zlw_rd hx hb hX hbl hbA hw.2.2 hL (i := i) (j := i + 1) (by omega) (by omega) (lv_at hl 0 rfl) (lv_at hl 3 rfl) ez1 d_LW_law_93 d_LW_law_94 d_LW_law_95 d_LW_law_96 d_LW_law_97 ?_
        refine zlw_rd hx hb hX hbl hbA hw.2.2 hL (i := i) (j := i + 2) (by omega) (by omega) (lv_at hl 0 rfl) (lv_at hl 3 rfl) ez2 d_LW_law_98 d_LW_law_99 d_LW_law_100 d_LW_law_101 d_LW_law_102 ?_
        refine zlw_rd hx hb hX hbl hbA hw.2.2 hL (i := i) (j := i + 3) (by omega) (by omega) (lv_at hl 0 rfl) (lv_at hl 3 rfl) ez3 d_LW_law_103 d_LW_law_104 d_LW_law_105 d_LW_law_106 d_LW_law_107 ?_
        refine zlw_rd hx hb hX hbl hbA hw.2.2 hL (i := i) (j := i + 4) (by omega) (by omega) (lv_at hl 0 rfl) (lv_at hl 3 rfl) ez4 d_LW_law_108 d_LW_law_109 d_LW_law_110 d_LW_law_111 d_LW_law_112 ?_
        refine zlw_rd hx hb hX hbl hbA hw.2.2 hL (i := i) (j := i + 5) (by omega) (by omega) (lv_at hl 0 rfl) (lv_at hl 3 rfl) ez5 d_LW_law_113 d_LW_law_114 d_LW_law_115 d_LW_law_116 d_LW_law_117 ?_
        refine zq_callV (As := [.int (iI z1), .int (iI z2), .int (iI z3), .int (iI z4), .int (iI z5)]) (rest := []) ⟨hx, hb, hml, hown, hts⟩ (c_AM_crossing l D K M own ad S z1 z2 z3 z4 z5 hS hz1 hz2 hz3 hz4 hz5) (cwV 5 hts (zg_V tw_213 tw_214 tw_215 tw_1 tw_216) rfl rfl rfl (by decide +kernel) ⟨Nat.le_of_ble_eq_true rfl, Nat.le_of_ble_eq_true rfl⟩) hZ hw hA hxx rfl rfl rfl rfl hl.1 (Nat.le_of_ble_eq_true rfl) d_LW_law_118 ⟨Nat.le_of_ble_eq_true rfl, Nat.le_of_ble_eq_true rfl⟩ (fun v M1 H locs hp hw => ?_)
        obtain ⟨r, rfl, hM1, hN⟩ := zs_crossing hO hS hMM hR hp
        obtain ⟨fs, hoo⟩ := zMK_o hM1
        refine W.eq (g2 := F0 m 121 ls [.int (iI r)]) rfl ?_
        refine lv_aload_n hx hb d_LW_law_121 rfl (lv_at hl 2 rfl) ?_
        refine zlw_rd hx hb hX hbl hbA hw.2.2 hL (i := i) (j := i + 1) (by omega) (by omega) (lv_at hl 0 rfl) (lv_at hl 3 rfl) ez1 d_LW_law_122 d_LW_law_123 d_LW_law_124 d_LW_law_125 d_LW_law_126 ?_
        refine zlw_rd hx hb hX hbl hbA hw.2.2 hL (i := i) (j := i + 2) (by omega) (by omega) (lv_at hl 0 rfl) (lv_at hl 3 rfl) ez2 d_LW_law_127 d_LW_law_128 d_LW_law_129 d_LW_law_130 d_LW_law_131 ?_
        refine zlw_rd hx hb hX hbl hbA hw.2.2 hL (i := i) (j := i + 3) (by omega) (by omega) (lv_at hl 0 rfl) (lv_at hl 3 rfl) ez3 d_LW_law_132 d_LW_law_133 d_LW_law_134 d_LW_law_135 d_LW_law_136 ?_
        refine zlw_rd hx hb hX hbl hbA hw.2.2 hL (i := i) (j := i + 4) (by omega) (by omega) (lv_at hl 0 rfl) (lv_at hl 3 rfl) ez4 d_LW_law_137 d_LW_law_138 d_LW_law_139 d_LW_law_140 d_LW_law_141 ?_
        refine zlw_rd hx hb hX hbl hbA hw.2.2 hL (i := i) (j := i + 5) (by omega) (by omega) (lv_at hl 0 rfl) (lv_at hl 3 rfl) ez5 d_LW_law_142 d_LW_law_143 d_LW_law_144 d_LW_law_145 d_LW_law_146 ?_
        refine zq_callV (As := [.int (iI z1), .int (iI z2), .int (iI z3), .int (iI z4), .int (iI z5)]) (rest := [.int (iI r)]) ⟨hx, hb, hml, hown, hts⟩ (c_MM_crossing l D K M1 o bd put pS pL nn cir sg lb kn arcs al on tw mns av po z1 z2 z3 z4 z5 hM1 a1 hz1 hz2 hz3 hz4 hz5) (cwV 5 hts (zg_V tw_677 tw_678 tw_679 tw_10 tw_680) rfl rfl rfl (by decide +kernel) ⟨Nat.le_of_ble_eq_true rfl, Nat.le_of_ble_eq_true rfl⟩) hZ hw hA hoo rfl rfl rfl rfl hl.1 (Nat.le_of_ble_eq_true rfl) d_LW_law_147 ⟨Nat.le_of_ble_eq_true rfl, Nat.le_of_ble_eq_true rfl⟩ (fun v M2 H locs hp hw => ?_)
        obtain ⟨rfl, hI⟩ := hN _ _ hp
        refine W.eq (g2 := F0 m 150 ls [.int (iI r), .int (iI r)]) rfl ?_
        exact lv_icmp_eq (tgt := 438) hx hb d_LW_law_150 (by decide) (fun _ => hJ _ _ _ hI hw) (fun hc => absurd rfl hc)
      · subst h9
        refine lv_tableIn (tgt := 155) hx hb d_LW_law_33 (by decide) (by decide) rfl (by decide) ?_
        refine lv_aload_n hx hb d_LW_law_155 rfl (lv_at hl 1 rfl) ?_
        refine zlw_rd hx hb hX hbl hbA hw.2.2 hL (i := i) (j := i + 1) (by omega) (by omega) (lv_at hl 0 rfl) (lv_at hl 3 rfl) ez1 d_LW_law_156 d_LW_law_157 d_LW_law_158 d_LW_law_159 d_LW_law_160 ?_
        refine zq_callV (As := [.int (iI z1)]) (rest := []) ⟨hx, hb, hml, hown, hts⟩ (c_AM_check l D K M own ad S z1 hS hz1 (zok_check hS hR)) (cwV 1 hts (zg_V tw_228 tw_229 tw_230 tw_1 tw_231) rfl rfl rfl (by decide +kernel) ⟨Nat.le_of_ble_eq_true rfl, Nat.le_of_ble_eq_true rfl⟩) hZ hw hA hxx rfl rfl rfl rfl hl.1 (Nat.le_of_ble_eq_true rfl) d_LW_law_161 ⟨Nat.le_of_ble_eq_true rfl, Nat.le_of_ble_eq_true rfl⟩ (fun v M1 H locs hp hw => ?_)
        obtain ⟨r, rfl, hM1, hN⟩ := zs_check hO hS hMM hR hp
        obtain ⟨fs, hoo⟩ := zMK_o hM1
        refine W.eq (g2 := F0 m 164 ls [.int (iI r)]) rfl ?_
        refine lv_aload_n hx hb d_LW_law_164 rfl (lv_at hl 2 rfl) ?_
        refine zlw_rd hx hb hX hbl hbA hw.2.2 hL (i := i) (j := i + 1) (by omega) (by omega) (lv_at hl 0 rfl) (lv_at hl 3 rfl) ez1 d_LW_law_165 d_LW_law_166 d_LW_law_167 d_LW_law_168 d_LW_law_169 ?_
        refine zq_callV (As := [.int (iI z1)]) (rest := [.int (iI r)]) ⟨hx, hb, hml, hown, hts⟩ (c_MM_check l D K M1 o bd put pS pL nn cir sg lb kn arcs al on tw mns av po z1 hM1 a1 hpl hz1) (cwV 1 hts (zg_V tw_681 tw_682 tw_683 tw_10 tw_684) rfl rfl rfl (by decide +kernel) ⟨Nat.le_of_ble_eq_true rfl, Nat.le_of_ble_eq_true rfl⟩) hZ hw hA hoo rfl rfl rfl rfl hl.1 (Nat.le_of_ble_eq_true rfl) d_LW_law_170 ⟨Nat.le_of_ble_eq_true rfl, Nat.le_of_ble_eq_true rfl⟩ (fun v M2 H locs hp hw => ?_)
        obtain ⟨rfl, hI⟩ := hN _ _ hp
        refine W.eq (g2 := F0 m 173 ls [.int (iI r), .int (iI r)]) rfl ?_
        exact lv_icmp_eq (tgt := 438) hx hb d_LW_law_173 (by decide) (fun _ => hJ _ _ _ hI hw) (fun hc => absurd rfl hc)
      · subst h9
        refine lv_tableIn (tgt := 178) hx hb d_LW_law_33 (by decide) (by decide) rfl (by decide) ?_
        refine lv_aload_n hx hb d_LW_law_178 rfl (lv_at hl 1 rfl) ?_
        refine zlw_rd hx hb hX hbl hbA hw.2.2 hL (i := i) (j := i + 1) (by omega) (by omega) (lv_at hl 0 rfl) (lv_at hl 3 rfl) ez1 d_LW_law_179 d_LW_law_180 d_LW_law_181 d_LW_law_182 d_LW_law_183 ?_
        refine zq_callV (As := [.int (iI z1)]) (rest := []) ⟨hx, hb, hml, hown, hts⟩ (c_AM_many l D K M own ad S z1 hS hHok hRb hz1) (cwV 1 hts (zg_V tw_379 tw_380 tw_381 tw_1 tw_382) rfl rfl rfl (by decide +kernel) ⟨Nat.le_of_ble_eq_true rfl, Nat.le_of_ble_eq_true rfl⟩) hZ hw hA hxx rfl rfl rfl rfl hl.1 (Nat.le_of_ble_eq_true rfl) d_LW_law_184 ⟨Nat.le_of_ble_eq_true rfl, Nat.le_of_ble_eq_true rfl⟩ (fun v M1 H locs hp hw => ?_)
        obtain ⟨r, rfl, hM1, hN⟩ := zs_many hO hS hMM hR hp
        obtain ⟨fs, hoo⟩ := zMK_o hM1
        refine W.eq (g2 := F0 m 187 ls [.long (iL r)]) rfl ?_
        refine lv_aload_n hx hb d_LW_law_187 rfl (lv_at hl 2 rfl) ?_
        refine zlw_rd hx hb hX hbl hbA hw.2.2 hL (i := i) (j := i + 1) (by omega) (by omega) (lv_at hl 0 rfl) (lv_at hl 3 rfl) ez1 d_LW_law_188 d_LW_law_189 d_LW_law_190 d_LW_law_191 d_LW_law_192 ?_
        refine zq_callV (As := [.int (iI z1)]) (rest := [.long (iL r)]) ⟨hx, hb, hml, hown, hts⟩ (c_MM_many l D K M1 o bd put pS pL nn cir sg lb kn arcs al on tw mns av po z1 hM1 a14 a5 a8 hgd hmath a1 hz1) (cwV 1 hts (zg_V tw_737 tw_738 tw_739 tw_10 tw_740) rfl rfl rfl (by decide +kernel) ⟨Nat.le_of_ble_eq_true rfl, Nat.le_of_ble_eq_true rfl⟩) hZ hw hA hoo rfl rfl rfl rfl hl.1 (Nat.le_of_ble_eq_true rfl) d_LW_law_193 ⟨Nat.le_of_ble_eq_true rfl, Nat.le_of_ble_eq_true rfl⟩ (fun v M2 H locs hp hw => ?_)
        obtain ⟨rfl, hI⟩ := hN _ _ hp
        refine W.eq (g2 := F0 m 196 ls [.long (iL r), .long (iL r)]) rfl ?_
        exact zlw_lc (tgt := 438) hx hb d_LW_law_196 d_LW_law_197 (by decide) (hJ _ _ _ hI hw)
      · subst h9
        refine lv_tableIn (tgt := 202) hx hb d_LW_law_33 (by decide) (by decide) rfl (by decide) ?_
        refine lv_aload_n hx hb d_LW_law_202 rfl (lv_at hl 1 rfl) ?_
        refine zlw_rd hx hb hX hbl hbA hw.2.2 hL (i := i) (j := i + 1) (by omega) (by omega) (lv_at hl 0 rfl) (lv_at hl 3 rfl) ez1 d_LW_law_203 d_LW_law_204 d_LW_law_205 d_LW_law_206 d_LW_law_207 ?_
        refine zq_callV (As := [.int (iI z1)]) (rest := []) ⟨hx, hb, hml, hown, hts⟩ (c_AM_arc l D K M own ad S z1 hS hz1) (cwV 1 hts (zg_V tw_483 tw_484 tw_485 tw_1 tw_486) rfl rfl rfl (by decide +kernel) ⟨Nat.le_of_ble_eq_true rfl, Nat.le_of_ble_eq_true rfl⟩) hZ hw hA hxx rfl rfl rfl rfl hl.1 (Nat.le_of_ble_eq_true rfl) d_LW_law_208 ⟨Nat.le_of_ble_eq_true rfl, Nat.le_of_ble_eq_true rfl⟩ (fun v M1 H locs hp hw => ?_)
        obtain ⟨r, rfl, hM1, hN⟩ := zs_arc hO hS hMM hR hp
        obtain ⟨fs, hoo⟩ := zMK_o hM1
        refine W.eq (g2 := F0 m 211 ls [.int (iI r)]) rfl ?_
        refine lv_aload_n hx hb d_LW_law_211 rfl (lv_at hl 2 rfl) ?_
        refine zlw_rd hx hb hX hbl hbA hw.2.2 hL (i := i) (j := i + 1) (by omega) (by omega) (lv_at hl 0 rfl) (lv_at hl 3 rfl) ez1 d_LW_law_212 d_LW_law_213 d_LW_law_214 d_LW_law_215 d_LW_law_216 ?_
        refine zq_callV (As := [.int (iI z1)]) (rest := [.int (iI r)]) ⟨hx, hb, hml, hown, hts⟩ (c_MM_arc l D K M1 o bd put pS pL nn cir sg lb kn arcs al on tw mns av po z1 hM1 a14 a5 a8 hgd hmath hz1) (cwV 1 hts (zg_V tw_810 tw_811 tw_812 tw_10 tw_813) rfl rfl rfl (by decide +kernel) ⟨Nat.le_of_ble_eq_true rfl, Nat.le_of_ble_eq_true rfl⟩) hZ hw hA hoo rfl rfl rfl rfl hl.1 (Nat.le_of_ble_eq_true rfl) d_LW_law_217 ⟨Nat.le_of_ble_eq_true rfl, Nat.le_of_ble_eq_true rfl⟩ (fun v M2 H locs hp hw => ?_)
        obtain ⟨rfl, hI⟩ := hN _ _ hp
        refine W.eq (g2 := F0 m 220 ls [.int (iI r), .int (iI r)]) rfl ?_
        exact lv_icmp_eq (tgt := 438) hx hb d_LW_law_220 (by decide) (fun _ => hJ _ _ _ hI hw) (fun hc => absurd rfl hc)
      · subst h9
        refine lv_tableIn (tgt := 225) hx hb d_LW_law_33 (by decide) (by decide) rfl (by decide) ?_
        refine lv_aload_n hx hb d_LW_law_225 rfl (lv_at hl 1 rfl) ?_
        refine zlw_rd hx hb hX hbl hbA hw.2.2 hL (i := i) (j := i + 1) (by omega) (by omega) (lv_at hl 0 rfl) (lv_at hl 3 rfl) ez1 d_LW_law_226 d_LW_law_227 d_LW_law_228 d_LW_law_229 d_LW_law_230 ?_
        refine zq_callV (As := [.int (iI z1)]) (rest := []) ⟨hx, hb, hml, hown, hts⟩ (c_AM_least l D K M own ad S z1 hS hz1) (cwV 1 hts (zg_V tw_492 tw_493 tw_494 tw_1 tw_495) rfl rfl rfl (by decide +kernel) ⟨Nat.le_of_ble_eq_true rfl, Nat.le_of_ble_eq_true rfl⟩) hZ hw hA hxx rfl rfl rfl rfl hl.1 (Nat.le_of_ble_eq_true rfl) d_LW_law_231 ⟨Nat.le_of_ble_eq_true rfl, Nat.le_of_ble_eq_true rfl⟩ (fun v M1 H locs hp hw => ?_)
        obtain ⟨r, rfl, hM1, hN⟩ := zs_least hO hS hMM hR hp
        obtain ⟨fs, hoo⟩ := zMK_o hM1
        refine W.eq (g2 := F0 m 234 ls [.int (iI r)]) rfl ?_
        refine lv_aload_n hx hb d_LW_law_234 rfl (lv_at hl 2 rfl) ?_
        refine zlw_rd hx hb hX hbl hbA hw.2.2 hL (i := i) (j := i + 1) (by omega) (by omega) (lv_at hl 0 rfl) (lv_at hl 3 rfl) ez1 d_LW_law_235 d_LW_law_236 d_LW_law_237 d_LW_law_238 d_LW_law_239 ?_
        refine zq_callV (As := [.int (iI z1)]) (rest := [.int (iI r)]) ⟨hx, hb, hml, hown, hts⟩ (c_MM_least l D K M1 o bd put pS pL nn cir sg lb kn arcs al on tw mns av po z1 hM1 a14 a5 a8 hgd hmath hz1) (cwV 1 hts (zg_V tw_814 tw_815 tw_816 tw_10 tw_817) rfl rfl rfl (by decide +kernel) ⟨Nat.le_of_ble_eq_true rfl, Nat.le_of_ble_eq_true rfl⟩) hZ hw hA hoo rfl rfl rfl rfl hl.1 (Nat.le_of_ble_eq_true rfl) d_LW_law_240 ⟨Nat.le_of_ble_eq_true rfl, Nat.le_of_ble_eq_true rfl⟩ (fun v M2 H locs hp hw => ?_)
        obtain ⟨rfl, hI⟩ := hN _ _ hp
        refine W.eq (g2 := F0 m 243 ls [.int (iI r), .int (iI r)]) rfl ?_
        exact lv_icmp_eq (tgt := 438) hx hb d_LW_law_243 (by decide) (fun _ => hJ _ _ _ hI hw) (fun hc => absurd rfl hc)
      · subst h9
        refine lv_tableIn (tgt := 248) hx hb d_LW_law_33 (by decide) (by decide) rfl (by decide) ?_
        refine lv_aload_n hx hb d_LW_law_248 rfl (lv_at hl 1 rfl) ?_
        refine zlw_rd hx hb hX hbl hbA hw.2.2 hL (i := i) (j := i + 1) (by omega) (by omega) (lv_at hl 0 rfl) (lv_at hl 3 rfl) ez1 d_LW_law_249 d_LW_law_250 d_LW_law_251 d_LW_law_252 d_LW_law_253 ?_
        refine zlw_rd hx hb hX hbl hbA hw.2.2 hL (i := i) (j := i + 2) (by omega) (by omega) (lv_at hl 0 rfl) (lv_at hl 3 rfl) ez2 d_LW_law_254 d_LW_law_255 d_LW_law_256 d_LW_law_257 d_LW_law_258 ?_
        refine zlw_rd hx hb hX hbl hbA hw.2.2 hL (i := i) (j := i + 3) (by omega) (by omega) (lv_at hl 0 rfl) (lv_at hl 3 rfl) ez3 d_LW_law_259 d_LW_law_260 d_LW_law_261 d_LW_law_262 d_LW_law_263 ?_
        refine zq_callV (As := [.int (iI z1), .int (iI z2), .int (iI z3)]) (rest := []) ⟨hx, hb, hml, hown, hts⟩ (c_AM_entry l D K M own ad S z1 z2 z3 hS hz1 hz2 hz3) (cwV 3 hts (zg_V tw_500 tw_501 tw_502 tw_1 tw_503) rfl rfl rfl (by decide +kernel) ⟨Nat.le_of_ble_eq_true rfl, Nat.le_of_ble_eq_true rfl⟩) hZ hw hA hxx rfl rfl rfl rfl hl.1 (Nat.le_of_ble_eq_true rfl) d_LW_law_264 ⟨Nat.le_of_ble_eq_true rfl, Nat.le_of_ble_eq_true rfl⟩ (fun v M1 H locs hp hw => ?_)
        obtain ⟨r, rfl, hM1, hN⟩ := zs_entry hO hS hMM hR hp
        obtain ⟨fs, hoo⟩ := zMK_o hM1
        refine W.eq (g2 := F0 m 267 ls [.int (iI r)]) rfl ?_
        refine lv_aload_n hx hb d_LW_law_267 rfl (lv_at hl 2 rfl) ?_
        refine zlw_rd hx hb hX hbl hbA hw.2.2 hL (i := i) (j := i + 1) (by omega) (by omega) (lv_at hl 0 rfl) (lv_at hl 3 rfl) ez1 d_LW_law_268 d_LW_law_269 d_LW_law_270 d_LW_law_271 d_LW_law_272 ?_
        refine zlw_rd hx hb hX hbl hbA hw.2.2 hL (i := i) (j := i + 2) (by omega) (by omega) (lv_at hl 0 rfl) (lv_at hl 3 rfl) ez2 d_LW_law_273 d_LW_law_274 d_LW_law_275 d_LW_law_276 d_LW_law_277 ?_
        refine zlw_rd hx hb hX hbl hbA hw.2.2 hL (i := i) (j := i + 3) (by omega) (by omega) (lv_at hl 0 rfl) (lv_at hl 3 rfl) ez3 d_LW_law_278 d_LW_law_279 d_LW_law_280 d_LW_law_281 d_LW_law_282 ?_
        refine zq_callV (As := [.int (iI z1), .int (iI z2), .int (iI z3)]) (rest := [.int (iI r)]) ⟨hx, hb, hml, hown, hts⟩ (c_MM_entry l D K M1 o bd put pS pL nn cir sg lb kn arcs al on tw mns av po z1 z2 z3 hM1 a14 a5 a8 hgd hmath hz1 hz2 hz3) (cwV 3 hts (zg_V tw_818 tw_819 tw_820 tw_10 tw_821) rfl rfl rfl (by decide +kernel) ⟨Nat.le_of_ble_eq_true rfl, Nat.le_of_ble_eq_true rfl⟩) hZ hw hA hoo rfl rfl rfl rfl hl.1 (Nat.le_of_ble_eq_true rfl) d_LW_law_283 ⟨Nat.le_of_ble_eq_true rfl, Nat.le_of_ble_eq_true rfl⟩ (fun v M2 H locs hp hw => ?_)
        obtain ⟨rfl, hI⟩ := hN _ _ hp
        refine W.eq (g2 := F0 m 286 ls [.int (iI r), .int (iI r)]) rfl ?_
        exact lv_icmp_eq (tgt := 438) hx hb d_LW_law_286 (by decide) (fun _ => hJ _ _ _ hI hw) (fun hc => absurd rfl hc)
      · subst h9
        refine lv_tableIn (tgt := 291) hx hb d_LW_law_33 (by decide) (by decide) rfl (by decide) ?_
        refine lv_aload_n hx hb d_LW_law_291 rfl (lv_at hl 1 rfl) ?_
        refine zlw_rd hx hb hX hbl hbA hw.2.2 hL (i := i) (j := i + 1) (by omega) (by omega) (lv_at hl 0 rfl) (lv_at hl 3 rfl) ez1 d_LW_law_292 d_LW_law_293 d_LW_law_294 d_LW_law_295 d_LW_law_296 ?_
        refine zlw_rd hx hb hX hbl hbA hw.2.2 hL (i := i) (j := i + 2) (by omega) (by omega) (lv_at hl 0 rfl) (lv_at hl 3 rfl) ez2 d_LW_law_297 d_LW_law_298 d_LW_law_299 d_LW_law_300 d_LW_law_301 ?_
        refine zlw_rd hx hb hX hbl hbA hw.2.2 hL (i := i) (j := i + 3) (by omega) (by omega) (lv_at hl 0 rfl) (lv_at hl 3 rfl) ez3 d_LW_law_302 d_LW_law_303 d_LW_law_304 d_LW_law_305 d_LW_law_306 ?_
        refine zq_callV (As := [.int (iI z1), .int (iI z2), .int (iI z3)]) (rest := []) ⟨hx, hb, hml, hown, hts⟩ (c_AM_minor l D K M own ad S z1 z2 z3 hS hHok hRb hz1 hz2 hz3) (cwV 3 hts (zg_V tw_506 tw_507 tw_508 tw_1 tw_509) rfl rfl rfl (by decide +kernel) ⟨Nat.le_of_ble_eq_true rfl, Nat.le_of_ble_eq_true rfl⟩) hZ hw hA hxx rfl rfl rfl rfl hl.1 (Nat.le_of_ble_eq_true rfl) d_LW_law_307 ⟨Nat.le_of_ble_eq_true rfl, Nat.le_of_ble_eq_true rfl⟩ (fun v M1 H locs hp hw => ?_)
        obtain ⟨r, rfl, hM1, hN⟩ := zs_minor hO hS hMM hR hp
        obtain ⟨fs, hoo⟩ := zMK_o hM1
        refine W.eq (g2 := F0 m 310 ls [.long (iL r)]) rfl ?_
        refine lv_aload_n hx hb d_LW_law_310 rfl (lv_at hl 2 rfl) ?_
        refine zlw_rd hx hb hX hbl hbA hw.2.2 hL (i := i) (j := i + 1) (by omega) (by omega) (lv_at hl 0 rfl) (lv_at hl 3 rfl) ez1 d_LW_law_311 d_LW_law_312 d_LW_law_313 d_LW_law_314 d_LW_law_315 ?_
        refine zlw_rd hx hb hX hbl hbA hw.2.2 hL (i := i) (j := i + 2) (by omega) (by omega) (lv_at hl 0 rfl) (lv_at hl 3 rfl) ez2 d_LW_law_316 d_LW_law_317 d_LW_law_318 d_LW_law_319 d_LW_law_320 ?_
        refine zlw_rd hx hb hX hbl hbA hw.2.2 hL (i := i) (j := i + 3) (by omega) (by omega) (lv_at hl 0 rfl) (lv_at hl 3 rfl) ez3 d_LW_law_321 d_LW_law_322 d_LW_law_323 d_LW_law_324 d_LW_law_325 ?_
        refine zq_callV (As := [.int (iI z1), .int (iI z2), .int (iI z3)]) (rest := [.long (iL r)]) ⟨hx, hb, hml, hown, hts⟩ (c_MM_minor l D K M1 o bd put pS pL nn cir sg lb kn arcs al on tw mns av po z1 z2 z3 hM1 a14 a5 a8 hgd hmath hz1 hz2 hz3) (cwV 3 hts (zg_V tw_822 tw_823 tw_824 tw_10 tw_825) rfl rfl rfl (by decide +kernel) ⟨Nat.le_of_ble_eq_true rfl, Nat.le_of_ble_eq_true rfl⟩) hZ hw hA hoo rfl rfl rfl rfl hl.1 (Nat.le_of_ble_eq_true rfl) d_LW_law_326 ⟨Nat.le_of_ble_eq_true rfl, Nat.le_of_ble_eq_true rfl⟩ (fun v M2 H locs hp hw => ?_)
        obtain ⟨rfl, hI⟩ := hN _ _ hp
        refine W.eq (g2 := F0 m 329 ls [.long (iL r), .long (iL r)]) rfl ?_
        exact zlw_lc (tgt := 438) hx hb d_LW_law_329 d_LW_law_330 (by decide) (hJ _ _ _ hI hw)
      · subst h9
        refine lv_tableIn (tgt := 335) hx hb d_LW_law_33 (by decide) (by decide) rfl (by decide) ?_
        refine lv_aload_n hx hb d_LW_law_335 rfl (lv_at hl 1 rfl) ?_
        refine zlw_rd hx hb hX hbl hbA hw.2.2 hL (i := i) (j := i + 1) (by omega) (by omega) (lv_at hl 0 rfl) (lv_at hl 3 rfl) ez1 d_LW_law_336 d_LW_law_337 d_LW_law_338 d_LW_law_339 d_LW_law_340 ?_
        refine zq_callV (As := [.int (iI z1)]) (rest := []) ⟨hx, hb, hml, hown, hts⟩ (c_AM_alexander l D K M own ad S z1 hS hHok hRb hz1) (cwV 1 hts (zg_V tw_511 tw_512 tw_513 tw_1 tw_514) rfl rfl rfl (by decide +kernel) ⟨Nat.le_of_ble_eq_true rfl, Nat.le_of_ble_eq_true rfl⟩) hZ hw hA hxx rfl rfl rfl rfl hl.1 (Nat.le_of_ble_eq_true rfl) d_LW_law_341 ⟨Nat.le_of_ble_eq_true rfl, Nat.le_of_ble_eq_true rfl⟩ (fun v M1 H locs hp hw => ?_)
        obtain ⟨r, rfl, hM1, hN⟩ := zs_alexander hO hS hMM hR hp
        obtain ⟨fs, hoo⟩ := zMK_o hM1
        refine W.eq (g2 := F0 m 344 ls [.long (iL r)]) rfl ?_
        refine lv_aload_n hx hb d_LW_law_344 rfl (lv_at hl 2 rfl) ?_
        refine zlw_rd hx hb hX hbl hbA hw.2.2 hL (i := i) (j := i + 1) (by omega) (by omega) (lv_at hl 0 rfl) (lv_at hl 3 rfl) ez1 d_LW_law_345 d_LW_law_346 d_LW_law_347 d_LW_law_348 d_LW_law_349 ?_
        refine zq_callV (As := [.int (iI z1)]) (rest := [.long (iL r)]) ⟨hx, hb, hml, hown, hts⟩ (c_MM_alexander l D K M1 o bd put pS pL nn cir sg lb kn arcs al on tw mns av po z1 hM1 a14 a5 a8 hgd hmath hz1) (cwV 1 hts (zg_V tw_826 tw_827 tw_828 tw_10 tw_829) rfl rfl rfl (by decide +kernel) ⟨Nat.le_of_ble_eq_true rfl, Nat.le_of_ble_eq_true rfl⟩) hZ hw hA hoo rfl rfl rfl rfl hl.1 (Nat.le_of_ble_eq_true rfl) d_LW_law_350 ⟨Nat.le_of_ble_eq_true rfl, Nat.le_of_ble_eq_true rfl⟩ (fun v M2 H locs hp hw => ?_)
        obtain ⟨rfl, hI⟩ := hN _ _ hp
        refine W.eq (g2 := F0 m 353 ls [.long (iL r), .long (iL r)]) rfl ?_
        exact zlw_lc (tgt := 438) hx hb d_LW_law_353 d_LW_law_354 (by decide) (hJ _ _ _ hI hw)
      · subst h9
        refine lv_tableIn (tgt := 359) hx hb d_LW_law_33 (by decide) (by decide) rfl (by decide) ?_
        refine lv_aload_n hx hb d_LW_law_359 rfl (lv_at hl 1 rfl) ?_
        refine zlw_rd hx hb hX hbl hbA hw.2.2 hL (i := i) (j := i + 1) (by omega) (by omega) (lv_at hl 0 rfl) (lv_at hl 3 rfl) ez1 d_LW_law_360 d_LW_law_361 d_LW_law_362 d_LW_law_363 d_LW_law_364 ?_
        refine zlw_rd hx hb hX hbl hbA hw.2.2 hL (i := i) (j := i + 2) (by omega) (by omega) (lv_at hl 0 rfl) (lv_at hl 3 rfl) ez2 d_LW_law_365 d_LW_law_366 d_LW_law_367 d_LW_law_368 d_LW_law_369 ?_
        refine zq_callV (As := [.int (iI z1), .int (iI z2)]) (rest := []) ⟨hx, hb, hml, hown, hts⟩ (c_AM_rank l D K M own ad S z1 z2 hS hz1 hz2) (cwV 2 hts (zg_V tw_515 tw_516 tw_517 tw_1 tw_518) rfl rfl rfl (by decide +kernel) ⟨Nat.le_of_ble_eq_true rfl, Nat.le_of_ble_eq_true rfl⟩) hZ hw hA hxx rfl rfl rfl rfl hl.1 (Nat.le_of_ble_eq_true rfl) d_LW_law_370 ⟨Nat.le_of_ble_eq_true rfl, Nat.le_of_ble_eq_true rfl⟩ (fun v M1 H locs hp hw => ?_)
        obtain ⟨r, rfl, hM1, hN⟩ := zs_rank hO hS hMM hR hp
        obtain ⟨fs, hoo⟩ := zMK_o hM1
        refine W.eq (g2 := F0 m 373 ls [.int (iI r)]) rfl ?_
        refine lv_aload_n hx hb d_LW_law_373 rfl (lv_at hl 2 rfl) ?_
        refine zlw_rd hx hb hX hbl hbA hw.2.2 hL (i := i) (j := i + 1) (by omega) (by omega) (lv_at hl 0 rfl) (lv_at hl 3 rfl) ez1 d_LW_law_374 d_LW_law_375 d_LW_law_376 d_LW_law_377 d_LW_law_378 ?_
        refine zlw_rd hx hb hX hbl hbA hw.2.2 hL (i := i) (j := i + 2) (by omega) (by omega) (lv_at hl 0 rfl) (lv_at hl 3 rfl) ez2 d_LW_law_379 d_LW_law_380 d_LW_law_381 d_LW_law_382 d_LW_law_383 ?_
        refine zq_callV (As := [.int (iI z1), .int (iI z2)]) (rest := [.int (iI r)]) ⟨hx, hb, hml, hown, hts⟩ (c_MM_rank l D K M1 o bd put pS pL nn cir sg lb kn arcs al on tw mns av po z1 z2 hM1 a14 a5 a8 hgd hmath hz1 hz2) (cwV 2 hts (zg_V tw_830 tw_831 tw_832 tw_10 tw_833) rfl rfl rfl (by decide +kernel) ⟨Nat.le_of_ble_eq_true rfl, Nat.le_of_ble_eq_true rfl⟩) hZ hw hA hoo rfl rfl rfl rfl hl.1 (Nat.le_of_ble_eq_true rfl) d_LW_law_384 ⟨Nat.le_of_ble_eq_true rfl, Nat.le_of_ble_eq_true rfl⟩ (fun v M2 H locs hp hw => ?_)
        obtain ⟨rfl, hI⟩ := hN _ _ hp
        refine W.eq (g2 := F0 m 387 ls [.int (iI r), .int (iI r)]) rfl ?_
        exact lv_icmp_eq (tgt := 438) hx hb d_LW_law_387 (by decide) (fun _ => hJ _ _ _ hI hw) (fun hc => absurd rfl hc)
      · subst h9
        refine lv_tableIn (tgt := 392) hx hb d_LW_law_33 (by decide) (by decide) rfl (by decide) ?_
        refine lv_aload_n hx hb d_LW_law_392 rfl (lv_at hl 1 rfl) ?_
        refine zlw_rd hx hb hX hbl hbA hw.2.2 hL (i := i) (j := i + 1) (by omega) (by omega) (lv_at hl 0 rfl) (lv_at hl 3 rfl) ez1 d_LW_law_393 d_LW_law_394 d_LW_law_395 d_LW_law_396 d_LW_law_397 ?_
        refine zq_callV (As := [.int (iI z1)]) (rest := []) ⟨hx, hb, hml, hown, hts⟩ (c_AM_change l D K M own ad S z1 hS hz1 (fun q => (a9 _ q.1 (by rw [← a6]; exact q.2)).2) (fun q => zok_change hS hR q)) (cwV 1 hts (zg_V tw_546 tw_547 tw_548 tw_1 tw_549) rfl rfl rfl (by decide +kernel) ⟨Nat.le_of_ble_eq_true rfl, Nat.le_of_ble_eq_true rfl⟩) hZ hw hA hxx rfl rfl rfl rfl hl.1 (Nat.le_of_ble_eq_true rfl) d_LW_law_398 ⟨Nat.le_of_ble_eq_true rfl, Nat.le_of_ble_eq_true rfl⟩ (fun v M1 H locs hp hw => ?_)
        obtain ⟨r, rfl, hM1, hN⟩ := zs_change hO hS hMM hR hp
        obtain ⟨fs, hoo⟩ := zMK_o hM1
        refine W.eq (g2 := F0 m 401 ls [.int (iI r)]) rfl ?_
        refine lv_aload_n hx hb d_LW_law_401 rfl (lv_at hl 2 rfl) ?_
        refine zlw_rd hx hb hX hbl hbA hw.2.2 hL (i := i) (j := i + 1) (by omega) (by omega) (lv_at hl 0 rfl) (lv_at hl 3 rfl) ez1 d_LW_law_402 d_LW_law_403 d_LW_law_404 d_LW_law_405 d_LW_law_406 ?_
        refine zq_callV (As := [.int (iI z1)]) (rest := [.int (iI r)]) ⟨hx, hb, hml, hown, hts⟩ (c_MM_change l D K M1 o bd put pS pL nn cir sg lb kn arcs al on tw mns av po z1 hM1 a5 hsk hz1) (cwV 1 hts (zg_V tw_844 tw_845 tw_846 tw_10 tw_847) rfl rfl rfl (by decide +kernel) ⟨Nat.le_of_ble_eq_true rfl, Nat.le_of_ble_eq_true rfl⟩) hZ hw hA hoo rfl rfl rfl rfl hl.1 (Nat.le_of_ble_eq_true rfl) d_LW_law_407 ⟨Nat.le_of_ble_eq_true rfl, Nat.le_of_ble_eq_true rfl⟩ (fun v M2 H locs hp hw => ?_)
        obtain ⟨rfl, hI⟩ := hN _ _ hp
        refine W.eq (g2 := F0 m 410 ls [.int (iI r), .int (iI r)]) rfl ?_
        exact lv_icmp_eq (tgt := 438) hx hb d_LW_law_410 (by decide) (fun _ => hJ _ _ _ hI hw) (fun hc => absurd rfl hc)
      · subst h9
        refine lv_tableIn (tgt := 415) hx hb d_LW_law_33 (by decide) (by decide) rfl (by decide) ?_
        refine lv_aload_n hx hb d_LW_law_415 rfl (lv_at hl 1 rfl) ?_
        refine zlw_rd hx hb hX hbl hbA hw.2.2 hL (i := i) (j := i + 1) (by omega) (by omega) (lv_at hl 0 rfl) (lv_at hl 3 rfl) ez1 d_LW_law_416 d_LW_law_417 d_LW_law_418 d_LW_law_419 d_LW_law_420 ?_
        refine zq_callV (As := [.int (iI z1)]) (rest := []) ⟨hx, hb, hml, hown, hts⟩ (c_AM_smooth l D K M own ad S z1 hS hz1 (fun q => zok_smooth hS hR q)) (cwV 1 hts (zg_V tw_556 tw_557 tw_558 tw_1 tw_559) rfl rfl rfl (by decide +kernel) ⟨Nat.le_of_ble_eq_true rfl, Nat.le_of_ble_eq_true rfl⟩) hZ hw hA hxx rfl rfl rfl rfl hl.1 (Nat.le_of_ble_eq_true rfl) d_LW_law_421 ⟨Nat.le_of_ble_eq_true rfl, Nat.le_of_ble_eq_true rfl⟩ (fun v M1 H locs hp hw => ?_)
        obtain ⟨r, rfl, hM1, hN⟩ := zs_smooth hO hS hMM hR hp
        obtain ⟨fs, hoo⟩ := zMK_o hM1
        refine W.eq (g2 := F0 m 424 ls [.int (iI r)]) rfl ?_
        refine lv_aload_n hx hb d_LW_law_424 rfl (lv_at hl 2 rfl) ?_
        refine zlw_rd hx hb hX hbl hbA hw.2.2 hL (i := i) (j := i + 1) (by omega) (by omega) (lv_at hl 0 rfl) (lv_at hl 3 rfl) ez1 d_LW_law_425 d_LW_law_426 d_LW_law_427 d_LW_law_428 d_LW_law_429 ?_
        refine zq_callV (As := [.int (iI z1)]) (rest := [.int (iI r)]) ⟨hx, hb, hml, hown, hts⟩ (c_MM_smooth l D K M1 o bd put pS pL nn cir sg lb kn arcs al on tw mns av po z1 hM1 a5 a8 hz1) (cwV 1 hts (zg_V tw_852 tw_853 tw_854 tw_10 tw_855) rfl rfl rfl (by decide +kernel) ⟨Nat.le_of_ble_eq_true rfl, Nat.le_of_ble_eq_true rfl⟩) hZ hw hA hoo rfl rfl rfl rfl hl.1 (Nat.le_of_ble_eq_true rfl) d_LW_law_430 ⟨Nat.le_of_ble_eq_true rfl, Nat.le_of_ble_eq_true rfl⟩ (fun v M2 H locs hp hw => ?_)
        obtain ⟨rfl, hI⟩ := hN _ _ hp
        refine W.eq (g2 := F0 m 433 ls [.int (iI r), .int (iI r)]) rfl ?_
        exact lv_icmp_eq (tgt := 438) hx hb d_LW_law_433 (by decide) (fun _ => hJ _ _ _ hI hw) (fun hc => absurd rfl hc)
      · refine lv_tableOut (tgt := 438) hx hb d_LW_law_33 (by rw [iI_toInt hz0]; exact h9) (by decide) ?_
        exact hJ _ _ _ ⟨ad, S, put, pS, pL, nn, cir, sg, lb, kn, arcs, al, on, tw, mns, av, po, rfl, hS, hMM, hR⟩ hw
set_option maxHeartbeats 4000000 in
set_option maxRecDepth 100000 in
/-- the law, from its entry -/
theorem whole_start {p : Program} {e : Env} {s : State} {m : MethodId} {below : List Frame} {meth : Method} {c : Code} (l : Launch) {b L : Nat} {xs : Nat → Int32} (hL : L ≤ 3072) (C0 : lw_At p s m meth c b L xs) : W p l e room_1 s m #[Value.ref b] below meth c s.heap [] 0 0 (lw_Z below #[Value.ref b] s) (entryFrame m ([Value.ref b] : List Value).toArray 4) := by
  obtain ⟨hx, hb, hr, hml, hown, hts0, hX, hbl, hlocks, hgv⟩ := id C0
  have hts : ∀ w ∈ lw_gd, w.before #[Value.ref b] s = true := fun w h => hts0 w (List.mem_filter.mp h).1
  have hown : s.vm.findClass "AlexanderMatrixLaw" = some m.cls := hown
  have hA : ∀ q : Nat, s.heap.size ≤ q → (fun q : Nat => s.heap.size ≤ q) q := fun _ h => h
  obtain ⟨D, K, hZ⟩ := zstart hts0
  have hw : zq_W D vwCl (fun q : Nat => s.heap.size ≤ q) s.heap (fun _ => none) s.heap [] := ⟨(fun a e h => nomatch h), (fun a e h => nomatch h), va_S.rf⟩
  have hl := lv_entry ([.ref b]) (n := 4) (Nat.le_of_ble_eq_true rfl)
  rw [lg_entry_eq]
  generalize (lg_sl ([.ref b]) ++ List.replicate (4 - (lg_sl ([.ref b])).length) Slot.unset).toArray = ls at hl ⊢
  have hl : lv_has ls 4 [(0, .ref b)] := hl
  refine zq_new (ci := 0) (fs := [.null, .null, .null, .null, .null, .null, .null, .null, .int (iI 0), .int (iI 0)]) hx hb hts i_AM t_AM t_AM_ok hown (hts _ tw_14) (hts _ tw_15) (hts _ tw_1) hZ.1 hw hA rfl (fun j hj => by rcases (show j = 0 ∨ j = 1 ∨ j = 2 ∨ j = 3 ∨ j = 4 ∨ j = 5 ∨ j = 6 ∨ j = 7 ∨ j = 8 ∨ j = 9 by omega) with rfl | rfl | rfl | rfl | rfl | rfl | rfl | rfl | rfl | rfl <;> rfl) (Nat.le_of_ble_eq_true rfl) (Nat.le_of_ble_eq_true rfl) d_LW_law_0 (fun x Ma H hqx hsx hox hw => ?_)
  refine lv_dup hx hb d_LW_law_3 rfl ?_
  refine zq_callI (C := "") (As := []) (rest := [.ref x]) ⟨hx, hb, hml, hown, hts⟩ (c_AM_init l D K Ma x hsx) (cwI 0 hts (zg_I tw_18) rfl rfl rfl (hts _ tw_1) (hts _ tw_16) (hts _ tw_17) rfl (by decide +kernel) ⟨Nat.le_of_ble_eq_true rfl, Nat.le_of_ble_eq_true rfl⟩) hZ hw hA rfl rfl hl.1 (Nat.le_of_ble_eq_true rfl) d_LW_law_4 ⟨Nat.le_of_ble_eq_true rfl, Nat.le_of_ble_eq_true rfl⟩ (fun v Mb H locs hp1 hw => ?_)
  have ev : v = none := hp1.1
  subst ev
  refine W.eq (g2 := F0 m 7 ls [.ref x]) rfl ?_
  refine lv_astore_n (lv' := [(1, .ref x), (0, .ref b)]) hx hb d_LW_law_7 rfl hl (by decide) rfl (fun ls hl => ?_)
  refine zq_new (ci := 9) (fs := [.int (iI 0), .int (iI 0), .int (iI 0), .null, .null, .int (iI 0), .int (iI 0), .int (iI 0), .int (iI 0), .null, .null, .null, .null, .int (iI 0), .null, .null, .null, .int (iI 0), .null, .int (iI 0), .null, .null, .null, .null, .int (iI 0), .null, .null, .null, .int (iI 0), .null]) hx hb hts i_MM t_MM t_MM_ok hown (hts _ tw_580) (hts _ tw_581) (hts _ tw_10) hZ.1 hw hA rfl (fun j hj => by rcases (show j = 0 ∨ j = 1 ∨ j = 2 ∨ j = 3 ∨ j = 4 ∨ j = 5 ∨ j = 6 ∨ j = 7 ∨ j = 8 ∨ j = 9 ∨ j = 10 ∨ j = 11 ∨ j = 12 ∨ j = 13 ∨ j = 14 ∨ j = 15 ∨ j = 16 ∨ j = 17 ∨ j = 18 ∨ j = 19 ∨ j = 20 ∨ j = 21 ∨ j = 22 ∨ j = 23 ∨ j = 24 ∨ j = 25 ∨ j = 26 ∨ j = 27 ∨ j = 28 ∨ j = 29 by omega) with rfl | rfl | rfl | rfl | rfl | rfl | rfl | rfl | rfl | rfl | rfl | rfl | rfl | rfl | rfl | rfl | rfl | rfl | rfl | rfl | rfl | rfl | rfl | rfl | rfl | rfl | rfl | rfl | rfl | rfl <;> rfl) (Nat.le_of_ble_eq_true rfl) (Nat.le_of_ble_eq_true rfl) d_LW_law_8 (fun o Mc H hqo hso hoo hw => ?_)
  refine lv_dup hx hb d_LW_law_11 rfl ?_
  refine zq_callI (C := "") (As := []) (rest := [.ref o]) ⟨hx, hb, hml, hown, hts⟩ (c_MM_init l D K Mc o hso) (cwI 0 hts (zg_I tw_584) rfl rfl rfl (hts _ tw_10) (hts _ tw_582) (hts _ tw_583) rfl (by decide +kernel) ⟨Nat.le_of_ble_eq_true rfl, Nat.le_of_ble_eq_true rfl⟩) hZ hw hA rfl rfl hl.1 (Nat.le_of_ble_eq_true rfl) d_LW_law_12 ⟨Nat.le_of_ble_eq_true rfl, Nat.le_of_ble_eq_true rfl⟩ (fun v Md H locs hp2 hw => ?_)
  have ev : v = none := hp2.1
  subst ev
  refine W.eq (g2 := F0 m 15 ls [.ref o]) rfl ?_
  refine lv_astore_n (lv' := [(2, .ref o), (1, .ref x), (0, .ref b)]) hx hb d_LW_law_15 rfl hl (by decide) rfl (fun ls hl => ?_)
  refine lv_iconst (v := iI 0) hx hb d_LW_law_16 rfl ?_
  refine lv_istore_n (lv' := [(3, .int (iI 0)), (2, .ref o), (1, .ref x), (0, .ref b)]) hx hb d_LW_law_17 rfl hl (by decide) rfl (fun ls hl => ?_)
  obtain ⟨own, bd, hO, hI⟩ := zLI_0 hp1 hqo hoo hp2
  refine W.widen (k := 375) (n := 124159) (by decide) (by decide) ?_
  exact zlaw hL C0 hZ hO (L + 7) 0 (by omega) (by omega) _ _ _ hI hw ls (lv_sub hl [3, 2, 1, 0] rfl)
