section MNA
variable {p : Program} {l : Launch} {e : Env} {R : Room} {s : State} {m : MethodId} {args : Array Value} {below : List Frame} {meth : Method} {c : Code} {H H1 : Heap} {locs : List Loc} {cells slots : Nat} {Q : State → Prop}
variable {cc : ByteArray} {pc : Nat} {ls : Array Slot} {rest : List Value} {D : va_G} {cl : List vw_C} {A : Nat → Prop} {a : Nat} {H0 : Heap} {M : zq_M} {K : Nat → ClassId}
/-- where the making of a table stands: i rows of k ints are there -/
def zmn (p : Program) (l : Launch) (e : Env) (R : Room) (s : State) (m : MethodId) (args : Array Value) (below : List Frame) (meth : Method) (c : Code) (cells slots : Nat) (D : va_G) (cl : List vw_C) (A : Nat → Prop) (H0 : Heap) (M : zq_M) (K : Nat → ClassId) (vm₁ : Vm) (q n k i : Nat) (T : State) (M1 : zq_M) (locs : List Loc) : Prop :=
  Stand p l e R s m args below meth c T locs (cells + 1 + i) (slots + n + i * k) ∧ zq_W D cl A H0 M1 T.heap locs ∧ T.heap.size = q + 1 + i ∧ T.vm = vm₁ ∧ M1 q = some (cQ (K 4) n (fun j => if j < (i : Int) then some (q + 1 + j.toNat) else none)) ∧ (∀ j, j < i → M1 (q + 1 + j) = some (cI (K 0) k (fun _ => 0))) ∧ ∀ b, (b < q ∨ q + 1 + i ≤ b) → M1 b = M b
theorem zmn_0 {T : State} {vm₁ : Vm} {n k : Nat} (X : Stand p l e R s m args below meth c T locs cells slots) (hw : zq_W D cl A H0 M T.heap locs) (hA : ∀ q, H0.size ≤ q → A q) (hvm : T.vm = vm₁) :
    zmn p l e R s m args below meth c cells slots D cl A H0 M K vm₁ T.heap.size n k 0 (T.pushCell { cls := K 4, slots := Array.replicate n .null }) (va_up M T.heap.size (some (cQ (K 4) n (fun j => if j < ((0 : Nat) : Int) then some (T.heap.size + 1 + j.toNat) else none)))) locs := by
  have h := X.pushed { cls := K 4, slots := Array.replicate n .null }
  have z : (T.pushCell { cls := K 4, slots := Array.replicate n .null }).heap.size = T.heap.size + 1 := by simp [State.pushCell]
  refine ⟨by simpa using h, hw.new hA ?_ z (fun q hq => State.heap_pushCell_of_lt _ _ hq), by rw [z], hvm, va_up_self _ _ _, fun j hj => absurd hj (Nat.not_lt_zero _), fun b hb => va_up_ne _ _ (by omega)⟩
  show (T.pushCell _).heap[T.heap.size]? = some (vp_cell _ _)
  rw [vp_cell_q, State.heap_pushCell_size, arrV_new]
  refine congrArg some (congrArg (arrV (K 4) n) (funext fun j => ?_))
  show Value.null = va_rf (if (j : Int) < ((0 : Nat) : Int) then _ else none)
  rw [if_neg (show ¬ (j : Int) < ((0 : Nat) : Int) by omega)]
  rfl
theorem zmn_s {T : State} {vm₁ : Vm} {n k q i : Nat} {M1 : zq_M} (hi : i < n) (hA : ∀ q, H0.size ≤ q → A q) (X : zmn p l e R s m args below meth c cells slots D cl A H0 M K vm₁ q n k i T M1 locs) :
    ∃ M2 cell, (T.pushCell { cls := K 0, slots := Array.replicate k (.int 0) }).heap[q]? = some cell ∧ cell.cls = K 4 ∧ cell.vm = .none ∧ cell.slots.size = n ∧ zmn p l e R s m args below meth c cells slots D cl A H0 M K vm₁ q n k (i + 1) ((T.pushCell { cls := K 0, slots := Array.replicate k (.int 0) }).setCell q (cell.setSlot i (.ref (q + 1 + i)))) M2 (locs ++ [⟨q, i⟩]) := by
  obtain ⟨x1, x2, x3, x4, x5, x6, x7⟩ := X
  have hlt : q < T.heap.size := by omega
  have hat0 := x2.1 q _ x5
  have hat : T.heap[q]? = some (arrV (K 4) n (fun j => va_rf (if (j : Int) < (i : Int) then some (q + 1 + (j : Int).toNat) else none))) := hat0
  have hX := x1.pushed { cls := K 0, slots := Array.replicate k (.int 0) }
  have hc : (T.pushCell { cls := K 0, slots := Array.replicate k (.int 0) }).heap[q]? = some (arrV (K 4) n (fun j => va_rf (if (j : Int) < (i : Int) then some (q + 1 + (j : Int).toNat) else none))) := by rw [State.heap_pushCell_of_lt (h := hlt)]; exact hat
  have z1 : (T.pushCell { cls := K 0, slots := Array.replicate k (.int 0) }).heap.size = T.heap.size + 1 := by simp [State.pushCell]
  have hw1 : zq_W D cl A H0 (va_up M1 T.heap.size (some (cI (K 0) k (fun _ => 0)))) (T.pushCell { cls := K 0, slots := Array.replicate k (.int 0) }).heap locs := by
    refine x2.new hA ?_ z1 (fun q hq => State.heap_pushCell_of_lt _ _ hq)
    show (T.pushCell _).heap[T.heap.size]? = some (vp_cell _ _)
    rw [vp_cell_i, State.heap_pushCell_size, arrV_new]
    rfl
  have hq1 : va_up M1 T.heap.size (some (cI (K 0) k (fun _ => 0))) q = some (cQ (K 4) n (fun j => if j < (i : Int) then some (q + 1 + j.toNat) else none)) := by rw [va_up_ne _ _ (by omega)]; exact x5
  refine ⟨_, _, hc, rfl, rfl, arrV_size _ _ _, ?_, hw1.put (y := cQ (K 4) n (fun j => if j < ((i + 1 : Nat) : Int) then some (q + 1 + j.toNat) else none)) hq1 ?_ ?_ ?_, ?_, x4, va_up_self _ _ _, fun j hj => ?_, fun b hb => ?_⟩
  · have h := hX.stored hc i (.ref (q + 1 + i))
    have e3 : slots + n + (i + 1) * k = slots + n + i * k + k := by rw [Nat.succ_mul]; omega
    rw [e3, show cells + 1 + (i + 1) = cells + 1 + i + 1 from rfl]
    have e4 : ({ cls := K 0, slots := Array.replicate k (.int 0) } : Cell).slots.size = k := by simp
    rw [e4] at h
    exact h
  · show (State.setCell _ _ _).heap[q]? = some (vp_cell _ _)
    rw [vp_cell_q, State.heap_setCell_self hc, arrV_store]
    refine congrArg some (congrArg (arrV (K 4) n) (funext fun j => ?_))
    unfold updV
    by_cases h : j = i
    · subst h
      rw [if_pos rfl]
      show Value.ref (q + 1 + j) = va_rf (if (j : Int) < ((j + 1 : Nat) : Int) then some (q + 1 + (j : Int).toNat) else none)
      rw [if_pos (show (j : Int) < ((j + 1 : Nat) : Int) by omega)]
      rfl
    · rw [if_neg h]
      by_cases h2 : (j : Int) < (i : Int)
      · show va_rf _ = va_rf _
        rw [if_pos h2]
        exact congrArg va_rf (if_pos (by omega)).symm
      · show va_rf _ = va_rf _
        rw [if_neg h2]
        exact congrArg va_rf (if_neg (by omega)).symm
  · rw [size_setCell]
  · exact fun b hb => State.heap_setCell_other (Ne.symm hb)
  · rw [size_setCell, z1, x3]; omega
  · rw [va_up_ne _ _ (by omega)]
    by_cases h : j = i
    · subst h
      rw [show q + 1 + j = T.heap.size from by omega, va_up_self]
    · rw [va_up_ne _ _ (by omega)]; exact x6 j (by omega)
  · rw [va_up_ne _ _ (by omega), va_up_ne _ _ (by omega)]; exact x7 b (by omega)
/-- the state behind i rows -/
def zmt (K : Nat → ClassId) (T : State) (n k : Nat) : Nat → State
  | 0 => T.pushCell { cls := K 4, slots := Array.replicate n .null }
  | i + 1 => ((zmt K T n k i).pushCell { cls := K 0, slots := Array.replicate k (.int 0) }).setCell T.heap.size (((((zmt K T n k i).pushCell { cls := K 0, slots := Array.replicate k (.int 0) }).heap[T.heap.size]?).getD { cls := K 0, slots := #[] }).setSlot i (.ref (T.heap.size + 1 + i)))
theorem zmt_s {T : State} {n k i : Nat} {cell : Cell} (h : ((zmt K T n k i).pushCell { cls := K 0, slots := Array.replicate k (.int 0) }).heap[T.heap.size]? = some cell) : ((zmt K T n k i).pushCell { cls := K 0, slots := Array.replicate k (.int 0) }).setCell T.heap.size (cell.setSlot i (.ref (T.heap.size + 1 + i))) = zmt K T n k (i + 1) := by
  show _ = ((zmt K T n k i).pushCell _).setCell T.heap.size (((((zmt K T n k i).pushCell _).heap[T.heap.size]?).getD _).setSlot i (.ref (T.heap.size + 1 + i)))
  rw [h]
  rfl
theorem zmn_all {T : State} {vm₁ : Vm} {n k : Nat} (X : Stand p l e R s m args below meth c T locs cells slots) (hw : zq_W D cl A H0 M T.heap locs) (hA : ∀ q, H0.size ≤ q → A q) (hvm : T.vm = vm₁) :
    ∀ i, i ≤ n → ∃ M1 locs1, zmn p l e R s m args below meth c cells slots D cl A H0 M K vm₁ T.heap.size n k i (zmt K T n k i) M1 locs1
  | 0, _ => ⟨_, _, zmn_0 X hw hA hvm⟩
  | i + 1, hi => by
    obtain ⟨M1, locs1, h⟩ := zmn_all (n := n) (k := k) X hw hA hvm i (by omega)
    obtain ⟨M2, cell, c1, -, -, -, h2⟩ := zmn_s (n := n) (k := k) (show i < n by omega) hA h
    rw [zmt_s c1] at h2
    exact ⟨_, _, h2⟩
theorem zmn_wp {E : CtlPost} {d : Bool} {acts : List Action} {T : State} {vm₁ : Vm} {n k : Nat} {g : JFrame} {nn kk : Int32} {kA kC : Class} {cC : ClassId} (hnn : nn.toNatClampNeg = n) (hkk : kk.toNatClampNeg = k) (hn0 : ¬ nn < 0) (hk0 : ¬ kk < 0) (hn : n ≤ 1000) (hk : k ≤ 1000)
    (hA : ∀ q, H0.size ≤ q → A q) (X : Stand p l e R s m args below meth c T locs cells slots) (hw : zq_W D cl A H0 M T.heap locs) (hvm : T.vm = vm₁) (h4 : vm₁.classes[K 4]? = some kA) (h4k : kA.kind = .array (K 0) (.array .int)) (h0 : vm₁.classes[K 0]? = some kC) (h0k : kC.kind = .array cC .int)
    (hcells : cells + (1 + n) ≤ R.cells) (hslots : slots + (n + n * k) ≤ R.slots) {Q : Addr → Pre}
    (hq : ∀ d' acts', Q T.heap.size d' acts' ((zmt K T n k n).setTop g)) :
    wp (Op.multianewarray.make (K 4) [nn, kk]) Q E e d acts (T.setTop g) := by
  have hl : ∀ x, x ≤ 1000 → ¬ x > e.platform.arrayLengthLimit := fun x hx => by rw [Launch.admits_arrayLengthLimit X.admits]; omega
  have hh : ∀ x b, x ≤ 1000 → b ≤ 8 → ¬ x * b > e.platform.maxHeapBytes := fun x b hx hb => by
    rw [Launch.admits_maxHeapBytes X.admits]
    have := Nat.mul_le_mul hx hb
    omega
  obtain ⟨r1, r2⟩ := X.roomAbove hcells hslots
  have hfind : ([kk].find? (· < 0)) = none := by simp [hk0]
  rw [Op.multianewarray.make]
  simp only [wp_bind', W.ite, hn0, if_false, wp_pure', W.theClass, State.vm_setTop, hvm, h4, h4k, Option.some.injEq, exists_eq_left', hnn]
  refine W.newArray_of (comp := K 0) (type := .array .int) (by rw [State.vm_setTop, hvm]; exact h4) h4k (hl _ hn) (hh _ _ hn (by decide)) (by show T.heap.size < _; omega) (by show T.slotsUsed + _ ≤ _; omega) rfl (fun acts1 => ?_)
  simp only [hfind]
  rw [ite_self, wp_bind', Std.Legacy.Range.forIn_eq_forIn_range']
  have hsz : ([:n] : Std.Legacy.Range).size = n := by simp [Std.Legacy.Range.size]
  rw [hsz]
  show wp (forIn (List.range' 0 n 1) PUnit.unit _) _ E e d acts1 _
  refine wp_forIn_inv (fun rest s' => ∃ i T' M' locs', i ≤ n ∧ rest = List.range' i (n - i) ∧ s' = T'.setTop g ∧ T' = zmt K T n k i ∧ zmn p l e R s m args below meth c cells slots D cl A H0 M K vm₁ T.heap.size n k i T' M' locs') _ _ ⟨0, _, _, _, Nat.zero_le _, rfl, by rw [State.pushCell_setTop]; rfl, rfl, zmn_0 X hw hA hvm⟩ ?_ ?_
  · rintro x rest s' d' acts' Q' ⟨i, T', M', locs', hi, hr, rfl, hTd, hZ⟩ hnext
    have hlt : i < n := by
      rcases Nat.lt_or_ge i n with h | h
      · exact h
      · rw [show n - i = 0 from by omega] at hr; simp at hr
    rw [show n - i = (n - (i + 1)) + 1 from by omega, List.range'_succ] at hr
    obtain ⟨rfl, hrest⟩ := List.cons.inj hr
    obtain ⟨M2, cell, c1, c2, c3, c4, hZ2⟩ := zmn_s hlt hA hZ
    have hmul : x * k + k ≤ n * k := by
      have := Nat.mul_le_mul_right k (show x + 1 ≤ n from hlt)
      rw [Nat.succ_mul] at this; exact this
    obtain ⟨q1, q2⟩ := hZ.1.roomAbove (a := 1) (b := k) (by omega) (by omega)
    simp only [wp_bind']
    rw [Op.multianewarray.make]
    simp only [wp_bind', W.ite, hk0, if_false, wp_pure', W.theClass, State.vm_setTop, hZ.2.2.2.1, h0, h0k, Option.some.injEq, exists_eq_left', hkk]
    refine W.newArray_of (comp := cC) (type := .int) (by rw [State.vm_setTop, hZ.2.2.2.1]; exact h0) h0k (hl _ hk) (hh _ _ hk (by decide)) (by show T'.heap.size < _; omega) (by show T'.slotsUsed + _ ≤ _; omega) rfl (fun acts2 => ?_)
    simp only [wp_bind', W.writeLoc, wp_pure']
    refine ⟨cell, by rw [State.pushCell_setTop, State.heap_setTop]; exact c1, by rw [c3]; simp, by rw [c4]; exact hlt, ?_, hnext _ _ _ ⟨x + 1, _, _, _, hlt, hrest, ?_, ?_, hZ2⟩⟩
    · rw [c2, c3]
      simp [State.fitsSlot, State.slotType?, hZ.2.2.2.1, h4, h4k]
      rfl
    · rw [State.pushCell_setTop, State.setCell_setTop, show (T'.setTop g).heap.size = T.heap.size + 1 + x from hZ.2.2.1]
      rfl
    · subst hTd
      exact zmt_s c1
  · rintro s' d' acts' ⟨i, T', M', locs', hi, hr, rfl, hTd, hZ⟩
    have hiN : i = n := by
      rcases Nat.lt_or_ge i n with h | h
      · rw [show n - i = (n - (i + 1)) + 1 from by omega, List.range'_succ] at hr; cases hr
      · omega
    subst hiN
    subst hTd
    simp only [wp_pure']
    exact hq _ _
theorem zq_newG (hx : p.tables.exec = Jvm.exec) (hb : c.code = cc) {own : String} {index : Nat} (hown : s.vm.findClass own = some m.cls) (hclink : (Cond.classLink own index "[[I").before args s = true) (hZ : zK D cl (zT K) s) (hw : zq_W D cl A H0 M H locs) (hA : ∀ q, H0.size ≤ q → A q)
    (hcells : cells + 13 ≤ R.cells) (hslots : slots + 408 ≤ R.slots) (hdg : decode cc pc = .ok (.multianewarray index 2, 4))
    (kk : ∀ (q : Nat) (ra : Int → Nat) (M1 : zq_M) (H1 : Heap) (locs1 : List Loc), M q = none → (∀ i, 0 ≤ i → i < 12 → M (ra i) = none) → (∀ i, 0 ≤ i → i < 12 → ra i ≠ q) → zG K M1 q ra (fun _ _ => 0) → (∀ b, b ≠ q → (∀ i, 0 ≤ i → i < 12 → b ≠ ra i) → M1 b = M b) → zq_W D cl A H0 M1 H1 locs1 → W p l e R s m args below meth c H1 locs1 (cells + 13) (slots + 408) Q (F0 m (pc + 4) ls (.ref q :: rest))) : W p l e R s m args below meth c H locs cells slots Q (F0 m pc ls (.int (iI 33) :: .int (iI 12) :: rest)) := by
  intro T hT X
  subst hT; subst hb
  have hK := hZ.1
  obtain ⟨comp, cA, kA, hcomp, -, hkA, hkindA, hnameA⟩ := zAO_spec hZ.2.2
  have n4 := (hK.2 4 _ rfl).2
  have n0 := (hK.2 0 _ rfl).2
  have e4 : cA = K 4 := Option.some.inj (hnameA.symm.trans n4)
  have e0 : comp = K 0 := Option.some.inj (hcomp.symm.trans n0)
  subst e4; subst e0
  obtain ⟨cC, kC, hkC, hkindC⟩ : ∃ cC kC, s.vm.classes[K 0]? = some kC ∧ kC.kind = .array cC .int := by
    obtain ⟨-, kC, h1, cC, h2⟩ := (hK.2 0 _ rfl).1 0 (fun _ => .null)
    exact ⟨_, _, h1, h2⟩
  have hpl : e.platform.magicAccessors = ({} : Platform).magicAccessors := by rw [X.admits.platform]
  obtain ⟨c0, hfc0, hcl⟩ := Cond.classLink_spec hown hclink e.platform hpl
  have ec0 : K 4 = c0 := Option.some.inj (n4.symm.trans hfc0)
  subst ec0
  obtain ⟨hg₁, hwarm₁, hready₁⟩ := State.classEntry (e := e) X.warmed hcl
  generalize T.vm.noted m.cls index (.cls (K 4)) = vm₁ at hg₁ hwarm₁ hready₁
  have hal : s.vm.Alike vm₁ := hwarm₁.alike
  obtain ⟨kA₁, hkA₁, heA⟩ := hal.2.2 _ _ hkA
  obtain ⟨kC₁, hkC₁, heC⟩ := hal.2.2 _ _ hkC
  have hkindA₁ : kA₁.kind = .array (K 0) (.array .int) := by rw [heA]; exact hkindA
  have hkindC₁ : kC₁.kind = .array cC .int := by rw [heC]; exact hkindC
  have X₁ := X.noted hwarm₁
  obtain ⟨g, hgd⟩ : ∃ g : JFrame, g = F0 m pc ls (.int (iI 33) :: .int (iI 12) :: rest) := ⟨_, rfl⟩
  have hg : g.method = m := by rw [hgd]
  have hpc : decode c.code g.pc = .ok (.multianewarray index 2, 4) := by rw [hgd]; exact hdg
  have hstack : g.stack = .int (iI 33) :: .int (iI 12) :: rest := by rw [hgd]
  have hnx : ({ g with pc := g.pc + 4, stack := .ref T.heap.size :: rest } : JFrame) = F0 m (pc + 4) ls (.ref T.heap.size :: rest) := by rw [hgd]
  have hh1 := X.here
  have hm1 := X₁.here
  rw [← hg] at hg₁ hh1 hm1
  rw [← hgd]
  suffices hgo : ∀ t, Steps p.tables e below ((zmt K (T.setVm vm₁) 12 33 12).setTop { g with pc := g.pc + 4, stack := .ref T.heap.size :: rest }) t → Steps p.tables e below (T.setTop g) t by
    have hfin : ∀ T' M' locs', zmn p l e R s m args below meth c cells slots D cl A H0 M K vm₁ T.heap.size 12 33 12 T' M' locs' → ∃ t, Steps p.tables e below (T'.setTop { g with pc := g.pc + 4, stack := .ref T.heap.size :: rest }) t ∧ Q t := by
      intro T' M' locs' hZ'
      rw [hnx]
      obtain ⟨x1, x2, x3, x4, x5, x6, x7⟩ := hZ'
      refine kk T.heap.size (fun i => T.heap.size + 1 + i.toNat) (va_up M' T.heap.size (some (cQ (K 4) 12 (fun i => some (T.heap.size + 1 + i.toNat))))) T'.heap locs' hw.fresh (fun i h1 h2 => ?_) (fun i _ _ => by show T.heap.size + 1 + i.toNat ≠ _; omega) ⟨va_up_self _ _ _, fun i h1 h2 => ?_, fun i j h1 h2 h3 h4 h5 => by have h6 : T.heap.size + 1 + i.toNat = T.heap.size + 1 + j.toNat := h5; omega⟩ (fun b h1 h2 => ?_) ⟨fun b eb hb => ?_, fun b eb hb => ?_, x2.2.2⟩ T' rfl x1
      · cases hq : M (T.heap.size + 1 + i.toNat) with
        | none => rfl
        | some x => exact absurd (hw.1 _ _ hq).lt (by show ¬ T.heap.size + 1 + i.toNat < T.heap.size; omega)
      · rw [va_up_ne _ _ (by show T.heap.size + 1 + i.toNat ≠ _; omega)]; exact x6 _ (by omega)
      · rw [va_up_ne _ _ h1]
        refine x7 b ?_
        by_cases hlt : b < T.heap.size
        · exact Or.inl hlt
        · by_cases hge : T.heap.size + 1 + 12 ≤ b
          · exact Or.inr hge
          · exact absurd (show b = T.heap.size + 1 + ((b - T.heap.size - 1 : Nat) : Int).toNat by omega) (h2 ((b - T.heap.size - 1 : Nat) : Int) (by omega) (by omega))
      · by_cases q : b = T.heap.size
        · subst q
          rw [va_up_self] at hb
          obtain rfl := Option.some.inj hb
          have h9 : T'.heap[T.heap.size]? = some (arrV (K 4) 12 (fun j => va_rf (if (j : Int) < ((12 : Nat) : Int) then some (T.heap.size + 1 + (j : Int).toNat) else none))) := x2.1 _ _ x5
          show T'.heap[T.heap.size]? = some (arrV (K 4) 12 (fun j => va_rf (some (T.heap.size + 1 + (j : Int).toNat))))
          rw [h9]
          refine congrArg some ?_
          unfold arrV
          refine congrArg (fun z => ({ cls := K 4, slots := z, vm := .none } : Cell)) ?_
          refine Array.ext (by simp) (fun j h1 h2 => ?_)
          simp only [Array.size_ofFn] at h1
          simp only [Array.getElem_ofFn]
          rw [if_pos (by omega)]
        · rw [va_up_ne _ _ q] at hb
          exact x2.1 b eb hb
      · by_cases q : b = T.heap.size
        · subst q
          exact x2.2.1 _ _ x5
        · rw [va_up_ne _ _ q] at hb
          exact x2.2.1 b eb hb
    obtain ⟨M', locs', hZ'⟩ := zmn_all (n := 12) (k := 33) (K := K) X₁ hw hA rfl 12 (Nat.le_refl _)
    obtain ⟨t, a1, b1⟩ := hfin _ _ _ hZ'
    exact ⟨t, hgo t a1, b1⟩
  intro t hk
  jvm_step hh1 [hx, hpc]
  simp only [Op.multianewarray.sem, wp_bind', W.resolveClassAt_links (State.method?_setTop g hh1.top) hg₁]
  rw [W.popN, if_neg (by decide)]
  refine ⟨g, State.topJava?_setTop' (s := T.setVm vm₁) g X.here.top, [.int (iI 12), .int (iI 33)], rest, rfl, hstack, ?_⟩
  simp only [List.mapM_cons, List.mapM_nil, wp_bind', wp_pure']
  have eS : ((T.setTop g).setVm vm₁).setTop { g with stack := rest } = (T.setVm vm₁).setTop { g with stack := rest } := by
    show ((T.setVm vm₁).setTop g).setTop _ = _
    rw [State.setTop_setTop]
  rw [eS]
  refine zmn_wp (n := 12) (k := 33) (g := { g with stack := rest }) (kA := kA₁) (kC := kC₁) (cC := cC) (by decide) (by decide) (by decide) (by decide) (by decide) (by decide) hA X₁ hw rfl hkA₁ hkindA₁ hkC₁ hkindC₁ hcells hslots (fun d' acts' => ?_)
  obtain ⟨M', locs', hZ'⟩ := zmn_all (n := 12) (k := 33) (K := K) X₁ hw hA rfl 12 (Nat.le_refl _)
  have hT' := hZ'.1.here.top
  simp only [wp_bind', W.mark, W.pushRef, State.topJava?_setTop' _ hT', Option.some.injEq, exists_eq_left', State.setTop_setTop, State.heap_setTop]
  intro acts
  simp [jvm, hT']
  exact hk
end MNA
