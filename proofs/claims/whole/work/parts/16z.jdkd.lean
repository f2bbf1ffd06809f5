section ZR
variable {p : Program} {l : Launch} {e : Env} {R : Room} {s : State} {m : MethodId} {args : Array Value} {below : List Frame} {meth : Method} {c : Code} {H H1 : Heap} {locs : List Loc} {cells slots : Nat} {Q : State → Prop}
variable {cc : ByteArray} {pc : Nat} {ls : Array Slot} {rest : List Value} {D : va_G} {cl : List vw_C} {A : Nat → Prop} {a : Nat} {tys : List (ClassId × FieldType)} {H0 : Heap} {M : zq_M}
theorem zq_alen (hx : p.tables.exec = Jvm.exec) (hb : c.code = cc) (hK : va_K D cl tys s) (hw : zq_W D cl A H0 M H locs) (t0 : Nat) {cA : ClassId} {n : Nat} {f : Int → Int} {ty : FieldType} (he : M a = some (cI cA n f)) (ht : tys[t0]? = some (cA, ty)) (hn : n ≤ 2147483647) (hdg : decode cc pc = .ok (.arraylength, 1))
    (kk : W p l e R s m args below meth c H locs cells slots Q (F0 m (pc + 1) ls (.int (iI (n : Int)) :: rest))) : W p l e R s m args below meth c H locs cells slots Q (F0 m pc ls (.ref a :: rest)) :=
  va_alen hx hb hK (hw.one he) 0 t0 rfl ht (by
    apply Int32.toInt_inj.mp
    rw [iI_toInt (by omega)]
    exact nI_toInt (by omega)) hdg kk
theorem zq_trem (hx : p.tables.exec = Jvm.exec) (hb : c.code = cc) {x y : Int} (hi : inI x) (hy : 0 < y) (hj : inI y) (hdg : decode cc pc = .ok (.irem, 1)) (k : W p l e R s m args below meth c H locs cells slots Q (F0 m (pc + 1) ls (.int (iI (x.tmod y)) :: rest))) : W p l e R s m args below meth c H locs cells slots Q (F0 m pc ls (.int (iI y) :: .int (iI x) :: rest)) :=
  lv_irem hx hb hdg (by rw [← iI_0, iI_eq hj (by omega)]; omega) (by
    have e : x - x.tdiv y * y = x.tmod y := by
      have h := Int.tmod_add_mul_tdiv x y
      rw [Int.mul_comm] at h
      omega
    rw [iI_tdiv hi hj (by omega), iI_mul, iI_sub, e]; exact k)
theorem iI_xor {x y : Int} (hi : inI x) (hj : inI y) (hy : 0 ≤ y) : (0 : Int32) ≤ iI x ^^^ iI y ↔ 0 ≤ x := by
  have hz : ∀ z : Int32, (0 : Int32) ≤ z ↔ z.toBitVec.msb = false := by
    intro z
    rw [Int32.le_iff_toInt_le, BitVec.msb_eq_toInt]
    show (0 : Int) ≤ z.toBitVec.toInt ↔ _
    simp
  have hm : ∀ {u : Int}, inI u → ((iI u).toBitVec.msb = false ↔ 0 ≤ u) := by
    intro u hu
    rw [← hz, ← iI_0, iI_le (by omega) hu]
  rw [hz, Int32.toBitVec_xor, BitVec.msb_xor, (hm hj).mpr hy, Bool.xor_false, hm hi]
theorem zq_xor_ge (hx : p.tables.exec = Jvm.exec) (hb : c.code = cc) {x y : Int} {off : Int} {tgt : Nat} (hdg0 : decode cc pc = .ok (.ixor, 1)) (hdg : decode cc (pc + 1) = .ok (.ifCond .ge off, 3)) (ht : ((pc + 1 : Nat) : Int) + off = (tgt : Int)) (hi : inI x) (hj : inI y) (hy : 0 ≤ y)
    (kt : 0 ≤ x → W p l e R s m args below meth c H locs cells slots Q (F0 m tgt ls rest)) (kf : ¬ 0 ≤ x → W p l e R s m args below meth c H locs cells slots Q (F0 m (pc + 4) ls rest)) : W p l e R s m args below meth c H locs cells slots Q (F0 m pc ls (.int (iI y) :: .int (iI x) :: rest)) := by
  refine lv_ixor hx hb hdg0 ?_
  refine lv_if_ge hx hb hdg ht (fun h => kt ((iI_xor hi hj hy).mp h)) (fun h => kf (fun z => h ((iI_xor hi hj hy).mpr z)))
/-- a cell's numbers beyond its length don't matter -/
theorem zq_normI (hw : zq_W D cl A H0 M H locs) {cA : ClassId} {n : Nat} {f g : Int → Int} (he : M a = some (cI cA n f)) (h : ∀ j, 0 ≤ j → j < (n : Int) → f j = g j) : ∃ M1 : zq_M, M1 a = some (cI cA n g) ∧ (∀ b, b ≠ a → M1 b = M b) ∧ zq_W D cl A H0 M1 H locs := by
  refine ⟨va_up M a (some (cI cA n g)), va_up_self _ _ _, fun b hb => va_up_ne _ _ hb, fun b x hb => ?_, fun b x hb => ?_, hw.2.2⟩
  · by_cases q : b = a
    · subst q
      rw [va_up_self] at hb
      obtain rfl := Option.some.inj hb
      have e : H[b]? = some (vp_cell cA (n, .inl (fun j => iI (f (j : Int))))) := hw.1 b _ he
      show H[b]? = some (vp_cell cA (n, .inl (fun j => iI (g (j : Int)))))
      rw [e, vp_cell_i, vp_cell_i]
      congr 1
      exact arrV_congr fun j hj => by rw [h j (by omega) (by omega)]
    · rw [va_up_ne _ _ q] at hb
      exact hw.1 b x hb
  · by_cases q : b = a
    · subst q
      exact hw.2.1 b _ he
    · rw [va_up_ne _ _ q] at hb
      exact hw.2.1 b x hb
theorem zq_startF {y : MethodName} {ws ws' : List Cond} {rm : Room} {av : List Value} {post : Option Value → zq_M → Prop} {mc ms maxL : Nat} {ret : Option FieldType} (hy : plainFor y = true) (hw : ws = Cond.code y cc maxL ret :: ws') (hav : (lg_sl av).length ≤ maxL)
    (body : ∀ (p : Program) (e : Env) (s : State) (m : MethodId) (below : List Frame) (meth : Method) (c : Code) (A : Nat → Prop) (ls : Array Slot), p.tables.exec = Jvm.exec → c.code = cc → meth.sig.returnType = ret → c.maxLocals = maxL → (∀ w ∈ ws, w.before av.toArray s = true) → s.vm.findClass y.cls = some m.cls → meth.name = y.name → meth.locks = false → (∀ q : Nat, s.heap.size ≤ q → A q) → zK D cl tys s → zq_W D cl A s.heap M s.heap [] → lv_has ls maxL (lv_args 0 av) →
      W p l e rm s m av.toArray below meth c s.heap [] 0 0 (MQ below (zq_Q D cl tys post A) av.toArray s mc ms A) (F0 m 0 ls [])) : zq_Met l y ws rm D cl tys av M post mc ms := by
  intro sz
  refine va_MetF (cc := cc) (maxL := maxL) (ret := ret) hy hw ?_
  intro p e s m args below meth c s₁ B hml hv
  obtain ⟨rfl, hsz, hP, hK⟩ := hv
  subst hsz
  have hts := atoms_spec (ws := ws) B.pre
  have hown : s.vm.findClass y.cls = some m.cls := findClass_of_methodNamed B.named
  have hnm : meth.name = y.name := (name_of_methodNamed B.named B.method).1
  rw [lg_entry_eq]
  exact body p e s m below meth c (zq_A M s.heap.size) _ B.exec B.bytes B.returns hml hts hown hnm B.notSynchronized (fun q h => Or.inr h) hK ⟨hP, fun a e h => Or.inl ⟨e, h⟩, va_S.rf⟩ (lv_entry av hav)
end ZR
theorem zmod_neg {x y : Int} (hy : 0 < y) (hx : ¬ 0 ≤ x) (h : ¬ x.tmod y = 0) : x.tmod y + y = x % y := by
  rw [Int.tmod_eq_emod]
  have h1 : ¬ (0 ≤ x ∨ y ∣ x) := by
    rintro (q | q)
    · exact hx q
    · exact h (Int.tmod_eq_zero_of_dvd q)
  rw [if_neg h1]
  omega
theorem zmod_zero {x y : Int} (h : x.tmod y = 0) : x.tmod y = x % y := by
  rw [h, Int.emod_eq_zero_of_dvd (Int.dvd_of_tmod_eq_zero h)]
theorem ztm_in {x y : Int} (hy : 0 < y) (hj : y ≤ 1000000) : -1000000 ≤ x.tmod y ∧ x.tmod y ≤ 1000000 := by
  have h1 := Int.tmod_lt_of_pos x hy
  have h2 := Int.lt_tmod_of_pos x hy
  omega
