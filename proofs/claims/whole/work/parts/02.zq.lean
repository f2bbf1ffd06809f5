/-! Worlds as functions: M says of each address which cell lies there; ints and longs are told by whole numbers. -/
def iI (z : Int) : Int32 := Int32.ofInt z
def iL (z : Int) : Int64 := Int64.ofInt z
abbrev inI (z : Int) : Prop := -2147483648 ≤ z ∧ z < 2147483648
abbrev inL (z : Int) : Prop := -9223372036854775808 ≤ z ∧ z < 9223372036854775808
theorem iI_toInt {z : Int} (h : inI z) : (iI z).toInt = z := Int32.toInt_ofInt_of_le (by omega) (by omega)
theorem iL_toInt {z : Int} (h : inL z) : (iL z).toInt = z := Int64.toInt_ofInt_of_le (by omega) (by omega)
theorem iI_add (a b : Int) : iI a + iI b = iI (a + b) := (Int32.ofInt_add a b).symm
theorem iI_sub (a b : Int) : iI a - iI b = iI (a - b) := (Int32.ofInt_sub a b).symm
theorem iI_mul (a b : Int) : iI a * iI b = iI (a * b) := (Int32.ofInt_mul a b).symm
theorem iI_neg (a : Int) : -iI a = iI (-a) := (Int32.ofInt_neg a).symm
theorem iL_add (a b : Int) : iL a + iL b = iL (a + b) := (Int64.ofInt_add a b).symm
theorem iL_sub (a b : Int) : iL a - iL b = iL (a - b) := (Int64.ofInt_sub a b).symm
theorem iL_mul (a b : Int) : iL a * iL b = iL (a * b) := (Int64.ofInt_mul a b).symm
theorem iL_neg (a : Int) : -iL a = iL (-a) := (Int64.ofInt_neg a).symm
theorem iI_lt {a b : Int} (ha : inI a) (hb : inI b) : iI a < iI b ↔ a < b := by rw [Int32.lt_iff_toInt_lt, iI_toInt ha, iI_toInt hb]
theorem iI_le {a b : Int} (ha : inI a) (hb : inI b) : iI a ≤ iI b ↔ a ≤ b := by rw [Int32.le_iff_toInt_le, iI_toInt ha, iI_toInt hb]
theorem iI_eq {a b : Int} (ha : inI a) (hb : inI b) : iI a = iI b ↔ a = b := by rw [← Int32.toInt_inj, iI_toInt ha, iI_toInt hb]
theorem iL_lt {a b : Int} (ha : inL a) (hb : inL b) : iL a < iL b ↔ a < b := by rw [Int64.lt_iff_toInt_lt, iL_toInt ha, iL_toInt hb]
theorem iL_eq {a b : Int} (ha : inL a) (hb : inL b) : iL a = iL b ↔ a = b := by rw [← Int64.toInt_inj, iL_toInt ha, iL_toInt hb]
theorem iI_0 : iI 0 = 0 := rfl
theorem iL_0 : iL 0 = 0 := rfl
theorem iI_of (x : Int32) : x = iI x.toInt := (Int32.ofInt_toInt x).symm
theorem iI_in (x : Int32) : inI x.toInt := ⟨Int32.le_toInt x, Int32.toInt_lt x⟩
theorem iI_clamp {z : Int} (h : inI z) : (iI z).toNatClampNeg = z.toNat := by
  show (iI z).toInt.toNat = z.toNat
  rw [iI_toInt h]
theorem iI_l {z : Int} (h : inI z) : (iI z).toInt64 = iL z := by
  apply Int64.toInt_inj.mp
  rw [Int32.toInt_toInt64, iI_toInt h, iL_toInt (by omega)]
theorem iI_vp {z : Int} {n : Nat} (h0 : 0 ≤ z) (h1 : z < n) (hn : n ≤ 2147483647) : vp_in (iI z) n := by
  rw [vp_in_iff, iI_toInt (by omega)]
  omega
theorem iI_tdiv {a b : Int} (ha : inI a) (hb : inI b) (hne : ¬ (a = -2147483648 ∧ b = -1)) : iI a / iI b = iI (a.tdiv b) := by
  have hq : inI (a.tdiv b) := by
    rcases Int.lt_trichotomy b 0 with h | h | h
    · rcases Int.lt_or_le a 0 with g | g
      · have e : a.tdiv b = (-a).tdiv (-b) := by rw [Int.neg_tdiv_neg]
        rw [e]
        have h1 : 0 ≤ (-a).tdiv (-b) := Int.tdiv_nonneg (by omega) (by omega)
        rcases Int.lt_or_le 1 (-b) with k | k
        · have h2 : (-a).tdiv (-b) * (-b) ≤ -a := by
            rw [Int.tdiv_eq_ediv_of_nonneg (by omega)]
            exact Int.ediv_mul_le _ (by omega)
          have h3 : (-a).tdiv (-b) * 2 ≤ (-a).tdiv (-b) * (-b) := Int.mul_le_mul_of_nonneg_left (by omega) h1
          omega
        · have e2 : -b = 1 := by omega
          rw [e2, Int.tdiv_one]
          omega
      · have e : a.tdiv b = -(a.tdiv (-b)) := by rw [Int.tdiv_neg, Int.neg_neg]
        rw [e]
        have h1 : 0 ≤ a.tdiv (-b) := Int.tdiv_nonneg (by omega) (by omega)
        have h2 : a.tdiv (-b) ≤ a := Int.tdiv_le_self _ (by omega)
        omega
    · subst h
      rw [Int.tdiv_zero]
      omega
    · rcases Int.lt_or_le a 0 with g | g
      · have e : a.tdiv b = -((-a).tdiv b) := by rw [Int.neg_tdiv, Int.neg_neg]
        rw [e]
        have h1 : 0 ≤ (-a).tdiv b := Int.tdiv_nonneg (by omega) (by omega)
        have h2 : (-a).tdiv b ≤ -a := Int.tdiv_le_self _ (by omega)
        omega
      · have h1 : 0 ≤ a.tdiv b := Int.tdiv_nonneg (by omega) (by omega)
        have h2 : a.tdiv b ≤ a := Int.tdiv_le_self _ (by omega)
        omega
  apply Int32.toInt_inj.mp
  rw [Int32.toInt_div, iI_toInt ha, iI_toInt hb, iI_toInt hq]
  exact Int.bmod_eq_of_le (by omega) (by omega)
theorem iL_tdiv {a b : Int} (ha : inL a) (hb : inL b) (hne : a ≠ -9223372036854775808) : iL a / iL b = iL (a.tdiv b) := by
  have hq : inL (a.tdiv b) := by
    rcases Int.lt_trichotomy b 0 with h | h | h
    · rcases Int.lt_or_le a 0 with g | g
      · have e : a.tdiv b = (-a).tdiv (-b) := by rw [Int.neg_tdiv_neg]
        rw [e]
        have h1 : 0 ≤ (-a).tdiv (-b) := Int.tdiv_nonneg (by omega) (by omega)
        have h2 : (-a).tdiv (-b) ≤ -a := Int.tdiv_le_self _ (by omega)
        omega
      · have e : a.tdiv b = -(a.tdiv (-b)) := by rw [Int.tdiv_neg, Int.neg_neg]
        rw [e]
        have h1 : 0 ≤ a.tdiv (-b) := Int.tdiv_nonneg (by omega) (by omega)
        have h2 : a.tdiv (-b) ≤ a := Int.tdiv_le_self _ (by omega)
        omega
    · subst h
      rw [Int.tdiv_zero]
      omega
    · rcases Int.lt_or_le a 0 with g | g
      · have e : a.tdiv b = -((-a).tdiv b) := by rw [Int.neg_tdiv, Int.neg_neg]
        rw [e]
        have h1 : 0 ≤ (-a).tdiv b := Int.tdiv_nonneg (by omega) (by omega)
        have h2 : (-a).tdiv b ≤ -a := Int.tdiv_le_self _ (by omega)
        omega
      · have h1 : 0 ≤ a.tdiv b := Int.tdiv_nonneg (by omega) (by omega)
        have h2 : a.tdiv b ≤ a := Int.tdiv_le_self _ (by omega)
        omega
  apply Int64.toInt_inj.mp
  rw [Int64.toInt_div, iL_toInt ha, iL_toInt hb, iL_toInt hq]
  exact Int.bmod_eq_of_le (by omega) (by omega)
/-- a function on whole numbers, changed at one place -/
def zu {α : Type} (f : Int → α) (k : Int) (v : α) : Int → α := fun j => if j = k then v else f j
theorem zu_self {α : Type} (f : Int → α) (k : Int) (v : α) : zu f k v k = v := by simp [zu]
theorem zu_ne {α : Type} (f : Int → α) {k j : Int} (v : α) (h : j ≠ k) : zu f k v j = f j := by simp [zu, h]
abbrev zq_M : Type := Nat → Option va_E
/-- arrays of ints (of booleans), of longs, of references -/
abbrev cI (k : ClassId) (n : Nat) (f : Int → Int) : va_E := .inl (k, n, .inl (fun j => iI (f (j : Int))))
abbrev cJ (k : ClassId) (n : Nat) (f : Int → Int) : va_E := .inl (k, n, .inr (.inl (fun j => iL (f (j : Int)))))
abbrev cQ (k : ClassId) (n : Nat) (g : Int → Option Nat) : va_E := .inl (k, n, .inr (.inr (.inr (.inr (fun j => g (j : Int))))))
def zq_H (D : va_G) (cl : List vw_C) (M : zq_M) (H : Heap) : Prop := ∀ (a : Nat) (e : va_E), M a = some e → va_at D cl (a, e) H
def zq_W (D : va_G) (cl : List vw_C) (A : Nat → Prop) (H0 : Heap) (M : zq_M) (H : Heap) (locs : List Loc) : Prop := zq_H D cl M H ∧ (∀ (a : Nat) (e : va_E), M a = some e → A a) ∧ va_S A H0 H locs
def zq_A (M : zq_M) (sz : Nat) : Nat → Prop := fun q => (∃ e : va_E, M q = some e) ∨ sz ≤ q
/-- what the tables say: the classes, the arrays' classes, arrays over Polynomial and over int[] -/
def zK (D : va_G) (cl : List vw_C) (tys : List (ClassId × FieldType)) (U : State) : Prop := va_K D cl tys U ∧ va_AO "AlexanderMatrix$Polynomial" U ∧ (Cond.arrayOver (.array .int)).before #[] U = true
theorem zAO_spec {u : State} (h : (Cond.arrayOver (.array .int)).before #[] u = true) : ∃ comp c k, u.vm.findClass (FieldType.array .int).toString = some comp ∧ (u.vm.classes.findIdx? fun (x : Class) => match x.kind with | .array component _ => component == comp | _ => false) = some c ∧ u.vm.classes[c]? = some k ∧ k.kind = .array comp (.array .int) ∧ u.vm.findClass ("[" ++ (FieldType.array .int).toString) = some c := by
  unfold Cond.before Cond.holds at h
  simp only [Cond.value, beq_iff_eq] at h
  cases hc : u.vm.findClass (FieldType.array .int).toString with
  | none => simp [hc] at h
  | some comp =>
    simp only [hc, Option.bind_some, Option.bind_eq_some_iff, Option.map_eq_some_iff] at h
    obtain ⟨c, hi, k, hk, hb⟩ := h
    obtain ⟨hlt, hp, -⟩ := Array.findIdx?_eq_some_iff_getElem.mp hi
    have hkk : u.vm.classes[c] = k := (Array.getElem?_eq_some_iff.mp hk).2
    rw [hkk] at hp
    cases hkind : k.kind with
    | array component ty =>
      rw [hkind] at hb hp
      simp at hb hp
      exact ⟨comp, c, k, rfl, hi, hk, by rw [hkind, hp, hb.1], hb.2⟩
    | _ => rw [hkind] at hb; simp at hb
theorem zAO_moved {u U : State} (hvm : u.vm.Alike U.vm) (h : (Cond.arrayOver (.array .int)).before #[] u = true) : (Cond.arrayOver (.array .int)).before #[] U = true := by
  obtain ⟨comp, c, k, h1, h2, h3, h4, h5⟩ := zAO_spec h
  obtain ⟨k', hk', he⟩ := hvm.2.2 _ _ h3
  have e1 := va_idx_bare U.vm comp
  have e2 := va_idx_bare u.vm comp
  have eb : U.vm.bare = u.vm.bare := by first | exact hvm.bare_eq | exact hvm.bare_eq.symm
  rw [eb] at e1
  have hi := (e1.symm.trans e2).trans h2
  have hkind : k'.kind = .array comp (.array .int) := by rw [he]; exact h4
  have f1 : U.vm.findClass (FieldType.array .int).toString = some comp := by rw [hvm.findClass]; exact h1
  have f2 : U.vm.findClass ("[" ++ (FieldType.array .int).toString) = some c := by rw [hvm.findClass]; exact h5
  unfold Cond.before Cond.holds
  simp only [Cond.value]
  rw [f1, Option.bind_some]
  refine (congrArg (fun o : Option Nat => (o.bind (fun c => (U.vm.classes[c]?).map fun (k : Class) => match k.kind with | .array _ ty => decide (ty = FieldType.array .int) && decide (U.vm.findClass ("[" ++ (FieldType.array .int).toString) = some c) | _ => false) == some true)) hi).trans ?_
  simp [hk', hkind, f2]
theorem zK.moved {D : va_G} {cl : List vw_C} {tys : List (ClassId × FieldType)} {u U : State} (hvm : u.vm.Alike U.vm) (h : zK D cl tys u) : zK D cl tys U := ⟨va_K.moved hvm h.1, va_AO.moved hvm h.2.1, zAO_moved hvm h.2.2⟩
def zq_Q (D : va_G) (cl : List vw_C) (tys : List (ClassId × FieldType)) (post : Option Value → zq_M → Prop) (A : Nat → Prop) : Array Value → State → Outcome → State → Prop := fun _ st oc t => (∃ (v : Option Value) (M' : zq_M), oc = .returned v ∧ post v M' ∧ zq_H D cl M' t.heap ∧ zK D cl tys t ∧ ∀ (a : Nat) (e : va_E), M' a = some e → A a) ∧ va_F A st t
/-- a method's contract: from any heap that holds M it returns, with 'post answer M'' of the world M' behind it; what isn't M's stays -/
def zq_Met (l : Launch) (y : MethodName) (ws : List Cond) (rm : Room) (D : va_G) (cl : List vw_C) (tys : List (ClassId × FieldType)) (av : List Value) (M : zq_M) (post : Option Value → zq_M → Prop) (mc ms : Nat) : Prop :=
  ∀ sz : Nat, Met l y ws rm (va_Pc av (fun U => U.heap.size = sz ∧ zq_H D cl M U.heap ∧ zK D cl tys U)) (zq_Q D cl tys post (zq_A M sz)) mc ms (zq_A M sz)
theorem zq_ne {M : zq_M} {a b : Nat} {x y : va_E} (ha : M a = some x) (hb : M b = some y) (h : x ≠ y) : a ≠ b := fun q => h (by subst q; exact Option.some.inj (ha.symm.trans hb))
section ZQ
variable {p : Program} {l : Launch} {e : Env} {R : Room} {s : State} {m : MethodId} {args : Array Value} {below : List Frame} {meth : Method} {c : Code} {H H1 : Heap} {locs : List Loc} {cells slots : Nat} {Q : State → Prop}
variable {cc : ByteArray} {pc : Nat} {ls : Array Slot} {rest : List Value} {D : va_G} {cl : List vw_C} {A : Nat → Prop} {a : Nat} {tys : List (ClassId × FieldType)} {H0 : Heap} {M : zq_M}
theorem zq_W.one {x : va_E} (h : zq_W D cl A H0 M H locs) (he : M a = some x) : va_P D cl [(a, x)] H := by
  intro k q hk
  match k, hk with
  | 0, hk =>
    obtain rfl : (a, x) = q := Option.some.inj hk
    exact h.1 a x he
  | k + 1, hk => simp at hk
theorem zq_W.put {x y : va_E} {k : Nat} (h : zq_W D cl A H0 M H locs) (he : M a = some x) (hat : va_at D cl (a, y) H1) (z : H1.size = H.size) (oq : ∀ q : Nat, q ≠ a → H1[q]? = H[q]?) : zq_W D cl A H0 (va_up M a (some y)) H1 (locs ++ [⟨a, k⟩]) := by
  refine ⟨fun b eb hb => ?_, fun b eb hb => ?_, h.2.2.put z oq (h.2.1 a _ he)⟩
  · by_cases q : b = a
    · subst q
      rw [va_up_self] at hb
      obtain rfl := Option.some.inj hb
      exact hat
    · rw [va_up_ne _ _ q] at hb
      exact (h.1 b eb hb).kept (oq b q)
  · by_cases q : b = a
    · subst q
      exact h.2.1 b _ he
    · rw [va_up_ne _ _ q] at hb
      exact h.2.1 b eb hb
theorem zq_W.fresh (h : zq_W D cl A H0 M H locs) : M H.size = none := by
  cases hq : M H.size with
  | none => rfl
  | some x => exact absurd (h.1 _ _ hq).lt (Nat.lt_irrefl _)
theorem zq_W.new {y : va_E} (h : zq_W D cl A H0 M H locs) (hA : ∀ q, H0.size ≤ q → A q) (hat : va_at D cl (H.size, y) H1) (z : H1.size = H.size + 1) (oq : ∀ q : Nat, q < H.size → H1[q]? = H[q]?) : zq_W D cl A H0 (va_up M H.size (some y)) H1 locs := by
  refine ⟨fun b eb hb => ?_, fun b eb hb => ?_, Nat.le_trans h.2.2.1 (by omega), fun x h1 h2 => (oq x (Nat.lt_of_lt_of_le h1 h.2.2.1)).trans (h.2.2.2.1 x h1 h2), h.2.2.2.2⟩
  · by_cases q : b = H.size
    · subst q
      rw [va_up_self] at hb
      obtain rfl := Option.some.inj hb
      exact hat
    · rw [va_up_ne _ _ q] at hb
      exact (h.1 b eb hb).kept (oq b (h.1 b eb hb).lt)
  · by_cases q : b = H.size
    · subst q
      exact hA _ h.2.2.1
    · rw [va_up_ne _ _ q] at hb
      exact h.2.1 b eb hb
-- numbers on the stack
theorem zq_iadd (hx : p.tables.exec = Jvm.exec) (hb : c.code = cc) {x y : Int} (hdg : decode cc pc = .ok (.iadd, 1)) (k : W p l e R s m args below meth c H locs cells slots Q (F0 m (pc + 1) ls (.int (iI (x + y)) :: rest))) : W p l e R s m args below meth c H locs cells slots Q (F0 m pc ls (.int (iI y) :: .int (iI x) :: rest)) := lv_iadd hx hb hdg (by rw [iI_add]; exact k)
theorem zq_isub (hx : p.tables.exec = Jvm.exec) (hb : c.code = cc) {x y : Int} (hdg : decode cc pc = .ok (.isub, 1)) (k : W p l e R s m args below meth c H locs cells slots Q (F0 m (pc + 1) ls (.int (iI (x - y)) :: rest))) : W p l e R s m args below meth c H locs cells slots Q (F0 m pc ls (.int (iI y) :: .int (iI x) :: rest)) := lv_isub hx hb hdg (by rw [iI_sub]; exact k)
theorem zq_imul (hx : p.tables.exec = Jvm.exec) (hb : c.code = cc) {x y : Int} (hdg : decode cc pc = .ok (.imul, 1)) (k : W p l e R s m args below meth c H locs cells slots Q (F0 m (pc + 1) ls (.int (iI (x * y)) :: rest))) : W p l e R s m args below meth c H locs cells slots Q (F0 m pc ls (.int (iI y) :: .int (iI x) :: rest)) := lv_imul hx hb hdg (by rw [iI_mul]; exact k)
theorem zq_ineg (hx : p.tables.exec = Jvm.exec) (hb : c.code = cc) {x : Int} (hdg : decode cc pc = .ok (.ineg, 1)) (k : W p l e R s m args below meth c H locs cells slots Q (F0 m (pc + 1) ls (.int (iI (-x)) :: rest))) : W p l e R s m args below meth c H locs cells slots Q (F0 m pc ls (.int (iI x) :: rest)) := lv_ineg hx hb hdg (by rw [iI_neg]; exact k)
theorem zq_ladd (hx : p.tables.exec = Jvm.exec) (hb : c.code = cc) {x y : Int} (hdg : decode cc pc = .ok (.ladd, 1)) (k : W p l e R s m args below meth c H locs cells slots Q (F0 m (pc + 1) ls (.long (iL (x + y)) :: rest))) : W p l e R s m args below meth c H locs cells slots Q (F0 m pc ls (.long (iL y) :: .long (iL x) :: rest)) := lv_ladd hx hb hdg (by rw [iL_add]; exact k)
theorem zq_lsub (hx : p.tables.exec = Jvm.exec) (hb : c.code = cc) {x y : Int} (hdg : decode cc pc = .ok (.lsub, 1)) (k : W p l e R s m args below meth c H locs cells slots Q (F0 m (pc + 1) ls (.long (iL (x - y)) :: rest))) : W p l e R s m args below meth c H locs cells slots Q (F0 m pc ls (.long (iL y) :: .long (iL x) :: rest)) := lv_lsub hx hb hdg (by rw [iL_sub]; exact k)
theorem zq_lmul (hx : p.tables.exec = Jvm.exec) (hb : c.code = cc) {x y : Int} (hdg : decode cc pc = .ok (.lmul, 1)) (k : W p l e R s m args below meth c H locs cells slots Q (F0 m (pc + 1) ls (.long (iL (x * y)) :: rest))) : W p l e R s m args below meth c H locs cells slots Q (F0 m pc ls (.long (iL y) :: .long (iL x) :: rest)) := lv_lmul hx hb hdg (by rw [iL_mul]; exact k)
theorem zq_lneg (hx : p.tables.exec = Jvm.exec) (hb : c.code = cc) {x : Int} (hdg : decode cc pc = .ok (.lneg, 1)) (k : W p l e R s m args below meth c H locs cells slots Q (F0 m (pc + 1) ls (.long (iL (-x)) :: rest))) : W p l e R s m args below meth c H locs cells slots Q (F0 m pc ls (.long (iL x) :: rest)) := lv_lneg hx hb hdg (by rw [iL_neg]; exact k)
theorem zq_i2l (hx : p.tables.exec = Jvm.exec) (hb : c.code = cc) {x : Int} (hi : inI x) (hdg : decode cc pc = .ok (.i2l, 1)) (k : W p l e R s m args below meth c H locs cells slots Q (F0 m (pc + 1) ls (.long (iL x) :: rest))) : W p l e R s m args below meth c H locs cells slots Q (F0 m pc ls (.int (iI x) :: rest)) := lv_i2l hx hb hdg (iI_l hi) k
theorem zq_idiv (hx : p.tables.exec = Jvm.exec) (hb : c.code = cc) {x y : Int} (h0 : 0 ≤ x) (hi : inI x) (hy : 0 < y) (hj : inI y) (hdg : decode cc pc = .ok (.idiv, 1)) (k : W p l e R s m args below meth c H locs cells slots Q (F0 m (pc + 1) ls (.int (iI (x / y)) :: rest))) : W p l e R s m args below meth c H locs cells slots Q (F0 m pc ls (.int (iI y) :: .int (iI x) :: rest)) :=
  lv_idiv hx hb hdg (by rw [← iI_0, iI_eq hj (by omega)]; omega) (by rw [iI_tdiv hi hj (by omega), Int.tdiv_eq_ediv_of_nonneg h0]; exact k)
theorem zq_irem (hx : p.tables.exec = Jvm.exec) (hb : c.code = cc) {x y : Int} (h0 : 0 ≤ x) (hi : inI x) (hy : 0 < y) (hj : inI y) (hdg : decode cc pc = .ok (.irem, 1)) (k : W p l e R s m args below meth c H locs cells slots Q (F0 m (pc + 1) ls (.int (iI (x % y)) :: rest))) : W p l e R s m args below meth c H locs cells slots Q (F0 m pc ls (.int (iI y) :: .int (iI x) :: rest)) :=
  lv_irem hx hb hdg (by rw [← iI_0, iI_eq hj (by omega)]; omega) (by
    have e : x - x / y * y = x % y := by
      have h := Int.emod_add_mul_ediv x y
      rw [Int.mul_comm] at h
      omega
    rw [iI_tdiv hi hj (by omega), Int.tdiv_eq_ediv_of_nonneg h0, iI_mul, iI_sub, e]; exact k)
theorem zq_ldiv (hx : p.tables.exec = Jvm.exec) (hb : c.code = cc) {x y : Int} (hi : inL x) (hi2 : x ≠ -9223372036854775808) (hy : y ≠ 0) (hj : inL y) (hdg : decode cc pc = .ok (.ldiv, 1)) (k : W p l e R s m args below meth c H locs cells slots Q (F0 m (pc + 1) ls (.long (iL (x.tdiv y)) :: rest))) : W p l e R s m args below meth c H locs cells slots Q (F0 m pc ls (.long (iL y) :: .long (iL x) :: rest)) :=
  lv_ldiv hx hb hdg (by rw [← iL_0, iL_eq hj (by omega)]; exact hy) (by rw [iL_tdiv hi hj hi2]; exact k)
theorem zq_icmp_eq (hx : p.tables.exec = Jvm.exec) (hb : c.code = cc) {x y : Int} {off : Int} {tgt : Nat} (hdg : decode cc pc = .ok (.if_icmp .eq off, 3)) (ht : (pc : Int) + off = (tgt : Int)) (hi : inI x) (hj : inI y)
    (kt : x = y → W p l e R s m args below meth c H locs cells slots Q (F0 m tgt ls rest)) (kf : ¬ x = y → W p l e R s m args below meth c H locs cells slots Q (F0 m (pc + 3) ls rest)) : W p l e R s m args below meth c H locs cells slots Q (F0 m pc ls (.int (iI y) :: .int (iI x) :: rest)) :=
  lv_icmp_eq hx hb hdg ht (fun h => kt (by rw [iI_eq hi hj] at h; exact h)) (fun h => kf (by rw [iI_eq hi hj] at h; exact h))
theorem zq_icmp_ne (hx : p.tables.exec = Jvm.exec) (hb : c.code = cc) {x y : Int} {off : Int} {tgt : Nat} (hdg : decode cc pc = .ok (.if_icmp .ne off, 3)) (ht : (pc : Int) + off = (tgt : Int)) (hi : inI x) (hj : inI y)
    (kt : ¬ x = y → W p l e R s m args below meth c H locs cells slots Q (F0 m tgt ls rest)) (kf : x = y → W p l e R s m args below meth c H locs cells slots Q (F0 m (pc + 3) ls rest)) : W p l e R s m args below meth c H locs cells slots Q (F0 m pc ls (.int (iI y) :: .int (iI x) :: rest)) :=
  lv_icmp_ne hx hb hdg ht (fun h => kt (by rw [iI_eq hi hj] at h; exact h)) (fun h => kf (by rw [iI_eq hi hj] at h; exact h))
theorem zq_icmp_lt (hx : p.tables.exec = Jvm.exec) (hb : c.code = cc) {x y : Int} {off : Int} {tgt : Nat} (hdg : decode cc pc = .ok (.if_icmp .lt off, 3)) (ht : (pc : Int) + off = (tgt : Int)) (hi : inI x) (hj : inI y)
    (kt : x < y → W p l e R s m args below meth c H locs cells slots Q (F0 m tgt ls rest)) (kf : ¬ x < y → W p l e R s m args below meth c H locs cells slots Q (F0 m (pc + 3) ls rest)) : W p l e R s m args below meth c H locs cells slots Q (F0 m pc ls (.int (iI y) :: .int (iI x) :: rest)) :=
  lv_icmp_lt hx hb hdg ht (fun h => kt (by rw [iI_lt hi hj] at h; exact h)) (fun h => kf (by rw [iI_lt hi hj] at h; exact h))
theorem zq_icmp_ge (hx : p.tables.exec = Jvm.exec) (hb : c.code = cc) {x y : Int} {off : Int} {tgt : Nat} (hdg : decode cc pc = .ok (.if_icmp .ge off, 3)) (ht : (pc : Int) + off = (tgt : Int)) (hi : inI x) (hj : inI y)
    (kt : y ≤ x → W p l e R s m args below meth c H locs cells slots Q (F0 m tgt ls rest)) (kf : ¬ y ≤ x → W p l e R s m args below meth c H locs cells slots Q (F0 m (pc + 3) ls rest)) : W p l e R s m args below meth c H locs cells slots Q (F0 m pc ls (.int (iI y) :: .int (iI x) :: rest)) :=
  lv_icmp_ge hx hb hdg ht (fun h => kt (by rw [iI_le hj hi] at h; exact h)) (fun h => kf (by rw [iI_le hj hi] at h; exact h))
theorem zq_icmp_gt (hx : p.tables.exec = Jvm.exec) (hb : c.code = cc) {x y : Int} {off : Int} {tgt : Nat} (hdg : decode cc pc = .ok (.if_icmp .gt off, 3)) (ht : (pc : Int) + off = (tgt : Int)) (hi : inI x) (hj : inI y)
    (kt : y < x → W p l e R s m args below meth c H locs cells slots Q (F0 m tgt ls rest)) (kf : ¬ y < x → W p l e R s m args below meth c H locs cells slots Q (F0 m (pc + 3) ls rest)) : W p l e R s m args below meth c H locs cells slots Q (F0 m pc ls (.int (iI y) :: .int (iI x) :: rest)) :=
  lv_icmp_gt hx hb hdg ht (fun h => kt (by rw [iI_lt hj hi] at h; exact h)) (fun h => kf (by rw [iI_lt hj hi] at h; exact h))
theorem zq_icmp_le (hx : p.tables.exec = Jvm.exec) (hb : c.code = cc) {x y : Int} {off : Int} {tgt : Nat} (hdg : decode cc pc = .ok (.if_icmp .le off, 3)) (ht : (pc : Int) + off = (tgt : Int)) (hi : inI x) (hj : inI y)
    (kt : x ≤ y → W p l e R s m args below meth c H locs cells slots Q (F0 m tgt ls rest)) (kf : ¬ x ≤ y → W p l e R s m args below meth c H locs cells slots Q (F0 m (pc + 3) ls rest)) : W p l e R s m args below meth c H locs cells slots Q (F0 m pc ls (.int (iI y) :: .int (iI x) :: rest)) :=
  lv_icmp_le hx hb hdg ht (fun h => kt (by rw [iI_le hi hj] at h; exact h)) (fun h => kf (by rw [iI_le hi hj] at h; exact h))
theorem zq_if_eq (hx : p.tables.exec = Jvm.exec) (hb : c.code = cc) {x : Int} {off : Int} {tgt : Nat} (hdg : decode cc pc = .ok (.ifCond .eq off, 3)) (ht : (pc : Int) + off = (tgt : Int)) (hi : inI x)
    (kt : x = 0 → W p l e R s m args below meth c H locs cells slots Q (F0 m tgt ls rest)) (kf : ¬ x = 0 → W p l e R s m args below meth c H locs cells slots Q (F0 m (pc + 3) ls rest)) : W p l e R s m args below meth c H locs cells slots Q (F0 m pc ls (.int (iI x) :: rest)) :=
  lv_if_eq hx hb hdg ht (fun h => kt (by rw [← iI_0, iI_eq hi (by omega)] at h; exact h)) (fun h => kf (by rw [← iI_0, iI_eq hi (by omega)] at h; exact h))
theorem zq_if_ne (hx : p.tables.exec = Jvm.exec) (hb : c.code = cc) {x : Int} {off : Int} {tgt : Nat} (hdg : decode cc pc = .ok (.ifCond .ne off, 3)) (ht : (pc : Int) + off = (tgt : Int)) (hi : inI x)
    (kt : ¬ x = 0 → W p l e R s m args below meth c H locs cells slots Q (F0 m tgt ls rest)) (kf : x = 0 → W p l e R s m args below meth c H locs cells slots Q (F0 m (pc + 3) ls rest)) : W p l e R s m args below meth c H locs cells slots Q (F0 m pc ls (.int (iI x) :: rest)) :=
  lv_if_ne hx hb hdg ht (fun h => kt (by rw [← iI_0, iI_eq hi (by omega)] at h; exact h)) (fun h => kf (by rw [← iI_0, iI_eq hi (by omega)] at h; exact h))
theorem zq_if_lt (hx : p.tables.exec = Jvm.exec) (hb : c.code = cc) {x : Int} {off : Int} {tgt : Nat} (hdg : decode cc pc = .ok (.ifCond .lt off, 3)) (ht : (pc : Int) + off = (tgt : Int)) (hi : inI x)
    (kt : x < 0 → W p l e R s m args below meth c H locs cells slots Q (F0 m tgt ls rest)) (kf : ¬ x < 0 → W p l e R s m args below meth c H locs cells slots Q (F0 m (pc + 3) ls rest)) : W p l e R s m args below meth c H locs cells slots Q (F0 m pc ls (.int (iI x) :: rest)) :=
  lv_if_lt hx hb hdg ht (fun h => kt (by rw [← iI_0, iI_lt hi (by omega)] at h; exact h)) (fun h => kf (by rw [← iI_0, iI_lt hi (by omega)] at h; exact h))
theorem zq_if_ge (hx : p.tables.exec = Jvm.exec) (hb : c.code = cc) {x : Int} {off : Int} {tgt : Nat} (hdg : decode cc pc = .ok (.ifCond .ge off, 3)) (ht : (pc : Int) + off = (tgt : Int)) (hi : inI x)
    (kt : 0 ≤ x → W p l e R s m args below meth c H locs cells slots Q (F0 m tgt ls rest)) (kf : ¬ 0 ≤ x → W p l e R s m args below meth c H locs cells slots Q (F0 m (pc + 3) ls rest)) : W p l e R s m args below meth c H locs cells slots Q (F0 m pc ls (.int (iI x) :: rest)) :=
  lv_if_ge hx hb hdg ht (fun h => kt (by rw [← iI_0, iI_le (by omega) hi] at h; exact h)) (fun h => kf (by rw [← iI_0, iI_le (by omega) hi] at h; exact h))
theorem zq_if_gt (hx : p.tables.exec = Jvm.exec) (hb : c.code = cc) {x : Int} {off : Int} {tgt : Nat} (hdg : decode cc pc = .ok (.ifCond .gt off, 3)) (ht : (pc : Int) + off = (tgt : Int)) (hi : inI x)
    (kt : 0 < x → W p l e R s m args below meth c H locs cells slots Q (F0 m tgt ls rest)) (kf : ¬ 0 < x → W p l e R s m args below meth c H locs cells slots Q (F0 m (pc + 3) ls rest)) : W p l e R s m args below meth c H locs cells slots Q (F0 m pc ls (.int (iI x) :: rest)) :=
  lv_if_gt hx hb hdg ht (fun h => kt (by rw [← iI_0, iI_lt (by omega) hi] at h; exact h)) (fun h => kf (by rw [← iI_0, iI_lt (by omega) hi] at h; exact h))
theorem zq_if_le (hx : p.tables.exec = Jvm.exec) (hb : c.code = cc) {x : Int} {off : Int} {tgt : Nat} (hdg : decode cc pc = .ok (.ifCond .le off, 3)) (ht : (pc : Int) + off = (tgt : Int)) (hi : inI x)
    (kt : x ≤ 0 → W p l e R s m args below meth c H locs cells slots Q (F0 m tgt ls rest)) (kf : ¬ x ≤ 0 → W p l e R s m args below meth c H locs cells slots Q (F0 m (pc + 3) ls rest)) : W p l e R s m args below meth c H locs cells slots Q (F0 m pc ls (.int (iI x) :: rest)) :=
  lv_if_le hx hb hdg ht (fun h => kt (by rw [← iI_0, iI_le hi (by omega)] at h; exact h)) (fun h => kf (by rw [← iI_0, iI_le hi (by omega)] at h; exact h))
theorem zq_cmp {x y : Int} (hi : inL x) (hj : inL y) : lg_cmp (iL x) (iL y) = iI (if y < x then 1 else if x < y then -1 else 0) := by
  unfold lg_cmp
  simp only [iL_lt hj hi, iL_lt hi hj, iL_eq hi hj]
  by_cases h1 : y < x
  · simp [h1]; rfl
  · by_cases h2 : x < y
    · have h3 : ¬ x = y := by omega
      simp [h1, h2, h3]; rfl
    · have h3 : x = y := by omega
      simp [h1, h2, h3]; rfl
theorem zq_lcmp_eq (hx : p.tables.exec = Jvm.exec) (hb : c.code = cc) {x y : Int} {off : Int} {tgt : Nat} (hdg0 : decode cc pc = .ok (.lcmp, 1)) (hdg : decode cc (pc + 1) = .ok (.ifCond .eq off, 3)) (ht : ((pc + 1 : Nat) : Int) + off = (tgt : Int)) (hi : inL x) (hj : inL y)
    (kt : x = y → W p l e R s m args below meth c H locs cells slots Q (F0 m tgt ls rest)) (kf : ¬ x = y → W p l e R s m args below meth c H locs cells slots Q (F0 m (pc + 4) ls rest)) : W p l e R s m args below meth c H locs cells slots Q (F0 m pc ls (.long (iL y) :: .long (iL x) :: rest)) := by
  refine W.lcmp hx hb hdg0 ?_
  rw [zq_cmp hi hj]
  refine zq_if_eq (x := if y < x then 1 else if x < y then -1 else 0) hx hb hdg ht (by by_cases h1 : y < x <;> by_cases h2 : x < y <;> simp only [h1, h2, if_true, if_false] <;> decide) (fun h => kt ?_) (fun h => kf ?_)
  · by_cases h1 : y < x <;> by_cases h2 : x < y <;> simp [h1, h2] at h <;> omega
  · by_cases h1 : y < x <;> by_cases h2 : x < y <;> simp [h1, h2] at h <;> omega
theorem zq_lcmp_ne (hx : p.tables.exec = Jvm.exec) (hb : c.code = cc) {x y : Int} {off : Int} {tgt : Nat} (hdg0 : decode cc pc = .ok (.lcmp, 1)) (hdg : decode cc (pc + 1) = .ok (.ifCond .ne off, 3)) (ht : ((pc + 1 : Nat) : Int) + off = (tgt : Int)) (hi : inL x) (hj : inL y)
    (kt : ¬ x = y → W p l e R s m args below meth c H locs cells slots Q (F0 m tgt ls rest)) (kf : x = y → W p l e R s m args below meth c H locs cells slots Q (F0 m (pc + 4) ls rest)) : W p l e R s m args below meth c H locs cells slots Q (F0 m pc ls (.long (iL y) :: .long (iL x) :: rest)) := by
  refine W.lcmp hx hb hdg0 ?_
  rw [zq_cmp hi hj]
  refine zq_if_ne (x := if y < x then 1 else if x < y then -1 else 0) hx hb hdg ht (by by_cases h1 : y < x <;> by_cases h2 : x < y <;> simp only [h1, h2, if_true, if_false] <;> decide) (fun h => kt ?_) (fun h => kf ?_)
  · by_cases h1 : y < x <;> by_cases h2 : x < y <;> simp [h1, h2] at h <;> omega
  · by_cases h1 : y < x <;> by_cases h2 : x < y <;> simp [h1, h2] at h <;> omega
theorem zq_lcmp_lt (hx : p.tables.exec = Jvm.exec) (hb : c.code = cc) {x y : Int} {off : Int} {tgt : Nat} (hdg0 : decode cc pc = .ok (.lcmp, 1)) (hdg : decode cc (pc + 1) = .ok (.ifCond .lt off, 3)) (ht : ((pc + 1 : Nat) : Int) + off = (tgt : Int)) (hi : inL x) (hj : inL y)
    (kt : x < y → W p l e R s m args below meth c H locs cells slots Q (F0 m tgt ls rest)) (kf : ¬ x < y → W p l e R s m args below meth c H locs cells slots Q (F0 m (pc + 4) ls rest)) : W p l e R s m args below meth c H locs cells slots Q (F0 m pc ls (.long (iL y) :: .long (iL x) :: rest)) := by
  refine W.lcmp hx hb hdg0 ?_
  rw [zq_cmp hi hj]
  refine zq_if_lt (x := if y < x then 1 else if x < y then -1 else 0) hx hb hdg ht (by by_cases h1 : y < x <;> by_cases h2 : x < y <;> simp only [h1, h2, if_true, if_false] <;> decide) (fun h => kt ?_) (fun h => kf ?_)
  · by_cases h1 : y < x <;> by_cases h2 : x < y <;> simp [h1, h2] at h <;> omega
  · by_cases h1 : y < x <;> by_cases h2 : x < y <;> simp [h1, h2] at h <;> omega
theorem zq_lcmp_ge (hx : p.tables.exec = Jvm.exec) (hb : c.code = cc) {x y : Int} {off : Int} {tgt : Nat} (hdg0 : decode cc pc = .ok (.lcmp, 1)) (hdg : decode cc (pc + 1) = .ok (.ifCond .ge off, 3)) (ht : ((pc + 1 : Nat) : Int) + off = (tgt : Int)) (hi : inL x) (hj : inL y)
    (kt : y ≤ x → W p l e R s m args below meth c H locs cells slots Q (F0 m tgt ls rest)) (kf : ¬ y ≤ x → W p l e R s m args below meth c H locs cells slots Q (F0 m (pc + 4) ls rest)) : W p l e R s m args below meth c H locs cells slots Q (F0 m pc ls (.long (iL y) :: .long (iL x) :: rest)) := by
  refine W.lcmp hx hb hdg0 ?_
  rw [zq_cmp hi hj]
  refine zq_if_ge (x := if y < x then 1 else if x < y then -1 else 0) hx hb hdg ht (by by_cases h1 : y < x <;> by_cases h2 : x < y <;> simp only [h1, h2, if_true, if_false] <;> decide) (fun h => kt ?_) (fun h => kf ?_)
  · by_cases h1 : y < x <;> by_cases h2 : x < y <;> simp [h1, h2] at h <;> omega
  · by_cases h1 : y < x <;> by_cases h2 : x < y <;> simp [h1, h2] at h <;> omega
theorem zq_lcmp_gt (hx : p.tables.exec = Jvm.exec) (hb : c.code = cc) {x y : Int} {off : Int} {tgt : Nat} (hdg0 : decode cc pc = .ok (.lcmp, 1)) (hdg : decode cc (pc + 1) = .ok (.ifCond .gt off, 3)) (ht : ((pc + 1 : Nat) : Int) + off = (tgt : Int)) (hi : inL x) (hj : inL y)
    (kt : y < x → W p l e R s m args below meth c H locs cells slots Q (F0 m tgt ls rest)) (kf : ¬ y < x → W p l e R s m args below meth c H locs cells slots Q (F0 m (pc + 4) ls rest)) : W p l e R s m args below meth c H locs cells slots Q (F0 m pc ls (.long (iL y) :: .long (iL x) :: rest)) := by
  refine W.lcmp hx hb hdg0 ?_
  rw [zq_cmp hi hj]
  refine zq_if_gt (x := if y < x then 1 else if x < y then -1 else 0) hx hb hdg ht (by by_cases h1 : y < x <;> by_cases h2 : x < y <;> simp only [h1, h2, if_true, if_false] <;> decide) (fun h => kt ?_) (fun h => kf ?_)
  · by_cases h1 : y < x <;> by_cases h2 : x < y <;> simp [h1, h2] at h <;> omega
  · by_cases h1 : y < x <;> by_cases h2 : x < y <;> simp [h1, h2] at h <;> omega
theorem zq_lcmp_le (hx : p.tables.exec = Jvm.exec) (hb : c.code = cc) {x y : Int} {off : Int} {tgt : Nat} (hdg0 : decode cc pc = .ok (.lcmp, 1)) (hdg : decode cc (pc + 1) = .ok (.ifCond .le off, 3)) (ht : ((pc + 1 : Nat) : Int) + off = (tgt : Int)) (hi : inL x) (hj : inL y)
    (kt : x ≤ y → W p l e R s m args below meth c H locs cells slots Q (F0 m tgt ls rest)) (kf : ¬ x ≤ y → W p l e R s m args below meth c H locs cells slots Q (F0 m (pc + 4) ls rest)) : W p l e R s m args below meth c H locs cells slots Q (F0 m pc ls (.long (iL y) :: .long (iL x) :: rest)) := by
  refine W.lcmp hx hb hdg0 ?_
  rw [zq_cmp hi hj]
  refine zq_if_le (x := if y < x then 1 else if x < y then -1 else 0) hx hb hdg ht (by by_cases h1 : y < x <;> by_cases h2 : x < y <;> simp only [h1, h2, if_true, if_false] <;> decide) (fun h => kt ?_) (fun h => kf ?_)
  · by_cases h1 : y < x <;> by_cases h2 : x < y <;> simp [h1, h2] at h <;> omega
  · by_cases h1 : y < x <;> by_cases h2 : x < y <;> simp [h1, h2] at h <;> omega
theorem zq_get (hx : p.tables.exec = Jvm.exec) (hb : c.code = cc) {own C : String} {T : u_T} {N ci index : Nat} {Ts : List Cond} (hts : ∀ w ∈ Ts, w.before args s = true) (hin : ∀ w ∈ u_ws C T N, w ∈ Ts) (hown : s.vm.findClass own = some m.cls) (hK : va_K D cl tys s) (hw : zq_W D cl A H0 M H locs) {fs : List Value} (he : M a = some (.inr (ci, fs))) (hc : cl[ci]? = some (C, T, N)) (k : Nat) (hk : k < N) (hlink : (Cond.fieldLink own index (T k).1 (T k).2.1 (T k).2.2.1).before args s = true) {v : Value} (hv : fs[k]? = some v) (hdg : decode cc pc = .ok (.getfield index, 3))
    (kk : W p l e R s m args below meth c H locs cells slots Q (F0 m (pc + 3) ls (v :: rest))) : W p l e R s m args below meth c H locs cells slots Q (F0 m pc ls (.ref a :: rest)) :=
  va_get hx hb hts hin hown hK (hw.one he) 0 rfl hc k hk hlink (fun _ h => h) hv hdg kk
theorem zq_put (hx : p.tables.exec = Jvm.exec) (hb : c.code = cc) {own C : String} {T : u_T} {N ci index : Nat} {Ts : List Cond} (hts : ∀ w ∈ Ts, w.before args s = true) (hin : ∀ w ∈ u_ws C T N, w ∈ Ts) (ty0 : Nat → FieldType) (hty : ∀ k, k < N → parseFieldDescriptor (T k).2.2.1 = some (ty0 k)) (hnm : ∀ a, a < N → ∀ b, b < N → a ≠ b → (T a).2.1 ≠ (T b).2.1) (hown : s.vm.findClass own = some m.cls) (hK : va_K D cl tys s) (hw : zq_W D cl A H0 M H locs) {fs : List Value} (he : M a = some (.inr (ci, fs))) (hc : cl[ci]? = some (C, T, N)) (k : Nat) (hk : k < N) (hlink : (Cond.fieldLink own index (T k).1 (T k).2.1 (T k).2.2.1).before args s = true) (hfin : (T k).2.2.2 = false) {ty : FieldType} {v : Value} (hd : parseFieldDescriptor (T k).2.2.1 = some ty) (hn : narrow ty v = v) (hfit : fits ty v = true) (hl : k < fs.length) (hdg : decode cc pc = .ok (.putfield index, 3))
    (kk : ∀ (M1 : zq_M) (H1 : Heap) (locs1 : List Loc), M1 a = some (.inr (ci, fs.set k v)) → (∀ b, b ≠ a → M1 b = M b) → zq_W D cl A H0 M1 H1 locs1 → W p l e R s m args below meth c H1 locs1 cells slots Q (F0 m (pc + 3) ls rest)) : W p l e R s m args below meth c H locs cells slots Q (F0 m pc ls (v :: .ref a :: rest)) := by
  have hap := va_apart (own := own) hts hin ty0 hty hnm hK hc
  obtain ⟨r, h1, cell, q1, q2, q3, q4⟩ := hw.1 a _ he
  have hr : r = (C, T, N) := Option.some.inj (h1.symm.trans hc)
  subst hr
  obtain ⟨hS, hfc, kC, hkC, hkind⟩ := hK.1 ci _ hc
  obtain ⟨cf, kf, fi, f, hi, hsl⟩ := hS k hk
  have hlay := hts _ (hin _ (u_in_lay hk))
  unfold u_lay at hlay
  rw [if_neg (by rw [hfin]; decide)] at hlay
  have hst := (u_facts hfc hkC (u_lays hts hin hk) hi).1
  have h6 := u_store hfc hkC hkind hlay hi hd hn hfit
  refine W.putK hx hb (f := f) ⟨hown, hlink, ⟨_, _, _, hi⟩, hst⟩ (by rw [q2]; exact h6) q1 q3 (by rw [hsl]; exact k2_hasslot (q4 k hk)) rfl rfl hdg fun H' e1 e2 e3 => ?_
  rw [hsl] at e1 ⊢
  exact kk _ H' _ (va_up_self _ _ _) (fun b hb => va_up_ne _ _ hb) (hw.put he ⟨_, hc, t_OB.to (V := updV (vp_V fs) k v) ⟨_, e1, q2, q3, t_set q4 hap hk v⟩ (fun j _ => vp_updV_set hl v j)⟩ e2 e3)
theorem zq_putF (hx : p.tables.exec = Jvm.exec) (hb : c.code = cc) {own C : String} {T : u_T} {N ci index : Nat} {Ts : List Cond} (hts : ∀ w ∈ Ts, w.before args s = true) (hin : ∀ w ∈ u_ws C T N, w ∈ Ts) (ty0 : Nat → FieldType) (hty : ∀ k, k < N → parseFieldDescriptor (T k).2.2.1 = some (ty0 k)) (hnm : ∀ a, a < N → ∀ b, b < N → a ≠ b → (T a).2.1 ≠ (T b).2.1) (hown : s.vm.findClass own = some m.cls) (hK : va_K D cl tys s) (hw : zq_W D cl A H0 M H locs) {fs : List Value} (he : M a = some (.inr (ci, fs))) (hc : cl[ci]? = some (C, T, N)) (k : Nat) (hk : k < N) (hlink : (Cond.fieldLink own index (T k).1 (T k).2.1 (T k).2.2.1).before args s = true) (hfin : (T k).2.2.2 = true) (hin2 : meth.name = "<init>") (hdecl : (T k).1 = own) {ty : FieldType} {v : Value} (hd : parseFieldDescriptor (T k).2.2.1 = some ty) (hn : narrow ty v = v) (hfit : fits ty v = true) (hl : k < fs.length) (hdg : decode cc pc = .ok (.putfield index, 3))
    (kk : ∀ (M1 : zq_M) (H1 : Heap) (locs1 : List Loc), M1 a = some (.inr (ci, fs.set k v)) → (∀ b, b ≠ a → M1 b = M b) → zq_W D cl A H0 M1 H1 locs1 → W p l e R s m args below meth c H1 locs1 cells slots Q (F0 m (pc + 3) ls rest)) : W p l e R s m args below meth c H locs cells slots Q (F0 m pc ls (v :: .ref a :: rest)) := by
  have hap := va_apart (own := own) hts hin ty0 hty hnm hK hc
  obtain ⟨r, h1, cell, q1, q2, q3, q4⟩ := hw.1 a _ he
  have hr : r = (C, T, N) := Option.some.inj (h1.symm.trans hc)
  subst hr
  obtain ⟨hS, hfc, kC, hkC, hkind⟩ := hK.1 ci _ hc
  obtain ⟨cf, kf, fi, f, hi, hsl⟩ := hS k hk
  have hlay := hts _ (hin _ (u_in_lay hk))
  unfold u_lay at hlay
  rw [if_pos hfin] at hlay
  have hst := (u_facts hfc hkC (u_lays hts hin hk) hi).1
  have hcf : m.cls = cf := by
    obtain ⟨_, _, c', _, _, _, -, -, hf', -, -, -, hown2, -⟩ := Cond.laysFinal_spec hlay
    have e1 : c' = cf := by have := hi.symm.trans hf'; simp at this; exact this.1.symm
    rw [hdecl] at hown2
    rw [← e1]; exact Option.some.inj (hown.symm.trans hown2)
  have h6 := u_fits hfc hkC hkind (Or.inr hlay) hi hd hn hfit
  refine W.putFinK hx hb hown hlink hi hst hcf hin2 (by rw [q2]; exact h6) q1 q3 (by rw [hsl]; exact k2_hasslot (q4 k hk)) rfl rfl hdg fun H' e1 e2 e3 => ?_
  rw [hsl] at e1 ⊢
  exact kk _ H' _ (va_up_self _ _ _) (fun b hb => va_up_ne _ _ hb) (hw.put he ⟨_, hc, t_OB.to (V := updV (vp_V fs) k v) ⟨_, e1, q2, q3, t_set q4 hap hk v⟩ (fun j _ => vp_updV_set hl v j)⟩ e2 e3)
theorem zq_iald (hx : p.tables.exec = Jvm.exec) (hb : c.code = cc) (hK : va_K D cl tys s) (hw : zq_W D cl A H0 M H locs) (t0 : Nat) {cA : ClassId} {n : Nat} {f : Int → Int} (he : M a = some (cI cA n f)) (ht : tys[t0]? = some (cA, .int)) {i : Int} (h0 : 0 ≤ i) (h1 : i < n) (hn : n ≤ 2147483647) (hdg : decode cc pc = .ok (.iaload, 1))
    (kk : W p l e R s m args below meth c H locs cells slots Q (F0 m (pc + 1) ls (.int (iI (f i)) :: rest))) : W p l e R s m args below meth c H locs cells slots Q (F0 m pc ls (.int (iI i) :: .ref a :: rest)) := by
  refine va_iald hx hb hK (hw.one he) 0 t0 rfl ht (iI_vp h0 h1 hn) hdg ?_
  show W p l e R s m args below meth c H locs cells slots Q (F0 m (pc + 1) ls (.int (iI (f ((iI i).toNatClampNeg : Int))) :: rest))
  rw [iI_clamp (by omega), Int.toNat_of_nonneg h0]
  exact kk
theorem zq_zald (hx : p.tables.exec = Jvm.exec) (hb : c.code = cc) (hK : va_K D cl tys s) (hw : zq_W D cl A H0 M H locs) (t0 : Nat) {cA : ClassId} {n : Nat} {f : Int → Int} (he : M a = some (cI cA n f)) (ht : tys[t0]? = some (cA, .boolean)) {i : Int} (h0 : 0 ≤ i) (h1 : i < n) (hn : n ≤ 2147483647) (hdg : decode cc pc = .ok (.baload, 1))
    (kk : W p l e R s m args below meth c H locs cells slots Q (F0 m (pc + 1) ls (.int (iI (f i)) :: rest))) : W p l e R s m args below meth c H locs cells slots Q (F0 m pc ls (.int (iI i) :: .ref a :: rest)) := by
  refine va_zald hx hb hK (hw.one he) 0 t0 rfl ht (iI_vp h0 h1 hn) hdg ?_
  show W p l e R s m args below meth c H locs cells slots Q (F0 m (pc + 1) ls (.int (iI (f ((iI i).toNatClampNeg : Int))) :: rest))
  rw [iI_clamp (by omega), Int.toNat_of_nonneg h0]
  exact kk
theorem zq_lald (hx : p.tables.exec = Jvm.exec) (hb : c.code = cc) (hK : va_K D cl tys s) (hw : zq_W D cl A H0 M H locs) (t0 : Nat) {cA : ClassId} {n : Nat} {f : Int → Int} (he : M a = some (cJ cA n f)) (ht : tys[t0]? = some (cA, .long)) {i : Int} (h0 : 0 ≤ i) (h1 : i < n) (hn : n ≤ 2147483647) (hdg : decode cc pc = .ok (.laload, 1))
    (kk : W p l e R s m args below meth c H locs cells slots Q (F0 m (pc + 1) ls (.long (iL (f i)) :: rest))) : W p l e R s m args below meth c H locs cells slots Q (F0 m pc ls (.int (iI i) :: .ref a :: rest)) := by
  refine va_lald hx hb hK (hw.one he) 0 t0 rfl ht (iI_vp h0 h1 hn) hdg ?_
  show W p l e R s m args below meth c H locs cells slots Q (F0 m (pc + 1) ls (.long (iL (f ((iI i).toNatClampNeg : Int))) :: rest))
  rw [iI_clamp (by omega), Int.toNat_of_nonneg h0]
  exact kk
theorem zq_aald (hx : p.tables.exec = Jvm.exec) (hb : c.code = cc) (hK : va_K D cl tys s) (hw : zq_W D cl A H0 M H locs) (t0 : Nat) {cA : ClassId} {ty : FieldType} (hty : ty.isReference = true) {n : Nat} {g : Int → Option Nat} (he : M a = some (cQ cA n g)) (ht : tys[t0]? = some (cA, ty)) {i : Int} (h0 : 0 ≤ i) (h1 : i < n) (hn : n ≤ 2147483647) {v : Nat} (hv : g i = some v) (hdg : decode cc pc = .ok (.aaload, 1))
    (kk : W p l e R s m args below meth c H locs cells slots Q (F0 m (pc + 1) ls (.ref v :: rest))) : W p l e R s m args below meth c H locs cells slots Q (F0 m pc ls (.int (iI i) :: .ref a :: rest)) := by
  have hin := iI_vp h0 h1 hn
  have hlt : (iI i).toNatClampNeg < n := Nat.not_le.mp fun q => hin (Or.inr q)
  refine W.aald (v := va_rf (g (((iI i).toNatClampNeg : Nat) : Int))) (ty := ty) hx hb (hw.1 a _ he) ((hK.2 t0 _ ht).1 n (fun j => va_rf (g (j : Int)))) hty (fun q => by cases q) (by show ¬ (iI i < 0 ∨ (arrV _ _ _).slots.size ≤ _); rw [arrV_size]; exact hin) (by show (arrV _ _ _).slots[_]? = _; rw [arrV_read _ _ hlt]) rfl rfl hdg ?_
  rw [iI_clamp (by omega), Int.toNat_of_nonneg h0, hv]
  exact kk
theorem zq_iast (hx : p.tables.exec = Jvm.exec) (hb : c.code = cc) (hK : va_K D cl tys s) (hw : zq_W D cl A H0 M H locs) (t0 : Nat) {cA : ClassId} {n : Nat} {f : Int → Int} (he : M a = some (cI cA n f)) (ht : tys[t0]? = some (cA, .int)) {i x : Int} (h0 : 0 ≤ i) (h1 : i < n) (hn : n ≤ 2147483647) (hdg : decode cc pc = .ok (.iastore, 1))
    (kk : ∀ (M1 : zq_M) (H1 : Heap) (locs1 : List Loc), M1 a = some (cI cA n (zu f i x)) → (∀ b, b ≠ a → M1 b = M b) → zq_W D cl A H0 M1 H1 locs1 → W p l e R s m args below meth c H1 locs1 cells slots Q (F0 m (pc + 1) ls rest)) : W p l e R s m args below meth c H locs cells slots Q (F0 m pc ls (.int (iI x) :: .int (iI i) :: .ref a :: rest)) := by
  have hin := iI_vp h0 h1 hn
  refine W.iast hx hb (hw.1 a _ he) ((hK.2 t0 _ ht).1 n (fun j => .int (iI (f (j : Int))))) (fun q => by cases q) (by show ¬ (iI i < 0 ∨ (arrV _ _ _).slots.size ≤ _); rw [arrV_size]; exact hin) rfl rfl hdg fun H1 e z oq => ?_
  refine kk _ H1 _ (va_up_self _ _ _) (fun b hb => va_up_ne _ _ hb) (hw.put he ?_ z oq)
  show H1[a]? = some (vp_cell _ _)
  rw [e]
  rw [vp_cell_i, vp_cell_i, arrV_store]
  congr 2
  funext q
  rw [iI_clamp (by omega)]
  by_cases hq : q = i.toNat
  · subst hq
    have e2 : ((i.toNat : Nat) : Int) = i := Int.toNat_of_nonneg h0
    simp [updV, zu, e2]
  · have e2 : ¬ (q : Int) = i := by omega
    simp [updV, zu, hq, e2]
theorem zq_last (hx : p.tables.exec = Jvm.exec) (hb : c.code = cc) (hK : va_K D cl tys s) (hw : zq_W D cl A H0 M H locs) (t0 : Nat) {cA : ClassId} {n : Nat} {f : Int → Int} (he : M a = some (cJ cA n f)) (ht : tys[t0]? = some (cA, .long)) {i x : Int} (h0 : 0 ≤ i) (h1 : i < n) (hn : n ≤ 2147483647) (hdg : decode cc pc = .ok (.lastore, 1))
    (kk : ∀ (M1 : zq_M) (H1 : Heap) (locs1 : List Loc), M1 a = some (cJ cA n (zu f i x)) → (∀ b, b ≠ a → M1 b = M b) → zq_W D cl A H0 M1 H1 locs1 → W p l e R s m args below meth c H1 locs1 cells slots Q (F0 m (pc + 1) ls rest)) : W p l e R s m args below meth c H locs cells slots Q (F0 m pc ls (.long (iL x) :: .int (iI i) :: .ref a :: rest)) := by
  have hin := iI_vp h0 h1 hn
  refine W.last hx hb (hw.1 a _ he) ((hK.2 t0 _ ht).1 n (fun j => .long (iL (f (j : Int))))) (fun q => by cases q) (by show ¬ (iI i < 0 ∨ (arrV _ _ _).slots.size ≤ _); rw [arrV_size]; exact hin) rfl rfl hdg fun H1 e z oq => ?_
  refine kk _ H1 _ (va_up_self _ _ _) (fun b hb => va_up_ne _ _ hb) (hw.put he ?_ z oq)
  show H1[a]? = some (vp_cell _ _)
  rw [e]
  rw [vp_cell_l, vp_cell_l, arrV_store]
  congr 2
  funext q
  rw [iI_clamp (by omega)]
  by_cases hq : q = i.toNat
  · subst hq
    have e2 : ((i.toNat : Nat) : Int) = i := Int.toNat_of_nonneg h0
    simp [updV, zu, e2]
  · have e2 : ¬ (q : Int) = i := by omega
    simp [updV, zu, hq, e2]
theorem zq_zast (hx : p.tables.exec = Jvm.exec) (hb : c.code = cc) (hK : va_K D cl tys s) (hw : zq_W D cl A H0 M H locs) (t0 : Nat) {cA : ClassId} {n : Nat} {f : Int → Int} (he : M a = some (cI cA n f)) (ht : tys[t0]? = some (cA, .boolean)) {i x : Int} (h0 : 0 ≤ i) (h1 : i < n) (hn : n ≤ 2147483647) (hx01 : x = 0 ∨ x = 1) (hdg : decode cc pc = .ok (.bastore, 1))
    (kk : ∀ (M1 : zq_M) (H1 : Heap) (locs1 : List Loc), M1 a = some (cI cA n (zu f i x)) → (∀ b, b ≠ a → M1 b = M b) → zq_W D cl A H0 M1 H1 locs1 → W p l e R s m args below meth c H1 locs1 cells slots Q (F0 m (pc + 1) ls rest)) : W p l e R s m args below meth c H locs cells slots Q (F0 m pc ls (.int (iI x) :: .int (iI i) :: .ref a :: rest)) := by
  have hin := iI_vp h0 h1 hn
  have hnar : narrow .boolean (.int (iI x)) = .int (iI x) := by rcases hx01 with rfl | rfl <;> rfl
  refine W.zast hx hb (hw.1 a _ he) ((hK.2 t0 _ ht).1 n (fun j => .int (iI (f (j : Int))))) (fun q => by cases q) (by show ¬ (iI i < 0 ∨ (arrV _ _ _).slots.size ≤ _); rw [arrV_size]; exact hin) rfl rfl hdg fun H1 e z oq => ?_
  refine kk _ H1 _ (va_up_self _ _ _) (fun b hb => va_up_ne _ _ hb) (hw.put he ?_ z oq)
  show H1[a]? = some (vp_cell _ _)
  rw [e, hnar]
  rw [vp_cell_i, vp_cell_i, arrV_store]
  congr 2
  funext q
  rw [iI_clamp (by omega)]
  by_cases hq : q = i.toNat
  · subst hq
    have e2 : ((i.toNat : Nat) : Int) = i := Int.toNat_of_nonneg h0
    simp [updV, zu, e2]
  · have e2 : ¬ (q : Int) = i := by omega
    simp [updV, zu, hq, e2]
theorem zq_aast (hx : p.tables.exec = Jvm.exec) (hb : c.code = cc) (hK : va_K D cl tys s) (hw : zq_W D cl A H0 M H locs) (t0 ci : Nat) {cA : ClassId} {r : vw_C} {n v : Nat} {vs : List Value} {g : Int → Option Nat} (he : M a = some (cQ cA n g)) (ht : tys[t0]? = some (cA, .object r.1)) (hv : M v = some (.inr (ci, vs))) (hc : cl[ci]? = some r) {i : Int} (h0 : 0 ≤ i) (h1 : i < n) (hn : n ≤ 2147483647) (hdg : decode cc pc = .ok (.aastore, 1))
    (kk : ∀ (M1 : zq_M) (H1 : Heap) (locs1 : List Loc), M1 a = some (cQ cA n (zu g i (some v))) → (∀ b, b ≠ a → M1 b = M b) → zq_W D cl A H0 M1 H1 locs1 → W p l e R s m args below meth c H1 locs1 cells slots Q (F0 m (pc + 1) ls rest)) : W p l e R s m args below meth c H locs cells slots Q (F0 m pc ls (.ref v :: .int (iI i) :: .ref a :: rest)) := by
  have hin := iI_vp h0 h1 hn
  have hlt : (iI i).toNatClampNeg < n := Nat.not_le.mp fun q => hin (Or.inr q)
  have h0' : ¬ iI i < 0 := fun q => hin (Or.inl q)
  obtain ⟨r', hr', cellV, g1, g2, g3, -⟩ := hw.1 v _ hv
  have hcls := (hK.1 ci r hc).2
  obtain ⟨kA, comp, k1, k2, k3, -⟩ := (hK.2 t0 _ ht).2
  have hcomp : comp = D.1 ci := Option.some.inj (k3.symm.trans hcls.1)
  subst hcomp
  obtain ⟨kC, hkC, -⟩ := hcls.2
  refine W.aast hx hb (hw.1 a _ he) (fun q h => by cases h) (fun h => by cases h) k1 k2 rfl hkC ⟨h0', by show _ < (arrV _ _ _).slots.size; rw [arrV_size]; exact hlt⟩ g1 (fun q h => by rw [g3] at h; cases h) (by rw [g2]; exact hkC) (by rw [g2]; exact va_assign hcls) rfl rfl hdg fun H1 e z oq => ?_
  refine kk _ H1 _ (va_up_self _ _ _) (fun b hb => va_up_ne _ _ hb) (hw.put he ?_ z oq)
  show H1[a]? = some (vp_cell _ _)
  rw [e]
  rw [vp_cell_q, vp_cell_q, arrV_store]
  congr 2
  funext q
  rw [iI_clamp (by omega)]
  by_cases hq : q = i.toNat
  · subst hq
    have e2 : ((i.toNat : Nat) : Int) = i := Int.toNat_of_nonneg h0
    simp [updV, zu, e2, va_rf]
  · have e2 : ¬ (q : Int) = i := by omega
    simp [updV, zu, hq, e2]
theorem zq_new (hx : p.tables.exec = Jvm.exec) (hb : c.code = cc) {own C : String} {T : u_T} {N ci index : Nat} {Ts : List Cond} (hts : ∀ w ∈ Ts, w.before args s = true) (hin : ∀ w ∈ u_ws C T N, w ∈ Ts) (ty : Nat → FieldType) (hty : ∀ k, k < N → parseFieldDescriptor (T k).2.2.1 = some (ty k)) (hown : s.vm.findClass own = some m.cls) (hcl : (Cond.classLink own index C).before args s = true) (hinst : (Cond.instantiable C N).before args s = true) (hini : (Cond.initialized C).before args s = true)
    (hK : va_K D cl tys s) (hw : zq_W D cl A H0 M H locs) (hA : ∀ q, H0.size ≤ q → A q) (hc : cl[ci]? = some (C, T, N)) {fs : List Value} (hfs : ∀ j, j < N → defaultValue (ty j) = vp_V fs j) (hcells : cells + 1 ≤ R.cells) (hslots : slots + N ≤ R.slots) (hdg : decode cc pc = .ok (.new index, 3))
    (kk : ∀ (q : Nat) (M1 : zq_M) (H1 : Heap), M q = none → M1 q = some (.inr (ci, fs)) → (∀ b, b ≠ q → M1 b = M b) → zq_W D cl A H0 M1 H1 locs → W p l e R s m args below meth c H1 locs (cells + 1) (slots + N) Q (F0 m (pc + 3) ls (.ref q :: rest))) : W p l e R s m args below meth c H locs cells slots Q (F0 m pc ls rest) := by
  have hKn := hK.1 ci _ hc
  refine W.newcK hx hb hown hcl hinst hini rfl hdg hcells hslots hKn.2.1 rfl fun H1 kC hkC e1 z1 o1 => ?_
  exact kk H.size _ H1 hw.fresh (va_up_self _ _ _) (fun b hb => va_up_ne _ _ hb) (hw.new hA ⟨_, hc, (u_born ty hts hin hKn hkC e1 hty).to hfs⟩ z1 o1)
theorem zq_newI (hx : p.tables.exec = Jvm.exec) (hb : c.code = cc) (harr : (Cond.arrayClass .int).before args s = true) (hK : va_K D cl tys s) (hw : zq_W D cl A H0 M H locs) (hA : ∀ q, H0.size ≤ q → A q) (t0 : Nat) {cA : ClassId} (ht : tys[t0]? = some (cA, .int))
    {n : Int} {N' : Nat} (hn : n = (N' : Int)) (hN : N' ≤ 1000000) (hcells : cells + 1 ≤ R.cells) (hslots : slots + N' ≤ R.slots) (hdg : decode cc pc = .ok (.newarray .int, 2))
    (kk : ∀ (q : Nat) (M1 : zq_M) (H1 : Heap), M q = none → M1 q = some (cI cA N' (fun _ => 0)) → (∀ b, b ≠ q → M1 b = M b) → zq_W D cl A H0 M1 H1 locs → W p l e R s m args below meth c H1 locs (cells + 1) (slots + N') Q (F0 m (pc + 2) ls (.ref q :: rest))) : W p l e R s m args below meth c H locs cells slots Q (F0 m pc ls (.int (iI n) :: rest)) := by
  subst hn
  have hi : inI (N' : Int) := by omega
  refine va_newaK (atype := .int) hx hb harr rfl hdg rfl (by rw [← iI_0, iI_lt hi (by omega)]; omega) (N := N') (by rw [iI_clamp hi]; omega) (by show N' * _ ≤ _; simp only [newarray.typeOf, componentBytes]; omega) hcells hslots rfl fun H1 cA1 e1 z1 o1 hAr hNm => ?_
  have hcA : cA1 = cA := Option.some.inj (hNm.symm.trans (hK.2 t0 _ ht).2)
  subst hcA
  refine kk H.size _ H1 hw.fresh (va_up_self _ _ _) (fun b hb => va_up_ne _ _ hb) (hw.new hA ?_ z1 o1)
  show H1[H.size]? = some (vp_cell _ _)
  rw [vp_cell_i]
  exact e1
theorem zq_newJ (hx : p.tables.exec = Jvm.exec) (hb : c.code = cc) (harr : (Cond.arrayClass .long).before args s = true) (hK : va_K D cl tys s) (hw : zq_W D cl A H0 M H locs) (hA : ∀ q, H0.size ≤ q → A q) (t0 : Nat) {cA : ClassId} (ht : tys[t0]? = some (cA, .long))
    {n : Int} {N' : Nat} (hn : n = (N' : Int)) (hN : N' ≤ 1000000) (hcells : cells + 1 ≤ R.cells) (hslots : slots + N' ≤ R.slots) (hdg : decode cc pc = .ok (.newarray .long, 2))
    (kk : ∀ (q : Nat) (M1 : zq_M) (H1 : Heap), M q = none → M1 q = some (cJ cA N' (fun _ => 0)) → (∀ b, b ≠ q → M1 b = M b) → zq_W D cl A H0 M1 H1 locs → W p l e R s m args below meth c H1 locs (cells + 1) (slots + N') Q (F0 m (pc + 2) ls (.ref q :: rest))) : W p l e R s m args below meth c H locs cells slots Q (F0 m pc ls (.int (iI n) :: rest)) := by
  subst hn
  have hi : inI (N' : Int) := by omega
  refine va_newaK (atype := .long) hx hb harr rfl hdg rfl (by rw [← iI_0, iI_lt hi (by omega)]; omega) (N := N') (by rw [iI_clamp hi]; omega) (by show N' * _ ≤ _; simp only [newarray.typeOf, componentBytes]; omega) hcells hslots rfl fun H1 cA1 e1 z1 o1 hAr hNm => ?_
  have hcA : cA1 = cA := Option.some.inj (hNm.symm.trans (hK.2 t0 _ ht).2)
  subst hcA
  refine kk H.size _ H1 hw.fresh (va_up_self _ _ _) (fun b hb => va_up_ne _ _ hb) (hw.new hA ?_ z1 o1)
  show H1[H.size]? = some (vp_cell _ _)
  rw [vp_cell_l]
  exact e1
theorem zq_newZ (hx : p.tables.exec = Jvm.exec) (hb : c.code = cc) (harr : (Cond.arrayClass .boolean).before args s = true) (hK : va_K D cl tys s) (hw : zq_W D cl A H0 M H locs) (hA : ∀ q, H0.size ≤ q → A q) (t0 : Nat) {cA : ClassId} (ht : tys[t0]? = some (cA, .boolean))
    {n : Int} {N' : Nat} (hn : n = (N' : Int)) (hN : N' ≤ 1000000) (hcells : cells + 1 ≤ R.cells) (hslots : slots + N' ≤ R.slots) (hdg : decode cc pc = .ok (.newarray .boolean, 2))
    (kk : ∀ (q : Nat) (M1 : zq_M) (H1 : Heap), M q = none → M1 q = some (cI cA N' (fun _ => 0)) → (∀ b, b ≠ q → M1 b = M b) → zq_W D cl A H0 M1 H1 locs → W p l e R s m args below meth c H1 locs (cells + 1) (slots + N') Q (F0 m (pc + 2) ls (.ref q :: rest))) : W p l e R s m args below meth c H locs cells slots Q (F0 m pc ls (.int (iI n) :: rest)) := by
  subst hn
  have hi : inI (N' : Int) := by omega
  refine va_newaK (atype := .boolean) hx hb harr rfl hdg rfl (by rw [← iI_0, iI_lt hi (by omega)]; omega) (N := N') (by rw [iI_clamp hi]; omega) (by show N' * _ ≤ _; simp only [newarray.typeOf, componentBytes]; omega) hcells hslots rfl fun H1 cA1 e1 z1 o1 hAr hNm => ?_
  have hcA : cA1 = cA := Option.some.inj (hNm.symm.trans (hK.2 t0 _ ht).2)
  subst hcA
  refine kk H.size _ H1 hw.fresh (va_up_self _ _ _) (fun b hb => va_up_ne _ _ hb) (hw.new hA ?_ z1 o1)
  show H1[H.size]? = some (vp_cell _ _)
  rw [vp_cell_i]
  exact e1
theorem zq_newQ (hx : p.tables.exec = Jvm.exec) (hb : c.code = cc) {own C : String} {index : Nat} (hown : s.vm.findClass own = some m.cls) (hclink : (Cond.classLink own index C).before args s = true) (hover : (Cond.arrayOver (.object C)).before args s = true) (hK : va_K D cl tys s) (hw : zq_W D cl A H0 M H locs) (hA : ∀ q, H0.size ≤ q → A q) (t0 : Nat) {cA : ClassId} (ht : tys[t0]? = some (cA, .object C))
    {n : Int} {N' : Nat} (hn : n = (N' : Int)) (hN : N' ≤ 1000000) (hcells : cells + 1 ≤ R.cells) (hslots : slots + N' ≤ R.slots) (hdg : decode cc pc = .ok (.anewarray index, 3))
    (kk : ∀ (q : Nat) (M1 : zq_M) (H1 : Heap), M q = none → M1 q = some (cQ cA N' (fun _ => none)) → (∀ b, b ≠ q → M1 b = M b) → zq_W D cl A H0 M1 H1 locs → W p l e R s m args below meth c H1 locs (cells + 1) (slots + N') Q (F0 m (pc + 3) ls (.ref q :: rest))) : W p l e R s m args below meth c H locs cells slots Q (F0 m pc ls (.int (iI n) :: rest)) := by
  subst hn
  have hi : inI (N' : Int) := by omega
  have hN' : (iI (N' : Int)).toNatClampNeg = N' := by rw [iI_clamp hi]; omega
  refine W.anew hx hb hown hclink hover rfl hdg rfl (by rw [← iI_0, iI_lt hi (by omega)]; omega) (by rw [hN']; omega) hcells (by rw [hN']; exact hslots) fun cA1 kA comp f1 f2 f3 f4 => ?_
  rw [hN']
  obtain ⟨kA2, comp2, g1, g2, g3, g4⟩ := (hK.2 t0 _ ht).2
  have hcA : cA1 = cA := Option.some.inj (f1.symm.trans g4)
  subst hcA
  generalize hH1 : H.push ({ cls := cA1, slots := Array.replicate N' .null, vm := .none } : Cell) = H1
  have z1 : H1.size = H.size + 1 := by rw [← hH1, Array.size_push]
  have e1 : H1[H.size]? = some (arrV cA1 N' (fun _ => .null)) := by rw [← hH1, Array.getElem?_push_size, ← arrV_new]
  have o1 : ∀ q : Nat, q < H.size → H1[q]? = H[q]? := fun q hq => by rw [← hH1, Array.getElem?_push, if_neg (Nat.ne_of_lt hq)]
  refine kk H.size _ H1 hw.fresh (va_up_self _ _ _) (fun b hb => va_up_ne _ _ hb) (hw.new hA ?_ z1 o1)
  show H1[H.size]? = some (vp_cell _ _)
  rw [vp_cell_q]
  exact e1
theorem zq_iret (hx : p.tables.exec = Jvm.exec) (hb : c.code = cc) {v : Int32} (hr : meth.sig.returnType = some .int) (hlocks : meth.locks = false) {post : Option Value → zq_M → Prop} (hK : zK D cl tys s) (hw : zq_W D cl A s.heap M H locs) (hpost : post (some (.int v)) M) (hdg : decode cc pc = .ok (.ireturn, 1)) : W p l e R s m args below meth c H locs cells slots (MQ below (zq_Q D cl tys post A) args s cells slots A) (F0 m pc ls [.int v]) :=
  W.iret hx hb hr (fun t ht hW => ⟨⟨_, M, rfl, hpost, by rw [ht]; exact hw.1, zK.moved hW.alike hK, hw.2.1⟩, hw.2.2.F ht⟩) hw.2.2.2.2 hdg hlocks
theorem zq_zret (hx : p.tables.exec = Jvm.exec) (hb : c.code = cc) {v : Int32} {ty : FieldType} (hr : meth.sig.returnType = some ty) (hn : narrow ty (.int v) = .int v) (hlocks : meth.locks = false) {post : Option Value → zq_M → Prop} (hK : zK D cl tys s) (hw : zq_W D cl A s.heap M H locs) (hpost : post (some (.int v)) M) (hdg : decode cc pc = .ok (.ireturn, 1)) : W p l e R s m args below meth c H locs cells slots (MQ below (zq_Q D cl tys post A) args s cells slots A) (F0 m pc ls [.int v]) :=
  W.zret hx hb hr hn (fun t ht hW => ⟨⟨_, M, rfl, hpost, by rw [ht]; exact hw.1, zK.moved hW.alike hK, hw.2.1⟩, hw.2.2.F ht⟩) hw.2.2.2.2 hdg hlocks
theorem zq_lret (hx : p.tables.exec = Jvm.exec) (hb : c.code = cc) {v : Int64} (hr : meth.sig.returnType = some .long) (hlocks : meth.locks = false) {post : Option Value → zq_M → Prop} (hK : zK D cl tys s) (hw : zq_W D cl A s.heap M H locs) (hpost : post (some (.long v)) M) (hdg : decode cc pc = .ok (.lreturn, 1)) : W p l e R s m args below meth c H locs cells slots (MQ below (zq_Q D cl tys post A) args s cells slots A) (F0 m pc ls [.long v]) :=
  W.lret hx hb hr (fun t ht hW => ⟨⟨_, M, rfl, hpost, by rw [ht]; exact hw.1, zK.moved hW.alike hK, hw.2.1⟩, hw.2.2.F ht⟩) hw.2.2.2.2 hdg hlocks
theorem zq_vret (hx : p.tables.exec = Jvm.exec) (hb : c.code = cc) (hr : meth.sig.returnType = none) (hlocks : meth.locks = false) {post : Option Value → zq_M → Prop} (hK : zK D cl tys s) (hw : zq_W D cl A s.heap M H locs) (hpost : post (none) M) (hdg : decode cc pc = .ok (.return_, 1)) : W p l e R s m args below meth c H locs cells slots (MQ below (zq_Q D cl tys post A) args s cells slots A) (F0 m pc ls []) :=
  W.vret hx hb hr (fun t ht hW => ⟨⟨_, M, rfl, hpost, by rw [ht]; exact hw.1, zK.moved hW.alike hK, hw.2.1⟩, hw.2.2.F ht⟩) hw.2.2.2.2 hdg hlocks
theorem zq_aret (hx : p.tables.exec = Jvm.exec) (hb : c.code = cc) {v : Nat} {rt : FieldType} (hr : meth.sig.returnType = some rt) (hrt : (∃ n, rt = .object n) ∨ ∃ t, rt = .array t) (hlocks : meth.locks = false) {post : Option Value → zq_M → Prop} (hK : zK D cl tys s) (hw : zq_W D cl A s.heap M H locs) (hpost : post (some (.ref v)) M) (hdg : decode cc pc = .ok (.areturn, 1)) : W p l e R s m args below meth c H locs cells slots (MQ below (zq_Q D cl tys post A) args s cells slots A) (F0 m pc ls [.ref v]) :=
  W.aret hx hb hr hrt (Or.inr ⟨_, rfl⟩) (fun t ht hW => ⟨⟨_, M, rfl, hpost, by rw [ht]; exact hw.1, zK.moved hW.alike hK, hw.2.1⟩, hw.2.2.F ht⟩) hw.2.2.2.2 hdg hlocks
theorem zq_start {y : MethodName} {ws ws' : List Cond} {rm : Room} {av : List Value} {post : Option Value → zq_M → Prop} {mc ms maxL : Nat} {ret : Option FieldType} (hy : plainName y.cls = true) (hw : ws = Cond.code y cc maxL ret :: ws') (hav : (lg_sl av).length ≤ maxL)
    (body : ∀ (p : Program) (e : Env) (s : State) (m : MethodId) (below : List Frame) (meth : Method) (c : Code) (A : Nat → Prop) (ls : Array Slot), p.tables.exec = Jvm.exec → c.code = cc → meth.sig.returnType = ret → c.maxLocals = maxL → (∀ w ∈ ws, w.before av.toArray s = true) → s.vm.findClass y.cls = some m.cls → meth.name = y.name → meth.locks = false → (∀ q : Nat, s.heap.size ≤ q → A q) → zK D cl tys s → zq_W D cl A s.heap M s.heap [] → lv_has ls maxL (lv_args 0 av) →
      W p l e rm s m av.toArray below meth c s.heap [] 0 0 (MQ below (zq_Q D cl tys post A) av.toArray s mc ms A) (F0 m 0 ls [])) : zq_Met l y ws rm D cl tys av M post mc ms := by
  intro sz
  refine Met.ofW (cc := cc) (maxL := maxL) (ret := ret) hy hw ?_
  intro p e s m args below meth c s₁ B hml hv
  obtain ⟨rfl, hsz, hP, hK⟩ := hv
  subst hsz
  have hts := atoms_spec (ws := ws) B.pre
  have hown : s.vm.findClass y.cls = some m.cls := findClass_of_methodNamed B.named
  have hnm : meth.name = y.name := (name_of_methodNamed B.named B.method).1
  rw [lg_entry_eq]
  exact body p e s m below meth c (zq_A M s.heap.size) _ B.exec B.bytes B.returns hml hts hown hnm B.notSynchronized (fun q h => Or.inr h) hK ⟨hP, fun a e h => Or.inl ⟨e, h⟩, va_S.rf⟩ (lv_entry av hav)
theorem zq_callV {y : MethodName} {bytes : ByteArray} {maxL nL mc ms n index : Nat} {ret : Option FieldType} {ws : List Cond} {rm : Room} {Ts : List Cond} {own C : String} {b : Nat} {As rest st0 : List Value} {post : Option Value → zq_M → Prop} (S : CallFix p m c cc nL s args Ts own) (hM : zq_Met l y ws rm D cl tys (.ref b :: As) M post mc ms) (cw : CallW R s args own C index y bytes maxL ret ws rm mc ms n) (hK : zK D cl tys s) (hw : zq_W D cl A H0 M H locs) (hA : ∀ q, H0.size ≤ q → A q) {ci : Nat} {fs : List Value} {q : vw_C} (he : M b = some (.inr (ci, fs))) (hc : cl[ci]? = some q) (hC : q.1 = C)
    (hst : st0 = As.reverse ++ .ref b :: rest) (hn : As.length = n) (hsize : ls.size = nL) (hW8 : (rest.map fun v => v.category).sum ≤ 8) (hdg : decode cc pc = .ok (.invokevirtual index, 3)) (hf : cells + mc ≤ R.cells ∧ slots + ms ≤ R.slots)
    (kk : ∀ (v : Option Value) (M1 : zq_M) (H1 : Heap) (locs1 : List Loc), post v M1 → zq_W D cl A H0 M1 H1 locs1 → W p l e R s m args below meth c H1 locs1 (cells + mc) (slots + ms) Q (F0 m (pc + 3) ls (v.toList ++ rest))) : W p l e R s m args below meth c H locs cells slots Q (F0 m pc ls st0) := by
  subst hst
  have hAM : ∀ q : Nat, zq_A M H.size q → A q := fun q h => h.elim (fun ⟨x, hx⟩ => hw.2.1 q x hx) (fun h => hA q (Nat.le_trans hw.2.2.1 h))
  intro T hT X
  obtain ⟨v, st₀, t, T', L, h0, X', hL, e1, e2, hq, st⟩ := va_runV (As := As) (rest := rest) (g := F0 m pc ls (As.reverse ++ .ref b :: rest)) S (hM H.size) cw ⟨fun a U g mk q => by obtain ⟨q0, q1, qP, qK⟩ := q; exact ⟨q0, q1, qP, zK.moved (u := U) (U := U.calling g mk a) (Vm.Alike.refl U.vm) qK⟩, (by rw [← hC]; exact va_recv hK.1 (hw.one he) (q0 := 0) hc rfl), fun U hU hW => ⟨rfl, by rw [hU], by rw [hU]; exact hw.1, zK.moved hW.alike hK⟩⟩ rfl hn hsize rfl (lv_room hW8) hdg hf T hT X
  obtain ⟨⟨v', M', hv, hp, hH, hK', hdom⟩, hz, hk⟩ := hq
  cases hv
  rw [h0] at hz hk
  obtain ⟨t2, a1, b1⟩ := kk v M' T'.heap (locs ++ L) hp ⟨by rw [e1]; exact hH, fun a x h => hAM a (hdom a x h), Nat.le_trans hw.2.2.1 (by rw [e1]; exact hz), fun q h1 h2 => by rw [e1, hk q (Nat.lt_of_lt_of_le h1 hw.2.2.1) (fun z => h2 (hAM q z))]; exact hw.2.2.2.1 q h1 h2, fun q hq => by
      rcases List.mem_append.mp hq with h | h
      · exact hw.2.2.2.2 q h
      · exact hAM _ (hL q h)⟩ T' rfl X'
  exact ⟨t2, st t2 a1, b1⟩
theorem zq_callS {y : MethodName} {bytes : ByteArray} {maxL nL mc ms n index : Nat} {ret : Option FieldType} {ws : List Cond} {rm : Room} {Ts : List Cond} {own C : String} {b : Nat} {As rest st0 : List Value} {post : Option Value → zq_M → Prop} (S : CallFix p m c cc nL s args Ts own) (hM : zq_Met l y ws rm D cl tys (As) M post mc ms) (cw : CallB R s args own index y bytes maxL ret ws rm mc ms n ∧ (Cond.static y).before args s = true) (hK : zK D cl tys s) (hw : zq_W D cl A H0 M H locs) (hA : ∀ q, H0.size ≤ q → A q)
    (hst : st0 = As.reverse ++ rest) (hn : As.length = n) (hsize : ls.size = nL) (hW8 : (rest.map fun v => v.category).sum ≤ 8) (hdg : decode cc pc = .ok (.invokestatic index, 3)) (hf : cells + mc ≤ R.cells ∧ slots + ms ≤ R.slots)
    (kk : ∀ (v : Option Value) (M1 : zq_M) (H1 : Heap) (locs1 : List Loc), post v M1 → zq_W D cl A H0 M1 H1 locs1 → W p l e R s m args below meth c H1 locs1 (cells + mc) (slots + ms) Q (F0 m (pc + 3) ls (v.toList ++ rest))) : W p l e R s m args below meth c H locs cells slots Q (F0 m pc ls st0) := by
  subst hst
  have hAM : ∀ q : Nat, zq_A M H.size q → A q := fun q h => h.elim (fun ⟨x, hx⟩ => hw.2.1 q x hx) (fun h => hA q (Nat.le_trans hw.2.2.1 h))
  intro T hT X
  obtain ⟨v, st₀, t, T', L, h0, X', hL, e1, e2, hq, st⟩ := va_runS (As := As) (rest := rest) (g := F0 m pc ls (As.reverse ++ rest)) S (hM H.size) cw ⟨fun a U g mk q => by obtain ⟨q0, q1, qP, qK⟩ := q; exact ⟨q0, q1, qP, zK.moved (u := U) (U := U.calling g mk a) (Vm.Alike.refl U.vm) qK⟩, fun U hU hW => ⟨rfl, by rw [hU], by rw [hU]; exact hw.1, zK.moved hW.alike hK⟩⟩ rfl hn hsize rfl (lv_room hW8) hdg hf T hT X
  obtain ⟨⟨v', M', hv, hp, hH, hK', hdom⟩, hz, hk⟩ := hq
  cases hv
  rw [h0] at hz hk
  obtain ⟨t2, a1, b1⟩ := kk v M' T'.heap (locs ++ L) hp ⟨by rw [e1]; exact hH, fun a x h => hAM a (hdom a x h), Nat.le_trans hw.2.2.1 (by rw [e1]; exact hz), fun q h1 h2 => by rw [e1, hk q (Nat.lt_of_lt_of_le h1 hw.2.2.1) (fun z => h2 (hAM q z))]; exact hw.2.2.2.1 q h1 h2, fun q hq => by
      rcases List.mem_append.mp hq with h | h
      · exact hw.2.2.2.2 q h
      · exact hAM _ (hL q h)⟩ T' rfl X'
  exact ⟨t2, st t2 a1, b1⟩
theorem zq_callI {y : MethodName} {bytes : ByteArray} {maxL nL mc ms n index : Nat} {ws : List Cond} {rm : Room} {Ts : List Cond} {own C : String} {b : Nat} {As rest st0 : List Value} {post : Option Value → zq_M → Prop} (S : CallFix p m c cc nL s args Ts own) (hM : zq_Met l y ws rm D cl tys (.ref b :: As) M post mc ms) (cw : CallB R s args own index y bytes maxL none ws rm mc ms n ∧ y.name = "<init>" ∧ (Cond.instanceMethod y).before args s = true) (hK : zK D cl tys s) (hw : zq_W D cl A H0 M H locs) (hA : ∀ q, H0.size ≤ q → A q)
    (hst : st0 = As.reverse ++ .ref b :: rest) (hn : As.length = n) (hsize : ls.size = nL) (hW8 : (rest.map fun v => v.category).sum ≤ 8) (hdg : decode cc pc = .ok (.invokespecial index, 3)) (hf : cells + mc ≤ R.cells ∧ slots + ms ≤ R.slots)
    (kk : ∀ (v : Option Value) (M1 : zq_M) (H1 : Heap) (locs1 : List Loc), post v M1 → zq_W D cl A H0 M1 H1 locs1 → W p l e R s m args below meth c H1 locs1 (cells + mc) (slots + ms) Q (F0 m (pc + 3) ls (v.toList ++ rest))) : W p l e R s m args below meth c H locs cells slots Q (F0 m pc ls st0) := by
  subst hst
  have hAM : ∀ q : Nat, zq_A M H.size q → A q := fun q h => h.elim (fun ⟨x, hx⟩ => hw.2.1 q x hx) (fun h => hA q (Nat.le_trans hw.2.2.1 h))
  intro T hT X
  obtain ⟨v, st₀, t, T', L, h0, X', hL, e1, e2, hq, st⟩ := va_runI (As := As) (rest := rest) (g := F0 m pc ls (As.reverse ++ .ref b :: rest)) S (hM H.size) cw ⟨fun a U g mk q => by obtain ⟨q0, q1, qP, qK⟩ := q; exact ⟨q0, q1, qP, zK.moved (u := U) (U := U.calling g mk a) (Vm.Alike.refl U.vm) qK⟩, fun U hU hW => ⟨rfl, by rw [hU], by rw [hU]; exact hw.1, zK.moved hW.alike hK⟩⟩ rfl hn hsize rfl (lv_room hW8) hdg hf T hT X
  obtain ⟨⟨v', M', hv, hp, hH, hK', hdom⟩, hz, hk⟩ := hq
  cases hv
  rw [h0] at hz hk
  obtain ⟨t2, a1, b1⟩ := kk v M' T'.heap (locs ++ L) hp ⟨by rw [e1]; exact hH, fun a x h => hAM a (hdom a x h), Nat.le_trans hw.2.2.1 (by rw [e1]; exact hz), fun q h1 h2 => by rw [e1, hk q (Nat.lt_of_lt_of_le h1 hw.2.2.1) (fun z => h2 (hAM q z))]; exact hw.2.2.2.1 q h1 h2, fun q hq => by
      rcases List.mem_append.mp hq with h | h
      · exact hw.2.2.2.2 q h
      · exact hAM _ (hL q h)⟩ T' rfl X'
  exact ⟨t2, st t2 a1, b1⟩
theorem zq_max (hx : p.tables.exec = Jvm.exec) (hb : c.code = cc) (hml : c.maxLocals = ls.size) {own : String} {index : Nat} (hown : s.vm.findClass own = some m.cls) (hlink : (Cond.methodLink own index Lib.Math.max.name).before args s = true) (hstat : (Cond.static Lib.Math.max.name).before args s = true) (hini : (Cond.initialized "java/lang/Math").before args s = true) (hcode : (Cond.code Lib.Math.max.name Lib.Math.max.code 2 (some .int)).before args s = true)
    (hframes : 1 ≤ R.frames) (hlocals : (rest.map fun v => v.category).sum + 13 ≤ R.locals) (hc : cells ≤ R.cells) (hs : slots ≤ R.slots) {x y : Int} (hi : inI x) (hj : inI y) (hdg : decode cc pc = .ok (.invokestatic index, 3))
    (kk : W p l e R s m args below meth c H locs cells slots Q (F0 m (pc + 3) ls (.int (iI (max x y)) :: rest))) : W p l e R s m args below meth c H locs cells slots Q (F0 m pc ls (.int (iI y) :: .int (iI x) :: rest)) := by
  refine va_mmax hx hb hml hown hlink hstat hini hcode hframes hlocals hc hs hdg ?_
  have e : (if iI x < iI y then iI y else iI x) = iI (max x y) := by
    by_cases h : x < y
    · rw [if_pos ((iI_lt hi hj).mpr h)]; congr 1; omega
    · rw [if_neg (fun z => h ((iI_lt hi hj).mp z))]; congr 1; omega
  rw [e]
  exact kk
theorem zq_min (hx : p.tables.exec = Jvm.exec) (hb : c.code = cc) (hml : c.maxLocals = ls.size) {own : String} {index : Nat} (hown : s.vm.findClass own = some m.cls) (hlink : (Cond.methodLink own index Lib.Math.min.name).before args s = true) (hstat : (Cond.static Lib.Math.min.name).before args s = true) (hini : (Cond.initialized "java/lang/Math").before args s = true) (hcode : (Cond.code Lib.Math.min.name Lib.Math.min.code 2 (some .int)).before args s = true)
    (hframes : 1 ≤ R.frames) (hlocals : (rest.map fun v => v.category).sum + 13 ≤ R.locals) (hc : cells ≤ R.cells) (hs : slots ≤ R.slots) {x y : Int} (hi : inI x) (hj : inI y) (hdg : decode cc pc = .ok (.invokestatic index, 3))
    (kk : W p l e R s m args below meth c H locs cells slots Q (F0 m (pc + 3) ls (.int (iI (min x y)) :: rest))) : W p l e R s m args below meth c H locs cells slots Q (F0 m pc ls (.int (iI y) :: .int (iI x) :: rest)) := by
  refine va_mmin hx hb hml hown hlink hstat hini hcode hframes hlocals hc hs hdg ?_
  have e : (if iI y < iI x then iI y else iI x) = iI (min x y) := by
    by_cases h : y < x
    · rw [if_pos ((iI_lt hj hi).mpr h)]; congr 1; omega
    · rw [if_neg (fun z => h ((iI_lt hj hi).mp z))]; congr 1; omega
  rw [e]
  exact kk
theorem arrV_congr {k : ClassId} {N : Nat} {f g : Nat → Value} (h : ∀ j, j < N → f j = g j) : arrV k N f = arrV k N g := by
  unfold arrV
  congr 1
  apply Array.ext
  · simp
  · intro i h1 h2
    simp only [Array.getElem_ofFn]
    exact h i (by simpa using h1)
theorem zq_copyI (hx : p.tables.exec = Jvm.exec) (hb : c.code = cc) (hml : c.maxLocals = ls.size) {own : String} {index : Nat} (hown : s.vm.findClass own = some m.cls) (hlink : (Cond.methodLink own index arraycopyName).before args s = true) (hnat : (Cond.native arraycopyName).before args s = true) (hstat : (Cond.static arraycopyName).before args s = true) (hini : (Cond.initialized "java/lang/System").before args s = true)
    (hK : va_K D cl tys s) (hw : zq_W D cl A H0 M H locs) (t0 : Nat) {a0 : Nat} {c0 : ClassId} {n : Nat} {f g : Int → Int} (ha0 : M a0 = some (cI c0 n f)) (ha1 : M a = some (cI c0 n g)) (ht0 : tys[t0]? = some (c0, .int)) (hn : n ≤ 2147483647) {z1 z2 z3 : Int} (e1 : z1 = 0) (e2 : z2 = 0) (e3 : z3 = (n : Int))
    (hframes : 1 ≤ R.frames) (hlocals : (rest.map fun v => v.category).sum + (nativeFrameWords "java/lang/System" "arraycopy" 5 + 11) ≤ R.locals) (hdg : decode cc pc = .ok (.invokestatic index, 3))
    (kk : ∀ (M1 : zq_M) (H1 : Heap) (locs1 : List Loc), M1 a = some (cI c0 n f) → (∀ b, b ≠ a → M1 b = M b) → zq_W D cl A H0 M1 H1 locs1 → W p l e R s m args below meth c H1 locs1 cells slots Q (F0 m (pc + 3) ls rest)) : W p l e R s m args below meth c H locs cells slots Q (F0 m pc ls (.int (iI z3) :: .int (iI z2) :: .ref a :: .int (iI z1) :: .ref a0 :: rest)) := by
  subst e1; subst e2; subst e3
  have hnI : inI (n : Int) := by omega
  have hcl : (iI (n : Int)).toNatClampNeg = n := by rw [iI_clamp hnI]; omega
  have h0 : (iI 0).toNatClampNeg = 0 := rfl
  have nneg : ¬ iI (n : Int) < 0 := by rw [← iI_0, iI_lt hnI (by omega)]; omega
  have h00 : ¬ iI 0 < 0 := by decide
  have hc0 : H[a0]? = some (vp_cell c0 (n, .inl (fun j => iI (f (j : Int))))) := hw.1 _ _ ha0
  have hc1 : H[a]? = some (vp_cell c0 (n, .inl (fun j => iI (g (j : Int))))) := hw.1 _ _ ha1
  intro T hT X
  obtain ⟨-, k0, hk0, cm0, hkk0⟩ := (hK.2 t0 _ ht0).1 n (fun j => .int (iI (f (j : Int))))
  obtain ⟨vm', X', step⟩ := X.arraycopy hx hown hlink hnat hstat hini (src := a0) (dst := a) (cs := vp_cell c0 (n, .inl (fun j => iI (f (j : Int))))) (cd := vp_cell c0 (n, .inl (fun j => iI (g (j : Int))))) (srcPos := iI 0) (destPos := iI 0) (n := iI (n : Int)) (by rw [hT]; exact hc0) (by rw [hT]; exact hc1)
    (fun _ h => by cases h) (fun _ h => by cases h) (fun h => by cases h) (fun h => by cases h) hk0 hk0 hkk0 hkk0 (by simp [refKind]) h00 h00 nneg
    (by rw [iI_toInt (by omega), iI_toInt hnI]; show ¬ _ > ((arrV c0 n _).slots.size : Int); rw [arrV_size]; omega)
    (by rw [iI_toInt (by omega), iI_toInt hnI]; show ¬ _ > ((arrV c0 n _).slots.size : Int); rw [arrV_size]; omega)
    (fun vm₁ _ i hi => by
      have e : (vp_cell c0 (n, .inl (fun j => iI (f (j : Int))))).slots.getD ((iI 0).toNatClampNeg + i) .null = .int (iI (f ((((iI 0).toNatClampNeg + i : Nat)) : Int))) := by
        show (arrV c0 n (fun j => .int (iI (f (j : Int))))).slots.getD _ _ = _
        rw [hcl] at hi
        rw [h0, Array.getD_eq_getD_getElem?, arrV_read _ _ (by omega)]
        rfl
      refine ⟨?_, ?_⟩
      · rw [e]
        rfl
      · rw [e]
        exact trivial)
    (g := F0 m pc ls (.int (iI (n : Int)) :: .int (iI 0) :: .ref a :: .int (iI 0) :: .ref a0 :: rest)) rfl (by rw [hml]) (rest := rest) rfl (by rw [hb]; exact hdg) hframes (by show 2 * 0 + _ + _ ≤ _; omega)
  have e1 : copied (vp_cell c0 (n, .inl (fun j => iI (f (j : Int))))) (vp_cell c0 (n, .inl (fun j => iI (g (j : Int))))) (iI 0) (iI 0) (iI (n : Int)) = vp_cell c0 (n, .inl (fun j => iI (f (j : Int)))) := by
    have e := va_copied (fun z => .int z) c0 c0 (n0 := n) (n1 := n) (sp := (iI 0).toNatClampNeg) (dp := (iI 0).toNatClampNeg) (n := (iI (n : Int)).toNatClampNeg) (fun j => iI (f (j : Int))) (fun j => iI (g (j : Int))) (by rw [hcl, h0]; omega)
    refine Eq.trans e ?_
    rw [vp_cell_i, hcl, h0]
    refine arrV_congr fun j hj => ?_
    have : va_cpy (fun j => iI (f (j : Int))) (fun j => iI (g (j : Int))) 0 0 n j = iI (f (j : Int)) := by
      rw [pk_cpy_in (by omega) (by omega)]
      simp
    rw [this]
  rw [e1] at X' step
  have hl : a < H.size := (Array.getElem?_eq_some_iff.mp hc1).1
  have hheap : ((T.setVm vm').setCell a (vp_cell c0 (n, .inl (fun j => iI (f (j : Int)))))).heap = H.setIfInBounds a (vp_cell c0 (n, .inl (fun j => iI (f (j : Int))))) := by rw [← hT]; rfl
  have oq : ∀ q : Nat, q ≠ a → (H.setIfInBounds a (vp_cell c0 (n, .inl (fun j => iI (f (j : Int))))))[q]? = H[q]? := fun q hq => by simp [Array.getElem?_setIfInBounds, Ne.symm hq]
  have hput := hw.put (k := 0) (H1 := H.setIfInBounds a (vp_cell c0 (n, .inl (fun j => iI (f (j : Int)))))) (y := cI c0 n f) ha1 (show (H.setIfInBounds a _)[a]? = some _ by simp [Array.getElem?_setIfInBounds, hl]) (by simp) oq
  obtain ⟨t, a1, b1⟩ := kk _ _ _ (va_up_self _ _ _) (fun b hb => va_up_ne _ _ hb) ⟨hput.1, hput.2.1, hput.2.2.1, hput.2.2.2.1, fun q hq => by
      rcases List.mem_append.mp hq with h | h
      · exact hw.2.2.2.2 q h
      · obtain ⟨z, -, hz⟩ := List.mem_map.mp h
        rw [← hz]
        exact hw.2.1 _ _ ha1⟩ _ hheap X'
  exact ⟨t, step t a1, b1⟩
theorem zq_ri {x y : Int} (h : x = y) : some (Value.int (iI x)) = some (Value.int (iI y)) := by rw [h]
theorem zq_rl {x y : Int} (h : x = y) : some (Value.long (iL x)) = some (Value.long (iL y)) := by rw [h]
end ZQ
