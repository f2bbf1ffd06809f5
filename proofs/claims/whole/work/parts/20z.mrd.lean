section ZS
variable {p : Program} {l : Launch} {e : Env} {R : Room} {s : State} {m : MethodId} {args : Array Value} {below : List Frame} {meth : Method} {c : Code} {H H1 : Heap} {locs : List Loc} {cells slots : Nat} {Q : State → Prop}
variable {cc : ByteArray} {pc : Nat} {ls : Array Slot} {rest : List Value} {D : va_G} {cl : List vw_C} {A : Nat → Prop} {a : Nat} {tys : List (ClassId × FieldType)} {H0 : Heap} {M : zq_M}
/-- a row is put into a table of int rows -/
theorem zq_aastA (hx : p.tables.exec = Jvm.exec) (hb : c.code = cc) (hZ : zK D cl tys s) (hw : zq_W D cl A H0 M H locs) (t4 t0 : Nat) {cG cA : ClassId} {n v nn : Nat} {g : Int → Option Nat} {f : Int → Int} (he : M a = some (cQ cG n g)) (ht4 : tys[t4]? = some (cG, .array .int)) (hv : M v = some (cI cA nn f)) (ht0 : tys[t0]? = some (cA, .int)) {i : Int} (h0 : 0 ≤ i) (h1 : i < n) (hn : n ≤ 2147483647) (hdg : decode cc pc = .ok (.aastore, 1))
    (kk : ∀ (M1 : zq_M) (H1 : Heap) (locs1 : List Loc), M1 a = some (cQ cG n (zu g i (some v))) → (∀ b, b ≠ a → M1 b = M b) → zq_W D cl A H0 M1 H1 locs1 → W p l e R s m args below meth c H1 locs1 cells slots Q (F0 m (pc + 1) ls rest)) : W p l e R s m args below meth c H locs cells slots Q (F0 m pc ls (.ref v :: .int (iI i) :: .ref a :: rest)) := by
  have hin := iI_vp h0 h1 hn
  have hlt : (iI i).toNatClampNeg < n := Nat.not_le.mp fun q => hin (Or.inr q)
  have h0' : ¬ iI i < 0 := fun q => hin (Or.inl q)
  obtain ⟨comp, c', k, f1, -, f3, f4, f5⟩ := zAO_spec hZ.2.2
  have e4 : s.vm.findClass ("[" ++ (FieldType.array .int).toString) = some cG := (hZ.1.2 t4 _ ht4).2
  have e0 : s.vm.findClass (FieldType.array .int).toString = some cA := (hZ.1.2 t0 _ ht0).2
  obtain rfl : c' = cG := Option.some.inj (f5.symm.trans e4)
  obtain rfl : comp = cA := Option.some.inj (f1.symm.trans e0)
  obtain ⟨-, k0, hk0, cm0, hkk0⟩ := (hZ.1.2 t0 _ ht0).1 nn (fun j => .int (iI (f (j : Int))))
  refine W.aast hx hb (hw.1 a _ he) (fun q h => by cases h) (fun h => by cases h) f3 f4 rfl hk0 ⟨h0', by show _ < (arrV _ _ _).slots.size; rw [arrV_size]; exact hlt⟩ (hw.1 v _ hv) (fun q h => by cases h) hk0 (va_asg _ _) rfl rfl hdg fun H1 e z oq => ?_
  refine kk _ H1 _ (va_up_self _ _ _) (fun b hb => va_up_ne _ _ hb) (hw.put he ?_ z oq)
  show H1[a]? = some (vp_cell _ _)
  rw [e]
  rw [vp_cell_q, vp_cell_q, arrV_store]
  congr 2
  funext q
  rw [iI_clamp (by omega)]
  by_cases hq : q = i.toNat
  · subst hq
    have e2 : ((i.toNat : Nat) : Int) = i := Int.toNat_of_nonneg h0
    simp [updV, zu, e2, va_rf]
  · have e2 : ¬ (q : Int) = i := by omega
    simp [updV, zu, hq, e2]
end ZS
def zFp (F : Int → Int → Int) (fr rows col r : Int) : Prop := (fr ≤ r ∧ r < rows ∧ ¬ F r col = 0 ∧ ∀ k, fr ≤ k → k < r → F k col = 0) ∨ (r = -1 ∧ ∀ k, fr ≤ k → k < rows → F k col = 0)
def zsi (a b k : Int) : Int := if k = b then a else if k = a then b else k
def zswp {α : Type} (F : Int → α) (a b : Int) : Int → α := fun k => F (zsi a b k)
theorem zsi_in {a b k n : Int} (ha : 0 ≤ a ∧ a < n) (hb : 0 ≤ b ∧ b < n) (hk : 0 ≤ k ∧ k < n) : 0 ≤ zsi a b k ∧ zsi a b k < n := by unfold zsi; (repeat' split) <;> omega
theorem zsi_inj {a b i j : Int} (h : zsi a b i = zsi a b j) : i = j := by
  unfold zsi at h
  (repeat' split at h) <;> omega
theorem zswp_some {ra : Int → Nat} {a b : Int} : zu (zu (fun i => some (ra i)) a (some (ra b))) b (some (ra a)) = fun i => some (zswp ra a b i) := by
  funext i
  unfold zswp zsi
  simp only [zu]
  split
  · rfl
  · split <;> rfl
theorem zG_swp {K : Nat → ClassId} {M M' : zq_M} {g : Nat} {ra : Int → Nat} {F : Int → Int → Int} {a b : Int} (h : zG K M g ra F) (ha : 0 ≤ a ∧ a < 12) (hb : 0 ≤ b ∧ b < 12) (hg : M' g = some (cQ (K 4) 12 (fun i => some (zswp ra a b i)))) (hM : ∀ q, q ≠ g → M' q = M q) : zG K M' g (zswp ra a b) (zswp F a b) := by
  have at' : ∀ i, 0 ≤ i → i < 12 → M' (ra i) = some (cI (K 0) 33 (F i)) := fun i h1 h2 => (hM _ (zq_ne (h.2.1 i h1 h2) h.1 (by simp))).trans (h.2.1 i h1 h2)
  refine ⟨hg, fun i h1 h2 => ?_, fun i j i1 i2 j1 j2 e => ?_⟩
  · have z := zsi_in ha hb ⟨h1, h2⟩
    exact at' _ z.1 z.2
  · have z1 := zsi_in ha hb ⟨i1, i2⟩
    have z2 := zsi_in ha hb ⟨j1, j2⟩
    exact zsi_inj (h.2.2 _ _ z1.1 z1.2 z2.1 z2.2 e)
theorem zG_one {K : Nat → ClassId} {M M' : zq_M} {g : Nat} {ra : Int → Nat} {F : Int → Int → Int} {i : Int} {f : Int → Int} (h : zG K M g ra F) (hr : M' (ra i) = some (cI (K 0) 33 f)) (hM : ∀ q, q ≠ ra i → M' q = M q) (h1 : 0 ≤ i) (h2 : i < 12) : zG K M' g ra (zu F i f) := by
  refine ⟨(hM _ (zq_ne h.1 (h.2.1 i h1 h2) (by simp))).trans h.1, fun k k1 k2 => ?_, h.2.2⟩
  by_cases q : k = i
  · rw [q, zu_self]; exact hr
  · rw [zu_ne _ _ q]
    exact (hM _ (fun z => q (h.2.2 k i k1 k2 h1 h2 z))).trans (h.2.1 k k1 k2)
/-- row k behind the elimination of column col by row st -/
def zcr (F : Int → Int → Int) (st col p k : Int) : Int → Int := if F k col = 0 then F k else fun j => if col ≤ j ∧ j < 33 then (F k j * F st col - F st j * F k col) % p else F k j
def zclr (F : Int → Int → Int) (st rows col p : Int) : Int → Int → Int := fun k => if st < k ∧ k < rows then zcr F st col p k else F k
theorem zclr_step {F F1 : Int → Int → Int} {st col p i : Int} {f : Int → Int} (h : ∀ k, F1 k = if st < k ∧ k < i then zcr F st col p k else F k) (hi : st < i) (hf : f = zcr F st col p i) : ∀ k, zu F1 i f k = if st < k ∧ k < i + 1 then zcr F st col p k else F k := by
  intro k
  by_cases q : k = i
  · rw [q, zu_self, if_pos (by omega), hf]
  · rw [zu_ne _ _ q, h]
    by_cases z : st < k ∧ k < i
    · rw [if_pos z, if_pos (by omega)]
    · rw [if_neg z, if_neg (by omega)]
theorem zmul_in {a b c d : Int} (ha : 0 ≤ a ∧ a ≤ 96) (hb : 0 ≤ b ∧ b ≤ 96) (hc : 0 ≤ c ∧ c ≤ 96) (hd : 0 ≤ d ∧ d ≤ 96) : -9216 ≤ a * b - c * d ∧ a * b - c * d ≤ 9216 := by
  have h1 : a * b ≤ 96 * 96 := Int.mul_le_mul ha.2 hb.2 hb.1 (by omega)
  have h2 : c * d ≤ 96 * 96 := Int.mul_le_mul hc.2 hd.2 hd.1 (by omega)
  have h3 : 0 ≤ a * b := Int.mul_nonneg ha.1 hb.1
  have h4 : 0 ≤ c * d := Int.mul_nonneg hc.1 hd.1
  omega
theorem zmodp {x p : Int} (h : 2 ≤ p ∧ p ≤ 97) : 0 ≤ x % p ∧ x % p ≤ 96 := by
  have h1 := Int.emod_nonneg x (show p ≠ 0 by omega)
  have h2 := Int.emod_lt_of_pos x (show 0 < p by omega)
  omega
theorem zG_self {K : Nat → ClassId} {M : zq_M} {g : Nat} {ra : Int → Nat} {F : Int → Int → Int} {x : va_E} (h : zG K M g ra F) (_ : M g = some x) : zG K M g ra F := h
theorem zcr_step {f u h : Int → Int} {col p j fc up : Int} (hh : ∀ z, h z = if ¬ fc = 0 ∧ col ≤ z ∧ z < j then (f z * up - u z * fc) % p else f z) (hj : col ≤ j) (hfc : ¬ fc = 0) : ∀ z, zu h j ((h j * up - u j * fc) % p) z = if ¬ fc = 0 ∧ col ≤ z ∧ z < j + 1 then (f z * up - u z * fc) % p else f z := by
  intro z
  by_cases q : z = j
  · rw [q, zu_self, if_pos ⟨hfc, hj, by omega⟩, hh, if_neg (by omega)]
  · rw [zu_ne _ _ q, hh]
    by_cases y : ¬ fc = 0 ∧ col ≤ z ∧ z < j
    · rw [if_pos y, if_pos ⟨y.1, y.2.1, by omega⟩]
    · rw [if_neg y, if_neg (fun w => y ⟨w.1, w.2.1, by omega⟩)]
theorem zcr_end {F : Int → Int → Int} {h : Int → Int} {st col p j i : Int} (hh : ∀ z, h z = if ¬ F i col = 0 ∧ col ≤ z ∧ z < j then (F i z * F st col - F st z * F i col) % p else F i z) (hj : F i col = 0 ∨ 33 ≤ j) (hj2 : j ≤ 33) : h = zcr F st col p i := by
  funext z
  rw [hh]
  unfold zcr
  by_cases q : F i col = 0
  · rw [if_pos q, if_neg (fun w => w.1 q)]
  · rw [if_neg q]
    by_cases y : col ≤ z ∧ z < 33
    · rw [if_pos ⟨q, y.1, by omega⟩, if_pos y]
    · rw [if_neg (fun w => y ⟨w.2.1, by omega⟩), if_neg y]
