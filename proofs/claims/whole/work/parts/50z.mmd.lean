theorem zsa : ∀ j : Fin 32, ((iI ((j.val : Nat) : Int) &&& 31).toBitVec.smod 32).toNat = j.val := by decide +kernel
theorem zsa2 {k : Int} (h0 : 0 ≤ k) (h1 : k < 32) : ((iI k &&& 31).toBitVec.smod 32).toNat = k.toNat := by
  have h := zsa ⟨k.toNat, by omega⟩
  rw [show (((⟨k.toNat, by omega⟩ : Fin 32).val : Nat) : Int) = k from by show ((k.toNat : Nat) : Int) = k; omega] at h
  exact h
theorem zpw (n : Nat) : (0 : Int) < 2 ^ n := Int.pow_pos (by decide)
theorem zdp {x : Int} (h : 0 ≤ x) (n : Nat) : 0 ≤ x / 2 ^ n ∧ x / 2 ^ n ≤ x := ⟨Int.ediv_nonneg h (Int.le_of_lt (zpw n)), Int.ediv_le_self _ h⟩
theorem iI_shr {x k : Int} (hi : inI x) (h : 0 ≤ x) (h0 : 0 ≤ k) (h1 : k < 32) : iI x >>> (iI k &&& 31) = iI (x / 2 ^ k.toNat) := by
  have hd := zdp h k.toNat
  rw [← Int32.toInt_inj, iI_toInt ⟨by omega, by omega⟩]
  show ((iI x) >>> (iI k &&& 31)).toBitVec.toInt = _
  rw [Int32.toBitVec_shiftRight, BitVec.toInt_sshiftRight', zsa2 h0 h1]
  show (iI x).toInt >>> k.toNat = _
  rw [iI_toInt hi, Int.shiftRight_eq_div_pow]
  rfl
theorem iI_tb {x : Int} (hi : inI x) (h : 0 ≤ x) : (iI x).toBitVec.toNat = x.toNat := by
  have h1 := iI_toInt hi
  have h2 : (iI x).toBitVec.toInt = x := h1
  have h3 := BitVec.toInt_eq_toNat_cond (iI x).toBitVec
  have h4 := (iI x).toBitVec.isLt
  rw [h2] at h3
  split at h3 <;> omega
theorem iI_ofn {v : Int32} {z : Int} (h0 : 0 ≤ z) (h1 : z < 2147483648) (h : v.toBitVec.toNat = z.toNat) : v = iI z := by
  apply Int32.toBitVec_inj.mp
  apply BitVec.eq_of_toNat_eq
  rw [h, iI_tb ⟨by omega, by omega⟩ h0]
theorem iI_and1 {x : Int} (hi : inI x) (h : 0 ≤ x) : iI x &&& iI 1 = iI (x % 2) := by
  refine iI_ofn (by omega) (by omega) ?_
  rw [Int32.toBitVec_and, BitVec.toNat_and, iI_tb hi h, show (iI 1).toBitVec.toNat = 1 from by decide, Nat.and_one_is_mod]
  omega
theorem zsh14 : ∀ j : Fin 14, iI 14 <<< (iI ((j.val : Nat) : Int) &&& 31) = iI (14 * 2 ^ j.val) ∧ iI 1 <<< (iI ((j.val : Nat) : Int) &&& 31) = iI (2 ^ j.val) ∧ (2 : Int) ^ j.val ≤ 8192 := by decide +kernel
theorem zsl {k : Int} (h0 : 0 ≤ k) (h1 : k < 14) : iI 14 <<< (iI k &&& 31) = iI (14 * 2 ^ k.toNat) ∧ iI 1 <<< (iI k &&& 31) = iI (2 ^ k.toNat) ∧ (2 : Int) ^ k.toNat ≤ 8192 := by
  have h := zsh14 ⟨k.toNat, by omega⟩
  rw [show (((⟨k.toNat, by omega⟩ : Fin 14).val : Nat) : Int) = k from by show ((k.toNat : Nat) : Int) = k; omega] at h
  exact h
/-- a bit that isn't set is added -/
theorem zor_add {x a : Nat} (h : x / 2 ^ a % 2 = 0) : x ||| 2 ^ a = x + 2 ^ a := by
  have e1 : x % 2 ^ a < 2 ^ a := Nat.mod_lt _ (Nat.two_pow_pos a)
  have e2 : x = 2 ^ (a + 1) * (x / 2 ^ (a + 1)) + x % 2 ^ a := by
    have h1 := Nat.div_add_mod x (2 ^ a)
    have h2 := Nat.div_add_mod (x / 2 ^ a) 2
    rw [Nat.div_div_eq_div_mul, h, ← Nat.pow_succ] at h2
    rw [← h2] at h1
    rw [Nat.pow_succ, Nat.mul_assoc]
    exact h1.symm
  have e3 : x + 2 ^ a = 2 ^ (a + 1) * (x / 2 ^ (a + 1)) + (2 ^ a * 1 + x % 2 ^ a) := by omega
  have e4 : 2 ^ a * 1 + x % 2 ^ a < 2 ^ (a + 1) := by rw [Nat.pow_succ]; omega
  have e5 : x % 2 ^ a < 2 ^ (a + 1) := by omega
  rw [e3, Nat.two_pow_add_eq_or_of_lt e4, Nat.two_pow_add_eq_or_of_lt e1]
  conv => lhs; rw [e2, Nat.two_pow_add_eq_or_of_lt e5]
  rw [Nat.or_assoc, Nat.or_comm (x % 2 ^ a), Nat.mul_one]
theorem zdiv_nat {x : Int} (h : 0 ≤ x) (n : Nat) : x / 2 ^ n = ((x.toNat / 2 ^ n : Nat) : Int) := by
  obtain ⟨k, rfl⟩ := Int.eq_ofNat_of_zero_le h
  rw [Int.toNat_natCast, Int.natCast_ediv, Int.natCast_pow]
  rfl
theorem zpow_nat (n : Nat) : (2 : Int) ^ n = ((2 ^ n : Nat) : Int) := by rw [Int.natCast_pow]; rfl
/-- how many of the first n bits are set -/
def zbc (x : Int) (n : Nat) : Int := zsum (fun k => x / 2 ^ k % 2) n
theorem zbc_s {x k : Int} (h : 0 ≤ k) : zbc x k.toNat + x / 2 ^ k.toNat % 2 = zbc x (k + 1).toNat := by rw [(ztn h).1]; rfl
theorem zbc_bd (x : Int) : ∀ n : Nat, 0 ≤ zbc x n ∧ zbc x n ≤ n
  | 0 => ⟨Int.le_refl _, Int.le_refl _⟩
  | n + 1 => by
    have h := zbc_bd x n
    show 0 ≤ zbc x n + x / 2 ^ n % 2 ∧ zbc x n + x / 2 ^ n % 2 ≤ ((n + 1 : Nat) : Int)
    omega
/-- bit b of u + 2^a, where bit a of u isn't set -/
theorem zbit_add {u : Int} {a b : Nat} (hu : 0 ≤ u) (h : u / 2 ^ a % 2 = 0) : (u + 2 ^ a) / 2 ^ b % 2 = u / 2 ^ b % 2 + if b = a then 1 else 0 := by
  have hp := zpw a
  rw [zdiv_nat hu] at h
  rw [zdiv_nat (by omega), zdiv_nat hu, show (u + 2 ^ a).toNat = u.toNat + 2 ^ a from by have hz := zpow_nat a; rw [hz]; generalize (2 ^ a : Nat) = w; omega, ← zor_add (by omega)]
  have e1 := Nat.testBit_or u.toNat (2 ^ a) b
  rw [Nat.testBit_two_pow, Nat.testBit_eq_decide_div_mod_eq, Nat.testBit_eq_decide_div_mod_eq] at e1
  by_cases q : b = a
  · subst q
    rw [if_pos rfl]
    have : (u.toNat ||| 2 ^ b) / 2 ^ b % 2 = 1 := by
      rw [decide_eq_true (rfl : b = b), Bool.or_true] at e1
      exact of_decide_eq_true e1
    omega
  · rw [if_neg q]
    rw [decide_eq_false (show ¬ a = b from fun z => q z.symm), Bool.or_false] at e1
    have e2 : ((u.toNat ||| 2 ^ a) / 2 ^ b % 2 = 1) ↔ (u.toNat / 2 ^ b % 2 = 1) := by
      constructor
      · intro z; rw [decide_eq_true z] at e1; exact of_decide_eq_true e1.symm
      · intro z; rw [decide_eq_true z] at e1; exact of_decide_eq_true e1
    omega
theorem zbc_add {u : Int} {a n : Nat} (hu : 0 ≤ u) (h : u / 2 ^ a % 2 = 0) (ha : a < n) : zbc (u + 2 ^ a) n = zbc u n + 1 := by
  unfold zbc
  rw [zsum_congr (g := fun k => u / 2 ^ k % 2 + if k = a then 1 else 0) (fun i _ => zbit_add hu h), zsum_add, zsum_pick _ ha]
/-- a set bit taken away -/
theorem zbit_sub {s : Int} {b : Nat} (hs : 0 ≤ s) (h : s / 2 ^ b % 2 = 1) : 0 ≤ s - 2 ^ b ∧ (s - 2 ^ b) / 2 ^ b % 2 = 0 := by
  have hp := zpw b
  have e1 : (s - 2 ^ b) / 2 ^ b = s / 2 ^ b - 1 := by
    have := Int.add_mul_ediv_right s (-1) (show (2 : Int) ^ b ≠ 0 by omega)
    rw [show s + -1 * 2 ^ b = s - 2 ^ b by omega] at this
    omega
  refine ⟨?_, by omega⟩
  have h1 := zdp hs b
  have h2 := Int.mul_ediv_self_le (x := s) (k := 2 ^ b) (by omega)
  have h3 : 1 ≤ s / 2 ^ b := by omega
  have h4 := Int.mul_le_mul_of_nonneg_left h3 (Int.le_of_lt hp)
  omega
theorem zbit_flip {s : Int} {b : Nat} (h : s / 2 ^ b % 2 = 1) : (s + 2 ^ b) / 2 ^ b % 2 = 0 := by
  have hp := zpw b
  have := Int.add_mul_ediv_right s 1 (show (2 : Int) ^ b ≠ 0 by omega)
  rw [show s + 1 * 2 ^ b = s + 2 ^ b by omega] at this
  omega
theorem zpow_inj {a b : Nat} (h : (2 : Int) ^ a = 2 ^ b) : a = b := by
  rw [zpow_nat, zpow_nat] at h
  have h := Int.ofNat_inj.mp h
  rcases Nat.lt_trichotomy a b with q | q | q
  · have := Nat.pow_lt_pow_right (a := 2) (by decide) q; omega
  · exact q
  · have := Nat.pow_lt_pow_right (a := 2) (by decide) q; omega
theorem zpow_le {a b : Nat} (h : a ≤ b) : (2 : Int) ^ a ≤ 2 ^ b := by
  rw [zpow_nat, zpow_nat]; exact Int.ofNat_le.mpr (Nat.pow_le_pow_right (by decide) h)
/-- below 2^n, with a bit that isn't set: still below with it -/
theorem zlt_add {u : Int} {a n : Nat} (hu : 0 ≤ u) (hn : u < 2 ^ n) (h : u / 2 ^ a % 2 = 0) (ha : a < n) : u + 2 ^ a < 2 ^ n := by
  rw [zdiv_nat hu] at h
  rw [zpow_nat] at hn ⊢
  rw [zpow_nat]
  have h1 : u.toNat < 2 ^ n := by omega
  have h2 : u.toNat ||| 2 ^ a < 2 ^ n := Nat.or_lt_two_pow h1 (Nat.pow_lt_pow_right (by decide) ha)
  rw [zor_add (by omega)] at h2
  omega
/-- the sign: how many columns stand behind a -/
def zsn (s : Int) (a : Nat) : Int := if zbc (s / 2 ^ (a + 1)) 13 % 2 = 0 then 1 else -1
/-- the sums of products over the rows below k (without row wo), columns s -/
def zDD (on tw : Int → Int) (ar : Nat) (wo : Int) : Nat → Int → Int → Int
  | 0, s, e => if s = 0 ∧ e = 0 then 1 else 0
  | k + 1, s, e => if (k : Int) = wo then zDD on tw ar wo k s e else zsum (fun a => if s / 2 ^ a % 2 = 1 then zsn (s - 2 ^ a) a * (on (32 * k + a) * zDD on tw ar wo k (s - 2 ^ a) e + tw (32 * k + a) * (if 0 < e then zDD on tw ar wo k (s - 2 ^ a) (e - 1) else 0)) else 0) ar
def zdn (wo : Int) : Nat → Int
  | 0 => 0
  | k + 1 => if (k : Int) = wo then zdn wo k else zdn wo k + 1
theorem zdn_bd (wo : Int) : ∀ k : Nat, 0 ≤ zdn wo k ∧ zdn wo k ≤ k
  | 0 => ⟨Int.le_refl _, Int.le_refl _⟩
  | k + 1 => by
    have h := zdn_bd wo k
    show 0 ≤ (if (k : Int) = wo then zdn wo k else zdn wo k + 1) ∧ (if (k : Int) = wo then zdn wo k else zdn wo k + 1) ≤ ((k + 1 : Nat) : Int)
    split <;> omega
def zcar (f : Int → Int) (T s p t n : Int) : Int → Int := fun z => if 14 * T ≤ z ∧ z < 14 * T + n then f z + p * f (14 * s + (z - 14 * T)) + (if 0 < z - 14 * T then t * f (14 * s + (z - 14 * T) - 1) else 0) else f z
theorem zcar_0 (f : Int → Int) (T s p t z : Int) : f z = zcar f T s p t 0 z := (if_neg (by omega)).symm
theorem zcar_s {f g : Int → Int} {T s p t e : Int} (hg : ∀ z, g z = zcar f T s p t e z) (hs : s < T) (he : 0 ≤ e ∧ e < 14) {v : Int} (hv : v = g (14 * T + e) + p * g (14 * s + e) + if 0 < e then t * g (14 * s + e - 1) else 0) : ∀ z, zu g (14 * T + e) v z = zcar f T s p t (e + 1) z := fun z => by
  have r1 : ∀ y, y < 14 * T → g y = f y := fun y hy => by rw [hg]; exact if_neg (by omega)
  have r2 : g (14 * T + e) = f (14 * T + e) := by rw [hg]; exact if_neg (by omega)
  by_cases q : z = 14 * T + e
  · subst q
    rw [zu_self, hv, r2, r1 _ (by omega)]
    unfold zcar
    rw [if_pos (show 14 * T ≤ 14 * T + e ∧ 14 * T + e < 14 * T + (e + 1) by omega), show 14 * T + e - 14 * T = e by omega]
    by_cases q2 : 0 < e
    · rw [if_pos q2, if_pos q2, r1 _ (by omega)]
    · rw [if_neg q2, if_neg q2]
  · rw [zu_ne _ _ q, hg]
    unfold zcar
    by_cases q2 : 14 * T ≤ z ∧ z < 14 * T + e
    · rw [if_pos q2, if_pos (show 14 * T ≤ z ∧ z < 14 * T + (e + 1) by omega)]
    · rw [if_neg q2, if_neg (show ¬ (14 * T ≤ z ∧ z < 14 * T + (e + 1)) by omega)]
section ZB
variable {p : Program} {l : Launch} {e : Env} {R : Room} {s : State} {m : MethodId} {args : Array Value} {below : List Frame} {meth : Method} {c : Code} {H H1 : Heap} {locs : List Loc} {cells slots : Nat} {Q : State → Prop}
variable {cc : ByteArray} {pc : Nat} {ls : Array Slot} {rest : List Value} {D : va_G} {cl : List vw_C} {A : Nat → Prop} {a : Nat} {tys : List (ClassId × FieldType)} {H0 : Heap} {M : zq_M}
theorem zq_ishr (hx : p.tables.exec = Jvm.exec) (hb : c.code = cc) {x y : Int} (hi : inI x) (h : 0 ≤ x) (h0 : 0 ≤ y) (h1 : y < 32) (hdg : decode cc pc = .ok (.ishr, 1)) (k : W p l e R s m args below meth c H locs cells slots Q (F0 m (pc + 1) ls (.int (iI (x / 2 ^ y.toNat)) :: rest))) : W p l e R s m args below meth c H locs cells slots Q (F0 m pc ls (.int (iI y) :: .int (iI x) :: rest)) :=
  lv_ishr hx hb hdg (by rw [iI_shr hi h h0 h1]; exact k)
theorem zq_iand1 (hx : p.tables.exec = Jvm.exec) (hb : c.code = cc) {x : Int} (hi : inI x) (h : 0 ≤ x) (hdg : decode cc pc = .ok (.iand, 1)) (k : W p l e R s m args below meth c H locs cells slots Q (F0 m (pc + 1) ls (.int (iI (x % 2)) :: rest))) : W p l e R s m args below meth c H locs cells slots Q (F0 m pc ls (.int (iI 1) :: .int (iI x) :: rest)) :=
  lv_iand hx hb hdg (by rw [iI_and1 hi h]; exact k)
theorem zq_ishl14 (hx : p.tables.exec = Jvm.exec) (hb : c.code = cc) {y : Int} (h0 : 0 ≤ y) (h1 : y < 14) (hdg : decode cc pc = .ok (.ishl, 1)) (k : W p l e R s m args below meth c H locs cells slots Q (F0 m (pc + 1) ls (.int (iI (14 * 2 ^ y.toNat)) :: rest))) : W p l e R s m args below meth c H locs cells slots Q (F0 m pc ls (.int (iI y) :: .int (iI 14) :: rest)) :=
  lv_ishl hx hb hdg (by rw [(zsl h0 h1).1]; exact k)
theorem zq_ishl1 (hx : p.tables.exec = Jvm.exec) (hb : c.code = cc) {y : Int} (h0 : 0 ≤ y) (h1 : y < 14) (hdg : decode cc pc = .ok (.ishl, 1)) (k : W p l e R s m args below meth c H locs cells slots Q (F0 m (pc + 1) ls (.int (iI (2 ^ y.toNat)) :: rest))) : W p l e R s m args below meth c H locs cells slots Q (F0 m pc ls (.int (iI y) :: .int (iI 1) :: rest)) :=
  lv_ishl hx hb hdg (by rw [(zsl h0 h1).2.1]; exact k)
theorem zq_ior2 (hx : p.tables.exec = Jvm.exec) (hb : c.code = cc) {x : Int} {a : Nat} (h : 0 ≤ x) (hs : x + 2 ^ a < 2147483648) (h0 : x / 2 ^ a % 2 = 0) (hdg : decode cc pc = .ok (.ior, 1)) (k : W p l e R s m args below meth c H locs cells slots Q (F0 m (pc + 1) ls (.int (iI (x + 2 ^ a)) :: rest))) : W p l e R s m args below meth c H locs cells slots Q (F0 m pc ls (.int (iI (2 ^ a)) :: .int (iI x) :: rest)) :=
  lv_ior hx hb hdg (by
    have hp := zpw a
    have e : iI x ||| iI (2 ^ a) = iI (x + 2 ^ a) := by
      refine iI_ofn (by omega) (by omega) ?_
      rw [zdiv_nat h] at h0
      rw [Int32.toBitVec_or, BitVec.toNat_or, iI_tb ⟨by omega, by omega⟩ h, iI_tb ⟨by omega, by omega⟩ (by omega)]
      have hz := zpow_nat a
      rw [hz] at hs ⊢
      rw [Int.toNat_natCast, zor_add (by omega)]
      generalize (2 ^ a : Nat) = w at hs ⊢
      omega
    rw [e]; exact k)
end ZB
