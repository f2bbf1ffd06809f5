theorem zemt {x p : Int} (hp : 0 < p) : (x.tmod p < 0 → x % p = x.tmod p + p) ∧ (0 ≤ x.tmod p → x % p = x.tmod p) ∧ -p < x.tmod p ∧ x.tmod p < p := by
  have h := Int.tmod_eq_emod (a := x) (b := p)
  have h1 := Int.emod_nonneg x (show p ≠ 0 by omega)
  have h2 := Int.emod_lt_of_pos x hp
  split at h
  · omega
  · rename_i hn
    have h4 : x % p ≠ 0 := fun z => hn (Or.inr (Int.dvd_of_emod_eq_zero z))
    omega
theorem zprb {u x : Int} (hu : -2147483648 ≤ u ∧ u ≤ 2147483648) (hx : 0 ≤ x ∧ x ≤ 96) : -206158430208 ≤ u * x ∧ u * x ≤ 206158430208 := by
  have h1 : u * x ≤ 2147483648 * x := Int.mul_le_mul_of_nonneg_right hu.2 hx.1
  have h2 : -2147483648 * x ≤ u * x := Int.mul_le_mul_of_nonneg_right hu.1 hx.1
  omega
theorem zprs {u x : Int} (hu : 0 ≤ u ∧ u ≤ 96) (hx : 0 ≤ x ∧ x ≤ 96) : 0 ≤ u * x ∧ u * x ≤ 9216 := by
  have h1 : u * x ≤ 96 * x := Int.mul_le_mul_of_nonneg_right hu.2 hx.1
  exact ⟨Int.mul_nonneg hu.1 hx.1, by omega⟩
theorem zemr {x p : Int} (hp : 2 ≤ p) : 0 ≤ x % p ∧ x % p < p := ⟨Int.emod_nonneg x (by omega), Int.emod_lt_of_pos x (by omega)⟩
def zmcl (S : Int → Int → Int) (d rows col p i j : Int) : Int := if d < i ∧ i < rows then (S d col * S i j - S i col * S d j) % p else S i j
/-- the model's elimination, column by column -/
def zEm (G0 : Int → Int → Int) (rows p ar : Int) : Nat → (Int → Int → Int) → Int → Prop
  | 0, G, d => (∀ i j, 0 ≤ i → i < rows → 0 ≤ j → j < ar → G i j = G0 i j) ∧ d = 0
  | n + 1, G, d => ∃ G1 d1, zEm G0 rows p ar n G1 d1 ∧ ((rows ≤ d1 ∧ (∀ i j, 0 ≤ i → i < rows → 0 ≤ j → j < ar → G i j = G1 i j) ∧ d = d1) ∨ (d1 < rows ∧ ∃ r, zFp G1 d1 rows n r ∧ ((r = -1 ∧ (∀ i j, 0 ≤ i → i < rows → 0 ≤ j → j < ar → G i j = G1 i j) ∧ d = d1) ∨ (0 ≤ r ∧ (∀ i j, 0 ≤ i → i < rows → 0 ≤ j → j < ar → G i j = zmcl (zswp G1 d1 r) d1 rows n p i j) ∧ d = d1 + 1))))
theorem zEm_ext {G0 G : Int → Int → Int} {rows p ar d : Int} {k n : Nat} (h : zEm G0 rows p ar k G d) (hd : rows ≤ d) (hn : k ≤ n) : zEm G0 rows p ar n G d := by
  induction n with
  | zero => rw [show k = 0 by omega] at h; exact h
  | succ n ih =>
    by_cases q : k = n + 1
    · rw [← q]; exact h
    · exact ⟨G, d, ih (by omega), Or.inl ⟨hd, fun _ _ _ _ _ _ => rfl, rfl⟩⟩
def zsw2 (g : Int → Int) (k d b : Int) : Int → Int := fun z => if 32 * k ≤ z ∧ z < 32 * k + b then g (32 * d + (z - 32 * k)) else if 32 * d ≤ z ∧ z < 32 * d + b then g (32 * k + (z - 32 * d)) else g z
theorem zsw2_0 (g : Int → Int) (k d z : Int) : g z = zsw2 g k d 0 z := by unfold zsw2; rw [if_neg (by omega), if_neg (by omega)]
theorem zsw2_s {g g2 : Int → Int} {k d b : Int} (hg : ∀ z, g2 z = zsw2 g k d b z) (hb : 0 ≤ b ∧ b < 32) : ∀ z, zu (zu g2 (32 * k + b) (g2 (32 * d + b))) (32 * d + b) (g2 (32 * k + b)) z = zsw2 g k d (b + 1) z := fun z => by
  have e1 : g2 (32 * k + b) = g (32 * k + b) := by rw [hg]; unfold zsw2; rw [if_neg (by omega)]; by_cases q : 32 * d ≤ 32 * k + b ∧ 32 * k + b < 32 * d + b; (exfalso; omega); rw [if_neg q]
  have e2 : g2 (32 * d + b) = g (32 * d + b) := by rw [hg]; unfold zsw2; by_cases q : 32 * k ≤ 32 * d + b ∧ 32 * d + b < 32 * k + b; (exfalso; omega); rw [if_neg q, if_neg (by omega)]
  rw [e1, e2]
  by_cases q1 : z = 32 * d + b
  · subst q1
    rw [zu_self]
    unfold zsw2
    by_cases q2 : k = d
    · subst q2; rw [if_pos (by omega), show 32 * k + b - 32 * k = b by omega]
    · rw [if_neg (by omega), if_pos (by omega), show 32 * d + b - 32 * d = b by omega]
  · rw [zu_ne _ _ q1]
    by_cases q2 : z = 32 * k + b
    · subst q2
      rw [zu_self]
      unfold zsw2
      rw [if_pos (by omega), show 32 * k + b - 32 * k = b by omega]
    · rw [zu_ne _ _ q2, hg]
      unfold zsw2
      by_cases q3 : 32 * k ≤ z ∧ z < 32 * k + b
      · rw [if_pos q3, if_pos (by omega)]
      · rw [if_neg q3, if_neg (show ¬ (32 * k ≤ z ∧ z < 32 * k + (b + 1)) by omega)]
        by_cases q4 : 32 * d ≤ z ∧ z < 32 * d + b
        · rw [if_pos q4, if_pos (by omega)]
        · rw [if_neg q4, if_neg (by omega)]
theorem zsw2_at {g : Int → Int} {k d ar i j : Int} (har : ar ≤ 32) (hj : 0 ≤ j ∧ j < ar) : zsw2 g k d ar (32 * i + j) = zswp (fun i j => g (32 * i + j)) d k i j := by
  show _ = g (32 * zsi d k i + j)
  unfold zsw2 zsi
  by_cases q1 : i = k
  · rw [if_pos (by omega), if_pos q1, show 32 * d + (32 * i + j - 32 * k) = 32 * d + j by omega]
  · rw [if_neg (by omega), if_neg q1]
    by_cases q2 : i = d
    · rw [if_pos (by omega), if_pos q2, show 32 * k + (32 * i + j - 32 * d) = 32 * k + j by omega]
    · rw [if_neg (by omega), if_neg q2]
theorem zsw2_in {g : Int → Int} {k d b p z : Int} (h : ∀ z, 0 ≤ z → z < 384 → 0 ≤ g z ∧ g z < p) (hk : 0 ≤ k ∧ k < 12) (hd : 0 ≤ d ∧ d < 12) (hb : b ≤ 32) (hz : 0 ≤ z ∧ z < 384) : 0 ≤ zsw2 g k d b z ∧ zsw2 g k d b z < p := by
  unfold zsw2
  split
  · exact h _ (by omega) (by omega)
  · split
    · exact h _ (by omega) (by omega)
    · exact h _ hz.1 hz.2
def zcl3 (S : Int → Int) (d i a ar p : Int) : Int → Int := fun z => if (d < z / 32 ∧ z / 32 < i) ∧ z % 32 < ar then (S (32 * d + a) * S z - S (32 * (z / 32) + a) * S (32 * d + z % 32)) % p else S z
theorem zcl3_0 (S : Int → Int) (d a ar p z : Int) : S z = zcl3 S d (d + 1) a ar p z := by unfold zcl3; rw [if_neg (by omega)]
theorem zcl3_s {S g3 g4 : Int → Int} {d i a ar p : Int} (h3 : ∀ z, g3 z = zcl3 S d i a ar p z) (h4 : ∀ z, g4 z = if 32 * i ≤ z ∧ z < 32 * i + ar then (S (32 * d + a) * S z - S (32 * i + a) * S (32 * d + (z - 32 * i))) % p else g3 z) (hi : d < i) (har : ar ≤ 32) : ∀ z, g4 z = zcl3 S d (i + 1) a ar p z := fun z => by
  rw [h4]
  unfold zcl3
  by_cases q : 32 * i ≤ z ∧ z < 32 * i + ar
  · rw [if_pos q, if_pos (by omega), show z / 32 = i by omega, show z % 32 = z - 32 * i by omega]
  · rw [if_neg q, h3]
    unfold zcl3
    by_cases q2 : (d < z / 32 ∧ z / 32 < i) ∧ z % 32 < ar
    · rw [if_pos q2, if_pos (by omega)]
    · rw [if_neg q2, if_neg (by omega)]
theorem zcl3_at {g S G : Int → Int} {k d nn a ar p i j : Int} (hS : ∀ z, S z = zsw2 g k d ar z) (har : ar ≤ 32) (ha : 0 ≤ a ∧ a < ar) (hi : 0 ≤ i ∧ i < nn) (hj : 0 ≤ j ∧ j < ar) : zcl3 S d nn a ar p (32 * i + j) = zmcl (zswp (fun i j => g (32 * i + j)) d k) d nn a p i j := by
  have e : ∀ i j, 0 ≤ j ∧ j < ar → S (32 * i + j) = zswp (fun i j => g (32 * i + j)) d k i j := fun i j hj => by rw [hS]; exact zsw2_at har hj
  unfold zcl3 zmcl
  rw [show (32 * i + j) / 32 = i by omega, show (32 * i + j) % 32 = j by omega]
  by_cases q : d < i ∧ i < nn
  · rw [if_pos q, if_pos ⟨q, hj.2⟩, e d a ha, e i j hj, e i a ha, e d j hj]
  · rw [if_neg q, if_neg (fun z => q z.1), e i j hj]
section ZD
variable {p : Program} {l : Launch} {e : Env} {R : Room} {s : State} {m : MethodId} {args : Array Value} {below : List Frame} {meth : Method} {c : Code} {H H1 : Heap} {locs : List Loc} {cells slots : Nat} {Q : State → Prop}
variable {cc : ByteArray} {pc : Nat} {ls : Array Slot} {rest : List Value} {D : va_G} {cl : List vw_C} {A : Nat → Prop} {a : Nat} {tys : List (ClassId × FieldType)} {H0 : Heap} {M : zq_M}
theorem zq_l2i (hx : p.tables.exec = Jvm.exec) (hb : c.code = cc) {x : Int} (hdg : decode cc pc = .ok (.l2i, 1)) (k : W p l e R s m args below meth c H locs cells slots Q (F0 m (pc + 1) ls (.int (iI x) :: rest))) : W p l e R s m args below meth c H locs cells slots Q (F0 m pc ls (.long (iL x) :: rest)) :=
  lv_l2i hx hb hdg Int64.toInt32_ofInt k
end ZD
