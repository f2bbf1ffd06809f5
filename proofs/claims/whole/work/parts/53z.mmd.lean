theorem zfull0 : ∀ r : Fin 14, ∀ a : Fin 13, a.val < r.val → zbc ((2 : Int) ^ r.val - 1 - 2 ^ a.val) 13 = (r.val : Int) - 1 ∧ 0 ≤ (2 : Int) ^ r.val - 1 - 2 ^ a.val := by decide +kernel
theorem zfull {r a : Int} (ha : 0 ≤ a ∧ a < r) (hr : r ≤ 13) : zbc (2 ^ r.toNat - 1 - 2 ^ a.toNat) 13 = r - 1 ∧ 0 ≤ (2 : Int) ^ r.toNat - 1 - 2 ^ a.toNat := by
  have h := zfull0 ⟨r.toNat, by omega⟩ ⟨a.toNat, by omega⟩ (by show a.toNat < r.toNat; omega)
  rw [show ((((⟨r.toNat, by omega⟩ : Fin 14).val : Nat) : Int)) = r from by show ((r.toNat : Nat) : Int) = r; omega] at h
  exact h
theorem zdn_eq (wo : Int) : ∀ n : Nat, zdn wo n = if 0 ≤ wo ∧ wo < n then (n : Int) - 1 else n
  | 0 => by show (0 : Int) = _; rw [if_neg (by omega)]; rfl
  | n + 1 => by
    show (if (n : Int) = wo then zdn wo n else zdn wo n + 1) = _
    rw [zdn_eq wo n]
    by_cases q : (n : Int) = wo
    · rw [if_pos q, if_neg (by omega), if_pos (by omega)]; omega
    · rw [if_neg q]
      by_cases q2 : 0 ≤ wo ∧ wo < n
      · rw [if_pos q2, if_pos (by omega)]; omega
      · rw [if_neg q2, if_neg (by omega)]; omega
/-- the minors that have been taken: rows before k are done, of row k the columns before a -/
def zAvr (on tw : Int → Int) (nn ar fi k a : Int) (av : Int → Int) : Prop := ∀ r b e, fi ≤ r → 0 ≤ b → b < ar → 0 ≤ e → e < 14 → (r < k ∨ (r = k ∧ b < a)) → av (14 * (ar * (r - fi) + b) + e) = zDD on tw ar.toNat r nn.toNat (2 ^ ar.toNat - 1 - 2 ^ b.toNat) e
theorem zlex {ar fi r k b a : Int} (har : 0 ≤ ar) (hb : 0 ≤ b ∧ b < ar) (ha : 0 ≤ a) (h : r < k ∨ (r = k ∧ b < a)) : ar * (r - fi) + b < ar * (k - fi) + a := by
  rcases h with h | ⟨h, h2⟩
  · have h1 : ar * (r - fi + 1) ≤ ar * (k - fi) := Int.mul_le_mul_of_nonneg_left (by omega) har
    rw [Int.mul_add, Int.mul_one] at h1
    omega
  · rw [h]; omega
theorem zAvr_0 {on tw av : Int → Int} {nn ar fi : Int} : zAvr on tw nn ar fi fi 0 av := fun r b e h1 h2 h3 h4 h5 h6 => by omega
theorem zAvr_row {on tw av : Int → Int} {nn ar fi k a : Int} (h : zAvr on tw nn ar fi k a av) (ha : ar ≤ a) : zAvr on tw nn ar fi (k + 1) 0 av := fun r b e h1 h2 h3 h4 h5 h6 => h r b e h1 h2 h3 h4 h5 (by omega)
theorem zAvr_col {on tw av sm g : Int → Int} {nn ar fi k a mn : Int} (h : zAvr on tw nn ar fi k a av) (hk : fi ≤ k) (ha : 0 ≤ a ∧ a < ar) (hmn : mn = ar * (k - fi) + a) (hs : ∀ e, 0 ≤ e → e < 14 → sm (14 * (2 ^ ar.toNat - 1 - 2 ^ a.toNat) + e) = zDD on tw ar.toNat k nn.toNat (2 ^ ar.toNat - 1 - 2 ^ a.toNat) e) (hg : ∀ z, g z = if 14 * mn ≤ z ∧ z < 14 * mn + 14 then sm (14 * (2 ^ ar.toNat - 1 - 2 ^ a.toNat) + (z - 14 * mn)) else av z) : zAvr on tw nn ar fi k (a + 1) g := fun r b e h1 h2 h3 h4 h5 h6 => by
  by_cases q : r = k ∧ b = a
  · rw [q.1, q.2, ← hmn, hg, if_pos (by omega), show 14 * mn + e - 14 * mn = e by omega]
    exact hs e h4 h5
  · have hl := zlex (ar := ar) (fi := fi) (r := r) (k := k) (b := b) (a := a) (by omega) ⟨h2, h3⟩ ha.1 (by omega)
    rw [hg, if_neg (by omega)]
    exact h r b e h1 h2 h3 h4 h5 (by omega)
theorem zup_av {av sm g : Int → Int} {T s e : Int} (hg : ∀ z, g z = if 14 * T ≤ z ∧ z < 14 * T + e then sm (14 * s + (z - 14 * T)) else av z) (he : 0 ≤ e) : ∀ z, zu g (14 * T + e) (sm (14 * s + e)) z = if 14 * T ≤ z ∧ z < 14 * T + (e + 1) then sm (14 * s + (z - 14 * T)) else av z := fun z => by
  by_cases q : z = 14 * T + e
  · subst q; rw [zu_self, if_pos (by omega), show 14 * T + e - 14 * T = e by omega]
  · rw [zu_ne _ _ q, hg]
    by_cases q2 : 14 * T ≤ z ∧ z < 14 * T + e
    · rw [if_pos q2, if_pos (by omega)]
    · rw [if_neg q2, if_neg (by omega)]
theorem zmnb {ar x : Int} (h1 : 0 ≤ ar ∧ ar ≤ 12) (h2 : 0 ≤ x ∧ x ≤ 12) : 0 ≤ ar * x ∧ ar * x ≤ 12 * x := ⟨Int.mul_nonneg h1.1 h2.1, Int.mul_le_mul_of_nonneg_right h1.2 h2.1⟩
/-- all the minors -/
def zMn (nn ar : Int) (on tw : Int → Int) (mns : Int) (av : Int → Int) : Prop := ((ar = 0 ∨ nn + 1 < ar) ∧ mns = 0) ∨ ((1 ≤ ar ∧ ar ≤ 13) ∧ ar = nn + 1 ∧ mns = ar ∧ zAvr on tw nn ar (-1) 0 0 av) ∨ ((1 ≤ ar ∧ ar ≤ 12) ∧ ar = nn ∧ mns = ar * nn ∧ zAvr on tw nn ar 0 nn 0 av)
theorem zMn_b {nn ar mns : Int} {on tw av : Int → Int} (h : zMn nn ar on tw mns av) (hn : 0 ≤ nn ∧ nn ≤ 12) : 0 ≤ mns ∧ mns ≤ 150 := by
  rcases h with h | h | h
  · omega
  · omega
  · have := zmnb (ar := ar) (x := nn) (by omega) (by omega); omega
/-- the polynomial: the first minor that isn't 0, from its lowest place on, with a plus sign -/
def zPp (mns : Int) (av po : Int → Int) : Prop := ((∀ e, 0 ≤ e → e < 14 → po e = 0) ∧ ∀ j, 0 ≤ j → j < mns → zLo av j 14) ∨ ∃ m0 lw, (0 ≤ m0 ∧ m0 < mns) ∧ (∀ j, 0 ≤ j → j < m0 → zLo av j 14) ∧ zLo av m0 lw ∧ lw < 14 ∧ ∃ sv, ((sv = 1 ∧ 0 < av (14 * m0 + lw)) ∨ (sv = -1 ∧ av (14 * m0 + lw) < 0)) ∧ ∀ z, 0 ≤ z → z < 14 → po z = if z < 14 - lw then sv * av (14 * m0 + lw + z) else 0
/-- what the minors have to be: small, and all of them one polynomial but for sign and place -/
def zQq (mns : Int) (av : Int → Int) : Prop := (∀ j, 0 ≤ j → j < mns → ∀ e, 0 ≤ e → e < 14 → -9223372036854775807 ≤ av (14 * j + e) ∧ av (14 * j + e) ≤ 9223372036854775807) ∧ ∀ mi ki lo fm, 0 ≤ mi → mi < mns → 0 ≤ ki → ki < mns → zLo av mi lo → lo < 14 → zLo av ki fm → ∃ q0, (q0 = 1 ∨ q0 = -1) ∧ ∀ z, 0 ≤ z → z < 28 → zRw av ki fm z = q0 * zRw av mi lo z
def zKn (nn cir : Int) (sg lb : Int → Int) (arcs : Int) (al on tw : Int → Int) (mns : Int) (av po : Int → Int) : Prop := ∃ c0 N, zAl lb (4 * nn) c0 al ∧ arcs = c0 + cir ∧ (∀ z, c0 ≤ z → z < c0 + cir → al z = 0) ∧ (∀ x, 0 ≤ x → x < 4 * nn → x % 4 ≠ 3 → zNx lb (4 * nn) al x (N x)) ∧ zFi sg N nn on tw ∧ zMn nn arcs on tw mns av ∧ zPp mns av po ∧ zQq mns av ∧ (∀ j, 0 ≤ j → j < 384 → inI (on j) ∧ inI (tw j)) ∧ ∀ e, 0 ≤ e → e < 14 → inL (po e)
/-- what mathematics owes of a diagram -/
def zMth (nn cir : Int) (sg lb : Int → Int) : Prop := ∀ c0 al N on tw, zAl lb (4 * nn) c0 al → (∀ x, 0 ≤ x → x < 4 * nn → x % 4 ≠ 3 → zNx lb (4 * nn) al x (N x)) → zFi sg N nn on tw → nn ≤ c0 ∧ c0 ≤ 23 ∧ ∀ mns av, zMn nn (c0 + cir) on tw mns av → zQq mns av
theorem zFi_in {sg N on tw : Int → Int} {k : Int} (h : zFi sg N k on tw) : ∀ j, 0 ≤ j → j < 384 → inI (on j) ∧ inI (tw j) := fun j h1 h2 => by
  rw [h.1 j h1 h2, h.2 j h1 h2]
  have b1 := zeO_bd sg N (j / 32) (j % 32)
  have b2 := zeT_bd sg N (j / 32) (j % 32)
  refine ⟨?_, ?_⟩
  · split
    · exact ⟨by omega, by omega⟩
    · decide
  · split
    · exact ⟨by omega, by omega⟩
    · decide
theorem zPp_in {mns : Int} {av po : Int → Int} (h : zPp mns av po) (hQ : zQq mns av) : ∀ e, 0 ≤ e → e < 14 → inL (po e) := fun e h1 h2 => by
  rcases h with ⟨h, _⟩ | ⟨m0, lw, hm, _, hlo, hlw, sv, hsv, h⟩
  · rw [h e h1 h2]; decide
  · rw [h e h1 h2]
    split
    · have hb := hQ.1 m0 hm.1 hm.2 (lw + e) (by have := hlo.1; omega) (by omega)
      rw [show 14 * m0 + (lw + e) = 14 * m0 + lw + e by omega] at hb
      have := zsg0 (q := sv) (by omega) hb
      exact ⟨by omega, by omega⟩
    · decide
