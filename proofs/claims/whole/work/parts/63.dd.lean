theorem zsum_kp_eq (f : Nat → Int) {j : Nat} : ∀ n : Nat, j ≤ n → zsum f (n + 1) = zsum (fun b => f (zkp j b)) n + f j
  | 0, h => by rw [show j = 0 by omega]; show (0 : Int) + f 0 = 0 + f 0; rfl
  | n + 1, h => by
    by_cases q : j = n + 1
    · rw [zsum_congr (f := fun b => f (zkp j b)) (g := f) (fun b hb => by rw [zkp_lt (by omega)]), q]; rfl
    · show zsum f (n + 1) + f (n + 1) = zsum (fun b => f (zkp j b)) n + f (zkp j n) + f j
      rw [zsum_kp_eq f (j := j) n (by omega), zkp_ge (show j ≤ n by omega)]; omega
/-- the set of the columns c 0, c 1, .. -/
def zss (c : Nat → Nat) (d : Nat) : Int := zsum (fun j => 2 ^ c j) d
abbrev zIn (c : Nat → Nat) (d : Nat) : Prop := ∀ i j, i < j → j < d → c i < c j
theorem zss_nn (c : Nat → Nat) (d : Nat) : 0 ≤ zss c d := by
  have h := zsum_le (f := fun _ => 0) (g := fun j => (2 : Int) ^ c j) (n := d) (fun j _ => Int.le_of_lt (zpw _))
  rw [zsum_zero (fun _ _ => rfl)] at h
  exact h
theorem zss_lt {c : Nat → Nat} : ∀ {d m : Nat}, zIn c d → (∀ j, j < d → c j < m) → zss c d < 2 ^ m
  | 0, m, _, _ => zpw m
  | d + 1, m, hc, hm => by
    show zss c d + 2 ^ c d < 2 ^ m
    have h1 := zss_lt (d := d) (m := c d) (fun i j h1 h2 => hc i j h1 (by omega)) (fun j hj => hc j d hj (by omega))
    have h2 := zpow_le (show c d + 1 ≤ m from hm d (by omega))
    rw [Int.pow_succ] at h2
    omega
theorem zss_bit {c : Nat → Nat} (b : Nat) : ∀ {d : Nat}, zIn c d → zss c d / 2 ^ b % 2 = zsum (fun j => if b = c j then 1 else 0) d
  | 0, _ => by show (0 : Int) / 2 ^ b % 2 = 0; rw [Int.zero_ediv]; rfl
  | d + 1, hc => by
    show (zss c d + 2 ^ c d) / 2 ^ b % 2 = zsum (fun j => if b = c j then 1 else 0) d + if b = c d then 1 else 0
    have hi : zIn c d := fun i j h1 h2 => hc i j h1 (by omega)
    have h1 := zss_lt (d := d) (m := c d) hi (fun j hj => hc j d hj (by omega))
    have h2 := zss_nn c d
    rw [zbit_add h2 (by rw [Int.ediv_eq_zero_of_lt h2 h1]; rfl), zss_bit b hi]
theorem zsum_bits {c : Nat → Nat} {d ar : Nat} (F : Nat → Int) (hc : zIn c d) (ha : ∀ j, j < d → c j < ar) : zsum (fun a => if zss c d / 2 ^ a % 2 = 1 then F a else 0) ar = zsum (fun j => F (c j)) d := by
  have e1 : zsum (fun a => if zss c d / 2 ^ a % 2 = 1 then F a else 0) ar = zsum (fun a => zsum (fun j => if a = c j then F a else 0) d) ar := zsum_congr fun a _ => by
    have h := zss_bit a hc
    have e2 : zsum (fun j => if a = c j then F a else 0) d = F a * (zss c d / 2 ^ a % 2) := by
      rw [h, ← zsum_mul]
      exact zsum_congr fun j _ => by split <;> omega
    rw [e2]
    by_cases q : zss c d / 2 ^ a % 2 = 1
    · rw [if_pos q, q]; omega
    · rw [if_neg q, show zss c d / 2 ^ a % 2 = 0 by omega]; omega
  rw [e1, zsum_swap]
  exact zsum_congr fun j hj => zsum_at F (ha j hj)
theorem zIn_kp {c : Nat → Nat} {d j : Nat} (hc : zIn c (d + 1)) : zIn (fun b => c (zkp j b)) d := fun a b h1 h2 => hc _ _ (by unfold zkp; (repeat' split) <;> omega) (zkp_in h2)
theorem zsum_count {c : Nat → Nat} {x : Nat} : ∀ {d j : Nat}, j ≤ d → (∀ i, i < d → (x < c i ↔ j ≤ i)) → zsum (fun i => if x < c i then 1 else 0) d = (d : Int) - j
  | 0, j, hj, _ => by show (0 : Int) = _; omega
  | d + 1, j, hj, h => by
    show zsum (fun i => if x < c i then 1 else 0) d + (if x < c d then 1 else 0) = _
    by_cases q : j = d + 1
    · rw [if_neg (by have := h d (by omega); omega), zsum_zero (fun i hi => if_neg (by have := h i (by omega); omega))]; omega
    · rw [if_pos ((h d (by omega)).mpr (by omega)), zsum_count (d := d) (j := j) (by omega) (fun i hi => h i (by omega))]; omega
theorem zsn_gn {c : Nat → Nat} {d j : Nat} (hc : zIn c (d + 1)) (hj : j < d + 1) (h13 : ∀ j, j < d + 1 → c j < 13) : zsn (zss (fun b => c (zkp j b)) d) (c j) = zgn (d + j) := by
  have hi := zIn_kp (j := j) hc
  have e1 : zbc (zss (fun b => c (zkp j b)) d / 2 ^ (c j + 1)) 13 = (d : Int) - j := by
    unfold zbc
    rw [zsum_congr (g := fun k => zsum (fun i => if k + (c j + 1) = c (zkp j i) then 1 else 0) d) (fun k _ => by
      rw [Int.ediv_ediv_of_nonneg (Int.le_of_lt (zpw _)), ← Int.pow_add, Nat.add_comm (c j + 1) k]
      exact zss_bit _ hi), zsum_swap]
    rw [zsum_congr (g := fun i => if c j < c (zkp j i) then 1 else 0) (fun i hid => by
      have h13i := h13 _ (zkp_in (j := j) hid)
      by_cases q : c j < c (zkp j i)
      · rw [if_pos q, zsum_congr (g := fun k => if k = c (zkp j i) - (c j + 1) then 1 else 0) (fun k _ => by
          by_cases e : k + (c j + 1) = c (zkp j i)
          · rw [if_pos e, if_pos (by omega)]
          · rw [if_neg e, if_neg (by omega)]), zsum_pick _ (by omega)]
      · rw [if_neg q, zsum_zero (fun k _ => if_neg (by omega))])]
    refine zsum_count (c := fun i => c (zkp j i)) (by omega) fun i hid => ?_
    show c j < c (zkp j i) ↔ j ≤ i
    constructor
    · intro q
      refine Nat.not_lt.mp fun z => ?_
      rw [zkp_lt z] at q
      have := hc i j z (by omega)
      omega
    · intro q; rw [zkp_ge q]; exact hc j (i + 1) (by omega) (by omega)
  unfold zsn
  rw [e1]
  have := zgn_or (d + j)
  by_cases q : ((d : Int) - j) % 2 = 0
  · rw [if_pos q]; omega
  · rw [if_neg q]; omega
/-- the model's sums are determinants -/
theorem zDD_pd {on tw : Int → Int} {ar : Nat} {wo : Int} (har : ar ≤ 13) : ∀ (k : Nat) {d : Nat} {c : Nat → Nat} {e : Int}, zdn wo k = d → zIn c d → (∀ j, j < d → c j < ar) → zDD on tw ar wo k (zss c d) e = zpd d (fun i j => on (32 * zsr wo i + c j)) (fun i j => tw (32 * zsr wo i + c j)) e
  | 0, d, c, e, hd, _, _ => by
    have : d = 0 := by have h : (0 : Int) = d := hd; omega
    subst this
    show (if (0 : Int) = 0 ∧ e = 0 then (1 : Int) else 0) = if e = 0 then 1 else 0
    by_cases q : e = 0
    · rw [if_pos ⟨rfl, q⟩, if_pos q]
    · rw [if_neg (fun z => q z.2), if_neg q]
  | k + 1, d, c, e, hd, hc, ha => by
    by_cases q : (k : Int) = wo
    · rw [show zdn wo (k + 1) = zdn wo k from if_pos q] at hd
      rw [show zDD on tw ar wo (k + 1) (zss c d) e = zDD on tw ar wo k (zss c d) e from if_pos q]
      exact zDD_pd har k hd hc ha
    · rw [show zdn wo (k + 1) = zdn wo k + 1 from if_neg q] at hd
      have hb := zdn_bd wo k
      obtain ⟨m, rfl⟩ : ∃ m, d = m + 1 := ⟨d - 1, by omega⟩
      have hm : zdn wo k = m := by omega
      have hrow : zsr wo m = k := by
        rw [zdn_eq] at hm
        unfold zsr
        split at hm
        · rw [if_pos (by omega)]; omega
        · rw [if_neg (by omega)]; omega
      rw [show zDD on tw ar wo (k + 1) (zss c (m + 1)) e = zsum (fun a => if zss c (m + 1) / 2 ^ a % 2 = 1 then zcn on tw ar wo k (zss c (m + 1)) a e else 0) ar from if_neg q, zsum_bits _ hc ha]
      refine zsum_congr fun j hj => ?_
      have es : zss c (m + 1) - 2 ^ c j = zss (fun b => c (zkp j b)) m := by
        have := zsum_kp_eq (fun j => (2 : Int) ^ c j) m (show j ≤ m by omega)
        show zsum (fun j => (2 : Int) ^ c j) (m + 1) - 2 ^ c j = zsum (fun b => (2 : Int) ^ c (zkp j b)) m
        omega
      have ih : ∀ e, zDD on tw ar wo k (zss (fun b => c (zkp j b)) m) e = zpd m (fun i b => on (32 * zsr wo i + c (zkp j b))) (fun i b => tw (32 * zsr wo i + c (zkp j b))) e := fun e => zDD_pd har k hm (zIn_kp hc) (fun b hb => ha _ (zkp_in hb))
      show zsn (zss c (m + 1) - 2 ^ c j) (c j) * (on (32 * k + (c j : Nat)) * zDD on tw ar wo k (zss c (m + 1) - 2 ^ c j) e + tw (32 * k + (c j : Nat)) * (if 0 < e then zDD on tw ar wo k (zss c (m + 1) - 2 ^ c j) (e - 1) else 0)) = zgn (m + j) * (on (32 * zsr wo (m : Nat) + (c j : Nat)) * zpd m (fun i b => on (32 * zsr wo i + c (zkp j b))) (fun i b => tw (32 * zsr wo i + c (zkp j b))) e + tw (32 * zsr wo (m : Nat) + (c j : Nat)) * zpd m (fun i b => on (32 * zsr wo i + c (zkp j b))) (fun i b => tw (32 * zsr wo i + c (zkp j b))) (e - 1))
      rw [es, zsn_gn hc hj (fun j hj => by have := ha j hj; omega), ih, ih, hrow]
      by_cases q2 : 0 < e
      · rw [if_pos q2]
      · rw [if_neg q2, zpd_out (e := e - 1) (Or.inl (by omega))]
theorem zss_id : ∀ n : Nat, zss (fun j => j) n = 2 ^ n - 1
  | 0 => rfl
  | n + 1 => by
    show zss (fun j => j) n + 2 ^ n = _
    rw [zss_id n, Int.pow_succ]; omega
theorem zss_full {a n : Nat} (h : a ≤ n) : zss (zkp a) n = 2 ^ (n + 1) - 1 - 2 ^ a := by
  have h1 := zss_id (n + 1)
  have h2 := zsum_kp_eq (fun j => (2 : Int) ^ j) n h
  have h3 : zss (zkp a) n = zsum (fun b => (2 : Int) ^ zkp a b) n := rfl
  have h4 : zss (fun j => j) (n + 1) = zsum (fun j => (2 : Int) ^ j) (n + 1) := rfl
  omega
/-- a minor of the model: without row wo and column a -/
theorem zDD_min {on tw : Int → Int} {nn ar wo a e : Int} (ha : 0 ≤ a ∧ a < ar) (har : ar ≤ 13) (hn : zdn wo nn.toNat = ar - 1) : zDD on tw ar.toNat wo nn.toNat (2 ^ ar.toNat - 1 - 2 ^ a.toNat) e = zpd (ar - 1).toNat (fun i j => on (32 * zsr wo i + zsc a j)) (fun i j => tw (32 * zsr wo i + zsc a j)) e := by
  have hs := zss_full (a := a.toNat) (n := (ar - 1).toNat) (by omega)
  rw [show (ar - 1).toNat + 1 = ar.toNat by omega] at hs
  rw [← hs, zDD_pd (by omega) nn.toNat (d := (ar - 1).toNat) (c := zkp a.toNat) (by omega) (fun i j h1 h2 => by unfold zkp; (repeat' split) <;> omega) (fun j hj => by have := zkp_in (j := a.toNat) hj; omega)]
  have hk : ∀ j : Nat, ((zkp a.toNat j : Nat) : Int) = zsc a j := fun j => by unfold zkp zsc; by_cases q : j < a.toNat; rw [if_pos q, if_neg (by omega)]; rw [if_neg q, if_pos (by omega)]; omega
  exact zpd_congr fun i j _ _ => by rw [hk]; exact ⟨rfl, rfl⟩
