theorem zdv0 {t x : Int} (h : t ∣ x) (h1 : x < t) (h2 : -x < t) : x = 0 := by
  obtain ⟨c, hc⟩ := h
  rcases (show c ≤ -1 ∨ c = 0 ∨ 1 ≤ c by omega) with q | q | q
  · have := Int.mul_le_mul_of_nonneg_left q (show 0 ≤ t by omega); omega
  · rw [hc, q, Int.mul_zero]
  · have := Int.mul_le_mul_of_nonneg_left q (show 0 ≤ t by omega); omega
/-- the value at t -/
def zev (f : Int → Int) (t : Int) (N : Nat) : Int := zsum (fun j => f (j : Int) * t ^ j) N
theorem zev_head (f : Int → Int) (t : Int) (N : Nat) : zev f t (N + 1) = f 0 + t * zev (fun j => f (j + 1)) t N := by
  unfold zev
  rw [zsum_head, ← zsum_mul]
  congr 1
  · show f 0 * t ^ 0 = f 0; rw [Int.pow_zero, Int.mul_one]
  · refine zsum_congr fun i _ => ?_
    show f ((i + 1 : Nat) : Int) * t ^ (i + 1) = t * (f ((i : Int) + 1) * t ^ i)
    rw [show ((i + 1 : Nat) : Int) = (i : Int) + 1 by omega, Int.pow_succ]
    grind
theorem zev_congr {f g : Int → Int} {t : Int} {N : Nat} (h : ∀ j : Int, 0 ≤ j → j < N → f j = g j) : zev f t N = zev g t N := zsum_congr fun i hi => by rw [h i (by omega) (by omega)]
theorem zev_ext {f : Int → Int} {t : Int} {M : Nat} (h : ∀ j : Int, (M : Int) ≤ j → f j = 0) : ∀ N : Nat, M ≤ N → zev f t N = zev f t M
  | 0, hN => by rw [show M = 0 by omega]
  | N + 1, hN => by
    by_cases q : M = N + 1
    · rw [q]
    · show zev f t N + f (N : Int) * t ^ N = _
      rw [h N (by omega), Int.zero_mul, Int.add_zero]
      exact zev_ext h N (by omega)
theorem zev_add (f g : Int → Int) (t : Int) (N : Nat) : zev (fun j => f j + g j) t N = zev f t N + zev g t N := by
  unfold zev; rw [← zsum_add]; exact zsum_congr fun i _ => Int.add_mul _ _ _
theorem zev_sub (f g : Int → Int) (t : Int) (N : Nat) : zev (fun j => f j - g j) t N = zev f t N - zev g t N := by
  unfold zev; rw [← zsum_sub]; exact zsum_congr fun i _ => Int.sub_mul _ _ _
theorem zev_mul (c : Int) (f : Int → Int) (t : Int) (N : Nat) : zev (fun j => c * f j) t N = c * zev f t N := by
  unfold zev; rw [← zsum_mul]; exact zsum_congr fun i _ => Int.mul_assoc _ _ _
theorem zev_sum (F : Nat → Int → Int) (t : Int) (N : Nat) : ∀ n : Nat, zev (fun e => zsum (fun j => F j e) n) t N = zsum (fun j => zev (F j) t N) n
  | 0 => zsum_zero fun i _ => Int.zero_mul _
  | n + 1 => by
    show zev (fun e => zsum (fun j => F j e) n + F n e) t N = zsum (fun j => zev (F j) t N) n + zev (F n) t N
    rw [zev_add, zev_sum F t N n]
theorem zev_shift {f : Int → Int} {t : Int} (h : ∀ j : Int, j < 0 → f j = 0) : ∀ (i N : Nat), zev (fun j => f (j - i)) t (N + i) = t ^ i * zev f t N
  | 0, N => by rw [Int.pow_zero, Int.one_mul]; exact zev_congr fun j _ _ => by rw [show j - ((0 : Nat) : Int) = j by omega]
  | i + 1, N => by
    show zev (fun j => f (j - ((i + 1 : Nat) : Int))) t ((N + i) + 1) = _
    rw [zev_head, h _ (by omega), Int.zero_add, zev_congr (g := fun j => f (j - i)) (fun j _ _ => by show f (j + 1 - ((i + 1 : Nat) : Int)) = _; rw [show j + 1 - ((i + 1 : Nat) : Int) = j - i by omega]), zev_shift h i N, Int.pow_succ]
    grind
/-- a polynomial that is 0 at all large t is 0 -/
theorem zev_zero : ∀ (N : Nat) {f : Int → Int} (T : Int), (∀ t, T ≤ t → zev f t N = 0) → ∀ j : Int, 0 ≤ j → j < N → f j = 0
  | 0, _, _, _, j, h1, h2 => by omega
  | N + 1, f, T, h, j, h1, h2 => by
    have key : ∀ t, T ≤ t → f 0 + t * zev (fun j => f (j + 1)) t N = 0 := fun t ht => by rw [← zev_head]; exact h t ht
    have f0 : f 0 = 0 := by
      have hx : ∃ t : Int, T ≤ t ∧ f 0 < t ∧ -f 0 < t ∧ 0 < t := by
        by_cases q : T ≤ f 0
        · by_cases q2 : -f 0 ≤ f 0
          · exact ⟨f 0 + 1, by omega, by omega, by omega, by omega⟩
          · exact ⟨-f 0 + 1, by omega, by omega, by omega, by omega⟩
        · by_cases q2 : T ≤ -f 0
          · exact ⟨-f 0 + 1 + (if f 0 < 0 then 0 else 2 * f 0), by split <;> omega, by split <;> omega, by split <;> omega, by split <;> omega⟩
          · exact ⟨(if T < 0 then -T else T) + 1, by split <;> omega, by split <;> omega, by split <;> omega, by split <;> omega⟩
      obtain ⟨t, t1, t2, t3, t4⟩ := hx
      have hk := key t t1
      have hd : t ∣ f 0 := ⟨-zev (fun j => f (j + 1)) t N, by rw [Int.mul_neg]; omega⟩
      exact zdv0 hd (by omega) (by omega)
    by_cases q : j = 0
    · rw [q]; exact f0
    · have hz : ∀ t, (if T < 1 then 1 else T) ≤ t → zev (fun j => f (j + 1)) t N = 0 := fun t ht => by
        have ht1 : T ≤ t ∧ 1 ≤ t := by split at ht <;> omega
        have hk := key t ht1.1
        rw [f0, Int.zero_add] at hk
        rcases Int.mul_eq_zero.mp hk with e | e
        · omega
        · exact e
      have := zev_zero N _ hz (j - 1) (by omega) (by omega)
      rw [show j - 1 + 1 = j by omega] at this
      exact this
theorem zev_inj {f g : Int → Int} {N : Nat} (T : Int) (h : ∀ t, T ≤ t → zev f t N = zev g t N) : ∀ j : Int, 0 ≤ j → j < N → f j = g j := fun j h1 h2 => by
  have := zev_zero N (f := fun j => f j - g j) T (fun t ht => by rw [zev_sub, h t ht]; omega) j h1 h2
  omega
/-- a polynomial that isn't 0 isn't 0 at any large t -/
theorem zev_nz : ∀ (N : Nat) {f : Int → Int} {j : Int}, 0 ≤ j → j < N → ¬ f j = 0 → ∃ T, ∀ t, T ≤ t → ¬ zev f t N = 0
  | 0, _, _, h1, h2, _ => by omega
  | N + 1, f, j, h1, h2, h3 => by
    by_cases q : ∃ i : Int, 0 ≤ i ∧ i < N ∧ ¬ f (i + 1) = 0
    · obtain ⟨i, i1, i2, i3⟩ := q
      obtain ⟨T, hT⟩ := zev_nz N (f := fun j => f (j + 1)) i1 i2 i3
      refine ⟨(if T < 1 then 1 else T) + (if f 0 < 0 then -f 0 else f 0), fun t ht hz => ?_⟩
      rw [zev_head] at hz
      have ht1 : T ≤ t ∧ 1 ≤ t ∧ f 0 < t ∧ -f 0 < t := by (repeat' split at ht) <;> omega
      have hn := hT t ht1.1
      have hd : t ∣ f 0 := ⟨-zev (fun j => f (j + 1)) t N, by rw [Int.mul_neg]; omega⟩
      have f0 : f 0 = 0 := zdv0 hd (by omega) (by omega)
      rw [f0, Int.zero_add] at hz
      rcases Int.mul_eq_zero.mp hz with e | e
      · omega
      · exact hn e
    · have hj : j = 0 := Classical.byContradiction fun z => q ⟨j - 1, by omega, by omega, by rw [show j - 1 + 1 = j by omega]; exact h3⟩
      refine ⟨0, fun t _ hz => ?_⟩
      rw [zev_head, zev_congr (g := fun _ => 0) (fun i i1 i2 => Classical.byContradiction fun z => q ⟨i, i1, i2, z⟩), show zev (fun _ => 0) t N = 0 from zsum_zero fun i _ => Int.zero_mul _, Int.mul_zero, Int.add_zero] at hz
      rw [hj] at h3
      exact h3 hz
/-- the product -/
theorem zcv_sum (f g : Int → Int) (j : Int) : ∀ n : Nat, zcv f g j n = zsum (fun i => f i * g (j - i)) n
  | 0 => rfl
  | n + 1 => by show zcv f g j n + f n * g (j - n) = _; rw [zcv_sum f g j n]; rfl
abbrev zS12 (f : Int → Int) : Prop := (∀ j, j < 0 → f j = 0) ∧ ∀ j, 12 < j → f j = 0
theorem zcv_ev {f g : Int → Int} (hf : zS12 f) (hg : zS12 g) (t : Int) : zev (fun j => zcv f g j 25) t 25 = zev f t 25 * zev g t 25 := by
  have e1 : zev (fun j => zcv f g j 25) t 25 = zev (fun j => zsum (fun i => f i * g (j - i)) 25) t 25 := zev_congr fun j _ _ => zcv_sum f g j 25
  rw [e1, zev_sum, Int.mul_comm (zev f t 25), show zev g t 25 * zev f t 25 = zsum (fun i => zev g t 25 * (f (i : Int) * t ^ i)) 25 from (zsum_mul _ _ _).symm]
  refine zsum_congr fun i hi => ?_
  rw [zev_mul]
  by_cases q : (i : Int) ≤ 12
  · have e2 := zev_shift (t := t) hg.1 i (25 - i)
    rw [show 25 - i + i = 25 by omega] at e2
    rw [e2, ← zev_ext (M := 25 - i) (fun j hj => hg.2 j (by omega)) 25 (by omega)]
    grind
  · rw [hf.2 _ (by omega), Int.zero_mul, Int.zero_mul, Int.mul_zero]
theorem zcv_o12 {f g : Int → Int} {j : Int} (hf : zS12 f) (hg : zS12 g) (hj : j < 0 ∨ 24 < j) : zcv f g j 25 = 0 := by
  rw [zcv_sum]
  refine zsum_zero fun i _ => ?_
  by_cases q : (i : Int) ≤ 12
  · by_cases q2 : j - i < 0
    · rw [hg.1 _ q2, Int.mul_zero]
    · rw [hg.2 _ (by omega), Int.mul_zero]
  · rw [hf.2 _ (by omega), Int.zero_mul]
theorem zD_ex {f : Int → Int} (h : zS12 f) : ∃ d, zD f d ∧ d ≤ 12 := by
  have key : ∀ n : Nat, (∀ j : Int, (n : Int) ≤ j → f j = 0) → n ≤ 13 → ∃ d, zD f d ∧ d ≤ 12 := by
    intro n
    induction n with
    | zero =>
      intro hn _
      exact ⟨-1, ⟨by omega, by omega, fun j hj => hn j (by omega), h.1, fun q => by omega⟩, by omega⟩
    | succ n ih =>
      intro hn hl
      by_cases q : f n = 0
      · exact ih (fun j hj => by by_cases e : j = n; rw [e]; exact q; exact hn j (by omega)) (by omega)
      · exact ⟨n, ⟨by omega, by omega, fun j hj => hn j (by omega), h.1, fun _ => q⟩, by omega⟩
  exact key 13 (fun j hj => h.2 j (by omega)) (Nat.le_refl _)
/-- the determinant of a + b t -/
def zpd : Nat → (Nat → Nat → Int) → (Nat → Nat → Int) → Int → Int
  | 0, _, _, e => if e = 0 then 1 else 0
  | n + 1, A, B, e => zsum (fun j => zgn (n + j) * (A n j * zpd n (fun i b => A i (zkp j b)) (fun i b => B i (zkp j b)) e + B n j * zpd n (fun i b => A i (zkp j b)) (fun i b => B i (zkp j b)) (e - 1))) (n + 1)
theorem zpd_congr : ∀ {n : Nat} {A B A' B' : Nat → Nat → Int} {e : Int}, (∀ i j, i < n → j < n → A i j = A' i j ∧ B i j = B' i j) → zpd n A B e = zpd n A' B' e
  | 0, _, _, _, _, _, _ => rfl
  | n + 1, A, B, A', B', e, h => zsum_congr fun j hj => by
    have k : ∀ e, zpd n (fun i b => A i (zkp j b)) (fun i b => B i (zkp j b)) e = zpd n (fun i b => A' i (zkp j b)) (fun i b => B' i (zkp j b)) e := fun e => zpd_congr fun i b hi hb => h i _ (by omega) (zkp_in hb)
    rw [(h n j (by omega) hj).1, (h n j (by omega) hj).2, k, k]
theorem zpd_out : ∀ {n : Nat} {A B : Nat → Nat → Int} {e : Int}, (e < 0 ∨ (n : Int) < e) → zpd n A B e = 0
  | 0, _, _, e, h => if_neg (by omega)
  | n + 1, A, B, e, h => zsum_zero fun j _ => by
    rw [zpd_out (n := n) (e := e) (by omega), zpd_out (n := n) (e := e - 1) (by omega), Int.mul_zero, Int.mul_zero, Int.add_zero, Int.mul_zero]
theorem zpd_ev (t : Int) : ∀ {n : Nat} {A B : Nat → Nat → Int} {N : Nat}, n < N → zev (zpd n A B) t N = zdt n (fun i j => A i j + B i j * t)
  | 0, A, B, N, h => by
    obtain ⟨M, rfl⟩ : ∃ M, N = M + 1 := ⟨N - 1, by omega⟩
    have hz : zev (fun j => zpd 0 A B (j + 1)) t M = 0 := zsum_zero fun i _ => by show (if (i : Int) + 1 = 0 then (1 : Int) else 0) * _ = 0; rw [if_neg (by omega), Int.zero_mul]
    rw [zev_head, hz, Int.mul_zero]
    rfl
  | n + 1, A, B, N, h => by
    obtain ⟨M, rfl⟩ : ∃ M, N = M + 1 := ⟨N - 1, by omega⟩
    show zev (fun e => zsum (fun j => zgn (n + j) * (A n j * zpd n (fun i b => A i (zkp j b)) (fun i b => B i (zkp j b)) e + B n j * zpd n (fun i b => A i (zkp j b)) (fun i b => B i (zkp j b)) (e - 1))) (n + 1)) t (M + 1) = _
    rw [zev_sum]
    refine zsum_congr fun j _ => ?_
    rw [zev_mul, zev_add, zev_mul, zev_mul]
    have e1 := zev_shift (t := t) (f := zpd n (fun i b => A i (zkp j b)) (fun i b => B i (zkp j b))) (fun j hj => zpd_out (Or.inl hj)) 1 M
    have e2 : zev (fun e => zpd n (fun i b => A i (zkp j b)) (fun i b => B i (zkp j b)) (e - 1)) t (M + 1) = t ^ 1 * zev (zpd n (fun i b => A i (zkp j b)) (fun i b => B i (zkp j b))) t M := e1
    rw [e2, zpd_ev t (n := n) (N := M + 1) (by omega), zpd_ev t (n := n) (N := M) (by omega), Int.pow_one]
    grind
abbrev zab (x : Int) : Int := if x < 0 then -x else x
theorem zab_mul (x y : Int) : zab (x * y) = zab x * zab y := by
  rcases Int.lt_or_le x 0 with h1 | h1 <;> rcases Int.lt_or_le y 0 with h2 | h2
  · have := Int.mul_pos_of_neg_of_neg h1 h2
    show (if x * y < 0 then -(x * y) else x * y) = (if x < 0 then -x else x) * (if y < 0 then -y else y)
    rw [if_neg (by omega), if_pos h1, if_pos h2]; grind
  · have := Int.mul_nonpos_of_nonpos_of_nonneg (Int.le_of_lt h1) h2
    show (if x * y < 0 then -(x * y) else x * y) = (if x < 0 then -x else x) * (if y < 0 then -y else y)
    rw [if_pos h1, if_neg (show ¬ y < 0 by omega)]
    by_cases q : x * y < 0
    · rw [if_pos q]; grind
    · rw [if_neg q]; rw [Int.neg_mul]; omega
  · have := Int.mul_nonpos_of_nonneg_of_nonpos h1 (Int.le_of_lt h2)
    show (if x * y < 0 then -(x * y) else x * y) = (if x < 0 then -x else x) * (if y < 0 then -y else y)
    rw [if_neg (show ¬ x < 0 by omega), if_pos h2]
    by_cases q : x * y < 0
    · rw [if_pos q]; grind
    · rw [if_neg q]; rw [Int.mul_neg]; omega
  · have := Int.mul_nonneg h1 h2
    show (if x * y < 0 then -(x * y) else x * y) = (if x < 0 then -x else x) * (if y < 0 then -y else y)
    rw [if_neg (by omega), if_neg (by omega), if_neg (by omega)]
theorem zab_nn (x : Int) : 0 ≤ zab x := by show 0 ≤ if x < 0 then -x else x; split <;> omega
theorem zab_add (x y : Int) : zab (x + y) ≤ zab x + zab y := by
  show (if x + y < 0 then -(x + y) else x + y) ≤ (if x < 0 then -x else x) + (if y < 0 then -y else y)
  (repeat' split) <;> omega
theorem zab_sum (f : Nat → Int) : ∀ n : Nat, zab (zsum f n) ≤ zsum (fun i => zab (f i)) n
  | 0 => Int.le_refl _
  | n + 1 => by
    have h := zab_sum f n
    have h2 := zab_add (zsum f n) (f n)
    show zab (zsum f n + f n) ≤ zsum (fun i => zab (f i)) n + zab (f n)
    omega
theorem zsum_kp {f : Nat → Int} {j : Nat} (hf : ∀ i, 0 ≤ f i) : ∀ n : Nat, zsum (fun b => f (zkp j b)) n ≤ zsum f (n + 1) ∧ (n ≤ j → zsum (fun b => f (zkp j b)) n ≤ zsum f n)
  | 0 => ⟨by show (0 : Int) ≤ 0 + f 0; have := hf 0; omega, fun _ => Int.le_refl _⟩
  | n + 1 => by
    have h := zsum_kp (j := j) hf n
    refine ⟨?_, fun hn => ?_⟩
    · show zsum (fun b => f (zkp j b)) n + f (zkp j n) ≤ zsum f (n + 1) + f (n + 1)
      by_cases q : n < j
      · have h2 := h.2 (by omega)
        rw [zkp_lt q]
        show _ ≤ zsum f n + f n + f (n + 1)
        have := hf (n + 1)
        omega
      · rw [zkp_ge (by omega)]
        have := h.1
        omega
    · show zsum (fun b => f (zkp j b)) n + f (zkp j n) ≤ zsum f n + f n
      rw [zkp_lt (by omega)]
      have := h.2 (by omega)
      omega
/-- each row's entries add up to 4 at the most: the coefficients are at most 4^n -/
theorem zpd_bd : ∀ {n : Nat} {A B : Nat → Nat → Int} {e : Int}, (∀ i, i < n → zsum (fun j => zab (A i j) + zab (B i j)) n ≤ 4) → zab (zpd n A B e) ≤ 4 ^ n
  | 0, _, _, e, _ => by
    show zab (if e = 0 then (1 : Int) else 0) ≤ 4 ^ 0
    by_cases q : e = 0
    · rw [if_pos q]; decide
    · rw [if_neg q]; decide
  | n + 1, A, B, e, h => by
    have k : ∀ j, j < n + 1 → ∀ e, zab (zpd n (fun i b => A i (zkp j b)) (fun i b => B i (zkp j b)) e) ≤ 4 ^ n := fun j _ e => zpd_bd fun i hi => by
      have h1 := (zsum_kp (f := fun j => zab (A i j) + zab (B i j)) (j := j) (fun i2 => by have := zab_nn (A i i2); have := zab_nn (B i i2); omega) n).1
      have h2 := h i (by omega)
      omega
    have hp : (0 : Int) ≤ 4 ^ n := Int.le_of_lt (Int.pow_pos (by decide))
    have h1 : zab (zpd (n + 1) A B e) ≤ zsum (fun j => 4 ^ n * (zab (A n j) + zab (B n j))) (n + 1) := by
      refine Int.le_trans (zab_sum _ (n + 1)) (zsum_le fun j hj => ?_)
      rw [zab_mul]
      have hs : zab (zgn (n + j)) = 1 := by rcases zgn_or (n + j) with q | q <;> rw [q.2] <;> decide
      rw [hs, Int.one_mul]
      have a1 := zab_add (A n j * zpd n (fun i b => A i (zkp j b)) (fun i b => B i (zkp j b)) e) (B n j * zpd n (fun i b => A i (zkp j b)) (fun i b => B i (zkp j b)) (e - 1))
      rw [zab_mul, zab_mul] at a1
      have a2 := Int.mul_le_mul_of_nonneg_left (k j hj e) (zab_nn (A n j))
      have a3 := Int.mul_le_mul_of_nonneg_left (k j hj (e - 1)) (zab_nn (B n j))
      rw [Int.mul_add, Int.mul_comm (4 ^ n), Int.mul_comm (4 ^ n)]
      omega
    rw [zsum_mul] at h1
    have h2 := Int.mul_le_mul_of_nonneg_left (h n (by omega)) hp
    rw [Int.pow_succ]
    omega
