/-- + or - -/
def zgn (m : Nat) : Int := if m % 2 = 0 then 1 else -1
theorem zgn_or (m : Nat) : (m % 2 = 0 ∧ zgn m = 1) ∨ (m % 2 = 1 ∧ zgn m = -1) := by unfold zgn; split <;> omega
theorem zgn_eq {a b : Nat} (h : a % 2 = b % 2) : zgn a = zgn b := by unfold zgn; rw [h]
theorem zgn_op {a b : Nat} (h : a % 2 ≠ b % 2) : zgn a = -zgn b := by have := zgn_or a; have := zgn_or b; omega
theorem zgn_mul (a b : Nat) : zgn a * zgn b = zgn (a + b) := by
  rcases zgn_or a with ⟨h1, h2⟩ | ⟨h1, h2⟩ <;> rcases zgn_or b with ⟨h3, h4⟩ | ⟨h3, h4⟩ <;> rcases zgn_or (a + b) with ⟨h5, h6⟩ | ⟨h5, h6⟩ <;> rw [h2, h4, h6] <;> omega
theorem zgn_ev (m : Nat) : zgn (m + m) = 1 := by have := zgn_or (m + m); omega
def zkp (j b : Nat) : Nat := if b < j then b else b + 1
theorem zkp_lt {j b : Nat} (h : b < j) : zkp j b = b := if_pos h
theorem zkp_ge {j b : Nat} (h : j ≤ b) : zkp j b = b + 1 := if_neg (by omega)
theorem zkp_in {j b n : Nat} (h : b < n) : zkp j b < n + 1 := by unfold zkp; split <;> omega
theorem zkp_kp {j b c : Nat} (h : b < j) : zkp j (zkp b c) = zkp b (zkp (j - 1) c) := by unfold zkp; (repeat' split) <;> omega
theorem zsum_mul (c : Int) (f : Nat → Int) : ∀ n : Nat, zsum (fun i => c * f i) n = c * zsum f n
  | 0 => (Int.mul_zero c).symm
  | n + 1 => by
    show zsum (fun i => c * f i) n + c * f n = c * (zsum f n + f n)
    rw [zsum_mul c f n, Int.mul_add]
theorem zsum_head (f : Nat → Int) : ∀ n : Nat, zsum f (n + 1) = f 0 + zsum (fun i => f (i + 1)) n
  | 0 => by show (0 : Int) + f 0 = f 0 + 0; omega
  | n + 1 => by
    show zsum f (n + 1) + f (n + 1) = f 0 + (zsum (fun i => f (i + 1)) n + f (n + 1))
    rw [zsum_head f n]; omega
/-- the determinant, by its last row -/
def zdt : Nat → (Nat → Nat → Int) → Int
  | 0, _ => 1
  | n + 1, A => zsum (fun j => zgn (n + j) * A n j * zdt n (fun i b => A i (zkp j b))) (n + 1)
theorem zdt_congr : ∀ {n : Nat} {A B : Nat → Nat → Int}, (∀ i j, i < n → j < n → A i j = B i j) → zdt n A = zdt n B
  | 0, _, _, _ => rfl
  | n + 1, A, B, h => zsum_congr fun j hj => by
    rw [h n j (by omega) hj, zdt_congr (A := fun i b => A i (zkp j b)) (B := fun i b => B i (zkp j b)) (fun i b hi hb => h i _ (by omega) (zkp_in hb))]
abbrev zrr (A : Nat → Nat → Int) (r : Nat) (u : Nat → Int) : Nat → Nat → Int := fun i j => if i = r then u j else A i j
theorem zdt_lin : ∀ {n : Nat} (A : Nat → Nat → Int) {r : Nat} (u v : Nat → Int) (x y : Int), r < n → zdt n (zrr A r (fun j => x * u j + y * v j)) = x * zdt n (zrr A r u) + y * zdt n (zrr A r v)
  | 0, _, _, _, _, _, _, h => absurd h (Nat.not_lt_zero _)
  | n + 1, A, r, u, v, x, y, h => by
    show zsum _ (n + 1) = x * zsum _ (n + 1) + y * zsum _ (n + 1)
    rw [← zsum_mul, ← zsum_mul, ← zsum_add]
    refine zsum_congr fun j hj => ?_
    by_cases q : n = r
    · subst q
      have e : ∀ w : Nat → Int, zdt n (fun i b => zrr A n w i (zkp j b)) = zdt n (fun i b => A i (zkp j b)) := fun w => zdt_congr fun i b hi _ => if_neg (by omega)
      rw [e, e, e, show zrr A n (fun j => x * u j + y * v j) n j = x * u j + y * v j from if_pos rfl, show zrr A n u n j = u j from if_pos rfl, show zrr A n v n j = v j from if_pos rfl]
      generalize zdt n (fun i b => A i (zkp j b)) = d
      generalize zgn (n + j) = g
      rw [Int.mul_add, Int.add_mul]
      congr 1
      · rw [Int.mul_left_comm, Int.mul_assoc]
      · rw [Int.mul_left_comm, Int.mul_assoc]
    · have e0 : ∀ w : Nat → Int, zrr A r w n j = A n j := fun w => if_neg q
      rw [e0, e0, e0]
      have e1 := zdt_lin (fun i b => A i (zkp j b)) (r := r) (fun b => u (zkp j b)) (fun b => v (zkp j b)) x y (show r < n by omega)
      have e2 : zdt n (fun i b => zrr A r (fun j => x * u j + y * v j) i (zkp j b)) = x * zdt n (fun i b => zrr A r u i (zkp j b)) + y * zdt n (fun i b => zrr A r v i (zkp j b)) := e1
      rw [e2, Int.mul_add]
      congr 1
      · rw [Int.mul_left_comm]
      · rw [Int.mul_left_comm]
theorem zsum_tri (T : Nat → Nat → Int) (n : Nat) : zsum (fun j => zsum (fun b => T j b) n) (n + 1) = zsum (fun j => zsum (fun b => if b < j then T j b + T b (j - 1) else 0) n) (n + 1) := by
  have e1 : zsum (fun j => zsum (fun b => T j b) n) (n + 1) = zsum (fun j => zsum (fun b => if b < j then T j b else 0) n) (n + 1) + zsum (fun j => zsum (fun b => if b < j then 0 else T j b) n) (n + 1) := by
    rw [← zsum_add]
    refine zsum_congr fun j _ => ?_
    rw [← zsum_add]
    exact zsum_congr fun b _ => by split <;> omega
  have e2 : zsum (fun j => zsum (fun b => if b < j then T j b + T b (j - 1) else 0) n) (n + 1) = zsum (fun j => zsum (fun b => if b < j then T j b else 0) n) (n + 1) + zsum (fun j => zsum (fun b => if b < j then T b (j - 1) else 0) n) (n + 1) := by
    rw [← zsum_add]
    refine zsum_congr fun j _ => ?_
    rw [← zsum_add]
    exact zsum_congr fun b _ => by split <;> omega
  have e3 : zsum (fun j => zsum (fun b => if b < j then 0 else T j b) n) (n + 1) = zsum (fun j => zsum (fun b => if b < j then T b (j - 1) else 0) n) (n + 1) := by
    rw [zsum_swap]
    rw [zsum_head (fun j => zsum (fun b => if b < j then T b (j - 1) else 0) n), zsum_zero (fun b _ => if_neg (by omega)), Int.zero_add]
    refine zsum_congr fun b hb => ?_
    show zsum (fun j => if b < j then 0 else T j b) n + (if b < n then 0 else T n b) = _
    rw [if_pos hb, Int.add_zero]
    refine zsum_congr fun j _ => ?_
    by_cases q : b < j
    · rw [if_pos q, if_neg (by omega)]
    · rw [if_neg q, if_pos (by omega)]; rfl
  rw [e1, e2, e3]
theorem zdt_adj : ∀ {n : Nat} {A : Nat → Nat → Int} {r : Nat}, r + 1 < n → (∀ j, j < n → A r j = A (r + 1) j) → zdt n A = 0
  | 0, _, _, h, _ => absurd h (Nat.not_lt_zero _)
  | n + 1, A, r, h, he => by
    by_cases q : r + 1 < n
    · exact zsum_zero fun j hj => by rw [zdt_adj (A := fun i b => A i (zkp j b)) q (fun b hb => he _ (zkp_in hb)), Int.mul_zero]
    · obtain ⟨m, rfl⟩ : ∃ m, n = m + 1 := ⟨r, by omega⟩
      have hr : r = m := by omega
      subst hr
      have e1 : zdt (r + 2) A = zsum (fun j => zsum (fun b => zgn (r + 1 + j) * A (r + 1) j * (zgn (r + b) * A r (zkp j b) * zdt r (fun i c => A i (zkp j (zkp b c))))) (r + 1)) (r + 2) := by
        show zsum (fun j => zgn (r + 1 + j) * A (r + 1) j * zdt (r + 1) (fun i b => A i (zkp j b))) (r + 2) = _
        refine zsum_congr fun j _ => ?_
        rw [zsum_mul]
        rfl
      rw [e1, zsum_tri]
      refine zsum_zero fun j hj => zsum_zero fun b hb => ?_
      by_cases q2 : b < j
      · rw [if_pos q2, zkp_lt q2, zkp_ge (show b ≤ j - 1 by omega), show j - 1 + 1 = j by omega, he b (by omega), he j (by omega)]
        have e2 : zdt r (fun i c => A i (zkp b (zkp (j - 1) c))) = zdt r (fun i c => A i (zkp j (zkp b c))) := zdt_congr fun i c _ _ => by rw [zkp_kp q2]
        rw [e2]
        generalize zdt r (fun i c => A i (zkp j (zkp b c))) = d
        have e3 : zgn (r + 1 + j) * zgn (r + b) = -(zgn (r + 1 + b) * zgn (r + (j - 1))) := by rw [zgn_mul, zgn_mul]; exact zgn_op (by omega)
        generalize A (r + 1) j = x at *
        generalize A (r + 1) b = y at *
        have e4 : zgn (r + 1 + j) * x * (zgn (r + b) * y * d) = zgn (r + 1 + j) * zgn (r + b) * (x * y * d) := by grind
        have e5 : zgn (r + 1 + b) * y * (zgn (r + (j - 1)) * x * d) = zgn (r + 1 + b) * zgn (r + (j - 1)) * (x * y * d) := by grind
        rw [e4, e5, e3, Int.neg_mul]
        omega
      · rw [if_neg q2]
theorem zrr_rr {A : Nat → Nat → Int} {r l : Nat} {u v : Nat → Int} (h : r ≠ l) : zrr (zrr A r u) l v = zrr (zrr A l v) r u := by
  funext i j
  show (if i = l then v j else if i = r then u j else A i j) = if i = r then u j else if i = l then v j else A i j
  by_cases q : i = l
  · rw [if_pos q, if_neg (by omega), if_pos q]
  · rw [if_neg q, if_neg q]
theorem zdt_l1 {n : Nat} (A : Nat → Nat → Int) {r : Nat} (u v : Nat → Int) (h : r < n) : zdt n (zrr A r (fun j => u j + v j)) = zdt n (zrr A r u) + zdt n (zrr A r v) := by
  have e := zdt_lin A u v 1 1 h
  rw [Int.one_mul, Int.one_mul] at e
  rw [← e]
  refine zdt_congr fun i j _ _ => ?_
  show (if i = r then u j + v j else A i j) = if i = r then 1 * u j + 1 * v j else A i j
  rw [Int.one_mul, Int.one_mul]
theorem zdt_sw {n : Nat} (A : Nat → Nat → Int) {r : Nat} (h : r + 1 < n) : zdt n (zrr (zrr A r (A (r + 1))) (r + 1) (A r)) = -zdt n A := by
  have D0 : ∀ x : Nat → Int, zdt n (zrr (zrr A r x) (r + 1) x) = 0 := fun x => zdt_adj h fun j _ => by
    show (if r = r + 1 then x j else if r = r then x j else A r j) = if r + 1 = r + 1 then x j else _
    rw [if_neg (by omega), if_pos rfl, if_pos rfl]
  have s1 : ∀ x y z : Nat → Int, zdt n (zrr (zrr A r x) (r + 1) (fun j => y j + z j)) = zdt n (zrr (zrr A r x) (r + 1) y) + zdt n (zrr (zrr A r x) (r + 1) z) := fun x y z => zdt_l1 _ y z h
  have s2 : ∀ x y z : Nat → Int, zdt n (zrr (zrr A r (fun j => y j + z j)) (r + 1) x) = zdt n (zrr (zrr A r y) (r + 1) x) + zdt n (zrr (zrr A r z) (r + 1) x) := fun x y z => by
    rw [zrr_rr (by omega), zdt_l1 _ y z (by omega), ← zrr_rr (show r ≠ r + 1 by omega), ← zrr_rr (show r ≠ r + 1 by omega)]
  have e := D0 (fun j => A r j + A (r + 1) j)
  rw [s1, s2, s2, D0, D0] at e
  have e2 : zdt n (zrr (zrr A r (A r)) (r + 1) (A (r + 1))) = zdt n A := zdt_congr fun i j _ _ => by
    show (if i = r + 1 then A (r + 1) j else if i = r then A r j else A i j) = A i j
    by_cases q : i = r + 1
    · rw [if_pos q, q]
    · rw [if_neg q]
      by_cases q2 : i = r
      · rw [if_pos q2, q2]
      · rw [if_neg q2]
  rw [e2] at e
  omega
theorem zdt_eq {n : Nat} : ∀ (d : Nat) {A : Nat → Nat → Int} {i : Nat}, i + d + 1 < n → (∀ j, j < n → A i j = A (i + d + 1) j) → zdt n A = 0
  | 0, A, i, h, he => zdt_adj h he
  | d + 1, A, i, h, he => by
    have e := zdt_sw A (r := i + d + 1) h
    have e2 : zdt n (zrr (zrr A (i + d + 1) (A (i + d + 1 + 1))) (i + d + 1 + 1) (A (i + d + 1))) = 0 := zdt_eq d (i := i) (by omega) fun j hj => by
      show (if i = i + d + 1 + 1 then A (i + d + 1) j else if i = i + d + 1 then A (i + d + 1 + 1) j else A i j) = if i + d + 1 = i + d + 1 + 1 then A (i + d + 1) j else if i + d + 1 = i + d + 1 then A (i + d + 1 + 1) j else A (i + d + 1) j
      rw [if_neg (by omega), if_neg (by omega), if_neg (by omega), if_pos rfl]
      exact he j hj
    omega
theorem zdt_two {n : Nat} {A : Nat → Nat → Int} {i l : Nat} (hi : i < l) (hl : l < n) (he : ∀ j, j < n → A i j = A l j) : zdt n A = 0 := by
  have h := zdt_eq (n := n) (l - i - 1) (A := A) (i := i) (by omega)
  rw [show i + (l - i - 1) + 1 = l by omega] at h
  exact h he
/-- a row, and multiples of rows before it -/
theorem zdt_rep {n : Nat} (B : Nat → Nat → Int) {r : Nat} (hr : r < n) (x : Int) (c : Nat → Int) : ∀ k : Nat, k ≤ r → zdt n (zrr B r (fun b => x * B r b + zsum (fun a => c a * B a b) k)) = x * zdt n B
  | 0, _ => by
    have e := zdt_lin B (B r) (fun _ => 0) x 0 hr
    simp only [Int.zero_mul, Int.add_zero] at e
    have e2 : zdt n (zrr B r (B r)) = zdt n B := zdt_congr fun i j _ _ => by
      show (if i = r then B r j else B i j) = B i j
      split
      · rename_i q; rw [q]
      · rfl
    rw [e2] at e
    rw [← e]
    refine zdt_congr fun i j _ _ => ?_
    show (if i = r then x * B r j + 0 else B i j) = if i = r then x * B r j else B i j
    rw [Int.add_zero]
  | k + 1, hk => by
    have e := zdt_lin B (fun b => x * B r b + zsum (fun a => c a * B a b) k) (B k) 1 (c k) hr
    rw [Int.one_mul, zdt_rep B hr x c k (by omega)] at e
    have e2 : zdt n (zrr B r (B k)) = 0 := zdt_two (i := k) (l := r) (by omega) hr fun j _ => by
      show (if k = r then B k j else B k j) = if r = r then B k j else B r j
      rw [if_pos rfl]; split <;> rfl
    rw [e2, Int.mul_zero, Int.add_zero] at e
    rw [← e]
    refine zdt_congr fun i j _ _ => ?_
    show (if i = r then x * B r j + (zsum (fun a => c a * B a j) k + c k * B k j) else B i j) = if i = r then 1 * (x * B r j + zsum (fun a => c a * B a j) k) + c k * B k j else B i j
    split
    · omega
    · rfl
/-- by the last column -/
theorem zdt_col : ∀ (n : Nat) (A : Nat → Nat → Int), zdt (n + 1) A = zsum (fun i => zgn (n + i) * A i n * zdt n (fun a b => A (zkp i a) b)) (n + 1)
  | 0, A => rfl
  | n + 1, A => by
    show zsum (fun j => zgn (n + 1 + j) * A (n + 1) j * zdt (n + 1) (fun i b => A i (zkp j b))) (n + 1) + zgn (n + 1 + (n + 1)) * A (n + 1) (n + 1) * zdt (n + 1) (fun i b => A i (zkp (n + 1) b)) = zsum (fun i => zgn (n + 1 + i) * A i (n + 1) * zdt (n + 1) (fun a b => A (zkp i a) b)) (n + 1) + zgn (n + 1 + (n + 1)) * A (n + 1) (n + 1) * zdt (n + 1) (fun a b => A (zkp (n + 1) a) b)
    have e1 : zdt (n + 1) (fun i b => A i (zkp (n + 1) b)) = zdt (n + 1) (fun a b => A (zkp (n + 1) a) b) := zdt_congr fun i j hi hj => by rw [zkp_lt hj, zkp_lt hi]
    have e2 : zsum (fun j => zgn (n + 1 + j) * A (n + 1) j * zdt (n + 1) (fun i b => A i (zkp j b))) (n + 1) = zsum (fun i => zgn (n + 1 + i) * A i (n + 1) * zdt (n + 1) (fun a b => A (zkp i a) b)) (n + 1) := by
      have l1 : zsum (fun j => zgn (n + 1 + j) * A (n + 1) j * zdt (n + 1) (fun i b => A i (zkp j b))) (n + 1) = zsum (fun j => zsum (fun i => zgn (n + 1 + j) * A (n + 1) j * (zgn (n + i) * A i (n + 1) * zdt n (fun a b => A (zkp i a) (zkp j b)))) (n + 1)) (n + 1) := zsum_congr fun j hj => by
        rw [zdt_col n (fun i b => A i (zkp j b)), zsum_mul, zkp_ge (show j ≤ n by omega)]
      have l2 : zsum (fun i => zgn (n + 1 + i) * A i (n + 1) * zdt (n + 1) (fun a b => A (zkp i a) b)) (n + 1) = zsum (fun i => zsum (fun j => zgn (n + 1 + i) * A i (n + 1) * (zgn (n + j) * A (n + 1) j * zdt n (fun a b => A (zkp i a) (zkp j b)))) (n + 1)) (n + 1) := zsum_congr fun i hi => by
        rw [zsum_mul]
        show zgn (n + 1 + i) * A i (n + 1) * zsum (fun j => zgn (n + j) * A (zkp i n) j * zdt n (fun a b => A (zkp i a) (zkp j b))) (n + 1) = _
        rw [zkp_ge (show i ≤ n by omega)]
      rw [l1, l2, zsum_swap]
      refine zsum_congr fun i _ => zsum_congr fun j _ => ?_
      have e3 : zgn (n + 1 + j) * zgn (n + i) = zgn (n + 1 + i) * zgn (n + j) := by rw [zgn_mul, zgn_mul]; exact zgn_eq (by omega)
      generalize zdt n (fun a b => A (zkp i a) (zkp j b)) = d
      generalize A (n + 1) j = x
      generalize A i (n + 1) = y
      have e4 : zgn (n + 1 + j) * x * (zgn (n + i) * y * d) = zgn (n + 1 + j) * zgn (n + i) * (x * y * d) := by grind
      have e5 : zgn (n + 1 + i) * y * (zgn (n + j) * x * d) = zgn (n + 1 + i) * zgn (n + j) * (x * y * d) := by grind
      rw [e4, e5, e3]
    rw [e1, e2]
theorem zdt_tr : ∀ (n : Nat) (A : Nat → Nat → Int), zdt n (fun i j => A j i) = zdt n A
  | 0, _ => rfl
  | n + 1, A => by
    rw [zdt_col n A]
    refine zsum_congr fun j _ => ?_
    rw [← zdt_tr n (fun a b => A (zkp j a) b)]
/-- the last row has but its last entry -/
theorem zdt_last {n : Nat} {A : Nat → Nat → Int} (h : ∀ j, j < n → A n j = 0) : zdt (n + 1) A = A n n * zdt n A := by
  show zsum (fun j => zgn (n + j) * A n j * zdt n (fun i b => A i (zkp j b))) n + zgn (n + n) * A n n * zdt n (fun i b => A i (zkp n b)) = _
  rw [zsum_zero (fun j hj => by rw [h j hj, Int.mul_zero, Int.zero_mul]), zgn_ev, Int.zero_add, Int.one_mul, zdt_congr (B := A) (fun i j _ hj => by rw [zkp_lt hj])]
/-- bordered: rows and columns below k, and row i, column j -/
def zbo (A : Nat → Nat → Int) (k i j : Nat) : Int := zdt (k + 1) (fun a b => A (if a < k then a else i) (if b < k then b else j))
theorem zbo_0 (A : Nat → Nat → Int) (i j : Nat) : zbo A 0 i j = A i j := by
  show (0 : Int) + zgn (0 + 0) * A i j * 1 = A i j
  rw [show zgn (0 + 0) = 1 from rfl]; omega
theorem zbo_kk (A : Nat → Nat → Int) (k : Nat) : zbo A k k k = zdt (k + 1) A := zdt_congr fun a b ha hb => by
  show A (if a < k then a else k) (if b < k then b else k) = A a b
  rw [show (if a < k then a else k) = a by split <;> omega, show (if b < k then b else k) = b by split <;> omega]
theorem zbo_old {A : Nat → Nat → Int} {k i j : Nat} (h : j < k) : zbo A k i j = 0 := by
  unfold zbo
  rw [← zdt_tr]
  refine zdt_two (i := j) (l := k) h (Nat.lt_succ_self _) fun a _ => ?_
  show A (if a < k then a else i) (if j < k then j else j) = A (if a < k then a else i) (if k < k then k else j)
  rw [if_pos h, if_neg (Nat.lt_irrefl k)]
theorem zbo_row (A : Nat → Nat → Int) (k i : Nat) : ∃ c : Nat → Int, ∀ j, zbo A k i j = zdt k A * A i j + zsum (fun a => c a * A a j) k := by
  refine ⟨fun a => zgn (k + a) * zdt k (fun a' b' => A (if zkp a a' < k then zkp a a' else i) b'), fun j => ?_⟩
  unfold zbo
  rw [zdt_col]
  show zsum (fun a => zgn (k + a) * A (if a < k then a else i) (if k < k then k else j) * zdt k (fun a' b => A (if zkp a a' < k then zkp a a' else i) (if b < k then b else j))) k + zgn (k + k) * A (if k < k then k else i) (if k < k then k else j) * zdt k (fun a' b => A (if zkp k a' < k then zkp k a' else i) (if b < k then b else j)) = _
  rw [if_neg (Nat.lt_irrefl k), if_neg (Nat.lt_irrefl k), zgn_ev, Int.one_mul, Int.add_comm]
  congr 1
  · rw [Int.mul_comm]
    congr 1
    exact zdt_congr fun a b ha hb => by rw [zkp_lt ha, if_pos ha, if_pos hb]
  · refine zsum_congr fun a ha => ?_
    rw [if_pos ha, zdt_congr (B := fun a' b' => A (if zkp a a' < k then zkp a a' else i) b') (fun a' b' _ hb => by show A _ (if b' < k then b' else j) = _; rw [if_pos hb])]
    grind
/-- Sylvester's identity, where the corner isn't 0 -/
theorem zbo_syl {A : Nat → Nat → Int} {k i j : Nat} (hD : zdt k A ≠ 0) : zdt k A * zbo A (k + 1) i j = zbo A k k k * zbo A k i j - zbo A k i k * zbo A k k j := by
  let C : Nat → Nat := fun b => if b < k + 1 then b else j
  let X : Nat → Nat → Int := fun a b => A (if a < k + 1 then a else i) (C b)
  obtain ⟨c, hc⟩ := zbo_row A k k
  obtain ⟨d, hd⟩ := zbo_row A k i
  have hXa : ∀ a b, a < k + 1 → X a b = A a (C b) := fun a b ha => by show A (if a < k + 1 then a else i) (C b) = _; rw [if_pos ha]
  have hXi : ∀ b, X (k + 1) b = A i (C b) := fun b => by show A (if k + 1 < k + 1 then k + 1 else i) (C b) = _; rw [if_neg (Nat.lt_irrefl _)]
  let B1 := zrr X k (fun b => zdt k A * X k b + zsum (fun a => c a * X a b) k)
  have f1 : zdt (k + 2) B1 = zdt k A * zdt (k + 2) X := zdt_rep X (by omega) _ c k (Nat.le_refl _)
  let B2 := zrr B1 (k + 1) (fun b => zdt k A * B1 (k + 1) b + zsum (fun a => d a * B1 a b) k)
  have f2 : zdt (k + 2) B2 = zdt k A * zdt (k + 2) B1 := zdt_rep B1 (by omega) _ d k (by omega)
  have g1 : ∀ b, B1 k b = zbo A k k (C b) := fun b => by
    rw [hc]
    show (if k = k then (zdt k A * X k b + zsum (fun a => c a * X a b) k) else X k b) = _
    rw [if_pos rfl, hXa k b (by omega)]
    congr 1
    exact zsum_congr fun a ha => by rw [hXa a b (by omega)]
  have g0 : ∀ a b, a ≠ k → B1 a b = X a b := fun a b ha => if_neg ha
  have g2 : ∀ b, B2 (k + 1) b = zbo A k i (C b) := fun b => by
    rw [hd]
    show (if k + 1 = k + 1 then (zdt k A * B1 (k + 1) b + zsum (fun a => d a * B1 a b) k) else B1 (k + 1) b) = _
    rw [if_pos rfl, g0 (k + 1) b (by omega), hXi]
    congr 1
    exact zsum_congr fun a ha => by rw [g0 a b (by omega), hXa a b (by omega)]
  have g3 : ∀ a b, a ≠ k + 1 → B2 a b = B1 a b := fun a b ha => if_neg ha
  have hC : ∀ b, b < k + 1 → C b = b := fun b hb => if_pos hb
  have hCj : C (k + 1) = j := if_neg (Nat.lt_irrefl _)
  have z2 : ∀ b, b < k → B2 (k + 1) b = 0 := fun b hb => by rw [g2, hC b (by omega)]; exact zbo_old hb
  have z1 : ∀ b, b < k → B2 k b = 0 := fun b hb => by rw [g3 k b (by omega), g1, hC b (by omega)]; exact zbo_old hb
  have m : ∀ (E : Nat → Nat → Int), (∀ a b, a < k → b < k → E a b = A a b) → zdt k E = zdt k A := fun E hE => zdt_congr hE
  have t1 : zdt (k + 1) (fun a b => B2 a (zkp k b)) = zbo A k k j * zdt k A := by
    rw [zdt_last (fun b hb => by show B2 k (zkp k b) = 0; rw [zkp_lt hb]; exact z1 b hb)]
    rw [m _ (fun a b ha hb => by show B2 a (zkp k b) = _; rw [zkp_lt hb, g3 a b (by omega), g0 a b (by omega), hXa a b (by omega), hC b (by omega)])]
    show B2 k (zkp k k) * _ = _
    rw [zkp_ge (Nat.le_refl _), g3 k _ (by omega), g1, hCj]
  have t2 : zdt (k + 1) (fun a b => B2 a (zkp (k + 1) b)) = zbo A k k k * zdt k A := by
    rw [zdt_last (fun b hb => by show B2 k (zkp (k + 1) b) = 0; rw [zkp_lt (by omega)]; exact z1 b hb)]
    rw [m _ (fun a b ha hb => by show B2 a (zkp (k + 1) b) = _; rw [zkp_lt (by omega), g3 a b (by omega), g0 a b (by omega), hXa a b (by omega), hC b (by omega)])]
    show B2 k (zkp (k + 1) k) * _ = _
    rw [zkp_lt (Nat.lt_succ_self _), g3 k _ (by omega), g1, hC k (by omega)]
  have f3 : zdt (k + 2) B2 = -(zbo A k i k * (zbo A k k j * zdt k A)) + zbo A k i j * (zbo A k k k * zdt k A) := by
    show zsum (fun b => zgn (k + 1 + b) * B2 (k + 1) b * zdt (k + 1) (fun a c => B2 a (zkp b c))) k + zgn (k + 1 + k) * B2 (k + 1) k * zdt (k + 1) (fun a c => B2 a (zkp k c)) + zgn (k + 1 + (k + 1)) * B2 (k + 1) (k + 1) * zdt (k + 1) (fun a c => B2 a (zkp (k + 1) c)) = _
    rw [zsum_zero (fun b hb => by rw [z2 b hb, Int.mul_zero, Int.zero_mul]), t1, t2, g2, g2, hC k (by omega), hCj, zgn_ev, show zgn (k + 1 + k) = -1 by have := zgn_or (k + 1 + k); omega, Int.zero_add, Int.one_mul, Int.neg_mul, Int.one_mul, Int.neg_mul]
  have f4 : zdt (k + 2) X = zbo A (k + 1) i j := rfl
  rw [f1, f3, f4] at f2
  have f5 : zdt k A * (zdt k A * zbo A (k + 1) i j) = zdt k A * (zbo A k k k * zbo A k i j - zbo A k i k * zbo A k k j) := by
    rw [← f2]; grind
  exact Int.eq_of_mul_eq_mul_left hD f5
