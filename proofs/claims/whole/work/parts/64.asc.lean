/-- the rows, weighted, add up to 0: what is left without row a, without row a + 1 -/
theorem zdw_adj {N : Nat} {Y : Nat → Nat → Int} {u : Nat → Int} (h : ∀ j, j < N → zsum (fun a => u a * Y a j) (N + 1) = 0) {a : Nat} (ha : a < N) : u (a + 1) * zdt N (fun i j => Y (zkp a i) j) = -(u a * zdt N (fun i j => Y (zkp (a + 1) i) j)) := by
  have e := zdt_lin (n := N) (fun i j => Y (zkp a i) j) (r := a) (Y (a + 1)) (Y a) (u (a + 1)) (u a) ha
  have e1 : zdt N (zrr (fun i j => Y (zkp a i) j) a (Y (a + 1))) = zdt N (fun i j => Y (zkp a i) j) := zdt_congr fun i j _ _ => by
    show (if i = a then Y (a + 1) j else Y (zkp a i) j) = Y (zkp a i) j
    split
    · rename_i q; rw [q, zkp_ge (Nat.le_refl _)]
    · rfl
  have e2 : zdt N (zrr (fun i j => Y (zkp a i) j) a (Y a)) = zdt N (fun i j => Y (zkp (a + 1) i) j) := zdt_congr fun i j _ _ => by
    show (if i = a then Y a j else Y (zkp a i) j) = Y (zkp (a + 1) i) j
    split
    · rename_i q; rw [q, zkp_lt (Nat.lt_succ_self _)]
    · rename_i q
      unfold zkp
      by_cases q2 : i < a
      · rw [if_pos q2, if_pos (by omega)]
      · rw [if_neg q2, if_neg (by omega)]
  rw [e1, e2] at e
  -- the row is a sum of the others
  have z : zdt N (zrr (fun i j => Y (zkp a i) j) a (fun j => u (a + 1) * Y (a + 1) j + u a * Y a j)) = 0 := by
    let X : Nat → Nat → Int := fun i j => Y (zkp a i) j
    have hrow : ∀ j, j < N → u (a + 1) * Y (a + 1) j + u a * Y a j = 0 * X a j + zsum (fun i => (if i = a then 0 else -u (zkp a i)) * X i j) N := fun j hj => by
      have hs := h j hj
      rw [zsum_kp_eq (fun a => u a * Y a j) (j := a) N (by omega)] at hs
      have hx : zsum (fun i => (if i = a then 0 else -u (zkp a i)) * X i j) N = -zsum (fun b => u (zkp a b) * Y (zkp a b) j) N + u (a + 1) * Y (a + 1) j := by
        have k1 : zsum (fun i => (if i = a then 0 else -u (zkp a i)) * X i j) N = zsum (fun i => (-1) * (u (zkp a i) * Y (zkp a i) j) + if i = a then u (a + 1) * Y (a + 1) j else 0) N := zsum_congr fun i _ => by
          show (if i = a then 0 else -u (zkp a i)) * Y (zkp a i) j = _
          by_cases q : i = a
          · rw [if_pos q, if_pos q, q, zkp_ge (Nat.le_refl _), Int.zero_mul]; omega
          · rw [if_neg q, if_neg q, Int.neg_mul]; omega
        rw [k1, zsum_add, zsum_mul, zsum_pick _ ha]
        omega
      rw [hx, Int.zero_mul]
      omega
    have k2 : ∀ (M : Nat) (c : Nat → Int), M ≤ N → c a = 0 → zdt N (zrr X a (fun j => 0 * X a j + zsum (fun i => c i * X i j) M)) = 0 := by
      intro M c
      induction M with
      | zero =>
        intro _ _
        refine zdt_row0 ha fun j _ => ?_
        show (if a = a then 0 * X a j + 0 else X a j) = 0
        rw [if_pos rfl, Int.zero_mul]; rfl
      | succ M ih =>
        intro hM hc
        have f := zdt_lin X (fun j => 0 * X a j + zsum (fun i => c i * X i j) M) (X M) 1 (c M) ha
        rw [ih (by omega) hc, Int.mul_zero, Int.zero_add] at f
        have f2 : zdt N (zrr X a (fun j => 0 * X a j + zsum (fun i => c i * X i j) (M + 1))) = zdt N (zrr X a (fun j => 1 * (0 * X a j + zsum (fun i => c i * X i j) M) + c M * X M j)) := zdt_congr fun i j _ _ => by
          show (if i = a then 0 * X a j + (zsum (fun i => c i * X i j) M + c M * X M j) else X i j) = if i = a then 1 * (0 * X a j + zsum (fun i => c i * X i j) M) + c M * X M j else X i j
          split
          · omega
          · rfl
        rw [f2, f]
        by_cases q : M = a
        · rw [q, hc, Int.zero_mul]
        · have f3 : zdt N (zrr X a (X M)) = 0 := by
            rcases Nat.lt_or_gt_of_ne q with q2 | q2
            · exact zdt_two q2 ha fun j _ => by
                show (if M = a then X M j else X M j) = if a = a then X M j else X a j
                rw [if_pos rfl]; split <;> rfl
            · exact zdt_two q2 (show M < N by omega) fun j _ => by
                show (if a = a then X M j else X a j) = if M = a then X M j else X M j
                rw [if_pos rfl]; split <;> rfl
          rw [f3, Int.mul_zero]
    have k3 := k2 N (fun i => if i = a then 0 else -u (zkp a i)) (Nat.le_refl _) (if_pos rfl)
    rw [← k3]
    refine zdt_congr fun i j _ hj => ?_
    show (if i = a then u (a + 1) * Y (a + 1) j + u a * Y a j else X i j) = if i = a then 0 * X a j + zsum (fun i => (if i = a then 0 else -u (zkp a i)) * X i j) N else X i j
    split
    · exact hrow j hj
    · rfl
  rw [z] at e
  omega
theorem zdw_0 {N : Nat} {Y : Nat → Nat → Int} {u : Nat → Int} (h : ∀ j, j < N → zsum (fun a => u a * Y a j) (N + 1) = 0) (hu : ∀ a, a ≤ N → u a ≠ 0) : ∀ a, a ≤ N → u a * zdt N (fun i j => Y (zkp 0 i) j) = zgn a * (u 0 * zdt N (fun i j => Y (zkp a i) j))
  | 0, _ => by rw [show zgn 0 = 1 from rfl, Int.one_mul]
  | a + 1, ha => by
    have i1 := zdw_0 h hu a (by omega)
    have i2 := zdw_adj h (show a < N by omega)
    have e : u a * (u (a + 1) * zdt N (fun i j => Y (zkp 0 i) j)) = u a * (zgn (a + 1) * (u 0 * zdt N (fun i j => Y (zkp (a + 1) i) j))) := by
      have g1 : zgn (a + 1) = -zgn a := zgn_op (by omega)
      generalize zdt N (fun i j => Y (zkp 0 i) j) = D0 at *
      generalize zdt N (fun i j => Y (zkp a i) j) = Da at *
      generalize zdt N (fun i j => Y (zkp (a + 1) i) j) = D1 at *
      rw [g1]
      have e1 : u a * (u (a + 1) * D0) = u (a + 1) * (u a * D0) := by grind
      rw [e1, i1]
      have e2 : u (a + 1) * (zgn a * (u 0 * Da)) = zgn a * (u 0 * (u (a + 1) * Da)) := by grind
      rw [e2, i2]
      grind
    exact Int.eq_of_mul_eq_mul_left (hu a (by omega)) e
/-- without row a, without row b -/
theorem zdw {N : Nat} {Y : Nat → Nat → Int} {u : Nat → Int} (h : ∀ j, j < N → zsum (fun a => u a * Y a j) (N + 1) = 0) (hu : ∀ a, a ≤ N → u a ≠ 0) {a b : Nat} (ha : a ≤ N) (hb : b ≤ N) : u b * zdt N (fun i j => Y (zkp a i) j) = zgn (a + b) * (u a * zdt N (fun i j => Y (zkp b i) j)) := by
  have i1 := zdw_0 h hu a ha
  have i2 := zdw_0 h hu b hb
  have g1 : zgn a * zgn a = 1 := by rw [zgn_mul]; exact zgn_ev a
  have g2 : zgn (a + b) = zgn a * zgn b := (zgn_mul a b).symm
  rw [g2]
  generalize zdt N (fun i j => Y (zkp 0 i) j) = D0 at *
  generalize zdt N (fun i j => Y (zkp a i) j) = Da at *
  generalize zdt N (fun i j => Y (zkp b i) j) = Db at *
  have e : u 0 * (u b * Da) = u 0 * (zgn a * zgn b * (u a * Db)) := by
    have e1 : u 0 * Da = zgn a * (u a * D0) := by rw [i1]; grind
    have e2 : u 0 * (u b * Da) = u b * (u 0 * Da) := by grind
    have e3 : u 0 * (zgn a * zgn b * (u a * Db)) = zgn a * (u a * (zgn b * (u 0 * Db))) := by grind
    rw [e2, e1, e3, ← i2]
    grind
  exact Int.eq_of_mul_eq_mul_left (hu 0 (by omega)) e
theorem zsum_4 (f : Nat → Int) : ∀ n : Nat, zsum f (4 * n) = zsum (fun k => f (4 * k) + f (4 * k + 1) + f (4 * k + 2) + f (4 * k + 3)) n
  | 0 => rfl
  | n + 1 => by
    show zsum f (4 * n + 4) = zsum (fun k => f (4 * k) + f (4 * k + 1) + f (4 * k + 2) + f (4 * k + 3)) n + (f (4 * n) + f (4 * n + 1) + f (4 * n + 2) + f (4 * n + 3))
    rw [← zsum_4 f n]
    show zsum f (4 * n) + f (4 * n) + f (4 * n + 1) + f (4 * n + 2) + f (4 * n + 3) = _
    omega
theorem zsum_inv {n : Nat} {r : Nat → Nat} {f : Nat → Int} (h1 : ∀ x, x < n → r x < n ∧ r (r x) = x) (h2 : ∀ x, x < n → f (r x) = -f x) : zsum f n = 0 := by
  have e := zsum_perm (n := n) (u := r) (v := r) (fun x hx => (h1 x hx).1) (fun x hx => (h1 x hx).1) (fun x hx => (h1 x hx).2) (fun x hx => (h1 x hx).2) f
  rw [zsum_congr (g := fun x => (-1) * f x) (fun x hx => by rw [h2 x hx]; omega), zsum_mul] at e
  omega
/-- polynomials that are alike but for sign and place -/
theorem zev_sh {f g : Int → Int} {p q : Nat} {ep : Int} (T : Int) (hf : zS12 f) (hg : zS12 g) (h : ∀ t, T ≤ t → t ^ p * zev f t 25 = ep * (t ^ q * zev g t 25)) : ∀ e : Int, f (e - p) = ep * g (e - q) := fun e => by
  by_cases k : 0 ≤ e ∧ e < ((25 + q + p : Nat) : Int)
  · refine zev_inj (f := fun e => f (e - p)) (g := fun e => ep * g (e - q)) (N := 25 + q + p) T (fun t ht => ?_) e k.1 k.2
    have e1 := zev_shift (t := t) hf.1 p (25 + q)
    have e2 := zev_shift (t := t) hg.1 q (25 + p)
    rw [e1, zev_mul, show 25 + q + p = 25 + p + q by omega, e2, zev_ext (M := 25) (fun j hj => hf.2 j (by omega)) (25 + q) (by omega), zev_ext (M := 25) (fun j hj => hg.2 j (by omega)) (25 + p) (by omega)]
    exact h t ht
  · rcases (show e < 0 ∨ ((25 + q + p : Nat) : Int) ≤ e by omega) with k2 | k2
    · rw [hf.1 _ (by omega), hg.1 _ (by omega), Int.mul_zero]
    · rw [hf.2 _ (by omega), hg.2 _ (by omega), Int.mul_zero]
theorem zrow_as {av f g : Int → Int} {mi ki lo fm p q ep : Int} (hf : zS12 f) (hg : zS12 g) (hep : ep = 1 ∨ ep = -1) (hfa : ∀ e, 0 ≤ e → e < 14 → av (14 * ki + e) = f e) (hga : ∀ e, 0 ≤ e → e < 14 → av (14 * mi + e) = g e) (h : ∀ e : Int, f (e - p) = ep * g (e - q)) (hlo : zLo av mi lo) (hl : lo < 14) (hfm : zLo av ki fm) : ∀ z, 0 ≤ z → zRw av ki fm z = ep * zRw av mi lo z := by
  have hR : ∀ (m l : Int) (F : Int → Int), zS12 F → (∀ e, 0 ≤ e → e < 14 → av (14 * m + e) = F e) → 0 ≤ l → ∀ z, 0 ≤ z → zRw av m l z = F (l + z) := fun m l F hF ha hl0 z hz => by
    by_cases k : z + l < 14
    · rw [zRw_p k, show 14 * m + l + z = 14 * m + (l + z) by omega]; exact ha _ (by omega) (by omega)
    · rw [zRw_n k, hF.2 _ (by omega)]
  have hg0 : g lo ≠ 0 := by rw [← hga lo hlo.1.1 hl]; exact hlo.2.2 hl
  have hgl : ∀ e, e < lo → g e = 0 := fun e he => by
    by_cases k : 0 ≤ e
    · rw [← hga e k (by omega)]; exact hlo.2.1 e k he
    · exact hg.1 e (by omega)
  -- the lowest place of f
  have hfl : f (lo + q - p) ≠ 0 := by
    have e1 := h (lo + q)
    rw [show lo + q - q = lo by omega] at e1
    rw [e1]
    rcases hep with k | k <;> subst k <;> omega
  have hfb : ∀ e, e < lo + q - p → f e = 0 := fun e he => by
    have e1 := h (e + p)
    rw [show e + p - p = e by omega, hgl _ (by omega), Int.mul_zero] at e1
    exact e1
  have hr : 0 ≤ lo + q - p ∧ lo + q - p < 14 := ⟨Int.not_lt.mp fun k => hfl (hf.1 _ k), Int.not_le.mp fun k => hfl (hf.2 _ (by omega))⟩
  have hfmE : fm = lo + q - p := by
    refine zLo_un hfm ⟨⟨hr.1, by omega⟩, fun e e1 e2 => ?_, fun _ => ?_⟩
    · rw [hfa e e1 (by omega)]; exact hfb e e2
    · rw [hfa _ hr.1 hr.2]; exact hfl
  intro z hz
  rw [hR ki fm f hf hfa hfm.1.1 z hz, hR mi lo g hg hga hlo.1.1 z hz, hfmE]
  have e1 := h (lo + q + z)
  rw [show lo + q + z - p = lo + q - p + z by omega, show lo + q + z - q = lo + z by omega] at e1
  exact e1
