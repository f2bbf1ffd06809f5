theorem zdt_sw2 {n : Nat} (A : Nat → Nat → Int) {p q : Nat} (hp : p < q) (h : q < n) : zdt n (zrr (zrr A p (A q)) q (A p)) = -zdt n A := by
  have D0 : ∀ x : Nat → Int, zdt n (zrr (zrr A p x) q x) = 0 := fun x => zdt_two hp h fun j _ => by
    show (if p = q then x j else if p = p then x j else A p j) = if q = q then x j else _
    rw [if_neg (by omega), if_pos rfl, if_pos rfl]
  have s1 : ∀ x y z : Nat → Int, zdt n (zrr (zrr A p x) q (fun j => y j + z j)) = zdt n (zrr (zrr A p x) q y) + zdt n (zrr (zrr A p x) q z) := fun x y z => zdt_l1 _ y z h
  have s2 : ∀ x y z : Nat → Int, zdt n (zrr (zrr A p (fun j => y j + z j)) q x) = zdt n (zrr (zrr A p y) q x) + zdt n (zrr (zrr A p z) q x) := fun x y z => by
    rw [zrr_rr (by omega), zdt_l1 _ y z (by omega), ← zrr_rr (show p ≠ q by omega), ← zrr_rr (show p ≠ q by omega)]
  have e := D0 (fun j => A p j + A q j)
  rw [s1, s2, s2, D0, D0] at e
  have e2 : zdt n (zrr (zrr A p (A p)) q (A q)) = zdt n A := zdt_congr fun i j _ _ => by
    show (if i = q then A q j else if i = p then A p j else A i j) = A i j
    by_cases k : i = q
    · rw [if_pos k, k]
    · rw [if_neg k]
      by_cases k2 : i = p
      · rw [if_pos k2, k2]
      · rw [if_neg k2]
  rw [e2] at e
  omega
theorem zdt_row0 {n r : Nat} {A : Nat → Nat → Int} (hr : r < n) (h : ∀ j, j < n → A r j = 0) : zdt n A = 0 := by
  have e := zdt_lin A (A r) (A r) 0 0 hr
  simp only [Int.zero_mul, Int.add_zero] at e
  rw [← e]
  refine zdt_congr fun i j hi hj => ?_
  show A i j = if i = r then 0 else A i j
  split
  · rename_i q; rw [q]; exact h j hj
  · rfl
/-- the next column depends on those before it: the determinant is 0 -/
theorem zdt_dep {N n : Nat} {X : Nat → Nat → Int} (hn : n < N) (hD : zdt n X ≠ 0) (h : ∀ k, n ≤ k → k < N → zbo X n k n = 0) : zdt N X = 0 := by
  -- the bordered minor, by its last row
  obtain ⟨c, hc⟩ := zbo_row (fun i j => X j i) n n
  have hb : ∀ k, zbo (fun i j => X j i) n n k = zbo X n k n := fun k => by
    unfold zbo
    rw [← zdt_tr]
  have hk : ∀ k, k < N → zdt n X * X k n + zsum (fun a => c a * X k a) n = 0 := fun k k1 => by
    have e := hc k
    rw [hb, zdt_tr] at e
    by_cases q : n ≤ k
    · rw [h k q k1] at e; exact e.symm
    · have z : zbo X n k n = 0 := by
        unfold zbo
        refine zdt_two (i := k) (l := n) (by omega) (Nat.lt_succ_self _) fun a _ => ?_
        show X (if k < n then k else k) (if a < n then a else n) = X (if n < n then n else k) (if a < n then a else n)
        rw [if_pos (by omega), if_neg (Nat.lt_irrefl n)]
      rw [z] at e; exact e.symm
  have f : zdt N (zrr (fun i j => X j i) n (fun b => zdt n X * X b n + zsum (fun a => c a * X b a) n)) = zdt n X * zdt N (fun i j => X j i) := zdt_rep (fun i j => X j i) hn (zdt n X) c n (Nat.le_refl _)
  rw [show zdt N (fun i j => X j i) = zdt N X from zdt_tr N X] at f
  have z : zdt N (zrr (fun i j => X j i) n (fun b => zdt n X * X b n + zsum (fun a => c a * X b a) n)) = 0 := zdt_row0 hn fun j hj => by
    show (if n = n then zdt n X * X j n + zsum (fun a => c a * X j a) n else X j n) = 0
    rw [if_pos rfl]; exact hk j hj
  rw [z] at f
  rcases Int.mul_eq_zero.mp f.symm with q | q
  · exact absurd q hD
  · exact q
abbrev zln (a b : Int) : Int → Int := zu (zu (fun _ => 0) 0 a) 1 b
theorem zln_pd (A B : Nat → Nat → Int) : zpd 1 A B = zln (A 0 0) (B 0 0) := funext fun e => by
  show (0 : Int) + zgn (0 + 0) * (A 0 0 * (if e = 0 then 1 else 0) + B 0 0 * (if e - 1 = 0 then 1 else 0)) = zu (zu (fun _ => 0) 0 (A 0 0)) 1 (B 0 0) e
  rw [show zgn (0 + 0) = 1 from rfl]
  by_cases q : e = 1
  · subst q; rw [zu_self, if_neg (by decide), if_pos (by decide)]; omega
  · rw [zu_ne _ _ q]
    by_cases q2 : e = 0
    · subst q2; rw [zu_self, if_pos rfl, if_neg (by decide)]; omega
    · rw [zu_ne _ _ q2, if_neg q2, if_neg (by omega)]; omega
/-- bordered, as polynomials -/
def zpb (A B : Nat → Nat → Int) (rh : Nat → Nat) (n i j : Nat) : Int → Int := zpd (n + 1) (fun a b => A (rh (if a < n then a else i)) (if b < n then b else j)) (fun a b => B (rh (if a < n then a else i)) (if b < n then b else j))
theorem zpb_ev {A B : Nat → Nat → Int} {rh : Nat → Nat} {n i j : Nat} (t : Int) (hn : n < 24) : zev (zpb A B rh n i j) t 25 = zbo (fun i j => A (rh i) j + B (rh i) j * t) n i j := zpd_ev t (by omega)
theorem zpb_12 {A B : Nat → Nat → Int} {rh : Nat → Nat} {n i j : Nat} (hn : n < 12) : zS12 (zpb A B rh n i j) := ⟨fun e he => zpd_out (Or.inl he), fun e he => zpd_out (Or.inr (by omega))⟩
theorem zpb_bd {A B : Nat → Nat → Int} {rh : Nat → Nat} {N n i j : Nat} (hN : N ≤ 12) (hn : n < N) (hi : i < N) (hj : n ≤ j ∧ j < N) (hrh : ∀ i, i < N → rh i < N) (hb : ∀ i, i < N → zsum (fun j => zab (A i j) + zab (B i j)) N ≤ 4) : zB (zpb A B rh n i j) := fun e => by
  have hr : ∀ a, a < n + 1 → zsum (fun b => zab (A (rh (if a < n then a else i)) (if b < n then b else j)) + zab (B (rh (if a < n then a else i)) (if b < n then b else j))) (n + 1) ≤ 4 := fun a ha => by
    have hra : rh (if a < n then a else i) < N := hrh _ (by split <;> omega)
    refine Int.le_trans ?_ (hb _ hra)
    generalize rh (if a < n then a else i) = r
    show zsum (fun b => zab (A r (if b < n then b else j)) + zab (B r (if b < n then b else j))) n + (zab (A r (if n < n then n else j)) + zab (B r (if n < n then n else j))) ≤ _
    rw [if_neg (Nat.lt_irrefl n), zsum_congr (g := fun b => zab (A r b) + zab (B r b)) (fun b hb2 => by rw [if_pos hb2])]
    have hnn : ∀ b, 0 ≤ zab (A r b) + zab (B r b) := fun b => by have := zab_nn (A r b); have := zab_nn (B r b); omega
    have key : ∀ M, j < M → n ≤ M → zsum (fun b => zab (A r b) + zab (B r b)) n + (zab (A r j) + zab (B r j)) ≤ zsum (fun b => zab (A r b) + zab (B r b)) M := by
      intro M
      induction M with
      | zero => intro h; omega
      | succ M ih =>
        intro h1 h2
        show _ ≤ zsum (fun b => zab (A r b) + zab (B r b)) M + (zab (A r M) + zab (B r M))
        by_cases q : j = M
        · rw [q]
          have mono : ∀ K, n ≤ K → zsum (fun b => zab (A r b) + zab (B r b)) n ≤ zsum (fun b => zab (A r b) + zab (B r b)) K := by
            intro K
            induction K with
            | zero => intro h; rw [show n = 0 by omega]; exact Int.le_refl _
            | succ K ih2 =>
              intro h
              by_cases e : n = K + 1
              · rw [e]; exact Int.le_refl _
              · have := ih2 (by omega)
                show _ ≤ zsum (fun b => zab (A r b) + zab (B r b)) K + (zab (A r K) + zab (B r K))
                have := hnn K
                omega
          have := mono M (by omega)
          omega
        · have := ih (by omega) (by omega)
          have := hnn M
          omega
    exact key N hj.2 (by omega)
  have h1 := zpd_bd (e := e) hr
  have h2 : (4 : Int) ^ (n + 1) ≤ 16777216 := by
    rcases (show n = 0 ∨ n = 1 ∨ n = 2 ∨ n = 3 ∨ n = 4 ∨ n = 5 ∨ n = 6 ∨ n = 7 ∨ n = 8 ∨ n = 9 ∨ n = 10 ∨ n = 11 by omega) with rfl | rfl | rfl | rfl | rfl | rfl | rfl | rfl | rfl | rfl | rfl | rfl <;> decide
  have h3 : zab (zpb A B rh n i j e) ≤ 16777216 := Int.le_trans h1 h2
  generalize zpb A B rh n i j e = x at h3
  have h4 : (if x < 0 then -x else x) ≤ 16777216 := h3
  split at h4 <;> omega
/-- what Bareiss' table is, n steps on -/
def zBI (A B : Nat → Nat → Int) (N n : Nat) (fc : Int → Int → Int) (pv : Int → Int) (o : Int) : Prop := ∃ rh : Nat → Nat, (∀ i, i < N → rh i < N) ∧ (o = 0 ∨ o = 1) ∧ (∀ t, zdt N (fun i j => A (rh i) j + B (rh i) j * t) = (if o = 0 then 1 else -1) * zdt N (fun i j => A i j + B i j * t)) ∧ (∀ i j : Nat, n ≤ i → i < N → n ≤ j → j < N → fc ((i : Int) * 12 + j) = zpb A B rh n i j) ∧ pv = zpd n (fun i j => A (rh i) j) (fun i j => B (rh i) j) ∧ ∃ T, ∀ t, T ≤ t → zdt n (fun i j => A (rh i) j + B (rh i) j * t) ≠ 0
theorem zBI_0 {A B : Nat → Nat → Int} {N : Nat} {fc : Int → Int → Int} (hf : ∀ i j : Nat, i < N → j < N → fc ((i : Int) * 12 + j) = zln (A i j) (B i j)) : zBI A B N 0 fc (zu (zu (fun _ => 0) 0 1) 1 0) 0 := by
  refine ⟨fun i => i, fun i hi => hi, Or.inl rfl, fun t => by rw [if_pos rfl, Int.one_mul], fun i j _ hi _ hj => ?_, ?_, 0, fun t _ => by show (1 : Int) ≠ 0; decide⟩
  · rw [hf i j hi hj]
    unfold zpb
    rw [zln_pd]
    rfl
  · funext e
    show zu (zu (fun _ => 0) 0 1) 1 0 e = if e = 0 then 1 else 0
    by_cases q : e = 1
    · subst q; rw [zu_self]; rfl
    · rw [zu_ne _ _ q]
      by_cases q2 : e = 0
      · subst q2; rw [zu_self, if_pos rfl]
      · rw [zu_ne _ _ q2, if_neg q2]
/-- with the pivot's row in its place -/
theorem zBI_piv {A B : Nat → Nat → Int} {N n : Nat} {fc fc2 : Int → Int → Int} {pv : Int → Int} {o o2 r : Int} (hN : N ≤ 12) (hn : n < N) (h : zBI A B N n fc pv o) (hp : zBp fc N n r fc2 o o2) : zBI A B N n fc2 pv o2 ∧ ∃ T, ∀ t, T ≤ t → ∀ rh : Nat → Nat, fc2 ((n : Int) * 12 + n) = zpb A B rh n n n → zdt (n + 1) (fun i j => A (rh i) j + B (rh i) j * t) ≠ 0 := by
  obtain ⟨rh, h1, h2, h3, h4, h5, T, h6⟩ := h
  obtain ⟨⟨r1, r2, ⟨je, hje⟩, r4⟩, hp⟩ := hp
  obtain ⟨s, rfl⟩ := Int.eq_ofNat_of_zero_le (show 0 ≤ r by omega)
  have hnz : ∀ f : Int → Int, f = fc (((s : Nat) : Int) * 12 + n) → zS12 f → ∃ T, ∀ t, T ≤ t → ¬ zev f t 25 = 0 := fun f hf h12 => by
    have hj : 0 ≤ je ∧ je < 25 := by
      have e1 : ¬ f je = 0 := by rw [hf]; exact hje
      exact ⟨Int.not_lt.mp fun q => e1 (h12.1 je q), Int.not_le.mp fun q => e1 (h12.2 je (by omega))⟩
    exact zev_nz 25 hj.1 hj.2 (by rw [hf]; exact hje)
  have hsn : fc (((s : Nat) : Int) * 12 + n) = zpb A B rh n s n := h4 s n (by omega) (by omega) (Nat.le_refl _) hn
  obtain ⟨T2, hT2⟩ := hnz _ hsn.symm (zpb_12 (by omega))
  have fin : fc2 ((n : Int) * 12 + n) = fc (((s : Nat) : Int) * 12 + n) → ∃ T, ∀ t, T ≤ t → ∀ rh : Nat → Nat, fc2 ((n : Int) * 12 + n) = zpb A B rh n n n → zdt (n + 1) (fun i j => A (rh i) j + B (rh i) j * t) ≠ 0 := fun he => ⟨T2, fun t ht rh2 hr => by
    have e1 := hT2 t ht
    rw [← hsn, ← he, hr, zpb_ev t (by omega), zbo_kk] at e1
    exact e1⟩
  rcases hp with ⟨p1, p2, p3⟩ | ⟨p1, p2, p3⟩
  · subst p2
    rw [p3]
    exact ⟨⟨rh, h1, h2, h3, h4, h5, T, h6⟩, fin (by rw [p1])⟩
  · have hsn2 : n < s := by omega
    have hz : ∀ i j : Nat, i < 12 → j < 12 → fc2 ((i : Int) * 12 + j) = fc (((if i = n then s else if i = s then n else i : Nat) : Int) * 12 + j) := fun i j hi hj => by
      rw [p2]
      show fc (zri s n ((i : Int) * 12 + j)) = _
      unfold zri
      rw [show ((i : Int) * 12 + j) / 12 = i by omega, show ((i : Int) * 12 + j) % 12 = j by omega]
      by_cases q : i = n
      · rw [if_pos (by omega), if_pos q]
      · rw [if_neg (by omega), if_neg q]
        by_cases q2 : i = s
        · rw [if_pos (by omega), if_pos q2]
        · rw [if_neg (by omega), if_neg q2]
    let w : Nat → Nat := fun i => if i = n then s else if i = s then n else i
    have hw : ∀ i, i < n → w i = i := fun i hi => by show (if i = n then s else if i = s then n else i) = i; rw [if_neg (by omega), if_neg (by omega)]
    have hwn : ∀ i, n ≤ i → n ≤ w i := fun i hi => by show n ≤ (if i = n then s else if i = s then n else i); (repeat' split) <;> omega
    have hwN : ∀ i, i < N → w i < N := fun i hi => by show (if i = n then s else if i = s then n else i) < N; (repeat' split) <;> omega
    have hf2 : fc2 ((n : Int) * 12 + n) = fc (((s : Nat) : Int) * 12 + n) := by rw [hz n n (by omega) (by omega), if_pos rfl]
    refine ⟨⟨fun i => rh (w i), fun i hi => h1 _ (hwN i hi), by omega, fun t => ?_, fun i j i1 i2 j1 j2 => ?_, ?_, T, fun t ht => ?_⟩, fin hf2⟩
    · have e := zdt_sw2 (fun i j => A (rh i) j + B (rh i) j * t) hsn2 (show s < N by omega)
      have e2 : zdt N (fun i j => A (rh (w i)) j + B (rh (w i)) j * t) = zdt N (zrr (zrr (fun i j => A (rh i) j + B (rh i) j * t) n (fun j => A (rh s) j + B (rh s) j * t)) s (fun j => A (rh n) j + B (rh n) j * t)) := zdt_congr fun i j _ _ => by
        show A (rh (if i = n then s else if i = s then n else i)) j + B (rh (if i = n then s else if i = s then n else i)) j * t = if i = s then A (rh n) j + B (rh n) j * t else if i = n then A (rh s) j + B (rh s) j * t else A (rh i) j + B (rh i) j * t
        by_cases q : i = n
        · rw [if_pos q, if_neg (by omega), if_pos q]
        · rw [if_neg q, if_neg q]
          by_cases q2 : i = s
          · rw [if_pos q2, if_pos q2]
          · rw [if_neg q2, if_neg q2]
      rw [e2, e, h3 t, p3]
      rcases h2 with q | q <;> subst q
      · rw [if_pos rfl, if_neg (by decide)]; omega
      · rw [if_neg (by decide), if_pos (by decide)]; omega
    · rw [hz i j (by omega) (by omega)]
      rw [h4 _ j (hwn i i1) (hwN i i2) j1 j2]
      refine funext fun e => zpd_congr fun a b _ _ => ?_
      show A (rh (if a < n then a else w i)) _ = A (rh (w (if a < n then a else i))) _ ∧ B (rh (if a < n then a else w i)) _ = B (rh (w (if a < n then a else i))) _
      by_cases q : a < n
      · rw [if_pos q, if_pos q, hw a q]; exact ⟨rfl, rfl⟩
      · rw [if_neg q, if_neg q]; exact ⟨rfl, rfl⟩
    · rw [h5]
      exact funext fun e => zpd_congr fun a b ha _ => by show A (rh a) b = A (rh (w a)) b ∧ B (rh a) b = B (rh (w a)) b; rw [hw a ha]; exact ⟨rfl, rfl⟩
    · have e : zdt n (fun i j => A (rh (w i)) j + B (rh (w i)) j * t) = zdt n (fun i j => A (rh i) j + B (rh i) j * t) := zdt_congr fun a b ha _ => by rw [hw a ha]
      rw [e]; exact h6 t ht
/-- the quotients are the next bordered minors -/
theorem zBI_syl {A B : Nat → Nat → Int} {N n : Nat} {fc : Int → Int → Int} {pv : Int → Int} {o : Int} {rh : Nat → Nat} (hN : N ≤ 12) (hn : n < N) (h4 : ∀ i j : Nat, n ≤ i → i < N → n ≤ j → j < N → fc ((i : Int) * 12 + j) = zpb A B rh n i j) (h5 : pv = zpd n (fun i j => A (rh i) j) (fun i j => B (rh i) j)) {t : Int} (h6 : zdt n (fun i j => A (rh i) j + B (rh i) j * t) ≠ 0) {r c : Nat} (hr : n < r ∧ r < N) (hc : n < c ∧ c < N) : zev (fun j => zcv (fc ((n : Int) * 12 + n)) (fc ((r : Int) * 12 + c)) j 25 - zcv (fc ((r : Int) * 12 + n)) (fc ((n : Int) * 12 + c)) j 25) t 25 = zev (zpb A B rh (n + 1) r c) t 25 * zev pv t 25 := by
  have k := @zpb_12 A B rh n
  rw [h4 n n (Nat.le_refl _) hn (Nat.le_refl _) hn, h4 r c (by omega) hr.2 (by omega) hc.2, h4 r n (by omega) hr.2 (Nat.le_refl _) hn, h4 n c (Nat.le_refl _) hn (by omega) hc.2]
  rw [zev_sub, zcv_ev (k (by omega)) (k (by omega)), zcv_ev (k (by omega)) (k (by omega)), zpb_ev t (by omega), zpb_ev t (by omega), zpb_ev t (by omega), zpb_ev t (by omega), zpb_ev t (by omega), h5, zpd_ev t (show n < 25 by omega), ← zbo_syl h6, Int.mul_comm]
theorem zBI_q {A B : Nat → Nat → Int} {N n : Nat} {fc : Int → Int → Int} {pv : Int → Int} {o : Int} (hN : N ≤ 12) (hn : n < N) (hb : ∀ i, i < N → zsum (fun j => zab (A i j) + zab (B i j)) N ≤ 4) (h : zBI A B N n fc pv o) : ∃ Qt dQ, zBq fc pv n N Qt dQ := by
  obtain ⟨rh, h1, h2, h3, h4, h5, T, h6⟩ := h
  have hd : ∀ r c : Nat, ∃ d : Int, n < r → r < N → n < c → c < N → zD (zpb A B rh (n + 1) r c) d ∧ d ≤ 12 := fun r c => by
    by_cases q : n + 1 < 12
    · obtain ⟨d, d1, d2⟩ := zD_ex (zpb_12 (A := A) (B := B) (rh := rh) (i := r) (j := c) q)
      exact ⟨d, fun _ _ _ _ => ⟨d1, d2⟩⟩
    · exact ⟨0, fun _ _ _ _ => by omega⟩
  obtain ⟨dq, hdq⟩ := Classical.axiomOfChoice (fun r => Classical.axiomOfChoice (hd r))
  have hp12 : zS12 pv := by rw [h5]; exact ⟨fun e he => zpd_out (Or.inl he), fun e he => zpd_out (Or.inr (by omega))⟩
  refine ⟨fun r c => zpb A B rh (n + 1) r.toNat c.toNat, fun r c => dq r.toNat c.toNat, fun r c r1 r2 c1 c2 => ?_⟩
  obtain ⟨r, rfl⟩ := Int.eq_ofNat_of_zero_le (show 0 ≤ r by omega)
  obtain ⟨c, rfl⟩ := Int.eq_ofNat_of_zero_le (show 0 ≤ c by omega)
  simp only [Int.toNat_natCast]
  have hq12 := zpb_12 (A := A) (B := B) (rh := rh) (n := n + 1) (i := r) (j := c) (by omega)
  obtain ⟨d1, d2⟩ := hdq r c (by omega) (by omega) (by omega) (by omega)
  refine ⟨d1, d2, zpb_bd hN (by omega) (by omega) ⟨by omega, by omega⟩ h1 hb, fun j => ?_⟩
  by_cases q : 0 ≤ j ∧ j < 25
  · have := zev_inj (f := fun j => zcv (fc ((n : Int) * 12 + n)) (fc ((r : Int) * 12 + c)) j 25 - zcv (fc ((r : Int) * 12 + n)) (fc ((n : Int) * 12 + c)) j 25) (g := fun j => zcv (zpb A B rh (n + 1) r c) pv j 25) (N := 25) T (fun t ht => by rw [zcv_ev hq12 hp12]; exact zBI_syl (o := o) hN hn h4 h5 (h6 t ht) ⟨by omega, by omega⟩ ⟨by omega, by omega⟩) j q.1 (by omega)
    exact this
  · have k := @zpb_12 A B rh n
    rw [h4 n n (Nat.le_refl _) hn (Nat.le_refl _) hn, h4 r c (by omega) (by omega) (by omega) (by omega), h4 r n (by omega) (by omega) (Nat.le_refl _) hn, h4 n c (Nat.le_refl _) hn (by omega) (by omega), zcv_o12 (k (by omega)) (k (by omega)) (by omega), zcv_o12 (k (by omega)) (k (by omega)) (by omega), zcv_o12 hq12 hp12 (by omega)]
    rfl
theorem zBI_s {A B : Nat → Nat → Int} {N n : Nat} {fc fc2 : Int → Int → Int} {pv : Int → Int} {o : Int} {Qt : Int → Int → Int → Int} {dQ : Int → Int → Int} (hN : N ≤ 12) (hn : n < N) (h : zBI A B N n fc pv o) (hnz : ∃ T, ∀ t, T ≤ t → ∀ rh : Nat → Nat, fc ((n : Int) * 12 + n) = zpb A B rh n n n → zdt (n + 1) (fun i j => A (rh i) j + B (rh i) j * t) ≠ 0) (hq : zBq fc pv n N Qt dQ) (hf : fc2 = zup2 n N (n + 1) N Qt fc) : zBI A B N (n + 1) fc2 (fc ((n : Int) * 12 + n)) o := by
  obtain ⟨rh, h1, h2, h3, h4, h5, T, h6⟩ := h
  obtain ⟨T2, hT2⟩ := hnz
  have hnn := h4 n n (Nat.le_refl _) hn (Nat.le_refl _) hn
  have hp12 : zS12 pv := by rw [h5]; exact ⟨fun e he => zpd_out (Or.inl he), fun e he => zpd_out (Or.inr (by omega))⟩
  refine ⟨rh, h1, h2, h3, fun r c r1 r2 c1 c2 => ?_, ?_, T2, fun t ht => hT2 t ht rh hnn⟩
  · have hz := hq r c (by omega) (by omega) (by omega) (by omega)
    have hq12 := zpb_12 (A := A) (B := B) (rh := rh) (n := n + 1) (i := r) (j := c) (by omega)
    have hQ12 : zS12 (Qt r c) := ⟨hz.1.2.2.2.1, fun j hj => hz.1.2.2.1 j (by have := hz.2.1; omega)⟩
    rw [hf]
    show zup2 n N (n + 1) N Qt fc ((r : Int) * 12 + c) = _
    unfold zup2
    rw [show ((r : Int) * 12 + c) / 12 = r by omega, show ((r : Int) * 12 + c) % 12 = c by omega, if_pos (by omega)]
    funext e
    by_cases q : 0 ≤ e ∧ e < 25
    · refine zev_inj (N := 25) T (fun t ht => ?_) e q.1 (by omega)
      have e1 := zBI_syl (o := o) (r := r) (c := c) hN hn h4 h5 (h6 t ht) ⟨by omega, by omega⟩ ⟨by omega, by omega⟩
      rw [zev_congr (g := fun j => zcv (Qt r c) pv j 25) (fun j _ _ => hz.2.2.2 j), zcv_ev hQ12 hp12] at e1
      have e2 : zev pv t 25 ≠ 0 := by rw [h5, zpd_ev t (show n < 25 by omega)]; exact h6 t ht
      exact Int.eq_of_mul_eq_mul_right e2 e1
    · rcases (show e < 0 ∨ 12 < e by omega) with q2 | q2
      · rw [hQ12.1 e q2, hq12.1 e q2]
      · rw [hQ12.2 e q2, hq12.2 e q2]
  · rw [hnn]
    refine funext fun e => zpd_congr fun a b ha hb => ?_
    show A (rh (if a < n then a else n)) (if b < n then b else n) = A (rh a) b ∧ B (rh (if a < n then a else n)) (if b < n then b else n) = B (rh a) b
    rw [show (if a < n then a else n) = a by split <;> omega, show (if b < n then b else n) = b by split <;> omega]
    exact ⟨rfl, rfl⟩
theorem zBI_all {A B : Nat → Nat → Int} {N : Nat} {fc0 : Int → Int → Int} (hN : N ≤ 12) (hf : ∀ i j : Nat, i < N → j < N → fc0 ((i : Int) * 12 + j) = zln (A i j) (B i j)) : ∀ (n : Nat) {fc : Int → Int → Int} {pv : Int → Int} {o : Int}, n ≤ N → zBr fc0 N n fc pv o → zBI A B N n fc pv o
  | 0, fc, pv, o, _, h => by
    obtain ⟨e1, e2, e3⟩ := h
    subst e1; subst e2; subst e3
    exact zBI_0 hf
  | n + 1, fc, pv, o, hn, h => by
    obtain ⟨fc1, pv1, o1, r, fc2, Qt, dQ, a1, a2, a3, a4, a5⟩ := h
    have i1 := zBI_all hN hf n (by omega) a1
    have i2 := zBI_piv hN (by omega) i1 a2
    rw [a5]
    exact zBI_s hN (by omega) i2.1 i2.2 a3 a4
/-- Bareiss' answer is the determinant -/
theorem zBo_pd {A B : Nat → Nat → Int} {N : Nat} {fc0 : Int → Int → Int} {res : Int → Int} (hN : N ≤ 12) (hf : ∀ i j : Nat, i < N → j < N → fc0 ((i : Int) * 12 + j) = zln (A i j) (B i j)) (h : zBo fc0 N res) : res = zpd N A B := by
  have h12 : zS12 (zpd N A B) := ⟨fun e he => zpd_out (Or.inl he), fun e he => zpd_out (Or.inr (by omega))⟩
  rcases h with ⟨n, fc1, pv, o, hn, hb, hz, hr⟩ | ⟨fc1, pv, o, hb, hr⟩
  · obtain ⟨rh, h1, h2, h3, h4, h5, T, h6⟩ := zBI_all hN hf n (by omega) hb
    rw [hr]
    funext e
    by_cases q : 0 ≤ e ∧ e < 25
    · refine (zev_inj (f := fun _ => 0) (g := zpd N A B) (N := 25) T (fun t ht => ?_) e q.1 (by omega))
      rw [zpd_ev t (show N < 25 by omega), show zev (fun _ => 0) t 25 = 0 from zsum_zero fun i _ => Int.zero_mul _]
      have e1 := zdt_dep (N := N) (n := n) (X := fun i j => A (rh i) j + B (rh i) j * t) (by omega) (h6 t ht) (fun k k1 k2 => by
        have e2 := hz k (by omega) (by omega)
        have e3 := h4 k n k1 k2 (Nat.le_refl _) (by omega)
        rw [← zpb_ev t (by omega), ← e3]
        exact zsum_zero fun i _ => by rw [e2, Int.zero_mul])
      rw [h3 t] at e1
      rcases h2 with q | q <;> subst q
      · rw [if_pos rfl] at e1; omega
      · rw [if_neg (by decide)] at e1; omega
    · rcases (show e < 0 ∨ 12 < e by omega) with q2 | q2
      · rw [h12.1 e q2]
      · rw [h12.2 e q2]
  · rw [Int.toNat_natCast] at hb
    obtain ⟨rh, h1, h2, h3, h4, h5, T, h6⟩ := zBI_all hN hf N (Nat.le_refl _) hb
    rw [hr]
    funext e
    by_cases q : 0 ≤ e ∧ e < 25
    · refine (zev_inj (f := fun j => (if o = 0 then 1 else -1) * pv j) (g := zpd N A B) (N := 25) T (fun t ht => ?_) e q.1 (by omega))
      rw [zev_mul, h5, zpd_ev t (show N < 25 by omega), zpd_ev t (show N < 25 by omega), h3 t]
      rcases h2 with q | q <;> subst q
      · rw [if_pos rfl]; omega
      · rw [if_neg (by decide)]; omega
    · rw [h5]
      rcases (show e < 0 ∨ 12 < e by omega) with q2 | q2
      · rw [h12.1 e q2, zpd_out (Or.inl q2), Int.mul_zero]
      · rw [h12.2 e q2, zpd_out (Or.inr (by omega)), Int.mul_zero]
