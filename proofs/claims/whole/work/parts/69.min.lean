/-- no more arcs than the class has room for -/
theorem zOkD_of {sg lb : Int → Int} {n : Int} (hn : 0 ≤ n ∧ n ≤ 12) (hi : ∀ j, inI (lb j)) (hG : zGd sg lb (4 * n)) (hp : ∀ x, 0 ≤ x → x < 4 * n → 1 ≤ lb x) : zOkD n sg lb := by
  refine ⟨hp, fun t0 ht c' ls' hs hm => ?_⟩
  obtain ⟨f, c, hL⟩ := zLs_ex hi (4 * n).toNat
  rw [show (((4 * n).toNat : Nat) : Int) = 4 * n by omega] at hL
  have hc := zLs_2n hn.1 hG hL
  have hmem : ∀ j : Nat, ∃ i : Nat, (j : Int) < c' → (i : Int) < c ∧ f (i : Int) = ls' (j : Int) := fun j => by
    by_cases q : (j : Int) < c'
    · obtain ⟨x, x1, x2, x3⟩ := hm j (by omega) q
      have ha := (zja_ao (sg := sg) hn.1 ht x x1 x2).1
      rw [x3] at ha
      obtain ⟨i, i1, i2, i3⟩ := (hL.2.1 (ls' (j : Int))).mpr ha
      exact ⟨i.toNat, fun _ => ⟨by omega, by rw [show ((i.toNat : Nat) : Int) = i by omega]; exact i3⟩⟩
    · exact ⟨0, fun h => absurd h q⟩
  obtain ⟨g, hg⟩ := Classical.axiomOfChoice hmem
  have h := zsum_inj (N := c'.toNat) (n := c.toNat) (f := fun _ => 1) (q := fun _ => 1) (g := g) (fun _ _ => Or.inr rfl) (fun x hx _ => ⟨by have := (hg x (by omega)).1; omega, Int.le_refl _⟩) (fun _ _ => by decide) (fun x y hx hy _ _ he => by
    have e1 := (hg x (by omega)).2
    have e2 := (hg y (by omega)).2
    rw [he, e2] at e1
    have := zSr_inj hs (i := (x : Int)) (j := (y : Int)) ⟨by omega, by omega⟩ ⟨by omega, by omega⟩ e1.symm
    omega)
  rw [zone, zone] at h
  omega
/-- the class's table -/
abbrev zRows (sg N : Int → Int) (n : Int) (F G : Int → Int → Int) : Prop := ∀ k, 0 ≤ k → k < n → ∀ a, F k a = zeO sg N k a ∧ G k a = zeT sg N k a
theorem zMx_ln {sg N : Int → Int} {F G fc : Int → Int → Int} {n cc lr lc : Int} {M : Nat} (hF : zRows sg N n F G) (hlr : -1 ≤ lr ∧ lr < n) (hlc : 0 ≤ lc ∧ lc < cc) (hM : (M : Int) = cc - 1) (hod : (if lr < 0 then n else n - 1) = cc - 1) (hm : zMx F G n cc lr lc M fc) : ∀ i j : Nat, i < M → j < M → fc ((i : Int) * 12 + j) = zln (zeO sg N (((zsr lr i).toNat : Nat) : Int) (zkp lc.toNat j)) (zeT sg N (((zsr lr i).toNat : Nat) : Int) (zkp lc.toNat j)) := fun i j hi hj => by
  rw [hm i j (by omega) (by omega) (by omega) (by omega)]
  unfold zMe
  have hr : 0 ≤ zsr lr i ∧ zsr lr i < n := by
    unfold zsr
    split at hod
    · split <;> omega
    · split <;> omega
  have hc : 0 ≤ zsc lc j ∧ zsc lc j < cc := by unfold zsc; split <;> omega
  have hk : ((zkp lc.toNat j : Nat) : Int) = zsc lc j := by unfold zkp zsc; by_cases q : j < lc.toNat; rw [if_pos q, if_neg (by omega)]; rw [if_neg q, if_pos (by omega)]; omega
  have e := hF _ hr.1 hr.2 (zsc lc j)
  rw [show (((zsr lr i).toNat : Nat) : Int) = zsr lr i by omega, hk, ← e.1, ← e.2]
  unfold zat
  rw [if_pos ⟨hr.1, hr.2, hc.1, hc.2⟩, if_pos ⟨hr.1, hr.2, hc.1, hc.2⟩]
theorem zrowM (sg N : Int → Int) (rh : Nat → Nat) (a M i : Nat) : zsum (fun j => zab (zeO sg N (rh i) (zkp a j)) + zab (zeT sg N (rh i) (zkp a j))) M ≤ 4 := by
  have k1 := (zsum_kp (f := fun j => zab (zeO sg N (rh i) j) + zab (zeT sg N (rh i) j)) (j := a) (fun b => by have := zab_nn (zeO sg N (rh i) b); have := zab_nn (zeT sg N (rh i) b); omega) M).1
  exact Int.le_trans k1 (zrow4 sg N (rh i) (M + 1))
theorem zHok_of {sg N : Int → Int} {F G : Int → Int → Int} {n cc : Int} (hn : 0 ≤ n ∧ n ≤ 12) (hF : zRows sg N n F G) : zHok F G n cc := by
  intro lr lc od fc hlr hlc hod1 hod2 hm k fcA pv oA r fcB oB hk hbr hbp
  obtain ⟨M, rfl⟩ := Int.eq_ofNat_of_zero_le (show 0 ≤ od by omega)
  have hM12 : M ≤ 12 := by split at hod1 <;> omega
  have hln := zMx_ln hF hlr hlc hod2 (by rw [← hod1, ← hod2]) hm
  have i1 := zBI_all (A := fun i j => zeO sg N (((zsr lr i).toNat : Nat) : Int) (zkp lc.toNat j)) (B := fun i j => zeT sg N (((zsr lr i).toNat : Nat) : Int) (zkp lc.toNat j)) hM12 hln k (by omega) hbr
  exact zBI_q hM12 (by omega) (fun i _ => zrowM sg N (fun i => (zsr lr i).toNat) lc.toNat M i) (zBI_piv hM12 (by omega) i1 hbp).1
theorem zTk_mP {sg N res : Int → Int} {F G : Int → Int → Int} {n cc lr lc : Int} (hn : 0 ≤ n ∧ n ≤ 12) (hF : zRows sg N n F G) (h : zTk F G n cc lr lc res) : (((-1 ≤ lr ∧ lr < n) ∧ (0 ≤ lc ∧ lc < cc) ∧ (if lr < 0 then n else n - 1) = cc - 1) ∧ res = zmP sg N (cc - 1).toNat (fun i => (zsr lr i).toNat) lc.toNat) ∨ (¬ ((-1 ≤ lr ∧ lr < n) ∧ (0 ≤ lc ∧ lc < cc) ∧ (if lr < 0 then n else n - 1) = cc - 1) ∧ res = fun _ => 0) := by
  rcases h with ⟨h1, h2, h3, fc, h4, h5⟩ | h
  · left
    refine ⟨⟨h1, h2, h3⟩, ?_⟩
    obtain ⟨M, hM⟩ := Int.eq_ofNat_of_zero_le (show 0 ≤ cc - 1 by omega)
    have hM12 : M ≤ 12 := by split at h3 <;> omega
    rw [hM] at h4 h5
    have hln := zMx_ln hF h1 h2 hM.symm h3 h4
    have e := zBo_pd (A := fun i j => zeO sg N (((zsr lr i).toNat : Nat) : Int) (zkp lc.toNat j)) (B := fun i j => zeT sg N (((zsr lr i).toNat : Nat) : Int) (zkp lc.toNat j)) hM12 hln h5
    rw [e, hM, Int.toNat_natCast]
    rfl
  · exact Or.inr h
theorem zTk_bd {sg N res : Int → Int} {F G : Int → Int → Int} {n cc lr lc : Int} (hn : 0 ≤ n ∧ n ≤ 12) (hF : zRows sg N n F G) (h : zTk F G n cc lr lc res) : zS12 res ∧ ∀ j, -9223372036854775807 ≤ res j ∧ res j < 9223372036854775808 := by
  rcases zTk_mP hn hF h with ⟨h1, e⟩ | ⟨_, e⟩
  · have h12 : (cc - 1).toNat ≤ 12 := by have := h1.2.2; split at this <;> omega
    rw [e]
    exact ⟨zmP_12 h12, fun j => by have := zmP_bd (sg := sg) (N := N) (rh := fun i => (zsr lr i).toNat) (a := lc.toNat) h12 j; omega⟩
  · rw [e]; exact ⟨⟨fun _ _ => rfl, fun _ _ => rfl⟩, fun _ => ⟨(show (-9223372036854775807 : Int) ≤ 0 by decide), (show (0 : Int) < 9223372036854775808 by decide)⟩⟩
/-- the model's minor and the class's -/
theorem zmin_eq {sg N on tw av res : Int → Int} {F G : Int → Int → Int} {n cc mns k a e : Int} (hn : 0 ≤ n ∧ n ≤ 12) (hF : zRows sg N n F G) (hFi : zFi sg N n on tw) (hge : n ≤ cc) (hMn : zMn n cc on tw mns av) (h : zTk F G n cc k a res) (he : 0 ≤ e ∧ e < 14) : (if (0 ≤ a ∧ a < cc) ∧ (-1 ≤ k ∧ k < n) ∧ ¬ mns = 0 ∧ (cc = n + 1 ↔ k = -1) then av (14 * (if cc = n + 1 then a else cc * k + a) + e) else 0) = res e := by
  rcases hMn with ⟨m1, m2⟩ | ⟨m0, m1, m2, m3⟩ | ⟨m0, m1, m2, m3⟩
  · rw [if_neg (fun z => z.2.2.1 m2)]
    rcases zTk_mP hn hF h with ⟨⟨h1, h2, h3⟩, _⟩ | ⟨_, e1⟩
    · exfalso; split at h3 <;> omega
    · rw [e1]
  · rcases zTk_mP hn hF h with ⟨⟨h1, h2, h3⟩, e1⟩ | ⟨h1, e1⟩
    · have hk : k = -1 := by split at h3 <;> omega
      rw [if_pos ⟨h2, h1, by omega, by omega⟩, if_pos m1, e1]
      have z := m3 (-1) a e (Int.le_refl _) h2.1 h2.2 he.1 he.2 (Or.inl (by omega))
      rw [show (-1 : Int) - -1 = 0 by omega, Int.mul_zero, Int.zero_add] at z
      rw [z, hk]
      exact zav_mP (av := av) hn hFi m0.2 h2 (by rw [zdn_eq, if_neg (by omega)]; omega) ⟨by omega, by omega⟩ e
    · rw [e1, if_neg]
      intro z
      refine h1 ⟨z.2.1, z.1, ?_⟩
      rw [if_pos (by have := z.2.2.2.mp m1; omega)]; omega
  · have hmn : ¬ mns = 0 := by rw [m2]; have := Int.mul_pos (show 0 < cc by omega) (show 0 < n by omega); omega
    rcases zTk_mP hn hF h with ⟨⟨h1, h2, h3⟩, e1⟩ | ⟨h1, e1⟩
    · have hk : 0 ≤ k := by split at h3 <;> omega
      rw [if_pos ⟨h2, h1, hmn, by omega⟩, if_neg (by omega), e1]
      have z := m3 k a e hk h2.1 h2.2 he.1 he.2 (Or.inl h1.2)
      rw [Int.sub_zero] at z
      rw [z]
      exact zav_mP (av := av) hn hFi (by omega) h2 (by rw [zdn_eq, if_pos (by omega)]; omega) ⟨by omega, h1.2⟩ e
    · rw [e1, if_neg]
      intro z
      refine h1 ⟨z.2.1, z.1, ?_⟩
      have hk : ¬ k = -1 := fun q => by have := z.2.2.2.mpr q; omega
      rw [if_neg (by omega)]; omega
/-- the two normal forms -/
theorem znf_eq {sg N on tw av po fn : Int → Int} {F G : Int → Int → Int} {n cc mns : Int} (hn : 0 ≤ n ∧ n ≤ 12) (hF : zRows sg N n F G) (hFi : zFi sg N n on tw) (hge : n ≤ cc) (hMn : zMn n cc on tw mns av) (hPp : zPp mns av po) (hQ : zQq mns av) (h : zNF F G n cc fn) : (∀ e, 0 ≤ e → e < 14 → po e = fn e) ∧ zS12 fn := by
  obtain ⟨res, d2, lw, h1, h2, h3, h4, h5, rfl⟩ := h
  have h12 := (zTk_bd hn hF h1).1
  have hS : zS12 (fun j => zsg (res lw) * res (j + lw)) := by
    refine ⟨fun j hj => ?_, fun j hj => ?_⟩
    · show zsg (res lw) * res (j + lw) = 0
      rw [h4 (j + lw) (by omega), Int.mul_zero]
    · show zsg (res lw) * res (j + lw) = 0
      rw [h12.2 (j + lw) (by omega), Int.mul_zero]
  refine ⟨fun e e1 e2 => ?_, hS⟩
  show po e = zsg (res lw) * res (e + lw)
  -- the class's minor is the model's first
  have h0 : ∀ e, 0 ≤ e → e < 14 → 0 < mns → res e = av (14 * 0 + e) := fun e e1 e2 hm => by
    rw [← zmin_eq hn hF hFi hge hMn h1 ⟨e1, e2⟩]
    have hb := hMn
    rcases hMn with ⟨m1, m2⟩ | ⟨m0, m1, m2, m3⟩ | ⟨m0, m1, m2, m3⟩
    · omega
    · rw [if_neg (show ¬ n = cc by omega), if_pos ⟨⟨by omega, by omega⟩, ⟨by omega, by omega⟩, by omega, by omega⟩, if_pos m1]
    · rw [if_pos m1.symm, if_pos ⟨⟨by omega, by omega⟩, ⟨by omega, by omega⟩, by omega, by omega⟩, if_neg (by omega), Int.mul_zero]; rfl
  have hz : mns ≤ 0 → ∀ j, res j = 0 := fun hm j => by
    by_cases q : 0 ≤ j ∧ j < 14
    · have z := zmin_eq hn hF hFi hge hMn h1 q
      rw [← z, if_neg]
      intro w
      have := zMn_b hMn hn
      exact w.2.2.1 (by omega)
    · by_cases q2 : j < 0
      · exact h12.1 j q2
      · exact h12.2 j (by omega)
  rcases hPp with ⟨p1, p2⟩ | ⟨m0, lo, p1, p2, p3, p4, sv, p5, p6⟩
  · rw [p1 e e1 e2]
    have hr : ∀ j, res j = 0 := fun j => by
      by_cases hm : 0 < mns
      · by_cases q : 0 ≤ j ∧ j < 14
        · rw [h0 j q.1 q.2 hm]; exact (p2 0 (Int.le_refl _) hm).2.1 j q.1 q.2
        · by_cases q2 : j < 0
          · exact h12.1 j q2
          · exact h12.2 j (by omega)
      · exact hz (by omega) j
    rw [hr (e + lw), Int.mul_zero]
  · -- the first is no 0
    have hm : 0 < mns := by omega
    have hm0 : m0 = 0 := by
      by_cases q : m0 = 0
      · exact q
      · have z := p2 0 (Int.le_refl _) (by omega)
        obtain ⟨q0, q1, q2⟩ := hQ.2 m0 0 lo 14 p1.1 p1.2 (Int.le_refl _) hm p3 p4 z
        have e3 := q2 0 (Int.le_refl _) (by decide)
        rw [zRw_n (by decide), zRw_p (by omega), Int.add_zero] at e3
        have := p3.2.2 p4
        rcases q1 with q1 | q1 <;> subst q1 <;> omega
    subst hm0
    have hlo := p3.1
    have hlw : lw = lo := by
      have a1 : res lo ≠ 0 := by rw [h0 lo hlo.1 p4 hm]; exact p3.2.2 p4
      by_cases q : lo < lw
      · exact absurd (h4 lo q) a1
      · by_cases q2 : lw < lo
        · have hd : 0 ≤ d2 := Int.not_lt.mp fun k => a1 (h2.2.2.1 lo (by omega))
          have := h5 hd
          rw [h0 lw h3.1 (by omega) hm] at this
          exact absurd (p3.2.1 lw h3.1 q2) this
        · omega
    rw [p6 e e1 e2, hlw]
    have hsv : zsg (res lo) = sv := by
      rw [h0 lo hlo.1 p4 hm]
      unfold zsg
      rcases p5 with ⟨a1, a2⟩ | ⟨a1, a2⟩
      · rw [if_neg (by omega), a1]
      · rw [if_pos a2, a1]
    rw [hsv]
    by_cases q : e < 14 - lo
    · rw [if_pos q, h0 (e + lo) (by omega) (by omega) hm, show 14 * 0 + lo + e = 14 * 0 + (e + lo) by omega]
    · rw [if_neg q, h12.2 _ (by omega), Int.mul_zero]
theorem zhor_ev (f : Int → Int) (t : Int) : ∀ (k : Nat) (e : Int), zhor f t e k = zev (fun j => f (j + e)) t k
  | 0, _ => rfl
  | k + 1, e => by
    show f e + t * zhor f t (e + 1) k = _
    rw [zev_head, zhor_ev f t k (e + 1), Int.zero_add]
    congr 2
    exact zev_congr fun j _ _ => by rw [show j + 1 + e = j + (e + 1) by omega]
theorem zvl_ev (po : Int → Int) (t : Int) : ∀ k : Nat, k ≤ 14 → zvl po t k = zev (fun j => po (j + (14 - k))) t k
  | 0, _ => rfl
  | k + 1, h => by
    show t * zvl po t k + po (13 - k) = _
    rw [zev_head, zvl_ev po t k (by omega), Int.add_comm, show (0 : Int) + (14 - ((k + 1 : Nat) : Int)) = 13 - k by omega]
    congr 2
    exact zev_congr fun j _ _ => by rw [show j + 1 + (14 - ((k + 1 : Nat) : Int)) = j + (14 - k) by omega]
/-- degree and values -/
theorem zdeg_eq {po fn : Int → Int} {d r : Int} (h : ∀ e, 0 ≤ e → e < 14 → po e = fn e) (h12 : zS12 fn) (hd : zD fn d) (hr : (-1 ≤ r ∧ r ≤ 13) ∧ (∀ e, r < e → e < 14 → po e = 0) ∧ (0 ≤ r → ¬ po r = 0)) : d = r := by
  obtain ⟨d1, d2, d3, d4, d5⟩ := hd
  by_cases q : d < r
  · have := d3 r q; rw [← h r (by omega) (by omega)] at this; exact absurd this (hr.2.2 (by omega))
  · by_cases q2 : r < d
    · have hd0 := d5 (by omega)
      by_cases q3 : d < 14
      · rw [← h d (by omega) q3] at hd0; exact absurd (hr.2.1 d q2 q3) hd0
      · exact absurd (h12.2 d (by omega)) hd0
    · omega
theorem zval_eq {po fn : Int → Int} {d : Int} (h : ∀ e, 0 ≤ e → e < 14 → po e = fn e) (h12 : zS12 fn) (hd : zD fn d) (t : Int) : zhor fn t 0 (d + 1).toNat = zvl po t 14 := by
  rw [zhor_ev, zvl_ev po t 14 (by omega)]
  obtain ⟨d1, d2, d3, d4, d5⟩ := hd
  rw [zev_congr (f := fun j => fn (j + 0)) (g := fn) (fun j _ _ => by rw [Int.add_zero]), zev_congr (f := fun j => po (j + (14 - ((14 : Nat) : Int)))) (g := fn) (fun j j1 j2 => by rw [show j + (14 - ((14 : Nat) : Int)) = j by omega]; exact h j j1 (by omega))]
  rw [← zev_ext (M := (d + 1).toNat) (fun j hj => d3 j (by omega)) 25 (by omega), ← zev_ext (M := 14) (fun j hj => h12.2 j (by omega)) 25 (by omega)]
