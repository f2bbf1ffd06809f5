/-- the last face begun among the darts below j -/
def zfl (fo : Int → Int) : Nat → Int
  | 0 => -1
  | j + 1 => if zfl fo j < fo j then fo j else zfl fo j
/-- faces begun below j by darts of piece k -/
def zfa (pk fo : Int → Int) (k : Int) : Nat → Int
  | 0 => 0
  | j + 1 => zfa pk fo k j + if zfl fo j < fo j ∧ pk j = k then 1 else 0
theorem ztn {j : Int} (h : 0 ≤ j) : (j + 1).toNat = j.toNat + 1 ∧ ((j.toNat : Nat) : Int) = j := ⟨by omega, by omega⟩
theorem zfl_y {fo : Int → Int} {j : Int} (h : 0 ≤ j) (hc : zfl fo j.toNat < fo j) : fo j = zfl fo (j + 1).toNat := by
  rw [(ztn h).1]
  show fo j = if zfl fo j.toNat < fo (j.toNat : Int) then fo (j.toNat : Int) else zfl fo j.toNat
  rw [(ztn h).2, if_pos hc]
theorem zfl_n {fo : Int → Int} {j : Int} (h : 0 ≤ j) (hc : ¬ zfl fo j.toNat < fo j) : zfl fo j.toNat = zfl fo (j + 1).toNat := by
  rw [(ztn h).1]
  show zfl fo j.toNat = if zfl fo j.toNat < fo (j.toNat : Int) then fo (j.toNat : Int) else zfl fo j.toNat
  rw [(ztn h).2, if_neg hc]
theorem zfa_y {pk fo : Int → Int} {k j : Int} (h : 0 ≤ j) (hc : zfl fo j.toNat < fo j) (hk : pk j = k) : zfa pk fo k j.toNat + 1 = zfa pk fo k (j + 1).toNat := by
  rw [(ztn h).1]
  show _ = zfa pk fo k j.toNat + if zfl fo j.toNat < fo (j.toNat : Int) ∧ pk (j.toNat : Int) = k then 1 else 0
  rw [(ztn h).2, if_pos ⟨hc, hk⟩]
theorem zfa_n {pk fo : Int → Int} {k j : Int} (h : 0 ≤ j) (hc : ¬ (zfl fo j.toNat < fo j ∧ pk j = k)) : zfa pk fo k j.toNat = zfa pk fo k (j + 1).toNat := by
  rw [(ztn h).1]
  show _ = zfa pk fo k j.toNat + if zfl fo j.toNat < fo (j.toNat : Int) ∧ pk (j.toNat : Int) = k then 1 else 0
  rw [(ztn h).2, if_neg hc]
  omega
theorem zfa_bd (pk fo : Int → Int) (k : Int) : ∀ j : Nat, 0 ≤ zfa pk fo k j ∧ zfa pk fo k j ≤ j
  | 0 => ⟨Int.le_refl _, Int.le_refl _⟩
  | j + 1 => by
    have h := zfa_bd pk fo k j
    show 0 ≤ zfa pk fo k j + (if zfl fo j < fo j ∧ pk j = k then 1 else 0) ∧ zfa pk fo k j + (if zfl fo j < fo j ∧ pk j = k then 1 else 0) ≤ ((j + 1 : Nat) : Int)
    split <;> omega
theorem zfl_in {fo : Int → Int} (h : ∀ j, inI (fo j)) : ∀ j : Nat, inI (zfl fo j)
  | 0 => (show inI (-1) by decide)
  | j + 1 => by
    show inI (if zfl fo j < fo j then fo j else zfl fo j)
    split
    · exact h _
    · exact zfl_in h j
/-- how often v stands among the first of g -/
def zct (g : Int → Int) (v : Int) (n : Nat) : Int := zsum (fun i => if g (i : Int) = v then 1 else 0) n
theorem zct_y {g : Int → Int} {v j : Int} (h : 0 ≤ j) (hc : g j = v) : zct g v j.toNat + 1 = zct g v (j + 1).toNat := by
  rw [(ztn h).1]
  show _ = zct g v j.toNat + if g (j.toNat : Int) = v then 1 else 0
  rw [(ztn h).2, if_pos hc]
theorem zct_n {g : Int → Int} {v j : Int} (h : 0 ≤ j) (hc : ¬ g j = v) : zct g v j.toNat = zct g v (j + 1).toNat := by
  rw [(ztn h).1]
  show _ = zct g v j.toNat + if g (j.toNat : Int) = v then 1 else 0
  rw [(ztn h).2, if_neg hc]
  omega
theorem zct_bd (g : Int → Int) (v : Int) : ∀ n : Nat, 0 ≤ zct g v n ∧ zct g v n ≤ n
  | 0 => ⟨Int.le_refl _, Int.le_refl _⟩
  | n + 1 => by
    have h := zct_bd g v n
    show 0 ≤ zct g v n + (if g (n : Int) = v then 1 else 0) ∧ zct g v n + (if g (n : Int) = v then 1 else 0) ≤ ((n + 1 : Nat) : Int)
    split <;> omega
theorem zct3 {g : Int → Int} {v : Int} {n a b c : Nat} (ha : a < n) (hb : b < n) (hc : c < n) (hab : a ≠ b) (hac : a ≠ c) (hbc : b ≠ c) (ea : g a = v) (eb : g b = v) (ec : g c = v) : 3 ≤ zct g v n := by
  have h1 : zsum (fun i => (if i = a then (1 : Int) else 0) + ((if i = b then 1 else 0) + (if i = c then 1 else 0))) n ≤ zct g v n := zsum_le (fun i hi => by
    by_cases q1 : i = a
    · subst q1; rw [if_pos rfl, if_neg hab, if_neg hac, if_pos ea]; omega
    · by_cases q2 : i = b
      · subst q2; rw [if_neg q1, if_pos rfl, if_neg hbc, if_pos eb]; omega
      · by_cases q3 : i = c
        · subst q3; rw [if_neg q1, if_neg q2, if_pos rfl, if_pos ec]; omega
        · rw [if_neg q1, if_neg q2, if_neg q3]; split <;> omega)
  rw [zsum_add, zsum_add, zsum_pick _ ha, zsum_pick _ hb, zsum_pick _ hc] at h1
  omega
def zGy (sg lb : Int → Int) (P kd y : Int) : Prop := (kd = 0 → zct lb y P.toNat = 2) ∧ (kd = 1 → (∃ z, 0 ≤ z ∧ z < P ∧ lb z = y ∧ zki sg z = 1) ∧ ∃ z, 0 ≤ z ∧ z < P ∧ lb z = y ∧ zki sg z = 0)
def zGl (sg lb : Int → Int) (P kd : Int) : Prop := ∀ x, 0 ≤ x → x < P → zGy sg lb P kd (lb x)
theorem zGl_yes {sg lb f : Int → Int} {P c kd : Int} (hL : zLs lb P f c) (h : ∀ j, 0 ≤ j → j < c → zGy sg lb P kd (f j)) : zGl sg lb P kd := fun x h1 h2 => by
  obtain ⟨j, j1, j2, j3⟩ := (hL.2.1 (lb x)).mpr ⟨x, h1, h2, rfl⟩
  rw [← j3]; exact h j j1 j2
theorem zGl_no {sg lb f : Int → Int} {P c kd i : Int} (hL : zLs lb P f c) (hi : 0 ≤ i ∧ i < c) (h : ¬ zGy sg lb P kd (f i)) : ¬ zGl sg lb P kd := fun q => by
  obtain ⟨x, x1, x2, x3⟩ := (hL.2.1 (f i)).mp ⟨i, hi.1, hi.2, rfl⟩
  exact h (x3 ▸ q x x1 x2)
theorem zLs_lp {lb f : Int → Int} {P c i : Int} (hL : zLs lb P f c) (hi : 0 ≤ i ∧ i < c) (hlp : ∀ z, 0 ≤ z → z < P → 1 ≤ lb z ∧ lb z ≤ 9999) : 1 ≤ f i ∧ f i ≤ 9999 := by
  obtain ⟨x, x1, x2, x3⟩ := (hL.2.1 (f i)).mp ⟨i, hi.1, hi.2, rfl⟩
  rw [← x3]; exact hlp x x1 x2
theorem zGd_of {sg lb : Int → Int} {P : Int} (h0 : zGl sg lb P 0) (h1 : zGl sg lb P 1) : zGd sg lb P := by
  refine ⟨fun x hx1 hx2 => ?_, fun x y hx1 hx2 hy1 hy2 hl hk => ?_⟩
  · obtain ⟨⟨z, z1, z2, z3, z4⟩, w, w1, w2, w3, w4⟩ := (h1 x hx1 hx2).2 rfl
    rcases zki_or sg x with k | k
    · exact ⟨z, z1, z2, z3, by omega⟩
    · exact ⟨w, w1, w2, w3, by omega⟩
  · obtain ⟨⟨z, z1, z2, z3, z4⟩, w, w1, w2, w3, w4⟩ := (h1 x hx1 hx2).2 rfl
    have hc := (h0 x hx1 hx2).1 rfl
    apply Classical.byContradiction
    intro hne
    rcases zki_or sg x with k | k
    · have hxz : x ≠ z := fun e => by rw [e] at k; omega
      have hyz : y ≠ z := fun e => by rw [e] at hk; omega
      have h3 := zct3 (g := lb) (v := lb x) (n := P.toNat) (a := x.toNat) (b := y.toNat) (c := z.toNat) (by omega) (by omega) (by omega) (by omega) (fun q => hxz (by omega)) (fun q => hyz (by omega)) (by rw [show ((x.toNat : Nat) : Int) = x by omega]) (by rw [show ((y.toNat : Nat) : Int) = y by omega]; exact hl.symm) (by rw [show ((z.toNat : Nat) : Int) = z by omega]; exact z3)
      omega
    · have hxz : x ≠ w := fun e => by rw [e] at k; omega
      have hyz : y ≠ w := fun e => by rw [e] at hk; omega
      have h3 := zct3 (g := lb) (v := lb x) (n := P.toNat) (a := x.toNat) (b := y.toNat) (c := w.toNat) (by omega) (by omega) (by omega) (by omega) (fun q => hxz (by omega)) (fun q => hyz (by omega)) (by rw [show ((x.toNat : Nat) : Int) = x by omega]) (by rw [show ((y.toNat : Nat) : Int) = y by omega]; exact hl.symm) (by rw [show ((w.toNat : Nat) : Int) = w by omega]; exact w3)
      omega
theorem zIx_pl {sg lb f ix dv ta : Int → Int} {P c : Int} (hG : zGd sg lb P) (hI : zIx sg lb P f c ix dv ta) (j : Int) (h1 : 0 ≤ j) (h2 : j < 2 * c) : (0 ≤ dv (2 * (j / 2) + 1) ∧ dv (2 * (j / 2) + 1) < P) ∧ zPl P sg lb (f (j / 2)) 1 (dv (2 * (j / 2) + 1)) := by
  have e := hI.2.1 (2 * (j / 2) + 1) (by omega) (by omega)
  have e2 := hI.1 _ e.1.1 e.1.2
  rw [e.2] at e2
  rw [show (2 * (j / 2) + 1) / 2 = j / 2 by omega, show (2 * (j / 2) + 1) % 2 = 1 by omega] at e2
  refine ⟨e.1, Or.inr ⟨e.1.1, e.1.2, e2.2.1.symm, e2.2.2.1.symm⟩, fun z z1 z2 z3 q => ?_⟩
  have := hG.2 z _ z2 z3 e.1.1 e.1.2 (q.1.trans e2.2.1) (q.2.trans e2.2.2.1)
  omega
/-- the pieces and faces, as the model finds them -/
def zMf (sg lb : Int → Int) (nn : Int) (g : Int → Int) (c : Int) (f ix dv ta fo : Int → Int) (F : Int) : Prop := zHg lb nn g ∧ zLs lb (4 * nn) f c ∧ zIx sg lb (4 * nn) f c ix dv ta ∧ zFo (4 * nn) c ix ta fo F (2 * c)
/-- piece k has as many faces as crossings, and two more -/
def zGk (nn : Int) (g : Int → Int) (c : Int) (dv fo : Int → Int) (k : Int) : Prop := g k = k → zfa (fun j => g (dv (2 * (j / 2) + 1) / 4)) fo k (2 * c).toNat = zct g k nn.toNat + 2
def zGp (nn : Int) (g : Int → Int) (c : Int) (dv fo : Int → Int) : Prop := ∀ k, 0 ≤ k → k < nn → zGk nn g c dv fo k
/-- the model's answer -/
def zFt (sg lb : Int → Int) (nn r : Int) : Prop := (r = 1 ∧ ¬ zGl sg lb (4 * nn) 0) ∨ (r = 2 ∧ zGl sg lb (4 * nn) 0 ∧ ¬ zGl sg lb (4 * nn) 1) ∨ (zGl sg lb (4 * nn) 0 ∧ zGl sg lb (4 * nn) 1 ∧ ∃ g c f ix dv ta fo F, zMf sg lb nn g c f ix dv ta fo F ∧ ((r = 0 ∧ zGp nn g c dv fo) ∨ (r = 3 ∧ ¬ zGp nn g c dv fo)))
theorem zFt_in {sg lb : Int → Int} {nn r : Int} (h : zFt sg lb nn r) : 0 ≤ r ∧ r ≤ 3 := by
  rcases h with h | h | ⟨_, _, g, c, f, ix, dv, ta, fo, F, _, h | h⟩ <;> omega
