theorem zleast {p : Nat → Prop} : ∀ {N : Nat}, (∃ j, j < N ∧ p j) → ∃ j, j < N ∧ p j ∧ ∀ i, i < j → ¬ p i
  | 0, ⟨j, h, _⟩ => absurd h (Nat.not_lt_zero _)
  | N + 1, h => by
    by_cases q : ∃ j, j < N ∧ p j
    · obtain ⟨j, j1, j2, j3⟩ := zleast q
      exact ⟨j, by omega, j2, j3⟩
    · obtain ⟨j, j1, j2⟩ := h
      have e : j = N := Classical.byContradiction fun z => q ⟨j, by omega, j2⟩
      exact ⟨j, j1, j2, fun i hi hp => q ⟨i, by omega, hp⟩⟩
theorem lbl_uni {a b : Nat → Nat} {L : Nat → Int} : ∀ {i : Nat}, (∀ j, j < i → L (a j) = L (b j)) → ∀ v, L (lbl a b i v) = L v
  | 0, _, v => rfl
  | i + 1, h, v => by
    have ih := lbl_uni (a := a) (b := b) (L := L) (i := i) (fun j hj => h j (by omega))
    show L (if lbl a b i v = lbl a b i (b i) then lbl a b i (a i) else lbl a b i v) = L v
    split
    · rename_i q
      rw [ih, h i (by omega), ← ih (b i), ← q, ih]
    · exact ih v
theorem zsb_val (pc sp : Int → Int) (q : Int) : ∀ K : Nat, zsb pc sp K q = sp q - zct pc q K
  | 0 => by show sp q = sp q - 0; omega
  | K + 1 => by
    show zu (zsb pc sp K) (pc K) (zsb pc sp K (pc K) - 1) q = sp q - (zct pc q K + if pc (K : Int) = q then 1 else 0)
    have ih := zsb_val pc sp q K
    by_cases e : q = pc K
    · rw [e, zu_self, if_pos rfl, ← e, ih]; omega
    · rw [zu_ne _ _ e, if_neg (fun z => e z.symm), ih]; omega
theorem zfa_sum (pk fo : Int → Int) (k : Int) : ∀ j : Nat, zfa pk fo k j = zsum (fun i => if zfl fo i < fo i ∧ pk i = k then 1 else 0) j
  | 0 => rfl
  | j + 1 => by show zfa pk fo k j + _ = _; rw [zfa_sum pk fo k j]; rfl
theorem zfl_max (fo : Int → Int) : ∀ j : Nat, (∀ i : Nat, i < j → fo i ≤ zfl fo j) ∧ (zfl fo j = -1 ∨ ∃ i : Nat, i < j ∧ zfl fo j = fo i)
  | 0 => ⟨fun i h => absurd h (Nat.not_lt_zero _), Or.inl rfl⟩
  | j + 1 => by
    obtain ⟨h1, h2⟩ := zfl_max fo j
    have e : zfl fo (j + 1) = if zfl fo j < fo j then fo j else zfl fo j := rfl
    by_cases q : zfl fo j < fo j
    · rw [if_pos q] at e
      refine ⟨fun i hi => ?_, Or.inr ⟨j, by omega, e⟩⟩
      by_cases k : i = j
      · rw [k, e]; exact Int.le_refl _
      · have := h1 i (by omega); omega
    · rw [if_neg q] at e
      refine ⟨fun i hi => ?_, ?_⟩
      · by_cases k : i = j
        · rw [k]; omega
        · have := h1 i (by omega); omega
      · rcases h2 with h2 | ⟨i, h3, h4⟩
        · left; omega
        · exact Or.inr ⟨i, by omega, by omega⟩
/-- all that class and model know of one diagram -/
theorem zsph {sg lb pf sn0 g f ix dv ta fo : Int → Int} {n c F : Int} (hn : 0 ≤ n ∧ n ≤ 12) (hG : zGd sg lb (4 * n)) (hp : zPr lb (4 * n) pf) (hs : ∀ z, 0 ≤ z → z < 4 * n → sn0 z = 0) (h01 : ∀ z, sn0 z = 0 ∨ sn0 z = 1) (hM : zMf sg lb n g c f ix dv ta fo F) :
    ∃ r : Nat → Nat, (∀ x, x < 4 * n.toNat → r x < 4 * n.toNat ∧ r (r x) = x ∧ r x ≠ x ∧ lb (r x : Int) = lb (x : Int) ∧ ¬ zki sg (r x : Int) = zki sg (x : Int)) ∧ ∃ ph : Nat → Int, (∀ x, x < 4 * n.toNat → ph (r (rtp x)) = ph x) ∧
    (∀ k : Nat, k < n.toNat → zsb (zlb pf (4 * n).toNat) (zcf pf (zlb pf (4 * n).toNat) sn0 (4 * n).toNat).2 n.toNat (zlb pf (4 * n).toNat k) = zsum (fun x => if (∀ j : Nat, j < x → ¬ ph j = ph x) ∧ lbl pc_a (pc_b r) (4 * n.toNat) (x / 4) = lbl pc_a (pc_b r) (4 * n.toNat) k then 1 else 0) (4 * n.toNat) - zsum (fun i => if lbl pc_a (pc_b r) (4 * n.toNat) i = lbl pc_a (pc_b r) (4 * n.toNat) k then 1 else 0) n.toNat) ∧ (zSph n pf sn0 ↔ zGp n g c dv fo) ∧ ∀ x y, x < 4 * n.toNat → y < 4 * n.toNat → ph x = ph y → lbl pc_a (pc_b r) (4 * n.toNat) (x / 4) = lbl pc_a (pc_b r) (4 * n.toNat) (y / 4) := by
  obtain ⟨⟨hgs, hge⟩, hL, hI, hFo⟩ := hM
  have hc := zLs_2n hn.1 hG hL
  have hP4 : (((4 * n.toNat : Nat)) : Int) = 4 * n := by omega
  have hPt : (4 * n).toNat = 4 * n.toNat := by omega
  -- partners
  let r : Nat → Nat := fun x => (pf (x : Int)).toNat
  have hrc : ∀ x, x < 4 * n.toNat → ((r x : Nat) : Int) = pf (x : Int) ∧ 0 ≤ pf (x : Int) ∧ pf (x : Int) < 4 * n ∧ pf (x : Int) ≠ x ∧ lb (pf (x : Int)) = lb (x : Int) := fun x hx => by
    have e := hp (x : Int) (by omega) (by omega)
    exact ⟨by show (((pf (x : Int)).toNat : Nat) : Int) = _; have := e.1; omega, e.1, e.2.1, e.2.2.1, e.2.2.2.1⟩
  have hrk : ∀ x, x < 4 * n.toNat → ¬ zki sg (pf (x : Int)) = zki sg (x : Int) := fun x hx q => by
    have e := hrc x hx
    exact e.2.2.2.1 (hG.2 _ _ e.2.1 e.2.2.1 (by omega) (by omega) e.2.2.2.2 q)
  have hr : ∀ x, x < 4 * n.toNat → r x < 4 * n.toNat ∧ r (r x) = x ∧ r x ≠ x ∧ lb (r x : Int) = lb (x : Int) ∧ ¬ zki sg (r x : Int) = zki sg (x : Int) := fun x hx => by
    have e := hrc x hx
    have hlt : r x < 4 * n.toNat := by omega
    have e2 := hrc (r x) hlt
    have e3 := (hp (pf (x : Int)) e.2.1 e.2.2.1).2.2.2.2 (x : Int) (by omega) (by omega) (fun z => e.2.2.2.1 z.symm) e.2.2.2.2.symm
    refine ⟨hlt, by rw [e.1] at e2; omega, by omega, by rw [e.1]; exact e.2.2.2.2, by rw [e.1]; exact hrk x hx⟩
  have hpre : ∀ x, 0 ≤ x → x < 4 * n → pf x = ((r x.toNat : Nat) : Int) := fun x h1 h2 => by have e := (hrc x.toNat (by omega)).1; rw [e, show ((x.toNat : Nat) : Int) = x by omega]
  -- faces
  have hta : ∀ z : Int, 0 ≤ z → z < 4 * n → znx pf z = ta z := fun z h1 h2 => by
    have t := ztp_in (P := 4 * n) (by omega) ⟨h1, h2⟩
    obtain ⟨u1, u2, u3⟩ := hI.2.2.1 z h1 h2
    have e := (hp (ztp z) t.1 t.2).2.2.2.2 (ta z) u1.1 u1.2 (fun q => u3 (by rw [q])) u2
    unfold znx
    rw [show z - z % 4 + (z + 4 - 1) % 4 = ztp z by unfold ztp; omega]
    exact e.symm
  have hfo : ∀ z, 0 ≤ z → z < 4 * n → 0 ≤ fo (ix z) := fun z h1 h2 => hFo.2.2.2.2.1 _ (hI.1 z h1 h2).1.1 (hI.1 z h1 h2).1.2
  have hPh : zPh (4 * n) ta (fun z => fo (ix z)) := ⟨fun z h1 h2 => ⟨(hI.2.2.1 z h1 h2).1, hFo.2.1 z h1 h2 (hfo z h1 h2)⟩, hI.2.2.2, fun L hL z w h1 h2 h3 h4 he => hFo.2.2.2.1 L hL z w h1 h2 h3 h4 (hfo z h1 h2) he⟩
  -- pieces
  have hzl : ∀ m : Nat, m ≤ 4 * n.toNat → ∀ k : Nat, k < n.toNat → zlb pf m k = ((lbl pc_a (pc_b r) m k : Nat) : Int) := by
    intro m
    induction m with
    | zero => intro _ k _; rfl
    | succ m ih =>
      intro hm k hk
      have e := hrc m (by omega)
      have eb : pf (m : Int) / 4 = ((r m / 4 : Nat) : Int) := by rw [← e.1]; omega
      have ea : (m : Int) / 4 = ((m / 4 : Nat) : Int) := by omega
      show (if zlb pf m k = zlb pf m (pf m / 4) then zlb pf m ((m : Int) / 4) else zlb pf m k) = ((if lbl pc_a (pc_b r) m k = lbl pc_a (pc_b r) m (r m / 4) then lbl pc_a (pc_b r) m (m / 4) else lbl pc_a (pc_b r) m k : Nat) : Int)
      have hrm := (hr m (by omega)).1
      rw [eb, ea, ih (by omega) k hk, ih (by omega) (r m / 4) (by omega), ih (by omega) (m / 4) (by omega)]
      by_cases q : lbl pc_a (pc_b r) m k = lbl pc_a (pc_b r) m (r m / 4)
      · rw [if_pos (by omega), if_pos q]
      · rw [if_neg (by omega), if_neg q]
  let pl : Nat → Nat := lbl pc_a (pc_b r) (4 * n.toNat)
  have hpl : ∀ k : Nat, k < n.toNat → zlb pf (4 * n).toNat k = ((pl k : Nat) : Int) := fun k hk => by rw [hPt]; exact hzl _ (Nat.le_refl _) k hk
  have hedge : ∀ x, x < 4 * n.toNat → pl (x / 4) = pl (r x / 4) := fun x hx => lbl_edge (a := pc_a) (b := pc_b r) hx
  have hgedge : ∀ x, x < 4 * n.toNat → g ((x / 4 : Nat) : Int) = g ((r x / 4 : Nat) : Int) := fun x hx => by
    have e := hge (x : Int) (r x : Int) (by omega) (by omega) (by omega) (by have := (hr x hx).1; omega) (hr x hx).2.2.2.1.symm
    rw [show (x : Int) / 4 = ((x / 4 : Nat) : Int) by omega, show ((r x : Nat) : Int) / 4 = ((r x / 4 : Nat) : Int) by omega] at e
    exact e
  have hgp : ∀ i j : Nat, i < n.toNat → j < n.toNat → (pl i = pl j ↔ g (i : Int) = g (j : Int)) := fun i j hi hj => by
    constructor
    · intro h
      have u := lbl_uni (a := pc_a) (b := pc_b r) (L := fun v => g (v : Int)) (i := 4 * n.toNat) (fun x hx => hgedge x hx)
      have u1 : g ((pl i : Nat) : Int) = g (i : Int) := u i
      have u2 : g ((pl j : Nat) : Int) = g (j : Int) := u j
      rw [h] at u1
      exact u1.symm.trans u2
    · intro h
      have hE : zEc lb (4 * n) (fun v => ((pl v.toNat : Nat) : Int)) := fun a b a1 a2 b1 b2 he => by
        show ((pl (a / 4).toNat : Nat) : Int) = ((pl (b / 4).toNat : Nat) : Int)
        by_cases q : b = a
        · rw [q]
        · have eb := (hp a a1 a2).2.2.2.2 b b1 b2 q he.symm
          have e := hedge a.toNat (by omega)
          rw [eb, hpre a a1 a2, show (a / 4).toNat = a.toNat / 4 by omega, show ((((r a.toNat : Nat) : Int)) / 4).toNat = r a.toNat / 4 by omega, e]
      have u1 : ((pl (g (i : Int)).toNat : Nat) : Int) = ((pl ((i : Int)).toNat : Nat) : Int) := hgs.2 _ hE (i : Int) (by omega) (by omega)
      have u2 : ((pl (g (j : Int)).toNat : Nat) : Int) = ((pl ((j : Int)).toNat : Nat) : Int) := hgs.2 _ hE (j : Int) (by omega) (by omega)
      rw [h, u2, Int.toNat_natCast, Int.toNat_natCast] at u1
      omega
  -- a face lies in one piece
  have hgta : ∀ z : Int, 0 ≤ z → z < 4 * n → g (ta z / 4) = g (z / 4) := fun z h1 h2 => by
    have t := ztp_in (P := 4 * n) (by omega) ⟨h1, h2⟩
    obtain ⟨u1, u2, u3⟩ := hI.2.2.1 z h1 h2
    rw [hge (ta z) (ztp z) u1.1 u1.2 t.1 t.2 u2, show ztp z / 4 = z / 4 by unfold ztp; omega]
  have hface : ∀ x y : Int, 0 ≤ x → x < 4 * n → 0 ≤ y → y < 4 * n → fo (ix x) = fo (ix y) → g (x / 4) = g (y / 4) := fun x y x1 x2 y1 y2 he => hPh.2.2 (fun z => g (z / 4)) hgta x y x1 x2 y1 y2 he
  let ph : Nat → Int := fun x => fo (ix (x : Int))
  -- the class's count
  have hcf := (zcf_spec (P := 4 * n.toNat) (pf := pf) (ta := ta) (ph := fun z => fo (ix z)) (pc := zlb pf (4 * n).toNat) (sn0 := sn0) (by omega) (fun z h1 h2 => hta z h1 (by omega)) (by rw [hP4]; exact hPh) (fun z h1 h2 => hs z h1 (by omega)) h01 (4 * n.toNat) (Nat.le_refl _)).2
  have hcl : ∀ k : Nat, k < n.toNat → zsb (zlb pf (4 * n).toNat) (zcf pf (zlb pf (4 * n).toNat) sn0 (4 * n).toNat).2 n.toNat (zlb pf (4 * n).toNat k) = zsum (fun x => if (∀ j : Nat, j < x → ¬ ph j = ph x) ∧ pl (x / 4) = pl k then 1 else 0) (4 * n.toNat) - zsum (fun i => if pl i = pl k then 1 else 0) n.toNat := fun k hk => by
    rw [zsb_val]
    have e1 : (zcf pf (zlb pf (4 * n).toNat) sn0 (4 * n).toNat).2 (zlb pf (4 * n).toNat k) = zsum (fun x => if (∀ j : Nat, j < x → ¬ ph j = ph x) ∧ pl (x / 4) = pl k then 1 else 0) (4 * n.toNat) := by
      rw [show (zcf pf (zlb pf (4 * n).toNat) sn0 (4 * n).toNat) = zcf pf (zlb pf (4 * n).toNat) sn0 (4 * n.toNat) by rw [hPt], hcf]
      refine zsum_congr fun x hx => ?_
      have e2 : zlb pf (4 * n).toNat ((x : Int) / 4) = ((pl (x / 4) : Nat) : Int) := by rw [show (x : Int) / 4 = ((x / 4 : Nat) : Int) by omega]; exact hpl _ (by omega)
      rw [e2, hpl k hk]
      by_cases q : (∀ j : Nat, j < x → ¬ ph j = ph x) ∧ pl (x / 4) = pl k
      · rw [if_pos q, if_pos ⟨q.1, by omega⟩]
      · rw [if_neg q, if_neg (fun z => q ⟨z.1, by omega⟩)]
    have e3 : zct (zlb pf (4 * n).toNat) (zlb pf (4 * n).toNat k) n.toNat = zsum (fun i => if pl i = pl k then 1 else 0) n.toNat := zsum_congr fun i hi => by
      rw [hpl i hi, hpl k hk]
      by_cases q : pl i = pl k
      · rw [if_pos q, if_pos (by omega)]
      · rw [if_neg q, if_neg (by omega)]
    rw [e1, e3]
  -- the model's count
  have hfirst : ∀ j : Nat, (j : Int) < 2 * c → (zfl fo j < fo j ↔ ∀ i : Nat, i < j → ¬ fo i = fo j) := fun j hj => by
    obtain ⟨m1, m2⟩ := zfl_max fo j
    have h0 := hFo.2.2.2.2.1 (j : Int) (by omega) hj
    constructor
    · intro h i hi he; have := m1 i hi; omega
    · intro h
      refine Int.not_le.mp fun q => ?_
      rcases m2 with m2 | ⟨i, i1, i2⟩
      · omega
      · have hne := h i i1
        obtain ⟨w, w1, w2, w3⟩ := hFo.2.2.2.2.2.1 (i : Int) (by omega) (by omega) (fo (j : Int)) h0 (by omega)
        exact h w.toNat (by omega) (by rw [show ((w.toNat : Nat) : Int) = w by omega]; exact w3)
  have hmod : ∀ k : Nat, k < n.toNat → zfa (fun j => g (dv (2 * (j / 2) + 1) / 4)) fo (g (k : Int)) (2 * c).toNat = zsum (fun x => if (∀ j : Nat, j < x → ¬ ph j = ph x) ∧ pl (x / 4) = pl k then 1 else 0) (4 * n.toNat) := fun k hk => by
    rw [zfa_sum]
    have hdvg : ∀ j : Int, 0 ≤ j → j < 2 * c → g (dv (2 * (j / 2) + 1) / 4) = g (dv j / 4) := fun j h1 h2 => by
      have d1 := hI.2.1 j h1 h2
      have d2 := hI.2.1 (2 * (j / 2) + 1) (by omega) (by omega)
      have l1 := (hI.1 _ d1.1.1 d1.1.2).2.1
      have l2 := (hI.1 _ d2.1.1 d2.1.2).2.1
      rw [d1.2] at l1
      rw [d2.2, show (2 * (j / 2) + 1) / 2 = j / 2 by omega] at l2
      exact hge _ _ d2.1.1 d2.1.2 d1.1.1 d1.1.2 (l2.symm.trans l1)
    have hphd : ∀ j : Int, 0 ≤ j → j < 2 * c → fo (ix (dv j)) = fo j := fun j h1 h2 => by rw [(hI.2.1 j h1 h2).2]
    refine Int.le_antisymm ?_ ?_
    · -- the first place of each face
      obtain ⟨X, hX⟩ := Classical.axiomOfChoice (r := fun (j x : Nat) => (j : Int) < 2 * c → x < 4 * n.toNat ∧ ph x = fo j ∧ ∀ i, i < x → ¬ ph i = fo j) (fun j => by
        by_cases q : (j : Int) < 2 * c
        · have d := hI.2.1 (j : Int) (by omega) q
          obtain ⟨x, x1, x2, x3⟩ := zleast (p := fun x => ph x = fo j) (N := 4 * n.toNat) ⟨(dv (j : Int)).toNat, by omega, by show fo (ix (((dv (j : Int)).toNat : Nat) : Int)) = fo j; rw [show (((dv (j : Int)).toNat : Nat) : Int) = dv j by omega]; exact hphd _ (by omega) q⟩
          exact ⟨x, fun _ => ⟨x1, x2, x3⟩⟩
        · exact ⟨0, fun z => absurd z q⟩)
      refine zsum_inj (g := X) (fun j _ => ?_) (fun j hj e => ?_) (fun x _ => ?_) (fun i j hi hj e1 e2 e3 => ?_)
      · split
        · exact Or.inr rfl
        · exact Or.inl rfl
      · have hq : zfl fo j < fo j ∧ g (dv (2 * ((j : Int) / 2) + 1) / 4) = g k := Decidable.byContradiction fun z => by rw [if_neg z] at e; omega
        obtain ⟨x1, x2, x3⟩ := hX j (by omega)
        refine ⟨x1, ?_⟩
        rw [if_pos]
        · exact Int.le_refl _
        · refine ⟨fun i hi => by rw [x2]; exact x3 i hi, (hgp _ _ (by omega) hk).mpr ?_⟩
          rw [← hq.2, hdvg _ (by omega) (by omega), show ((X j / 4 : Nat) : Int) = ((X j : Nat) : Int) / 4 by omega]
          have d := hI.2.1 (j : Int) (by omega) (by omega)
          exact hface _ _ (by omega) (by omega) d.1.1 d.1.2 (by rw [hphd _ (by omega) (by omega)]; exact x2)
      · show 0 ≤ (if _ then (1 : Int) else 0); split <;> decide
      · have q1 : zfl fo i < fo i ∧ g (dv (2 * ((i : Int) / 2) + 1) / 4) = g k := Decidable.byContradiction fun z => by rw [if_neg z] at e1; omega
        have q2 : zfl fo j < fo j ∧ g (dv (2 * ((j : Int) / 2) + 1) / 4) = g k := Decidable.byContradiction fun z => by rw [if_neg z] at e2; omega
        have hh : fo i = fo j := by rw [← (hX i (by omega)).2.1, ← (hX j (by omega)).2.1, e3]
        rcases Nat.lt_trichotomy i j with w | w | w
        · exact absurd hh ((hfirst j (by omega)).mp q2.1 i w)
        · exact w
        · exact absurd hh.symm ((hfirst i (by omega)).mp q1.1 j w)
    · -- the first dart of each face
      obtain ⟨J, hJ⟩ := Classical.axiomOfChoice (r := fun (x j : Nat) => x < 4 * n.toNat → (j : Int) < 2 * c ∧ fo j = ph x ∧ ∀ i : Nat, i < j → ¬ fo i = ph x) (fun x => by
        by_cases q : x < 4 * n.toNat
        · have d := (hI.1 (x : Int) (by omega) (by omega)).1
          obtain ⟨j, j1, j2, j3⟩ := zleast (p := fun j => fo (j : Int) = ph x) (N := (2 * c).toNat) ⟨(ix (x : Int)).toNat, by omega, by show fo (((ix (x : Int)).toNat : Nat) : Int) = ph x; rw [show (((ix (x : Int)).toNat : Nat) : Int) = ix x by omega]⟩
          exact ⟨j, fun _ => ⟨by omega, j2, j3⟩⟩
        · exact ⟨0, fun z => absurd z q⟩)
      refine zsum_inj (g := J) (fun x _ => ?_) (fun x hx e => ?_) (fun j _ => ?_) (fun x y hx hy e1 e2 e3 => ?_)
      · split
        · exact Or.inr rfl
        · exact Or.inl rfl
      · have hq : (∀ j : Nat, j < x → ¬ ph j = ph x) ∧ pl (x / 4) = pl k := Decidable.byContradiction fun z => by rw [if_neg z] at e; omega
        obtain ⟨j1, j2, j3⟩ := hJ x hx
        refine ⟨by omega, ?_⟩
        rw [if_pos]
        · exact Int.le_refl _
        · refine ⟨(hfirst (J x) j1).mpr (fun i hi => by rw [j2]; exact j3 i hi), ?_⟩
          rw [hdvg _ (by omega) j1, ← (hgp _ _ (by omega) hk).mp hq.2, show ((x / 4 : Nat) : Int) = (x : Int) / 4 by omega]
          have d := hI.2.1 ((J x : Nat) : Int) (by omega) j1
          exact hface _ _ d.1.1 d.1.2 (by omega) (by omega) (by rw [hphd _ (by omega) j1]; exact j2)
      · show 0 ≤ (if _ then (1 : Int) else 0); split <;> decide
      · have q1 : (∀ j : Nat, j < x → ¬ ph j = ph x) ∧ pl (x / 4) = pl k := Decidable.byContradiction fun z => by rw [if_neg z] at e1; omega
        have q2 : (∀ j : Nat, j < y → ¬ ph j = ph y) ∧ pl (y / 4) = pl k := Decidable.byContradiction fun z => by rw [if_neg z] at e2; omega
        have hh : ph x = ph y := by rw [← (hJ x hx).2.1, ← (hJ y hy).2.1, e3]
        rcases Nat.lt_trichotomy x y with w | w | w
        · exact absurd hh (q2.1 x w)
        · exact w
        · exact absurd hh.symm (q1.1 y w)
  have hcnt : ∀ k : Nat, k < n.toNat → zct g (g (k : Int)) n.toNat = zsum (fun i => if pl i = pl k then 1 else 0) n.toNat := fun k hk => zsum_congr fun i hi => by
    have := hgp i k hi hk
    by_cases q : pl i = pl k
    · rw [if_pos q, if_pos (this.mp q)]
    · rw [if_neg q, if_neg (fun z => q (this.mpr z))]
  refine ⟨r, hr, ph, fun x hx => ?_, hcl, ?_, fun x y hx hy he => ?_⟩
  · have t := rtp_lt hx
    show fo (ix ((r (rtp x) : Nat) : Int)) = fo (ix (x : Int))
    rw [(hrc _ t).1, show ((rtp x : Nat) : Int) = ztp (x : Int) by unfold rtp ztp; omega]
    have e := hta (x : Int) (by omega) (by omega)
    unfold znx at e
    rw [show (x : Int) - (x : Int) % 4 + ((x : Int) + 4 - 1) % 4 = ztp (x : Int) by unfold ztp; omega] at e
    rw [e]
    exact (hPh.1 (x : Int) (by omega) (by omega)).2
  · constructor
    · intro h k k1 k2 hgk
      have e := h k k1 k2
      obtain ⟨m, rfl⟩ := Int.eq_ofNat_of_zero_le k1
      rw [hcl m (by omega)] at e
      have e2 := hmod m (by omega)
      have e3 := hcnt m (by omega)
      rw [hgk] at e2 e3
      rw [e2, e3]
      omega
    · intro h k k1 k2
      obtain ⟨m, rfl⟩ := Int.eq_ofNat_of_zero_le k1
      rw [hcl m (by omega)]
      have hb := hgs.1 (m : Int) k1 k2
      have hgg : g (g (m : Int)) = g (m : Int) := hgs.2 g hge (m : Int) k1 k2
      have e := h (g (m : Int)) hb.1 (by omega) hgg
      rw [hmod m (by omega), hcnt m (by omega)] at e
      omega
  · refine (hgp _ _ (by omega) (by omega)).mpr ?_
    rw [show ((x / 4 : Nat) : Int) = (x : Int) / 4 by omega, show ((y / 4 : Nat) : Int) = (y : Int) / 4 by omega]
    exact hface _ _ (by omega) (by omega) (by omega) (by omega) he
