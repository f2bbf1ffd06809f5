/-- ph tells the faces: what a step round a face keeps -/
def zPh (P : Int) (ta ph : Int → Int) : Prop := (∀ z, 0 ≤ z → z < P → (0 ≤ ta z ∧ ta z < P) ∧ ph (ta z) = ph z) ∧ (∀ z w, 0 ≤ z → z < P → 0 ≤ w → w < P → ta z = ta w → z = w) ∧ ∀ L : Int → Int, (∀ z, 0 ≤ z → z < P → L (ta z) = L z) → ∀ z w, 0 ≤ z → z < P → 0 ≤ w → w < P → ph z = ph w → L z = L w
/-- how many below P have not been seen -/
def zun (sn : Int → Int) (P : Nat) : Int := zsum (fun i => if sn (i : Int) = 0 then 1 else 0) P
theorem zun_up {sn : Int → Int} {P : Nat} {x : Int} (hx : 0 ≤ x ∧ x < P) (h : sn x = 0) : zun (zu sn x 1) P = zun sn P - 1 := by
  unfold zun
  have h1 : zsum (fun i => if zu sn x 1 (i : Int) = 0 then (1 : Int) else 0) P = zsum (fun i => if i = x.toNat then 0 else if sn (i : Int) = 0 then 1 else 0) P := zsum_congr (fun i _ => by
    by_cases q : i = x.toNat
    · rw [if_pos q, show (i : Int) = x by omega, zu_self, if_neg (by decide)]
    · rw [if_neg q, zu_ne _ _ (by omega)])
  rw [h1, zsum_up (f := fun i => if sn (i : Int) = 0 then 1 else 0) (by omega), show ((x.toNat : Nat) : Int) = x by omega, if_pos h]
  omega
/-- the way round from k0: W is what it has marked so far, pv its last place, x its next -/
theorem zgo_way {pf ta ph sn0 : Int → Int} {P : Nat} {k0 : Int} (hta : ∀ z : Int, 0 ≤ z → z < P → znx pf z = ta z) (hP : zPh P ta ph) (hk : 0 ≤ k0 ∧ k0 < P) (hun : ∀ y : Int, 0 ≤ y → y < P → ph y = ph k0 → sn0 y = 0) : ∀ (f : Nat) (x pv : Int) (sn : Int → Int), (0 ≤ x ∧ x < P) → ph x = ph k0 → (∀ z, sn z = 0 ∨ sn z = 1) → (∀ y, sn0 y = 1 → sn y = 1) → (∀ y : Int, 0 ≤ y → y < P → sn y = 1 → sn0 y = 0 → ph y = ph k0 ∧ (ta y = x ∨ (sn (ta y) = 1 ∧ sn0 (ta y) = 0)) ∧ (y = k0 ∨ ∃ y' : Int, (0 ≤ y' ∧ y' < P) ∧ sn y' = 1 ∧ sn0 y' = 0 ∧ ta y' = y ∧ ¬ y' = pv)) → ((x = k0 ∧ ∀ y : Int, 0 ≤ y → y < P → sn y = 1 → sn0 y = 1) ∨ ((0 ≤ pv ∧ pv < P) ∧ sn pv = 1 ∧ sn0 pv = 0 ∧ ta pv = x ∧ sn k0 = 1)) → (∀ z, sn0 z = 0 ∨ sn0 z = 1) → zun sn P ≤ f → ∀ y : Int, 0 ≤ y → y < P → (zgo pf f x sn y = 1 ↔ sn0 y = 1 ∨ ph y = ph k0)
  | 0, x, pv, sn, hx, hph, h01, hs0, hW, hst, h02, hf, y, y1, y2 => by
    have hall : ∀ z : Int, 0 ≤ z → z < P → sn z = 1 := fun z z1 z2 => by
      rcases h01 z with q | q
      · have := zterm_le (f := fun i => if sn (i : Int) = 0 then 1 else 0) (fun i => by show 0 ≤ (if sn (i : Int) = 0 then (1 : Int) else 0); split <;> omega) (k := z.toNat) (n := P) (by omega)
        rw [show ((z.toNat : Nat) : Int) = z by omega, if_pos q] at this
        unfold zun at hf
        omega
      · exact q
    show sn y = 1 ↔ _
    constructor
    · intro h
      rcases h02 y with q | q
      · exact Or.inr (hW y y1 y2 h q).1
      · exact Or.inl q
    · intro _; exact hall y y1 y2
  | f + 1, x, pv, sn, hx, hph, h01, hs0, hW, hst, h02, hf, y, y1, y2 => by
    show (if sn x = 0 then zgo pf f (znx pf x) (zu sn x 1) else sn) y = 1 ↔ _
    by_cases q : sn x = 0
    · rw [if_pos q, hta x hx.1 hx.2]
      have htx := hP.1 x hx.1 hx.2
      have hx0 : sn0 x = 0 := hun x hx.1 hx.2 hph
      have hm : ∀ z, sn z = 1 → z ≠ x ∧ zu sn x 1 z = 1 := fun z hz => by
        have e : z ≠ x := fun e => by rw [e] at hz; omega
        exact ⟨e, by rw [zu_ne _ _ e]; exact hz⟩
      refine zgo_way hta hP hk hun f (ta x) x (zu sn x 1) htx.1 (htx.2.trans hph) (fun z => ?_) (fun z hz => (hm z (hs0 z hz)).2) (fun z z1 z2 z3 z4 => ?_) (Or.inr ⟨hx, zu_self _ _ _, hx0, rfl, ?_⟩) h02 (by rw [zun_up hx q]; omega) y y1 y2
      · by_cases e : z = x
        · right; rw [e]; exact zu_self _ _ _
        · rw [zu_ne _ _ e]; exact h01 z
      · by_cases e : z = x
        · rw [e]
          refine ⟨hph, Or.inl rfl, ?_⟩
          rcases hst with ⟨a1, _⟩ | ⟨a0, a1, a2, a3, a4⟩
          · exact Or.inl a1
          · exact Or.inr ⟨pv, a0, (hm pv a1).2, a2, a3, (hm pv a1).1⟩
        · rw [zu_ne _ _ e] at z3
          obtain ⟨b1, b2, b3⟩ := hW z z1 z2 z3 z4
          refine ⟨b1, ?_, ?_⟩
          · rcases b2 with b2 | b2
            · right; rw [b2]; exact ⟨zu_self _ _ _, hx0⟩
            · exact Or.inr ⟨(hm _ b2.1).2, b2.2⟩
          · rcases b3 with b3 | ⟨y', c0, c1, c2, c3, _⟩
            · exact Or.inl b3
            · exact Or.inr ⟨y', c0, (hm y' c1).2, c2, c3, (hm y' c1).1⟩
      · rcases hst with ⟨a1, _⟩ | ⟨a0, a1, a2, a3, a4⟩
        · rw [← a1]; exact zu_self _ _ _
        · exact (hm k0 a4).2
    · rw [if_neg q]
      have hsx : sn x = 1 := by have := h01 x; omega
      have hx0 : sn0 x = 0 := hun x hx.1 hx.2 hph
      rcases hst with ⟨a1, a2⟩ | ⟨a0, a1, a2, a3, a4⟩
      · have := a2 x hx.1 hx.2 hsx; omega
      · -- all round: back at k0
        have hxk : x = k0 := by
          rcases (hW x hx.1 hx.2 hsx hx0).2.2 with e | ⟨y', c0, c1, c2, c3, c4⟩
          · exact e
          · exact absurd (hP.2.1 y' pv c0.1 c0.2 a0.1 a0.2 (c3.trans a3.symm)) c4
        obtain ⟨L, hL⟩ := Classical.axiomOfChoice (r := fun (z r : Int) => (r = 0 ∨ r = 1) ∧ (r = 1 ↔ sn z = 1 ∧ sn0 z = 0)) (fun z => by
          by_cases e : sn z = 1 ∧ sn0 z = 0
          · exact ⟨1, Or.inr rfl, ⟨fun _ => e, fun _ => rfl⟩⟩
          · exact ⟨0, Or.inl rfl, ⟨fun w => absurd w (by decide), fun w => absurd w e⟩⟩)
        have hinv : ∀ z : Int, 0 ≤ z → z < P → L (ta z) = L z := fun z z1 z2 => by
          have i1 : (sn (ta z) = 1 ∧ sn0 (ta z) = 0) ↔ (sn z = 1 ∧ sn0 z = 0) := by
            have htz := hP.1 z z1 z2
            constructor
            · rintro ⟨w1, w2⟩
              rcases (hW (ta z) htz.1.1 htz.1.2 w1 w2).2.2 with e | ⟨y', c0, c1, c2, c3, c4⟩
              · have : z = pv := hP.2.1 z pv z1 z2 a0.1 a0.2 (by rw [e, a3, hxk])
                rw [this]; exact ⟨a1, a2⟩
              · have : y' = z := hP.2.1 y' z c0.1 c0.2 z1 z2 c3
                rw [← this]; exact ⟨c1, c2⟩
            · rintro ⟨w1, w2⟩
              rcases (hW z z1 z2 w1 w2).2.1 with e | e
              · rw [e]; exact ⟨hsx, hx0⟩
              · exact e
          have j1 := hL z
          have j2 := hL (ta z)
          have i2 : L (ta z) = 1 ↔ L z = 1 := j2.2.trans (i1.trans j1.2.symm)
          rcases j1.1 with k1 | k1 <;> rcases j2.1 with k2 | k2
          · rw [k1, k2]
          · exact absurd (i2.mp k2) (by rw [k1]; decide)
          · exact absurd (i2.mpr k1) (by rw [k2]; decide)
          · rw [k1, k2]
        constructor
        · intro h
          rcases h02 y with e | e
          · exact Or.inr (hW y y1 y2 h e).1
          · exact Or.inl e
        · rintro (h | h)
          · exact hs0 y h
          · have e := hP.2.2 L hinv y k0 y1 y2 hk.1 hk.2 h
            have e2 : L k0 = 1 := ((hL k0).2).mpr ⟨a4, hun k0 hk.1 hk.2 rfl⟩
            exact (((hL y).2).mp (e.trans e2)).1
/-- what has been seen, and how many faces have been begun -/
theorem zcf_spec {pf ta ph pc sn0 : Int → Int} {P : Nat} (hP48 : P ≤ 48) (hta : ∀ z : Int, 0 ≤ z → z < P → znx pf z = ta z) (hP : zPh P ta ph) (hs : ∀ z : Int, 0 ≤ z → z < P → sn0 z = 0) (h01 : ∀ z, sn0 z = 0 ∨ sn0 z = 1) : ∀ K : Nat, K ≤ P → (∀ y : Int, 0 ≤ y → y < P → ((zcf pf pc sn0 K).1 y = 1 ↔ ∃ k : Nat, k < K ∧ ph k = ph y)) ∧ ∀ q, (zcf pf pc sn0 K).2 q = zsum (fun k => if (∀ j : Nat, j < k → ¬ ph j = ph k) ∧ pc ((k : Int) / 4) = q then 1 else 0) K := by
  intro K
  induction K with
  | zero =>
    intro _
    refine ⟨fun y y1 y2 => ⟨fun h => ?_, fun ⟨k, hk, _⟩ => absurd hk (Nat.not_lt_zero _)⟩, fun q => rfl⟩
    have h : sn0 y = 1 := h
    rw [hs y y1 y2] at h
    exact absurd h (by decide)
  | succ K ih =>
    intro hK
    obtain ⟨i1, i2⟩ := ih (by omega)
    have hv := zcf_01 (pf := pf) (pc := pc) h01 K
    have hkr : 0 ≤ (K : Int) ∧ (K : Int) < P := ⟨by omega, by omega⟩
    by_cases q : (zcf pf pc sn0 K).1 K = 0
    · have hfirst : ∀ j : Nat, j < K → ¬ ph j = ph K := fun j hj e => by
        have := (i1 K hkr.1 hkr.2).mpr ⟨j, hj, e⟩
        rw [q] at this
        exact absurd this (by decide)
      rw [zcf_pos q]
      refine ⟨fun y y1 y2 => ?_, fun w => ?_⟩
      · show zgo pf 48 K (zcf pf pc sn0 K).1 y = 1 ↔ _
        have hu : zun (zcf pf pc sn0 K).1 P ≤ ((48 : Nat) : Int) := by
          have h1 := zsum_le (f := fun i => if (zcf pf pc sn0 K).1 (i : Int) = 0 then 1 else 0) (g := fun _ => 1) (n := P) (fun i _ => by split <;> decide)
          rw [zone] at h1
          unfold zun
          omega
        rw [zgo_way (k0 := K) hta hP hkr (fun z z1 z2 z3 => by
          rcases hv z with e | e
          · exact e
          · obtain ⟨j, hj, he⟩ := (i1 z z1 z2).mp e
            exact absurd (he.trans z3) (hfirst j hj)) 48 K 0 (zcf pf pc sn0 K).1 hkr rfl hv (fun _ h => h) (fun z z1 z2 z3 z4 => by rw [z3] at z4; exact absurd z4 (by decide)) (Or.inl ⟨rfl, fun _ _ _ h => h⟩) hv hu y y1 y2, i1 y y1 y2]
        constructor
        · rintro (⟨j, hj, he⟩ | h)
          · exact ⟨j, by omega, he⟩
          · exact ⟨K, by omega, h.symm⟩
        · rintro ⟨j, hj, he⟩
          by_cases e : j = K
          · right; rw [← he, e]
          · exact Or.inl ⟨j, by omega, he⟩
      · show zu (zcf pf pc sn0 K).2 (pc ((K : Int) / 4)) ((zcf pf pc sn0 K).2 (pc ((K : Int) / 4)) + 1) w = zsum (fun k => if (∀ j : Nat, j < k → ¬ ph j = ph k) ∧ pc ((k : Int) / 4) = w then 1 else 0) K + if (∀ j : Nat, j < K → ¬ ph j = ph K) ∧ pc ((K : Int) / 4) = w then 1 else 0
        rw [← i2 w]
        by_cases e : w = pc ((K : Int) / 4)
        · rw [e, zu_self, if_pos ⟨hfirst, rfl⟩]
        · rw [zu_ne _ _ e, if_neg (fun z => e z.2.symm), Int.add_zero]
    · rw [zcf_neg q]
      have hq : (zcf pf pc sn0 K).1 K = 1 := (hv K).resolve_left q
      obtain ⟨j0, hj0, he0⟩ := (i1 K hkr.1 hkr.2).mp hq
      refine ⟨fun y y1 y2 => ?_, fun w => ?_⟩
      · rw [i1 y y1 y2]
        constructor
        · rintro ⟨j, hj, he⟩; exact ⟨j, by omega, he⟩
        · rintro ⟨j, hj, he⟩
          by_cases e : j = K
          · exact ⟨j0, hj0, by rw [he0, ← e]; exact he⟩
          · exact ⟨j, by omega, he⟩
      · show (zcf pf pc sn0 K).2 w = zsum (fun k => if (∀ j : Nat, j < k → ¬ ph j = ph k) ∧ pc ((k : Int) / 4) = w then 1 else 0) K + if (∀ j : Nat, j < K → ¬ ph j = ph K) ∧ pc ((K : Int) / 4) = w then 1 else 0
        rw [← i2 w, if_neg (fun z => z.1 j0 hj0 he0), Int.add_zero]
