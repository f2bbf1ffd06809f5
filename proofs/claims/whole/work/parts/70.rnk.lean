theorem zpr_mul {p x y : Int} (h : zPrm p) (hxy : p ∣ x * y) : p ∣ x ∨ p ∣ y := by
  by_cases q : p ∣ x
  · exact Or.inl q
  · right
    have hp := h.1
    have hg : Nat.gcd p.toNat x.natAbs = 1 := by
      have g1 := Nat.gcd_dvd_left p.toNat x.natAbs
      have g2 := Nat.gcd_dvd_right p.toNat x.natAbs
      generalize Nat.gcd p.toNat x.natAbs = g at g1 g2
      have gpos : 0 < g := Nat.pos_of_dvd_of_pos g1 (by omega)
      have gle := Nat.le_of_dvd (by omega) g1
      by_cases e1 : g = 1
      · exact e1
      · exfalso
        by_cases e2 : g = p.toNat
        · rw [e2] at g2
          refine q (Int.natAbs_dvd_natAbs.mp ?_)
          rw [show p.natAbs = p.toNat by omega]
          exact g2
        · refine h.2.2 g (by omega) (by omega) ?_
          have : (p.toNat : Int) % (g : Int) = 0 := by
            rw [← Int.natCast_emod, Nat.mod_eq_zero_of_dvd g1]; rfl
          rw [show (p.toNat : Int) = p by omega] at this
          exact this
    have hd : p.toNat ∣ x.natAbs * y.natAbs := by
      rw [← Int.natAbs_mul, show p.toNat = p.natAbs by omega]
      exact Int.natAbs_dvd_natAbs.mpr hxy
    have := Nat.Coprime.dvd_of_dvd_mul_left hg hd
    refine Int.natAbs_dvd_natAbs.mp ?_
    rw [show p.natAbs = p.toNat by omega]
    exact this
theorem zsm_dv {p x : Int} (h : 0 ≤ x ∧ x < p) (hd : p ∣ x) : x = 0 := zdv0 hd h.2 (by omega)
/-- the two eliminations go side by side -/
theorem zEl_Em {F0 G0 : Int → Int → Int} {rows p ar : Int} (hp : zPrm p) (har : ar ≤ 33) (h0 : ∀ i j, 0 ≤ i → i < rows → 0 ≤ j → j < ar → G0 i j = F0 i j ∧ 0 ≤ F0 i j ∧ F0 i j < p) : ∀ (n : Nat) {F G : Int → Int → Int} {fd d : Int}, (n : Int) ≤ ar → zEl F0 rows p n F fd → zEm G0 rows p ar n G d → fd = d ∧ 0 ≤ d ∧ ∃ u : Int → Int, (∀ i, 0 ≤ i → i < rows → ¬ p ∣ u i) ∧ ∀ i j, 0 ≤ i → i < rows → (n : Int) ≤ j → j < ar → (∃ k, G i j = u i * F i j + p * k) ∧ (0 ≤ F i j ∧ F i j < p) ∧ 0 ≤ G i j ∧ G i j < p
  | 0, F, G, fd, d, _, h1, h2 => by
    obtain ⟨rfl, rfl⟩ := h1
    obtain ⟨e1, rfl⟩ := h2
    refine ⟨rfl, Int.le_refl _, fun _ => 1, fun i _ _ q => ?_, fun i j i1 i2 j1 j2 => ?_⟩
    · have q : p ∣ 1 := q
      have := zdv0 q (by have := hp.1; omega) (by have := hp.1; omega)
      omega
    · have e := h0 i j i1 i2 (by omega) j2
      rw [e1 i j i1 i2 (by omega) j2, e.1]
      exact ⟨⟨0, by show _ = (1 : Int) * _ + p * 0; omega⟩, e.2, e.2⟩
  | n + 1, F, G, fd, d, hn, h1, h2 => by
    obtain ⟨F1, f1, a1, a2⟩ := h1
    obtain ⟨G1, d1, b1, b2⟩ := h2
    obtain ⟨e1, e0, u, hu, hs⟩ := zEl_Em hp har h0 n (by omega) a1 b1
    subst e1
    have hp2 := hp.1
    have keep : ∀ {G : Int → Int → Int}, (∀ i j, 0 ≤ i → i < rows → 0 ≤ j → j < ar → G i j = G1 i j) → ∃ u : Int → Int, (∀ i, 0 ≤ i → i < rows → ¬ p ∣ u i) ∧ ∀ i j, 0 ≤ i → i < rows → ((n + 1 : Nat) : Int) ≤ j → j < ar → (∃ k, G i j = u i * F1 i j + p * k) ∧ (0 ≤ F1 i j ∧ F1 i j < p) ∧ 0 ≤ G i j ∧ G i j < p := fun hG => ⟨u, hu, fun i j i1 i2 j1 j2 => by rw [hG i j i1 i2 (by omega) j2]; exact hs i j i1 i2 (by omega) j2⟩
    rcases a2 with ⟨c1, rfl, rfl⟩ | ⟨c1, r, c2, c3⟩
    · rcases b2 with ⟨_, g2, rfl⟩ | ⟨g1, _⟩
      · exact ⟨rfl, e0, keep g2⟩
      · omega
    · rcases b2 with ⟨g1, _⟩ | ⟨g1, r', g2, g3⟩
      · omega
      · -- the same pivot
        have hz : ∀ i, 0 ≤ i → i < rows → (F1 i n = 0 ↔ G1 i n = 0) := fun i i1 i2 => by
          obtain ⟨⟨k, hk⟩, r1, r2⟩ := hs i n i1 i2 (Int.le_refl _) (by omega)
          constructor
          · intro z; rw [z, Int.mul_zero, Int.zero_add] at hk; exact zsm_dv r2 ⟨k, hk⟩
          · intro z
            rw [z] at hk
            have : p ∣ u i * F1 i n := ⟨-k, by rw [Int.mul_neg]; omega⟩
            rcases zpr_mul hp this with q | q
            · exact absurd q (hu i i1 i2)
            · exact zsm_dv r1 q
        have hr : r = r' := by
          rcases c2 with ⟨p1, p2, p3, p4⟩ | ⟨p1, p2⟩ <;> rcases g2 with ⟨q1, q2, q3, q4⟩ | ⟨q1, q2⟩
          · by_cases k : r < r'
            · exact absurd ((hz r (by omega) p2).mpr (q4 r p1 k)) p3
            · by_cases k2 : r' < r
              · exact absurd ((hz r' (by omega) q2).mp (p4 r' q1 k2)) q3
              · omega
          · exact absurd ((hz r (by omega) p2).mpr (q2 r p1 p2)) p3
          · exact absurd ((hz r' (by omega) q2).mp (p2 r' q1 q2)) q3
          · omega
        subst hr
        rcases c3 with ⟨c4, rfl, rfl⟩ | ⟨c4, rfl, rfl⟩
        · rcases g3 with ⟨_, g4, rfl⟩ | ⟨g4, _⟩
          · exact ⟨rfl, e0, keep g4⟩
          · omega
        · rcases g3 with ⟨g4, _⟩ | ⟨g4, g5, rfl⟩
          · omega
          · have hrr : f1 ≤ r ∧ r < rows ∧ ¬ F1 r n = 0 := by
              rcases c2 with ⟨p1, p2, p3, _⟩ | ⟨p1, _⟩
              · exact ⟨p1, p2, p3⟩
              · omega
            have hsw : ∀ i, 0 ≤ i → i < rows → 0 ≤ zsi f1 r i ∧ zsi f1 r i < rows := fun i i1 i2 => zsi_in ⟨e0, c1⟩ ⟨by omega, hrr.2.1⟩ ⟨i1, i2⟩
            -- the swapped tables
            have hS : ∀ i j, 0 ≤ i → i < rows → (n : Int) ≤ j → j < ar → (∃ k, zswp G1 f1 r i j = u (zsi f1 r i) * zswp F1 f1 r i j + p * k) ∧ (0 ≤ zswp F1 f1 r i j ∧ zswp F1 f1 r i j < p) ∧ 0 ≤ zswp G1 f1 r i j ∧ zswp G1 f1 r i j < p := fun i j i1 i2 j1 j2 => hs _ j (hsw i i1 i2).1 (hsw i i1 i2).2 j1 j2
            have hU : ∀ i, 0 ≤ i → i < rows → ¬ p ∣ u (zsi f1 r i) := fun i i1 i2 => hu _ (hsw i i1 i2).1 (hsw i i1 i2).2
            have hpv : ¬ p ∣ zswp F1 f1 r f1 n := by
              have e : zswp F1 f1 r f1 n = F1 r n := by
                show F1 (zsi f1 r f1) n = F1 r n
                unfold zsi
                by_cases k : f1 = r
                · rw [if_pos k, k]
                · rw [if_neg k, if_pos rfl]
              rw [e]
              intro k
              exact hrr.2.2 (zsm_dv (hs r n (by omega) hrr.2.1 (Int.le_refl _) (by omega)).2.1 k)
            refine ⟨rfl, by omega, fun i => if f1 < i ∧ i < rows then (if zswp F1 f1 r i n = 0 then u (zsi f1 r f1) * u (zsi f1 r i) * zswp F1 f1 r f1 n else u (zsi f1 r f1) * u (zsi f1 r i)) else u (zsi f1 r i), fun i i1 i2 => ?_, fun i j i1 i2 j1 j2 => ?_⟩
            · have hd := hU f1 e0 c1
              have hi := hU i i1 i2
              have hdi : ¬ p ∣ u (zsi f1 r f1) * u (zsi f1 r i) := fun k => by rcases zpr_mul hp k with k | k; exact hd k; exact hi k
              show ¬ p ∣ (if f1 < i ∧ i < rows then (if zswp F1 f1 r i n = 0 then u (zsi f1 r f1) * u (zsi f1 r i) * zswp F1 f1 r f1 n else u (zsi f1 r f1) * u (zsi f1 r i)) else u (zsi f1 r i))
              split
              · split
                · intro k; rcases zpr_mul hp k with k | k; exact hdi k; exact hpv k
                · exact hdi
              · exact hi
            · have s1 := hS i j i1 i2 (by omega) j2
              have s2 := hS f1 j e0 c1 (by omega) j2
              have s3 := hS i n i1 i2 (Int.le_refl _) (by omega)
              have s4 := hS f1 n e0 c1 (Int.le_refl _) (by omega)
              have hg := g5 i j i1 i2 (by omega) j2
              have hcl : zclr (zswp F1 f1 r) f1 rows n p i j = if f1 < i ∧ i < rows then zcr (zswp F1 f1 r) f1 n p i j else zswp F1 f1 r i j := by
                unfold zclr
                by_cases k : f1 < i ∧ i < rows
                · rw [if_pos k, if_pos k]
                · rw [if_neg k, if_neg k]
              rw [hg, hcl]
              unfold zmcl
              by_cases k : f1 < i ∧ i < rows
              · rw [if_pos k, if_pos k]
                show (∃ w, _ = (if f1 < i ∧ i < rows then (if zswp F1 f1 r i n = 0 then u (zsi f1 r f1) * u (zsi f1 r i) * zswp F1 f1 r f1 n else u (zsi f1 r f1) * u (zsi f1 r i)) else u (zsi f1 r i)) * _ + p * w) ∧ _
                rw [if_pos k]
                obtain ⟨⟨k1, q1⟩, r1, r2⟩ := s1
                obtain ⟨⟨k2, q2⟩, r3, r4⟩ := s2
                obtain ⟨⟨k3, q3⟩, r5, r6⟩ := s3
                obtain ⟨⟨k4, q4⟩, r7, r8⟩ := s4
                have hm := Int.mul_ediv_add_emod (zswp G1 f1 r f1 n * zswp G1 f1 r i j - zswp G1 f1 r i n * zswp G1 f1 r f1 j) p
                have hm1 := zemr (x := zswp G1 f1 r f1 n * zswp G1 f1 r i j - zswp G1 f1 r i n * zswp G1 f1 r f1 j) hp2
                by_cases z : zswp F1 f1 r i n = 0
                · rw [show zcr (zswp F1 f1 r) f1 n p i j = zswp F1 f1 r i j by unfold zcr; rw [if_pos z], if_pos z]
                  refine ⟨?_, r1, hm1⟩
                  rw [z] at q3
                  rw [q4, q1, q3, q2] at hm ⊢
                  generalize (( u (zsi f1 r f1) * zswp F1 f1 r f1 n + p * k4) * (u (zsi f1 r i) * zswp F1 f1 r i j + p * k1) - (u (zsi f1 r i) * 0 + p * k3) * (u (zsi f1 r f1) * zswp F1 f1 r f1 j + p * k2)) / p = m at hm
                  refine ⟨u (zsi f1 r f1) * zswp F1 f1 r f1 n * k1 + k4 * (u (zsi f1 r i) * zswp F1 f1 r i j) + p * k4 * k1 - k3 * (u (zsi f1 r f1) * zswp F1 f1 r f1 j + p * k2) - m, ?_⟩
                  grind
                · have ec : zcr (zswp F1 f1 r) f1 n p i j = (zswp F1 f1 r i j * zswp F1 f1 r f1 n - zswp F1 f1 r f1 j * zswp F1 f1 r i n) % p := by
                    unfold zcr
                    rw [if_neg z]
                    exact if_pos ⟨by omega, by omega⟩
                  rw [ec, if_neg z]
                  have hn1 := Int.mul_ediv_add_emod (zswp F1 f1 r i j * zswp F1 f1 r f1 n - zswp F1 f1 r f1 j * zswp F1 f1 r i n) p
                  refine ⟨?_, zemr hp2, hm1⟩
                  rw [q4, q1, q3, q2] at hm ⊢
                  generalize ((u (zsi f1 r f1) * zswp F1 f1 r f1 n + p * k4) * (u (zsi f1 r i) * zswp F1 f1 r i j + p * k1) - (u (zsi f1 r i) * zswp F1 f1 r i n + p * k3) * (u (zsi f1 r f1) * zswp F1 f1 r f1 j + p * k2)) / p = m at hm
                  generalize (zswp F1 f1 r i j * zswp F1 f1 r f1 n - zswp F1 f1 r f1 j * zswp F1 f1 r i n) / p = m2 at hn1
                  refine ⟨u (zsi f1 r f1) * zswp F1 f1 r f1 n * k1 + k4 * (u (zsi f1 r i) * zswp F1 f1 r i j) + p * k4 * k1 - u (zsi f1 r i) * zswp F1 f1 r i n * k2 - k3 * (u (zsi f1 r f1) * zswp F1 f1 r f1 j) - p * k3 * k2 - m + u (zsi f1 r f1) * u (zsi f1 r i) * m2, ?_⟩
                  grind
              · rw [if_neg k, if_neg k]
                show (∃ w, _ = (if f1 < i ∧ i < rows then (if zswp F1 f1 r i n = 0 then u (zsi f1 r f1) * u (zsi f1 r i) * zswp F1 f1 r f1 n else u (zsi f1 r f1) * u (zsi f1 r i)) else u (zsi f1 r i)) * _ + p * w) ∧ _
                rw [if_neg k]
                exact s1
