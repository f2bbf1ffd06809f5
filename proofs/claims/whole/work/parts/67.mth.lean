theorem zterm_le {f : Nat → Int} (hf : ∀ i, 0 ≤ f i) {k : Nat} : ∀ {n : Nat}, k < n → f k ≤ zsum f n
  | 0, h => absurd h (Nat.not_lt_zero _)
  | n + 1, h => by
    show f k ≤ zsum f n + f n
    have hs : 0 ≤ zsum f n := by
      have := zsum_le (f := fun _ => 0) (g := f) (n := n) (fun i _ => hf i)
      rw [zsum_zero (fun _ _ => rfl)] at this
      exact this
    by_cases q : k = n
    · rw [q]; omega
    · have := zterm_le hf (k := k) (n := n) (by omega)
      have := hf n
      omega
/-- a minor: rows rh, without column a -/
def zmP (sg N : Int → Int) (M : Nat) (rh : Nat → Nat) (a : Nat) : Int → Int := zpd M (fun i j => zeO sg N (rh i) (zkp a j)) (fun i j => zeT sg N (rh i) (zkp a j))
theorem zmP_12 {sg N : Int → Int} {M : Nat} {rh : Nat → Nat} {a : Nat} (hM : M ≤ 12) : zS12 (zmP sg N M rh a) := ⟨fun e he => zpd_out (Or.inl he), fun e he => zpd_out (Or.inr (by omega))⟩
theorem zmP_ev {sg N : Int → Int} {M : Nat} {rh : Nat → Nat} {a : Nat} (hM : M ≤ 12) (t : Int) : zev (zmP sg N M rh a) t 25 = zdt M (fun i j => zeO sg N (rh i) (zkp a j) + zeT sg N (rh i) (zkp a j) * t) := zpd_ev t (by omega)
theorem zmP_bd {sg N : Int → Int} {M : Nat} {rh : Nat → Nat} {a : Nat} (hM : M ≤ 12) (e : Int) : -16777216 ≤ zmP sg N M rh a e ∧ zmP sg N M rh a e ≤ 16777216 := by
  have h1 := zpd_bd (n := M) (A := fun i j => zeO sg N (rh i) (zkp a j)) (B := fun i j => zeT sg N (rh i) (zkp a j)) (e := e) (fun i _ => by
    have k1 := (zsum_kp (f := fun j => zab (zeO sg N (rh i) j) + zab (zeT sg N (rh i) j)) (j := a) (fun b => by have := zab_nn (zeO sg N (rh i) b); have := zab_nn (zeT sg N (rh i) b); omega) M).1
    have k2 := zrow4 sg N (rh i) (M + 1)
    exact Int.le_trans k1 k2)
  have h2 : (4 : Int) ^ M ≤ 16777216 := by
    rcases (show M = 0 ∨ M = 1 ∨ M = 2 ∨ M = 3 ∨ M = 4 ∨ M = 5 ∨ M = 6 ∨ M = 7 ∨ M = 8 ∨ M = 9 ∨ M = 10 ∨ M = 11 ∨ M = 12 by omega) with rfl | rfl | rfl | rfl | rfl | rfl | rfl | rfl | rfl | rfl | rfl | rfl | rfl <;> decide
  have h3 : zab (zmP sg N M rh a e) ≤ 16777216 := Int.le_trans h1 h2
  generalize zmP sg N M rh a e = x at h3
  have h4 : (if x < 0 then -x else x) ≤ 16777216 := h3
  split at h4 <;> omega
/-- another column left out: but a sign -/
theorem zmP_col {sg N : Int → Int} {M : Nat} {rh : Nat → Nat} {a b : Nat} (hN : ∀ i, i < M → (0 ≤ N (4 * (rh i : Int)) ∧ N (4 * (rh i : Int)) < ((M + 1 : Nat) : Int)) ∧ (0 ≤ N (4 * (rh i : Int) + 1) ∧ N (4 * (rh i : Int) + 1) < ((M + 1 : Nat) : Int)) ∧ 0 ≤ N (4 * (rh i : Int) + 2) ∧ N (4 * (rh i : Int) + 2) < ((M + 1 : Nat) : Int)) (ha : a ≤ M) (hb : b ≤ M) (t : Int) : zdt M (fun i j => zeO sg N (rh i) (zkp a j) + zeT sg N (rh i) (zkp a j) * t) = zgn (a + b) * zdt M (fun i j => zeO sg N (rh i) (zkp b j) + zeT sg N (rh i) (zkp b j) * t) := by
  have h := zdw (N := M) (Y := fun c i => zeO sg N (rh i) c + zeT sg N (rh i) c * t) (u := fun _ => 1) (fun i hi => by
    have k := hN i hi
    rw [zsum_congr (g := fun c => zeO sg N (rh i) c + zeT sg N (rh i) c * t) (fun c _ => Int.one_mul _)]
    exact zrow0 k.1 k.2.1 k.2.2 t) (fun _ _ => by decide) ha hb
  rw [Int.one_mul, Int.one_mul] at h
  have e1 := zdt_tr M (fun i j => zeO sg N (rh i) (zkp a j) + zeT sg N (rh i) (zkp a j) * t)
  have e2 := zdt_tr M (fun i j => zeO sg N (rh i) (zkp b j) + zeT sg N (rh i) (zkp b j) * t)
  rw [← e1, ← e2]
  exact h
/-- the model's minors are these -/
theorem zav_mP {sg N on tw av : Int → Int} {nn ar wo b : Int} (hnn : 0 ≤ nn ∧ nn ≤ 12) (hF : zFi sg N nn on tw) (har : ar ≤ 13) (hb : 0 ≤ b ∧ b < ar) (hd : zdn wo nn.toNat = ar - 1) (hw : -1 ≤ wo ∧ wo < nn) (e : Int) : zDD on tw ar.toNat wo nn.toNat (2 ^ ar.toNat - 1 - 2 ^ b.toNat) e = zmP sg N (ar - 1).toNat (fun i => (zsr wo i).toNat) b.toNat e := by
  rw [zDD_min hb har hd]
  unfold zmP
  refine zpd_congr fun i j hi hj => ?_
  have hk : ((zkp b.toNat j : Nat) : Int) = zsc b j := by unfold zkp zsc; by_cases q : j < b.toNat; rw [if_pos q, if_neg (by omega)]; rw [if_neg q, if_pos (by omega)]; omega
  have hr : 0 ≤ zsr wo i ∧ zsr wo i < nn := by
    rw [zdn_eq] at hd
    unfold zsr
    split at hd
    · split <;> omega
    · split <;> omega
  have hj2 : 0 ≤ zsc b j ∧ zsc b j < 32 := by unfold zsc; split <;> omega
  rw [hk, hF.1 _ (by omega) (by omega), hF.2 _ (by omega) (by omega), show (32 * zsr wo i + zsc b j) / 32 = zsr wo i by omega, show (32 * zsr wo i + zsc b j) % 32 = zsc b j by omega, if_pos hr.2, if_pos hr.2]
  rw [show (((zsr wo i).toNat : Nat) : Int) = zsr wo i by omega]
  exact ⟨rfl, rfl⟩
theorem zMth_of {sg lb : Int → Int} {nn cir : Int} (hnn : 0 ≤ nn ∧ nn ≤ 12) (hcir : 0 ≤ cir ∧ cir ≤ 9) (hi : ∀ j, inI (lb j)) (hG : zGd sg lb (4 * nn)) (hH : zHt sg lb nn) (hs : ∀ k, 0 ≤ k → k < nn → sg k = 1 ∨ sg k = -1) : zMth nn cir sg lb := fun c0 al N on tw hA hN hF => by
  have hX := zAx_N hN
  have hge := zAl_ge hnn.1 hi hG hX hA
  have hle := zAl_le hnn.1 hi hG hH hX hA
  refine ⟨hge, by by_cases q : 0 < nn; have := hle.2 q; omega; omega, fun mns av hM => ?_⟩
  have hNb : ∀ x, 0 ≤ x → x < 4 * nn → x % 4 ≠ 3 → 0 ≤ N x ∧ N x < c0 := fun x h1 h2 h3 => zNx_lt hA (hN x h1 h2 h3)
  rcases hM with ⟨_, hm⟩ | ⟨h13, har, hm, hav⟩ | ⟨h12, har, hm, hav⟩
  · exact ⟨fun j h1 h2 => by omega, fun mi ki lo fm h1 h2 => by omega⟩
  · -- one column more than rows
    have hd : zdn (-1) nn.toNat = c0 + cir - 1 := by rw [zdn_eq, if_neg (by omega)]; omega
    have hrow : ∀ j, 0 ≤ j → j < mns → ∀ e, 0 ≤ e → e < 14 → av (14 * j + e) = zmP sg N (c0 + cir - 1).toNat (fun i => (zsr (-1) i).toNat) j.toNat e := fun j h1 h2 e e1 e2 => by
      have k := hav (-1) j e (Int.le_refl _) h1 (by omega) e1 e2 (Or.inl (by omega))
      rw [show (-1 : Int) - -1 = 0 by omega, Int.mul_zero, Int.zero_add] at k
      rw [k]
      exact zav_mP (av := av) hnn hF h13.2 ⟨h1, by omega⟩ hd ⟨by omega, by omega⟩ e
    refine ⟨fun j h1 h2 e e1 e2 => ?_, fun mi ki lo fm h1 h2 h3 h4 h5 h6 h7 => ?_⟩
    · rw [hrow j h1 h2 e e1 e2]
      have := zmP_bd (sg := sg) (N := N) (rh := fun i => (zsr (-1) i).toNat) (a := j.toNat) (show (c0 + cir - 1).toNat ≤ 12 by omega) e
      omega
    · have hM12 : (c0 + cir - 1).toNat ≤ 12 := by omega
      refine ⟨zgn (ki.toNat + mi.toNat), by rcases zgn_or (ki.toNat + mi.toNat) with q | q <;> omega, fun z z1 _ => ?_⟩
      refine zrow_as (p := ((0 : Nat) : Int)) (q := ((0 : Nat) : Int)) (zmP_12 hM12) (zmP_12 hM12) (by rcases zgn_or (ki.toNat + mi.toNat) with q | q <;> omega) (hrow ki h3 h4) (hrow mi h1 h2) ?_ h5 h6 h7 z z1
      refine zev_sh 1 (zmP_12 hM12) (zmP_12 hM12) fun t _ => ?_
      rw [Int.pow_zero, Int.one_mul, Int.one_mul, zmP_ev hM12, zmP_ev hM12]
      refine zmP_col (fun i hi2 => ?_) (by omega) (by omega) t
      have e1 : zsr (-1) i = i := if_neg (by omega)
      show (0 ≤ N (4 * (((zsr (-1) i).toNat : Nat) : Int)) ∧ _) ∧ _
      rw [e1, Int.toNat_natCast]
      have n0 := hNb (4 * (i : Int)) (by omega) (by omega) (by omega)
      have n1 := hNb (4 * (i : Int) + 1) (by omega) (by omega) (by omega)
      have n2 := hNb (4 * (i : Int) + 2) (by omega) (by omega) (by omega)
      exact ⟨⟨n0.1, by omega⟩, ⟨n1.1, by omega⟩, n2.1, by omega⟩
  · -- as many columns as rows
    obtain ⟨h, hh⟩ := hH
    have hn1 : 1 ≤ nn := by omega
    have hNa : ∀ x y, 0 ≤ x → x < 4 * nn → 0 ≤ y → y < 4 * nn → lb x = lb y → zNa N x = zNa N y := fun x y x1 x2 y1 y2 he => zNx_un (zNa_x hN x x1 x2) (zNa_x hN y y1 y2) he
    obtain ⟨K, hK⟩ : ∃ K, ∀ k, 0 ≤ k → k < nn → h k ≤ K := ⟨zsum (fun k => zab (h (k : Int))) nn.toNat, fun k k1 k2 => by
      have := zterm_le (f := fun k => zab (h (k : Int))) (fun i => zab_nn _) (k := k.toNat) (n := nn.toNat) (by omega)
      rw [show ((k.toNat : Nat) : Int) = k by omega] at this
      have h2 : h k ≤ zab (h k) := by show h k ≤ if h k < 0 then -h k else h k; split <;> omega
      omega⟩
    have hd : ∀ k, 0 ≤ k → k < nn → zdn k nn.toNat = c0 + cir - 1 := fun k k1 k2 => by rw [zdn_eq, if_pos (by omega)]; omega
    have hmi : ∀ j, 0 ≤ j → j < mns → (0 ≤ j / (c0 + cir) ∧ j / (c0 + cir) < nn) ∧ (0 ≤ j % (c0 + cir) ∧ j % (c0 + cir) < c0 + cir) ∧ j = (c0 + cir) * (j / (c0 + cir) - 0) + j % (c0 + cir) := fun j h1 h2 => by
      have d1 := Int.ediv_nonneg h1 (show 0 ≤ c0 + cir by omega)
      have d2 := Int.emod_nonneg j (show c0 + cir ≠ 0 by omega)
      have d3 := Int.emod_lt_of_pos j (show 0 < c0 + cir by omega)
      have d4 := Int.mul_ediv_add_emod j (c0 + cir)
      refine ⟨⟨d1, ?_⟩, ⟨d2, d3⟩, by rw [Int.sub_zero]; omega⟩
      rw [hm] at h2
      exact Int.ediv_lt_of_lt_mul (by omega) (by rw [Int.mul_comm]; exact h2)
    have hrow : ∀ j, 0 ≤ j → j < mns → ∀ e, 0 ≤ e → e < 14 → av (14 * j + e) = zmP sg N (c0 + cir - 1).toNat (fun i => (zsr (j / (c0 + cir)) i).toNat) (j % (c0 + cir)).toNat e := fun j h1 h2 e e1 e2 => by
      obtain ⟨k1, k2, k3⟩ := hmi j h1 h2
      have k := hav (j / (c0 + cir)) (j % (c0 + cir)) e k1.1 k2.1 k2.2 e1 e2 (Or.inl (by omega))
      rw [← k3] at k
      rw [k]
      exact zav_mP (av := av) hnn hF (by omega) k2 (hd _ k1.1 k1.2) ⟨by omega, by omega⟩ e
    have hM12 : (c0 + cir - 1).toNat ≤ 12 := by omega
    refine ⟨fun j h1 h2 e e1 e2 => ?_, fun mi ki lo fm h1 h2 h3 h4 h5 h6 h7 => ?_⟩
    · rw [hrow j h1 h2 e e1 e2]
      have := zmP_bd (sg := sg) (N := N) (rh := fun i => (zsr (j / (c0 + cir)) i).toNat) (a := (j % (c0 + cir)).toNat) hM12 e
      omega
    · obtain ⟨m1, m2, m3⟩ := hmi mi h1 h2
      obtain ⟨k1, k2, k3⟩ := hmi ki h3 h4
      have rmi := hrow mi h1 h2
      have rki := hrow ki h3 h4
      generalize mi / (c0 + cir) = km at m1 m3 rmi
      generalize mi % (c0 + cir) = am at m2 m3 rmi
      generalize ki / (c0 + cir) = kk at k1 k3 rki
      generalize ki % (c0 + cir) = ak at k2 k3 rki
      have sm := hs km m1.1 m1.2
      have sk := hs kk k1.1 k1.2
      -- v_km D(kk, ak) = +- v_kk D(km, am)
      have key : ∀ t, 1 ≤ t → t ^ (K - h km).toNat * zev (zmP sg N (c0 + cir - 1).toNat (fun i => (zsr kk i).toNat) ak.toNat) t 25 = (zgn (kk.toNat + km.toNat) * sg kk * sg km * zgn (ak.toNat + am.toNat)) * (t ^ (K - h kk).toNat * zev (zmP sg N (c0 + cir - 1).toNat (fun i => (zsr km i).toNat) am.toNat) t 25) := fun t ht => by
        rw [zmP_ev hM12, zmP_ev hM12]
        have hzr : ∀ w : Int, 0 ≤ w → ∀ i : Nat, (zsr w i).toNat = zkp w.toNat i := fun w w0 i => by unfold zsr zkp; by_cases q : i < w.toNat; rw [if_neg (by omega), if_pos q]; omega; rw [if_pos (by omega), if_neg q]; omega
        have ck := zmP_col (sg := sg) (N := N) (M := (c0 + cir - 1).toNat) (rh := fun i => (zsr kk i).toNat) (a := ak.toNat) (b := am.toNat) (fun i hi2 => by
          have hr : 0 ≤ zsr kk i ∧ zsr kk i < nn := by unfold zsr; split <;> omega
          show (0 ≤ N (4 * (((zsr kk i).toNat : Nat) : Int)) ∧ _) ∧ _
          rw [show (((zsr kk i).toNat : Nat) : Int) = zsr kk i by omega]
          have n0 := hNb (4 * zsr kk i) (by omega) (by omega) (by omega)
          have n1 := hNb (4 * zsr kk i + 1) (by omega) (by omega) (by omega)
          have n2 := hNb (4 * zsr kk i + 2) (by omega) (by omega) (by omega)
          exact ⟨⟨n0.1, by omega⟩, ⟨n1.1, by omega⟩, n2.1, by omega⟩) (by omega) (by omega) t
        have hw := zdw (N := (c0 + cir - 1).toNat) (Y := fun k j => zeO sg N (k : Int) (zkp am.toNat j) + zeT sg N (k : Int) (zkp am.toNat j) * t) (u := fun k => sg (k : Int) * t ^ (K - h (k : Int)).toNat) (fun j _ => by
          have z := znull hnn.1 hG hs hK hh hNa t (zkp am.toNat j)
          rw [show (c0 + cir - 1).toNat + 1 = nn.toNat by omega]
          exact z) (fun k hk => by
          have s := hs (k : Int) (by omega) (by omega)
          have p : 0 < t ^ (K - h (k : Int)).toNat := Int.pow_pos (by omega)
          show sg (k : Int) * t ^ (K - h (k : Int)).toNat ≠ 0
          rcases s with s | s <;> rw [s] <;> omega) (a := kk.toNat) (b := km.toNat) (by omega) (by omega)
        have e1 : ∀ w : Int, 0 ≤ w → zdt (c0 + cir - 1).toNat (fun i j => zeO sg N (((zsr w i).toNat : Nat) : Int) (zkp am.toNat j) + zeT sg N (((zsr w i).toNat : Nat) : Int) (zkp am.toNat j) * t) = zdt (c0 + cir - 1).toNat (fun i j => zeO sg N ((zkp w.toNat i : Nat) : Int) (zkp am.toNat j) + zeT sg N ((zkp w.toNat i : Nat) : Int) (zkp am.toNat j) * t) := fun w w0 => zdt_congr fun i j _ _ => by rw [hzr w w0 i]
        have ck2 := ck
        rw [ck2, e1 kk k1.1, e1 km m1.1]
        rw [show ((km.toNat : Nat) : Int) = km by omega, show ((kk.toNat : Nat) : Int) = kk by omega] at hw
        generalize zdt (c0 + cir - 1).toNat (fun i j => zeO sg N ((zkp kk.toNat i : Nat) : Int) (zkp am.toNat j) + zeT sg N ((zkp kk.toNat i : Nat) : Int) (zkp am.toNat j) * t) = Dk at hw ⊢
        generalize zdt (c0 + cir - 1).toNat (fun i j => zeO sg N ((zkp km.toNat i : Nat) : Int) (zkp am.toNat j) + zeT sg N ((zkp km.toNat i : Nat) : Int) (zkp am.toNat j) * t) = Dm at hw ⊢
        generalize t ^ (K - h km).toNat = Tm at hw ⊢
        generalize t ^ (K - h kk).toNat = Tk at hw ⊢
        have ss : sg km * sg km = 1 := by rcases sm with s | s <;> rw [s] <;> rfl
        generalize sg km = a at hw ss ⊢
        generalize sg kk = b at hw ⊢
        generalize zgn (kk.toNat + km.toNat) = g at hw ⊢
        generalize zgn (ak.toNat + am.toNat) = g2
        have f1 : Tm * (g2 * Dk) = g2 * (a * a * (Tm * Dk)) := by rw [ss]; grind
        have f2 : g2 * (a * a * (Tm * Dk)) = g2 * (a * (a * Tm * Dk)) := by grind
        rw [f1, f2, hw]
        grind
      have hep : zgn (kk.toNat + km.toNat) * sg kk * sg km * zgn (ak.toNat + am.toNat) = 1 ∨ zgn (kk.toNat + km.toNat) * sg kk * sg km * zgn (ak.toNat + am.toNat) = -1 := by
        rcases zgn_or (kk.toNat + km.toNat) with a | a <;> rcases zgn_or (ak.toNat + am.toNat) with b | b <;> rcases sm with c | c <;> rcases sk with d | d <;> rw [a.2, b.2, c, d] <;> decide
      refine ⟨zgn (kk.toNat + km.toNat) * sg kk * sg km * zgn (ak.toNat + am.toNat), hep, fun z z1 _ => ?_⟩
      exact zrow_as (p := (((K - h km).toNat : Nat) : Int)) (q := (((K - h kk).toNat : Nat) : Int)) (zmP_12 hM12) (zmP_12 hM12) hep rki rmi (zev_sh 1 (zmP_12 hM12) (zmP_12 hM12) key) h5 h6 h7 z z1
