theorem zsum_one {n : Nat} {f : Nat → Int} {B : Int} (h01 : ∀ x, x < n → f x = 0 ∨ f x = 1) (h1 : ∀ x y, x < n → y < n → f x = 1 → f y = 1 → x = y) (hB0 : 0 ≤ B) (hB : ∀ x, x < n → f x = 1 → 1 ≤ B) : zsum f n ≤ B := by
  by_cases h : ∃ x, x < n ∧ f x = 1
  · obtain ⟨k, hk, hf⟩ := h
    have e : zsum f n = zsum (fun i => if i = k then 1 else 0) n := by
      refine zsum_congr fun i hi => ?_
      by_cases q : i = k
      · rw [if_pos q, q, hf]
      · rw [if_neg q]
        rcases h01 i hi with z | z
        · exact z
        · exact absurd (h1 i k hi hk z hf) q
    rw [e, zsum_pick 1 hk]
    exact hB k hk hf
  · rw [zsum_zero]
    · exact hB0
    · intro i hi
      rcases h01 i hi with z | z
      · exact z
      · exact absurd ⟨i, hi, z⟩ h
theorem zsum_inj {N n : Nat} {f q : Nat → Int} {g : Nat → Nat} (h01 : ∀ x, x < N → f x = 0 ∨ f x = 1) (hg : ∀ x, x < N → f x = 1 → g x < n ∧ 1 ≤ q (g x)) (hq : ∀ k, k < n → 0 ≤ q k) (hin : ∀ x y, x < N → y < N → f x = 1 → f y = 1 → g x = g y → x = y) : zsum f N ≤ zsum q n := by
  have e : zsum f N = zsum (fun x => zsum (fun k => if k = g x then f x else 0) n) N := by
    refine zsum_congr fun x hx => ?_
    rcases h01 x hx with z | z
    · rw [z]
      exact (zsum_zero fun i _ => by simp).symm
    · exact (zsum_pick (f x) (hg x hx z).1).symm
  rw [e, zsum_swap]
  refine zsum_le fun k hk => ?_
  refine zsum_one (fun x hx => ?_) (fun x y hx hy ex ey => ?_) (hq k hk) (fun x hx ex => ?_)
  · by_cases z : k = g x
    · rw [if_pos z]; exact h01 x hx
    · rw [if_neg z]; exact Or.inl rfl
  · by_cases z : k = g x
    · by_cases z' : k = g y
      · rw [if_pos z] at ex
        rw [if_pos z'] at ey
        exact hin x y hx hy ex ey (z.symm.trans z')
      · rw [if_neg z'] at ey; omega
    · rw [if_neg z] at ex; omega
  · by_cases z : k = g x
    · rw [if_pos z] at ex
      rw [z]
      exact (hg x hx ex).2
    · rw [if_neg z] at ex; omega
abbrev mgs (a b : Nat → Nat) (x : Nat) : Prop := ¬ lbl a b x (a x) = lbl a b x (b x)
abbrev pc_a (x : Nat) : Nat := x / 4
abbrev pc_b (r : Nat → Nat) (x : Nat) : Nat := r x / 4
abbrev tre (r : Nat → Nat) (x : Nat) : Prop := mgs pc_a (pc_b r) x ∨ mgs pc_a (pc_b r) (r x)
abbrev fc_b (r fl : Nat → Nat) (x : Nat) : Nat := if tre r x then fl x else fl (r x)
abbrev rtp (x : Nat) : Nat := x / 4 * 4 + (x + 3) % 4
abbrev rtn (x : Nat) : Nat := x / 4 * 4 + (x + 1) % 4
theorem rtp_lt {n x : Nat} (h : x < 4 * n) : rtp x < 4 * n := by unfold rtp; omega
theorem rtn_lt {n x : Nat} (h : x < 4 * n) : rtn x < 4 * n := by unfold rtn; omega
theorem rtp_rtn (x : Nat) : rtp (rtn x) = x := by unfold rtp rtn; omega
theorem rtn_rtp (x : Nat) : rtn (rtp x) = x := by unfold rtp rtn; omega
theorem rtp_div (x : Nat) : rtp x / 4 = x / 4 := by unfold rtp; omega
theorem rtn_div (x : Nat) : rtn x / 4 = x / 4 := by unfold rtn; omega
/-- r pairs the 4 n places; fl tells faces -/
def mapOk (n : Nat) (r fl : Nat → Nat) : Prop := (∀ x, x < 4 * n → r x < 4 * n ∧ r (r x) = x ∧ r x ≠ x) ∧ ∀ x, x < 4 * n → fl x < 4 * n ∧ fl (fl x) = fl x ∧ fl (r (rtp x)) = fl x
section MAPS
variable {n : Nat} {r fl : Nat → Nat}
theorem mp_r (h : mapOk n r fl) {x : Nat} (hx : x < 4 * n) : r x < 4 * n := (h.1 x hx).1
theorem mp_rr (h : mapOk n r fl) {x : Nat} (hx : x < 4 * n) : r (r x) = x := (h.1 x hx).2.1
theorem mp_rn (h : mapOk n r fl) {x : Nat} (hx : x < 4 * n) : fl (r x) = fl (rtn x) := by
  have h1 := (h.2 (rtn x) (rtn_lt hx)).2.2
  rw [rtp_rtn] at h1
  exact h1
theorem mp_pair (h : mapOk n r fl) (f : Nat → Int) : zsum (fun x => f (r x)) (4 * n) = zsum f (4 * n) :=
  zsum_perm (fun x hx => mp_r h hx) (fun x hx => mp_r h hx) (fun x hx => mp_rr h hx) (fun x hx => mp_rr h hx) f
theorem mp_tre (h : mapOk n r fl) {x : Nat} (hx : x < 4 * n) : tre r (r x) ↔ tre r x := by
  show mgs pc_a (pc_b r) (r x) ∨ mgs pc_a (pc_b r) (r (r x)) ↔ mgs pc_a (pc_b r) x ∨ mgs pc_a (pc_b r) (r x)
  rw [mp_rr h hx]
  exact Or.comm
theorem mp_once (h : mapOk n r fl) {x : Nat} (hx : x < 4 * n) : ¬ (mgs pc_a (pc_b r) x ∧ mgs pc_a (pc_b r) (r x)) := by
  intro ⟨h1, h2⟩
  have hne := (h.1 x hx).2.2
  rcases Nat.lt_or_ge x (r x) with q | q
  · apply h2
    have := lbl_edge (a := pc_a) (b := pc_b r) q
    show lbl pc_a (pc_b r) (r x) (r x / 4) = lbl pc_a (pc_b r) (r x) (r (r x) / 4)
    rw [mp_rr h hx]
    exact this.symm
  · apply h1
    have := lbl_edge (a := pc_a) (b := pc_b r) (show r x < x by omega)
    show lbl pc_a (pc_b r) x (x / 4) = lbl pc_a (pc_b r) x (r x / 4)
    have e : pc_b r (r x) = x / 4 := by show r (r x) / 4 = _; rw [mp_rr h hx]
    rw [e] at this
    exact this.symm
theorem mp_once2 (h : mapOk n r fl) {x : Nat} (hx : x < 4 * n) : ¬ (mgs fl (fc_b r fl) x ∧ mgs fl (fc_b r fl) (r x)) := by
  intro ⟨h1, h2⟩
  have hne := (h.1 x hx).2.2
  by_cases ht : tre r x
  · apply h1
    show lbl fl (fc_b r fl) x (fl x) = lbl fl (fc_b r fl) x (if tre r x then fl x else fl (r x))
    rw [if_pos ht]
  · have ht' : ¬ tre r (r x) := fun q => ht ((mp_tre h hx).mp q)
    have e1 : fc_b r fl x = fl (r x) := if_neg ht
    have e2 : fc_b r fl (r x) = fl x := by show (if tre r (r x) then fl (r x) else fl (r (r x))) = _; rw [if_neg ht', mp_rr h hx]
    rcases Nat.lt_or_ge x (r x) with q | q
    · apply h2
      have := lbl_edge (a := fl) (b := fc_b r fl) q
      rw [e1] at this
      rw [e2]
      exact this.symm
    · apply h1
      have := lbl_edge (a := fl) (b := fc_b r fl) (show r x < x by omega)
      rw [e2] at this
      rw [e1]
      exact this.symm
/-- sums at one end, of what lives on some of the places of each edge -/
theorem mp_fold (h : mapOk n r fl) (S : Nat → Prop) [DecidablePred S] (key : Nat → Nat) (v : Nat) (g : Nat → Int) (hg : ∀ x, x < 4 * n → g (r x) = -g x) (hS : ∀ x, x < 4 * n → ¬ (S x ∧ S (r x))) (h0 : ∀ x, x < 4 * n → ¬ S x → ¬ S (r x) → g x = 0) :
    zsum (fun x => (if key x = v then (if S x then g x else 0) else 0) - (if key (r x) = v then (if S x then g x else 0) else 0)) (4 * n) = zsum (fun x => if key x = v then g x else 0) (4 * n) := by
  have e1 : zsum (fun x => if key (r x) = v then (if S x then g x else 0) else 0) (4 * n) = zsum (fun y => if key y = v then (if S (r y) then -g y else 0) else 0) (4 * n) := by
    rw [← mp_pair h (fun y => if key y = v then (if S (r y) then -g y else 0) else 0)]
    refine zsum_congr fun x hx => ?_
    rw [mp_rr h hx, hg x hx, Int.neg_neg]
  rw [zsum_sub, e1, ← zsum_sub]
  refine zsum_congr fun x hx => ?_
  by_cases hv : key x = v
  · rw [if_pos hv, if_pos hv, if_pos hv]
    by_cases h1 : S x
    · have h2 : ¬ S (r x) := fun q => hS x hx ⟨h1, q⟩
      rw [if_pos h1, if_neg h2]
      omega
    · by_cases h2 : S (r x)
      · rw [if_neg h1, if_pos h2]
        omega
      · rw [if_neg h1, if_neg h2, h0 x hx h1 h2]
        omega
  · rw [if_neg hv, if_neg hv, if_neg hv]
    omega
/-- a number told by faces, that the edges off the tree keep, is told by pieces -/
theorem mp_piece (h : mapOk n r fl) {u : Nat → Int} (hf : ∀ x y, x < 4 * n → y < 4 * n → fl x = fl y → u x = u y) (hu : ∀ x, x < 4 * n → ¬ tre r x → u (r x) = u x) :
    ∀ x y, x < 4 * n → y < 4 * n → lbl pc_a (pc_b r) (4 * n) (x / 4) = lbl pc_a (pc_b r) (4 * n) (y / 4) → u x = u y := by
  have hn : ∀ x, x < 4 * n → u (r x) = u (rtn x) := fun x hx => hf _ _ (mp_r h hx) (rtn_lt hx) (mp_rn h hx)
  have hz : ∀ x, x < 4 * n → (if mgs pc_a (pc_b r) x then u x - u (r x) else 0) = 0 := by
    refine flow_zero (a := pc_a) (b := pc_b r) (N := n) (fun i hi => by show i / 4 < n; omega) (fun i hi => by have := mp_r h hi; show r i / 4 < n; omega) (fun i hi hm => if_neg (fun q => q hm)) (fun v hv => ?_)
    have e := mp_fold h (fun x => mgs pc_a (pc_b r) x) pc_a v (fun x => u x - u (r x)) (fun x hx => by show u (r x) - u (r (r x)) = _; rw [mp_rr h hx]; omega) (fun x hx => mp_once h hx) (fun x hx h1 h2 => by
      have := hu x hx (fun q => q.elim h1 h2)
      show u x - u (r x) = 0
      omega)
    refine Eq.trans e ?_
    have e2 : zsum (fun x => if pc_a x = v then u x - u (r x) else 0) (4 * n) = zsum (fun x => (if x / 4 = v then u x else 0) - (if rtn x / 4 = v then u (rtn x) else 0)) (4 * n) := by
      refine zsum_congr fun x hx => ?_
      have e3 : rtn x / 4 = x / 4 := rtn_div x
      show (if x / 4 = v then u x - u (r x) else 0) = _
      rw [e3, hn x hx]
      by_cases q : x / 4 = v
      · rw [if_pos q, if_pos q, if_pos q]
      · rw [if_neg q, if_neg q, if_neg q]
        rfl
    rw [e2, zsum_sub, zsum_perm (u := rtn) (v := rtp) (fun x hx => rtn_lt hx) (fun x hx => rtp_lt hx) (fun x _ => rtp_rtn x) (fun x _ => rtn_rtp x) (fun y => if y / 4 = v then u y else 0)]
    omega
  have hr : ∀ x, x < 4 * n → u (r x) = u x := by
    intro x hx
    by_cases h1 : mgs pc_a (pc_b r) x
    · have := hz x hx
      rw [if_pos h1] at this
      omega
    · by_cases h2 : mgs pc_a (pc_b r) (r x)
      · have := hz (r x) (mp_r h hx)
        rw [if_pos h2, mp_rr h hx] at this
        omega
      · exact hu x hx (fun q => q.elim h1 h2)
  have hrot : ∀ x, x < 4 * n → u (rtn x) = u x := fun x hx => (hn x hx).symm.trans (hr x hx)
  have hblk : ∀ k, k < n → u (4 * k + 1) = u (4 * k) ∧ u (4 * k + 2) = u (4 * k) ∧ u (4 * k + 3) = u (4 * k) := by
    intro k hk
    have h1 := hrot (4 * k) (by omega)
    have h2 := hrot (4 * k + 1) (by omega)
    have h3 := hrot (4 * k + 2) (by omega)
    rw [show rtn (4 * k) = 4 * k + 1 by unfold rtn; omega] at h1
    rw [show rtn (4 * k + 1) = 4 * k + 2 by unfold rtn; omega] at h2
    rw [show rtn (4 * k + 2) = 4 * k + 3 by unfold rtn; omega] at h3
    omega
  have hsame : ∀ x y, x < 4 * n → y < 4 * n → x / 4 = y / 4 → u x = u y := by
    have hb : ∀ x, x < 4 * n → u x = u (4 * (x / 4)) := by
      intro x hx
      obtain ⟨h1, h2, h3⟩ := hblk (x / 4) (by omega)
      rcases (show x = 4 * (x / 4) ∨ x = 4 * (x / 4) + 1 ∨ x = 4 * (x / 4) + 2 ∨ x = 4 * (x / 4) + 3 by omega) with q | q | q | q
      · rw [← q]
      · exact (congrArg u q).trans h1
      · exact (congrArg u q).trans h2
      · exact (congrArg u q).trans h3
    intro x y hx hy e
    rw [hb x hx, hb y hy, e]
  have key : ∀ i, i ≤ 4 * n → ∀ x y, x < 4 * n → y < 4 * n → lbl pc_a (pc_b r) i (x / 4) = lbl pc_a (pc_b r) i (y / 4) → u x = u y := by
    intro i
    induction i with
    | zero => intro _ x y hx hy e; exact hsame x y hx hy e
    | succ i ih =>
      intro hi x y hx hy e
      have ih := ih (by omega)
      simp only [lbl] at e
      by_cases h1 : lbl pc_a (pc_b r) i (x / 4) = lbl pc_a (pc_b r) i (pc_b r i)
      · by_cases h2 : lbl pc_a (pc_b r) i (y / 4) = lbl pc_a (pc_b r) i (pc_b r i)
        · exact ih x y hx hy (h1.trans h2.symm)
        · rw [if_pos h1, if_neg h2] at e
          have g1 := ih x (r i) hx (mp_r h (by omega)) h1
          have g2 := ih i y (by omega) hy e
          rw [g1, hr i (by omega), g2]
      · by_cases h2 : lbl pc_a (pc_b r) i (y / 4) = lbl pc_a (pc_b r) i (pc_b r i)
        · rw [if_neg h1, if_pos h2] at e
          have g1 := ih y (r i) hy (mp_r h (by omega)) h2
          have g2 := ih x i hx (by omega) e
          rw [g1, hr i (by omega), g2]
        · rw [if_neg h1, if_neg h2] at e
          exact ih x y hx hy e
  exact key (4 * n) (Nat.le_refl _)
/-- ON A SPHERE: as many faces as crossings and two for each piece; then what adds up to 0 round each face is a difference of heights -/
theorem mp_height (h : mapOk n r fl) (hE : zsum (fun x => if fl x = x then 1 else 0) (4 * n) = (n : Int) + 2 * lfix pc_a (pc_b r) n (4 * n)) {w : Nat → Int} (hw : ∀ x, x < 4 * n → w (r x) = -w x) (hF : ∀ f, f < 4 * n → zsum (fun x => if fl x = f then w x else 0) (4 * n) = 0) :
    ∃ g : Nat → Int, ∀ x, x < 4 * n → g (r x / 4) - g (x / 4) = w x := by
  have hfl : ∀ x, x < 4 * n → fl x < 4 * n := fun x hx => (h.2 x hx).1
  have hfb : ∀ x, x < 4 * n → fc_b r fl x < 4 * n := by
    intro x hx
    show (if tre r x then fl x else fl (r x)) < 4 * n
    by_cases q : tre r x
    · rw [if_pos q]; exact hfl x hx
    · rw [if_neg q]; exact hfl _ (mp_r h hx)
  -- faces joined off the tree are as many as pieces at the most
  have hcls : zsum (fun x => if lbl fl (fc_b r fl) (4 * n) x = x ∧ fl x = x then (1 : Int) else 0) (4 * n) ≤ lfix pc_a (pc_b r) n (4 * n) := by
    refine zsum_inj (g := fun x => lbl pc_a (pc_b r) (4 * n) (x / 4)) (fun x _ => ?_) (fun x hx e => ?_) (fun k _ => ?_) (fun x y hx hy ex ey eg => ?_)
    · by_cases q : lbl fl (fc_b r fl) (4 * n) x = x ∧ fl x = x
      · rw [if_pos q]; exact Or.inr rfl
      · rw [if_neg q]; exact Or.inl rfl
    · refine ⟨lbl_lt _ (fun j hj => by show j / 4 < n; omega) _ (by omega), ?_⟩
      rw [if_pos (lbl_idem _ _ _ _)]
      exact Int.le_refl _
    · by_cases q : lbl pc_a (pc_b r) (4 * n) k = k
      · rw [if_pos q]; decide
      · rw [if_neg q]; decide
    · have qx : lbl fl (fc_b r fl) (4 * n) x = x ∧ fl x = x := Decidable.byContradiction fun q => by rw [if_neg q] at ex; omega
      have qy : lbl fl (fc_b r fl) (4 * n) y = y ∧ fl y = y := Decidable.byContradiction fun q => by rw [if_neg q] at ey; omega
      have hp := mp_piece h (u := fun z => if lbl fl (fc_b r fl) (4 * n) (fl z) = x then (1 : Int) else 0) (fun a b _ _ e => by simp only [e]) (fun z hz ht => by
        have e := lbl_edge (a := fl) (b := fc_b r fl) hz
        rw [show fc_b r fl z = fl (r z) from if_neg ht] at e
        simp only [e]) x y hx hy eg
      simp only [qx.2, qx.1, qy.2, qy.1, if_true] at hp
      exact Decidable.byContradiction fun q => by rw [if_neg (fun z => q z.symm)] at hp; omega
  have hmd := lfix_all (a := fl) (b := fc_b r fl) (N := 4 * n) (4 * n) hfl hfb
  have hmp := lfix_all (a := pc_a) (b := pc_b r) (N := n) (4 * n) (fun j hj => by show j / 4 < n; omega) (fun j hj => by have := mp_r h hj; show r j / 4 < n; omega)
  have hup : lfix fl (fc_b r fl) (4 * n) (4 * n) ≤ lfix pc_a (pc_b r) n (4 * n) + ((4 * n : Nat) : Int) - ((n : Int) + 2 * lfix pc_a (pc_b r) n (4 * n)) := by
    have e1 : lfix fl (fc_b r fl) (4 * n) (4 * n) ≤ zsum (fun x => (if lbl fl (fc_b r fl) (4 * n) x = x ∧ fl x = x then (1 : Int) else 0) + (1 - (if fl x = x then 1 else 0))) (4 * n) := by
      refine zsum_le fun x _ => ?_
      by_cases q1 : lbl fl (fc_b r fl) (4 * n) x = x
      · by_cases q2 : fl x = x
        · simp [q1, q2]
        · simp [q1, q2]
      · by_cases q2 : fl x = x
        · simp [q1, q2]
        · simp [q1, q2]
    have e2 : zsum (fun _ => (1 : Int)) (4 * n) = ((4 * n : Nat) : Int) := by
      have : ∀ N : Nat, zsum (fun _ => (1 : Int)) N = N := by
        intro N
        induction N with
        | zero => rfl
        | succ k ih => rw [zsum, ih]; omega
      exact this _
    rw [zsum_add, zsum_sub, e2, hE] at e1
    omega
  have hdual : ∀ x, x < 4 * n → ¬ tre r x → mgs fl (fc_b r fl) x ∨ mgs fl (fc_b r fl) (r x) := by
    have hle : ∀ x, x < 4 * n → lmrg fl (fc_b r fl) x + lmrg fl (fc_b r fl) (r x) ≤ 1 - (lmrg pc_a (pc_b r) x + lmrg pc_a (pc_b r) (r x)) := by
      intro x hx
      have o1 := mp_once h hx
      have o2 := mp_once2 h hx
      have t1 : ∀ y, y < 4 * n → tre r y → lmrg fl (fc_b r fl) y = 0 := by
        intro y _ ht
        show (if lbl fl (fc_b r fl) y (fl y) = lbl fl (fc_b r fl) y (if tre r y then fl y else fl (r y)) then (0 : Int) else 1) = 0
        rw [if_pos ht, if_pos rfl]
      by_cases ht : tre r x
      · rw [t1 x hx ht, t1 (r x) (mp_r h hx) ((mp_tre h hx).mpr ht)]
        simp only [lmrg]
        by_cases q1 : lbl pc_a (pc_b r) x (pc_a x) = lbl pc_a (pc_b r) x (pc_b r x)
        · rw [if_pos q1]
          split <;> omega
        · by_cases q2 : lbl pc_a (pc_b r) (r x) (pc_a (r x)) = lbl pc_a (pc_b r) (r x) (pc_b r (r x))
          · rw [if_neg q1, if_pos q2]; omega
          · exact absurd ⟨q1, q2⟩ o1
      · have q1 : lbl pc_a (pc_b r) x (pc_a x) = lbl pc_a (pc_b r) x (pc_b r x) := Decidable.byContradiction fun q => ht (Or.inl q)
        have q2 : lbl pc_a (pc_b r) (r x) (pc_a (r x)) = lbl pc_a (pc_b r) (r x) (pc_b r (r x)) := Decidable.byContradiction fun q => ht (Or.inr q)
        simp only [lmrg, if_pos q1, if_pos q2]
        by_cases q3 : lbl fl (fc_b r fl) x (fl x) = lbl fl (fc_b r fl) x (fc_b r fl x)
        · rw [if_pos q3]
          split <;> omega
        · by_cases q4 : lbl fl (fc_b r fl) (r x) (fl (r x)) = lbl fl (fc_b r fl) (r x) (fc_b r fl (r x))
          · rw [if_neg q3, if_pos q4]; omega
          · exact absurd ⟨q3, q4⟩ o2
    have s1 : zsum (fun x => lmrg fl (fc_b r fl) x + lmrg fl (fc_b r fl) (r x)) (4 * n) = 2 * zsum (lmrg fl (fc_b r fl)) (4 * n) := by
      rw [zsum_add, mp_pair h (lmrg fl (fc_b r fl))]
      show zsum (lmrg fl (fc_b r fl)) (4 * n) + _ = _
      omega
    have s2 : zsum (fun x => 1 - (lmrg pc_a (pc_b r) x + lmrg pc_a (pc_b r) (r x))) (4 * n) = ((4 * n : Nat) : Int) - 2 * zsum (lmrg pc_a (pc_b r)) (4 * n) := by
      rw [zsum_sub, zsum_add, mp_pair h (lmrg pc_a (pc_b r))]
      have : ∀ N : Nat, zsum (fun _ => (1 : Int)) N = N := by
        intro N
        induction N with
        | zero => rfl
        | succ k ih => rw [zsum, ih]; omega
      rw [this]
      show _ - (zsum (lmrg pc_a (pc_b r)) (4 * n) + _) = _
      omega
    have heq := zsum_eq_of_le hle (by rw [s1, s2]; omega)
    intro x hx ht
    have e := heq x hx
    have q1 : lbl pc_a (pc_b r) x (pc_a x) = lbl pc_a (pc_b r) x (pc_b r x) := Decidable.byContradiction fun q => ht (Or.inl q)
    have q2 : lbl pc_a (pc_b r) (r x) (pc_a (r x)) = lbl pc_a (pc_b r) (r x) (pc_b r (r x)) := Decidable.byContradiction fun q => ht (Or.inr q)
    simp only [lmrg, if_pos q1, if_pos q2] at e
    by_cases q3 : lbl fl (fc_b r fl) x (fl x) = lbl fl (fc_b r fl) x (fc_b r fl x)
    · right
      intro q4
      rw [if_pos q3, if_pos q4] at e
      omega
    · exact Or.inl q3
  obtain ⟨g, hg⟩ := lbl_height (a := pc_a) (b := pc_b r) (w := w) (4 * n)
  refine ⟨g, ?_⟩
  have hanti : ∀ x, x < 4 * n → w (r x) - (g (r (r x) / 4) - g (r x / 4)) = -(w x - (g (r x / 4) - g (x / 4))) := fun x hx => by rw [hw x hx, mp_rr h hx]; omega
  have htree : ∀ x, x < 4 * n → tre r x → w x - (g (r x / 4) - g (x / 4)) = 0 := by
    intro x hx ht
    rcases ht with q | q
    · have e : g (r x / 4) - g (x / 4) = w x := hg x hx q
      omega
    · have e : g (r (r x) / 4) - g (r x / 4) = w (r x) := hg (r x) (mp_r h hx) q
      have := hanti x hx
      omega
  have hz := flow_zero (a := fl) (b := fc_b r fl) (N := 4 * n) (m := 4 * n) hfl hfb (w := fun x => if mgs fl (fc_b r fl) x then w x - (g (r x / 4) - g (x / 4)) else 0) (fun i hi hm => if_neg (fun q => q hm)) (fun f hf => by
    have e := mp_fold h (fun x => mgs fl (fc_b r fl) x) fl f (fun x => w x - (g (r x / 4) - g (x / 4))) hanti (fun x hx => mp_once2 h hx) (fun x hx h1 h2 => htree x hx (Decidable.byContradiction fun q => (hdual x hx q).elim h1 h2))
    have e0 : zsum (fun i => (if fl i = f then (if mgs fl (fc_b r fl) i then w i - (g (r i / 4) - g (i / 4)) else 0) else 0) - (if fc_b r fl i = f then (if mgs fl (fc_b r fl) i then w i - (g (r i / 4) - g (i / 4)) else 0) else 0)) (4 * n) = zsum (fun x => (if fl x = f then (if mgs fl (fc_b r fl) x then w x - (g (r x / 4) - g (x / 4)) else 0) else 0) - (if fl (r x) = f then (if mgs fl (fc_b r fl) x then w x - (g (r x / 4) - g (x / 4)) else 0) else 0)) (4 * n) := by
      refine zsum_congr fun x hx => ?_
      by_cases q : mgs fl (fc_b r fl) x
      · have ht : ¬ tre r x := fun t => q (by show lbl fl (fc_b r fl) x (fl x) = lbl fl (fc_b r fl) x (if tre r x then fl x else fl (r x)); rw [if_pos t])
        have e9 : fc_b r fl x = fl (r x) := if_neg ht
        congr 1
        by_cases q2 : fl (r x) = f
        · rw [if_pos (e9.trans q2), if_pos q2]
        · rw [if_neg (fun z => q2 (e9.symm.trans z)), if_neg q2]
      · simp only [if_neg q, ite_self]
    refine e0.trans (e.trans ?_)
    have e1 : zsum (fun x => if fl x = f then w x - (g (r x / 4) - g (x / 4)) else 0) (4 * n) = zsum (fun x => (if fl x = f then w x else 0) - ((if fl x = f then g (r x / 4) else 0) - (if fl x = f then g (x / 4) else 0))) (4 * n) := by
      refine zsum_congr fun x _ => ?_
      by_cases q : fl x = f
      · simp only [if_pos q]
      · simp only [if_neg q]
        rfl
    have e2 : zsum (fun x => if fl x = f then g (r x / 4) else 0) (4 * n) = zsum (fun x => if fl x = f then g (x / 4) else 0) (4 * n) := by
      rw [← zsum_perm (u := fun x => r (rtp x)) (v := fun x => rtn (r x)) (fun x hx => mp_r h (rtp_lt hx)) (fun x hx => rtn_lt (mp_r h hx)) (fun x hx => by show rtn (r (r (rtp x))) = x; rw [mp_rr h (rtp_lt hx), rtn_rtp]) (fun x hx => by
        have := mp_r h hx
        show r (rtp (rtn (r x))) = x
        rw [rtp_rtn, mp_rr h hx]) (fun x => if fl x = f then g (r x / 4) else 0)]
      refine zsum_congr fun x hx => ?_
      show (if fl (r (rtp x)) = f then g (r (r (rtp x)) / 4) else 0) = _
      rw [(h.2 x hx).2.2, mp_rr h (rtp_lt hx), rtp_div]
    rw [e1, zsum_sub, zsum_sub, e2, hF f hf]
    omega)
  intro x hx
  by_cases ht : tre r x
  · have := htree x hx ht
    omega
  · rcases hdual x hx ht with q | q
    · have := hz x hx
      simp only [if_pos q] at this
      omega
    · have := hz (r x) (mp_r h hx)
      simp only [if_pos q] at this
      have e := hanti x hx
      omega
end MAPS
