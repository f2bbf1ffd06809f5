/-- i polynomials, made since M -/
def zNw (K : Nat → ClassId) (M M1 : zq_M) (pa qa : Int → Nat) (i : Int) : Prop := (∀ j, 0 ≤ j → j < i → M (pa j) = none ∧ M (qa j) = none ∧ M1 (pa j) = some (.inr (8, [.ref (qa j), .int (iI (-1))])) ∧ M1 (qa j) = some (cJ (K 1) 25 (fun _ => 0))) ∧ (∀ j k, 0 ≤ j → j < i → 0 ≤ k → k < i → pa j = pa k → j = k) ∧ ∀ j k, 0 ≤ j → j < i → 0 ≤ k → k < i → qa j = qa k → j = k
theorem zNw_0 (K : Nat → ClassId) (M M1 : zq_M) (pa qa : Int → Nat) : zNw K M M1 pa qa 0 := ⟨fun j h1 h2 => by omega, fun j k h1 h2 => by omega, fun j k h1 h2 => by omega⟩
theorem zNw_s {K : Nat → ClassId} {M M1 M2 : zq_M} {pa qa : Int → Nat} {i : Int} {q b cA : Nat} {g : Int → Option Nat} (hi : 0 ≤ i) (h : zNw K M M1 pa qa i) (hc : M1 cA = some (cQ (K 3) 144 g)) (hk : ∀ x, M1 x ≠ none → x ≠ cA → M2 x = M1 x) (q0 : M q = none) (b0 : M b = none) (q1 : M1 q = none) (b1 : M1 b = none)
    (hq : M2 q = some (.inr (8, [.ref b, .int (iI (-1))]))) (hb : M2 b = some (cJ (K 1) 25 (fun _ => 0))) : zNw K M M2 (zu pa i q) (zu qa i b) (i + 1) := by
  have hp : ∀ j, 0 ≤ j → j < i → pa j ≠ q := fun j h1 h2 z => by have z2 := (h.1 j h1 h2).2.2.1; rw [z, q1] at z2; cases z2
  have hr : ∀ j, 0 ≤ j → j < i → qa j ≠ b := fun j h1 h2 z => by have z2 := (h.1 j h1 h2).2.2.2; rw [z, b1] at z2; cases z2
  refine ⟨fun j h1 h2 => ?_, fun j k h1 h2 h3 h4 h5 => ?_, fun j k h1 h2 h3 h4 h5 => ?_⟩
  · by_cases e : j = i
    · subst e; rw [zu_self, zu_self]; exact ⟨q0, b0, hq, hb⟩
    · rw [zu_ne _ _ e, zu_ne _ _ e]
      obtain ⟨a1, a2, a3, a4⟩ := h.1 j h1 (by omega)
      exact ⟨a1, a2, (hk _ (by rw [a3]; nofun) (zq_ne a3 hc (by simp))).trans a3, (hk _ (by rw [a4]; nofun) (zq_ne a4 hc (by simp))).trans a4⟩
  · by_cases e : j = i <;> by_cases e2 : k = i
    · omega
    · subst e; rw [zu_self, zu_ne _ _ e2] at h5; exact absurd h5.symm (hp k h3 (by omega))
    · subst e2; rw [zu_self, zu_ne _ _ e] at h5; exact absurd h5 (hp j h1 (by omega))
    · rw [zu_ne _ _ e, zu_ne _ _ e2] at h5; exact h.2.1 j k h1 (by omega) h3 (by omega) h5
  · by_cases e : j = i <;> by_cases e2 : k = i
    · omega
    · subst e; rw [zu_self, zu_ne _ _ e2] at h5; exact absurd h5.symm (hr k h3 (by omega))
    · subst e2; rw [zu_self, zu_ne _ _ e] at h5; exact absurd h5 (hr j h1 (by omega))
    · rw [zu_ne _ _ e, zu_ne _ _ e2] at h5; exact h.2.2 j k h1 (by omega) h3 (by omega) h5
theorem zNw_g {g : Int → Option Nat} {pa : Int → Nat} {i : Int} {q : Nat} (hg : ∀ j, g j = if 0 ≤ j ∧ j < i then some (pa j) else none) (hi : 0 ≤ i) (j : Int) : (zu g i (some q)) j = if 0 ≤ j ∧ j < i + 1 then some ((zu pa i q) j) else none := by
  by_cases e : j = i
  · subst e; rw [zu_self, if_pos (by omega), zu_self]
  · rw [zu_ne _ _ e, hg]
    by_cases h : 0 ≤ j ∧ j < i
    · rw [if_pos h, if_pos (by omega), zu_ne _ _ e]
    · rw [if_neg h, if_neg (by omega)]
theorem zNw_ext {K : Nat → ClassId} {M M1 M2 : zq_M} {pa qa : Int → Nat} {i : Int} {cA : Nat} {g : Int → Option Nat} (h : zNw K M M1 pa qa i) (hc : M1 cA = some (cQ (K 3) 144 g)) (ho : ∀ b, b ≠ cA → M2 b = M1 b) : zNw K M M2 pa qa i :=
  ⟨fun j h1 h2 => by obtain ⟨a1, a2, a3, a4⟩ := h.1 j h1 h2; exact ⟨a1, a2, (ho _ (zq_ne a3 hc (by simp))).trans a3, (ho _ (zq_ne a4 hc (by simp))).trans a4⟩, h.2⟩
theorem zNw_PG {K : Nat → ClassId} {M M1 M2 : zq_M} {pa qa : Int → Nat} {i : Int} {cA o : Nat} {x : List Value} (h : zNw K M M1 pa qa i) (hi : 144 ≤ i) (hc : M1 cA = some (cQ (K 3) 144 (fun i => some (pa i)))) (ho : M1 o = some (.inr (3, x))) (hk : ∀ q, M1 q ≠ none → q ≠ o → M2 q = M1 q) : zPG K M2 cA pa qa (fun _ => -1) (fun _ _ => 0) :=
  ⟨(hk _ (by rw [hc]; nofun) (zq_ne hc ho (by simp))).trans hc, fun j h1 h2 => by obtain ⟨a1, a2, a3, a4⟩ := h.1 j h1 (by omega); exact ⟨(hk _ (by rw [a3]; nofun) (zq_ne a3 ho (by simp))).trans a3, (hk _ (by rw [a4]; nofun) (zq_ne a4 ho (by simp))).trans a4⟩, fun j k h1 h2 h3 h4 => h.2.1 j k h1 (by omega) h3 (by omega), fun j k h1 h2 h3 h4 => h.2.2 j k h1 (by omega) h3 (by omega)⟩
theorem zq_extQ {D : va_G} {cl : List vw_C} {A : Nat → Prop} {H0 H : Heap} {M : zq_M} {locs : List Loc} {a n : Nat} {k : ClassId} {g g' : Int → Option Nat} (hw : zq_W D cl A H0 M H locs) (h : M a = some (cQ k n g)) (he : ∀ j : Nat, j < n → g j = g' j) :
    ∃ M1, M1 a = some (cQ k n g') ∧ (∀ b, b ≠ a → M1 b = M b) ∧ zq_W D cl A H0 M1 H locs := by
  refine ⟨va_up M a (some (cQ k n g')), va_up_self _ _ _, fun b hb => va_up_ne _ _ hb, fun b eb hb => ?_, fun b eb hb => ?_, hw.2.2⟩
  · by_cases q : b = a
    · subst q
      rw [va_up_self] at hb
      obtain rfl := Option.some.inj hb
      have h9 : H[b]? = some (arrV k n (fun j => va_rf (g (j : Int)))) := hw.1 _ _ h
      show H[b]? = some (arrV k n (fun j => va_rf (g' (j : Int))))
      rw [h9]
      refine congrArg some ?_
      unfold arrV
      refine congrArg (fun z => ({ cls := k, slots := z, vm := .none } : Cell)) ?_
      refine Array.ext (by simp) (fun j h1 h2 => ?_)
      simp only [Array.size_ofFn] at h1
      simp only [Array.getElem_ofFn]
      rw [he j h1]
    · rw [va_up_ne _ _ q] at hb
      exact hw.1 b eb hb
  · by_cases q : b = a
    · subst q
      exact hw.2.1 _ _ h
    · rw [va_up_ne _ _ q] at hb
      exact hw.2.1 b eb hb
theorem zU_new {d : Int} (h1 : -1 ≤ d) (h2 : d ≤ 24) : zU (fun _ => 0) d := ⟨h1, h2, fun _ _ => rfl, fun _ _ => rfl⟩
