theorem zPG_up1 {K : Nat → ClassId} {M M' : zq_M} {cA : Nat} {pa qa : Int → Nat} {dg : Int → Int} {fc : Int → Int → Int} {k d' : Int} {f' : Int → Int} (h : zPG K M cA pa qa dg fc) (hk : 0 ≤ k ∧ k < 144) (h1 : M' (pa k) = some (.inr (8, [.ref (qa k), .int (iI d')]))) (h2 : M' (qa k) = some (cJ (K 1) 25 f')) (hM : ∀ q, q ≠ pa k → q ≠ qa k → M' q = M q) : zPG K M' cA pa qa (zu dg k d') (zu fc k f') := by
  have w := h.2.1 k hk.1 hk.2
  refine ⟨(hM _ (zq_ne h.1 w.1 (by simp)) (zq_ne h.1 w.2 (by simp))).trans h.1, fun i i1 i2 => ?_, h.2.2⟩
  by_cases q : i = k
  · rw [q, zu_self, zu_self]; exact ⟨h1, h2⟩
  · rw [zu_ne _ _ q, zu_ne _ _ q]
    have wi := h.2.1 i i1 i2
    exact ⟨(hM _ (fun z => q (h.2.2.1 i k i1 i2 hk.1 hk.2 z)) (zq_ne wi.1 w.2 (by simp))).trans wi.1, (hM _ (zq_ne wi.2 w.1 (by simp)) (fun z => q (h.2.2.2 i k i1 i2 hk.1 hk.2 z))).trans wi.2⟩
/-- a table is kept where nothing but objects, long[] and Polynomial[] change -/
theorem zG_S {K : Nat → ClassId} {M M' : zq_M} {g : Nat} {ra : Int → Nat} {F : Int → Int → Int} (S : Nat → Prop) (h : zG K M g ra F) (hk : ∀ q, ¬ S q → M' q = M q) (hS : ∀ q, S q → (∃ x, M q = some (.inr x)) ∨ (∃ f, M q = some (cJ (K 1) 25 f)) ∨ ∃ f, M q = some (cQ (K 3) 144 f)) : zG K M' g ra F := by
  refine ⟨(hk g fun z => ?_).trans h.1, fun i h1 h2 => (hk _ fun z => ?_).trans (h.2.1 i h1 h2), h.2.2⟩
  · rcases hS _ z with ⟨x, e⟩ | ⟨x, e⟩ | ⟨x, e⟩ <;> · rw [h.1] at e; simp at e
  · rcases hS _ z with ⟨x, e⟩ | ⟨x, e⟩ | ⟨x, e⟩ <;> · rw [h.2.1 i h1 h2] at e; simp at e
theorem zG_pool {K : Nat → ClassId} {M M' : zq_M} {g cA : Nat} {ra pa qa : Int → Nat} {F : Int → Int → Int} {dg : Int → Int} {fc : Int → Int → Int} (h : zG K M g ra F) (hP : zPG K M cA pa qa dg fc) (hfr : ∀ q, (∀ i, 0 ≤ i → i < 144 → q ≠ pa i) → (∀ i, 0 ≤ i → i < 144 → q ≠ qa i) → M' q = M q) : zG K M' g ra F := by
  refine zG_S (fun q => (∃ i, 0 ≤ i ∧ i < 144 ∧ q = pa i) ∨ ∃ i, 0 ≤ i ∧ i < 144 ∧ q = qa i) h (fun q hq => hfr q (fun i h1 h2 z => hq (Or.inl ⟨i, h1, h2, z⟩)) (fun i h1 h2 z => hq (Or.inr ⟨i, h1, h2, z⟩))) (fun q hq => ?_)
  rcases hq with ⟨i, h1, h2, rfl⟩ | ⟨i, h1, h2, rfl⟩
  · exact Or.inl ⟨_, (hP.2.1 i h1 h2).1⟩
  · exact Or.inr (Or.inl ⟨_, (hP.2.1 i h1 h2).2⟩)
theorem zPI_up {dg : Int → Int} {fc : Int → Int → Int} {k d : Int} {f : Int → Int} (h : zPI dg fc) (hd : zD f d) (hb : zB f) (hl : d ≤ 12) : zPI (zu dg k d) (zu fc k f) := fun i h1 h2 => by
  by_cases q : i = k
  · rw [q, zu_self, zu_self]; exact ⟨hd, hb, hl⟩
  · rw [zu_ne _ _ q, zu_ne _ _ q]; exact h i h1 h2
theorem zlin_B {a b : Int} (ha : -4 ≤ a ∧ a ≤ 4) (hb : -4 ≤ b ∧ b ≤ 4) : zB (zu (zu (fun _ => 0) 0 a) 1 b) := fun j => by
  show -16777216 ≤ (if j = 1 then b else if j = 0 then a else 0) ∧ (if j = 1 then b else if j = 0 then a else 0) ≤ 16777216
  split
  · omega
  · split <;> omega
theorem zlin_d {a b d : Int} (h : zD (zu (zu (fun _ => 0) 0 a) 1 b) d) : d ≤ 12 := by
  by_cases q : d ≤ 12
  · exact q
  · have h1 := h.2.2.2.2 (by omega)
    unfold zu at h1
    rw [if_neg (by omega), if_neg (by omega)] at h1
    exact absurd rfl h1
theorem zat_bd {F : Int → Int → Int} {rw0 co0 r c : Int} (h : ∀ i j, -4 ≤ F i j ∧ F i j ≤ 4) : -4 ≤ zat F rw0 co0 r c ∧ zat F rw0 co0 r c ≤ 4 := by
  unfold zat
  split
  · exact h _ _
  · omega
theorem zat_inI {F : Int → Int → Int} {rw0 co0 r c : Int} (h : ∀ i j, -4 ≤ F i j ∧ F i j ≤ 4) : inI (zat F rw0 co0 r c) := by have := zat_bd (rw0 := rw0) (co0 := co0) (r := r) (c := c) h; exact ⟨by omega, by omega⟩
/-- the row, the column of a matrix whose row lr (none, if lr < 0), column lc is left out -/
def zsr (lr i : Int) : Int := if 0 ≤ lr ∧ lr ≤ i then i + 1 else i
def zsc (lc j : Int) : Int := if lc ≤ j then j + 1 else j
def zMe (F G : Int → Int → Int) (rw0 co0 lr lc i j : Int) : Int → Int := zu (zu (fun _ => 0) 0 (zat F rw0 co0 (zsr lr i) (zsc lc j))) 1 (zat G rw0 co0 (zsr lr i) (zsc lc j))
def zMx (F G : Int → Int → Int) (rw0 co0 lr lc od : Int) (fc : Int → Int → Int) : Prop := ∀ i j, 0 ≤ i → i < od → 0 ≤ j → j < od → fc (i * 12 + j) = zMe F G rw0 co0 lr lc i j
theorem zMx_step {F G : Int → Int → Int} {rw0 co0 lr lc i jj od rr cc : Int} {fc : Int → Int → Int} (h : ∀ x y, (0 ≤ x ∧ x < i ∧ 0 ≤ y ∧ y < od) ∨ (x = i ∧ 0 ≤ y ∧ y < jj) → fc (x * 12 + y) = zMe F G rw0 co0 lr lc x y) (hi : 0 ≤ i ∧ 0 ≤ jj ∧ jj < od ∧ od ≤ 12) (hr : rr = zsr lr i) (hc : cc = zsc lc jj) :
    ∀ x y, (0 ≤ x ∧ x < i ∧ 0 ≤ y ∧ y < od) ∨ (x = i ∧ 0 ≤ y ∧ y < jj + 1) → (zu fc (i * 12 + jj) (zu (zu (fun _ => 0) 0 (zat F rw0 co0 rr cc)) 1 (zat G rw0 co0 rr cc))) (x * 12 + y) = zMe F G rw0 co0 lr lc x y := by
  intro x y hxy
  by_cases q : x * 12 + y = i * 12 + jj
  · rw [q, zu_self, hr, hc]
    have : x = i ∧ y = jj := by omega
    rw [this.1, this.2]
    rfl
  · rw [zu_ne _ _ q]
    refine h x y ?_
    rcases hxy with h1 | h1
    · exact Or.inl h1
    · exact Or.inr ⟨h1.1, h1.2.1, by omega⟩
/-- what 'take' must find ready: each division of the elimination comes out even -/
def zHok (F G : Int → Int → Int) (rw0 co0 : Int) : Prop := ∀ lr lc od fc, (-1 ≤ lr ∧ lr < rw0) → (0 ≤ lc ∧ lc < co0) → od = (if lr < 0 then rw0 else rw0 - 1) → od = co0 - 1 → zMx F G rw0 co0 lr lc od fc → ∀ n fcA pv oA r fcB oB, (n : Nat) < od → zBr fc od n fcA pv oA → zBp fcA od n r fcB oA oB → ∃ Qt dQ, zBq fcB pv n od Qt dQ
/-- a minor: the elimination's answer, 0 where there is none -/
def zTk (F G : Int → Int → Int) (rw0 co0 lr lc : Int) (res : Int → Int) : Prop := ((-1 ≤ lr ∧ lr < rw0) ∧ (0 ≤ lc ∧ lc < co0) ∧ (if lr < 0 then rw0 else rw0 - 1) = co0 - 1 ∧ ∃ fc, zMx F G rw0 co0 lr lc (co0 - 1) fc ∧ zBo fc (co0 - 1) res) ∨ (¬ ((-1 ≤ lr ∧ lr < rw0) ∧ (0 ≤ lc ∧ lc < co0) ∧ (if lr < 0 then rw0 else rw0 - 1) = co0 - 1) ∧ res = fun _ => 0)
theorem zPG_S {K : Nat → ClassId} {M M' : zq_M} {cA : Nat} {pa qa : Int → Nat} {dg : Int → Int} {fc : Int → Int → Int} (S : Nat → Prop) (h : zPG K M cA pa qa dg fc) (hk : ∀ q, ¬ S q → M' q = M q) (hS : ∀ q, S q → q ≠ cA ∧ ∀ i, 0 ≤ i → i < 144 → pa i ≠ q ∧ qa i ≠ q) : zPG K M' cA pa qa dg fc :=
  ⟨(hk _ fun z => (hS _ z).1 rfl).trans h.1, fun i h1 h2 => ⟨(hk _ fun z => ((hS _ z).2 i h1 h2).1 rfl).trans (h.2.1 i h1 h2).1, (hk _ fun z => ((hS _ z).2 i h1 h2).2 rfl).trans (h.2.1 i h1 h2).2⟩, h.2.2⟩
/-- how the MinorTaker stands: its Determinant with a pool of polynomials, the last minor -/
def zMT (K : Nat → ClassId) (M : zq_M) (o dt la qla cA pr qpr on qon : Nat) (pa qa : Int → Nat) (lr lc kn dl : Int) (fl : Int → Int) : Prop := ∃ dg fc dx fx, M o = some (.inr (6, [.ref dt, .ref la, .int (iI lr), .int (iI lc), .int (iI kn)])) ∧ M dt = some (.inr (3, [.ref cA, .ref pr, .ref on])) ∧ zPG K M cA pa qa dg fc ∧ zPI dg fc ∧ M pr = some (.inr (8, [.ref qpr, .int (iI dx)])) ∧ M qpr = some (cJ (K 1) 25 fx) ∧ zU fx dx ∧ M on = some (.inr (8, [.ref qon, .int (iI 0)])) ∧ M qon = some (cJ (K 1) 25 (zu (zu (fun _ => 0) 0 1) 1 0)) ∧ M la = some (.inr (8, [.ref qla, .int (iI dl)])) ∧ M qla = some (cJ (K 1) 25 fl) ∧ zD fl dl ∧
  (∀ i, 0 ≤ i → i < 144 → pa i ≠ pr ∧ qa i ≠ qpr) ∧ (∀ i, 0 ≤ i → i < 144 → pa i ≠ on ∧ qa i ≠ qon) ∧ (∀ i, 0 ≤ i → i < 144 → pa i ≠ la ∧ qa i ≠ qla) ∧ (on ≠ pr ∧ qon ≠ qpr) ∧ (on ≠ la ∧ qon ≠ qla) ∧ la ≠ pr ∧ qla ≠ qpr
theorem zSb_d {pa qa pa1 qa1 : Int → Nat} {x y : Nat} (h : zSb pa qa pa1 qa1) (hd : ∀ i, 0 ≤ i → i < 144 → pa i ≠ x ∧ qa i ≠ y) : ∀ i, 0 ≤ i → i < 144 → pa1 i ≠ x ∧ qa1 i ≠ y := fun i h1 h2 => by
  obtain ⟨j, j1, j2, e1, e2⟩ := h i h1 h2
  rw [e1, e2]
  exact hd j j1 j2
