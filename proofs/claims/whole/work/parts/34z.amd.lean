/-- where the class's things lie -/
abbrev zAd : Type := Nat × Nat × Nat × Nat × Nat × Nat × Nat × Nat × Nat × Nat × Nat × Nat × Nat × Nat × Nat × Nat × Nat × Nat × Nat × Nat × Nat × Nat × Nat × Nat × Nat × Nat × Nat × Nat × Nat × Nat × Nat × Nat × (Int → Nat) × (Int → Nat) × (Int → Nat) × (Int → Nat) × (Int → Nat)
abbrev zAd.x (a : zAd) : Nat := a.1
abbrev zAd.pi (a : zAd) : Nat := a.2.1
abbrev zAd.pis (a : zAd) : Nat := a.2.2.1
abbrev zAd.pil (a : zAd) : Nat := a.2.2.2.1
abbrev zAd.di (a : zAd) : Nat := a.2.2.2.2.1
abbrev zAd.dis (a : zAd) : Nat := a.2.2.2.2.2.1
abbrev zAd.dil (a : zAd) : Nat := a.2.2.2.2.2.2.1
abbrev zAd.ru (a : zAd) : Nat := a.2.2.2.2.2.2.2.1
abbrev zAd.r1 (a : zAd) : Nat := a.2.2.2.2.2.2.2.2.1
abbrev zAd.r2 (a : zAd) : Nat := a.2.2.2.2.2.2.2.2.2.1
abbrev zAd.r3 (a : zAd) : Nat := a.2.2.2.2.2.2.2.2.2.2.1
abbrev zAd.r4 (a : zAd) : Nat := a.2.2.2.2.2.2.2.2.2.2.2.1
abbrev zAd.al (a : zAd) : Nat := a.2.2.2.2.2.2.2.2.2.2.2.2.1
abbrev zAd.a1 (a : zAd) : Nat := a.2.2.2.2.2.2.2.2.2.2.2.2.2.1
abbrev zAd.a2 (a : zAd) : Nat := a.2.2.2.2.2.2.2.2.2.2.2.2.2.2.1
abbrev zAd.a3 (a : zAd) : Nat := a.2.2.2.2.2.2.2.2.2.2.2.2.2.2.2.1
abbrev zAd.et (a : zAd) : Nat := a.2.2.2.2.2.2.2.2.2.2.2.2.2.2.2.2.1
abbrev zAd.e1 (a : zAd) : Nat := a.2.2.2.2.2.2.2.2.2.2.2.2.2.2.2.2.2.1
abbrev zAd.e2 (a : zAd) : Nat := a.2.2.2.2.2.2.2.2.2.2.2.2.2.2.2.2.2.2.1
abbrev zAd.mt (a : zAd) : Nat := a.2.2.2.2.2.2.2.2.2.2.2.2.2.2.2.2.2.2.2.1
abbrev zAd.dt (a : zAd) : Nat := a.2.2.2.2.2.2.2.2.2.2.2.2.2.2.2.2.2.2.2.2.1
abbrev zAd.la (a : zAd) : Nat := a.2.2.2.2.2.2.2.2.2.2.2.2.2.2.2.2.2.2.2.2.2.1
abbrev zAd.qla (a : zAd) : Nat := a.2.2.2.2.2.2.2.2.2.2.2.2.2.2.2.2.2.2.2.2.2.2.1
abbrev zAd.cA (a : zAd) : Nat := a.2.2.2.2.2.2.2.2.2.2.2.2.2.2.2.2.2.2.2.2.2.2.2.1
abbrev zAd.pr (a : zAd) : Nat := a.2.2.2.2.2.2.2.2.2.2.2.2.2.2.2.2.2.2.2.2.2.2.2.2.1
abbrev zAd.qpr (a : zAd) : Nat := a.2.2.2.2.2.2.2.2.2.2.2.2.2.2.2.2.2.2.2.2.2.2.2.2.2.1
abbrev zAd.on (a : zAd) : Nat := a.2.2.2.2.2.2.2.2.2.2.2.2.2.2.2.2.2.2.2.2.2.2.2.2.2.2.1
abbrev zAd.qon (a : zAd) : Nat := a.2.2.2.2.2.2.2.2.2.2.2.2.2.2.2.2.2.2.2.2.2.2.2.2.2.2.2.1
abbrev zAd.mr (a : zAd) : Nat := a.2.2.2.2.2.2.2.2.2.2.2.2.2.2.2.2.2.2.2.2.2.2.2.2.2.2.2.2.1
abbrev zAd.m1 (a : zAd) : Nat := a.2.2.2.2.2.2.2.2.2.2.2.2.2.2.2.2.2.2.2.2.2.2.2.2.2.2.2.2.2.1
abbrev zAd.no (a : zAd) : Nat := a.2.2.2.2.2.2.2.2.2.2.2.2.2.2.2.2.2.2.2.2.2.2.2.2.2.2.2.2.2.2.1
abbrev zAd.qno (a : zAd) : Nat := a.2.2.2.2.2.2.2.2.2.2.2.2.2.2.2.2.2.2.2.2.2.2.2.2.2.2.2.2.2.2.2.1
abbrev zAd.ea (a : zAd) : Int → Nat := a.2.2.2.2.2.2.2.2.2.2.2.2.2.2.2.2.2.2.2.2.2.2.2.2.2.2.2.2.2.2.2.2.1
abbrev zAd.eb (a : zAd) : Int → Nat := a.2.2.2.2.2.2.2.2.2.2.2.2.2.2.2.2.2.2.2.2.2.2.2.2.2.2.2.2.2.2.2.2.2.1
abbrev zAd.rm (a : zAd) : Int → Nat := a.2.2.2.2.2.2.2.2.2.2.2.2.2.2.2.2.2.2.2.2.2.2.2.2.2.2.2.2.2.2.2.2.2.2.1
abbrev zAd.pa (a : zAd) : Int → Nat := a.2.2.2.2.2.2.2.2.2.2.2.2.2.2.2.2.2.2.2.2.2.2.2.2.2.2.2.2.2.2.2.2.2.2.2.1
abbrev zAd.qa (a : zAd) : Int → Nat := a.2.2.2.2.2.2.2.2.2.2.2.2.2.2.2.2.2.2.2.2.2.2.2.2.2.2.2.2.2.2.2.2.2.2.2.2
/-- what they hold -/
abbrev zSt : Type := Int × (Int → Int) × (Int → Int) × Int × (Int → Int) × (Int → Int) × Int × Int × (Int → Int) × (Int → Int) × (Int → Int) × (Int → Int) × (Int → Int) × (Int → Int → Int) × (Int → Int → Int) × Int × Int × Int × Int × (Int → Int) × Int × Int × (Int → Int)
abbrev zSt.pn (a : zSt) : Int := a.1
abbrev zSt.psg (a : zSt) : Int → Int := a.2.1
abbrev zSt.plb (a : zSt) : Int → Int := a.2.2.1
abbrev zSt.n (a : zSt) : Int := a.2.2.2.1
abbrev zSt.sg (a : zSt) : Int → Int := a.2.2.2.2.1
abbrev zSt.lb (a : zSt) : Int → Int := a.2.2.2.2.2.1
abbrev zSt.cir (a : zSt) : Int := a.2.2.2.2.2.2.1
abbrev zSt.cN (a : zSt) : Int := a.2.2.2.2.2.2.2.1
abbrev zSt.lN (a : zSt) : Int → Int := a.2.2.2.2.2.2.2.2.1
abbrev zSt.al0 (a : zSt) : Int → Int := a.2.2.2.2.2.2.2.2.2.1
abbrev zSt.at0 (a : zSt) : Int → Int := a.2.2.2.2.2.2.2.2.2.2.1
abbrev zSt.ls0 (a : zSt) : Int → Int := a.2.2.2.2.2.2.2.2.2.2.2.1
abbrev zSt.N (a : zSt) : Int → Int := a.2.2.2.2.2.2.2.2.2.2.2.2.1
abbrev zSt.F (a : zSt) : Int → Int → Int := a.2.2.2.2.2.2.2.2.2.2.2.2.2.1
abbrev zSt.G (a : zSt) : Int → Int → Int := a.2.2.2.2.2.2.2.2.2.2.2.2.2.2.1
abbrev zSt.lr (a : zSt) : Int := a.2.2.2.2.2.2.2.2.2.2.2.2.2.2.2.1
abbrev zSt.lc (a : zSt) : Int := a.2.2.2.2.2.2.2.2.2.2.2.2.2.2.2.2.1
abbrev zSt.kn (a : zSt) : Int := a.2.2.2.2.2.2.2.2.2.2.2.2.2.2.2.2.2.1
abbrev zSt.dl (a : zSt) : Int := a.2.2.2.2.2.2.2.2.2.2.2.2.2.2.2.2.2.2.1
abbrev zSt.fl (a : zSt) : Int → Int := a.2.2.2.2.2.2.2.2.2.2.2.2.2.2.2.2.2.2.2.1
abbrev zSt.nk (a : zSt) : Int := a.2.2.2.2.2.2.2.2.2.2.2.2.2.2.2.2.2.2.2.2.1
abbrev zSt.dn (a : zSt) : Int := a.2.2.2.2.2.2.2.2.2.2.2.2.2.2.2.2.2.2.2.2.2.1
abbrev zSt.fn (a : zSt) : Int → Int := a.2.2.2.2.2.2.2.2.2.2.2.2.2.2.2.2.2.2.2.2.2.2
def zc1 (K : Nat → ClassId) (M : zq_M) (own : Nat → Nat) (k o s l : Nat) (cnt : Int) (sg lb : Int → Int) : Prop := (own o = k) ∧ (own s = k) ∧ (own l = k) ∧ (M o = some (.inr (2, [.ref s, .ref l, .int (iI cnt)]))) ∧ (M s = some (cI (K 0) 12 sg)) ∧ (M l = some (cI (K 0) 48 lb)) ∧ (zC cnt sg lb)
theorem zc1.oo {K : Nat → ClassId} {M : zq_M} {own : Nat → Nat} {k o s l : Nat} {cnt : Int} {sg lb : Int → Int} (h : zc1 K M own k o s l cnt sg lb) : own o = k := h.1
theorem zc1.os {K : Nat → ClassId} {M : zq_M} {own : Nat → Nat} {k o s l : Nat} {cnt : Int} {sg lb : Int → Int} (h : zc1 K M own k o s l cnt sg lb) : own s = k := h.2.1
theorem zc1.ol {K : Nat → ClassId} {M : zq_M} {own : Nat → Nat} {k o s l : Nat} {cnt : Int} {sg lb : Int → Int} (h : zc1 K M own k o s l cnt sg lb) : own l = k := h.2.2.1
theorem zc1.ho {K : Nat → ClassId} {M : zq_M} {own : Nat → Nat} {k o s l : Nat} {cnt : Int} {sg lb : Int → Int} (h : zc1 K M own k o s l cnt sg lb) : M o = some (.inr (2, [.ref s, .ref l, .int (iI cnt)])) := h.2.2.2.1
theorem zc1.hs {K : Nat → ClassId} {M : zq_M} {own : Nat → Nat} {k o s l : Nat} {cnt : Int} {sg lb : Int → Int} (h : zc1 K M own k o s l cnt sg lb) : M s = some (cI (K 0) 12 sg) := h.2.2.2.2.1
theorem zc1.hl {K : Nat → ClassId} {M : zq_M} {own : Nat → Nat} {k o s l : Nat} {cnt : Int} {sg lb : Int → Int} (h : zc1 K M own k o s l cnt sg lb) : M l = some (cI (K 0) 48 lb) := h.2.2.2.2.2.1
theorem zc1.hC {K : Nat → ClassId} {M : zq_M} {own : Nat → Nat} {k o s l : Nat} {cnt : Int} {sg lb : Int → Int} (h : zc1 K M own k o s l cnt sg lb) : zC cnt sg lb := h.2.2.2.2.2.2
def zc3 (K : Nat → ClassId) (M : zq_M) (own : Nat → Nat) (o a b c d : Nat) : Prop := (own o = 3) ∧ (own a = 3) ∧ (own b = 3) ∧ (own c = 3) ∧ (own d = 3) ∧ (b ≠ c) ∧ (a ≠ d) ∧ (∃ pf pcs sp sn, M o = some (.inr (4, [.ref a, .ref b, .ref c, .ref d])) ∧ M a = some (cI (K 0) 48 pf) ∧ M b = some (cI (K 0) 12 pcs) ∧ M c = some (cI (K 0) 12 sp) ∧ M d = some (cI (K 2) 48 sn) ∧ (∀ z, inI (pf z)) ∧ ∀ z, sn z = 0 ∨ sn z = 1)
theorem zc3.oo {K : Nat → ClassId} {M : zq_M} {own : Nat → Nat} {o a b c d : Nat} (h : zc3 K M own o a b c d) : own o = 3 := h.1
theorem zc3.oa {K : Nat → ClassId} {M : zq_M} {own : Nat → Nat} {o a b c d : Nat} (h : zc3 K M own o a b c d) : own a = 3 := h.2.1
theorem zc3.ob {K : Nat → ClassId} {M : zq_M} {own : Nat → Nat} {o a b c d : Nat} (h : zc3 K M own o a b c d) : own b = 3 := h.2.2.1
theorem zc3.oc {K : Nat → ClassId} {M : zq_M} {own : Nat → Nat} {o a b c d : Nat} (h : zc3 K M own o a b c d) : own c = 3 := h.2.2.2.1
theorem zc3.od {K : Nat → ClassId} {M : zq_M} {own : Nat → Nat} {o a b c d : Nat} (h : zc3 K M own o a b c d) : own d = 3 := h.2.2.2.2.1
theorem zc3.hbc {K : Nat → ClassId} {M : zq_M} {own : Nat → Nat} {o a b c d : Nat} (h : zc3 K M own o a b c d) : b ≠ c := h.2.2.2.2.2.1
theorem zc3.had {K : Nat → ClassId} {M : zq_M} {own : Nat → Nat} {o a b c d : Nat} (h : zc3 K M own o a b c d) : a ≠ d := h.2.2.2.2.2.2.1
theorem zc3.ex {K : Nat → ClassId} {M : zq_M} {own : Nat → Nat} {o a b c d : Nat} (h : zc3 K M own o a b c d) : ∃ pf pcs sp sn, M o = some (.inr (4, [.ref a, .ref b, .ref c, .ref d])) ∧ M a = some (cI (K 0) 48 pf) ∧ M b = some (cI (K 0) 12 pcs) ∧ M c = some (cI (K 0) 12 sp) ∧ M d = some (cI (K 2) 48 sn) ∧ (∀ z, inI (pf z)) ∧ ∀ z, sn z = 0 ∨ sn z = 1 := h.2.2.2.2.2.2.2
def zc4 (K : Nat → ClassId) (M : zq_M) (own : Nat → Nat) (o a b c : Nat) (p0 cc : Int) (al at0 ls0 : Int → Int) : Prop := (own o = 4) ∧ (own a = 4) ∧ (own b = 4) ∧ (own c = 4) ∧ (a ≠ b) ∧ (M o = some (.inr (1, [.ref a, .ref b, .ref c, .int (iI p0), .int (iI cc)]))) ∧ (M a = some (cI (K 0) 48 al)) ∧ (M b = some (cI (K 0) 48 at0)) ∧ (M c = some (cI (K 0) 33 ls0)) ∧ (zA p0 cc al at0 ls0)
theorem zc4.oo {K : Nat → ClassId} {M : zq_M} {own : Nat → Nat} {o a b c : Nat} {p0 cc : Int} {al at0 ls0 : Int → Int} (h : zc4 K M own o a b c p0 cc al at0 ls0) : own o = 4 := h.1
theorem zc4.oa {K : Nat → ClassId} {M : zq_M} {own : Nat → Nat} {o a b c : Nat} {p0 cc : Int} {al at0 ls0 : Int → Int} (h : zc4 K M own o a b c p0 cc al at0 ls0) : own a = 4 := h.2.1
theorem zc4.ob {K : Nat → ClassId} {M : zq_M} {own : Nat → Nat} {o a b c : Nat} {p0 cc : Int} {al at0 ls0 : Int → Int} (h : zc4 K M own o a b c p0 cc al at0 ls0) : own b = 4 := h.2.2.1
theorem zc4.oc {K : Nat → ClassId} {M : zq_M} {own : Nat → Nat} {o a b c : Nat} {p0 cc : Int} {al at0 ls0 : Int → Int} (h : zc4 K M own o a b c p0 cc al at0 ls0) : own c = 4 := h.2.2.2.1
theorem zc4.hab {K : Nat → ClassId} {M : zq_M} {own : Nat → Nat} {o a b c : Nat} {p0 cc : Int} {al at0 ls0 : Int → Int} (h : zc4 K M own o a b c p0 cc al at0 ls0) : a ≠ b := h.2.2.2.2.1
theorem zc4.ho {K : Nat → ClassId} {M : zq_M} {own : Nat → Nat} {o a b c : Nat} {p0 cc : Int} {al at0 ls0 : Int → Int} (h : zc4 K M own o a b c p0 cc al at0 ls0) : M o = some (.inr (1, [.ref a, .ref b, .ref c, .int (iI p0), .int (iI cc)])) := h.2.2.2.2.2.1
theorem zc4.ha {K : Nat → ClassId} {M : zq_M} {own : Nat → Nat} {o a b c : Nat} {p0 cc : Int} {al at0 ls0 : Int → Int} (h : zc4 K M own o a b c p0 cc al at0 ls0) : M a = some (cI (K 0) 48 al) := h.2.2.2.2.2.2.1
theorem zc4.hb {K : Nat → ClassId} {M : zq_M} {own : Nat → Nat} {o a b c : Nat} {p0 cc : Int} {al at0 ls0 : Int → Int} (h : zc4 K M own o a b c p0 cc al at0 ls0) : M b = some (cI (K 0) 48 at0) := h.2.2.2.2.2.2.2.1
theorem zc4.hc {K : Nat → ClassId} {M : zq_M} {own : Nat → Nat} {o a b c : Nat} {p0 cc : Int} {al at0 ls0 : Int → Int} (h : zc4 K M own o a b c p0 cc al at0 ls0) : M c = some (cI (K 0) 33 ls0) := h.2.2.2.2.2.2.2.2.1
theorem zc4.hA {K : Nat → ClassId} {M : zq_M} {own : Nat → Nat} {o a b c : Nat} {p0 cc : Int} {al at0 ls0 : Int → Int} (h : zc4 K M own o a b c p0 cc al at0 ls0) : zA p0 cc al at0 ls0 := h.2.2.2.2.2.2.2.2.2
def zc5 (K : Nat → ClassId) (M : zq_M) (own : Nat → Nat) (o g k : Nat) (ra rb : Int → Nat) (rw0 co0 : Int) (F G : Int → Int → Int) : Prop := (own o = 5) ∧ (own g = 5) ∧ (own k = 5) ∧ (∀ i, 0 ≤ i → i < 12 → own (ra i) = 5) ∧ (∀ i, 0 ≤ i → i < 12 → own (rb i) = 5) ∧ (M o = some (.inr (5, [.ref g, .ref k, .int (iI rw0), .int (iI co0)]))) ∧ (zG K M g ra F) ∧ (zG K M k rb G) ∧ (zE rw0 co0 ra rb F G) ∧ (∀ i j, -4 ≤ F i j ∧ F i j ≤ 4) ∧ (∀ i j, -4 ≤ G i j ∧ G i j ≤ 4)
theorem zc5.oo {K : Nat → ClassId} {M : zq_M} {own : Nat → Nat} {o g k : Nat} {ra rb : Int → Nat} {rw0 co0 : Int} {F G : Int → Int → Int} (h : zc5 K M own o g k ra rb rw0 co0 F G) : own o = 5 := h.1
theorem zc5.og {K : Nat → ClassId} {M : zq_M} {own : Nat → Nat} {o g k : Nat} {ra rb : Int → Nat} {rw0 co0 : Int} {F G : Int → Int → Int} (h : zc5 K M own o g k ra rb rw0 co0 F G) : own g = 5 := h.2.1
theorem zc5.ok {K : Nat → ClassId} {M : zq_M} {own : Nat → Nat} {o g k : Nat} {ra rb : Int → Nat} {rw0 co0 : Int} {F G : Int → Int → Int} (h : zc5 K M own o g k ra rb rw0 co0 F G) : own k = 5 := h.2.2.1
theorem zc5.oa {K : Nat → ClassId} {M : zq_M} {own : Nat → Nat} {o g k : Nat} {ra rb : Int → Nat} {rw0 co0 : Int} {F G : Int → Int → Int} (h : zc5 K M own o g k ra rb rw0 co0 F G) : ∀ i, 0 ≤ i → i < 12 → own (ra i) = 5 := h.2.2.2.1
theorem zc5.ob {K : Nat → ClassId} {M : zq_M} {own : Nat → Nat} {o g k : Nat} {ra rb : Int → Nat} {rw0 co0 : Int} {F G : Int → Int → Int} (h : zc5 K M own o g k ra rb rw0 co0 F G) : ∀ i, 0 ≤ i → i < 12 → own (rb i) = 5 := h.2.2.2.2.1
theorem zc5.ho {K : Nat → ClassId} {M : zq_M} {own : Nat → Nat} {o g k : Nat} {ra rb : Int → Nat} {rw0 co0 : Int} {F G : Int → Int → Int} (h : zc5 K M own o g k ra rb rw0 co0 F G) : M o = some (.inr (5, [.ref g, .ref k, .int (iI rw0), .int (iI co0)])) := h.2.2.2.2.2.1
theorem zc5.hG1 {K : Nat → ClassId} {M : zq_M} {own : Nat → Nat} {o g k : Nat} {ra rb : Int → Nat} {rw0 co0 : Int} {F G : Int → Int → Int} (h : zc5 K M own o g k ra rb rw0 co0 F G) : zG K M g ra F := h.2.2.2.2.2.2.1
theorem zc5.hG2 {K : Nat → ClassId} {M : zq_M} {own : Nat → Nat} {o g k : Nat} {ra rb : Int → Nat} {rw0 co0 : Int} {F G : Int → Int → Int} (h : zc5 K M own o g k ra rb rw0 co0 F G) : zG K M k rb G := h.2.2.2.2.2.2.2.1
theorem zc5.hE {K : Nat → ClassId} {M : zq_M} {own : Nat → Nat} {o g k : Nat} {ra rb : Int → Nat} {rw0 co0 : Int} {F G : Int → Int → Int} (h : zc5 K M own o g k ra rb rw0 co0 F G) : zE rw0 co0 ra rb F G := h.2.2.2.2.2.2.2.2.1
theorem zc5.hFb {K : Nat → ClassId} {M : zq_M} {own : Nat → Nat} {o g k : Nat} {ra rb : Int → Nat} {rw0 co0 : Int} {F G : Int → Int → Int} (h : zc5 K M own o g k ra rb rw0 co0 F G) : ∀ i j, -4 ≤ F i j ∧ F i j ≤ 4 := h.2.2.2.2.2.2.2.2.2.1
theorem zc5.hGb {K : Nat → ClassId} {M : zq_M} {own : Nat → Nat} {o g k : Nat} {ra rb : Int → Nat} {rw0 co0 : Int} {F G : Int → Int → Int} (h : zc5 K M own o g k ra rb rw0 co0 F G) : ∀ i j, -4 ≤ G i j ∧ G i j ≤ 4 := h.2.2.2.2.2.2.2.2.2.2
def zc6 (K : Nat → ClassId) (M : zq_M) (own : Nat → Nat) (o dt la qla cA pr qpr on qon : Nat) (pa qa : Int → Nat) (lr lc kn dl : Int) (fl : Int → Int) : Prop := (own o = 6) ∧ (own dt = 6) ∧ (own la = 6) ∧ (own qla = 6) ∧ (own cA = 6) ∧ (own pr = 6) ∧ (own qpr = 6) ∧ (own on = 6) ∧ (own qon = 6) ∧ (∀ i, 0 ≤ i → i < 144 → own (pa i) = 6 ∧ own (qa i) = 6) ∧ (zMT K M o dt la qla cA pr qpr on qon pa qa lr lc kn dl fl)
theorem zc6.oo {K : Nat → ClassId} {M : zq_M} {own : Nat → Nat} {o dt la qla cA pr qpr on qon : Nat} {pa qa : Int → Nat} {lr lc kn dl : Int} {fl : Int → Int} (h : zc6 K M own o dt la qla cA pr qpr on qon pa qa lr lc kn dl fl) : own o = 6 := h.1
theorem zc6.o1 {K : Nat → ClassId} {M : zq_M} {own : Nat → Nat} {o dt la qla cA pr qpr on qon : Nat} {pa qa : Int → Nat} {lr lc kn dl : Int} {fl : Int → Int} (h : zc6 K M own o dt la qla cA pr qpr on qon pa qa lr lc kn dl fl) : own dt = 6 := h.2.1
theorem zc6.o2 {K : Nat → ClassId} {M : zq_M} {own : Nat → Nat} {o dt la qla cA pr qpr on qon : Nat} {pa qa : Int → Nat} {lr lc kn dl : Int} {fl : Int → Int} (h : zc6 K M own o dt la qla cA pr qpr on qon pa qa lr lc kn dl fl) : own la = 6 := h.2.2.1
theorem zc6.o3 {K : Nat → ClassId} {M : zq_M} {own : Nat → Nat} {o dt la qla cA pr qpr on qon : Nat} {pa qa : Int → Nat} {lr lc kn dl : Int} {fl : Int → Int} (h : zc6 K M own o dt la qla cA pr qpr on qon pa qa lr lc kn dl fl) : own qla = 6 := h.2.2.2.1
theorem zc6.o4 {K : Nat → ClassId} {M : zq_M} {own : Nat → Nat} {o dt la qla cA pr qpr on qon : Nat} {pa qa : Int → Nat} {lr lc kn dl : Int} {fl : Int → Int} (h : zc6 K M own o dt la qla cA pr qpr on qon pa qa lr lc kn dl fl) : own cA = 6 := h.2.2.2.2.1
theorem zc6.o5 {K : Nat → ClassId} {M : zq_M} {own : Nat → Nat} {o dt la qla cA pr qpr on qon : Nat} {pa qa : Int → Nat} {lr lc kn dl : Int} {fl : Int → Int} (h : zc6 K M own o dt la qla cA pr qpr on qon pa qa lr lc kn dl fl) : own pr = 6 := h.2.2.2.2.2.1
theorem zc6.o6 {K : Nat → ClassId} {M : zq_M} {own : Nat → Nat} {o dt la qla cA pr qpr on qon : Nat} {pa qa : Int → Nat} {lr lc kn dl : Int} {fl : Int → Int} (h : zc6 K M own o dt la qla cA pr qpr on qon pa qa lr lc kn dl fl) : own qpr = 6 := h.2.2.2.2.2.2.1
theorem zc6.o7 {K : Nat → ClassId} {M : zq_M} {own : Nat → Nat} {o dt la qla cA pr qpr on qon : Nat} {pa qa : Int → Nat} {lr lc kn dl : Int} {fl : Int → Int} (h : zc6 K M own o dt la qla cA pr qpr on qon pa qa lr lc kn dl fl) : own on = 6 := h.2.2.2.2.2.2.2.1
theorem zc6.o8 {K : Nat → ClassId} {M : zq_M} {own : Nat → Nat} {o dt la qla cA pr qpr on qon : Nat} {pa qa : Int → Nat} {lr lc kn dl : Int} {fl : Int → Int} (h : zc6 K M own o dt la qla cA pr qpr on qon pa qa lr lc kn dl fl) : own qon = 6 := h.2.2.2.2.2.2.2.2.1
theorem zc6.oa {K : Nat → ClassId} {M : zq_M} {own : Nat → Nat} {o dt la qla cA pr qpr on qon : Nat} {pa qa : Int → Nat} {lr lc kn dl : Int} {fl : Int → Int} (h : zc6 K M own o dt la qla cA pr qpr on qon pa qa lr lc kn dl fl) : ∀ i, 0 ≤ i → i < 144 → own (pa i) = 6 ∧ own (qa i) = 6 := h.2.2.2.2.2.2.2.2.2.1
theorem zc6.hM {K : Nat → ClassId} {M : zq_M} {own : Nat → Nat} {o dt la qla cA pr qpr on qon : Nat} {pa qa : Int → Nat} {lr lc kn dl : Int} {fl : Int → Int} (h : zc6 K M own o dt la qla cA pr qpr on qon pa qa lr lc kn dl fl) : zMT K M o dt la qla cA pr qpr on qon pa qa lr lc kn dl fl := h.2.2.2.2.2.2.2.2.2.2
def zc7 (K : Nat → ClassId) (M : zq_M) (own : Nat → Nat) (o g : Nat) (ra : Int → Nat) : Prop := (own o = 7) ∧ (own g = 7) ∧ (∀ i, 0 ≤ i → i < 12 → own (ra i) = 7) ∧ (∃ F, M o = some (.inr (7, [.ref g])) ∧ zG K M g ra F ∧ ∀ i j, 0 ≤ F i j ∧ F i j ≤ 96)
theorem zc7.oo {K : Nat → ClassId} {M : zq_M} {own : Nat → Nat} {o g : Nat} {ra : Int → Nat} (h : zc7 K M own o g ra) : own o = 7 := h.1
theorem zc7.og {K : Nat → ClassId} {M : zq_M} {own : Nat → Nat} {o g : Nat} {ra : Int → Nat} (h : zc7 K M own o g ra) : own g = 7 := h.2.1
theorem zc7.oa {K : Nat → ClassId} {M : zq_M} {own : Nat → Nat} {o g : Nat} {ra : Int → Nat} (h : zc7 K M own o g ra) : ∀ i, 0 ≤ i → i < 12 → own (ra i) = 7 := h.2.2.1
theorem zc7.ex {K : Nat → ClassId} {M : zq_M} {own : Nat → Nat} {o g : Nat} {ra : Int → Nat} (h : zc7 K M own o g ra) : ∃ F, M o = some (.inr (7, [.ref g])) ∧ zG K M g ra F ∧ ∀ i j, 0 ≤ F i j ∧ F i j ≤ 96 := h.2.2.2
def zc8 (K : Nat → ClassId) (M : zq_M) (own : Nat → Nat) (o q : Nat) (d : Int) (f : Int → Int) : Prop := (own o = 8) ∧ (own q = 8) ∧ (M o = some (.inr (8, [.ref q, .int (iI d)]))) ∧ (M q = some (cJ (K 1) 25 f)) ∧ (zD f d)
theorem zc8.oo {K : Nat → ClassId} {M : zq_M} {own : Nat → Nat} {o q : Nat} {d : Int} {f : Int → Int} (h : zc8 K M own o q d f) : own o = 8 := h.1
theorem zc8.oq {K : Nat → ClassId} {M : zq_M} {own : Nat → Nat} {o q : Nat} {d : Int} {f : Int → Int} (h : zc8 K M own o q d f) : own q = 8 := h.2.1
theorem zc8.ho {K : Nat → ClassId} {M : zq_M} {own : Nat → Nat} {o q : Nat} {d : Int} {f : Int → Int} (h : zc8 K M own o q d f) : M o = some (.inr (8, [.ref q, .int (iI d)])) := h.2.2.1
theorem zc8.hq {K : Nat → ClassId} {M : zq_M} {own : Nat → Nat} {o q : Nat} {d : Int} {f : Int → Int} (h : zc8 K M own o q d f) : M q = some (cJ (K 1) 25 f) := h.2.2.2.1
theorem zc8.hD {K : Nat → ClassId} {M : zq_M} {own : Nat → Nat} {o q : Nat} {d : Int} {f : Int → Int} (h : zc8 K M own o q d f) : zD f d := h.2.2.2.2
section
variable {K : Nat → ClassId} {M M' : zq_M} {own : Nat → Nat}
theorem zc1.keep {k o s l : Nat} {cnt : Int} {sg lb : Int → Int} (h : zc1 K M own k o s l cnt sg lb) (hk : ∀ q, own q = k → M' q = M q) : zc1 K M' own k o s l cnt sg lb :=
  ⟨h.oo, h.os, h.ol, (hk _ h.oo).trans h.ho, (hk _ h.os).trans h.hs, (hk _ h.ol).trans h.hl, h.hC⟩
theorem zc3.keep {o a b c d : Nat} (h : zc3 K M own o a b c d) (hk : ∀ q, own q = 3 → M' q = M q) : zc3 K M' own o a b c d := by
  obtain ⟨pf, pcs, sp, sn, e1, e2, e3, e4, e5, e6⟩ := h.ex
  exact ⟨h.oo, h.oa, h.ob, h.oc, h.od, h.hbc, h.had, pf, pcs, sp, sn, (hk _ h.oo).trans e1, (hk _ h.oa).trans e2, (hk _ h.ob).trans e3, (hk _ h.oc).trans e4, (hk _ h.od).trans e5, e6⟩
theorem zc4.keep {o a b c : Nat} {p0 cc : Int} {al at0 ls0 : Int → Int} (h : zc4 K M own o a b c p0 cc al at0 ls0) (hk : ∀ q, own q = 4 → M' q = M q) : zc4 K M' own o a b c p0 cc al at0 ls0 :=
  ⟨h.oo, h.oa, h.ob, h.oc, h.hab, (hk _ h.oo).trans h.ho, (hk _ h.oa).trans h.ha, (hk _ h.ob).trans h.hb, (hk _ h.oc).trans h.hc, h.hA⟩
theorem zG_own {g k : Nat} {ra : Int → Nat} {F : Int → Int → Int} (h : zG K M g ra F) (hg : own g = k) (hr : ∀ i, 0 ≤ i → i < 12 → own (ra i) = k) (hk : ∀ q, own q = k → M' q = M q) : zG K M' g ra F :=
  ⟨(hk _ hg).trans h.1, fun i h1 h2 => (hk _ (hr i h1 h2)).trans (h.2.1 i h1 h2), h.2.2⟩
theorem zc5.keep {o g k : Nat} {ra rb : Int → Nat} {rw0 co0 : Int} {F G : Int → Int → Int} (h : zc5 K M own o g k ra rb rw0 co0 F G) (hk : ∀ q, own q = 5 → M' q = M q) : zc5 K M' own o g k ra rb rw0 co0 F G :=
  ⟨h.oo, h.og, h.ok, h.oa, h.ob, (hk _ h.oo).trans h.ho, zG_own h.hG1 h.og h.oa hk, zG_own h.hG2 h.ok h.ob hk, h.hE, h.hFb, h.hGb⟩
theorem zc6.keep {o dt la qla cA pr qpr on qon : Nat} {pa qa : Int → Nat} {lr lc kn dl : Int} {fl : Int → Int} (h : zc6 K M own o dt la qla cA pr qpr on qon pa qa lr lc kn dl fl) (hk : ∀ q, own q = 6 → M' q = M q) : zc6 K M' own o dt la qla cA pr qpr on qon pa qa lr lc kn dl fl := by
  obtain ⟨dg, fc, dx, fx, e1, e2, e3, e4, e5, e6, e7, e8, e9, e10, e11, e12⟩ := h.hM
  exact ⟨h.oo, h.o1, h.o2, h.o3, h.o4, h.o5, h.o6, h.o7, h.o8, h.oa, dg, fc, dx, fx, (hk _ h.oo).trans e1, (hk _ h.o1).trans e2, ⟨(hk _ h.o4).trans e3.1, fun i h1 h2 => ⟨(hk _ (h.oa i h1 h2).1).trans (e3.2.1 i h1 h2).1, (hk _ (h.oa i h1 h2).2).trans (e3.2.1 i h1 h2).2⟩, e3.2.2⟩, e4, (hk _ h.o5).trans e5, (hk _ h.o6).trans e6, e7, (hk _ h.o7).trans e8, (hk _ h.o8).trans e9, (hk _ h.o2).trans e10, (hk _ h.o3).trans e11, e12⟩
theorem zc7.keep {o g : Nat} {ra : Int → Nat} (h : zc7 K M own o g ra) (hk : ∀ q, own q = 7 → M' q = M q) : zc7 K M' own o g ra := by
  obtain ⟨F, e1, e2, e3⟩ := h.ex
  exact ⟨h.oo, h.og, h.oa, F, (hk _ h.oo).trans e1, zG_own e2 h.og h.oa hk, e3⟩
theorem zc8.keep {o q : Nat} {d : Int} {f : Int → Int} (h : zc8 K M own o q d f) (hk : ∀ q, own q = 8 → M' q = M q) : zc8 K M' own o q d f :=
  ⟨h.oo, h.oq, (hk _ h.oo).trans h.ho, (hk _ h.oq).trans h.hq, h.hD⟩
end
/-- what has been read of the diagram -/
def zRd (S : zSt) : Prop := (0 ≤ S.cN ∧ S.cN ≤ 24) ∧ (zSr S.lN S.cN) ∧ (∀ v, (∃ j, 0 ≤ j ∧ j < S.cN ∧ S.lN j = v) ↔ ∃ x, 0 ≤ x ∧ x < 4 * S.n ∧ S.at0 x = v) ∧ (∀ z, 0 ≤ z → z < 4 * S.n → S.al0 z = S.lb z) ∧ (∃ t0, (∀ z, 0 ≤ z → z < 4 * S.n → t0 z = S.lb z) ∧ S.at0 = zja S.sg t0 (4 * S.n) S.n.toNat) ∧ (S.ls0 = fun z => if S.cN ≤ z ∧ z < S.cN + S.cir then 0 else S.lN z) ∧ (∀ x, 0 ≤ x → x < 4 * S.n → 0 ≤ S.N x ∧ S.N x < S.cN + S.cir ∧ zNum S.ls0 (S.cN + S.cir) (S.at0 x) (S.N x)) ∧ (∀ k, 0 ≤ k → k < S.n → S.F k = zrc S.sg S.N k) ∧ (∀ k, 0 ≤ k → k < S.n → S.G k = zrt S.sg S.N k)
theorem zRd.hcN {S : zSt} (h : zRd S) : 0 ≤ S.cN ∧ S.cN ≤ 24 := h.1
theorem zRd.hS {S : zSt} (h : zRd S) : zSr S.lN S.cN := h.2.1
theorem zRd.hM {S : zSt} (h : zRd S) : ∀ v, (∃ j, 0 ≤ j ∧ j < S.cN ∧ S.lN j = v) ↔ ∃ x, 0 ≤ x ∧ x < 4 * S.n ∧ S.at0 x = v := h.2.2.1
theorem zRd.hal {S : zSt} (h : zRd S) : ∀ z, 0 ≤ z → z < 4 * S.n → S.al0 z = S.lb z := h.2.2.2.1
theorem zRd.hat {S : zSt} (h : zRd S) : ∃ t0, (∀ z, 0 ≤ z → z < 4 * S.n → t0 z = S.lb z) ∧ S.at0 = zja S.sg t0 (4 * S.n) S.n.toNat := h.2.2.2.2.1
theorem zRd.hls {S : zSt} (h : zRd S) : S.ls0 = fun z => if S.cN ≤ z ∧ z < S.cN + S.cir then 0 else S.lN z := h.2.2.2.2.2.1
theorem zRd.hN {S : zSt} (h : zRd S) : ∀ x, 0 ≤ x → x < 4 * S.n → 0 ≤ S.N x ∧ S.N x < S.cN + S.cir ∧ zNum S.ls0 (S.cN + S.cir) (S.at0 x) (S.N x) := h.2.2.2.2.2.2.1
theorem zRd.hF {S : zSt} (h : zRd S) : ∀ k, 0 ≤ k → k < S.n → S.F k = zrc S.sg S.N k := h.2.2.2.2.2.2.2.1
theorem zRd.hG {S : zSt} (h : zRd S) : ∀ k, 0 ≤ k → k < S.n → S.G k = zrt S.sg S.N k := h.2.2.2.2.2.2.2.2
/-- the normal form of a minor -/
def zNF (F G : Int → Int → Int) (n c : Int) (fn : Int → Int) : Prop := ∃ res d2 lw, zTk F G n c (if n = c then 0 else -1) 0 res ∧ zD res d2 ∧ (0 ≤ lw ∧ lw ≤ 24) ∧ (∀ j, j < lw → res j = 0) ∧ (0 ≤ d2 → res lw ≠ 0) ∧ fn = fun j => zsg (res lw) * res (j + lw)
/-- the class's object: its parts; what has been read may be of an older diagram -/
def zCW (K : Nat → ClassId) (M : zq_M) (own : Nat → Nat) (ad : zAd) (S : zSt) : Prop := (own ad.x = 0) ∧ (M ad.x = some (.inr (0, [.ref ad.pi, .ref ad.di, .ref ad.ru, .ref ad.al, .ref ad.et, .ref ad.mt, .ref ad.mr, .ref ad.no, .int (iI S.cir), .int (iI S.nk)]))) ∧ (zc1 K M own 1 ad.pi ad.pis ad.pil S.pn S.psg S.plb) ∧ (zc1 K M own 2 ad.di ad.dis ad.dil S.n S.sg S.lb) ∧ (zc3 K M own ad.ru ad.r1 ad.r2 ad.r3 ad.r4) ∧ (∃ p0 cc, zc4 K M own ad.al ad.a1 ad.a2 ad.a3 p0 cc S.al0 S.at0 S.ls0) ∧ (∃ rw0 co0, zc5 K M own ad.et ad.e1 ad.e2 ad.ea ad.eb rw0 co0 S.F S.G) ∧ (zc6 K M own ad.mt ad.dt ad.la ad.qla ad.cA ad.pr ad.qpr ad.on ad.qon ad.pa ad.qa S.lr S.lc S.kn S.dl S.fl) ∧ (zc7 K M own ad.mr ad.m1 ad.rm) ∧ (zc8 K M own ad.no ad.qno S.dn S.fn) ∧ (0 ≤ S.cir ∧ S.cir ≤ 9) ∧ (inI S.lr ∧ inI S.lc)
theorem zCW.ox {K : Nat → ClassId} {M : zq_M} {own : Nat → Nat} {ad : zAd} {S : zSt} (h : zCW K M own ad S) : own ad.x = 0 := h.1
theorem zCW.hx {K : Nat → ClassId} {M : zq_M} {own : Nat → Nat} {ad : zAd} {S : zSt} (h : zCW K M own ad S) : M ad.x = some (.inr (0, [.ref ad.pi, .ref ad.di, .ref ad.ru, .ref ad.al, .ref ad.et, .ref ad.mt, .ref ad.mr, .ref ad.no, .int (iI S.cir), .int (iI S.nk)])) := h.2.1
theorem zCW.c1 {K : Nat → ClassId} {M : zq_M} {own : Nat → Nat} {ad : zAd} {S : zSt} (h : zCW K M own ad S) : zc1 K M own 1 ad.pi ad.pis ad.pil S.pn S.psg S.plb := h.2.2.1
theorem zCW.c2 {K : Nat → ClassId} {M : zq_M} {own : Nat → Nat} {ad : zAd} {S : zSt} (h : zCW K M own ad S) : zc1 K M own 2 ad.di ad.dis ad.dil S.n S.sg S.lb := h.2.2.2.1
theorem zCW.c3 {K : Nat → ClassId} {M : zq_M} {own : Nat → Nat} {ad : zAd} {S : zSt} (h : zCW K M own ad S) : zc3 K M own ad.ru ad.r1 ad.r2 ad.r3 ad.r4 := h.2.2.2.2.1
theorem zCW.c4 {K : Nat → ClassId} {M : zq_M} {own : Nat → Nat} {ad : zAd} {S : zSt} (h : zCW K M own ad S) : ∃ p0 cc, zc4 K M own ad.al ad.a1 ad.a2 ad.a3 p0 cc S.al0 S.at0 S.ls0 := h.2.2.2.2.2.1
theorem zCW.c5 {K : Nat → ClassId} {M : zq_M} {own : Nat → Nat} {ad : zAd} {S : zSt} (h : zCW K M own ad S) : ∃ rw0 co0, zc5 K M own ad.et ad.e1 ad.e2 ad.ea ad.eb rw0 co0 S.F S.G := h.2.2.2.2.2.2.1
theorem zCW.c6 {K : Nat → ClassId} {M : zq_M} {own : Nat → Nat} {ad : zAd} {S : zSt} (h : zCW K M own ad S) : zc6 K M own ad.mt ad.dt ad.la ad.qla ad.cA ad.pr ad.qpr ad.on ad.qon ad.pa ad.qa S.lr S.lc S.kn S.dl S.fl := h.2.2.2.2.2.2.2.1
theorem zCW.c7 {K : Nat → ClassId} {M : zq_M} {own : Nat → Nat} {ad : zAd} {S : zSt} (h : zCW K M own ad S) : zc7 K M own ad.mr ad.m1 ad.rm := h.2.2.2.2.2.2.2.2.1
theorem zCW.c8 {K : Nat → ClassId} {M : zq_M} {own : Nat → Nat} {ad : zAd} {S : zSt} (h : zCW K M own ad S) : zc8 K M own ad.no ad.qno S.dn S.fn := h.2.2.2.2.2.2.2.2.2.1
theorem zCW.hci {K : Nat → ClassId} {M : zq_M} {own : Nat → Nat} {ad : zAd} {S : zSt} (h : zCW K M own ad S) : 0 ≤ S.cir ∧ S.cir ≤ 9 := h.2.2.2.2.2.2.2.2.2.2.1
theorem zCW.hlr {K : Nat → ClassId} {M : zq_M} {own : Nat → Nat} {ad : zAd} {S : zSt} (h : zCW K M own ad S) : inI S.lr ∧ inI S.lc := h.2.2.2.2.2.2.2.2.2.2.2
def zCS (K : Nat → ClassId) (M : zq_M) (own : Nat → Nat) (ad : zAd) (S : zSt) : Prop := (zCW K M own ad S) ∧ (zc4 K M own ad.al ad.a1 ad.a2 ad.a3 (4 * S.n) (S.cN + S.cir) S.al0 S.at0 S.ls0) ∧ (zc5 K M own ad.et ad.e1 ad.e2 ad.ea ad.eb S.n (S.cN + S.cir) S.F S.G) ∧ (zRd S) ∧ (S.kn = 0 ∨ S.kn = 1) ∧ (S.kn = 1 → zTk S.F S.G S.n (S.cN + S.cir) S.lr S.lc S.fl) ∧ (S.nk = 0 ∨ S.nk = 1) ∧ (S.nk = 1 → zNF S.F S.G S.n (S.cN + S.cir) S.fn)
theorem zCS.w {K : Nat → ClassId} {M : zq_M} {own : Nat → Nat} {ad : zAd} {S : zSt} (h : zCS K M own ad S) : zCW K M own ad S := h.1
theorem zCS.c4 {K : Nat → ClassId} {M : zq_M} {own : Nat → Nat} {ad : zAd} {S : zSt} (h : zCS K M own ad S) : zc4 K M own ad.al ad.a1 ad.a2 ad.a3 (4 * S.n) (S.cN + S.cir) S.al0 S.at0 S.ls0 := h.2.1
theorem zCS.c5 {K : Nat → ClassId} {M : zq_M} {own : Nat → Nat} {ad : zAd} {S : zSt} (h : zCS K M own ad S) : zc5 K M own ad.et ad.e1 ad.e2 ad.ea ad.eb S.n (S.cN + S.cir) S.F S.G := h.2.2.1
theorem zCS.hrd {K : Nat → ClassId} {M : zq_M} {own : Nat → Nat} {ad : zAd} {S : zSt} (h : zCS K M own ad S) : zRd S := h.2.2.2.1
theorem zCS.hk0 {K : Nat → ClassId} {M : zq_M} {own : Nat → Nat} {ad : zAd} {S : zSt} (h : zCS K M own ad S) : S.kn = 0 ∨ S.kn = 1 := h.2.2.2.2.1
theorem zCS.hkn {K : Nat → ClassId} {M : zq_M} {own : Nat → Nat} {ad : zAd} {S : zSt} (h : zCS K M own ad S) : S.kn = 1 → zTk S.F S.G S.n (S.cN + S.cir) S.lr S.lc S.fl := h.2.2.2.2.2.1
theorem zCS.hn0 {K : Nat → ClassId} {M : zq_M} {own : Nat → Nat} {ad : zAd} {S : zSt} (h : zCS K M own ad S) : S.nk = 0 ∨ S.nk = 1 := h.2.2.2.2.2.2.1
theorem zCS.hnf {K : Nat → ClassId} {M : zq_M} {own : Nat → Nat} {ad : zAd} {S : zSt} (h : zCS K M own ad S) : S.nk = 1 → zNF S.F S.G S.n (S.cN + S.cir) S.fn := h.2.2.2.2.2.2.2
/-- what makes a row a diagram that can be read: labels above 0, no more than 24 arcs -/
def zOkD (n : Int) (sg lb : Int → Int) : Prop := (∀ x, 0 ≤ x → x < 4 * n → 1 ≤ lb x) ∧ ∀ t0, (∀ z, 0 ≤ z → z < 4 * n → t0 z = lb z) → ∀ c' ls', zSr ls' c' → (∀ j, 0 ≤ j → j < c' → ∃ x, 0 ≤ x ∧ x < 4 * n ∧ (zja sg t0 (4 * n) n.toNat) x = ls' j) → c' ≤ 24
theorem zN_ex {n cN cir : Int} {lN at0 : Int → Int} (h0 : 0 ≤ cN ∧ 0 ≤ cir) (hS : zSr lN cN) (hM : ∀ v, (∃ j, 0 ≤ j ∧ j < cN ∧ lN j = v) ↔ ∃ x, 0 ≤ x ∧ x < n ∧ at0 x = v) : ∃ N : Int → Int, ∀ x, 0 ≤ x → x < n → 0 ≤ N x ∧ N x < cN + cir ∧ zNum (fun z => if cN ≤ z ∧ z < cN + cir then 0 else lN z) (cN + cir) (at0 x) (N x) := by
  have hc : ∀ x, ∃ N, 0 ≤ x → x < n → 0 ≤ N ∧ N < cN ∧ lN N = at0 x := fun x => by
    by_cases h1 : 0 ≤ x
    · by_cases h2 : x < n
      · obtain ⟨j, j1, j2, j3⟩ := (hM (at0 x)).mpr ⟨x, h1, h2, rfl⟩
        exact ⟨j, fun _ _ => ⟨j1, j2, j3⟩⟩
      · exact ⟨0, fun _ h => absurd h h2⟩
    · exact ⟨0, fun h => absurd h h1⟩
  obtain ⟨N, hN⟩ := Classical.axiomOfChoice hc
  refine ⟨N, fun x h1 h2 => ?_⟩
  obtain ⟨a1, a2, a3⟩ := hN x h1 h2
  refine ⟨a1, by omega, Or.inl ⟨a1, by omega, ?_, fun j j1 j2 => ?_⟩⟩
  · show (if cN ≤ N x ∧ N x < cN + cir then 0 else lN (N x)) = at0 x
    rw [if_neg (by omega)]; exact a3
  · show ¬ (if cN ≤ j ∧ j < cN + cir then 0 else lN j) = at0 x
    rw [if_neg (by omega), ← a3]
    have := hS j _ j1 j2 a2
    omega
theorem zrc_bd (sg N : Int → Int) (k j : Int) : -4 ≤ zrc sg N k j ∧ zrc sg N k j ≤ 4 := by unfold zrc; (repeat' split) <;> omega
theorem zrt_bd (sg N : Int → Int) (k j : Int) : -4 ≤ zrt sg N k j ∧ zrt sg N k j ≤ 4 := by unfold zrt; (repeat' split) <;> omega
/-- a prime of two digits -/
def zPrm (p : Int) : Prop := 2 ≤ p ∧ p ≤ 97 ∧ ∀ d, 2 ≤ d → d < p → ¬ p % d = 0
theorem zsq_le {i p : Int} (h : 2 ≤ i) (h1 : i * i ≤ p) (h2 : p ≤ 97) : i ≤ 9 := by
  by_cases q : i ≤ 9
  · exact q
  · have := Int.mul_le_mul (show (10 : Int) ≤ i by omega) (show (10 : Int) ≤ i by omega) (by omega) (by omega)
    omega
theorem zsq_le2 {i : Int} (h : 2 ≤ i) (h1 : i ≤ 98) : 0 ≤ i * i ∧ i * i ≤ 9604 := by
  have h2 := Int.mul_le_mul (show i ≤ 98 from h1) (show i ≤ 98 from h1) (by omega) (by omega)
  have h3 := Int.mul_nonneg (show 0 ≤ i by omega) (show 0 ≤ i by omega)
  omega
theorem zsq_lt {i : Int} (h : 2 ≤ i) : i < i * i := by
  have h2 := Int.mul_le_mul (show (2 : Int) ≤ i from h) (Int.le_refl i) (by omega) (by omega)
  omega
theorem zPrm_of {i p : Int} (h1 : 2 ≤ p) (h2 : p ≤ 97) (hi : 2 ≤ i) (hl : p < i * i) (hn : ∀ d, 2 ≤ d → d < i → ¬ p % d = 0) : zPrm p := by
  refine ⟨h1, h2, fun d d1 d2 hd => ?_⟩
  by_cases q : d < i
  · exact hn d d1 q hd
  · have hde : d * (p / d) = p := by have := Int.mul_ediv_add_emod p d; omega
    have he0 : 0 ≤ p / d := Int.ediv_nonneg (by omega) (by omega)
    have he1 : 2 ≤ p / d := by
      rcases (show p / d = 0 ∨ p / d = 1 ∨ 2 ≤ p / d by omega) with e | e | e
      · rw [e] at hde; omega
      · rw [e] at hde; omega
      · exact e
    have he2 : p / d < i := by
      by_cases q2 : p / d < i
      · exact q2
      · have := Int.mul_le_mul (show i ≤ d by omega) (show i ≤ p / d by omega) (by omega) (by omega)
        omega
    refine hn (p / d) he1 he2 ?_
    have : p = (p / d) * d := by rw [Int.mul_comm]; omega
    exact Int.emod_eq_zero_of_dvd ⟨d, this⟩
theorem zMT_o {K : Nat → ClassId} {M : zq_M} {o dt la qla cA pr qpr on qon : Nat} {pa qa : Int → Nat} {lr lc kn dl : Int} {fl : Int → Int} (h : zMT K M o dt la qla cA pr qpr on qon pa qa lr lc kn dl fl) : M o = some (.inr (6, [.ref dt, .ref la, .int (iI lr), .int (iI lc), .int (iI kn)])) := by
  obtain ⟨_, _, _, _, e1, _⟩ := h
  exact e1
theorem zMT_forget {K : Nat → ClassId} {M M' : zq_M} {o dt la qla cA pr qpr on qon : Nat} {pa qa : Int → Nat} {lr lc kn dl : Int} {fl : Int → Int} (h : zMT K M o dt la qla cA pr qpr on qon pa qa lr lc kn dl fl) (hs : M' o = some (.inr (6, [.ref dt, .ref la, .int (iI lr), .int (iI lc), .int (iI 0)]))) (ho : ∀ q, q ≠ o → M' q = M q) : zMT K M' o dt la qla cA pr qpr on qon pa qa lr lc 0 dl fl := by
  obtain ⟨dg, fc, dx, fx, e1, e2, e3, e4, e5, e6, e7, e8, e9, e10, e11, e12⟩ := h
  have k : ∀ {a : Nat} {y : va_E}, M a = some y → y ≠ .inr (6, [.ref dt, .ref la, .int (iI lr), .int (iI lc), .int (iI kn)]) → M' a = some y := fun ha hne => (ho _ (zq_ne ha e1 hne)).trans ha
  exact ⟨dg, fc, dx, fx, hs, k e2 (by simp), ⟨k e3.1 (by simp), fun i h1 h2 => ⟨k (e3.2.1 i h1 h2).1 (by simp), k (e3.2.1 i h1 h2).2 (by simp)⟩, e3.2.2⟩, e4, k e5 (by simp), k e6 (by simp), e7, k e8 (by simp), k e9 (by simp), k e10 (by simp), k e11 (by simp), e12⟩
/-- the diagram, the row that is put in, the circles -/
def zBs (S : zSt) (pn : Int) (psg plb : Int → Int) (n : Int) (sg lb : Int → Int) (cir : Int) : Prop := S.pn = pn ∧ S.psg = psg ∧ S.plb = plb ∧ S.n = n ∧ S.sg = sg ∧ S.lb = lb ∧ S.cir = cir
theorem zu_in {f : Int → Int} {k v : Int} (hf : ∀ j, inI (f j)) (hv : inI v) : ∀ j, inI (zu f k v j) := fun j => by unfold zu; split; exact hv; exact hf j
theorem zw4_in {lb : Int → Int} {k l0 l1 l2 l3 : Int} (h : ∀ j, inI (lb j)) (h0 : inI l0) (h1 : inI l1) (h2 : inI l2) (h3 : inI l3) : ∀ j, inI (zw4 lb k l0 l1 l2 l3 j) := zu_in (zu_in (zu_in (zu_in h h0) h1) h2) h3
theorem zC_append {cnt s0 l0 l1 l2 l3 : Int} {sg lb : Int → Int} (h : zC cnt sg lb) (hc : cnt < 12) (hs : inI s0) (h0 : inI l0) (h1 : inI l1) (h2 : inI l2) (h3 : inI l3) : zC (cnt + 1) (zu sg cnt s0) (zw4 lb cnt l0 l1 l2 l3) := ⟨by have := h.1; omega, by omega, zu_in h.2.2.1 hs, zw4_in h.2.2.2 h0 h1 h2 h3⟩
theorem zcl_in (sg lb : Int → Int) (k : Int) : 0 ≤ zcl sg lb k ∧ zcl sg lb k ≤ 2 := by unfold zcl; (repeat' split) <;> omega
theorem zC_swap {n k : Int} {sg lb : Int → Int} (hk : 0 ≤ k ∧ k < n) (h : zC n sg lb) (hs : sg k = 1 ∨ sg k = -1) : zC n (zu sg k (-sg k)) (zsw sg lb k) := ⟨h.1, h.2.1, zu_in h.2.2.1 (by rcases hs with e | e <;> rw [e] <;> decide), zw4_in h.2.2.2 (h.2.2.2 _) (h.2.2.2 _) (h.2.2.2 _) (h.2.2.2 _)⟩
theorem zmk_in' {lb : Int → Int} {a b : Int} (h : ∀ j, inI (lb j)) (ha : inI a) (hb : inI b) : ∀ j, inI (zmk lb a b j) := fun j => by
  unfold zmk
  split
  · rcases (show min a b = a ∨ min a b = b by omega) with e | e <;> rw [e] <;> assumption
  · exact h j
theorem zC_join {n k : Int} {sg lb : Int → Int} (hk : 0 ≤ k ∧ k < n) (h : zC n sg lb) : zC (n - 1) (zrs sg n k) (zjs sg lb n k) := by
  refine ⟨by omega, by have := h.2.1; omega, fun j => by unfold zrs; split <;> exact h.2.2.1 _, fun j => ?_⟩
  have h2 : ∀ j, inI (zj2 sg lb k j) := zmk_in' (zmk_in' h.2.2.2 (h.2.2.2 _) (h.2.2.2 _)) (zmk_in' h.2.2.2 (h.2.2.2 _) (h.2.2.2 _) _) (zmk_in' h.2.2.2 (h.2.2.2 _) (h.2.2.2 _) _)
  show inI (zrl (zj2 sg lb k) n k j)
  unfold zrl
  split <;> exact h2 _
theorem zFB_in {cnt r : Int} {sg lb : Int → Int} (h : zFB cnt sg lb r) : 0 ≤ r ∧ r ≤ 3 := by
  rcases h with ⟨h, -⟩ | ⟨_, _, -, -, -, ⟨h, -⟩ | ⟨-, ⟨h, -⟩ | ⟨h, -⟩⟩⟩ <;> omega
theorem zSb_own {own : Nat → Nat} {pa qa pa1 qa1 : Int → Nat} {k : Nat} (h : zSb pa qa pa1 qa1) (ho : ∀ i, 0 ≤ i → i < 144 → own (pa i) = k ∧ own (qa i) = k) : ∀ i, 0 ≤ i → i < 144 → own (pa1 i) = k ∧ own (qa1 i) = k := fun i h1 h2 => by
  obtain ⟨j, j1, j2, e1, e2⟩ := h i h1 h2
  rw [e1, e2]
  exact ho j j1 j2
theorem zMT_la {K : Nat → ClassId} {M : zq_M} {o dt la qla cA pr qpr on qon : Nat} {pa qa : Int → Nat} {lr lc kn dl : Int} {fl : Int → Int} (h : zMT K M o dt la qla cA pr qpr on qon pa qa lr lc kn dl fl) : M la = some (.inr (8, [.ref qla, .int (iI dl)])) ∧ M qla = some (cJ (K 1) 25 fl) ∧ zD fl dl := by
  obtain ⟨_, _, _, _, _, _, _, _, _, _, _, _, _, e10, e11, e12, _⟩ := h
  exact ⟨e10, e11, e12⟩
theorem zD_oo {f : Int → Int} {d : Int} (h : zD f d) : ∀ j, j < 0 ∨ 25 ≤ j → f j = 0 := fun j hj => by
  rcases hj with q | q
  · exact h.2.2.2.1 j q
  · exact h.2.2.1 j (by have := h.2.1; omega)
theorem zat_rw {F : Int → Int → Int} {rw0 co0 : Int} {ra rb : Int → Nat} {G : Int → Int → Int} (h : zE rw0 co0 ra rb F G) : 0 ≤ rw0 ∧ rw0 ≤ 12 ∧ 0 ≤ co0 ∧ co0 ≤ 33 := ⟨h.1, h.2.1, h.2.2.1, h.2.2.2.1⟩
/-- which part an address belongs to, told by the world in which it first stands -/
def zon (x : Nat) (w0 w1 w2 w3 w4 w5 w6 w7 w8 : zq_M) : Nat → Nat := fun q => if q = x then 0 else if (w0 q).isSome then 10 else if (w1 q).isSome then 1 else if (w2 q).isSome then 2 else if (w3 q).isSome then 3 else if (w4 q).isSome then 4 else if (w5 q).isSome then 5 else if (w6 q).isSome then 6 else if (w7 q).isSome then 7 else if (w8 q).isSome then 8 else 10
theorem zmo {w v : zq_M} {x : Nat} (h : ∀ q, w q ≠ none → q ≠ x → v q = w q) {q : Nat} (hq : v q = none) (hx : q ≠ x) : w q = none := Classical.byContradiction fun z => z ((h q z hx).symm.trans hq)
section
variable {x q : Nat} {w0 w1 w2 w3 w4 w5 w6 w7 w8 : zq_M} {e : va_E}
theorem zon0 (w0 w1 w2 w3 w4 w5 w6 w7 w8 : zq_M) : zon x w0 w1 w2 w3 w4 w5 w6 w7 w8 x = 0 := if_pos rfl
theorem zon10 (hx : q ≠ x) (h : w0 q ≠ none) : zon x w0 w1 w2 w3 w4 w5 w6 w7 w8 q = 10 := by
  unfold zon; rw [if_neg hx, if_pos (Option.isSome_iff_ne_none.mpr h)]
theorem zon1 (hx : q ≠ x) (h0 : w0 q = none) (h : w1 q = some e) : zon x w0 w1 w2 w3 w4 w5 w6 w7 w8 q = 1 := by
  unfold zon; rw [if_neg hx, h0, h]; rfl
theorem zon2 (hx : q ≠ x) (h0 : w0 q = none) (h1 : w1 q = none) (h : w2 q = some e) : zon x w0 w1 w2 w3 w4 w5 w6 w7 w8 q = 2 := by
  unfold zon; rw [if_neg hx, h0, h1, h]; rfl
theorem zon3 (hx : q ≠ x) (h0 : w0 q = none) (h1 : w1 q = none) (h2 : w2 q = none) (h : w3 q = some e) : zon x w0 w1 w2 w3 w4 w5 w6 w7 w8 q = 3 := by
  unfold zon; rw [if_neg hx, h0, h1, h2, h]; rfl
theorem zon4 (hx : q ≠ x) (h0 : w0 q = none) (h1 : w1 q = none) (h2 : w2 q = none) (h3 : w3 q = none) (h : w4 q = some e) : zon x w0 w1 w2 w3 w4 w5 w6 w7 w8 q = 4 := by
  unfold zon; rw [if_neg hx, h0, h1, h2, h3, h]; rfl
theorem zon5 (hx : q ≠ x) (h0 : w0 q = none) (h1 : w1 q = none) (h2 : w2 q = none) (h3 : w3 q = none) (h4 : w4 q = none) (h : w5 q = some e) : zon x w0 w1 w2 w3 w4 w5 w6 w7 w8 q = 5 := by
  unfold zon; rw [if_neg hx, h0, h1, h2, h3, h4, h]; rfl
theorem zon6 (hx : q ≠ x) (h0 : w0 q = none) (h1 : w1 q = none) (h2 : w2 q = none) (h3 : w3 q = none) (h4 : w4 q = none) (h5 : w5 q = none) (h : w6 q = some e) : zon x w0 w1 w2 w3 w4 w5 w6 w7 w8 q = 6 := by
  unfold zon; rw [if_neg hx, h0, h1, h2, h3, h4, h5, h]; rfl
theorem zon7 (hx : q ≠ x) (h0 : w0 q = none) (h1 : w1 q = none) (h2 : w2 q = none) (h3 : w3 q = none) (h4 : w4 q = none) (h5 : w5 q = none) (h6 : w6 q = none) (h : w7 q = some e) : zon x w0 w1 w2 w3 w4 w5 w6 w7 w8 q = 7 := by
  unfold zon; rw [if_neg hx, h0, h1, h2, h3, h4, h5, h6, h]; rfl
theorem zon8 (hx : q ≠ x) (h0 : w0 q = none) (h1 : w1 q = none) (h2 : w2 q = none) (h3 : w3 q = none) (h4 : w4 q = none) (h5 : w5 q = none) (h6 : w6 q = none) (h7 : w7 q = none) (h : w8 q = some e) : zon x w0 w1 w2 w3 w4 w5 w6 w7 w8 q = 8 := by
  unfold zon; rw [if_neg hx, h0, h1, h2, h3, h4, h5, h6, h7, h]; rfl
end
theorem zPI_0 : zPI (fun _ => -1) (fun _ _ => 0) := fun i _ _ => ⟨zD_0, fun j => ⟨(show (-16777216 : Int) ≤ 0 by decide), (show (0 : Int) ≤ 16777216 by decide)⟩, (show (-1 : Int) ≤ 12 by decide)⟩
theorem zi0 : inI 0 := by decide
theorem zon_le {x : Nat} {w0 w1 w2 w3 w4 w5 w6 w7 w8 Mf : zq_M} (h1 : ∀ q, w1 q ≠ none → q ≠ x → Mf q = w1 q) (h2 : ∀ q, w2 q ≠ none → q ≠ x → Mf q = w2 q) (h3 : ∀ q, w3 q ≠ none → q ≠ x → Mf q = w3 q) (h4 : ∀ q, w4 q ≠ none → q ≠ x → Mf q = w4 q) (h5 : ∀ q, w5 q ≠ none → q ≠ x → Mf q = w5 q) (h6 : ∀ q, w6 q ≠ none → q ≠ x → Mf q = w6 q) (h7 : ∀ q, w7 q ≠ none → q ≠ x → Mf q = w7 q) (h8 : ∀ q, w8 q ≠ none → q ≠ x → Mf q = w8 q) (hx : Mf x ≠ none) (q : Nat) (hq : zon x w0 w1 w2 w3 w4 w5 w6 w7 w8 q ≤ 8) : Mf q ≠ none := by
  by_cases e : q = x
  · rw [e]; exact hx
  · have k : ∀ {w : zq_M}, (∀ q, w q ≠ none → q ≠ x → Mf q = w q) → (w q).isSome = true → Mf q ≠ none := fun hw hs => by
      have hn := Option.isSome_iff_ne_none.mp hs
      rw [hw q hn e]; exact hn
    unfold zon at hq
    rw [if_neg e] at hq
    split at hq
    · omega
    · split at hq
      · rename_i hs; exact k h1 hs
      · split at hq
        · rename_i hs; exact k h2 hs
        · split at hq
          · rename_i hs; exact k h3 hs
          · split at hq
            · rename_i hs; exact k h4 hs
            · split at hq
              · rename_i hs; exact k h5 hs
              · split at hq
                · rename_i hs; exact k h6 hs
                · split at hq
                  · rename_i hs; exact k h7 hs
                  · split at hq
                    · rename_i hs; exact k h8 hs
                    · omega
theorem zIni {K : Nat → ClassId} {M : zq_M} {own : Nat → Nat} {ad : zAd} (c1 : zc1 K M own 1 ad.pi ad.pis ad.pil 0 (fun _ => 0) (fun _ => 0)) (c2 : zc1 K M own 2 ad.di ad.dis ad.dil 0 (fun _ => 0) (fun _ => 0)) (c3 : zc3 K M own ad.ru ad.r1 ad.r2 ad.r3 ad.r4) (c4 : zc4 K M own ad.al ad.a1 ad.a2 ad.a3 0 0 (fun _ => 0) (fun _ => 0) (fun _ => 0)) (c5 : zc5 K M own ad.et ad.e1 ad.e2 ad.ea ad.eb 0 0 (fun _ _ => 0) (fun _ _ => 0)) (c6 : zc6 K M own ad.mt ad.dt ad.la ad.qla ad.cA ad.pr ad.qpr ad.on ad.qon ad.pa ad.qa 0 0 0 (-1) (fun _ => 0)) (c7 : zc7 K M own ad.mr ad.m1 ad.rm) (c8 : zc8 K M own ad.no ad.qno (-1) (fun _ => 0)) (ox : own ad.x = 0) (hx : M ad.x = some (.inr (0, [.ref ad.pi, .ref ad.di, .ref ad.ru, .ref ad.al, .ref ad.et, .ref ad.mt, .ref ad.mr, .ref ad.no, .int (iI 0), .int (iI 0)]))) :
    zCS K M own ad ((0, (fun _ => 0), (fun _ => 0), 0, (fun _ => 0), (fun _ => 0), 0, 0, (fun _ => 0), (fun _ => 0), (fun _ => 0), (fun _ => 0), (fun _ => 0), (fun _ _ => 0), (fun _ _ => 0), 0, 0, 0, -1, (fun _ => 0), 0, -1, (fun _ => 0)) : zSt) := by
  refine ⟨⟨ox, hx, c1, c2, c3, ⟨_, _, c4⟩, ⟨_, _, c5⟩, c6, c7, c8, ⟨Int.le_refl _, (show (0 : Int) ≤ 9 by decide)⟩, ⟨zi0, zi0⟩⟩, c4, c5, ⟨⟨Int.le_refl _, (show (0 : Int) ≤ 24 by decide)⟩, fun i j h1 h2 h3 => ?_, fun v => ⟨fun ⟨j, h1, h2, _⟩ => ?_, fun ⟨x, h1, h2, _⟩ => ?_⟩, fun z h1 h2 => rfl, ⟨fun _ => 0, fun _ _ _ => rfl, rfl⟩, ?_, fun x h1 h2 => ?_, fun k h1 h2 => ?_, fun k h1 h2 => ?_⟩, Or.inl rfl, fun z => ?_, Or.inl rfl, fun z => ?_⟩
  · have h4 : j < (0 : Int) := h3; omega
  · have h4 : j < (0 : Int) := h2; omega
  · have h4 : x < 4 * (0 : Int) := h2; omega
  · show (fun _ => (0 : Int)) = fun z : Int => if (0 : Int) ≤ z ∧ z < 0 + 0 then (0 : Int) else 0
    funext z; split <;> rfl
  · have h4 : x < 4 * (0 : Int) := h2; omega
  · have h4 : k < (0 : Int) := h2; omega
  · have h4 : k < (0 : Int) := h2; omega
  · exact absurd (show (0 : Int) = 1 from z) (by decide)
  · exact absurd (show (0 : Int) = 1 from z) (by decide)
