/-- a table is kept where the world keeps what it held, but for an object -/
theorem zG_new {K : Nat → ClassId} {M M1 : zq_M} {g o : Nat} {ra : Int → Nat} {F : Int → Int → Int} {x : Nat × List Value} (h : zG K M g ra F) (ho : M o = some (.inr x)) (hk : ∀ q, M q ≠ none → q ≠ o → M1 q = M q) : zG K M1 g ra F :=
  ⟨(hk g (by rw [h.1]; nofun) (zq_ne h.1 ho (by simp))).trans h.1, fun i h1 h2 => (hk _ (by rw [h.2.1 i h1 h2]; nofun) (zq_ne (h.2.1 i h1 h2) ho (by simp))).trans (h.2.1 i h1 h2), h.2.2⟩
