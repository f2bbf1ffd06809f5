/-- r: where row m of the minors begins; 14: it is all 0 -/
def zLo (av : Int → Int) (m r : Int) : Prop := (0 ≤ r ∧ r ≤ 14) ∧ (∀ e, 0 ≤ e → e < r → av (14 * m + e) = 0) ∧ (r < 14 → ¬ av (14 * m + r) = 0)
theorem zLo_un {av : Int → Int} {m r r' : Int} (h : zLo av m r) (h' : zLo av m r') : r = r' := by
  obtain ⟨a1, a2, a3⟩ := h
  obtain ⟨b1, b2, b3⟩ := h'
  by_cases q : r < r'
  · exact absurd (b2 r a1.1 q) (a3 (by omega))
  · by_cases q2 : r' < r
    · exact absurd (a2 r' b1.1 q2) (b3 (by omega))
    · omega
/-- row m from place lo on -/
def zRw (av : Int → Int) (m lo z : Int) : Int := if z + lo < 14 then av (14 * m + lo + z) else 0
theorem zRw_p {av : Int → Int} {m lo z : Int} (h : z + lo < 14) : zRw av m lo z = av (14 * m + lo + z) := if_pos h
theorem zRw_n {av : Int → Int} {m lo z : Int} (h : ¬ z + lo < 14) : zRw av m lo z = 0 := if_neg h
theorem zsg0 {q x : Int} (hq : q = 0 ∨ q = 1 ∨ q = -1) (hx : -9223372036854775807 ≤ x ∧ x ≤ 9223372036854775807) : -9223372036854775807 ≤ q * x ∧ q * x ≤ 9223372036854775807 := by
  rcases hq with h | h | h <;> subst h <;> omega
def zvl (po : Int → Int) (t : Int) : Nat → Int
  | 0 => 0
  | j + 1 => t * zvl po t j + po (13 - j)
section ZC
variable {p : Program} {l : Launch} {e : Env} {R : Room} {s : State} {m : MethodId} {args : Array Value} {below : List Frame} {meth : Method} {c : Code} {H H1 : Heap} {locs : List Loc} {cells slots : Nat} {Q : State → Prop}
variable {cc : ByteArray} {pc : Nat} {ls : Array Slot} {rest : List Value} {D : va_G} {cl : List vw_C} {A : Nat → Prop} {a : Nat} {tys : List (ClassId × FieldType)} {H0 : Heap} {M : zq_M}
theorem zq_lrem (hx : p.tables.exec = Jvm.exec) (hb : c.code = cc) {x y : Int} (hi : inL x) (hi2 : x ≠ -9223372036854775808) (hy : y ≠ 0) (hj : inL y) (hdg : decode cc pc = .ok (.lrem, 1)) (k : W p l e R s m args below meth c H locs cells slots Q (F0 m (pc + 1) ls (.long (iL (x.tmod y)) :: rest))) : W p l e R s m args below meth c H locs cells slots Q (F0 m pc ls (.long (iL y) :: .long (iL x) :: rest)) :=
  lv_lrem hx hb hdg (by rw [← iL_0, iL_eq hj (by omega)]; exact hy) (by
    have e : x - x.tdiv y * y = x.tmod y := by
      have h := Int.tmod_add_mul_tdiv x y
      rw [Int.mul_comm] at h
      omega
    rw [iL_tdiv hi hj hi2, iL_mul, iL_sub, e]; exact k)
end ZC
