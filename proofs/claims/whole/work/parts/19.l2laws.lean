/-! ===== level 2: the case under other laws ===== -/
def cL (c : Nat → Nat) (d : Nat) : Nat → Nat := fun z => if z = 2 then d % 2 else if z = 3 then d / 2 % 2 else if z = 4 then d / 4 % 2 else c z
section LAWS
variable {S : XS} {M : MS} {N K : Nat} {c : Nat → Nat}
theorem cL_far {d z : Nat} (h : 5 ≤ z) : cL c d z = c z := by
  unfold cL
  rw [if_neg (by omega), if_neg (by omega), if_neg (by omega)]
theorem cL_1 {d z : Nat} (h : z < 2) : cL c d z = c z := by
  unfold cL
  rw [if_neg (by omega), if_neg (by omega), if_neg (by omega)]
theorem cL_2 {d : Nat} : cL c d 2 = d % 2 := rfl
theorem cL_3 {d : Nat} : cL c d 3 = d / 2 % 2 := rfl
theorem cL_4 {d : Nat} : cL c d 4 = d / 4 % 2 := rfl
theorem cL_OK (hO : OKc N K c) (d : Nat) : OKc N K (cL c d) := by
  obtain ⟨h1, h2, h3, h4, h5⟩ := hO
  refine ⟨h1, ⟨?_, ?_, ?_, ?_⟩, ?_, ?_, ?_⟩
  · rw [cL_2]
    omega
  · rw [cL_3]
    omega
  · rw [cL_4]
    omega
  · rw [cL_far (show 5 ≤ 5 by omega), cL_far (show 5 ≤ 6 by omega), cL_far (show 5 ≤ 7 by omega), cL_far (show 5 ≤ 8 by omega), cL_far (show 5 ≤ 9 by omega)]
    exact h2.2.2.2
  · intro i hi
    rw [cL_far (show 5 ≤ 10 + 6 * i by omega), cL_far (show 5 ≤ 10 + 6 * i + 1 by omega), cL_far (show 5 ≤ 10 + 6 * i + 2 by omega), cL_far (show 5 ≤ 10 + 6 * i + 3 by omega), cL_far (show 5 ≤ 10 + 6 * i + 4 by omega), cL_far (show 5 ≤ 10 + 6 * i + 5 by omega)]
    exact h3 i hi
  · exact (sN_eq fun i _ => cL_far (z := 10 + 6 * i + 1) (by omega)).trans h4
  · intro k hk
    rw [cL_far (show 5 ≤ 34 + 4 * k by omega), cL_far (show 5 ≤ 34 + 4 * k + 1 by omega), cL_far (show 5 ≤ 34 + 4 * k + 2 by omega), cL_far (show 5 ≤ 34 + 4 * k + 3 by omega)]
    exact h5 k hk
theorem cL_on (d k : Nat) : onI (cL c d) k = onI c k := by
  unfold onI
  rw [cL_far (show 5 ≤ 34 + 4 * k by omega), cL_far (show 5 ≤ 34 + 4 * k + 1 by omega)]
theorem cL_T {T : TS} (hT : RowT T N K c) (d : Nat) : RowT (ts_laws T (upI (upI (upI (t_laws T) 2 (nI (d % 2))) 3 (nI (d / 2 % 2))) 4 (nI (d / 4 % 2)))) N K (cL c d) := by
  obtain ⟨h1, h2, h3, h4, h5⟩ := hT
  refine ⟨h1, h2, ?_, ?_, ?_⟩
  · intro w hw hw2
    show exI (upI (upI (upI (t_laws T) 2 (nI (d % 2))) 3 (nI (d / 2 % 2))) 4 (nI (d / 4 % 2))) w = _
    rw [exI_up _ (by omega), exI_up _ (by omega), exI_up _ (by omega)]
    by_cases e4 : w = 4
    · subst e4
      rw [if_pos rfl, cL_4]
    · rw [if_neg e4]
      by_cases e3 : w = 3
      · subst e3
        rw [if_pos rfl, cL_3]
      · rw [if_neg e3]
        by_cases e2 : w = 2
        · subst e2
          rw [if_pos rfl, cL_2]
        · rw [if_neg e2, h3 w hw hw2, cL_far (by omega)]
  · intro i hi w hw
    rw [cL_far (by omega)]
    exact h4 i hi w hw
  · intro k hk
    refine ⟨fun w hw hw1 => ?_, ?_⟩
    · rw [cL_far (by omega)]
      exact (h5 k hk).1 w hw hw1
    · rw [cL_on]
      exact (h5 k hk).2
theorem cL_R {r : Fin 82 → Int32} (hR : RowR r N K c) (d : Nat) : RowR (upI (upI (upI r 2 (nI (d % 2))) 3 (nI (d / 2 % 2))) 4 (nI (d / 4 % 2))) N K (cL c d) := by
  obtain ⟨h1, h2, h3, h4, h5⟩ := hR
  have far : ∀ z, (z < 2 ∨ 5 ≤ z) → exI (upI (upI (upI r 2 (nI (d % 2))) 3 (nI (d / 2 % 2))) 4 (nI (d / 4 % 2))) z = exI r z := fun z hz => by
    rw [exI_up _ (by omega), exI_up _ (by omega), exI_up _ (by omega), if_neg (by omega), if_neg (by omega), if_neg (by omega)]
  refine ⟨(far 0 (by omega)).trans h1, (far 1 (by omega)).trans h2, ?_, ?_, ?_⟩
  · intro w hw hw2
    by_cases hf : 5 ≤ w
    · rw [far w (Or.inr hf), h3 w hw hw2, cL_far hf]
    · rw [exI_up _ (by omega), exI_up _ (by omega), exI_up _ (by omega)]
      by_cases e4 : w = 4
      · subst e4
        rw [if_pos rfl, cL_4]
      · rw [if_neg e4]
        by_cases e3 : w = 3
        · subst e3
          rw [if_pos rfl, cL_3]
        · rw [if_neg e3]
          have e2 : w = 2 := by omega
          subst e2
          rw [if_pos rfl, cL_2]
  · intro i hi w hw
    rw [far _ (by omega), cL_far (by omega)]
    exact h4 i hi w hw
  · intro k hk
    refine ⟨fun w hw hw1 => ?_, ?_⟩
    · rw [far _ (by omega), cL_far (by omega)]
      exact (h5 k hk).1 w hw hw1
    · rw [far _ (by omega), cL_on]
      exact (h5 k hk).2
theorem bit0 {d : Nat} (h : d < 8) : nI d &&& (1 : Int32) = nI (d % 2) := by
  rcases (show d = 0 ∨ d = 1 ∨ d = 2 ∨ d = 3 ∨ d = 4 ∨ d = 5 ∨ d = 6 ∨ d = 7 by omega) with h | h | h | h | h | h | h | h <;> subst h <;> decide
theorem bit1 {d : Nat} (h : d < 8) : (nI d >>> ((1 : Int32) &&& 31)) &&& (1 : Int32) = nI (d / 2 % 2) := by
  rcases (show d = 0 ∨ d = 1 ∨ d = 2 ∨ d = 3 ∨ d = 4 ∨ d = 5 ∨ d = 6 ∨ d = 7 by omega) with h | h | h | h | h | h | h | h <;> subst h <;> decide
theorem bit2 {d : Nat} (h : d < 8) : (nI d >>> ((2 : Int32) &&& 31)) &&& (1 : Int32) = nI (d / 4 % 2) := by
  rcases (show d = 0 ∨ d = 1 ∨ d = 2 ∨ d = 3 ∨ d = 4 ∨ d = 5 ∨ d = 6 ∨ d = 7 by omega) with h | h | h | h | h | h | h | h <;> subst h <;> decide
theorem bit0' {d : Nat} (h : d < 8) : (nI d >>> ((0 : Int32) &&& 31)) &&& (1 : Int32) = nI (d % 2) := by
  rcases (show d = 0 ∨ d = 1 ∨ d = 2 ∨ d = 3 ∨ d = 4 ∨ d = 5 ∨ d = 6 ∨ d = 7 by omega) with h | h | h | h | h | h | h | h <;> subst h <;> decide
end LAWS
