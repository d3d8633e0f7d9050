/-! ===== level 2: the case with other tenths ===== -/
def cT (c : Nat → Nat) (i j a b : Nat) : Nat → Nat := fun z => if z = 10 + 6 * j + 1 then b else if z = 10 + 6 * i + 1 then a else c z
theorem sN_up (f : Nat → Nat) (i a : Nat) : ∀ n, sN (fun k => if k = i then a else f k) n + (if i < n then f i else 0) = sN f n + (if i < n then a else 0)
  | 0 => by
    rw [if_neg (Nat.not_lt_zero i), if_neg (Nat.not_lt_zero i)]
    rfl
  | n + 1 => by
    have ih := sN_up f i a n
    rw [sN_s (fun k => if k = i then a else f k) n, sN_s f n]
    by_cases h : n = i
    · subst h
      rw [if_neg (Nat.lt_irrefl n), if_neg (Nat.lt_irrefl n)] at ih
      rw [if_pos rfl, if_pos (Nat.lt_succ_self n), if_pos (Nat.lt_succ_self n)]
      omega
    · rw [if_neg h]
      by_cases h2 : i < n
      · rw [if_pos h2, if_pos h2] at ih
        rw [if_pos (show i < n + 1 by omega), if_pos (show i < n + 1 by omega)]
        omega
      · rw [if_neg h2, if_neg h2] at ih
        rw [if_neg (show ¬ i < n + 1 by omega), if_neg (show ¬ i < n + 1 by omega)]
        omega
section TENTHS
variable {N K : Nat} {c : Nat → Nat} {i j a b : Nat}
theorem cT_far {z : Nat} (h1 : z ≠ 10 + 6 * i + 1) (h2 : z ≠ 10 + 6 * j + 1) : cT c i j a b z = c z := by
  unfold cT
  rw [if_neg h2, if_neg h1]
theorem cT_ten (k : Nat) : cT c i j a b (10 + 6 * k + 1) = if k = j then b else if k = i then a else c (10 + 6 * k + 1) := by
  unfold cT
  by_cases h : k = j
  · rw [if_pos h, if_pos (by omega)]
  · rw [if_neg h, if_neg (by omega)]
    by_cases h2 : k = i
    · rw [if_pos h2, if_pos (by omega)]
    · rw [if_neg h2, if_neg (by omega)]
theorem cT_sum (hi : i < N) (hj : j < N) (hij : i ≠ j) (hs : a + b = c (10 + 6 * i + 1) + c (10 + 6 * j + 1)) : sN (fun k => cT c i j a b (10 + 6 * k + 1)) N = sN (fun k => c (10 + 6 * k + 1)) N := by
  have e1 := sN_up (fun k => c (10 + 6 * k + 1)) i a N
  have e2 := sN_up (fun k => if k = i then a else c (10 + 6 * k + 1)) j b N
  have e3 : sN (fun k => cT c i j a b (10 + 6 * k + 1)) N = sN (fun k => if k = j then b else if k = i then a else c (10 + 6 * k + 1)) N := sN_eq fun k _ => cT_ten k
  rw [if_pos hi, if_pos hi] at e1
  rw [if_pos hj, if_pos hj] at e2
  rw [if_neg (fun h => hij h.symm)] at e2
  rw [e3]
  omega
theorem cT_OK (hO : OKc N K c) (hi : i < N) (hj : j < N) (hij : i ≠ j) (hs : a + b = c (10 + 6 * i + 1) + c (10 + 6 * j + 1)) : OKc N K (cT c i j a b) := by
  have hm := sN_mem2 (fun k => c (10 + 6 * k + 1)) hij hi hj
  obtain ⟨h1, h2, h3, h4, h5⟩ := hO
  have hm2 : c (10 + 6 * i + 1) + c (10 + 6 * j + 1) ≤ 10 := Nat.le_trans hm (Nat.le_of_eq h4)
  refine ⟨h1, ?_, ?_, ?_, ?_⟩
  · rw [cT_far (z := 2) (by omega) (by omega), cT_far (z := 3) (by omega) (by omega), cT_far (z := 4) (by omega) (by omega), cT_far (z := 5) (by omega) (by omega), cT_far (z := 6) (by omega) (by omega), cT_far (z := 7) (by omega) (by omega), cT_far (z := 8) (by omega) (by omega), cT_far (z := 9) (by omega) (by omega)]
    exact h2
  · intro k hk
    have ht : cT c i j a b (10 + 6 * k + 1) ≤ 10 := by
      have := (h3 k hk).2.2.1
      rw [cT_ten]
      split
      · omega
      · split <;> omega
    rw [cT_far (z := 10 + 6 * k) (by omega) (by omega), cT_far (z := 10 + 6 * k + 2) (by omega) (by omega), cT_far (z := 10 + 6 * k + 3) (by omega) (by omega), cT_far (z := 10 + 6 * k + 4) (by omega) (by omega), cT_far (z := 10 + 6 * k + 5) (by omega) (by omega)]
    exact ⟨(h3 k hk).1, (h3 k hk).2.1, ht, (h3 k hk).2.2.2⟩
  · exact (cT_sum hi hj hij hs).trans h4
  · intro k hk
    rw [cT_far (z := 34 + 4 * k) (by omega) (by omega), cT_far (z := 34 + 4 * k + 1) (by omega) (by omega), cT_far (z := 34 + 4 * k + 2) (by omega) (by omega), cT_far (z := 34 + 4 * k + 3) (by omega) (by omega)]
    exact h5 k hk
theorem cT_on (hi : i < 4) (hj : j < 4) (k : Nat) : onI (cT c i j a b) k = onI c k := by
  unfold onI
  rw [cT_far (z := 34 + 4 * k) (by omega) (by omega), cT_far (z := 34 + 4 * k + 1) (by omega) (by omega)]
theorem cT_T {T : TS} (hT : RowT T N K c) (hN : N ≤ 4) (hi : i < N) (hj : j < N) : RowT (ts_shipRows T (upI (upI (t_shipRows T) (6 * i + 1) (nI a)) (6 * j + 1) (nI b))) N K (cT c i j a b) := by
  obtain ⟨h1, h2, h3, h4, h5⟩ := hT
  refine ⟨h1, h2, ?_, ?_, ?_⟩
  · intro w hw hw2
    rw [cT_far (by omega) (by omega)]
    exact h3 w hw hw2
  · intro k hk w hw
    show exI (upI (upI (t_shipRows T) (6 * i + 1) (nI a)) (6 * j + 1) (nI b)) (6 * k + w) = _
    rw [exI_up _ (by omega), exI_up _ (by omega)]
    unfold cT
    by_cases q1 : 6 * k + w = 6 * j + 1
    · rw [if_pos q1, if_pos (by omega)]
    · rw [if_neg q1, if_neg (show ¬ 10 + 6 * k + w = 10 + 6 * j + 1 by omega)]
      by_cases q2 : 6 * k + w = 6 * i + 1
      · rw [if_pos q2, if_pos (by omega)]
      · rw [if_neg q2, if_neg (show ¬ 10 + 6 * k + w = 10 + 6 * i + 1 by omega)]
        exact h4 k hk w hw
  · intro k hk
    refine ⟨fun w hw hw1 => ?_, ?_⟩
    · rw [cT_far (by omega) (by omega)]
      exact (h5 k hk).1 w hw hw1
    · rw [cT_on (by omega) (by omega)]
      exact (h5 k hk).2
theorem cT_R {r : Fin 82 → Int32} (hR : RowR r N K c) (hN : N ≤ 4) (hK : K ≤ 12) (hi : i < N) (hj : j < N) : RowR (upI (upI r (10 + 6 * i + 1) (nI a)) (10 + 6 * j + 1) (nI b)) N K (cT c i j a b) := by
  obtain ⟨h1, h2, h3, h4, h5⟩ := hR
  have far : ∀ z, z ≠ 10 + 6 * i + 1 → z ≠ 10 + 6 * j + 1 → exI (upI (upI r (10 + 6 * i + 1) (nI a)) (10 + 6 * j + 1) (nI b)) z = exI r z := fun z q1 q2 => by
    rw [exI_up _ (by omega), exI_up _ (by omega), if_neg q2, if_neg q1]
  refine ⟨(far 0 (by omega) (by omega)).trans h1, (far 1 (by omega) (by omega)).trans h2, ?_, ?_, ?_⟩
  · intro w hw hw2
    rw [far w (by omega) (by omega), cT_far (by omega) (by omega)]
    exact h3 w hw hw2
  · intro k hk w hw
    rw [exI_up _ (by omega), exI_up _ (by omega)]
    unfold cT
    by_cases q1 : 10 + 6 * k + w = 10 + 6 * j + 1
    · rw [if_pos q1, if_pos q1]
    · rw [if_neg q1, if_neg q1]
      by_cases q2 : 10 + 6 * k + w = 10 + 6 * i + 1
      · rw [if_pos q2, if_pos q2]
      · rw [if_neg q2, if_neg q2]
        exact h4 k hk w hw
  · intro k hk
    refine ⟨fun w hw hw1 => ?_, ?_⟩
    · rw [far _ (by omega) (by omega), cT_far (by omega) (by omega)]
      exact (h5 k hk).1 w hw hw1
    · rw [far _ (by omega) (by omega), cT_on (by omega) (by omega)]
      exact (h5 k hk).2
end TENTHS
