/-! ===== level 2: the draws of judges ===== -/
theorem lo6_s {A B C D E X β : Type} (F : (A → B → C → D → E → X → Option β) → A → B → C → D → E → X → Option β) (n : Nat) (a : A) (b : B) (c : C) (d : D) (e : E) (x : X) : lo6 F (n + 1) a b c d e x = F (lo6 F n) a b c d e x := rfl
def cD (c t : Nat → Nat) : Nat → Nat := fun z => if 10 ≤ z ∧ z < 34 ∧ z % 6 = 5 then t ((z - 11) / 6) else c z
def dx (x : Nat) : Nat → Nat
  | 0 => x
  | n + 1 => 48271 * dx x n % 2147483647
def dt (N x : Nat) : Nat → Nat → Nat
  | 0 => fun _ => 0
  | n + 1 => fun k => if k = dx x (n + 1) % N then dt N x n (dx x (n + 1) % N) + 1 else dt N x n k
theorem W_casesL (x : Int32) {l b : Nat} (hl : l < 2 ^ 31) (hb : b < 2 ^ 31) : F_X4_within x (nI l) (nI b) = some 0 ∨ (F_X4_within x (nI l) (nI b) = some 1 ∧ ∃ a, l ≤ a ∧ a ≤ b ∧ x = nI a) := by
  unfold F_X4_within
  by_cases h : x < nI l
  · rw [if_pos h]
    exact Or.inl rfl
  · have h0 : ¬ x < 0 := by
      intro q
      have h1 := Int32.lt_iff_toInt_lt.mp q
      have h2 : (0 : Int32).toInt = 0 := by decide
      have h3 := nI_toInt hl
      exact h (Int32.lt_iff_toInt_lt.mpr (by omega))
    obtain ⟨j, hj, rfl⟩ := nI_of h0
    rw [if_neg h]
    rw [nI_ltI hj hl] at h
    by_cases h2 : nI b < nI j
    · rw [if_pos h2]
      exact Or.inl rfl
    · rw [if_neg h2]
      rw [nI_ltI hb hj] at h2
      exact Or.inr ⟨rfl, j, by omega, by omega, rfl⟩
theorem rmL_N {a b : Nat} (ha : a < 2 ^ 62) (h0 : 0 < b) (hb : b < 2 ^ 62) : rmL (lN a) (lN b) = some (lN (a % b)) := by
  have h := dvL_N ha h0 hb
  unfold dvL at h
  obtain ⟨h1, h2⟩ := ite_none h
  have h3 := Nat.div_add_mod a b
  rw [Nat.mul_comm] at h3
  have h4 : a / b * b ≤ a := by omega
  unfold rmL
  rw [if_neg h1, h2, lN_mul, lN_sub h4]
  exact congrArg (fun z => some (lN z)) (by omega)
section DRAW
variable {N K : Nat} {c t : Nat → Nat}
theorem cD_ten {k : Nat} (h : k < 4) : cD c t (10 + 6 * k + 1) = t k := by
  unfold cD
  rw [if_pos (by omega), show (10 + 6 * k + 1 - 11) / 6 = k by omega]
theorem cD_far {z : Nat} (h : z % 6 ≠ 5 ∨ z < 10 ∨ 34 ≤ z) : cD c t z = c z := by
  unfold cD
  rw [if_neg (by omega)]
theorem cD_two (u : Nat → Nat) : cD (cD c t) u = cD c u := by
  funext z
  unfold cD
  by_cases h : 10 ≤ z ∧ z < 34 ∧ z % 6 = 5
  · rw [if_pos h, if_pos h]
  · rw [if_neg h, if_neg h, if_neg h]
theorem cD_self : cD c (fun k => c (10 + 6 * k + 1)) = c := by
  funext z
  unfold cD
  by_cases h : 10 ≤ z ∧ z < 34 ∧ z % 6 = 5
  · rw [if_pos h]
    exact congrArg c (by omega)
  · rw [if_neg h]
theorem cD_on (k : Nat) : onI (cD c t) k = onI c k := by
  unfold onI
  rw [cD_far (z := 34 + 4 * k) (by omega), cD_far (z := 34 + 4 * k + 1) (by omega)]
theorem cD_OK (hO : OKc N K c) (ht : sN t N = 10) : OKc N K (cD c t) := by
  obtain ⟨h1, h2, h3, h4, h5⟩ := hO
  refine ⟨h1, ?_, ?_, ?_, ?_⟩
  · rw [cD_far (z := 2) (by omega), cD_far (z := 3) (by omega), cD_far (z := 4) (by omega), cD_far (z := 5) (by omega), cD_far (z := 6) (by omega), cD_far (z := 7) (by omega), cD_far (z := 8) (by omega), cD_far (z := 9) (by omega)]
    exact h2
  · intro k hk
    have hm := sN_mem t hk
    rw [cD_ten (by omega), cD_far (z := 10 + 6 * k) (by omega), cD_far (z := 10 + 6 * k + 2) (by omega), cD_far (z := 10 + 6 * k + 3) (by omega), cD_far (z := 10 + 6 * k + 4) (by omega), cD_far (z := 10 + 6 * k + 5) (by omega)]
    exact ⟨(h3 k hk).1, (h3 k hk).2.1, by omega, (h3 k hk).2.2.2⟩
  · exact (sN_eq fun k hk => cD_ten (by omega)).trans ht
  · intro k hk
    rw [cD_far (z := 34 + 4 * k) (by omega), cD_far (z := 34 + 4 * k + 1) (by omega), cD_far (z := 34 + 4 * k + 2) (by omega), cD_far (z := 34 + 4 * k + 3) (by omega)]
    exact h5 k hk
theorem cD_T {T : TS} (hT : RowT T N K (cD c t)) (hN : N ≤ 4) {i : Nat} (hi : i < N) (v : Nat) : RowT (ts_shipRows T (upI (t_shipRows T) (6 * i + 1) (nI v))) N K (cD c (fun k => if k = i then v else t k)) := by
  obtain ⟨h1, h2, h3, h4, h5⟩ := hT
  refine ⟨h1, h2, ?_, ?_, ?_⟩
  · intro w hw hw2
    rw [cD_far (by omega), ← cD_far (c := c) (t := t) (z := w) (by omega)]
    exact h3 w hw hw2
  · intro k hk w hw
    show exI (upI (t_shipRows T) (6 * i + 1) (nI v)) (6 * k + w) = _
    rw [exI_up _ (by omega)]
    by_cases q : w = 1
    · subst q
      rw [cD_ten (by omega)]
      by_cases q1 : k = i
      · rw [if_pos (by omega), if_pos q1]
      · rw [if_neg (by omega), if_neg q1, h4 k hk 1 (by omega), cD_ten (by omega)]
    · rw [if_neg (by omega), h4 k hk w hw, cD_far (by omega), cD_far (by omega)]
  · intro k hk
    refine ⟨fun w hw hw1 => ?_, ?_⟩
    · rw [cD_far (by omega), ← cD_far (c := c) (t := t) (z := 34 + 4 * k + w) (by omega)]
      exact (h5 k hk).1 w hw hw1
    · rw [cD_on, ← cD_on (t := t)]
      exact (h5 k hk).2
theorem cD_congT {T : TS} {u : Nat → Nat} (hT : RowT T N K (cD c t)) (hN : N ≤ 4) (h : ∀ k, k < N → t k = u k) : RowT T N K (cD c u) := by
  obtain ⟨h1, h2, h3, h4, h5⟩ := hT
  refine ⟨h1, h2, ?_, ?_, ?_⟩
  · intro w hw hw2
    rw [cD_far (by omega), ← cD_far (c := c) (t := t) (z := w) (by omega)]
    exact h3 w hw hw2
  · intro k hk w hw
    rw [h4 k hk w hw]
    by_cases q : w = 1
    · subst q
      rw [cD_ten (by omega), cD_ten (by omega), h k hk]
    · rw [cD_far (by omega), cD_far (by omega)]
  · intro k hk
    refine ⟨fun w hw hw1 => ?_, ?_⟩
    · rw [cD_far (by omega), ← cD_far (c := c) (t := t) (z := 34 + 4 * k + w) (by omega)]
      exact (h5 k hk).1 w hw hw1
    · rw [cD_on, ← cD_on (t := t)]
      exact (h5 k hk).2
theorem cD_R {r : Fin 82 → Int32} (hR : RowR r N K (cD c t)) (hN : N ≤ 4) (hK : K ≤ 12) {i : Nat} (hi : i < N) (v : Nat) : RowR (upI r (10 + 6 * i + 1) (nI v)) N K (cD c (fun k => if k = i then v else t k)) := by
  obtain ⟨h1, h2, h3, h4, h5⟩ := hR
  have far : ∀ z, z ≠ 10 + 6 * i + 1 → exI (upI r (10 + 6 * i + 1) (nI v)) z = exI r z := fun z q => by
    rw [exI_up _ (by omega), if_neg q]
  refine ⟨(far 0 (by omega)).trans h1, (far 1 (by omega)).trans h2, ?_, ?_, ?_⟩
  · intro w hw hw2
    rw [far w (by omega), cD_far (by omega), ← cD_far (c := c) (t := t) (z := w) (by omega)]
    exact h3 w hw hw2
  · intro k hk w hw
    by_cases q : w = 1
    · subst q
      rw [cD_ten (by omega), exI_up _ (by omega)]
      by_cases q1 : k = i
      · rw [if_pos (by omega), if_pos q1]
      · rw [if_neg (by omega), if_neg q1, h4 k hk 1 (by omega), cD_ten (by omega)]
    · rw [far _ (by omega), h4 k hk w hw, cD_far (by omega), cD_far (by omega)]
  · intro k hk
    refine ⟨fun w hw hw1 => ?_, ?_⟩
    · rw [far _ (by omega), cD_far (by omega), ← cD_far (c := c) (t := t) (z := 34 + 4 * k + w) (by omega)]
      exact (h5 k hk).1 w hw hw1
    · rw [far _ (by omega), cD_on, ← cD_on (t := t)]
      exact (h5 k hk).2
theorem cD_congR {r : Fin 82 → Int32} {u : Nat → Nat} (hR : RowR r N K (cD c t)) (hN : N ≤ 4) (h : ∀ k, k < N → t k = u k) : RowR r N K (cD c u) := by
  obtain ⟨h1, h2, h3, h4, h5⟩ := hR
  refine ⟨h1, h2, ?_, ?_, ?_⟩
  · intro w hw hw2
    rw [cD_far (by omega), ← cD_far (c := c) (t := t) (z := w) (by omega)]
    exact h3 w hw hw2
  · intro k hk w hw
    rw [h4 k hk w hw]
    by_cases q : w = 1
    · subst q
      rw [cD_ten (by omega), cD_ten (by omega), h k hk]
    · rw [cD_far (by omega), cD_far (by omega)]
  · intro k hk
    refine ⟨fun w hw hw1 => ?_, ?_⟩
    · rw [cD_far (by omega), ← cD_far (c := c) (t := t) (z := 34 + 4 * k + w) (by omega)]
      exact (h5 k hk).1 w hw hw1
    · rw [cD_on, ← cD_on (t := t)]
      exact (h5 k hk).2
theorem dx_lt {x : Nat} (h : x < 2147483647) : ∀ n, dx x n < 2147483647
  | 0 => h
  | n + 1 => Nat.mod_lt _ (by decide)
theorem dt_sum {x : Nat} (hN : 0 < N) : ∀ n, sN (dt N x n) N = n
  | 0 => sN_zero fun _ _ => rfl
  | n + 1 => by
    have h := sN_up (dt N x n) (dx x (n + 1) % N) (dt N x n (dx x (n + 1) % N) + 1) N
    have hl : dx x (n + 1) % N < N := Nat.mod_lt _ hN
    rw [if_pos hl, if_pos hl, dt_sum hN n] at h
    show sN (fun k => if k = dx x (n + 1) % N then dt N x n (dx x (n + 1) % N) + 1 else dt N x n k) N = n + 1
    omega
theorem dx_step {x n : Nat} (h : x < 2147483647) : rmL ((48271 : Int64) * lN (dx x n)) (2147483647 : Int64) = some (lN (dx x (n + 1))) := by
  have h1 := dx_lt h n
  rw [show (48271 : Int64) = lN 48271 from rfl, lN_mul, show (2147483647 : Int64) = lN 2147483647 from rfl, rmL_N (by omega) (by omega) (by omega)]
  rfl
theorem X_zero {T : TS} (hT : RowT T N K c) (hN : N ≤ 4) (x : Int64) (k9 : TS → Option (Int64 × TS)) : ∃ T2, RowT T2 N K (cD c (fun _ => 0)) ∧ lo2 (B_X2_drawFaults_2 x k9) FU T (0 : Int32) = k9 T2 := by
  obtain ⟨T2, ⟨u, h1, h2⟩, e⟩ := loopE (fun fu i (s : TS) => lo2 (B_X2_drawFaults_2 x k9) fu s (nI i)) k9 N (fun n s => ∃ u, RowT s N K (cD c u) ∧ ∀ k, k < n → u k = 0) (by
    intro fu i s hi ⟨u, h1, h2⟩
    refine ⟨_, ⟨_, cD_T h1 hN hi 0, fun k hk => ?_⟩, ?_⟩
    · by_cases q : k = i
      · rw [if_pos q]
      · rw [if_neg q, h2 k (by omega)]
    · have key : ∀ rc, B_X2_drawFaults_2 x k9 rc s (nI i) = rc (ts_shipRows s (upI (t_shipRows s) (6 * i + 1) (nI 0))) (nI (i + 1)) := by
        intro rc
        unfold B_X2_drawFaults_2
        rw [h1.1, if_neg (by rw [nI_leI (by omega) (by omega)]; omega), X_setShip _ (by omega), bs, nm_eq, nI_1]
        rfl
      exact (lo2_s _ _ _ _).trans (key _)) (by
    intro fu s ⟨u, h1, h2⟩
    have key : ∀ rc, B_X2_drawFaults_2 x k9 rc s (nI N) = k9 s := by
      intro rc
      unfold B_X2_drawFaults_2
      rw [h1.1, if_pos (by rw [nI_leI (by omega) (by omega)]; omega)]
    exact (lo2_s _ _ _ _).trans (key _)) N FU 0 T (by omega) (by rw [FU_eq]; omega) ⟨fun k => c (10 + 6 * k + 1), by rw [cD_self]; exact hT, fun k hk => absurd hk (Nat.not_lt_zero k)⟩
  exact ⟨T2, cD_congT h1 hN h2, e⟩
theorem X_of1 {T : TS} (hT : RowT T N K c) (hN : N ≤ 4) {a : Nat} (ha : a < N) : F_X2_ofShip T (nI a) 1 = some (nI (c (10 + 6 * a + 1))) := by
  unfold F_X2_ofShip
  rw [show (6 : Int32) = nI 6 from rfl, pk_mul, nI_1, show a * 6 + 1 = 6 * a + 1 by omega, rI _ (by omega) (by omega), hT.2.2.2.1 a ha 1 (by omega)]
  rfl
theorem X_draw {T : TS} (hT : RowT T N K c) (hN : N ≤ 4) (h0 : 0 < N) {x : Nat} (hx : x < 2147483647) : ∃ T2, RowT T2 N K (cD c (dt N x 10)) ∧ F_X2_drawFaults T (lN x) = some (lN (dx x 10), T2) := by
  obtain ⟨T1, hT1, e1⟩ := X_zero hT hN (lN x) (fun S3 => lo3 (B_X2_drawFaults_28 (fun S10 z11 => J_X2_drawFaults_84 S10 z11)) FU S3 (lN x) (0 : Int32))
  obtain ⟨T2, hT2, e2⟩ := loopE (fun fu n (s : TS) => lo3 (B_X2_drawFaults_28 (fun S10 z11 => J_X2_drawFaults_84 S10 z11)) fu s (lN (dx x n)) (nI n)) (fun s => some (lN (dx x 10), s)) 10 (fun n s => RowT s N K (cD c (dt N x n))) (by
    intro fu n s hn h1
    have hl : dx x (n + 1) % N < N := Nat.mod_lt _ h0
    have hlt := dx_lt hx (n + 1)
    refine ⟨_, cD_T h1 hN hl (dt N x n (dx x (n + 1) % N) + 1), ?_⟩
    have key : ∀ (k9 : TS → Int64 → Option (Int64 × TS)) rc, B_X2_drawFaults_28 k9 rc s (lN (dx x n)) (nI n) = rc (ts_shipRows s (upI (t_shipRows s) (6 * (dx x (n + 1) % N) + 1) (nI (dt N x n (dx x (n + 1) % N) + 1)))) (lN (dx x (n + 1))) (nI (n + 1)) := by
      intro k9 rc
      unfold B_X2_drawFaults_28
      rw [show (10 : Int32) = nI 10 from rfl, if_neg (by rw [nI_leI (by omega) (by omega)]; omega), h1.1, if_neg (nI_nle h0 (by omega)), dx_step hx, bs, nI_l (by omega), rmL_N (by omega) h0 (by omega), bs, nm_eq, lN_i, X_of1 h1 hN hl, bs, cD_ten (by omega), nI_1, X_setShip _ (by omega), bs, nm_eq, nI_1]
    exact (lo3_s _ _ _ _ _).trans (key _ _)) (by
    intro fu s h1
    have key : ∀ (k9 : TS → Int64 → Option (Int64 × TS)) rc v, B_X2_drawFaults_28 k9 rc s v (nI 10) = k9 s v := by
      intro k9 rc v
      unfold B_X2_drawFaults_28
      rw [if_pos (by decide)]
    exact (lo3_s _ _ _ _ _).trans (key _ _ _)) 10 FU 0 T1 (by omega) (by rw [FU_eq]; omega) hT1
  refine ⟨T2, hT2, ?_⟩
  unfold F_X2_drawFaults
  exact e1.trans e2
end DRAW
