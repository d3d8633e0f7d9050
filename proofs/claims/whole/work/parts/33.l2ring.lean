/-! ===== level 2: the ring of acts ===== -/
section RING
variable {S : XS} {M : MS}
theorem rowP_at (p : Fin 820 → Int32) (q : Nat) {k : Nat} (hk : k < 82) : exI (rowP p q) k = exI p (82 * q + k) := by
  simp [exI, rowP, hk]
theorem rowK_at (p : Fin 164 → Int32) (q : Nat) {k : Nat} (hk : k < 82) : exI (rowK p q) k = exI p (82 * q + k) := by
  simp [exI, rowK, hk]
theorem upT_at {n : Nat} (E : Fin n → TS) {P i : Nat} (hP : P < n) (hi : i < n) (T : TS) : upT E ⟨P, hP⟩ T ⟨i, hi⟩ = if i = P then T else E ⟨i, hi⟩ := by
  unfold upT
  by_cases h : i = P
  · rw [if_pos h, if_pos (Fin.ext h)]
  · rw [if_neg h, if_neg (fun q => h (congrArg Fin.val q))]
theorem fin_at {n : Nat} (E : Fin n → TS) {i j : Nat} (hi : i < n) (hj : j < n) (h : i = j) : E ⟨i, hi⟩ = E ⟨j, hj⟩ := by
  subst h
  rfl
theorem ring_step {E : Fin 10 → TS} {P A : Nat} {p p2 : Fin 820 → Int32} {mn : Fin 4 → Int64} {T : TS} {s : Fin 82 → Int32} (h : RingR E P A p mn) (hc : CaseR T s mn) (hp : ∀ z, z < 820 → exI p2 z = kpP (exI p) (exI s) A z) : RingR (upT E ⟨P, h.2.1⟩ T) ((P + 1) % 10) (min (A + 1) 10) p2 mn := by
  obtain ⟨hA, hP, hq⟩ := h
  refine ⟨by omega, by omega, fun q hql => ?_⟩
  rw [upT_at E hP]
  by_cases hA10 : A = 10
  · subst hA10
    by_cases h9 : q = 9
    · subst h9
      rw [if_pos (by omega)]
      have : rowP p2 9 = s := ext_I fun k hk => by
        rw [rowP_at p2 9 hk, hp _ (by omega)]
        unfold kpP
        rw [if_pos rfl, if_pos (by omega), show 82 * 9 + k - 738 = k by omega]
      rw [this]
      exact hc
    · rw [if_neg (by omega)]
      have e1 : rowP p2 q = rowP p (q + 1) := ext_I fun k hk => by
        rw [rowP_at p2 q hk, rowP_at p (q + 1) hk, hp _ (by omega)]
        unfold kpP
        rw [if_pos rfl, if_neg (by omega)]
        exact congrArg (exI p) (by omega)
      rw [e1, fin_at E _ (Nat.mod_lt _ (by decide)) (show ((P + 1) % 10 + 10 - min (10 + 1) 10 + q) % 10 = (P + 10 - 10 + (q + 1)) % 10 by omega)]
      exact hq (q + 1) (by omega)
  · by_cases h9 : q = A
    · subst h9
      rw [if_pos (by omega)]
      have : rowP p2 q = s := ext_I fun k hk => by
        rw [rowP_at p2 q hk, hp _ (by omega)]
        unfold kpP
        rw [if_neg hA10, if_pos (by omega), show 82 * q + k - 82 * q = k by omega]
      rw [this]
      exact hc
    · rw [if_neg (by omega)]
      have e1 : rowP p2 q = rowP p q := ext_I fun k hk => by
        rw [rowP_at p2 q hk, rowP_at p q hk, hp _ (by omega)]
        unfold kpP
        rw [if_neg hA10, if_neg (by omega)]
      rw [e1, fin_at E _ (Nat.mod_lt _ (by decide)) (show ((P + 1) % 10 + 10 - min (A + 1) 10 + q) % 10 = (P + 10 - A + q) % 10 by omega)]
      exact hq q (by omega)
/-- an act begins on both sides -/
theorem act_step (hr : Rel S M) (hc : CaseR (x_now S) (m_s M) (m_names M)) (h0 : m_told M ≠ 0) : ∃ E u n p a, F_X4_beginAct S = some (xa (xT S 0) (x_now S) E u n) ∧ F_X5_keeps (mB M) = some (ma (mB M) (m_s M) p a) ∧ ∀ T s, CaseR T s (m_names M) → Rel (xa (xT S 0) T E u n) (ma (mB M) s p a) := by
  obtain ⟨h1, h2, h3, ⟨A, P, hu, ha, hn, hring⟩, h5⟩ := hr
  obtain ⟨p2, hp2, ek⟩ := M_keeps (mB M) (m_s M) (m_past M) hring.1
  have e0 : ma (mB M) (m_s M) (m_past M) (nI A) = mB M := by
    rw [← ha]
    exact ma_self (mB M)
  rw [e0] at ek
  refine ⟨_, _, _, p2, nI (min (A + 1) 10), X_beginAct S hu hring.1 hn hring.2.1, ek, ?_⟩
  · intro T s hTs
    refine ⟨⟨rfl, rfl, h1.2.2⟩, h2, Or.inr ⟨h0, hTs⟩, ⟨_, _, rfl, rfl, rfl, ring_step hring hc hp2⟩, h5⟩
theorem core_case (hr : Rel S M) {N K : Nat} {c : Nat → Nat} (hT : RowT (x_now S) N K c) (hO : OKc N K c) : m_told M ≠ 0 ∧ CaseR (x_now S) (m_s M) (m_names M) := by
  rcases hr.2.2.1 with ⟨-, h, -⟩ | h
  · have := hO.1
    exact absurd (hT.1.symm.trans h) (nI_ne0 (by omega) (by omega))
  · exact h
theorem case_names {T : TS} {r : Fin 82 → Int32} {mn : Fin 4 → Int64} (h : CaseR T r mn) {N K : Nat} {c : Nat → Nat} (hT : RowT T N K c) (hO : OKc N K c) : ∀ i, i < N → NmR (exL (t_names T) i) (exL mn i) := by
  obtain ⟨N2, K2, c2, hT2, -, hO2, hn⟩ := h
  have h1 := hO.1
  have h2 := hO2.1
  have : N = N2 := (nI_eq (by omega) (by omega)).mp (hT.1.symm.trans hT2.1)
  subst this
  exact hn
end RING
/-! one number changed -/
def cU (c : Nat → Nat) (y v : Nat) : Nat → Nat := fun z => if z = y then v else c z
section ONE
variable {N K : Nat} {c : Nat → Nat} {y v : Nat}
theorem cU_far {z : Nat} (h : z ≠ y) : cU c y v z = c z := if_neg h
theorem cU_at : cU c y v y = v := if_pos rfl
theorem cU_on (h : y < 34) (k : Nat) : onI (cU c y v) k = onI c k := by
  unfold onI
  rw [cU_far (z := 34 + 4 * k) (by omega), cU_far (z := 34 + 4 * k + 1) (by omega)]
theorem cU_Ts {T : TS} (hT : RowT T N K c) (hN : N ≤ 4) {i w : Nat} (hi : i < N) (hw : w < 6) : RowT (ts_shipRows T (upI (t_shipRows T) (6 * i + w) (nI v))) N K (cU c (10 + 6 * i + w) v) := by
  obtain ⟨h1, h2, h3, h4, h5⟩ := hT
  refine ⟨h1, h2, ?_, ?_, ?_⟩
  · intro x hx hx2
    rw [cU_far (by omega)]
    exact h3 x hx hx2
  · intro k hk x hx
    show exI (upI (t_shipRows T) (6 * i + w) (nI v)) (6 * k + x) = _
    rw [exI_up _ (by omega)]
    by_cases q : 6 * k + x = 6 * i + w
    · rw [if_pos q, show 10 + 6 * k + x = 10 + 6 * i + w by omega, cU_at]
    · rw [if_neg q, cU_far (by omega)]
      exact h4 k hk x hx
  · intro k hk
    refine ⟨fun x hx hx1 => ?_, ?_⟩
    · rw [cU_far (by omega)]
      exact (h5 k hk).1 x hx hx1
    · rw [cU_on (by omega)]
      exact (h5 k hk).2
theorem cU_Tl {T : TS} (hT : RowT T N K c) {w : Nat} (hw : w < 10) : RowT (ts_laws T (upI (t_laws T) w (nI v))) N K (cU c w v) := by
  obtain ⟨h1, h2, h3, h4, h5⟩ := hT
  refine ⟨h1, h2, ?_, ?_, ?_⟩
  · intro x hx hx2
    show exI (upI (t_laws T) w (nI v)) x = _
    rw [exI_up _ (by omega)]
    by_cases q : x = w
    · rw [if_pos q, q, cU_at]
    · rw [if_neg q, cU_far q]
      exact h3 x hx hx2
  · intro k hk x hx
    rw [cU_far (by omega)]
    exact h4 k hk x hx
  · intro k hk
    refine ⟨fun x hx hx1 => ?_, ?_⟩
    · rw [cU_far (by omega)]
      exact (h5 k hk).1 x hx hx1
    · rw [cU_on (by omega)]
      exact (h5 k hk).2
theorem cU_R {r : Fin 82 → Int32} (hR : RowR r N K c) (hN : N ≤ 4) (hK : K ≤ 12) (hy : 2 ≤ y) (hy2 : y < 34) : RowR (upI r y (nI v)) N K (cU c y v) := by
  obtain ⟨h1, h2, h3, h4, h5⟩ := hR
  have at' : ∀ z, exI (upI r y (nI v)) z = if z = y then nI v else exI r z := fun z => exI_up r (by omega) _ z
  refine ⟨?_, ?_, ?_, ?_, ?_⟩
  · rw [at', if_neg (by omega)]
    exact h1
  · rw [at', if_neg (by omega)]
    exact h2
  · intro x hx hx2
    rw [at']
    by_cases q : x = y
    · rw [if_pos q, q, cU_at]
    · rw [if_neg q, cU_far q]
      exact h3 x hx hx2
  · intro k hk x hx
    rw [at']
    by_cases q : 10 + 6 * k + x = y
    · rw [if_pos q, q, cU_at]
    · rw [if_neg q, cU_far q]
      exact h4 k hk x hx
  · intro k hk
    refine ⟨fun x hx hx1 => ?_, ?_⟩
    · rw [at', if_neg (by omega), cU_far (by omega)]
      exact (h5 k hk).1 x hx hx1
    · rw [at', if_neg (by omega), cU_on (by omega)]
      exact (h5 k hk).2
/-- a ship's number within its bounds -/
def shB (w v : Nat) : Prop := (w = 0 ∧ 1 ≤ v ∧ v ≤ 99999) ∨ ((w = 2 ∨ w = 3) ∧ v ≤ 9999999) ∨ ((w = 4 ∨ w = 5) ∧ v ≤ 1)
theorem cU_OKs (hO : OKc N K c) {i w : Nat} (hi : i < N) (hw : shB w v) : OKc N K (cU c (10 + 6 * i + w) v) := by
  obtain ⟨h1, h2, h3, h4, h5⟩ := hO
  have hw5 : w < 6 ∧ w ≠ 1 := by
    unfold shB at hw
    omega
  refine ⟨h1, ?_, ?_, ?_, ?_⟩
  · rw [cU_far (z := 2) (by omega), cU_far (z := 3) (by omega), cU_far (z := 4) (by omega), cU_far (z := 5) (by omega), cU_far (z := 6) (by omega), cU_far (z := 7) (by omega), cU_far (z := 8) (by omega), cU_far (z := 9) (by omega)]
    exact h2
  · intro k hk
    have hb := h3 k hk
    unfold shB at hw
    unfold cU
    refine ⟨?_, ?_, ?_, ?_, ?_, ?_, ?_⟩
    · split <;> omega
    · split <;> omega
    · split <;> omega
    · split <;> omega
    · split <;> omega
    · split <;> omega
    · split <;> omega
  · exact (sN_eq fun k hk => cU_far (by omega)).trans h4
  · intro k hk
    rw [cU_far (z := 34 + 4 * k) (by omega), cU_far (z := 34 + 4 * k + 1) (by omega), cU_far (z := 34 + 4 * k + 2) (by omega), cU_far (z := 34 + 4 * k + 3) (by omega)]
    exact h5 k hk
def lwB (c : Nat → Nat) (w v : Nat) : Prop := (2 ≤ w ∧ w ≤ 4 ∧ v ≤ 1) ∨ ((w = 5 ∨ w = 6) ∧ v ≤ 99999) ∨ (w = 7 ∧ 1 ≤ v ∧ v ≤ 99999) ∨ (w = 8 ∧ v ≤ c 9) ∨ (w = 9 ∧ c 8 ≤ v ∧ v ≤ 999)
theorem cU_OKl (hO : OKc N K c) {w : Nat} (hw : lwB c w v) : OKc N K (cU c w v) := by
  obtain ⟨h1, h2, h3, h4, h5⟩ := hO
  have hw5 : 2 ≤ w ∧ w < 10 := by
    unfold lwB at hw
    omega
  refine ⟨h1, ?_, ?_, ?_, ?_⟩
  · unfold lwB at hw
    unfold cU
    refine ⟨?_, ?_, ?_, ?_, ?_, ?_, ?_, ?_, ?_⟩
    · split <;> omega
    · split <;> omega
    · split <;> omega
    · split <;> omega
    · split <;> omega
    · split <;> omega
    · split <;> omega
    · split <;> split <;> omega
    · split <;> omega
  · intro k hk
    rw [cU_far (z := 10 + 6 * k) (by omega), cU_far (z := 10 + 6 * k + 1) (by omega), cU_far (z := 10 + 6 * k + 2) (by omega), cU_far (z := 10 + 6 * k + 3) (by omega), cU_far (z := 10 + 6 * k + 4) (by omega), cU_far (z := 10 + 6 * k + 5) (by omega)]
    exact h3 k hk
  · exact (sN_eq fun k hk => cU_far (by omega)).trans h4
  · intro k hk
    rw [cU_far (z := 34 + 4 * k) (by omega), cU_far (z := 34 + 4 * k + 1) (by omega), cU_far (z := 34 + 4 * k + 2) (by omega), cU_far (z := 34 + 4 * k + 3) (by omega)]
    exact h5 k hk
end ONE
