/-! ===== level 2: a line of a ship ===== -/
def PK (N K : Nat) (c : Nat → Nat) : Prop := (N ≤ 4 ∧ K ≤ 12) ∧ (c 2 ≤ 1 ∧ c 3 ≤ 1 ∧ c 4 ≤ 1 ∧ c 5 ≤ 99999 ∧ c 6 ≤ 99999 ∧ 1 ≤ c 7 ∧ c 7 ≤ 99999 ∧ c 8 ≤ 999 ∧ c 9 ≤ 999) ∧
  (∀ i, i < N → 1 ≤ c (10 + 6 * i) ∧ c (10 + 6 * i) ≤ 99999 ∧ c (10 + 6 * i + 1) ≤ 10 ∧ c (10 + 6 * i + 2) ≤ 9999999 ∧ c (10 + 6 * i + 3) ≤ 9999999 ∧ c (10 + 6 * i + 4) ≤ 1 ∧ c (10 + 6 * i + 5) ≤ 1) ∧
  (∀ k, k < K → c (34 + 4 * k) ≤ 2 ∧ (c (34 + 4 * k) = 0 → c (34 + 4 * k + 1) < N) ∧ 1 ≤ c (34 + 4 * k + 2) ∧ c (34 + 4 * k + 2) ≤ 9999999 ∧ c (34 + 4 * k + 3) ≤ 999)
def LawR (lt : Fin 10 → Int32) (o : Int32) : Prop := ∃ m, m < 1024 ∧ o = nI m ∧ ∀ w, w < 10 → exI lt w = if m.testBit w then 1 else 0
def TB (N K : Nat) (c : Nat → Nat) (T : TS) (lt : Fin 10 → Int32) (o : Int32) (rd : Fin 82 → Int32) (rn : Fin 4 → Int64) : Prop := RowT T N K c ∧ RowR rd N K c ∧ PK N K c ∧ (∀ i, i < N → NmR (exL (t_names T) i) (exL rn i)) ∧ (∀ i, N ≤ i → i < 4 → ∀ w, w < 6 → exI rd (10 + 6 * i + w) = 0) ∧ LawR lt o
/-- a line is read on both sides -/
def OutP (B : Fin 600 → Int32) (M : MS) (n x0 : Nat) (r : Option (Int32 × DS)) (m : Option MS) : Prop := ∃ D' M2', m = some M2' ∧ ((r = some (1, D') ∧ ∃ N K c T lt o rd rn, Pr B M n T lt o rd rn x0 D' M2' ∧ TB N K c T lt o rd rn) ∨ (r = some (0, D') ∧ ∃ o rd rn i, i ≤ 4 ∧ exI rd 0 = nI i ∧ Ff M o rd rn D' M2'))
def Q5 (at' : Int32) (S : MS) : Option MS := (F_X5_clauseWord).bind fun q29 => (F_X5_isWord S q29).bind fun q30 => if q30 = 0 then (J_X5_shipLine_189 S at' (0 : Int32) (at' + (4 : Int32))) else (J_X5_shipLine_189 S at' (1 : Int32) (at' + (4 : Int32)))
def Q4 (at' : Int32) (S : MS) : Option MS := (F_X5_valueWord).bind fun q24 => (F_X5_takes S q24).bind fun q25 => (F_X5_whole q25 (0 : Int32) (9999999 : Int32)).bind fun q26 => (wrI (m_read q26.2) (at' + (3 : Int32)) q26.1).bind fun f27 => nm (ms_read q26.2 f27 : MS) fun S28 => Q5 at' S28
def Q3 (at' : Int32) (S : MS) : Option MS := (F_X5_hullWord).bind fun q24 => (F_X5_takes S q24).bind fun q25 => (F_X5_whole q25 (0 : Int32) (9999999 : Int32)).bind fun q26 => (wrI (m_read q26.2) (at' + (2 : Int32)) q26.1).bind fun f27 => nm (ms_read q26.2 f27 : MS) fun S28 => Q4 at' S28
def Q2 (at' : Int32) (S : MS) : Option MS := (F_X5_faultWord).bind fun q24 => (F_X5_takes S q24).bind fun q25 => (F_X5_whole q25 (0 : Int32) (10 : Int32)).bind fun q26 => (wrI (m_read q26.2) (at' + (1 : Int32)) q26.1).bind fun f27 => nm (ms_read q26.2 f27 : MS) fun S28 => Q3 at' S28
def Q1 (at' : Int32) (S : MS) : Option MS := (F_X5_tonsWord).bind fun q24 => (F_X5_takes S q24).bind fun q25 => (F_X5_whole q25 (1 : Int32) (99999 : Int32)).bind fun q26 => (wrI (m_read q26.2) (at' + (0 : Int32)) q26.1).bind fun f27 => nm (ms_read q26.2 f27 : MS) fun S28 => Q2 at' S28
theorem J49 (S : MS) (x : Int32) : J_X5_shipLine_49 S x = if m_wrong S = 0 then (wrL (m_readNames S) x (m_word S)).bind fun f5 => nm (ms_readNames S f5 : MS) fun S6 => nm (((10 : Int32) + ((6 : Int32) * x)) : Int32) fun v7 => (F_X5_token S6).bind fun q8 => Q1 v7 q8 else some S := rfl
section SHIPL
variable {B : Fin 600 → Int32} {M : MS} {n : Nat} {T : TS} {lt : Fin 10 → Int32} {o : Int32} {rd : Fin 82 → Int32} {rn : Fin 4 → Int64} {x0 : Nat} {D : DS} {M2 : MS} {Y : Nat → Nat} {N K : Nat} {c : Nat → Nat}
theorem e_up {m : Nat} (f : Fin m → Int32) {k : Nat} (hk : k < m) (v : Int32) : exI (upI f k v) k = v := by
  rw [exI_up _ hk, if_pos rfl]
theorem fl_end {g s : Nat} (h : Fl M g s o rd rn M2) (hN : N < 4) (h0 : exI rd 0 = nI N) : ∃ M2', J_X5_shipLine_245 M2 = some M2' ∧ ∃ rd', exI rd' 0 = nI (N + 1) ∧ Fl M g s o rd' rn M2' := by
  refine ⟨ms_read M2 (upI rd 0 (nI (N + 1))), ?_, upI rd 0 (nI (N + 1)), e_up _ (by omega) _, h.read _⟩
  unfold J_X5_shipLine_245
  rw [h.gR, show (0 : Int32) = nI 0 from rfl, rI _ (by omega) (by omega), bs, h0, nI_1, wI _ (by omega) (by omega), bs, nm_eq]
theorem fl_Q5 {g s : Nat} (h : Fl M g s o rd rn M2) (hN : N < 4) (h0 : exI rd 0 = nI N) : ∃ M2', Q5 (nI (10 + 6 * N)) M2 = some M2' ∧ ∃ rd', exI rd' 0 = nI (N + 1) ∧ Fl M g s o rd' rn M2' := by
  have h1 := h.read (upI rd (10 + 6 * N + 4) 0)
  have h2 := h1.read (upI (upI rd (10 + 6 * N + 4) 0) (10 + 6 * N + 5) 0)
  obtain ⟨M3, e, r⟩ := fl_end h2 hN (by rw [exI_up _ (by omega), if_neg (by omega), exI_up _ (by omega), if_neg (by omega), h0])
  refine ⟨M3, ?_, r⟩
  unfold Q5 J_X5_shipLine_189 J_X5_shipLine_206 J_X5_shipLine_228
  rw [w_clause, bs, h.isW, bs, if_pos rfl, h.gR, show (4 : Int32) = nI 4 from rfl, nI_add, wI _ (by omega) (by omega), bs, nm_eq, h1.gR, rI _ (by omega) (by omega), bs, e_up _ (by omega), if_neg (by decide), w_barred, bs, h1.isW, bs, if_pos rfl, show (5 : Int32) = nI 5 from rfl, nI_add, wI _ (by omega) (by omega), bs, nm_eq, h2.gR, rI _ (by omega) (by omega), bs, e_up _ (by omega), if_neg (by decide)]
  exact e
theorem fl_Q4 {g s : Nat} (h : Fl M g s o rd rn M2) (hN : N < 4) (h0 : exI rd 0 = nI N) : ∃ M2', Q4 (nI (10 + 6 * N)) M2 = some M2' ∧ ∃ rd', exI rd' 0 = nI (N + 1) ∧ Fl M g s o rd' rn M2' := by
  obtain ⟨r1, M1, z1, f1, e1⟩ := fl_col h hN (j := 3) (by omega) (lN (nHi 0 (wdN 4))) 0 9999999
  obtain ⟨M3, e, r⟩ := fl_Q5 f1 hN (z1.trans h0)
  refine ⟨M3, ?_, r⟩
  unfold Q4
  rw [w_value, bs]
  exact (e1 _).trans e
theorem fl_Q3 {g s : Nat} (h : Fl M g s o rd rn M2) (hN : N < 4) (h0 : exI rd 0 = nI N) : ∃ M2', Q3 (nI (10 + 6 * N)) M2 = some M2' ∧ ∃ rd', exI rd' 0 = nI (N + 1) ∧ Fl M g s o rd' rn M2' := by
  obtain ⟨r1, M1, z1, f1, e1⟩ := fl_col h hN (j := 2) (by omega) (lN (nHi 0 (wdN 3))) 0 9999999
  obtain ⟨M3, e, r⟩ := fl_Q4 f1 hN (z1.trans h0)
  refine ⟨M3, ?_, r⟩
  unfold Q3
  rw [w_hull, bs]
  exact (e1 _).trans e
theorem fl_Q2 {g s : Nat} (h : Fl M g s o rd rn M2) (hN : N < 4) (h0 : exI rd 0 = nI N) : ∃ M2', Q2 (nI (10 + 6 * N)) M2 = some M2' ∧ ∃ rd', exI rd' 0 = nI (N + 1) ∧ Fl M g s o rd' rn M2' := by
  obtain ⟨r1, M1, z1, f1, e1⟩ := fl_col h hN (j := 1) (by omega) (lN (nHi 0 (wdN 2))) 0 10
  obtain ⟨M3, e, r⟩ := fl_Q3 f1 hN (z1.trans h0)
  refine ⟨M3, ?_, r⟩
  unfold Q2
  rw [w_fault, bs]
  exact (e1 _).trans e
/-- the case while a ship is told -/
def ShR (N K : Nat) (c : Nat → Nat) (nm' : Fin 4 → Int64) (T : TS) (rd : Fin 82 → Int32) : Prop := RowT T (N + 1) K c ∧ RowR (upI rd 0 (nI (N + 1))) (N + 1) K c ∧ exI rd 0 = nI N ∧ (∀ i, N < i → i < 4 → ∀ w, w < 6 → exI rd (10 + 6 * i + w) = 0) ∧ t_names T = nm'
theorem up_comm {m : Nat} (f : Fin m → Int32) {i j : Nat} (hi : i < m) (hj : j < m) (h : i ≠ j) (a b : Int32) : upI (upI f i a) j b = upI (upI f j b) i a := ext_I fun z hz => by
  rw [exI_up _ hj, exI_up _ hi, exI_up _ hi, exI_up _ hj]
  by_cases q : z = j
  · rw [if_pos q, if_neg (by omega), if_pos q]
  · rw [if_neg q, if_neg q]
theorem ShR.up {nm' : Fin 4 → Int64} (h : ShR N K c nm' T rd) (hN : N < 4) (hK : K ≤ 12) {j : Nat} (hj : j < 6) (v : Nat) : ShR N K (cU c (10 + 6 * N + j) v) nm' (ts_shipRows T (upI (t_shipRows T) (6 * N + j) (nI v))) (upI rd (10 + 6 * N + j) (nI v)) := by
  obtain ⟨h1, h2, h3, h4, h5⟩ := h
  refine ⟨cU_Ts h1 (by omega) (by omega) hj, ?_, ?_, ?_, h5⟩
  · rw [up_comm _ (by omega) (by omega) (by omega)]
    exact cU_R h2 (by omega) hK (by omega) (by omega)
  · rw [exI_up _ (by omega), if_neg (by omega), h3]
  · intro i hi hi4 w hw
    rw [exI_up _ (by omega), if_neg (by omega)]
    exact h4 i hi hi4 w hw
def c0N (c : Nat → Nat) (N : Nat) : Nat → Nat := fun z => if 10 + 6 * N ≤ z ∧ z < 10 + 6 * N + 6 then 0 else c z
theorem c0_on (hN : N < 4) (k : Nat) : onI (c0N c N) k = onI c k := by
  have e1 : c0N c N (34 + 4 * k) = c (34 + 4 * k) := if_neg (by omega)
  have e2 : c0N c N (34 + 4 * k + 1) = c (34 + 4 * k + 1) := if_neg (by omega)
  unfold onI
  rw [e1, e2]
theorem tn_s (T : TS) (nm' : Fin 4 → Int64) (f : Fin 24 → Int32) : t_ships (ts_shipRows (ts_names T nm') f) = t_ships T := rfl
theorem C_addShip (hT : t_ships T = nI N) (hN : N < 4) (w : Int64) : ∃ f : Fin 24 → Int32, (∀ z, z < 24 → exI f z = if 6 * N ≤ z ∧ z < 6 * N + 6 then 0 else exI (t_shipRows T) z) ∧ F_X2_addShip T w = some (ts_ships (ts_shipRows (ts_names T (upL (t_names T) N w)) f) (nI (N + 1))) := by
  obtain ⟨f, hf, e⟩ := copyL (B_X2_addShip_12 (fun S5 => nm (ts_ships S5 ((t_ships S5) + (1 : Int32)) : TS) fun S6 => some S6)) (fun f => ts_shipRows (ts_names T (upL (t_names T) N w)) f) (fun S5 => nm (ts_ships S5 ((t_ships S5) + (1 : Int32)) : TS) fun S6 => some S6) 0 (6 * N) 6 (fun _ => 0) (by omega) (by omega) (t_shipRows T) (by
    intro rc f i hi hI
    unfold B_X2_addShip_12
    rw [show (6 : Int32) = nI 6 from rfl, if_neg (by rw [nI_leI (by omega) (by omega)]; omega), tn_s, hT, show 0 + i = i by omega, C_set _ hN (by omega), bs, nm_eq, nI_1]
    rfl) (by
    intro rc f hI
    have key : ∀ (k9 : TS → Option TS) S2, B_X2_addShip_12 k9 rc S2 (nI (0 + 6)) = k9 S2 := by
      intro k9 S2
      unfold B_X2_addShip_12
      rw [if_pos (by decide)]
    exact key _ _)
  refine ⟨f, hf, ?_⟩
  unfold F_X2_addShip
  rw [hT, wL _ (by omega) (by omega), bs, nm_eq]
  refine (show lo2 _ FU (ts_names T (upL (t_names T) N w)) (0 : Int32) = _ from e).trans ?_
  rw [nm_eq, tn_s, hT, nI_1]
theorem ShR.start (hT : RowT T N K c) (hR : RowR rd N K c) (hN : N < 4) (hK : K ≤ 12) (hz : ∀ i, N ≤ i → i < 4 → ∀ w, w < 6 → exI rd (10 + 6 * i + w) = 0) {f : Fin 24 → Int32} (hf : ∀ z, z < 24 → exI f z = if 6 * N ≤ z ∧ z < 6 * N + 6 then 0 else exI (t_shipRows T) z) (nm' : Fin 4 → Int64) : ShR N K (c0N c N) nm' (ts_ships (ts_shipRows (ts_names T nm') f) (nI (N + 1))) rd := by
  obtain ⟨h1, h2, h3, h4, h5⟩ := hT
  obtain ⟨g1, g2, g3, g4, g5⟩ := hR
  have far : ∀ z, z ≠ 0 → exI (upI rd 0 (nI (N + 1))) z = exI rd z := fun z q => by
    rw [exI_up _ (by omega), if_neg q]
  refine ⟨⟨rfl, h2, ?_, ?_, ?_⟩, ⟨e_up _ (by omega) _, (far 1 (by omega)).trans g2, ?_, ?_, ?_⟩, g1, fun i hi hi4 w hw => hz i (by omega) hi4 w hw, rfl⟩
  · intro w hw hw2
    unfold c0N
    rw [if_neg (by omega)]
    exact h3 w hw hw2
  · intro i hi w hw
    show exI f _ = _
    unfold c0N
    rw [hf _ (by omega)]
    by_cases q : i = N
    · subst q
      rw [if_pos (by omega), if_pos (by omega)]
      rfl
    · rw [if_neg (by omega), if_neg (by omega)]
      exact h4 i (by omega) w hw
  · intro k hk
    refine ⟨fun w hw hw1 => ?_, ?_⟩
    · unfold c0N
      rw [if_neg (by omega)]
      exact (h5 k hk).1 w hw hw1
    · rw [c0_on hN]
      exact (h5 k hk).2
  · intro w hw hw2
    unfold c0N
    rw [if_neg (by omega), far _ (by omega)]
    exact g3 w hw hw2
  · intro i hi w hw
    unfold c0N
    rw [far _ (by omega)]
    by_cases q : i = N
    · subst q
      rw [if_pos (by omega), hz i (Nat.le_refl _) hN w hw]
      rfl
    · rw [if_neg (by omega)]
      exact g4 i (by omega) w hw
  · intro k hk
    refine ⟨fun w hw hw1 => ?_, ?_⟩
    · unfold c0N
      rw [if_neg (by omega), far _ (by omega)]
      exact (g5 k hk).1 w hw hw1
    · rw [c0_on hN, far _ (by omega)]
      exact (g5 k hk).2
def c6N (c : Nat → Nat) (N v0 v1 v2 v3 v4 v5 : Nat) : Nat → Nat := cU (cU (cU (cU (cU (cU (c0N c N) (10 + 6 * N + 0) v0) (10 + 6 * N + 1) v1) (10 + 6 * N + 2) v2) (10 + 6 * N + 3) v3) (10 + 6 * N + 4) v4) (10 + 6 * N + 5) v5
theorem c6_far {v0 v1 v2 v3 v4 v5 z : Nat} (h : z < 10 + 6 * N ∨ 10 + 6 * N + 6 ≤ z) : c6N c N v0 v1 v2 v3 v4 v5 z = c z := by
  unfold c6N
  rw [cU_far (by omega), cU_far (by omega), cU_far (by omega), cU_far (by omega), cU_far (by omega), cU_far (by omega)]
  exact if_neg (by omega)
theorem PK.ship (h : PK N K c) (hN : N < 4) {v0 v1 v2 v3 v4 v5 : Nat} (a0 : 1 ≤ v0) (b0 : v0 ≤ 99999) (b1 : v1 ≤ 10) (b2 : v2 ≤ 9999999) (b3 : v3 ≤ 9999999) (b4 : v4 ≤ 1) (b5 : v5 ≤ 1) : PK (N + 1) K (c6N c N v0 v1 v2 v3 v4 v5) := by
  obtain ⟨h1, h2, h3, h4⟩ := h
  refine ⟨⟨by omega, h1.2⟩, ?_, ?_, ?_⟩
  · rw [c6_far (z := 2) (by omega), c6_far (z := 3) (by omega), c6_far (z := 4) (by omega), c6_far (z := 5) (by omega), c6_far (z := 6) (by omega), c6_far (z := 7) (by omega), c6_far (z := 8) (by omega), c6_far (z := 9) (by omega)]
    exact h2
  · intro i hi
    by_cases q : i = N
    · subst q
      have e0 : c6N c i v0 v1 v2 v3 v4 v5 (10 + 6 * i) = v0 := by
        unfold c6N
        rw [cU_far (by omega), cU_far (by omega), cU_far (by omega), cU_far (by omega), cU_far (by omega)]
        exact cU_at
      have e1 : c6N c i v0 v1 v2 v3 v4 v5 (10 + 6 * i + 1) = v1 := by
        unfold c6N
        rw [cU_far (by omega), cU_far (by omega), cU_far (by omega), cU_far (by omega), cU_at]
      have e2 : c6N c i v0 v1 v2 v3 v4 v5 (10 + 6 * i + 2) = v2 := by
        unfold c6N
        rw [cU_far (by omega), cU_far (by omega), cU_far (by omega), cU_at]
      have e3 : c6N c i v0 v1 v2 v3 v4 v5 (10 + 6 * i + 3) = v3 := by
        unfold c6N
        rw [cU_far (by omega), cU_far (by omega), cU_at]
      have e4 : c6N c i v0 v1 v2 v3 v4 v5 (10 + 6 * i + 4) = v4 := by
        unfold c6N
        rw [cU_far (by omega), cU_at]
      have e5 : c6N c i v0 v1 v2 v3 v4 v5 (10 + 6 * i + 5) = v5 := by
        unfold c6N
        rw [cU_at]
      rw [e0, e1, e2, e3, e4, e5]
      exact ⟨a0, b0, b1, b2, b3, b4, b5⟩
    · rw [c6_far (z := 10 + 6 * i) (by omega), c6_far (z := 10 + 6 * i + 1) (by omega), c6_far (z := 10 + 6 * i + 2) (by omega), c6_far (z := 10 + 6 * i + 3) (by omega), c6_far (z := 10 + 6 * i + 4) (by omega), c6_far (z := 10 + 6 * i + 5) (by omega)]
      exact h3 i (by omega)
  · intro k hk
    rw [c6_far (z := 34 + 4 * k) (by omega), c6_far (z := 34 + 4 * k + 1) (by omega), c6_far (z := 34 + 4 * k + 2) (by omega), c6_far (z := 34 + 4 * k + 3) (by omega)]
    have := h4 k hk
    exact ⟨this.1, fun q => by have := this.2.1 q; omega, this.2.2⟩
end SHIPL
