/-! ===== level 2: names, columns, marks ===== -/
def cLo : Nat → Nat
  | 0 => 1
  | _ => 0
def cHi : Nat → Nat
  | 0 => 99999
  | 1 => 10
  | _ => 9999999
section COLS
variable {B : Fin 600 → Int32} {M : MS} {n : Nat} {T : TS} {lt : Fin 10 → Int32} {o : Int32} {rd : Fin 82 → Int32} {rn : Fin 4 → Int64} {x0 : Nat} {D : DS} {M2 : MS} {Y : Nat → Nat}
theorem p_name (h : Pr B M n T lt o rd rn x0 D M2) : ∃ b : Int32, F_X0_isName D = some b ∧ F_X5_isName M2 = some b ∧ (b = 0 ∨ (b = 1 ∧ ∃ ls : List Nat, 0 < ls.length ∧ ls.length ≤ 6 ∧ Let ls ∧ d_letters D = lN (nLo ls) ∧ m_word M2 = lN (nHi 0 ls))) := by
  obtain ⟨x, s, t, L, wl, v, Lm, vm, wm, h1, h2, h3, h4, rfl, rfl⟩ := h
  obtain ⟨R, hR⟩ := h4.rec
  rcases isNm_em t R L with q | q
  · refine ⟨1, (hR.nameC h4.1 ..).1 q, (hR.nameM h4.1 ..).1 q, Or.inr ⟨rfl, ?_⟩⟩
    obtain ⟨ls, g1, g2, g3, g4, g5, g6, g7, g8⟩ := hR.2 q.1
    refine ⟨ls, g1, ?_, g3, g6, g7⟩
    have := q.2.2
    rw [g4, show (6 : Int32) = nI 6 from rfl, nI_ltI (by omega) (by omega)] at this
    omega
  · exact ⟨0, (hR.nameC h4.1 ..).2 q, (hR.nameM h4.1 ..).2 q, Or.inl rfl⟩
theorem p_named (h : Pr B M n T lt o rd rn x0 D M2) {N : Nat} (hN : N ≤ 4) (hT : t_ships T = nI N) (h0 : exI rd 0 = nI N) (hn : ∀ i, i < N → NmR (exL (t_names T) i) (exL rn i)) {ls : List Nat} (hl : ls.length ≤ 7) (hL : Let ls) (e1 : d_letters D = lN (nLo ls)) (e2 : m_word M2 = lN (nHi 0 ls)) : ∃ r, F_X2_shipNamed (d_told D) (d_letters D) = some r ∧ F_X5_shipNamed M2 = some r ∧ (r = -1 ∨ ∃ i, i < N ∧ r = nI i) := by
  obtain ⟨x, s, t, L, wl, v, Lm, vm, wm, h1, h2, h3, h4, rfl, rfl⟩ := h
  have e1' : wl = lN (nLo ls) := e1
  have e2' : wm = lN (nHi 0 ls) := e2
  subst e1' e2'
  exact named hN hT hl hL _ _ _ _ _ _ _ _ _ _ h0 hn
theorem p_col (hl : m_length M = nI n) (hn : n ≤ 600) (hB : ∀ k, k < n → BR (exI B k) (exI (m_tape M) k) (Y k)) (h : Pr B M n T lt o rd rn x0 D M2) {N j : Nat} (hN : N < 4) (hT : t_ships T = nI (N + 1)) (hj : j < 4) : ∃ M2', (∀ k : MS → Option MS, (F_X5_takes M2 (lN (nHi 0 (wdN (j + 1))))).bind (fun q10 => (F_X5_whole q10 (nI (cLo j)) (nI (cHi j))).bind fun q11 => (wrI (m_read q11.2) (nI (10 + 6 * N) + nI j) q11.1).bind fun f12 => nm (ms_read q11.2 f12 : MS) k) = k M2') ∧
    ((∃ v D', cLo j ≤ v ∧ v ≤ cHi j ∧ F_X0_readColumn D (j + 1) = some (1, D') ∧ Pr B M n (ts_shipRows T (upI (t_shipRows T) (6 * N + j) (nI v))) lt o (upI rd (10 + 6 * N + j) (nI v)) rn x0 D' M2') ∨ (∃ D' rd', F_X0_readColumn D (j + 1) = some (0, D') ∧ exI rd' 0 = exI rd 0 ∧ Ff M o rd' rn D' M2')) := by
  have hcol : wd_col[j + 1]? = some (nI j) ∧ rdI (sAf 0) (nI j) = some (nI (cLo j)) ∧ rdI (sAf 1) (nI j) = some (nI (cHi j)) ∧ cLo j < 2 ^ 31 ∧ cHi j < 2 ^ 31 := by
    rcases (show j = 0 ∨ j = 1 ∨ j = 2 ∨ j = 3 by omega) with rfl | rfl | rfl | rfl
    · exact ⟨rfl, sAf_at (by decide) (by decide) (by decide), sAf_at (by decide) (by decide) (by decide), by decide, by decide⟩
    · exact ⟨rfl, sAf_at (by decide) (by decide) (by decide), sAf_at (by decide) (by decide) (by decide), by decide, by decide⟩
    · exact ⟨rfl, sAf_at (by decide) (by decide) (by decide), sAf_at (by decide) (by decide) (by decide), by decide, by decide⟩
    · exact ⟨rfl, sAf_at (by decide) (by decide) (by decide), sAf_at (by decide) (by decide) (by decide), by decide, by decide⟩
  obtain ⟨c1, c2, c3, c4, c5⟩ := hcol
  obtain ⟨D1, M1, e1, e2⟩ := p_word hl hn hB h (w := j + 1) (by omega)
  unfold F_X0_readColumn
  rw [c1, bs, wd_then, c2, c3, e1]
  rcases e2 with ⟨e2, e3⟩ | ⟨e2, e3⟩
  · rw [e2, bs, if_neg n10, bs, bs]
    rcases p_whole hl hn hB e3 c4 c5 with ⟨v, M3, a1, a2, a3, a4, a5, a6⟩ | ⟨D3, M3, v, a1, a2, a3⟩
    · obtain ⟨D4, b1, b2⟩ := a6 (ts_shipRows T (upI (t_shipRows T) (6 * N + j) (nI v)))
      refine ⟨ms_read M3 (upI rd (10 + 6 * N + j) (nI v)), ?_, Or.inl ⟨v, D4, a1, a2, ?_, b2.read _⟩⟩
      · intro k
        rw [bs, a5, bs, b2.gR, nI_add, wI _ (by omega) (by omega), bs, nm_eq]
      · rw [a4, bs, if_neg n10, e3.gT, hT, nI_less (by omega), show N + 1 - 1 = N by omega, C_set _ (by omega) (by omega), bs, nm_eq, a3, b1, bs]
    · obtain ⟨g, s, q1, q2, q3⟩ := a3
      refine ⟨ms_read M3 (upI rd (10 + 6 * N + j) v), ?_, Or.inr ⟨D3, upI rd (10 + 6 * N + j) v, ?_, ?_, g, s, q1, q2, q3.read _⟩⟩
      · intro k
        rw [bs, a2, bs, q3.gR, nI_add, wI _ (by omega) (by omega), bs, nm_eq]
      · rw [a1, bs, if_pos rfl]
      · rw [exI_up _ (by omega), if_neg (by omega)]
  · obtain ⟨g, s, q1, q2, q3⟩ := e3
    rw [e2, bs, if_pos rfl]
    refine ⟨ms_read M1 (upI rd (10 + 6 * N + j) (m_number M1)), ?_, Or.inr ⟨D1, upI rd (10 + 6 * N + j) (m_number M1), rfl, ?_, g, s, q1, q2, q3.read _⟩⟩
    · intro k
      rw [bs, q3.whole, bs, q3.gR, nI_add, wI _ (by omega) (by omega), bs, nm_eq]
    · rw [exI_up _ (by omega), if_neg (by omega)]
theorem fl_col {g s : Nat} (h : Fl M g s o rd rn M2) {N j : Nat} (hN : N < 4) (hj : j < 4) (w : Int64) (a b : Int32) : ∃ rd' M2', exI rd' 0 = exI rd 0 ∧ Fl M g s o rd' rn M2' ∧ ∀ k : MS → Option MS, (F_X5_takes M2 w).bind (fun q10 => (F_X5_whole q10 a b).bind fun q11 => (wrI (m_read q11.2) (nI (10 + 6 * N) + nI j) q11.1).bind fun f12 => nm (ms_read q11.2 f12 : MS) k) = k M2' := by
  refine ⟨upI rd (10 + 6 * N + j) (m_number M2), _, ?_, h.read _, ?_⟩
  · rw [exI_up _ (by omega), if_neg (by omega)]
  · intro k
    rw [h.takes, bs, h.whole, bs, h.gR, nI_add, wI _ (by omega) (by omega), bs, nm_eq]
theorem up_same {m : Nat} (f : Fin m → Int32) {k : Nat} (h : exI f k = 0) (hk : k < m) : upI f k 0 = f := ext_I fun z hz => by
  rw [exI_up _ hk]
  by_cases q : z = k
  · rw [if_pos q, q, h]
  · rw [if_neg q]
theorem ts_same (T : TS) : ts_shipRows T (t_shipRows T) = T := rfl
theorem ds_same (h : Pr B M n T lt o rd rn x0 D M2) : ds_told D T = D := by
  obtain ⟨x, s, t, L, wl, v, Lm, vm, wm, h1, h2, h3, h4, rfl, rfl⟩ := h
  rfl
/-- a mark on both sides -/
theorem p_mark (hl : m_length M = nI n) (hn : n ≤ 600) (hB : ∀ k, k < n → BR (exI B k) (exI (m_tape M) k) (Y k)) (h : Pr B M n T lt o rd rn x0 D M2) {N j : Nat} (hN : N < 4) (hT : t_ships T = nI (N + 1)) (hj : j = 4 ∨ j = 5) (hz : exI (t_shipRows T) (6 * N + j) = 0) : ∃ b D' M2', b ≤ 1 ∧ F_X0_readMark D (j + 1) = some D' ∧ F_X5_isWord M2 (lN (nHi 0 (wdN (j + 1)))) = some (nI b) ∧ (b = 0 → M2' = ms_read M2 (upI rd (10 + 6 * N + j) (nI b))) ∧ (b = 1 → F_X5_token (ms_read M2 (upI rd (10 + 6 * N + j) (nI b))) = some M2') ∧ Pr B M n (ts_shipRows T (upI (t_shipRows T) (6 * N + j) (nI b))) lt o (upI rd (10 + 6 * N + j) (nI b)) rn x0 D' M2' := by
  have hcol : wd_col[j + 1]? = some (nI j) := by
    rcases hj with rfl | rfl
    · rfl
    · rfl
  have hp := h
  obtain ⟨x, s, t, L, wl, v, Lm, vm, wm, h1, h2, h3, h4, rfl, rfl⟩ := h
  obtain ⟨R, hR⟩ := h4.rec
  unfold F_X0_readMark
  rw [hR.is h4.1 (w := j + 1) (by omega), hR.fixed h4.1, bs]
  by_cases q : R = some (j + 1)
  · have hp2 := (hp.told (ts_shipRows T (upI (t_shipRows T) (6 * N + j) (nI 1)))).read (upI rd (10 + 6 * N + j) (nI 1))
    obtain ⟨D2, M3, f1, f2, f3⟩ := p_step hl hn hB hp2
    refine ⟨1, D2, M3, by omega, ?_, by rw [if_pos q]; rfl, fun z => by omega, fun _ => f2, f3⟩
    rw [q]
    show (ltW (j + 1) (j + 1)).bind _ = _
    rw [show ltW (j + 1) (j + 1) = some () from if_pos ⟨by omega, by omega⟩, bs, if_pos rfl, hcol, bs, gd_told, hT, nI_less (by omega), show N + 1 - 1 = N by omega, C_set _ (by omega) (by omega), bs, nm_eq]
    have f1' : F_X0_step (ds_told (dq B (nI n) T lt (nI x) 0 (nI s) (nI t) L wl v) (ts_shipRows T (upI (t_shipRows T) (6 * N + j) 1))) = some D2 := f1
    rw [f1', bs]
  · have hs : ts_shipRows T (upI (t_shipRows T) (6 * N + j) (nI 0)) = T := by
      rw [nI_0, up_same _ hz (by omega), ts_same]
    refine ⟨0, dq B (nI n) T lt (nI x) 0 (nI s) (nI t) L wl v, _, by omega, ?_, by rw [if_neg q]; rfl, fun _ => rfl, fun z => by omega, ?_⟩
    · cases hr : R with
      | none => rfl
      | some u =>
        have hu := (hR.1 u hr).1
        show (ltW u (j + 1)).bind _ = _
        rw [show ltW u (j + 1) = some () from if_pos ⟨hu, by omega⟩, bs, if_neg (fun e => q (by rw [hr, e]))]
    · rw [hs]
      exact hp.read _
end COLS
