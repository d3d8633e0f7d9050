/-! ===== level 2: lines of claims, of laws ===== -/
def R2c (at' : Int32) (S : MS) : Option MS := (F_X5_dayWord).bind fun q11 => (F_X5_takes S q11).bind fun q12 => (F_X5_whole q12 (0 : Int32) (999 : Int32)).bind fun q13 => (wrI (m_read q13.2) (at' + (3 : Int32)) q13.1).bind fun f14 => nm (ms_read q13.2 f14 : MS) fun S15 => (rdI (m_read S15) (1 : Int32)).bind fun v16 => (wrI (m_read S15) (1 : Int32) (v16 + (1 : Int32))).bind fun f17 => nm (ms_read S15 f17 : MS) fun S18 => some S18
theorem J104 (S : MS) (x : Int32) : J_X5_claimLine_104 S x = (F_X5_whole S (1 : Int32) (9999999 : Int32)).bind fun q8 => (wrI (m_read q8.2) (x + (2 : Int32)) q8.1).bind fun f9 => nm (ms_read q8.2 f9 : MS) fun S10 => R2c x S10 := rfl
section CLML
variable {B : Fin 600 → Int32} {M : MS} {n : Nat} {T : TS} {lt : Fin 10 → Int32} {o : Int32} {rd : Fin 82 → Int32} {rn : Fin 4 → Int64} {x0 : Nat} {D : DS} {M2 : MS} {Y : Nat → Nat} {N K : Nat} {c : Nat → Nat}
theorem rm_rd (S : MS) (f : Fin 82 → Int32) : m_read (ms_read S f) = f := rfl
theorem fl_R2e {g s : Nat} (h : Fl M g s o rd rn M2) (hK : K < 12) (h0 : exI rd 0 = nI N) (h1 : exI rd 1 = nI K) (v : Int32) : ∃ M2', ((wrI (m_read M2) (nI (34 + 4 * K) + (3 : Int32)) v).bind fun f14 => nm (ms_read M2 f14 : MS) fun S15 => (rdI (m_read S15) (1 : Int32)).bind fun v16 => (wrI (m_read S15) (1 : Int32) (v16 + (1 : Int32))).bind fun f17 => nm (ms_read S15 f17 : MS) fun S18 => some S18) = some M2' ∧ ∃ rd', exI rd' 0 = nI N ∧ Fl M g s o rd' rn M2' := by
  refine ⟨_, ?_, _, ?_, (h.read (upI rd (34 + 4 * K + 3) v)).read (upI (upI rd (34 + 4 * K + 3) v) 1 (nI (K + 1)))⟩
  · rw [h.gR, show (3 : Int32) = nI 3 from rfl, nI_add, wI _ (by omega) (by omega), bs, nm_eq, rm_rd, show (1 : Int32) = nI 1 from rfl, rI _ (by omega) (by omega), bs, exI_up _ (by omega), if_neg (by omega), h1, nI_add, wI _ (by omega) (by omega), bs, nm_eq]
  · rw [exI_up _ (by omega), if_neg (by omega), exI_up _ (by omega), if_neg (by omega), h0]
theorem fl_R2 {g s : Nat} (h : Fl M g s o rd rn M2) (hK : K < 12) (h0 : exI rd 0 = nI N) (h1 : exI rd 1 = nI K) : ∃ M2', R2c (nI (34 + 4 * K)) M2 = some M2' ∧ ∃ rd', exI rd' 0 = nI N ∧ Fl M g s o rd' rn M2' := by
  obtain ⟨M3, e, r⟩ := fl_R2e h hK h0 h1 (m_number M2)
  refine ⟨M3, ?_, r⟩
  unfold R2c
  rw [w_day, bs, h.takes, bs, h.whole, bs]
  exact e
theorem fl_104 {g s : Nat} (h : Fl M g s o rd rn M2) (hK : K < 12) (h0 : exI rd 0 = nI N) (h1 : exI rd 1 = nI K) : ∃ M2', J_X5_claimLine_104 M2 (nI (34 + 4 * K)) = some M2' ∧ ∃ rd', exI rd' 0 = nI N ∧ Fl M g s o rd' rn M2' := by
  obtain ⟨M3, e, r⟩ := fl_R2 (h.read (upI rd (34 + 4 * K + 2) (m_number M2))) hK (by rw [exI_up _ (by omega), if_neg (by omega), h0]) (by rw [exI_up _ (by omega), if_neg (by omega), h1])
  refine ⟨M3, ?_, r⟩
  rw [J104, h.whole, bs, h.gR, show (2 : Int32) = nI 2 from rfl, nI_add, wI _ (by omega) (by omega), bs, nm_eq]
  exact e
theorem fl_88 {g s : Nat} (h : Fl M g s o rd rn M2) (hN : N ≤ 4) (hK : K < 12) (h0 : exI rd 0 = nI N) (h1 : exI rd 1 = nI K) : ∃ M2', J_X5_claimLine_88 M2 (nI (34 + 4 * K)) = some M2' ∧ ∃ rd', exI rd' 0 = nI N ∧ Fl M g s o rd' rn M2' := by
  have hx := h
  obtain ⟨a1, a2, a3, x, f, t, L, v, w, rfl⟩ := hx
  obtain ⟨r, er⟩ := named_any (M := M) hN x f t L v w (nI g) (nI s) o rd rn h0
  have h2 := h.read (upI rd (34 + 4 * K + 1) r)
  obtain ⟨M3, e, q⟩ := fl_104 h2 hK (by rw [exI_up _ (by omega), if_neg (by omega), h0]) (by rw [exI_up _ (by omega), if_neg (by omega), h1])
  refine ⟨M3, ?_, q⟩
  unfold J_X5_claimLine_88
  rw [er, bs, h.gR, nI_1, wI _ (by omega) (by omega), bs, nm_eq, h2.goes, bs]
  exact e
theorem up_up {m : Nat} (f : Fin m → Int32) {k : Nat} (hk : k < m) (a b : Int32) : upI (upI f k a) k b = upI f k b := ext_I fun z hz => by
  rw [exI_up _ hk, exI_up _ hk, exI_up _ hk]
  by_cases q : z = k
  · rw [if_pos q, if_pos q]
  · rw [if_neg q, if_neg q, if_neg q]
theorem PK.claim (h : PK N K c) (hK : K < 12) {a b m d : Nat} (ha : a ≤ 2) (hb : a = 0 → b < N) (hm1 : 1 ≤ m) (hm : m ≤ 9999999) (hd : d ≤ 999) : PK N (K + 1) (cF c K a b m d) := by
  obtain ⟨h1, h2, h3, h5⟩ := h
  refine ⟨⟨h1.1, by omega⟩, ?_, ?_, ?_⟩
  · rw [cF_far (z := 2) (by omega), cF_far (z := 3) (by omega), cF_far (z := 4) (by omega), cF_far (z := 5) (by omega), cF_far (z := 6) (by omega), cF_far (z := 7) (by omega), cF_far (z := 8) (by omega), cF_far (z := 9) (by omega)]
    exact h2
  · intro k hk
    rw [cF_far (z := 10 + 6 * k) (by omega), cF_far (z := 10 + 6 * k + 1) (by omega), cF_far (z := 10 + 6 * k + 2) (by omega), cF_far (z := 10 + 6 * k + 3) (by omega), cF_far (z := 10 + 6 * k + 4) (by omega), cF_far (z := 10 + 6 * k + 5) (by omega)]
    exact h3 k hk
  · intro k hk
    by_cases q : k = K
    · subst q
      rw [cF_0, cF_1, cF_2, cF_3]
      exact ⟨ha, hb, hm1, hm, hd⟩
    · rw [cF_far (z := 34 + 4 * k) (by omega), cF_far (z := 34 + 4 * k + 1) (by omega), cF_far (z := 34 + 4 * k + 2) (by omega), cF_far (z := 34 + 4 * k + 3) (by omega)]
      exact h5 k (by omega)
/-- from the amount on -/
theorem p_104 (hl : m_length M = nI n) (hn : n ≤ 600) (hB : ∀ k, k < n → BR (exI B k) (exI (m_tape M) k) (Y k)) (hb : TB N K c T lt o rd rn) (hK : K < 12) {a b : Nat} (ha : a ≤ 2) (hab : a = 0 → b < N) {y : Int32} (hy : y = if a = 0 then nI b else -2) (h : Pr B M n T lt o (upI (upI rd (34 + 4 * K) (nI a)) (34 + 4 * K + 1) y) rn x0 D M2) : OutP B M n x0 (J_X0_readClaim_69 D (nI a) y) (J_X5_claimLine_104 M2 (nI (34 + 4 * K))) := by
  obtain ⟨hT, hR, hP, hNm, hZ, hLw⟩ := hb
  have hN4 := hP.1.1
  have z0 : exI (upI (upI rd (34 + 4 * K) (nI a)) (34 + 4 * K + 1) y) 0 = nI N := by
    rw [exI_up _ (by omega), if_neg (by omega), exI_up _ (by omega), if_neg (by omega), hR.1]
  have z1 : exI (upI (upI rd (34 + 4 * K) (nI a)) (34 + 4 * K + 1) y) 1 = nI K := by
    rw [exI_up _ (by omega), if_neg (by omega), exI_up _ (by omega), if_neg (by omega), hR.2.1]
  unfold J_X0_readClaim_69
  rw [J104]
  rcases p_whole hl hn hB h (a := 1) (b := 9999999) (by omega) (by omega) with ⟨m, M3, a1, a2, a3, a4, a5, a6⟩ | ⟨D3, M3, v, a1, a2, g, s, q1, q2, q3⟩
  · have a4' : F_X0_isWholeWithin D 1 9999999 = some (1, D) := a4
    have a5' : F_X5_whole M2 1 9999999 = some (nI m, M3) := a5
    obtain ⟨D4, b1, b2⟩ := a6 T
    rw [ds_same h] at b1
    rw [a4', a5', bs, bs, if_neg n10, nm_eq, a3, b1, bs, b2.gR, show (2 : Int32) = nI 2 from rfl, nI_add, wI _ (by omega) (by omega), bs, nm_eq]
    have b3 := b2.read (upI (upI (upI rd (34 + 4 * K) (nI a)) (34 + 4 * K + 1) y) (34 + 4 * K + 2) (nI m))
    have y0 : exI (upI (upI (upI rd (34 + 4 * K) (nI a)) (34 + 4 * K + 1) y) (34 + 4 * K + 2) (nI m)) 0 = nI N := by
      rw [exI_up _ (by omega), if_neg (by omega), z0]
    have y1 : exI (upI (upI (upI rd (34 + 4 * K) (nI a)) (34 + 4 * K + 1) y) (34 + 4 * K + 2) (nI m)) 1 = nI K := by
      rw [exI_up _ (by omega), if_neg (by omega), z1]
    unfold R2c
    rw [w_day, bs]
    obtain ⟨D5, M5, e1, e2⟩ := p_word hl hn hB b3 (w := 7) (by omega)
    rw [e1, bs, wd_then]
    rcases e2 with ⟨e2, e3⟩ | ⟨e2, g, s, q1, q2, q3⟩
    · rw [e2, bs, if_neg n10]
      rcases p_whole hl hn hB e3 (a := 0) (b := 999) (by omega) (by omega) with ⟨d, M6, c1, c2, c3, c4, c5, c6⟩ | ⟨D6, M6, v, c1, c2, g, s, q1, q2, q3⟩
      · have c4' : F_X0_isWholeWithin D5 0 999 = some (1, D5) := c4
        have c5' : F_X5_whole M5 0 999 = some (nI d, M6) := c5
        have ho : (if nI a = 0 then y else (-2 : Int32)) = y := by
          by_cases q : a = 0
          · rw [if_pos (by rw [q]; rfl)]
          · rw [if_neg (nI_ne0 (by omega) (by omega)), hy, if_neg q]
        obtain ⟨D7, f1, f2⟩ := c6 (ts_claims (ts_claimRows T (fT (t_claimRows T) K (nI a) y (nI m) (nI d))) (nI (K + 1)))
        rw [c4', c5', bs, bs, if_neg n10, e3.gT, C_addClaim hT.2.1 hK, ho, bs, nm_eq, c3, f1, bs, f2.gR, show (3 : Int32) = nI 3 from rfl, nI_add, wI _ (by omega) (by omega), bs, nm_eq, rm_rd, show (1 : Int32) = nI 1 from rfl, rI _ (by omega) (by omega), bs, exI_up _ (by omega), if_neg (by omega), y1, nI_add, wI _ (by omega) (by omega), bs, nm_eq]
        have f3 := (f2.read (upI (upI (upI (upI rd (34 + 4 * K) (nI a)) (34 + 4 * K + 1) y) (34 + 4 * K + 2) (nI m)) (34 + 4 * K + 3) (nI d))).read (fR rd K (nI a) y (nI m) (nI d) (nI (K + 1)))
        refine ⟨D7, _, rfl, Or.inl ⟨rfl, N, K + 1, cF c K a b m d, _, lt, o, _, rn, f3, cF_T hT hN4 hK hy, cF_R hR hN4 hK hy, hP.claim hK ha hab a1 a2 c2, hNm, ?_, hLw⟩⟩
        intro i hi hi4 w hw
        rw [fR_at hK, if_neg (by omega), if_neg (by omega), if_neg (by omega), if_neg (by omega), if_neg (by omega)]
        exact hZ i hi hi4 w hw
      · have c1' : F_X0_isWholeWithin D5 0 999 = some (0, D6) := c1
        have c2' : F_X5_whole M5 0 999 = some (v, M6) := c2
        obtain ⟨M8, ez, r8, x1, x2⟩ := fl_R2e q3 hK y0 y1 v
        rw [c1', c2', bs, bs, if_pos rfl]
        exact ⟨D6, M8, ez, Or.inr ⟨rfl, o, r8, rn, N, hN4, x1, g, s, q1, q2, x2⟩⟩
    · rw [e2, bs, if_pos rfl, q3.whole, bs]
      obtain ⟨M8, ez, r8, x1, x2⟩ := fl_R2e q3 hK y0 y1 (m_number M5)
      exact ⟨D5, M8, ez, Or.inr ⟨rfl, o, r8, rn, N, hN4, x1, g, s, q1, q2, x2⟩⟩
  · have a1' : F_X0_isWholeWithin D 1 9999999 = some (0, D3) := a1
    have a2' : F_X5_whole M2 1 9999999 = some (v, M3) := a2
    rw [a1', a2', bs, bs, if_pos rfl, q3.gR, show (2 : Int32) = nI 2 from rfl, nI_add, wI _ (by omega) (by omega), bs, nm_eq]
    obtain ⟨M8, ez, r8, x1, x2⟩ := fl_R2 (q3.read (upI (upI (upI rd (34 + 4 * K) (nI a)) (34 + 4 * K + 1) y) (34 + 4 * K + 2) v)) hK (by rw [exI_up _ (by omega), if_neg (by omega), z0]) (by rw [exI_up _ (by omega), if_neg (by omega), z1])
    exact ⟨D3, M8, ez, Or.inr ⟨rfl, o, r8, rn, N, hN4, x1, g, s, q1, q2, x2⟩⟩
theorem p_claim (hl : m_length M = nI n) (hn : n ≤ 600) (hB : ∀ k, k < n → BR (exI B k) (exI (m_tape M) k) (Y k)) (h : Pr B M n T lt o rd rn x0 D M2) (hb : TB N K c T lt o rd rn) {a : Nat} (ha : a ≤ 2) : OutP B M n x0 (F_X0_readClaim D (nI a)) (F_X5_claimLine M2 (nI a)) := by
  have hb' := hb
  obtain ⟨hT, hR, hP, hNm, hZ, hLw⟩ := hb
  have hr0 : exI rd 0 = nI N := hR.1
  have hN4 := hP.1.1
  have hK12 := hP.1.2
  unfold F_X0_readClaim F_X5_claimLine
  rw [h.gT, hT.2.1, h.gR, R1 hR, bs]
  by_cases h4 : K = 12
  · obtain ⟨D1, M1, e1, e2, g, s, q1, q2, q3⟩ := h.fail hn (g := 4) (by omega) (by omega)
    have e1' : F_X0_fail D 4 = some (0, D1) := e1
    have e2' : F_X5_fails M2 4 = some M1 := e2
    refine ⟨D1, M1, ?_, Or.inr ⟨?_, o, rd, rn, N, hN4, hr0, g, s, q1, q2, q3⟩⟩
    · unfold J_X5_claimLine_18
      rw [if_pos (by rw [h4]; rfl), e2', bs, q3.goes, bs, if_neg q3.w]
    · rw [if_neg (by rw [h4]; decide), e1', bs]
      rfl
  · have hK : K < 12 := by omega
    obtain ⟨D1, M1, s1, s2, hp1⟩ := p_step hl hn hB h
    rw [if_pos (show nI K < (12 : Int32) from (nI_ltI (b := 12) (by omega) (by omega)).mpr hK), if_neg (show ¬ nI K = (12 : Int32) from fun q => h4 ((nI_eq (b := 12) (by omega) (by omega)).mp q)), s1, bs]
    unfold J_X5_claimLine_18
    have hx2 := (hp1.read (upI rd (34 + 4 * K) (nI a))).read (upI (upI rd (34 + 4 * K) (nI a)) (34 + 4 * K + 1) (-2))
    have z0 : exI (upI (upI rd (34 + 4 * K) (nI a)) (34 + 4 * K + 1) (-2)) 0 = nI N := by
      rw [exI_up _ (by omega), if_neg (by omega), exI_up _ (by omega), if_neg (by omega), hR.1]
    have z1 : exI (upI (upI rd (34 + 4 * K) (nI a)) (34 + 4 * K + 1) (-2)) 1 = nI K := by
      rw [exI_up _ (by omega), if_neg (by omega), exI_up _ (by omega), if_neg (by omega), hR.2.1]
    rw [h.goes, s2, bs, bs, if_pos hp1.w0, show (34 : Int32) + (4 : Int32) * nI K = nI (34 + 4 * K) by rw [show (34 : Int32) = nI 34 from rfl, show (4 : Int32) = nI 4 from rfl, pk_mul, nI_add], nm_eq, hp1.gR, show nI (34 + 4 * K) + (0 : Int32) = nI (34 + 4 * K) from Int32.add_zero _, wI _ (by omega) (by omega), bs, nm_eq, rm_rd, nI_1, wI _ (by omega) (by omega), bs, nm_eq]
    by_cases ha0 : a = 0
    · subst ha0
      rw [if_pos nI_0, if_pos nI_0]
      obtain ⟨b, n1, n2, nb⟩ := p_name hx2
      rw [n1, n2, bs, bs]
      rcases nb with rfl | ⟨rfl, ls, l1, l2, l3, l4, l5⟩
      · obtain ⟨D2, M3, e1, e2, g, s, q1, q2, q3⟩ := hx2.fail hn (g := 1) (by omega) (by omega)
        have e1' : F_X0_fail D1 1 = some (0, D2) := e1
        have e2' : F_X5_fails (ms_read (ms_read M1 (upI rd (34 + 4 * K) (nI 0))) (upI (upI rd (34 + 4 * K) (nI 0)) (34 + 4 * K + 1) (-2))) 1 = some M3 := e2
        obtain ⟨M8, ez, r8, x1, x2⟩ := fl_88 q3 hN4 hK z0 z1
        refine ⟨D2, M8, ?_, Or.inr ⟨?_, o, r8, rn, N, hN4, x1, g, s, q1, q2, x2⟩⟩
        · rw [if_pos rfl, e2', bs, ez]
        · rw [if_pos rfl, e1', bs]
          rfl
      · obtain ⟨r, r1, r2, r3⟩ := p_named hx2 hN4 hT.1 z0 hNm (by omega) l3 l4 l5
        rw [if_neg n10, if_neg n10, r1, r2, bs, bs]
        by_cases hr : r = -1
        · obtain ⟨D2, M3, e1, e2, g, s, q1, q2, q3⟩ := hx2.fail hn (g := 3) (by omega) (by omega)
          have e1' : F_X0_fail D1 3 = some (0, D2) := e1
          have e2' : F_X5_fails (ms_read (ms_read M1 (upI rd (34 + 4 * K) (nI 0))) (upI (upI rd (34 + 4 * K) (nI 0)) (34 + 4 * K + 1) (-2))) 3 = some M3 := e2
          obtain ⟨M8, ez, r8, x1, x2⟩ := fl_88 q3 hN4 hK z0 z1
          refine ⟨D2, M8, ?_, Or.inr ⟨?_, o, r8, rn, N, hN4, x1, g, s, q1, q2, x2⟩⟩
          · rw [if_pos hr, e2', bs, ez]
          · rw [if_pos hr, e1', bs]
            rfl
        · rcases r3 with r3 | ⟨i, hi, r3⟩
          · exact absurd r3 hr
          · have hx3 := hx2.read (upI (upI rd (34 + 4 * K) (nI 0)) (34 + 4 * K + 1) r)
            obtain ⟨D4, M4, s3, s4, hp4⟩ := p_step hl hn hB hx3
            rw [if_neg hr, if_neg hr, s3, bs]
            unfold J_X5_claimLine_88
            rw [r2, bs, hx2.gR, nI_1, wI _ (by omega) (by omega), bs, up_up _ (by omega), nm_eq, hx3.goes, s4, bs, bs]
            exact p_104 hl hn hB hb' hK (a := 0) (b := i) (by omega) (fun _ => hi) (by rw [if_pos rfl, r3]) hp4
    · have hna : ¬ nI a = 0 := nI_ne0 (by omega) (by omega)
      rw [if_neg hna, if_neg hna]
      exact p_104 hl hn hB hb' hK (a := a) (b := 0) ha (fun q => absurd q ha0) (by rw [if_neg ha0]) hx2
end CLML
