/-! ===== level 2: a line of a ship, whole ===== -/
section SHIP2
variable {B : Fin 600 → Int32} {M : MS} {n : Nat} {T : TS} {lt : Fin 10 → Int32} {o : Int32} {rd : Fin 82 → Int32} {rn : Fin 4 → Int64} {x0 : Nat} {D : DS} {M2 : MS} {Y : Nat → Nat} {N K : Nat} {c : Nat → Nat}
theorem q5_mark (hN : N < 4) (hr : m_read M2 = rd) {b : Nat} (hb : b ≤ 1) {M2' : MS} (e : F_X5_isWord M2 (lN (nHi 0 (wdN (4 + 1)))) = some (nI b)) (e0 : b = 0 → M2' = ms_read M2 (upI rd (10 + 6 * N + 4) (nI b))) (e1 : b = 1 → F_X5_token (ms_read M2 (upI rd (10 + 6 * N + 4) (nI b))) = some M2') : Q5 (nI (10 + 6 * N)) M2 = J_X5_shipLine_206 M2' (nI (10 + 6 * N)) := by
  have e' : F_X5_isWord M2 (lN (nHi 0 (wdN 5))) = some (nI b) := e
  have hm : ∀ f, m_read (ms_read M2 f) = f := fun f => rfl
  unfold Q5 J_X5_shipLine_189
  rw [w_clause, bs, e', bs]
  rcases (show b = 0 ∨ b = 1 by omega) with rfl | rfl
  · rw [if_pos nI_0, hr, show (4 : Int32) = nI 4 from rfl, nI_add, wI _ (by omega) (by omega), bs, nm_eq, hm, rI _ (by omega) (by omega), bs, e_up _ (by omega), if_neg (by decide), e0 rfl]
    rfl
  · rw [if_neg (by decide), hr, show (4 : Int32) = nI 4 from rfl, nI_add, wI _ (by omega) (by omega), bs, nm_eq, hm, rI _ (by omega) (by omega), bs, e_up _ (by omega), if_pos rfl]
    have e1' : F_X5_token (ms_read M2 (upI rd (10 + 6 * N + 4) 1)) = some M2' := e1 rfl
    rw [e1', bs]
theorem q6_mark (hN : N < 4) (hr : m_read M2 = rd) {b : Nat} (hb : b ≤ 1) {M2' : MS} (e : F_X5_isWord M2 (lN (nHi 0 (wdN (5 + 1)))) = some (nI b)) (e0 : b = 0 → M2' = ms_read M2 (upI rd (10 + 6 * N + 5) (nI b))) (e1 : b = 1 → F_X5_token (ms_read M2 (upI rd (10 + 6 * N + 5) (nI b))) = some M2') : J_X5_shipLine_206 M2 (nI (10 + 6 * N)) = J_X5_shipLine_245 M2' := by
  have e' : F_X5_isWord M2 (lN (nHi 0 (wdN 6))) = some (nI b) := e
  have hm : ∀ f, m_read (ms_read M2 f) = f := fun f => rfl
  unfold J_X5_shipLine_206 J_X5_shipLine_228
  rw [w_barred, bs, e', bs]
  rcases (show b = 0 ∨ b = 1 by omega) with rfl | rfl
  · rw [if_pos nI_0, hr, show (5 : Int32) = nI 5 from rfl, nI_add, wI _ (by omega) (by omega), bs, nm_eq, hm, rI _ (by omega) (by omega), bs, e_up _ (by omega), if_neg (by decide), e0 rfl]
    rfl
  · rw [if_neg (by decide), hr, show (5 : Int32) = nI 5 from rfl, nI_add, wI _ (by omega) (by omega), bs, nm_eq, hm, rI _ (by omega) (by omega), bs, e_up _ (by omega), if_pos rfl]
    have e1' : F_X5_token (ms_read M2 (upI rd (10 + 6 * N + 5) 1)) = some M2' := e1 rfl
    rw [e1', bs]
theorem p_ship (hl : m_length M = nI n) (hn : n ≤ 600) (hB : ∀ k, k < n → BR (exI B k) (exI (m_tape M) k) (Y k)) (h : Pr B M n T lt o rd rn x0 D M2) (hb : TB N K c T lt o rd rn) : OutP B M n x0 (F_X0_readShip D) (F_X5_shipLine M2) := by
  obtain ⟨hT, hR, hP, hNm, hZ, hLw⟩ := hb
  have hr0 : exI rd 0 = nI N := hR.1
  have hN4 := hP.1.1
  have hK := hP.1.2
  unfold F_X0_readShip F_X5_shipLine
  rw [h.gT, hT.1, h.gR, R0 hR, bs]
  by_cases h4 : N = 4
  · obtain ⟨D1, M1, e1, e2, g, s, q1, q2, q3⟩ := h.fail hn (g := 4) (by omega) (by omega)
    have e1' : F_X0_fail D 4 = some (0, D1) := e1
    have e2' : F_X5_fails M2 4 = some M1 := e2
    refine ⟨D1, M1, ?_, Or.inr ⟨?_, o, rd, rn, N, hN4, hr0, g, s, q1, q2, q3⟩⟩
    · unfold J_X5_shipLine_17
      rw [if_pos (by rw [h4]; rfl), e2', bs, q3.goes, bs, q3.isN, bs, if_pos rfl, q3.fails, bs, J49, if_neg q3.w]
    · rw [if_neg (by rw [h4]; decide), e1', bs]
      rfl
  · have hN : N < 4 := by omega
    obtain ⟨D1, M1, s1, s2, hp1⟩ := p_step hl hn hB h
    rw [if_pos (show nI N < (4 : Int32) from (nI_ltI (b := 4) (by omega) (by omega)).mpr hN), if_neg (show ¬ nI N = (4 : Int32) from fun q => h4 ((nI_eq (b := 4) (by omega) (by omega)).mp q)), s1, bs]
    unfold J_X5_shipLine_17
    rw [h.goes, s2, bs, bs]
    obtain ⟨b, n1, n2, nb⟩ := p_name hp1
    rw [n1, n2, bs, bs]
    rcases nb with rfl | ⟨rfl, ls, l1, l2, l3, l4, l5⟩
    · obtain ⟨D2, M3, e1, e2, g, s, q1, q2, q3⟩ := hp1.fail hn (g := 1) (by omega) (by omega)
      have e1' : F_X0_fail D1 1 = some (0, D2) := e1
      have e2' : F_X5_fails M1 1 = some M3 := e2
      refine ⟨D2, M3, ?_, Or.inr ⟨?_, o, rd, rn, N, hN4, hr0, g, s, q1, q2, q3⟩⟩
      · rw [if_pos rfl, e2', bs, J49, if_neg q3.w]
      · rw [if_pos rfl, e1', bs]
        rfl
    · obtain ⟨r, r1, r2, r3⟩ := p_named hp1 hN4 hT.1 hr0 hNm (by omega) l3 l4 l5
      rw [if_neg n10, if_neg n10, r1, r2, bs, bs]
      by_cases hr : r = -1
      · rw [if_pos hr, if_pos hr, hp1.gT, l4]
        obtain ⟨f, hf, ea⟩ := C_addShip hT.1 hN (lN (nLo ls))
        rw [ea, bs, nm_eq, J49, if_pos hp1.w0, hp1.gN, l5, wL _ (by omega) (by omega), bs, nm_eq, nm_eq, show (10 : Int32) + (6 : Int32) * nI N = nI (10 + 6 * N) by rw [show (10 : Int32) = nI 10 from rfl, show (6 : Int32) = nI 6 from rfl, pk_mul, nI_add]]
        have hs0 := ShR.start hT hR hN hK hZ hf (upL (t_names T) N (lN (nLo ls)))
        have hnames : ∀ i, i < N + 1 → NmR (exL (upL (t_names T) N (lN (nLo ls))) i) (exL (upL rn N (lN (nHi 0 ls))) i) := by
          intro i hi
          rw [exL_up _ (by omega), exL_up _ (by omega)]
          by_cases q : i = N
          · rw [if_pos q, if_pos q]
            exact ⟨ls, l1, l2, l3, rfl, rfl⟩
          · rw [if_neg q, if_neg q]
            exact hNm i (by omega)
        have hp2 := (hp1.told (ts_ships (ts_shipRows (ts_names T (upL (t_names T) N (lN (nLo ls)))) f) (nI (N + 1)))).names (upL rn N (lN (nHi 0 ls)))
        obtain ⟨D3, M3, s3, s4, hp3⟩ := p_step hl hn hB hp2
        rw [s3, s4, bs, bs]
        obtain ⟨Ma, ka, oa⟩ := p_col hl hn hB hp3 hN hs0.1.1 (j := 0) (by omega)
        have kq : Q1 (nI (10 + 6 * N)) M3 = Q2 (nI (10 + 6 * N)) Ma := by
          unfold Q1
          rw [w_tons, bs]
          exact ka _
        rw [kq]
        rcases oa with ⟨v0, Da, a1, a2, ea, pa⟩ | ⟨Da, ra, ea, za, g, s, q1, q2, q3⟩
        · have hs1 := hs0.up hN hK (j := 0) (by omega) v0
          have ea' : F_X0_readColumn D3 1 = some (1, Da) := ea
          rw [ea', bs, if_neg n10]
          obtain ⟨Mb, kb, ob⟩ := p_col hl hn hB pa hN hs1.1.1 (j := 1) (by omega)
          have kq2 : Q2 (nI (10 + 6 * N)) Ma = Q3 (nI (10 + 6 * N)) Mb := by
            unfold Q2
            rw [w_fault, bs]
            exact kb _
          rw [kq2]
          rcases ob with ⟨v1, Db, b1, b2, eb, pb⟩ | ⟨Db, rb, eb, zb, g, s, q1, q2, q3⟩
          · have hs2 := hs1.up hN hK (j := 1) (by omega) v1
            have eb' : F_X0_readColumn Da 2 = some (1, Db) := eb
            rw [eb', bs, if_neg n10]
            obtain ⟨Mc, kc, oc⟩ := p_col hl hn hB pb hN hs2.1.1 (j := 2) (by omega)
            have kq3 : Q3 (nI (10 + 6 * N)) Mb = Q4 (nI (10 + 6 * N)) Mc := by
              unfold Q3
              rw [w_hull, bs]
              exact kc _
            rw [kq3]
            rcases oc with ⟨v2, Dc, c1, c2, ec, pc⟩ | ⟨Dc, rc, ec, zc, g, s, q1, q2, q3⟩
            · have hs3 := hs2.up hN hK (j := 2) (by omega) v2
              have ec' : F_X0_readColumn Db 3 = some (1, Dc) := ec
              rw [ec', bs, if_neg n10]
              obtain ⟨Md, kd, od⟩ := p_col hl hn hB pc hN hs3.1.1 (j := 3) (by omega)
              have kq4 : Q4 (nI (10 + 6 * N)) Mc = Q5 (nI (10 + 6 * N)) Md := by
                unfold Q4
                rw [w_value, bs]
                exact kd _
              rw [kq4]
              rcases od with ⟨v3, Dd, d1, d2, ed, pd⟩ | ⟨Dd, rd', ed, zd, g, s, q1, q2, q3⟩
              · have hs4 := hs3.up hN hK (j := 3) (by omega) v3
                have ed' : F_X0_readColumn Dc 4 = some (1, Dd) := ed
                rw [ed', bs, if_neg n10]
                have hz4 := hs4.1.2.2.2.1 N (by omega) 4 (by omega)
                rw [cU_far (by omega), cU_far (by omega), cU_far (by omega), cU_far (by omega), show c0N c N (10 + 6 * N + 4) = 0 from if_pos (by omega)] at hz4
                obtain ⟨b4, De, Me, m1, m2, m3, m4, m5, pe⟩ := p_mark hl hn hB pd hN hs4.1.1 (Or.inl rfl) hz4
                have hs5 := hs4.up hN hK (j := 4) (by omega) b4
                have m2' : F_X0_readMark Dd 5 = some De := m2
                rw [m2', bs, q5_mark hN pd.gR m1 m3 m4 m5]
                have hz5 := hs5.1.2.2.2.1 N (by omega) 5 (by omega)
                rw [cU_far (by omega), cU_far (by omega), cU_far (by omega), cU_far (by omega), cU_far (by omega), show c0N c N (10 + 6 * N + 5) = 0 from if_pos (by omega)] at hz5
                obtain ⟨b5, Dg, Mg, k1, k2, k3, k4, k5, pg⟩ := p_mark hl hn hB pe hN hs5.1.1 (Or.inr rfl) hz5
                have hs6 := hs5.up hN hK (j := 5) (by omega) b5
                have k2' : F_X0_readMark De 6 = some Dg := k2
                rw [k2', bs, q6_mark hN pe.gR k1 k3 k4 k5]
                have h60 := hs6.2.2.1
                refine ⟨Dg, ms_read Mg (upI _ 0 (nI (N + 1))), ?_, Or.inl ⟨rfl, N + 1, K, _, _, lt, o, _, _, pg.read _, hs6.1, hs6.2.1, hP.ship hN a1 a2 b2 c2 d2 m1 k1, ?_, ?_, hLw⟩⟩
                · unfold J_X5_shipLine_245
                  rw [pg.gR, show (0 : Int32) = nI 0 from rfl, rI _ (by omega) (by omega), bs, h60, nI_1, wI _ (by omega) (by omega), bs, nm_eq]
                · rw [hs6.2.2.2.2]
                  exact hnames
                · intro i hi hi4 w hw
                  rw [exI_up _ (by omega), if_neg (by omega)]
                  exact hs6.2.2.2.1 i (by omega) hi4 w hw
              · have ed' : F_X0_readColumn Dc 4 = some (0, Dd) := ed
                obtain ⟨Mz, ez, rz, z1, z2⟩ := fl_Q5 q3 hN (zd.trans hs3.2.2.1)
                exact ⟨Dd, Mz, ez, Or.inr ⟨by rw [ed', bs, if_pos rfl], o, rz, _, N + 1, by omega, z1, g, s, q1, q2, z2⟩⟩
            · have ec' : F_X0_readColumn Db 3 = some (0, Dc) := ec
              obtain ⟨Mz, ez, rz, z1, z2⟩ := fl_Q4 q3 hN (zc.trans hs2.2.2.1)
              exact ⟨Dc, Mz, ez, Or.inr ⟨by rw [ec', bs, if_pos rfl], o, rz, _, N + 1, by omega, z1, g, s, q1, q2, z2⟩⟩
          · have eb' : F_X0_readColumn Da 2 = some (0, Db) := eb
            obtain ⟨Mz, ez, rz, z1, z2⟩ := fl_Q3 q3 hN (zb.trans hs1.2.2.1)
            exact ⟨Db, Mz, ez, Or.inr ⟨by rw [eb', bs, if_pos rfl], o, rz, _, N + 1, by omega, z1, g, s, q1, q2, z2⟩⟩
        · have ea' : F_X0_readColumn D3 1 = some (0, Da) := ea
          obtain ⟨Mz, ez, rz, z1, z2⟩ := fl_Q2 q3 hN (za.trans hr0)
          exact ⟨Da, Mz, ez, Or.inr ⟨by rw [ea', bs, if_pos rfl], o, rz, _, N + 1, by omega, z1, g, s, q1, q2, z2⟩⟩
      · obtain ⟨D2, M3, e1, e2, g, s, q1, q2, q3⟩ := hp1.fail hn (g := 3) (by omega) (by omega)
        have e1' : F_X0_fail D1 3 = some (0, D2) := e1
        have e2' : F_X5_fails M1 3 = some M3 := e2
        refine ⟨D2, M3, ?_, Or.inr ⟨?_, o, rd, rn, N, hN4, hr0, g, s, q1, q2, q3⟩⟩
        · rw [if_neg hr, e2', bs, J49, if_neg q3.w]
        · rw [if_neg hr, e1', bs]
          rfl
end SHIP2
