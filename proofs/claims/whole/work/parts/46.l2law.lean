/-! ===== level 2: lines of laws; one line ===== -/
set_option maxRecDepth 100000 in
theorem lw_bit : ∀ m, m < 1024 → ∀ w, w < 10 → ((nI m >>> (nI w &&& 31)) &&& (1 : Int32)) = if m.testBit w then 1 else 0 := by decide +kernel
set_option maxRecDepth 100000 in
theorem lw_or : ∀ m, m < 1024 → ∀ w, w < 10 → nI m ||| ((1 : Int32) <<< (nI w &&& 31)) = nI (m ||| 2 ^ w) := by decide +kernel
def lawOK (w v : Nat) : Prop := (w ≤ 4 → v ≤ 1) ∧ (w = 5 ∨ w = 6 → v ≤ 99999) ∧ (w = 7 → 1 ≤ v ∧ v ≤ 99999) ∧ (w = 8 ∨ w = 9 → v ≤ 999)
theorem lawB (w : Nat) (h1 : 5 ≤ w) (h2 : w ≤ 9) : ∃ l b : Nat, l < 2 ^ 31 ∧ b < 2 ^ 31 ∧ rdI (sAf 2) (nI w) = some (nI l) ∧ rdI (sAf 3) (nI w) = some (nI b) ∧ F_X5_lowOf (nI w) = some (nI l) ∧ F_X5_highOf (nI w) = some (nI b) ∧ ∀ v, l ≤ v → v ≤ b → lawOK w v := by
  unfold lawOK
  rcases (show w = 5 ∨ w = 6 ∨ w = 7 ∨ w = 8 ∨ w = 9 by omega) with rfl | rfl | rfl | rfl | rfl
  · exact ⟨0, 99999, by omega, by omega, sAf_at (by decide) (by decide) (by decide), sAf_at (by decide) (by decide) (by decide), rfl, rfl, fun v _ _ => by omega⟩
  · exact ⟨0, 99999, by omega, by omega, sAf_at (by decide) (by decide) (by decide), sAf_at (by decide) (by decide) (by decide), rfl, rfl, fun v _ _ => by omega⟩
  · exact ⟨1, 99999, by omega, by omega, sAf_at (by decide) (by decide) (by decide), sAf_at (by decide) (by decide) (by decide), rfl, rfl, fun v _ _ => by omega⟩
  · exact ⟨0, 999, by omega, by omega, sAf_at (by decide) (by decide) (by decide), sAf_at (by decide) (by decide) (by decide), rfl, rfl, fun v _ _ => by omega⟩
  · exact ⟨0, 999, by omega, by omega, sAf_at (by decide) (by decide) (by decide), sAf_at (by decide) (by decide) (by decide), rfl, rfl, fun v _ _ => by omega⟩
section LAWL
variable {B : Fin 600 → Int32} {M : MS} {n : Nat} {T : TS} {lt : Fin 10 → Int32} {o : Int32} {rd : Fin 82 → Int32} {rn : Fin 4 → Int64} {x0 : Nat} {D : DS} {M2 : MS} {Y : Nat → Nat} {N K : Nat} {c : Nat → Nat}
theorem PK.law (h : PK N K c) {w v : Nat} (h1 : 2 ≤ w) (h2 : w < 10) (hv : lawOK w v) : PK N K (cU c w v) := by
  obtain ⟨a1, a2, a3, a4⟩ := h
  unfold lawOK at hv
  refine ⟨a1, ?_, ?_, ?_⟩
  · unfold cU
    refine ⟨?_, ?_, ?_, ?_, ?_, ?_, ?_, ?_, ?_⟩
    · split <;> omega
    · split <;> omega
    · split <;> omega
    · split <;> omega
    · split <;> omega
    · split <;> omega
    · split <;> omega
    · split <;> omega
    · split <;> omega
  · intro k hk
    rw [cU_far (z := 10 + 6 * k) (by omega), cU_far (z := 10 + 6 * k + 1) (by omega), cU_far (z := 10 + 6 * k + 2) (by omega), cU_far (z := 10 + 6 * k + 3) (by omega), cU_far (z := 10 + 6 * k + 4) (by omega), cU_far (z := 10 + 6 * k + 5) (by omega)]
    exact a3 k hk
  · intro k hk
    rw [cU_far (z := 34 + 4 * k) (by omega), cU_far (z := 34 + 4 * k + 1) (by omega), cU_far (z := 34 + 4 * k + 2) (by omega), cU_far (z := 34 + 4 * k + 3) (by omega)]
    exact a4 k hk
theorem TB.law (hb : TB N K c T lt o rd rn) {lt2 : Fin 10 → Int32} {o2 : Int32} (hL : LawR lt2 o2) {w v : Nat} (h1 : 2 ≤ w) (h2 : w < 10) (hv : lawOK w v) : TB N K (cU c w v) (ts_laws T (upI (t_laws T) w (nI v))) lt2 o2 (upI rd w (nI v)) rn := by
  obtain ⟨hT, hR, hP, hNm, hZ, hLw⟩ := hb
  refine ⟨cU_Tl hT h2, cU_R hR hP.1.1 hP.1.2 h1 (by omega), hP.law h1 h2 hv, hNm, ?_, hL⟩
  intro i hi hi4 z hz
  rw [exI_up _ (by omega), if_neg (by omega)]
  exact hZ i hi hi4 z hz
theorem p_law (hl : m_length M = nI n) (hn : n ≤ 600) (hB : ∀ k, k < n → BR (exI B k) (exI (m_tape M) k) (Y k)) (h : Pr B M n T lt o rd rn x0 D M2) (hb : TB N K c T lt o rd rn) {w : Nat} (hw1 : 2 ≤ w) (hw2 : w ≤ 9) : OutP B M n x0 (F_X0_readLaw D (nI w)) (F_X5_aboutLine M2 (nI w)) := by
  have hb' := hb
  obtain ⟨hT, hR, hP, hNm, hZ, m, hm, rfl, hbit⟩ := hb
  have hr0 : exI rd 0 = nI N := hR.1
  have hN4 := hP.1.1
  have hw10 : w < 10 := by omega
  unfold F_X0_readLaw F_X5_aboutLine
  rw [h.gL, rI _ hw10 (by omega), bs, hbit w hw10, h.gO, lw_bit m hm w hw10]
  by_cases q : m.testBit w = true
  · obtain ⟨D1, M1, e1, e2, g, s, q1, q2, q3⟩ := h.fail hn (g := 3) (by omega) (by omega)
    have e1' : F_X0_fail D 3 = some (0, D1) := e1
    have e2' : F_X5_fails M2 3 = some M1 := e2
    refine ⟨D1, ms_toldOnce M1 (m_toldOnce M1 ||| ((1 : Int32) <<< (nI w &&& 31))), ?_, Or.inr ⟨?_, _, rd, rn, N, hN4, hr0, g, s, q1, q2, q3.once _⟩⟩
    · unfold J_X5_aboutLine_17
      rw [if_pos q, if_pos rfl, e2', bs, nm_eq, (q3.once _).goes, bs, if_neg (q3.once _).w]
    · rw [if_pos q, if_neg n10, e1', bs]
      rfl
  · have hx := (h.law (upI lt w 1)).once (nI (m ||| 2 ^ w))
    obtain ⟨D1, M1, s1, s2, hp1⟩ := p_step hl hn hB hx
    have hLw : LawR (upI lt w 1) (nI (m ||| 2 ^ w)) := by
      refine ⟨m ||| 2 ^ w, Nat.or_lt_two_pow (n := 10) hm (Nat.pow_lt_pow_right (a := 2) (by omega) hw10), rfl, fun u hu => ?_⟩
      rw [exI_up _ hw10, Nat.testBit_or, Nat.testBit_two_pow]
      by_cases e : u = w
      · rw [if_pos e, if_pos (by simp [e])]
      · rw [if_neg e, hbit u hu]
        have : ¬ w = u := fun z => e z.symm
        simp [this]
    unfold J_X5_aboutLine_17
    rw [if_neg q, if_pos rfl, wI _ hw10 (by omega), bs, nm_eq, s1, bs, if_neg (show ¬ (0 : Int32) = 1 by decide), h.gO, lw_or m hm w hw10, nm_eq, hx.goes, s2, bs, bs, if_pos hp1.w0]
    unfold J_X5_aboutLine_67
    by_cases h5 : 5 ≤ w
    · have h5c : (5 : Int32) ≤ nI w := (nI_leI (a := 5) (by omega) (by omega)).mpr h5
      obtain ⟨l, b, b1, b2, b3, b4, b5, b6, b7⟩ := lawB w h5 hw2
      rw [if_pos h5c, if_pos h5c, b3, b4, b5, b6, bs, bs, bs, bs]
      rcases p_whole hl hn hB hp1 b1 b2 with ⟨v, M3, a1, a2, a3, a4, a5, a6⟩ | ⟨D3, M3, v, a1, a2, g, s, q1, q2, q3⟩
      · obtain ⟨D4, f1, f2⟩ := a6 (ts_laws T (upI (t_laws T) w (nI v)))
        rw [a4, a5, bs, bs, if_neg n10, hp1.gT, a3, wI _ hw10 (by omega), bs, nm_eq, f1, bs, f2.gR, wI _ (by omega) (by omega), bs, nm_eq]
        exact ⟨D4, _, rfl, Or.inl ⟨rfl, N, K, _, _, _, _, _, rn, f2.read _, hb'.law hLw hw1 hw10 (b7 v a1 a2)⟩⟩
      · rw [a1, a2, bs, bs, if_pos rfl, q3.gR, wI _ (by omega) (by omega), bs, nm_eq]
        exact ⟨D3, _, rfl, Or.inr ⟨rfl, _, _, rn, N, hN4, by rw [exI_up _ (by omega), if_neg (by omega), hr0], g, s, q1, q2, q3.read _⟩⟩
    · have h5c : ¬ (5 : Int32) ≤ nI w := by
        rw [show (5 : Int32) = nI 5 from rfl, nI_leI (by omega) (by omega)]
        exact h5
      rw [if_neg h5c, if_neg h5c, hp1.gT, wI _ hw10 (by omega), bs, nm_eq, hp1.gR, wI _ (by omega) (by omega), bs, nm_eq]
      exact ⟨_, _, rfl, Or.inl ⟨rfl, N, K, _, _, _, _, _, rn, (hp1.told _).read _, hb'.law hLw hw1 hw10 (v := 1) (by unfold lawOK; omega)⟩⟩
theorem OutP.zz {x1 : Nat} {r : Option (Int32 × DS)} {m : Option MS} (h : OutP B M n x1 r m) : OutP B M n x1 (r.bind fun q => zz q.1 <| some (q.1, q.2)) (m.bind fun q => some q) := by
  obtain ⟨D', M2', rfl, h⟩ := h
  refine ⟨D', M2', rfl, ?_⟩
  rcases h with ⟨rfl, h⟩ | ⟨rfl, h⟩
  · exact Or.inl ⟨rfl, h⟩
  · exact Or.inr ⟨rfl, h⟩
theorem p_line (hl : m_length M = nI n) (hn : n ≤ 600) (hB : ∀ k, k < n → BR (exI B k) (exI (m_tape M) k) (Y k)) (h : Pr B M n T lt o rd rn x0 D M2) (hb : TB N K c T lt o rd rn) : OutP B M n x0 (F_X0_readLine D) (F_X5_line M2) := by
  have hp := h
  have hr0 : exI rd 0 = nI N := hb.2.1.1
  have hN4 := hb.2.2.1.1.1
  obtain ⟨D1, M1, e1, e2, g, s1, q1, q2, q3⟩ := h.fail hn (g := 1) (by omega) (by omega)
  have cship := p_ship hl hn hB h hb
  have c0 : OutP B M n x0 (F_X0_readClaim D 0) (F_X5_claimLine M2 0) := p_claim hl hn hB h hb (a := 0) (by omega)
  have c1 : OutP B M n x0 (F_X0_readClaim D 1) (F_X5_claimLine M2 1) := p_claim hl hn hB h hb (a := 1) (by omega)
  have c2 : OutP B M n x0 (F_X0_readClaim D 2) (F_X5_claimLine M2 2) := p_claim hl hn hB h hb (a := 2) (by omega)
  have claw := fun w hw1 hw2 => p_law (w := w) hl hn hB h hb hw1 hw2
  obtain ⟨x, s, t, L, wl, v, Lm, vm, wm, h1, h2, h3, h4, hD, hM⟩ := h
  obtain ⟨R, hR⟩ := h4.rec
  have hfix : F_X0_fixedWord D = some R := by
    rw [hD]
    exact hR.fixed h4.1 ..
  have his : ∀ w, w < 19 → F_X5_isWord M2 (lN (nHi 0 (wdN w))) = some (if R = some w then 1 else 0) := by
    intro w hw
    rw [hM]
    exact hR.is h4.1 hw ..
  have habo : F_X5_aboutHere M2 = some (aboR R) := by
    rw [hM]
    exact hR.abo h4.1 ..
  have e1' : F_X0_fail D 1 = some (0, D1) := e1
  have e2' : F_X5_fails M2 1 = some M1 := e2
  have bad : OutP B M n x0 (J_X0_readLine_16 D) ((F_X5_fails M2 (1 : Int32)).bind fun q10 => some q10) := by
    refine ⟨D1, M1, by rw [e2', bs], Or.inr ⟨?_, o, rd, rn, N, hN4, hr0, g, s1, q1, q2, q3⟩⟩
    unfold J_X0_readLine_16
    rw [e1', bs]
    rfl
  unfold F_X0_readLine F_X5_line
  rw [hfix, bs, habo, bs, w_ship, bs, his 0 (by omega), bs, w_goods, w_persons, w_others]
  simp only [bs, his 8 (by omega), his 9 (by omega), his 10 (by omega)]
  cases hr : R with
  | none => exact bad
  | some w =>
    have hw := (hR.1 w hr).1
    rcases (show w = 0 ∨ (1 ≤ w ∧ w ≤ 7) ∨ w = 8 ∨ w = 9 ∨ w = 10 ∨ 11 ≤ w by omega) with rfl | hw' | rfl | rfl | rfl | hw'
    · exact cship.zz
    · rcases (show w = 1 ∨ w = 2 ∨ w = 3 ∨ w = 4 ∨ w = 5 ∨ w = 6 ∨ w = 7 by omega) with rfl | rfl | rfl | rfl | rfl | rfl | rfl <;> exact bad
    · exact c0.zz
    · exact c1.zz
    · exact c2.zz
    · rcases (show w = 11 ∨ w = 12 ∨ w = 13 ∨ w = 14 ∨ w = 15 ∨ w = 16 ∨ w = 17 ∨ w = 18 by omega) with rfl | rfl | rfl | rfl | rfl | rfl | rfl | rfl
      · exact (claw 2 (by omega) (by omega)).zz
      · exact (claw 3 (by omega) (by omega)).zz
      · exact (claw 4 (by omega) (by omega)).zz
      · exact (claw 5 (by omega) (by omega)).zz
      · exact (claw 6 (by omega) (by omega)).zz
      · exact (claw 7 (by omega) (by omega)).zz
      · exact (claw 8 (by omega) (by omega)).zz
      · exact (claw 9 (by omega) (by omega)).zz
end LAWL
