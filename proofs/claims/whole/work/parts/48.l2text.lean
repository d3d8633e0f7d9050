/-! ===== level 2: a text, read whole ===== -/
def cP : Nat → Nat := fun z => if z = 9 then 730 else if z = 8 then 365 else if z = 7 then 300 else if z = 6 then 200 else if z = 5 then 100 else 0
def rP (f : Fin 82 → Int32) : Fin 82 → Int32 := upI (upI (upI (upI (upI f 5 100) 6 200) 7 300) 8 365) 9 730
theorem cP_0 {z : Nat} (h : z < 5 ∨ 9 < z) : cP z = 0 := by
  unfold cP
  rw [if_neg (by omega), if_neg (by omega), if_neg (by omega), if_neg (by omega), if_neg (by omega)]
theorem rP_at {f : Fin 82 → Int32} (hf : ∀ z, z < 82 → exI f z = 0) {z : Nat} (hz : z < 82) : exI (rP f) z = nI (cP z) := by
  unfold rP
  rw [exI_up _ (by omega), exI_up _ (by omega), exI_up _ (by omega), exI_up _ (by omega), exI_up _ (by omega), hf z hz]
  by_cases q9 : z = 9
  · rw [if_pos q9, q9]
    rfl
  · rw [if_neg q9]
    by_cases q8 : z = 8
    · rw [if_pos q8, q8]
      rfl
    · rw [if_neg q8]
      by_cases q7 : z = 7
      · rw [if_pos q7, q7]
        rfl
      · rw [if_neg q7]
        by_cases q6 : z = 6
        · rw [if_pos q6, q6]
          rfl
        · rw [if_neg q6]
          by_cases q5 : z = 5
          · rw [if_pos q5, q5]
            rfl
          · rw [if_neg q5, cP_0 (by omega)]
            rfl
theorem PK0 : PK 0 0 cP := ⟨⟨by omega, by omega⟩, by decide, fun i hi => absurd hi (Nat.not_lt_zero i), fun i hi => absurd hi (Nat.not_lt_zero i)⟩
theorem un_at : ∀ w, w < 10 → exI (sAf 4) w = nI (cP w) := by decide +kernel
theorem C_clear (T : TS) : ∃ f : Fin 10 → Int32, (∀ w, w < 10 → exI f w = nI (cP w)) ∧ F_X2_clear T = some (ts_laws (ts_claims (ts_ships T 0) 0) f) := by
  refine ⟨fun j => va_cpy (exI (sAf 4)) (exI (t_laws (ts_claims (ts_ships T 0) 0))) 0 0 10 j.1, fun w hw => ?_, ?_⟩
  · rw [← un_at w hw]
    unfold exI
    rw [dif_pos hw]
    show va_cpy (exI (sAf 4)) _ 0 0 10 w = exI (sAf 4) w
    unfold va_cpy
    rw [if_pos ⟨by omega, by omega⟩]
    exact congrArg (exI (sAf 4)) (by omega)
  · unfold F_X2_clear cpI
    rw [nm_eq, nm_eq, if_pos (by decide), bs, nm_eq]
    rfl
theorem M_plain (M : MS) (x f t L v : Int32) (w : Int64) (g ga o : Int32) (rd : Fin 82 → Int32) (rn : Fin 4 → Int64) : ∃ z, (∀ k, k < 82 → exI z k = 0) ∧ F_X5_plain (mr M x f t L v w g ga o rd rn) = some (mr M x f t L v w g ga 0 (rP z) rn) := by
  obtain ⟨z, hz, e⟩ := copyL (B_X5_plain_2 (fun S4 => (wrI (m_read S4) (5 : Int32) (100 : Int32)).bind fun f5 => nm (ms_read S4 f5 : MS) fun S6 => (wrI (m_read S6) (6 : Int32) (200 : Int32)).bind fun f7 => nm (ms_read S6 f7 : MS) fun S8 => (wrI (m_read S8) (7 : Int32) (300 : Int32)).bind fun f9 => nm (ms_read S8 f9 : MS) fun S10 => (wrI (m_read S10) (8 : Int32) (365 : Int32)).bind fun f11 => nm (ms_read S10 f11 : MS) fun S12 => (wrI (m_read S12) (9 : Int32) (730 : Int32)).bind fun f13 => nm (ms_read S12 f13 : MS) fun S14 => nm (ms_toldOnce S14 (0 : Int32) : MS) fun S15 => some S15)) (fun r => mr M x f t L v w g ga o r rn) (fun S4 => (wrI (m_read S4) (5 : Int32) (100 : Int32)).bind fun f5 => nm (ms_read S4 f5 : MS) fun S6 => (wrI (m_read S6) (6 : Int32) (200 : Int32)).bind fun f7 => nm (ms_read S6 f7 : MS) fun S8 => (wrI (m_read S8) (7 : Int32) (300 : Int32)).bind fun f9 => nm (ms_read S8 f9 : MS) fun S10 => (wrI (m_read S10) (8 : Int32) (365 : Int32)).bind fun f11 => nm (ms_read S10 f11 : MS) fun S12 => (wrI (m_read S12) (9 : Int32) (730 : Int32)).bind fun f13 => nm (ms_read S12 f13 : MS) fun S14 => nm (ms_toldOnce S14 (0 : Int32) : MS) fun S15 => some S15) 0 0 82 (fun _ => 0) (by omega) (by omega) rd (by
    intro rc r i hi hI
    unfold B_X5_plain_2
    rw [show (82 : Int32) = nI 82 from rfl, if_neg (by rw [nI_leI (by omega) (by omega)]; omega), gm_read, wI _ (by omega) (by omega), bs, nm_eq, um_read, nm_eq, nI_1]) (by
    intro rc r hI
    have key : ∀ (k9 : MS → Option MS) S2, B_X5_plain_2 k9 rc S2 (nI (0 + 82)) = k9 S2 := by
      intro k9 S2
      unfold B_X5_plain_2
      rw [if_pos (by decide)]
    exact key _ _)
  refine ⟨z, fun k hk => by rw [hz k hk, if_pos (by omega)], ?_⟩
  unfold F_X5_plain
  refine (show lo2 _ FU (mr M x f t L v w g ga o rd rn) (0 : Int32) = _ from e).trans ?_
  rw [gm_read, show (5 : Int32) = nI 5 from rfl, wI _ (by omega) (by omega), bs, nm_eq, um_read, gm_read, show (6 : Int32) = nI 6 from rfl, wI _ (by omega) (by omega), bs, nm_eq, um_read, gm_read, show (7 : Int32) = nI 7 from rfl, wI _ (by omega) (by omega), bs, nm_eq, um_read, gm_read, show (8 : Int32) = nI 8 from rfl, wI _ (by omega) (by omega), bs, nm_eq, um_read, gm_read, show (9 : Int32) = nI 9 from rfl, wI _ (by omega) (by omega), bs, nm_eq, um_read, nm_eq, um_toldOnce]
  rfl
section TXT
variable {B : Fin 600 → Int32} {M : MS} {n : Nat} {Y : Nat → Nat}
theorem TB0 {T : TS} {f l0 : Fin 10 → Int32} {z : Fin 82 → Int32} (hf : ∀ w, w < 10 → exI f w = nI (cP w)) (hz : ∀ k, k < 82 → exI z k = 0) (hl0 : ∀ w, w < 10 → exI l0 w = 0) (rn : Fin 4 → Int64) : TB 0 0 cP (ts_laws (ts_claims (ts_ships T 0) 0) f) l0 0 (rP z) rn := by
  refine ⟨⟨rfl, rfl, fun w _ hw => hf w hw, fun i hi => absurd hi (Nat.not_lt_zero i), fun i hi => absurd hi (Nat.not_lt_zero i)⟩, ⟨rP_at hz (by omega), rP_at hz (by omega), fun w _ hw => rP_at hz (by omega), fun i hi => absurd hi (Nat.not_lt_zero i), fun i hi => absurd hi (Nat.not_lt_zero i)⟩, PK0, fun i hi => absurd hi (Nat.not_lt_zero i), ?_, 0, by omega, rfl, fun w hw => ?_⟩
  · intro i _ hi w hw
    rw [rP_at hz (by omega), cP_0 (by omega)]
    rfl
  · rw [hl0 w hw, Nat.zero_testBit]
    rfl
theorem fl_89 {g s : Nat} {o : Int32} {rd : Fin 82 → Int32} {rn : Fin 4 → Int64} {M2 : MS} (h : Fl M g s o rd rn M2) {i : Nat} (hi : i ≤ 4) (h0 : exI rd 0 = nI i) : J_X5_reads_89 M2 = some M2 := by
  have hr0 : rdI rd 0 = some (nI i) := by
    rw [show (0 : Int32) = nI 0 from rfl, rI _ (by omega) (by omega), h0]
  have h125 : J_X5_reads_125 M2 = some M2 := by
    unfold J_X5_reads_125
    rw [h.fails, bs]
  obtain ⟨r, er⟩ := ten_any (o := o) (rn := rn) h.gR hi h0
  unfold J_X5_reads_89
  rw [h125, h.gR, hr0, bs, er, bs]
  by_cases q1 : nI i < 2
  · rw [if_pos q1]
  · rw [if_neg q1]
    by_cases q2 : r = 10
    · rw [if_pos q2, show (9 : Int32) = nI 9 from rfl, rI _ (by omega) (by omega), bs, show (8 : Int32) = nI 8 from rfl, rI _ (by omega) (by omega), bs]
      split <;> rfl
    · rw [if_neg q2]
/-- what a text comes to -/
def ReadR (M : MS) (D' : DS) (M' : MS) (fa : Nat) : Prop := (fa = 0 ∧ m_wrong M' = 0 ∧ ∃ N K c, RowT (d_told D') N K c ∧ RowR (m_read M') N K c ∧ OKc N K c ∧ ∀ i, i < N → NmR (exL (t_names (d_told D')) i) (exL (m_readNames M') i)) ∨ (0 < fa ∧ fa < 8 ∧ m_wrong M' = nI fa ∧ d_start D' = m_wrongAt M')
theorem read_end (hn : n ≤ 600) {r : Option (Int32 × DS)} {m : Option MS} (h : OutQ B M n r m) : ∃ fa D' M', r = some (nI fa, D') ∧ m = some M' ∧ (∃ x f t L v w g ga o rd rn, M' = mr M x f t L v w g ga o rd rn) ∧ ReadR M D' M' fa := by
  obtain ⟨D', M', rfl, h⟩ := h
  rcases h with ⟨rfl, N, K, c, T, lt, o, rd, rn, hp, hT, hR, hP, hNm, hZ, hL⟩ | ⟨D9, rfl, hst, o, rd, rn, i, i4, hi, g, s, q1, q2, q3⟩
  · have hN4 := hP.1.1
    obtain ⟨D5, M5, f1, f2, g, s, q1, q2, q3⟩ := hp.fail hn (g := 5) (by omega) (by omega)
    have f1' : F_X0_fail D' 5 = some (0, D5) := f1
    have f2' : F_X5_fails M' 5 = some M5 := f2
    have h5d : ds_found D' 5 = D5 := by
      have h2 := f1'
      unfold F_X0_fail at h2
      rw [nm_eq] at h2
      exact congrArg Prod.snd (Option.some.inj h2)
    have hg : g = 5 := by
      have e : d_found D5 = nI 5 := by
        rw [← h5d]
        rfl
      exact (nI_eq (by have := q3.2.1; omega) (by omega)).mp (q1.symm.trans e)
    subst hg
    have h125 : J_X5_reads_125 M' = some M5 := by
      unfold J_X5_reads_125
      rw [f2', bs]
    have bad : ∀ fit : Option Int32, fit = some 0 → F_X0_fitsTogether D' = fit → J_X5_reads_89 M' = some M5 → ∃ fa D'' M'', ((F_X0_fitsTogether D').bind fun q5 => if q5 = 0 then some ((5 : Int32), D') else some ((0 : Int32), D')) = some (nI fa, D'') ∧ J_X5_reads_89 M' = some M'' ∧ (∃ x f t L v w g ga o rd rn, M'' = mr M x f t L v w g ga o rd rn) ∧ ReadR M D'' M'' fa := by
      intro fit e1 e2 e3
      obtain ⟨y1, y2, y3, x, f, t, L, v, w, rfl⟩ := q3
      refine ⟨5, D', _, ?_, e3, ⟨x, f, t, L, v, w, _, _, o, rd, rn, rfl⟩, Or.inr ⟨by omega, by omega, rfl, ?_⟩⟩
      · rw [e2, e1, bs, if_pos rfl]
        rfl
      · rw [← h5d] at q2
        exact q2
    have hr0 : rdI rd 0 = some (nI N) := R0 hR
    have hs40 : sN (fun i => c (10 + 6 * i + 1)) N ≤ N * 10 := sN_bd fun k hk => (hP.2.2.1 k hk).2.2.1
    have hl8 := hP.2.1
    have g8 : rdI rd 8 = some (nI (c 8)) := Rw hR (w := 8) (by decide) (by decide)
    have g9 : rdI rd 9 = some (nI (c 9)) := Rw hR (w := 9) (by decide) (by decide)
    have t8 : rdI (t_laws T) 8 = some (nI (c 8)) := C_law hT (w := 8) (by decide) (by decide)
    have t9 : rdI (t_laws T) 9 = some (nI (c 9)) := C_law hT (w := 9) (by decide) (by decide)
    by_cases a1 : N < 2
    · have a1' : nI N < (2 : Int32) := (nI_ltI (b := 2) (by omega) (by omega)).mpr a1
      refine bad _ rfl ?_ ?_
      · unfold F_X0_fitsTogether
        rw [hp.gT, hT.1, if_pos a1']
      · unfold J_X5_reads_89
        rw [hp.gR, hr0, bs, if_pos a1', h125]
    · have a1' : ¬ nI N < (2 : Int32) := by
        rw [show (2 : Int32) = nI 2 from rfl, nI_ltI (by omega) (by omega)]
        exact a1
      by_cases a2 : sN (fun i => c (10 + 6 * i + 1)) N = 10
      · have a2' : nI (sN (fun i => c (10 + 6 * i + 1)) N) = (10 : Int32) := by rw [a2]; rfl
        by_cases a3 : c 8 ≤ c 9
        · have hO : OKc N K c := ⟨⟨by omega, hP.1.1, hP.1.2⟩, ⟨hl8.1, hl8.2.1, hl8.2.2.1, hl8.2.2.2.1, hl8.2.2.2.2.1, hl8.2.2.2.2.2.1, hl8.2.2.2.2.2.2.1, a3, hl8.2.2.2.2.2.2.2.2⟩, hP.2.2.1, a2, hP.2.2.2⟩
          have hfit : F_X0_fitsTogether D' = some 1 := by
            unfold F_X0_fitsTogether
            rw [hp.gT, hT.1, if_neg a1', ten_C hT hN4, bs, if_pos a2', t9, bs, t8, bs, if_neg (by rw [nI_ltI (by omega) (by omega)]; omega)]
          refine ⟨0, D', M', ?_, ?_, ?_, Or.inl ⟨rfl, hp.w0, N, K, c, ?_, ?_, hO, ?_⟩⟩
          · rw [hfit, bs, if_neg n10]
            rfl
          · unfold J_X5_reads_89
            rw [hp.gR, hr0, bs, if_neg a1', ten_M hp.gR hR hN4, bs, if_pos a2', g9, bs, g8, bs, if_pos ((nI_leI (by omega) (by omega)).mpr a3)]
          · obtain ⟨x, s, t, L, wl, v, Lm, vm, wm, -, -, -, -, -, rfl⟩ := hp
            exact ⟨_, _, _, _, _, _, _, _, _, _, _, rfl⟩
          · rw [hp.gT]
            exact hT
          · rw [hp.gR]
            exact hR
          · rw [hp.gT, hp.gN]
            exact hNm
        · refine bad _ rfl ?_ ?_
          · unfold F_X0_fitsTogether
            rw [hp.gT, hT.1, if_neg a1', ten_C hT hN4, bs, if_pos a2', t9, bs, t8, bs, if_pos (by rw [nI_ltI (by omega) (by omega)]; omega)]
          · unfold J_X5_reads_89
            rw [hp.gR, hr0, bs, if_neg a1', ten_M hp.gR hR hN4, bs, if_pos a2', g9, bs, g8, bs, if_neg (by rw [nI_leI (by omega) (by omega)]; omega), h125]
      · have a2' : ¬ nI (sN (fun i => c (10 + 6 * i + 1)) N) = (10 : Int32) := fun q => a2 ((nI_eq (b := 10) (by omega) (by omega)).mp q)
        refine bad _ rfl ?_ ?_
        · unfold F_X0_fitsTogether
          rw [hp.gT, hT.1, if_neg a1', ten_C hT hN4, bs, if_neg a2']
        · unfold J_X5_reads_89
          rw [hp.gR, hr0, bs, if_neg a1', ten_M hp.gR hR hN4, bs, if_neg a2', h125]
  · have e89 := fl_89 q3 i4 hi
    obtain ⟨y1, y2, y3, x, f, t, L, v, w, rfl⟩ := q3
    refine ⟨g, D', _, ?_, e89, ⟨x, f, t, L, v, w, _, _, o, rd, rn, rfl⟩, Or.inr ⟨y1, y2, rfl, hst.trans q2⟩⟩
    rw [q1]
/-- both sides read the first n bytes -/
theorem R_read (D : DS) (S : MS) (hn : n ≤ 600) (hB : ∀ k, k < n → BR (exI (d_bytes D) k) (exI (m_tape S) k) (Y k)) : ∃ fa D' M', F_X0_read D (nI n) = some (nI fa, D') ∧ F_X5_reads S (nI n) = some M' ∧ (∃ x f t L v w g ga o rd rn, M' = mr (ms_length S (nI n)) x f t L v w g ga o rd rn) ∧ ReadR (ms_length S (nI n)) D' M' fa := by
  obtain ⟨M, hM⟩ : ∃ M, M = ms_length S (nI n) := ⟨_, rfl⟩
  have hl : m_length M = nI n := by rw [hM]; rfl
  have ht : m_tape M = m_tape S := by rw [hM]; rfl
  obtain ⟨B, T, lt, e, x, fo, s, t, L, wl, v⟩ := D
  have hB2 : ∀ k, k < n → BR (exI B k) (exI (m_tape M) k) (Y k) := by
    rw [ht]
    exact hB
  obtain ⟨f, hf, ec⟩ := C_clear T
  obtain ⟨l0, h0, el⟩ := copyL (B_X0_begin_24 (fun S9 => some S9)) (fun lt => dq B (nI n) (ts_laws (ts_claims (ts_ships T 0) 0) f) lt 0 0 s t L wl v) (fun S9 => some S9) 0 0 10 (fun _ => 0) (by omega) (by omega) lt (by
    intro rc r i hi hI
    unfold B_X0_begin_24
    rw [show (10 : Int32) = nI 10 from rfl, if_neg (by rw [nI_leI (by omega) (by omega)]; omega), gd_lawTold, wI _ (by omega) (by omega), bs, nm_eq, ud_lawTold, nm_eq, nI_1]) (by
    intro rc r hI
    have key : ∀ (k9 : DS → Option DS) S2, B_X0_begin_24 k9 rc S2 (nI (0 + 10)) = k9 S2 := by
      intro k9 S2
      unfold B_X0_begin_24
      rw [if_pos (by decide)]
    exact key _ _)
  have h0' : ∀ w, w < 10 → exI l0 w = 0 := fun w hw => by rw [h0 w hw, if_pos (by omega)]
  obtain ⟨z, hz, ep⟩ := M_plain M 0 (m_from M) (m_sort M) (m_many M) (m_number M) (m_word M) 0 (-1) (m_toldOnce M) (m_read M) (m_readNames M)
  have hq := lines hl hn hB2 (fun S6 => some ((1 : Int32), S6)) (n + 1) 0 FU FU (by omega) (by rw [FU_eq]; omega) (by rw [FU_eq]; omega) (ts_laws (ts_claims (ts_ships T 0) 0) f) l0 0 (rP z) (m_readNames M) (dq B (nI n) (ts_laws (ts_claims (ts_ships T 0) 0) f) l0 0 0 s t L wl v) (mr M 0 (m_from M) (m_sort M) (m_many M) (m_number M) (m_word M) 0 (-1) 0 (rP z) (m_readNames M)) 0 0 cP ⟨0, s, t, L, wl, v, _, _, _, _, _, Nat.le_refl _, Nat.zero_le _, rfl, rfl⟩ (TB0 hf hz h0' _)
  obtain ⟨fa, D', M', r1, r2, r3, r4⟩ := read_end hn hq
  refine ⟨fa, D', M', ?_, ?_, ?_, ?_⟩
  · unfold F_X0_read F_X0_begin
    have a1 : ds_end (B, T, lt, e, x, fo, s, t, L, wl, v) (nI n) = dq B (nI n) T lt x fo s t L wl v := rfl
    rw [nm_eq, a1, nm_eq, ud_next, nm_eq, ud_found, gd_told, ec, bs, nm_eq, ud_told]
    rw [show lo2 (B_X0_begin_24 (fun S9 => some S9)) FU (dq B (nI n) (ts_laws (ts_claims (ts_ships T 0) 0) f) lt 0 0 s t L wl v) (0 : Int32) = some (dq B (nI n) (ts_laws (ts_claims (ts_ships T 0) 0) f) l0 0 0 s t L wl v) from el, bs]
    exact r1
  · unfold F_X5_reads
    have a1 : ms_next M 0 = mr M 0 (m_from M) (m_sort M) (m_many M) (m_number M) (m_word M) (m_wrong M) (m_wrongAt M) (m_toldOnce M) (m_read M) (m_readNames M) := um_next M (m_next M) (m_from M) (m_sort M) (m_many M) (m_number M) (m_word M) (m_wrong M) (m_wrongAt M) (m_toldOnce M) (m_read M) (m_readNames M) 0
    rw [nm_eq, ← hM, nm_eq, a1, nm_eq, um_wrong, nm_eq, um_wrongAt, ep, bs]
    exact r2
  · rw [← hM]
    exact r3
  · rw [← hM]
    exact r4
end TXT
