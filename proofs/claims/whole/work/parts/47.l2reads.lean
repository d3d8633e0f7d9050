/-! ===== level 2: all lines; a text read ===== -/
def Pre (B : Fin 600 → Int32) (M : MS) (n : Nat) (T : TS) (lt : Fin 10 → Int32) (o : Int32) (rd : Fin 82 → Int32) (rn : Fin 4 → Int64) (x0 : Nat) (D : DS) (M2 : MS) : Prop := ∃ x s0 t0 L0 wl0 v0 f1 t1 L1 v1 w1, x0 ≤ x ∧ x ≤ n ∧ D = dq B (nI n) T lt (nI x) 0 s0 t0 L0 wl0 v0 ∧ M2 = mr M (nI x) f1 t1 L1 v1 w1 0 (-1) o rd rn
def OutQ (B : Fin 600 → Int32) (M : MS) (n : Nat) (r : Option (Int32 × DS)) (m : Option MS) : Prop := ∃ D' M', m = J_X5_reads_89 M' ∧ ((r = ((F_X0_fitsTogether D').bind fun q5 => if q5 = 0 then some ((5 : Int32), D') else some ((0 : Int32), D')) ∧ ∃ N K c T lt o rd rn, Pr B M n T lt o rd rn 0 D' M' ∧ TB N K c T lt o rd rn) ∨ (∃ D9, r = some (d_found D9, D') ∧ d_start D' = d_start D9 ∧ ∃ o rd rn i, i ≤ 4 ∧ exI rd 0 = nI i ∧ Ff M o rd rn D9 M'))
section LNS
variable {B : Fin 600 → Int32} {M : MS} {n : Nat} {Y : Nat → Nat}
theorem Pr.pre {T : TS} {lt : Fin 10 → Int32} {o : Int32} {rd : Fin 82 → Int32} {rn : Fin 4 → Int64} {x0 : Nat} {D : DS} {M2 : MS} (h : Pr B M n T lt o rd rn x0 D M2) : Pre B M n T lt o rd rn x0 D M2 := by
  obtain ⟨x, s, t, L, wl, v, Lm, vm, wm, h1, h2, h3, h4, rfl, rfl⟩ := h
  exact ⟨x, _, _, L, wl, v, _, _, Lm, vm, wm, h1, h2, rfl, rfl⟩
theorem Pr.weak {T : TS} {lt : Fin 10 → Int32} {o : Int32} {rd : Fin 82 → Int32} {rn : Fin 4 → Int64} {x0 : Nat} {D : DS} {M2 : MS} (h : Pr B M n T lt o rd rn x0 D M2) : Pr B M n T lt o rd rn 0 D M2 := by
  obtain ⟨x, s, t, L, wl, v, Lm, vm, wm, h1, h2, h3, h4, rfl, rfl⟩ := h
  exact ⟨x, s, t, L, wl, v, Lm, vm, wm, Nat.zero_le _, h2, h3, h4, rfl, rfl⟩
theorem pre_step (hl : m_length M = nI n) (hn : n ≤ 600) (hB : ∀ k, k < n → BR (exI B k) (exI (m_tape M) k) (Y k)) {T : TS} {lt : Fin 10 → Int32} {o : Int32} {rd : Fin 82 → Int32} {rn : Fin 4 → Int64} {x0 : Nat} {D : DS} {M2 : MS} (h : Pre B M n T lt o rd rn x0 D M2) : ∃ D' M2', F_X0_step D = some D' ∧ F_X5_token M2 = some M2' ∧ Pr B M n T lt o rd rn x0 D' M2' ∧ (¬ d_token D' = 0 → Pr B M n T lt o rd rn (x0 + 1) D' M2') := by
  obtain ⟨x, s0, t0, L0, wl0, v0, f1, t1, L1, v1, w1, h1, h2, rfl, rfl⟩ := h
  obtain ⟨x', s', t', L', wl', v', Lm', vm', wm', g1, g2, g3, g4, g5, g6, g7⟩ := tok_step hl hn hB h2 s0 t0 L0 wl0 v0 f1 t1 L1 v1 w1
  refine ⟨_, _, g6 T lt 0, g7 0 (-1) o rd rn, ⟨x', s', t', L', wl', v', Lm', vm', wm', by omega, g2, g3, g5, rfl, rfl⟩, fun hz => ?_⟩
  have ht : t' ≠ 0 := fun q => hz (by rw [q]; rfl)
  have := g4 ht
  exact ⟨x', s', t', L', wl', v', Lm', vm', wm', by omega, g2, g3, g5, rfl, rfl⟩
theorem end_line {D : DS} {D' : DS} (h : d_token D = 0) : ¬ F_X0_readLine D = some (1, D') := by
  have e : F_X0_fixedWord D = some none := by
    unfold F_X0_fixedWord
    rw [h, if_neg (by decide)]
  have e2 : F_X0_readLine D = some (0, ds_found D 1) := by
    unfold F_X0_readLine
    rw [e, bs]
    rfl
  rw [e2]
  intro q
  have q2 : (0 : Int32) = 1 := congrArg Prod.fst (Option.some.inj q)
  exact absurd q2 (by decide)
theorem rd77 {g s : Nat} {o : Int32} {rd : Fin 82 → Int32} {rn : Fin 4 → Int64} {M2 : MS} (h : Fl M g s o rd rn M2) : J_X5_reads_77 M2 = J_X5_reads_89 M2 := by
  unfold J_X5_reads_77
  by_cases q : m_sort M2 = 0
  · rw [if_pos q]
  · rw [if_neg q, h.fails, bs]
theorem lines (hl : m_length M = nI n) (hn : n ≤ 600) (hB : ∀ k, k < n → BR (exI B k) (exI (m_tape M) k) (Y k)) (kC : DS → Option (Int32 × DS)) : ∀ (d l fu fu2 : Nat), l + d = n + 1 → d < fu → d + 1 < fu2 → ∀ (T : TS) (lt : Fin 10 → Int32) (o : Int32) (rd : Fin 82 → Int32) (rn : Fin 4 → Int64) (D : DS) (M2 : MS) (N K : Nat) (c : Nat → Nat), Pre B M n T lt o rd rn l D M2 → TB N K c T lt o rd rn → OutQ B M n (lo2 (B_X0_read_7 kC) fu D (nI l)) ((F_X5_token M2).bind fun q => lo2 (B_X5_reads_30 (fun S9 => J_X5_reads_77 S9)) fu2 q (1 : Int32)) := by
  intro d
  induction d with
  | zero =>
    intro l fu fu2 h1 h2 h3 T lt o rd rn D M2 N K c hp hb
    obtain ⟨x, s0, t0, L0, wl0, v0, f1, t1, L1, v1, w1, g1, g2, -, -⟩ := hp
    omega
  | succ d ih =>
    intro l fu fu2 h1 h2 h3 T lt o rd rn D M2 N K c hp hb
    obtain ⟨fu, rfl⟩ : ∃ f, fu = f + 1 := ⟨fu - 1, by omega⟩
    obtain ⟨fu2, rfl⟩ : ∃ f, fu2 = f + 1 + 1 := ⟨fu2 - 2, by omega⟩
    obtain ⟨D1, M1, s1, s2, hp1, hp1'⟩ := pre_step hl hn hB hp
    have hend : ¬ d_end D < nI l := by
      obtain ⟨x, s0, t0, L0, wl0, v0, f1, t1, L1, v1, w1, g1, g2, rfl, -⟩ := hp
      rw [gd_end, nI_ltI (by omega) (by omega)]
      omega
    rw [s2, bs]
    have out : OutP B M n (l + 1) (F_X0_readLine D1) (F_X5_line M1) ∨ (∃ D2 M3, F_X5_line M1 = some M3 ∧ F_X0_readLine D1 = some (0, D2) ∧ ∃ o rd rn i, i ≤ 4 ∧ exI rd 0 = nI i ∧ Ff M o rd rn D2 M3) := by
      by_cases q : d_token D1 = 0
      · obtain ⟨D2, M3, e1, e2⟩ := p_line hl hn hB hp1 hb
        rcases e2 with ⟨e2, -⟩ | ⟨e2, e3⟩
        · exact absurd e2 (end_line q)
        · exact Or.inr ⟨D2, M3, e1, e2, e3⟩
      · exact Or.inl (p_line hl hn hB (hp1' q) hb)
    have badC : ∀ (D2 : DS) (M3 : MS), F_X5_line M1 = some M3 → F_X0_readLine D1 = some (0, D2) → (∃ o rd rn i, i ≤ 4 ∧ exI rd 0 = nI i ∧ Ff M o rd rn D2 M3) → OutQ B M n (lo2 (B_X0_read_7 kC) (fu + 1) D (nI l)) (lo2 (B_X5_reads_30 (fun S9 => J_X5_reads_77 S9)) (fu2 + 1 + 1) M1 (1 : Int32)) := by
      intro D2 M3 e1 e2 e3
      obtain ⟨o', rd', rn', i, i4, hi, g, s, q1, q2, q3⟩ := e3
      have k1 : ∀ rc, B_X0_read_7 kC rc D (nI l) = some (d_found D2, D2) := by
        intro rc
        unfold B_X0_read_7
        rw [if_neg hend, s1, bs, e2, bs, if_pos rfl]
      have k2 : ∀ (k9 : MS → Option MS) rc, B_X5_reads_30 k9 rc M1 1 = rc M3 0 := by
        intro k9 rc
        unfold B_X5_reads_30 J_X5_reads_64 J_X5_reads_65
        rw [if_neg n10, if_pos hp1.w0, e1, bs, if_neg q3.w, if_pos rfl]
      have k3 : ∀ (k9 : MS → Option MS) rc, B_X5_reads_30 k9 rc M3 0 = k9 M3 := by
        intro k9 rc
        unfold B_X5_reads_30
        rw [if_pos rfl]
      refine ⟨D2, M3, ((lo2_s _ _ _ _).trans (k2 _ _)).trans (((lo2_s _ _ _ _).trans (k3 _ _)).trans (rd77 q3)), Or.inr ⟨D2, (lo2_s _ _ _ _).trans (k1 _), rfl, o', rd', rn', i, i4, hi, g, s, q1, q2, q3⟩⟩
    rcases out with ⟨D2, M3, e1, e2⟩ | ⟨D2, M3, e1, e2, e3⟩
    · rcases e2 with ⟨e2, N2, K2, c2, T2, lt2, o2, rd2, rn2, p2, b2⟩ | ⟨e2, e3⟩
      · have p2' := p2
        obtain ⟨x, s, t, L, wl, v, Lm, vm, wm, a1, a2, a3, a4, hD, hM⟩ := p2'
        have ht : d_token D2 = nI t := by rw [hD]; rfl
        have hs : m_sort M3 = nI t := by rw [hM]; rfl
        have h4 := a4.1
        by_cases t3 : t = 3
        · have k1 : ∀ rc, B_X0_read_7 kC rc D (nI l) = rc D2 (nI (l + 1)) := by
            intro rc
            unfold B_X0_read_7
            rw [if_neg hend, s1, bs, e2, bs, if_neg n10, ht, if_neg (nI_ne0 (by omega) (by omega)), if_pos (by rw [t3]; rfl), nm_eq, nI_1]
          have k2 : ∀ (k9 : MS → Option MS) rc, B_X5_reads_30 k9 rc M1 1 = (F_X5_token M3).bind fun q8 => rc q8 1 := by
            intro k9 rc
            unfold B_X5_reads_30 J_X5_reads_65
            rw [if_neg n10, if_pos hp1.w0, e1, bs, if_pos p2.w0, hs, if_pos (by rw [t3]; rfl), if_neg n10]
          have h := ih (l + 1) fu (fu2 + 1) (by omega) (by omega) (by omega) T2 lt2 o2 rd2 rn2 D2 M3 N2 K2 c2 p2.pre b2
          obtain ⟨D', M', r1, r2⟩ := h
          refine ⟨D', M', ((lo2_s _ _ _ _).trans (k2 _ _)).trans r1, ?_⟩
          rcases r2 with ⟨r2, r3⟩ | ⟨D9, r2, r3⟩
          · exact Or.inl ⟨((lo2_s _ _ _ _).trans (k1 _)).trans r2, r3⟩
          · exact Or.inr ⟨D9, ((lo2_s _ _ _ _).trans (k1 _)).trans r2, r3⟩
        · have n3 : ¬ nI t = 3 := fun q => t3 ((nI_eq (b := 3) (by omega) (by omega)).mp q)
          have k2 : ∀ (k9 : MS → Option MS) rc, B_X5_reads_30 k9 rc M1 1 = rc M3 0 := by
            intro k9 rc
            unfold B_X5_reads_30 J_X5_reads_64 J_X5_reads_65
            rw [if_neg n10, if_pos hp1.w0, e1, bs, if_pos p2.w0, hs, if_neg n3, if_pos rfl]
          have k3 : ∀ (k9 : MS → Option MS) rc, B_X5_reads_30 k9 rc M3 0 = k9 M3 := by
            intro k9 rc
            unfold B_X5_reads_30
            rw [if_pos rfl]
          by_cases t0 : t = 0
          · have k1 : ∀ rc, B_X0_read_7 kC rc D (nI l) = ((F_X0_fitsTogether D2).bind fun q5 => if q5 = 0 then some ((5 : Int32), D2) else some ((0 : Int32), D2)) := by
              intro rc
              unfold B_X0_read_7
              rw [if_neg hend, s1, bs, e2, bs, if_neg n10, ht, if_pos (by rw [t0]; rfl)]
            refine ⟨D2, M3, ((lo2_s _ _ _ _).trans (k2 _ _)).trans (((lo2_s _ _ _ _).trans (k3 _ _)).trans ?_), Or.inl ⟨(lo2_s _ _ _ _).trans (k1 _), N2, K2, c2, T2, lt2, o2, rd2, rn2, p2.weak, b2⟩⟩
            unfold J_X5_reads_77
            rw [hs, if_pos (by rw [t0]; rfl)]
          · obtain ⟨D4, M4, f1, f2, ff⟩ := p2.fail hn (g := 1) (by omega) (by omega)
            have f1' : F_X0_fail D2 1 = some (0, D4) := f1
            have f2' : F_X5_fails M3 1 = some M4 := f2
            have n0 : ¬ nI t = 0 := nI_ne0 (by omega) (by omega)
            have h4d : ds_found D2 1 = D4 := by
              unfold F_X0_fail at f1'
              rw [nm_eq] at f1'
              exact congrArg Prod.snd (Option.some.inj f1')
            have k1 : ∀ rc, B_X0_read_7 kC rc D (nI l) = some (d_found D4, D2) := by
              intro rc
              unfold B_X0_read_7
              rw [if_neg hend, s1, bs, e2, bs, if_neg n10, ht, if_neg n0, if_neg n3, ← h4d]
              rfl
            refine ⟨D2, M4, ((lo2_s _ _ _ _).trans (k2 _ _)).trans (((lo2_s _ _ _ _).trans (k3 _ _)).trans ?_), Or.inr ⟨D4, (lo2_s _ _ _ _).trans (k1 _), by rw [← h4d]; rfl, o2, rd2, rn2, N2, b2.2.2.1.1.1, b2.2.1.1, ff⟩⟩
            unfold J_X5_reads_77
            rw [hs, if_neg n0, f2', bs]
      · exact badC D2 M3 e1 e2 e3
    · exact badC D2 M3 e1 e2 e3
/-! the tenths together, and whether all fits -/
theorem ten_any {o : Int32} {rd : Fin 82 → Int32} {rn : Fin 4 → Int64} {M2 : MS} (hr : m_read M2 = rd) {i : Nat} (hi : i ≤ 4) (h0 : exI rd 0 = nI i) : ∃ r, F_X5_tenths M2 = some r := by
  have hr0 : rdI rd 0 = some (nI i) := by
    rw [show (0 : Int32) = nI 0 from rfl, rI _ (by omega) (by omega), h0]
  have key : ∀ d j fu v, j + d = i → d < fu → ∃ r, lo2 (B_X5_tenths_4 M2 (fun z5 => some z5)) fu v (nI j) = some r := by
    intro d
    induction d with
    | zero =>
      intro j fu v hj hf
      obtain ⟨fu, rfl⟩ : ∃ f, fu = f + 1 := ⟨fu - 1, by omega⟩
      refine ⟨v, (lo2_s _ _ _ _).trans ?_⟩
      unfold B_X5_tenths_4
      rw [hr, hr0, bs, if_pos (by rw [nI_leI (by omega) (by omega)]; omega)]
    | succ d ih =>
      intro j fu v hj hf
      obtain ⟨fu, rfl⟩ : ∃ f, fu = f + 1 := ⟨fu - 1, by omega⟩
      obtain ⟨r, e⟩ := ih (j + 1) fu (v + exI rd (10 + 6 * j + 1)) (by omega) (by omega)
      refine ⟨r, (lo2_s _ _ _ _).trans (Eq.trans ?_ e)⟩
      unfold B_X5_tenths_4
      rw [hr, hr0, bs, if_neg (by rw [nI_leI (by omega) (by omega)]; omega), show (10 : Int32) + (6 : Int32) * nI j + (1 : Int32) = nI (10 + 6 * j + 1) from ix6 j 1, rI _ (by omega) (by omega), bs, nm_eq, nm_eq, nI_1]
  exact key i 0 FU 0 (by omega) (by rw [FU_eq]; omega)
theorem ten_M {N K : Nat} {c : Nat → Nat} {rd : Fin 82 → Int32} {M2 : MS} (hr : m_read M2 = rd) (hR : RowR rd N K c) (hN : N ≤ 4) : F_X5_tenths M2 = some (nI (sN (fun i => c (10 + 6 * i + 1)) N)) := by
  unfold F_X5_tenths
  refine loopR (fun fu j (a : Int32) => lo2 (B_X5_tenths_4 M2 (fun z5 => some z5)) fu a (nI j)) _ N (fun j a => a = nI (sN (fun i => c (10 + 6 * i + 1)) j)) ?_ ?_ N FU 0 0 (by omega) (by rw [FU_eq]; omega) rfl
  · intro fu j a hj e
    refine ⟨_, rfl, (lo2_s _ _ _ _).trans ?_⟩
    unfold B_X5_tenths_4
    rw [hr, R0 hR, bs, if_neg (by rw [nI_leI (by omega) (by omega)]; omega), show (10 : Int32) + (6 : Int32) * nI j + (1 : Int32) = nI (10 + 6 * j + 1) from ix6 j 1, rI _ (by omega) (by omega), bs, nm_eq, nm_eq, nI_1, e, hR.2.2.2.1 j hj 1 (by omega), nI_add]
    rfl
  · intro fu a e
    refine (lo2_s _ _ _ _).trans ?_
    unfold B_X5_tenths_4
    rw [hr, R0 hR, bs, if_pos (by rw [nI_leI (by omega) (by omega)]; omega), e]
theorem ten_C {N K : Nat} {c : Nat → Nat} {T : TS} (hT : RowT T N K c) (hN : N ≤ 4) : F_X2_faultsTogether T = some (nI (sN (fun i => c (10 + 6 * i + 1)) N)) := by
  unfold F_X2_faultsTogether
  refine loopR (fun fu j (a : Int32) => lo2 (B_X2_faultsTogether_4 T (fun z4 => some z4)) fu a (nI j)) _ N (fun j a => a = nI (sN (fun i => c (10 + 6 * i + 1)) j)) ?_ ?_ N FU 0 0 (by omega) (by rw [FU_eq]; omega) rfl
  · intro fu j a hj e
    refine ⟨_, rfl, (lo2_s _ _ _ _).trans ?_⟩
    unfold B_X2_faultsTogether_4
    rw [hT.1, if_neg (by rw [nI_leI (by omega) (by omega)]; omega), X_of1 hT hN hj, bs, nm_eq, nm_eq, nI_1, e, nI_add]
    rfl
  · intro fu a e
    refine (lo2_s _ _ _ _).trans ?_
    unfold B_X2_faultsTogether_4
    rw [hT.1, if_pos (by rw [nI_leI (by omega) (by omega)]; omega), e]
end LNS
