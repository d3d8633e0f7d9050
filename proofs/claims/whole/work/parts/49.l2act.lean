/-! ===== level 2: text ===== -/
theorem copyLL {β σ : Type} {n : Nat} (B : (σ → Int32 → Option β) → σ → Int32 → Option β) (mk : (Fin n → Int64) → σ) (k9 : σ → Option β) (src : Nat → Int64) (hn : n < 900) (f0 : Fin n → Int64)
    (h1 : ∀ rc f i, i < n → B rc (mk f) (nI i) = rc (mk (upL f i (src i))) (nI (i + 1)))
    (h3 : ∀ rc f, B rc (mk f) (nI n) = k9 (mk f)) :
    ∃ f2, (∀ z, z < n → exL f2 z = src z) ∧ lo2 B FU (mk f0) 0 = k9 (mk f2) := by
  obtain ⟨f2, h, e⟩ := loopE (fun fu i (f : Fin n → Int64) => lo2 B fu (mk f) (nI i)) (fun f => k9 (mk f)) n (fun i f => ∀ z, z < i → exL f z = src z) (by
    intro fu i f hi hI
    refine ⟨upL f i (src i), fun z hz => ?_, (lo2_s _ _ _ _).trans (h1 _ f i hi)⟩
    rw [exL_up _ hi]
    by_cases q : z = i
    · rw [if_pos q, q]
    · rw [if_neg q, hI z (by omega)]) (by
    intro fu f hI
    exact (lo2_s _ _ _ _).trans (h3 _ f)) n FU 0 f0 (by omega) (by rw [FU_eq]; omega) (fun z hz => absurd hz (Nat.not_lt_zero z))
  exact ⟨f2, h, e⟩
section MVS
variable (M : MS) (v : Int32)
theorem mv_len : mv (ms_length M v) = mv M := rfl
theorem mv_tpd : mv (ms_taped M v) = (m_fault M, m_told M, m_s M, m_past M, m_acts M, m_kept M, m_isKept M, m_names M, m_tape M, v) := rfl
theorem tr_len : m_trouble (ms_length M v) = m_trouble M := rfl
theorem tr_tpd : m_trouble (ms_taped M v) = m_trouble M := rfl
theorem pl_len : m_place (ms_length M v) = m_place M := rfl
theorem pl_tpd : m_place (ms_taped M v) = m_place M := rfl
end MVS
theorem tr_mr (M : MS) (x f t L v : Int32) (w : Int64) (g ga o : Int32) (rd : Fin 82 → Int32) (rn : Fin 4 → Int64) : m_trouble (mr M x f t L v w g ga o rd rn) = m_trouble M := rfl
theorem pl_mr (M : MS) (x f t L v : Int32) (w : Int64) (g ga o : Int32) (rd : Fin 82 → Int32) (rn : Fin 4 → Int64) : m_place (mr M x f t L v w g ga o rd rn) = m_place M := rfl
section TOK2
variable (X : MS) (f f2 : Fin 82 → Int32) (g g2 : Fin 4 → Int64) (b b2 : Fin 2 → Int32)
theorem ts_rd : m_read (ms_s X f) = m_read X := rfl
theorem ts_s : m_s (ms_s X f) = f := rfl
theorem ts_ss : ms_s (ms_s X f) f2 = ms_s X f2 := rfl
theorem tn_rn : m_readNames (ms_names X g) = m_readNames X := rfl
theorem tn_n : m_names (ms_names X g) = g := rfl
theorem tn_nn : ms_names (ms_names X g) g2 = ms_names X g2 := rfl
theorem tn_rs : m_readNames (ms_s X f) = m_readNames X := rfl
theorem tk_b : m_isKept (ms_isKept X b) = b := rfl
theorem tk_bb : ms_isKept (ms_isKept X b) b2 = ms_isKept X b2 := rfl
end TOK2
theorem M_textOK (X : MS) (h : m_trouble X = 0) : ∃ b : Fin 2 → Int32, (∀ m, m < 2 → exI b m = 0) ∧ J_X5_text_64 X 0 = some (exI (m_read X) 0, ms_isKept (ms_acts (ms_told (ms_names (ms_s X (m_read X)) (m_readNames X)) 1) 0) b) := by
  obtain ⟨K1, hK1⟩ : ∃ K1 : MS → Option (Int32 × MS), K1 = fun S17 => nm (ms_told S17 (1 : Int32) : MS) fun S18 => nm (ms_acts S18 (0 : Int32) : MS) fun S19 => (wrI (m_isKept S19) (0 : Int32) (0 : Int32)).bind fun f20 => nm (ms_isKept S19 f20 : MS) fun S21 => (wrI (m_isKept S21) (1 : Int32) (0 : Int32)).bind fun f22 => nm (ms_isKept S21 f22 : MS) fun S23 => (rdI (m_s S23) (0 : Int32)).bind fun v24 => some (v24, S23) := ⟨_, rfl⟩
  obtain ⟨f, hf, e1⟩ := copyL (B_X5_text_83 (fun S12 => lo2 (B_X5_text_109 K1) FU S12 (0 : Int32))) (fun f => ms_s X f) (fun S12 => lo2 (B_X5_text_109 K1) FU S12 (0 : Int32)) 0 0 82 (exI (m_read X)) (by omega) (by omega) (m_s X) (by
    intro rc f i hi hI
    unfold B_X5_text_83
    rw [show (82 : Int32) = nI 82 from rfl, if_neg (by rw [nI_leI (by omega) (by omega)]; omega), ts_rd, show 0 + i = i by omega, rI _ (by omega) (by omega), bs, ts_s, wI _ (by omega) (by omega), bs, nm_eq, ts_ss, nm_eq, nI_1]) (by
    intro rc f hI
    have key : ∀ (k9 : MS → Option (Int32 × MS)) S2, B_X5_text_83 k9 rc S2 (nI (0 + 82)) = k9 S2 := by
      intro k9 S2
      unfold B_X5_text_83
      rw [if_pos (by decide)]
    exact key _ _)
  have hfr : f = m_read X := ext_I fun z hz => by
    rw [hf z hz, if_pos (by omega)]
    rfl
  obtain ⟨g, hg, e2⟩ := copyLL (B_X5_text_109 K1) (fun g => ms_names (ms_s X (m_read X)) g) K1 (exL (m_readNames X)) (by omega) (m_names (ms_s X (m_read X))) (by
    intro rc f i hi
    unfold B_X5_text_109
    rw [show (4 : Int32) = nI 4 from rfl, if_neg (by rw [nI_leI (by omega) (by omega)]; omega), tn_rn, tn_rs, rL _ (by omega) (by omega), bs, tn_n, wL _ (by omega) (by omega), bs, nm_eq, tn_nn, nm_eq, nI_1]) (by
    intro rc f
    unfold B_X5_text_109
    rw [if_pos (by decide)])
  have hgr : g = m_readNames X := ext_L fun z hz => hg z hz
  have e2' : lo2 (B_X5_text_109 K1) FU (ms_s X (m_read X)) (0 : Int32) = K1 (ms_names (ms_s X (m_read X)) g) := e2
  refine ⟨upI (upI (m_isKept X) 0 0) 1 0, fun m hm => ?_, ?_⟩
  · rw [exI_up _ (by omega), exI_up _ (by omega)]
    by_cases q : m = 1
    · rw [if_pos q]
    · rw [if_neg q, if_pos (by omega)]
  · unfold J_X5_text_64
    rw [M_ref0 h, bs, if_pos rfl]
    rw [← hK1]
    refine (show lo2 _ FU X (0 : Int32) = _ from e1).trans ?_
    rw [hfr, e2', hK1, hgr]
    show nm _ _ = _
    rw [nm_eq, nm_eq]
    have k0 : m_isKept (ms_acts (ms_told (ms_names (ms_s X (m_read X)) (m_readNames X)) 1) 0) = m_isKept X := rfl
    have k1 : ∀ Z b, m_s (ms_isKept Z b) = m_s Z := fun Z b => rfl
    have k2 : m_s (ms_acts (ms_told (ms_names (ms_s X (m_read X)) (m_readNames X)) 1) 0) = m_read X := rfl
    rw [k0, show (0 : Int32) = nI 0 from rfl, wI _ (by omega) (by omega), bs, nm_eq, tk_b, show (1 : Int32) = nI 1 from rfl, wI _ (by omega) (by omega), bs, nm_eq, tk_bb, k1]
    have k2' : m_s (ms_acts (ms_told (ms_names (ms_s X (m_read X)) (m_readNames X)) (nI 1)) (nI 0)) = m_read X := k2
    rw [k2', rI _ (by omega) (by omega), bs]
section TXA
variable {S : XS} {M : MS}
theorem A_textAct (hr : Rel S M) (x : Int32) : StepR (F_X4_text S x) (F_X5_text M x) := by
  obtain ⟨hr1, ⟨t, ht, h1, h2, hb⟩, hr3, hr4, hr5⟩ := hr
  have hr' : Rel S M := ⟨hr1, ⟨t, ht, h1, h2, hb⟩, hr3, hr4, hr5⟩
  have h2' : m_taped (mB M) = nI t := h2
  unfold F_X4_text F_X5_text J_X5_text_24
  rw [M_begins, bs, h1, h2', show F_X5_in x.toInt64 0 (nI t).toInt64 = F_X4_within x 0 (nI t) from M_in x (nI t)]
  rcases W_cases x (b := t) (by omega) with e | ⟨e, n, hn, rfl⟩
  · refine AskR.step (S := S) (M := M) ?_ hr'
    rw [e, bs, bs, if_pos rfl, if_pos rfl, X_none, bs, M_ref1 (mB_tr M) (by decide), bs, if_neg n10]
    exact ask_no _ _
  · rw [e, bs, bs, if_neg n10, if_neg n10, M_ref0 (mB_tr M), bs, if_pos rfl, nm_eq, nm_eq]
    have hrd : x_reader (xs_tapeLength S 0) = x_reader S := rfl
    have hY : ∃ Y : Nat → Nat, ∀ k, k < n → BR (exI (d_bytes (x_reader S)) k) (exI (m_tape (ms_taped (mB M) 0)) k) (Y k) := by
      have hq : ∀ k, ∃ y, k < n → BR (exI (d_bytes (x_reader S)) k) (exI (m_tape (ms_taped (mB M) 0)) k) y := by
        intro k
        by_cases q : k < n
        · obtain ⟨y, hy⟩ := (hb k (by omega)).br
          exact ⟨y, fun _ => hy⟩
        · exact ⟨0, fun q2 => absurd q2 q⟩
      exact ⟨fun k => (hq k).choose, fun k => (hq k).choose_spec⟩
    obtain ⟨Y, hY⟩ := hY
    obtain ⟨fa, D', M', r1, r2, ⟨x1, f1, t1, L1, v1, w1, g1, ga1, o1, rd1, rn1, rM⟩, r4⟩ := R_read (x_reader S) (ms_taped (mB M) 0) (by omega) hY
    have hmv : mv M' = (m_fault M, m_told M, m_s M, m_past M, m_acts M, m_kept M, m_isKept M, m_names M, m_tape M, 0) := by
      rw [rM, mr_v, mv_len, mv_tpd]
      rfl
    have htr : m_trouble M' = 0 := by
      rw [rM, tr_mr, tr_len, tr_tpd]
      rfl
    have hpl : m_place M' = -1 := by
      rw [rM, pl_mr, pl_len, pl_tpd]
      rfl
    simp only [mv, Prod.mk.injEq] at hmv
    obtain ⟨m1, m2, m3, m4, m5, m6, m7, m8, m9, m10⟩ := hmv
    rw [hrd, r1, r2, bs, bs, nm_eq, nm_eq, nm_eq, nm_eq, nm_eq]
    have hlf : x_latestFault (xs_latestFault (xs_reader (xs_tapeLength S 0) D') (nI fa)) = nI fa := rfl
    have hwr : m_wrong (ms_fault M' (m_wrong M')) = m_wrong M' := rfl
    have htr6 : m_trouble (ms_fault M' (m_wrong M')) = 0 := htr
    rw [hlf, hwr]
    rcases r4 with ⟨rfl, hw, N, K, c, hT, hR, hO, hNm⟩ | ⟨p1, p2, hw, hs⟩
    · rw [if_pos nI_0, if_pos hw]
      obtain ⟨b, hb2, em⟩ := M_textOK (ms_fault M' (m_wrong M')) htr6
      rw [em]
      have hf : ∀ Z : XS, F_X4_forgetActs Z = some (xs_nextAct (xs_undoable Z 0) 0) := fun Z => rfl
      rw [X_accept, bs, C_copy, bs, nm_eq, hf, bs]
      obtain ⟨Z, hZ⟩ : ∃ Z, Z = xs_nextAct (xs_undoable (xs_now (xT (xs_latestFault (xs_reader (xs_tapeLength S 0) D') (nI 0)) 0) (d_told (x_reader (xT (xs_latestFault (xs_reader (xs_tapeLength S 0) D') (nI 0)) 0)))) 0) 0 := ⟨_, rfl⟩
      rw [← hZ]
      obtain ⟨f, hf2, ef⟩ := copyL (B_X4_text_84 (fun S13 => some (t_ships (x_now S13), S13))) (fun f => xs_kept Z f) (fun S13 => some (t_ships (x_now S13), S13)) 0 0 2 (fun _ => 0) (by omega) (by omega) (x_kept Z) (by
        intro rc f i hi hI
        have a1 : x_kept (xs_kept Z f) = f := rfl
        have a2 : ∀ g, xs_kept (xs_kept Z f) g = xs_kept Z g := fun g => rfl
        unfold B_X4_text_84
        rw [show (2 : Int32) = nI 2 from rfl, if_neg (by rw [nI_leI (by omega) (by omega)]; omega), a1, wI _ (by omega) (by omega), bs, nm_eq, a2, nm_eq, nI_1]) (by
        intro rc f hI
        unfold B_X4_text_84
        rw [if_pos (by decide)])
      have ef' : lo2 (B_X4_text_84 (fun S13 => some (t_ships (x_now S13), S13))) FU Z (0 : Int32) = _ := ef
      rw [ef']
      have hnow : x_now (xs_kept Z f) = d_told D' := by rw [hZ]; rfl
      have hred : m_read (ms_fault M' (m_wrong M')) = m_read M' := rfl
      have hrn : m_readNames (ms_fault M' (m_wrong M')) = m_readNames M' := rfl
      rw [hnow, hT.1, hred, hR.1, hrn]
      refine ⟨_, _, _, rfl, rfl, ?_⟩
      · refine ⟨⟨?_, ?_, ?_⟩, ⟨0, by omega, ?_, ?_, fun k hk => absurd hk (Nat.not_lt_zero k)⟩, Or.inr ⟨?_, ?_⟩, ⟨0, 0, ?_, ?_, ?_, by omega, by omega, fun q hq => absurd hq (Nat.not_lt_zero q)⟩, fun m hm => ⟨?_, fun hk => ?_⟩⟩
        · show x_latestTrouble (xs_kept Z f) = m_trouble M'
          rw [htr, hZ]
          rfl
        · show x_latestPlace (xs_kept Z f) = m_place M'
          rw [hpl, hZ]
          rfl
        · show x_latestFault (xs_kept Z f) = m_wrong M'
          rw [hw, hZ]
          rfl
        · rw [hZ]
          rfl
        · show m_taped M' = nI 0
          exact m10
        · show (1 : Int32) ≠ 0
          decide
        · show CaseR (x_now (xs_kept Z f)) (m_read M') (m_readNames M')
          rw [hnow]
          exact ⟨N, K, c, hT, hR, hO, hNm⟩
        · rw [hZ]
          rfl
        · rfl
        · rw [hZ]
          rfl
        · show exI f m = exI b m
          rw [hf2 m hm, if_pos (by omega), hb2 m hm]
        · exfalso
          have hk2 : exI f m ≠ 0 := hk
          rw [hf2 m hm, if_pos (by omega)] at hk2
          exact hk2 rfl
    · have hne : ¬ nI fa = 0 := nI_ne0 p1 (by omega)
      rw [if_neg hne, if_neg (by rw [hw]; exact hne)]
      unfold J_X5_text_64
      rw [M_ref1 htr6 (by decide), bs, if_neg n10, nm_eq]
      refine ⟨_, _, _, rfl, rfl, ⟨rfl, ?_, ?_⟩, ⟨0, by omega, rfl, m10, fun k hk => absurd hk (Nat.not_lt_zero k)⟩, ?_, ?_, ?_⟩
      · exact hs
      · exact hw.symm
      · show NowR (x_now S) (m_told M') (m_s M') (m_names M')
        rw [m2, m3, m8]
        exact hr3
      · obtain ⟨A, P, u1, u2, u3, u4⟩ := hr4
        refine ⟨A, P, u1, ?_, u3, ?_⟩
        · show m_acts M' = nI A
          rw [m5]
          exact u2
        · show RingR (x_earlier S) P A (m_past M') (m_names M')
          rw [m4, m8]
          exact u4
      · intro m hm
        show exI (x_kept S) m = exI (m_isKept M') m ∧ (exI (x_kept S) m ≠ 0 → m_told M' ≠ 0 ∧ CaseR (x_images S ⟨m, hm⟩) (rowK (m_kept M') m) (m_names M'))
        rw [m7, m2, m6, m8]
        exact hr5 m hm
end TXA
