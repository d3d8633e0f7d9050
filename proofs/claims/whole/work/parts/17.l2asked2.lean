/-! ===== level 2: the asks, those that are settled ===== -/
section ASKE
variable {S : XS} {M : MS}
theorem m1L : (-1 : Int32).toInt64 = -1 := by decide
theorem M_lp {N K : Nat} {c : Nat → Nat} (hR : RowR (m_s M) N K c) (hO : OKc N K c) : ∃ (o2 u2 : Fin 16 → Int64) (p2 : Fin 64 → Int64), F_X5_laysPaid (mB M) = some (sc (mB M) (m_s M) o2 u2 p2) ∧ PdOK N K c p2 := by
  obtain ⟨o2, u2, p2, el, hP⟩ := M_laysPaid (M := mB M) (w := m_w (mB M)) (o := m_owed (mB M)) (u := m_out (mB M)) (p := m_paid (mB M)) (N := N) (K := K) (c := c) hR hO
  rw [sc_self] at el
  exact ⟨o2, u2, p2, el, hP⟩
theorem sameN {T : TS} {N K N2 K2 : Nat} {c c2 : Nat → Nat} (h : RowT T N K c) (h2 : RowT T N2 K2 c2) (hO : OKc N K c) (hO2 : OKc N2 K2 c2) : N2 = N ∧ K2 = K := by
  have a := hO.1
  have b := hO2.1
  exact ⟨(nI_eq (by omega) (by omega)).mp (h2.1.symm.trans h.1), (nI_eq (by omega) (by omega)).mp (h2.2.1.symm.trans h.2.1)⟩
theorem A_owes (h : Core (x_now S) (m_told M) (m_s M)) (x y : Int32) : AskR S M (F_X4_owes S x y) (F_X5_owes M x y) := by
  have no : AskR S M (J_X4_owes_16 S) (J_X5_owes_21 (mB M) x y) := by
    unfold J_X4_owes_16 J_X5_owes_21 J_X5_owes_26
    rw [X_none, bs, M_ref1 (mB_tr M) (by decide), bs, if_neg (show ¬ (1 : Int32) = 0 by decide)]
    exact ask_no _ _
  unfold F_X4_owes F_X5_owes
  rw [M_begins, bs]
  rcases A_ship h x with ⟨e1, e2⟩ | ⟨N, K, c, a, hT, hR, hO, ha, rfl, e1, e2⟩
  · rw [e1, e2, bs, bs, if_pos rfl, if_pos rfl]
    exact no
  · rw [e1, e2, bs, bs, if_neg n10, if_neg n10]
    rcases A_claim h y with ⟨e3, e4⟩ | ⟨N2, K2, c2, k, hT2, hR2, hO2, hk, rfl, e3, e4⟩
    · rw [e3, e4, bs, bs, if_pos rfl, if_pos rfl]
      exact no
    · obtain ⟨rfl, rfl⟩ := sameN hT hT2 hO hO2
      rw [e3, e4, bs, bs, if_neg n10, if_neg n10, X_accept, bs]
      obtain ⟨wt, lk, hW, er⟩ := X_reckon (S := xT S 0) hT hO
      unfold J_X5_owes_26
      rw [er, bs, xK_k, C_owedToClaim2 hO ha hk, bs, M_ref0 (mB_tr M), bs, if_pos rfl, mB_s, M_debtOf hR hO ha hk, bs]
      exact ask_half _ _
theorem A_back (h : Core (x_now S) (m_told M) (m_s M)) (x : Int32) : AskR S M (F_X4_back S x) (F_X5_back M x) := by
  unfold F_X4_back F_X5_back J_X5_back_18
  rw [M_begins, bs]
  rcases A_claim h x with ⟨e1, e2⟩ | ⟨N, K, c, k, hT, hR, hO, hk, rfl, e1, e2⟩
  · rw [e1, e2, bs, bs, if_pos rfl, if_pos rfl, X_none, bs, M_ref1 (mB_tr M) (by decide), bs, if_neg (show ¬ (1 : Int32) = 0 by decide), m1L]
    exact ask_no _ _
  · rw [e1, e2, bs, bs, if_neg n10, if_neg n10, X_accept, bs]
    obtain ⟨wt, lk, hW, er⟩ := X_reckon (S := xT S 0) hT hO
    rw [er, bs, xK_k, xT_now, C_backForClaim hT hO hW hk, bs, M_ref0 (mB_tr M), bs, if_pos rfl, mB_s, M_backOf hR hO hk, bs]
    exact ask_half _ _
theorem A_pays (h : Core (x_now S) (m_told M) (m_s M)) (x y : Int32) : AskR S M (F_X4_pays S x y) (F_X5_pays M x y) := by
  have no : AskR S M (J_X4_pays_16 S) (J_X5_pays_21 (mB M) x y) := by
    unfold J_X4_pays_16 J_X5_pays_21 J_X5_pays_26
    rw [X_none, bs, M_ref1 (mB_tr M) (by decide), bs, if_neg (show ¬ (1 : Int32) = 0 by decide)]
    exact ask_no _ _
  unfold F_X4_pays F_X5_pays
  rw [M_begins, bs]
  rcases A_ship h x with ⟨e1, e2⟩ | ⟨N, K, c, a, hT, hR, hO, ha, rfl, e1, e2⟩
  · rw [e1, e2, bs, bs, if_pos rfl, if_pos rfl]
    exact no
  · rw [e1, e2, bs, bs, if_neg n10, if_neg n10]
    rcases A_claim h y with ⟨e3, e4⟩ | ⟨N2, K2, c2, k, hT2, hR2, hO2, hk, rfl, e3, e4⟩
    · rw [e3, e4, bs, bs, if_pos rfl, if_pos rfl]
      exact no
    · obtain ⟨rfl, rfl⟩ := sameN hT hT2 hO hO2
      have hN := hO.1
      rw [e3, e4, bs, bs, if_neg n10, if_neg n10, X_accept, bs]
      obtain ⟨wt, lk, hW, er⟩ := X_reckon (S := xT S 0) hT hO
      obtain ⟨o2, u2, p2, el, hP⟩ := M_lp hR hO
      unfold J_X5_pays_26
      rw [er, bs, xK_k, C_paidToClaim hO ha hk, bs, M_ref0 (mB_tr M), bs, if_pos rfl, el, bs, sc_p, show (16 : Int32) = nI 16 from rfl, pk_mul, show (4 : Int32) = nI 4 from rfl, nI_add, nI_add, show 16 * a + 4 + k = 16 * a + (4 + k) by omega, rL p2 (by omega) (by omega), hP a ha (4 + k) (by omega), bs]
      exact ask_full _ _ _ _ _ _
theorem A_paysTo (h : Core (x_now S) (m_told M) (m_s M)) (x y : Int32) : AskR S M (F_X4_paysTo S x y) (F_X5_paysTo M x y) := by
  have no : AskR S M (J_X4_paysTo_16 S) (J_X5_paysTo_21 (mB M) x y) := by
    unfold J_X4_paysTo_16 J_X5_paysTo_21 J_X5_paysTo_26 J_X5_paysTo_51
    rw [X_none, bs, M_ref1 (mB_tr M) (by decide), bs, if_neg (show ¬ (1 : Int32) = 0 by decide), m1L]
    exact ask_no _ _
  unfold F_X4_paysTo F_X5_paysTo
  rw [M_begins, bs]
  rcases A_ship h x with ⟨e1, e2⟩ | ⟨N, K, c, a, hT, hR, hO, ha, rfl, e1, e2⟩
  · rw [e1, e2, bs, bs, if_pos rfl, if_pos rfl]
    exact no
  · rw [e1, e2, bs, bs, if_neg n10, if_neg n10]
    rcases A_ship h y with ⟨e3, e4⟩ | ⟨N2, K2, c2, b, hT2, hR2, hO2, hb, rfl, e3, e4⟩
    · rw [e3, e4, bs, bs, if_pos rfl, if_pos rfl]
      exact no
    · obtain ⟨rfl, rfl⟩ := sameN hT hT2 hO hO2
      have hN := hO.1
      rw [e3, e4, bs, bs, if_neg n10, if_neg n10]
      unfold J_X5_paysTo_26
      rw [M_ref0 (mB_tr M), bs, if_pos rfl]
      unfold J_X5_paysTo_44 J_X5_paysTo_51
      by_cases hab : nI a = nI b
      · rw [if_pos hab, if_pos hab, X_none, bs, M_ref1 (mB_tr M) (by decide), bs, if_neg (show ¬ (1 : Int32) = 0 by decide), m1L]
        exact ask_no _ _
      · rw [if_neg hab, if_neg hab, X_accept, bs]
        obtain ⟨wt, lk, hW, er⟩ := X_reckon (S := xT S 0) hT hO
        obtain ⟨o2, u2, p2, el, hP⟩ := M_lp hR hO
        rw [er, bs, xK_k, C_paidToShip hO ha hb, bs, M_ref0 (mB_tr M), bs, if_pos rfl, el, bs, sc_p, show (16 : Int32) = nI 16 from rfl, pk_mul, nI_add, rL p2 (by omega) (by omega), hP a ha b (by omega), bs]
        exact ask_full _ _ _ _ _ _
theorem A_sum (h : Core (x_now S) (m_told M) (m_s M)) (x y : Int32) : AskR S M (F_X4_sum S x y) (F_X5_sum M x y) := by
  have no : AskR S M (J_X4_sum_17 S) (J_X5_sum_23 (mB M) x y) := by
    unfold J_X4_sum_17 J_X5_sum_23 J_X5_sum_28
    rw [X_none, bs, M_ref1 (mB_tr M) (by decide), bs, if_neg (show ¬ (1 : Int32) = 0 by decide), m1L]
    exact ask_no _ _
  unfold F_X4_sum F_X5_sum
  rw [M_begins, bs]
  rcases A_ship h x with ⟨e1, e2⟩ | ⟨N, K, c, a, hT, hR, hO, ha, rfl, e1, e2⟩
  · rw [e1, e2, bs, bs, if_pos rfl, if_pos rfl]
    exact no
  · rw [e1, e2, bs, bs, if_neg n10, if_neg n10, show F_X5_in y.toInt64 0 1 = F_X4_within y 0 1 from M_in y 1]
    rcases W_cases y (b := 1) (by omega) with e | ⟨e, b, hb, rfl⟩
    · have e' : F_X4_within y 0 1 = some 0 := e
      rw [e', bs, bs, if_pos rfl, if_pos rfl]
      exact no
    · have e' : F_X4_within (nI b) 0 1 = some 1 := e
      rw [e', bs, bs, if_neg n10, if_neg n10, X_accept, bs]
      obtain ⟨wt, lk, hW, er⟩ := X_reckon (S := xT S 0) hT hO
      obtain ⟨o2, u2, p2, el, hP⟩ := M_lp hR hO
      unfold J_X5_sum_28
      rw [er, bs, xK_k, M_ref0 (mB_tr M), bs, if_pos rfl]
      by_cases h0 : b = 0
      · subst h0
        have eo : F_X5_owedBy (mB M) (nI a) = some (lN (sN (payB N K c a) 16)) := by
          have := M_owedBy (M := mB M) (w := m_w (mB M)) (o := m_owed (mB M)) (u := m_out (mB M)) (p := m_paid (mB M)) (N := N) (K := K) (c := c) hR hO ha
          rw [sc_self] at this
          exact this
        rw [if_pos nI_0, if_pos nI_0, C_owedByShip hO ha, bs, eo, bs]
        exact ask_half _ _
      · rw [if_neg (nI_ne0 (by omega) (by omega)), if_neg (nI_ne0 (by omega) (by omega)), C_paidByShip hO ha, bs, el, bs, M_paidBy hO hP ha, bs]
        exact ask_full _ _ _ _ _ _
theorem A_bites (h : Core (x_now S) (m_told M) (m_s M)) (x : Int32) : AskR S M (F_X4_bites S x) (F_X5_bites M x) := by
  unfold F_X4_bites F_X5_bites J_X5_bites_18
  rw [M_begins, bs]
  rcases A_ship h x with ⟨e1, e2⟩ | ⟨N, K, c, a, hT, hR, hO, ha, rfl, e1, e2⟩
  · rw [e1, e2, bs, bs, if_pos rfl, if_pos rfl, X_none, bs, M_ref1 (mB_tr M) (by decide), bs, if_neg (show ¬ (1 : Int32) = 0 by decide)]
    exact ask_no _ _
  · rw [e1, e2, bs, bs, if_neg n10, if_neg n10, X_accept, bs]
    obtain ⟨wt, lk, hW, er⟩ := X_reckon (S := xT S 0) hT hO
    obtain ⟨o2, u2, p2, el, hP⟩ := M_lp hR hO
    have hR2 : RowR (m_s (mB M)) N K c := hR
    rw [er, bs, xK_k, C_paidByShip hO ha, bs, C_owedByShip hO ha, bs, M_ref0 (mB_tr M), bs, if_pos rfl, el, bs, M_paidBy hO hP ha, bs, M_owedBy hR2 hO ha, bs]
    by_cases hq : 0 ≤ lg_cmp (lN (sN (payN N K c a) 16)) (lN (sN (payB N K c a) 16))
    · rw [if_pos hq, if_pos hq]
      exact ask_full _ _ _ _ _ _
    · rw [if_neg hq, if_neg hq]
      exact ask_full _ _ _ _ _ _
theorem A_gets (h : Core (x_now S) (m_told M) (m_s M)) (x y : Int32) : AskR S M (F_X4_gets S x y) (F_X5_gets M x y) := by
  have no : AskR S M (J_X4_gets_17 S) (J_X5_gets_25 (mB M) x y) := by
    unfold J_X4_gets_17 J_X5_gets_25 J_X5_gets_30
    rw [X_none, bs, M_ref1 (mB_tr M) (by decide), bs, if_neg (show ¬ (1 : Int32) = 0 by decide), m1L]
    exact ask_no _ _
  unfold F_X4_gets F_X5_gets
  rw [M_begins, bs]
  rcases A_claim h x with ⟨e1, e2⟩ | ⟨N, K, c, k, hT, hR, hO, hk, rfl, e1, e2⟩
  · rw [e1, e2, bs, bs, if_pos rfl, if_pos rfl]
    exact no
  · rw [e1, e2, bs, bs, if_neg n10, if_neg n10, show F_X5_in y.toInt64 0 2 = F_X4_within y 0 2 from M_in y 2]
    rcases W_cases y (b := 2) (by omega) with e | ⟨e, b, hb, rfl⟩
    · have e' : F_X4_within y 0 2 = some 0 := e
      rw [e', bs, bs, if_pos rfl, if_pos rfl]
      exact no
    · have e' : F_X4_within (nI b) 0 2 = some 1 := e
      rw [e', bs, bs, if_neg n10, if_neg n10, X_accept, bs]
      obtain ⟨wt, lk, hW, er⟩ := X_reckon (S := xT S 0) hT hO
      obtain ⟨o2, u2, p2, el, hP⟩ := M_lp hR hO
      unfold J_X5_gets_30
      rw [er, bs, xK_k, xT_now, M_ref0 (mB_tr M), bs, if_pos rfl, el, bs]
      by_cases h0 : b = 0
      · subst h0
        rw [if_pos nI_0, if_pos nI_0, C_leftToClaim hT hO hW hk, bs, M_paidTo hR hO hP hk, bs, M_givenOf hR hO hP hk, bs, lN_sub (gvN_le hO)]
        exact ask_full _ _ _ _ _ _
      · rw [if_neg (nI_ne0 (by omega) (by omega)), if_neg (nI_ne0 (by omega) (by omega))]
        by_cases h1 : b = 1
        · subst h1
          rw [if_pos (show nI 1 = 1 from rfl), if_pos (show nI 1 = 1 from rfl), C_givenBack hT hO hW hk, bs, M_givenOf hR hO hP hk, bs]
          exact ask_full _ _ _ _ _ _
        · rw [if_neg (nI_n1 h1 (by omega)), if_neg (nI_n1 h1 (by omega)), C_paidToClaimByAll hT hO hk, bs, M_paidTo hR hO hP hk, bs]
          exact ask_full _ _ _ _ _ _
end ASKE
