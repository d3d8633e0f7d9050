/-! ===== level 2: the asks one by one ===== -/
section ASKD
variable {S : XS} {M : MS}
theorem n10 : ¬ (1 : Int32) = 0 := by decide
theorem A_shipAsk (h : Core (x_now S) (m_told M) (m_s M)) (x y : Int32) : AskR S M (F_X4_ship S x y) (F_X5_ship M x y) := by
  have no : AskR S M (J_X4_ship_18 S) (J_X5_ship_25 (mB M) x y) := by
    unfold J_X4_ship_18 J_X5_ship_25 J_X5_ship_30
    rw [X_none, bs, M_ref1 (mB_tr M) (by decide), bs, if_neg (show ¬ (1 : Int32) = 0 by decide)]
    exact ask_no _ _
  unfold F_X4_ship F_X5_ship
  rw [M_begins, bs]
  rcases A_ship h x with ⟨e1, e2⟩ | ⟨N, K, c, a, hT, hR, hO, ha, rfl, e1, e2⟩
  · rw [e1, e2, bs, bs, if_pos rfl, if_pos rfl]
    exact no
  · rw [e1, e2, bs, bs, if_neg n10, if_neg n10, show (6 : Int64) = (6 : Int32).toInt64 from rfl, M_in, show (6 : Int32) = nI 6 from rfl]
    rcases W_cases y (b := 6) (by omega) with e | ⟨e, b, hb, rfl⟩
    · rw [e, bs, bs, if_pos rfl, if_pos rfl]
      exact no
    · rw [e, bs, bs, if_neg n10, if_neg n10, X_accept, bs, xT_now]
      unfold J_X5_ship_30
      rw [M_ref0 (mB_tr M), bs, if_pos rfl, mB_s, show (6 : Int32) = nI 6 from rfl]
      by_cases h6 : b = 6
      · subst h6
        rw [if_pos rfl, if_pos rfl, C_weightOf hT hO ha, bs, M_weightOf hR hO ha, bs]
        exact ask_yes _
      · rw [if_neg (fun q => h6 ((nI_eq (by omega) (by omega)).mp q)), if_neg (fun q => h6 ((nI_eq (by omega) (by omega)).mp q)), C_sh hT hO ha (by omega), bs, Sh hR hO ha (by omega), bs]
        exact ask_yes _
theorem A_claimAsk (h : Core (x_now S) (m_told M) (m_s M)) (x y : Int32) : AskR S M (F_X4_claim S x y) (F_X5_claim M x y) := by
  have no : AskR S M (J_X4_claim_17 S) (J_X5_claim_25 (mB M) x y) := by
    unfold J_X4_claim_17 J_X5_claim_25 J_X5_claim_30
    rw [X_none, bs, M_ref1 (mB_tr M) (by decide), bs, if_neg (show ¬ (1 : Int32) = 0 by decide)]
    exact ask_no _ _
  unfold F_X4_claim F_X5_claim
  rw [M_begins, bs]
  rcases A_claim h x with ⟨e1, e2⟩ | ⟨N, K, c, k, hT, hR, hO, hk, rfl, e1, e2⟩
  · rw [e1, e2, bs, bs, if_pos rfl, if_pos rfl]
    exact no
  · rw [e1, e2, bs, bs, if_neg n10, if_neg n10, show (4 : Int64) = (4 : Int32).toInt64 from rfl, M_in, show (4 : Int32) = nI 4 from rfl]
    rcases W_cases y (b := 4) (by omega) with e | ⟨e, b, hb, rfl⟩
    · rw [e, bs, bs, if_pos rfl, if_pos rfl]
      exact no
    · rw [e, bs, bs, if_neg n10, if_neg n10, X_accept, bs, xT_now]
      unfold J_X5_claim_30
      rw [M_ref0 (mB_tr M), bs, if_pos rfl, mB_s, show (4 : Int32) = nI 4 from rfl]
      by_cases h4 : b = 4
      · subst h4
        rw [if_pos rfl, if_pos rfl, C_roundOf hT hO hk, bs, M_roundOf hR hO hk, bs]
        exact ask_yes _
      · rw [if_neg (fun q => h4 ((nI_eq (by omega) (by omega)).mp q)), if_neg (fun q => h4 ((nI_eq (by omega) (by omega)).mp q))]
        by_cases h1 : b = 1
        · subst h1
          rw [show nI 1 = 1 from rfl, C_cl1 hT hO hk, bs, Cl1 hR hO hk, bs]
          exact ask_yes _
        · rw [C_cl hT hO hk (by omega) h1, bs, Cl hR hO hk (by omega) h1, bs]
          exact ask_yes _
theorem A_part (h : Core (x_now S) (m_told M) (m_s M)) (x y : Int32) : AskR S M (F_X4_part S x y) (F_X5_part M x y) := by
  unfold F_X4_part F_X5_part J_X5_part_18
  rw [M_begins, bs]
  rcases A_ship h x with ⟨e1, e2⟩ | ⟨N, K, c, a, hT, hR, hO, ha, rfl, e1, e2⟩
  · rw [e1, e2, bs, bs, if_pos rfl, if_pos rfl, X_none, bs, M_ref1 (mB_tr M) (by decide), bs, if_neg (show ¬ (1 : Int32) = 0 by decide)]
    exact ask_no _ _
  · rw [e1, e2, bs, bs, if_neg n10, if_neg n10, M_ref0 (mB_tr M), bs, if_pos rfl, show (9999999 : Int64) = (9999999 : Int32).toInt64 from rfl, M_in, show (9999999 : Int32) = nI 9999999 from rfl]
    unfold J_X5_part_43
    rcases W_cases y (b := 9999999) (by omega) with e | ⟨e, b, hb, rfl⟩
    · rw [e, bs, bs, if_pos rfl, if_pos rfl, X_none, bs, M_ref1 (mB_tr M) (by decide), bs, if_neg (show ¬ (1 : Int32) = 0 by decide)]
      exact ask_no _ _
    · rw [e, bs, bs, if_neg n10, if_neg n10, X_accept, bs]
      obtain ⟨wt, lk, hW, er⟩ := X_reckon (S := xT S 0) hT hO
      rw [er, bs, xK_k, nI_l (by omega)]
      unfold stl
      rw [C_partOf hO hW ha (by omega), bs, M_ref0 (mB_tr M), bs, if_pos rfl, mB_s, M_partOf hR hO ha (by omega), bs]
      exact ask_half _ _
theorem A_fund (h : Core (x_now S) (m_told M) (m_s M)) (x y : Int32) : AskR S M (F_X4_fund S x y) (F_X5_fund M x y) := by
  have no : AskR S M (J_X4_fund_17 S) (J_X5_fund_23 (mB M) x y) := by
    unfold J_X4_fund_17 J_X5_fund_23 J_X5_fund_28
    rw [X_none, bs, M_ref1 (mB_tr M) (by decide), bs, if_neg (show ¬ (1 : Int32) = 0 by decide)]
    exact ask_no _ _
  unfold F_X4_fund F_X5_fund
  rw [M_begins, bs]
  rcases A_ship h x with ⟨e1, e2⟩ | ⟨N, K, c, a, hT, hR, hO, ha, rfl, e1, e2⟩
  · rw [e1, e2, bs, bs, if_pos rfl, if_pos rfl]
    exact no
  · have c6 : F_X2_fundOf (x_now S) (nI a) 6 = some (lN (fdN c a 6)) := C_fundOf hT hO ha (w := 6) (Or.inr rfl)
    have c5 : F_X2_fundOf (x_now S) (nI a) 5 = some (lN (fdN c a 5)) := C_fundOf hT hO ha (w := 5) (Or.inl rfl)
    have m6 : F_X5_fundOf (m_s M) (nI a) 6 = some (lN (fdN c a 6)) := M_fundOf hR hO ha (w := 6) (Or.inr rfl)
    have m5 : F_X5_fundOf (m_s M) (nI a) 5 = some (lN (fdN c a 5)) := M_fundOf hR hO ha (w := 5) (Or.inl rfl)
    rw [e1, e2, bs, bs, if_neg n10, if_neg n10, show F_X5_in y.toInt64 0 1 = F_X4_within y 0 1 from M_in y 1]
    rcases W_cases y (b := 1) (by omega) with e | ⟨e, b, hb, rfl⟩
    · have e' : F_X4_within y 0 1 = some 0 := e
      rw [e', bs, bs, if_pos rfl, if_pos rfl]
      exact no
    · have e' : F_X4_within (nI b) 0 1 = some 1 := e
      rw [e', bs, bs, if_neg n10, if_neg n10, X_accept, bs]
      unfold J_X4_fund_42 J_X5_fund_28 J_X5_fund_52
      rw [M_ref0 (mB_tr M), bs, if_pos rfl, mB_s, xT_now]
      by_cases h0 : b = 0
      · subst h0
        rw [if_pos nI_0, if_pos nI_0, c6, bs, m6, bs]
        exact ask_yes _
      · rw [if_neg (nI_ne0 (by omega) (by omega)), if_neg (nI_ne0 (by omega) (by omega)), c5, bs, m5, bs]
        exact ask_yes _
end ASKD
