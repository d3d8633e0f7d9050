/-! ===== level 2: about ===== -/
section ABOUT
variable {S : XS} {M : MS}
theorem xT_u (S : XS) (t : Int32) : x_undoable (xT S t) = x_undoable S := rfl
theorem mB_a (M : MS) : m_acts (mB M) = m_acts M := rfl
theorem A_about (h : Core (x_now S) (m_told M) (m_s M)) (hu : x_undoable S = m_acts M) (x : Int32) : AskR S M (F_X4_about S x) (F_X5_about M x) := by
  have no : AskR S M (J_X4_about_17 S) (J_X5_about_24 (mB M) x) := by
    unfold J_X4_about_17 J_X5_about_24 J_X5_about_29
    rw [X_none, bs, M_ref1 (mB_tr M) (by decide), bs, if_neg (show ¬ (1 : Int32) = 0 by decide)]
    exact ask_no _ _
  unfold F_X4_about F_X5_about
  rw [M_begins, bs]
  rcases A_text h with ⟨e1, e2⟩ | ⟨N, K, c, hT, hR, hO, e1, e2⟩
  · rw [e1, bs, if_pos rfl, if_pos e2]
    exact no
  · rw [e1, bs, if_neg n10, if_neg e2, show F_X5_in x.toInt64 0 10 = F_X4_within x 0 10 from M_in x 10]
    rcases W_cases x (b := 10) (by omega) with e | ⟨e, b, hb, rfl⟩
    · have e' : F_X4_within x 0 10 = some 0 := e
      rw [e', bs, bs, if_pos rfl, if_pos rfl]
      exact no
    · have e' : F_X4_within (nI b) 0 10 = some 1 := e
      have hTx : RowT (x_now (xT S 0)) N K c := hT
      rw [e', bs, bs, if_neg n10, if_neg n10, X_accept, bs]
      unfold J_X5_about_29
      rw [M_ref0 (mB_tr M), bs, if_pos rfl, mB_s, show (10 : Int32) = nI 10 from rfl]
      by_cases h0 : b = 0
      · subst h0
        rw [if_pos nI_0, if_neg (fun q => absurd ((nI_eq (by omega) (by omega)).mp q) (by omega)), rI _ (by omega) (by omega), hR.1, bs, hTx.1]
        exact ask_yes _
      · rw [if_neg (nI_ne0 (by omega) (by omega))]
        by_cases h1 : b = 1
        · subst h1
          rw [if_pos (show nI 1 = 1 from rfl), if_neg (fun q => absurd ((nI_eq (by omega) (by omega)).mp q) (by omega)), rI _ (by omega) (by omega), hR.2.1, bs, hTx.2.1]
          exact ask_yes _
        · rw [if_neg (nI_n1 h1 (by omega))]
          by_cases h10 : b = 10
          · subst h10
            rw [if_pos rfl, if_pos rfl, xT_u, hu, mB_a]
            exact ask_yes _
          · have hne : ¬ nI b = nI 10 := fun q => h10 ((nI_eq (by omega) (by omega)).mp q)
            rw [if_neg hne, if_neg hne, C_law hTx (by omega) (by omega), bs, rI _ (by omega) (by omega), hR.2.2.1 b (by omega) (by omega), bs]
            exact ask_yes _
end ABOUT
