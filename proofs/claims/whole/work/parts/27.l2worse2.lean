/-! ===== level 2: worse, the ask ===== -/
section WORSE2
variable {S : XS} {M : MS}
theorem A_worse (h : Core (x_now S) (m_told M) (m_s M)) (x y z : Int32) : AskR S M (F_X4_worse S x y z) (F_X5_worse M x y z) := by
  have no : AskR S M (J_X4_worse_16 S) (J_X5_worse_21 (mB M) x y z) := by
    unfold J_X4_worse_16 J_X5_worse_21 J_X5_worse_26
    rw [X_none, bs, M_ref1 (mB_tr M) (by decide), bs, if_neg (show ¬ (1 : Int32) = 0 by decide)]
    exact ask_no _ _
  unfold F_X4_worse F_X5_worse
  rw [M_begins, bs]
  rcases A_ship h x with ⟨e1, e2⟩ | ⟨N, K, c, i, hT, hR, hO, hi, rfl, e1, e2⟩
  · rw [e1, e2, bs, bs, if_pos rfl, if_pos rfl]
    exact no
  · rw [e1, e2, bs, bs, if_neg n10, if_neg n10]
    rcases A_ship h y with ⟨e3, e4⟩ | ⟨N2, K2, c2, j, hT2, hR2, hO2, hj, rfl, e3, e4⟩
    · rw [e3, e4, bs, bs, if_pos rfl, if_pos rfl]
      exact no
    · obtain ⟨rfl, rfl⟩ := sameN hT hT2 hO hO2
      have hN := hO.1
      rw [e3, e4, bs, bs, if_neg n10, if_neg n10]
      unfold J_X5_worse_26
      rw [M_ref0 (mB_tr M), bs, if_pos rfl, show F_X5_in z.toInt64 (-1000000000) 1000000000 = F_X4_within z (-1000000000) 1000000000 from M_in2 z (-1000000000) 1000000000]
      unfold J_X5_worse_53
      rcases W_any z (-1000000000) 1000000000 with e | e
      · rw [e, bs, bs, if_pos rfl, if_pos rfl, X_none, bs, M_ref1 (mB_tr M) (by decide), bs, if_neg (show ¬ (1 : Int32) = 0 by decide)]
        exact ask_no _ _
      · rw [e, bs, bs, if_neg n10, if_neg n10, M_ref0 (mB_tr M), bs, if_pos rfl]
        unfold J_X5_worse_71
        by_cases hab : nI i = nI j
        · rw [if_pos hab, if_pos hab, X_none, bs, M_ref1 (mB_tr M) (by decide), bs, if_neg (show ¬ (1 : Int32) = 0 by decide)]
          exact ask_no _ _
        · have hij : i ≠ j := fun q => hab (by rw [q])
          have s1 := (hO.2.2.1 i hi).2.2.1
          have s2 := (hO.2.2.1 j hj).2.2.1
          have hTx : RowT (x_now (xT S 0)) N2 K2 c := hT
          have m1 : F_X5_ofShip (m_s M) (nI i) 1 = some (nI (c (10 + 6 * i + 1))) := Sh hR hO hi (w := 1) (by decide)
          have m2 : F_X5_ofShip (m_s M) (nI j) 1 = some (nI (c (10 + 6 * j + 1))) := Sh hR hO hj (w := 1) (by decide)
          obtain ⟨v, R2, w2, o2, u2, p2, f1, f2⟩ := worse_loop (S := S) (M := M) hT hR hO hi hj hij z (s := c (10 + 6 * i + 1) + c (10 + 6 * j + 1)) rfl (by omega) (c (10 + 6 * i + 1) + c (10 + 6 * j + 1) + 1) 0 FU (by omega) (by rw [FU_eq]; omega) (x_reckoning (xT S 0)) (m_w (mB M)) (m_owed (mB M)) (m_out (mB M)) (m_paid (mB M))
          rw [xK_self] at f1
          rw [sc_self] at f2
          have f1' : lo2 (B_X4_worse_65 (nI i) (nI j) z (nI (c (10 + 6 * i + 1) + c (10 + 6 * j + 1))) (fun S9 => some ((-2 : Int32), S9))) FU (xT S 0) 0 = _ := f1
          have f2' : lo2 (B_X5_worse_104 (nI i) (nI j) z (nI (c (10 + 6 * i + 1) + c (10 + 6 * j + 1))) (fun S12 => some ((-2 : Int32), S12))) FU (mB M) 0 = _ := f2
          rw [if_neg hab, if_neg hab, X_accept, bs, X_tenths hTx hO hi hj, bs, f1', M_ref0 (mB_tr M), bs, if_pos rfl, mB_s, m1, bs, m2, bs, nm_eq, nI_add, f2']
          exact ask_full _ _ _ _ _ _
end WORSE2
