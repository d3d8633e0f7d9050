/-! ===== level 2: would, the model and the ask ===== -/
section WOULD2
variable {S : XS} {M : MS} {N K : Nat} {c : Nat → Nat}
theorem M_netShifted (hR : RowR (m_s M) N K c) (hO : OKc N K c) {i j a : Nat} (hi : i < N) (hj : j < N) (hij : i ≠ j) (ha : a ≤ c (10 + 6 * i + 1) + c (10 + 6 * j + 1)) (w : Fin 82 → Int32) (o u : Fin 16 → Int64) (p : Fin 64 → Int64) : ∃ w2 o2 u2 p2, F_X5_netShifted (sc (mB M) w o u p) (nI i) (nI j) (nI a) = some (ntL N K (cT c i j a (c (10 + 6 * i + 1) + c (10 + 6 * j + 1) - a)) i, sc (mB M) w2 o2 u2 p2) := by
  have hN := hO.1
  have hR2 := cT_R (a := a) (b := c (10 + 6 * i + 1) + c (10 + 6 * j + 1) - a) hR hN.2.1 hN.2.2 hi hj
  have hO2 := cT_OK (a := a) (b := c (10 + 6 * i + 1) + c (10 + 6 * j + 1) - a) hO hi hj hij (by omega)
  obtain ⟨o2, u2, p2, e, hP⟩ := M_paysAll (M := mB M) (p := p) hR2 hO2 o u
  refine ⟨upI (upI (m_s M) (10 + 6 * i + 1) (nI a)) (10 + 6 * j + 1) (nI (c (10 + 6 * i + 1) + c (10 + 6 * j + 1) - a)), o2, u2, p2, ?_⟩
  have e1 : F_X5_ofShip (m_s M) (nI i) 1 = some (nI (c (10 + 6 * i + 1))) := Sh hR hO hi (w := 1) (by decide)
  have e2 : F_X5_ofShip (m_s M) (nI j) 1 = some (nI (c (10 + 6 * j + 1))) := Sh hR hO hj (w := 1) (by decide)
  have ix : ∀ k : Nat, (10 : Int32) + (6 : Int32) * nI k + 1 = nI (10 + 6 * k + 1) := fun k => by
    rw [show (10 : Int32) = nI 10 from rfl, show (6 : Int32) = nI 6 from rfl, pk_mul, nI_add, nI_1]
  unfold F_X5_netShifted
  rw [M_lays, bs, sc_w, mB_s, e1, bs, e2, bs, nm_eq, nI_add, ix, wI _ (by omega) (by omega), bs, nm_eq, sc_sw, sc_w, ix, nI_subI ha, wI _ (by omega) (by omega), bs, nm_eq, sc_sw, e, bs, M_netOf hR2 hO2 hP hi, bs]
theorem A_would (h : Core (x_now S) (m_told M) (m_s M)) (x y z : Int32) : AskR S M (F_X4_would S x y z) (F_X5_would M x y z) := by
  have no : AskR S M (J_X4_would_16 S) (J_X5_would_21 (mB M) x y z) := by
    unfold J_X4_would_16 J_X5_would_21 J_X5_would_26 J_X5_would_51
    rw [X_nothing, bs, M_ref1 (mB_tr M) (by decide), bs, if_neg (show ¬ (1 : Int32) = 0 by decide)]
    exact ask_no _ _
  unfold F_X4_would F_X5_would
  rw [M_begins, bs]
  rcases A_ship h x with ⟨e1, e2⟩ | ⟨N, K, c, i, hT, hR, hO, hi, rfl, e1, e2⟩
  · rw [e1, e2, bs, bs, if_pos rfl, if_pos rfl]
    exact no
  · rw [e1, e2, bs, bs, if_neg n10, if_neg n10]
    rcases A_ship h y with ⟨e3, e4⟩ | ⟨N2, K2, c2, j, hT2, hR2, hO2, hj, rfl, e3, e4⟩
    · rw [e3, e4, bs, bs, if_pos rfl, if_pos rfl]
      exact no
    · obtain ⟨rfl, rfl⟩ := sameN hT hT2 hO hO2
      have hN := hO.1
      rw [e3, e4, bs, bs, if_neg n10, if_neg n10]
      unfold J_X5_would_26
      rw [M_ref0 (mB_tr M), bs, if_pos rfl]
      unfold J_X5_would_44 J_X5_would_51
      by_cases hab : nI i = nI j
      · rw [if_pos hab, if_pos hab, X_nothing, bs, M_ref1 (mB_tr M) (by decide), bs, if_neg (show ¬ (1 : Int32) = 0 by decide)]
        exact ask_no _ _
      · have hij : i ≠ j := fun q => hab (by rw [q])
        have s1 := (hO.2.2.1 i hi).2.2.1
        have s2 := (hO.2.2.1 j hj).2.2.1
        have m1 : F_X5_ofShip (m_s M) (nI i) 1 = some (nI (c (10 + 6 * i + 1))) := Sh hR hO hi (w := 1) (by decide)
        have m2 : F_X5_ofShip (m_s M) (nI j) 1 = some (nI (c (10 + 6 * j + 1))) := Sh hR hO hj (w := 1) (by decide)
        rw [if_neg hab, if_neg hab, X_tenths hT hO hi hj, bs, M_ref0 (mB_tr M), bs, if_pos rfl, mB_s, m1, bs, m2, bs, nI_add, M_in]
        unfold J_X5_would_90
        rcases W_cases z (b := c (10 + 6 * i + 1) + c (10 + 6 * j + 1)) (by omega) with e | ⟨e, a, ha, rfl⟩
        · rw [e, bs, bs, if_pos rfl, if_pos rfl, X_nothing, bs, M_ref1 (mB_tr M) (by decide), bs, if_neg (show ¬ (1 : Int32) = 0 by decide)]
          exact ask_no _ _
        · have hTx : RowT (x_now (xT S 0)) N2 K2 c := hT
          obtain ⟨R, en⟩ := X_netWithTenths (S := xT S 0) hTx hO hi hj hij ha
          obtain ⟨w2, o2, u2, p2, em⟩ := M_netShifted (M := M) hR hO hi hj hij ha (m_w (mB M)) (m_owed (mB M)) (m_out (mB M)) (m_paid (mB M))
          rw [sc_self] at em
          rw [e, bs, bs, if_neg n10, if_neg n10, X_accept, bs, en, bs, M_ref0 (mB_tr M), bs, if_pos rfl, em, bs]
          exact ask_full _ _ _ _ _ _
end WOULD2
