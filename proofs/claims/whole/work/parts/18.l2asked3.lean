/-! ===== level 2: between, cover ===== -/
section ASKF
variable {S : XS} {M : MS}
theorem A_between (h : Core (x_now S) (m_told M) (m_s M)) (x y z : Int32) : AskR S M (F_X4_between S x y z) (F_X5_between M x y z) := by
  have no : AskR S M (J_X4_between_25 S) (J_X5_between_33 (mB M) x y z) := by
    unfold J_X4_between_25 J_X5_between_33 J_X5_between_38 J_X5_between_63
    rw [X_none, bs, M_ref1 (mB_tr M) (by decide), bs, if_neg (show ¬ (1 : Int32) = 0 by decide), m1L]
    exact ask_no _ _
  unfold F_X4_between F_X5_between
  rw [M_begins, bs]
  rcases A_ship h x with ⟨e1, e2⟩ | ⟨N, K, c, a, hT, hR, hO, ha, rfl, e1, e2⟩
  · rw [e1, e2, bs, bs, if_pos rfl, if_pos rfl]
    exact no
  · rw [e1, e2, bs, bs, if_neg n10, if_neg n10]
    rcases A_ship h y with ⟨e3, e4⟩ | ⟨N2, K2, c2, b, hT2, hR2, hO2, hb, rfl, e3, e4⟩
    · rw [e3, e4, bs, bs, if_pos rfl, if_pos rfl]
      exact no
    · obtain ⟨rfl, rfl⟩ := sameN hT hT2 hO hO2
      have hN := hO.1
      rw [e3, e4, bs, bs, if_neg n10, if_neg n10, show F_X5_in z.toInt64 0 3 = F_X4_within z 0 3 from M_in z 3]
      rcases W_cases z (b := 3) (by omega) with e | ⟨e, d, hd, rfl⟩
      · have e' : F_X4_within z 0 3 = some 0 := e
        rw [e', bs, bs, if_pos rfl, if_pos rfl]
        exact no
      · have e' : F_X4_within (nI d) 0 3 = some 1 := e
        rw [e', bs, bs, if_neg n10, if_neg n10]
        unfold J_X5_between_38
        rw [M_ref0 (mB_tr M), bs, if_pos rfl]
        unfold J_X5_between_56 J_X5_between_63
        by_cases hab : nI a = nI b
        · rw [if_pos hab, if_pos hab, X_none, bs, M_ref1 (mB_tr M) (by decide), bs, if_neg (show ¬ (1 : Int32) = 0 by decide), m1L]
          exact ask_no _ _
        · rw [if_neg hab, if_neg hab, X_accept, bs]
          obtain ⟨wt, lk, hW, er⟩ := X_reckon (S := xT S 0) hT hO
          have hTx : RowT (x_now (xT S 0)) N2 K2 c := hT
          rw [er, bs, xK_k, M_ref0 (mB_tr M), bs, if_pos rfl, mB_s]
          by_cases h0 : d = 0
          · subst h0
            have e5 : F_X1_hullDebt (stl (x_now (xT S 0)) wt lk N2 K2 c) (nI a) (nI b) = _ := C_hullDebt hTx hO hW ha hb
            rw [if_pos nI_0, if_pos nI_0, e5, bs, M_hullOwed hR hO ha hb, bs]
            exact ask_half _ _
          · rw [if_neg (nI_ne0 (by omega) (by omega)), if_neg (nI_ne0 (by omega) (by omega))]
            by_cases h1 : d = 1
            · subst h1
              have e5 : F_X1_backTo (stl (x_now (xT S 0)) wt lk N2 K2 c) (nI a) (nI b) = _ := C_backTo hO ha hb _
              rw [if_pos (show nI 1 = 1 from rfl), if_pos (show nI 1 = 1 from rfl), e5, bs, M_backOwed hR hO ha hb, bs]
              exact ask_half _ _
            · rw [if_neg (nI_n1 h1 (by omega)), if_neg (nI_n1 h1 (by omega)), show (2 : Int32) = nI 2 from rfl]
              by_cases h2 : d = 2
              · subst h2
                have e5 : F_X1_crossDebt (stl (x_now (xT S 0)) wt lk N2 K2 c) (nI a) (nI b) = _ := C_crossDebt hTx hO hW ha hb
                rw [if_pos rfl, if_pos rfl, e5, bs, M_bothOwed hR hO ha hb, bs]
                exact ask_half _ _
              · rw [if_neg (fun q => h2 ((nI_eq (by omega) (by omega)).mp q)), if_neg (fun q => h2 ((nI_eq (by omega) (by omega)).mp q)), C_owedToShip hO ha hb, bs, M_lawOwed hR hO ha hb, bs]
                exact ask_half _ _
theorem M_coverLoop {M2 : MS} {w : Fin 82 → Int32} {o u : Fin 16 → Int64} {p : Fin 64 → Int64} {N K : Nat} {c : Nat → Nat} (hR : RowR (m_s M2) N K c) (hO : OKc N K c) (hP : PdOK N K c p) {i : Nat} (hi : i < N) (y : Int32) (k9 : MS → Int64 → Option (Int64 × MS)) :
    lo3 (B_X5_cover_52 (nI i) y k9) FU (sc M2 w o u p) (lN (sN (payN N K c i) 16)) 0 = k9 (sc M2 w o u p) (lN (sN (payN N K c i) 16 - ppN N K c i)) := by
  have hN := hO.1
  have htot := ppN_le hO i
  refine loopR (fun fu k (_ : Unit) => lo3 (B_X5_cover_52 (nI i) y k9) fu (sc M2 w o u p) (lN (sN (payN N K c i) 16 - sN (fun k => if c (34 + 4 * k) = 1 then payN N K c i (4 + k) else 0) k)) (nI k)) _ K (fun _ _ => True) ?_ ?_ K FU 0 () (by omega) (by rw [FU_eq]; omega) trivial
  · intro fu k _ hk _
    have hm := sN_mono (fun k => if c (34 + 4 * k) = 1 then payN N K c i (4 + k) else 0) (show k + 1 ≤ K by omega)
    rw [sN_s (fun k => if c (34 + 4 * k) = 1 then payN N K c i (4 + k) else 0) k] at hm
    have hm2 : sN (fun k => if c (34 + 4 * k) = 1 then payN N K c i (4 + k) else 0) k + (if c (34 + 4 * k) = 1 then payN N K c i (4 + k) else 0) ≤ sN (payN N K c i) 16 := Nat.le_trans hm htot
    have hc := hO.2.2.2.2 k hk
    have e0 : F_X5_ofClaim (m_s M2) (nI k) 0 = some (nI (c (34 + 4 * k))) := Cl hR hO hk (w := 0) (by decide) (by decide)
    have key : ∀ rc, B_X5_cover_52 (nI i) y k9 rc (sc M2 w o u p) (lN (sN (payN N K c i) 16 - sN (fun k => if c (34 + 4 * k) = 1 then payN N K c i (4 + k) else 0) k)) (nI k) = rc (sc M2 w o u p) (lN (sN (payN N K c i) 16 - sN (fun k => if c (34 + 4 * k) = 1 then payN N K c i (4 + k) else 0) (k + 1))) (nI (k + 1)) := by
      intro rc
      unfold B_X5_cover_52 J_X5_cover_96
      rw [sc_s, R1 hR, bs, if_neg (by rw [nI_leI (by omega) (by omega)]; omega), e0, bs, sN_s (fun k => if c (34 + 4 * k) = 1 then payN N K c i (4 + k) else 0) k]
      by_cases h : c (34 + 4 * k) = 1
      · rw [if_pos h] at hm2
        rw [if_pos (by rw [h]; rfl), sc_p, show (16 : Int32) = nI 16 from rfl, pk_mul, show (4 : Int32) = nI 4 from rfl, nI_add, nI_add, show 16 * i + 4 + k = 16 * i + (4 + k) by omega, rL p (by omega) (by omega), hP i hi (4 + k) (by omega), bs, nm_eq, nm_eq, nI_1, lN_sub (by omega), Nat.sub_sub, if_pos h]
      · rw [if_neg (nI_n1 h (by omega)), nm_eq, nm_eq, nI_1, if_neg h, show (0 : Int64) = lN 0 from rfl, lN_sub (by omega), Nat.sub_zero]
        rfl
    exact ⟨(), trivial, (lo3_s _ _ _ _ _).trans (key _)⟩
  · intro fu _ _
    have key : ∀ rc x, B_X5_cover_52 (nI i) y k9 rc (sc M2 w o u p) x (nI K) = k9 (sc M2 w o u p) x := by
      intro rc x
      unfold B_X5_cover_52
      rw [sc_s, R1 hR, bs, if_pos (by rw [nI_leI (by omega) (by omega)]; omega)]
    exact (lo3_s _ _ _ _ _).trans (key _ _)
theorem A_cover (h : Core (x_now S) (m_told M) (m_s M)) (x y : Int32) : AskR S M (F_X4_cover S x y) (F_X5_cover M x y) := by
  have no : AskR S M (J_X4_cover_17 S) (J_X5_cover_23 (mB M) x y) := by
    unfold J_X4_cover_17 J_X5_cover_23 J_X5_cover_28
    rw [X_none, bs, M_ref1 (mB_tr M) (by decide), bs, if_neg (show ¬ (1 : Int32) = 0 by decide), m1L]
    exact ask_no _ _
  unfold F_X4_cover F_X5_cover
  rw [M_begins, bs]
  rcases A_ship h x with ⟨e1, e2⟩ | ⟨N, K, c, a, hT, hR, hO, ha, rfl, e1, e2⟩
  · rw [e1, e2, bs, bs, if_pos rfl, if_pos rfl]
    exact no
  · rw [e1, e2, bs, bs, if_neg n10, if_neg n10, show F_X5_in y.toInt64 0 1 = F_X4_within y 0 1 from M_in y 1]
    rcases W_cases y (b := 1) (by omega) with e | ⟨e, b, hb, rfl⟩
    · have e' : F_X4_within y 0 1 = some 0 := e
      rw [e', bs, bs, if_pos rfl, if_pos rfl]
      exact no
    · have e' : F_X4_within (nI b) 0 1 = some 1 := e
      rw [e', bs, bs, if_neg n10, if_neg n10, X_accept, bs]
      obtain ⟨wt, lk, hW, er⟩ := X_reckon (S := xT S 0) hT hO
      obtain ⟨o2, u2, p2, el, hP⟩ := M_lp hR hO
      have hR2 : RowR (m_s (mB M)) N K c := hR
      have hTx : RowT (x_now (xT S 0)) N K c := hT
      have e3 : F_X5_ofShip (m_s (mB M)) (nI a) 3 = some (nI (c (10 + 6 * a + 3))) := Sh hR2 hO ha (w := 3) (by decide)
      have hb3 := (hO.2.2.1 a ha).2.2.2.2.1
      have h1 := ppN_le hO a
      have h2 := paid_le hO ha
      unfold J_X5_cover_28
      rw [er, bs, xK_k, C_coveredOf hTx hO ha, bs, M_ref0 (mB_tr M), bs, if_pos rfl, el, bs, M_paidBy hO hP ha, bs, M_coverLoop hR2 hO hP ha, show (3 : Int64) = lN 3 from rfl, lN_mul, show (4 : Int64) = lN 4 from rfl, dvL_N (by omega) (by omega) (by omega), bs, sc_s, e3, bs, nI_l (by omega), lN_mul, dvL_N (by omega) (by omega) (by omega), bs, M_lesser (by omega) (by omega), bs]
      by_cases h0 : b = 0
      · subst h0
        rw [if_pos nI_0, if_pos nI_0]
        exact ask_full _ _ _ _ _ _
      · rw [if_neg (nI_ne0 (by omega) (by omega)), if_neg (nI_ne0 (by omega) (by omega)), C_paidByShip hO ha, bs, M_paidBy hO hP ha, bs]
        exact ask_full _ _ _ _ _ _
end ASKF
