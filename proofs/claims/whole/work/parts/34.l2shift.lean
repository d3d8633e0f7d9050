/-! ===== level 2: shift, become, law ===== -/
section ACTS
variable {S : XS} {M : MS}
theorem ix6 (k w : Nat) : (10 : Int32) + (6 : Int32) * nI k + nI w = nI (10 + 6 * k + w) := by
  rw [show (10 : Int32) = nI 10 from rfl, show (6 : Int32) = nI 6 from rfl, pk_mul, nI_add, nI_add]
theorem C_shw {T : TS} {N K : Nat} {c : Nat → Nat} (hT : RowT T N K c) (hN : N ≤ 4) {a w : Nat} (ha : a < N) (hw : w < 6) : F_X2_ofShip T (nI a) (nI w) = some (nI (c (10 + 6 * a + w))) := by
  unfold F_X2_ofShip
  rw [show (6 : Int32) = nI 6 from rfl, pk_mul, nI_add, show a * 6 + w = 6 * a + w by omega, rI _ (by omega) (by omega), hT.2.2.2.1 a ha w hw]
  rfl
theorem C_set (T : TS) {i w : Nat} (hi : i < 4) (hw : w < 6) (v : Int32) : F_X2_setShip T (nI i) (nI w) v = some (ts_shipRows T (upI (t_shipRows T) (6 * i + w) v)) := by
  unfold F_X2_setShip
  rw [show (6 : Int32) = nI 6 from rfl, pk_mul, nI_add, show i * 6 + w = 6 * i + w by omega, wI _ (by omega) (by omega), bs, nm_eq]
theorem M_shw {r : Fin 82 → Int32} {N K : Nat} {c : Nat → Nat} (hR : RowR r N K c) (hN : N ≤ 4) {a w : Nat} (ha : a < N) (hw : w < 6) : rdI r (nI (10 + 6 * a + w)) = some (nI (c (10 + 6 * a + w))) := by
  rw [rI _ (by omega) (by omega), hR.2.2.2.1 a ha w hw]
theorem case_ship {T : TS} {r : Fin 82 → Int32} {mn : Fin 4 → Int64} (h : CaseR T r mn) {N K : Nat} {c c2 : Nat → Nat} (hT : RowT T N K c) (hO : OKc N K c) (f : Fin 24 → Int32) {r2 : Fin 82 → Int32} (hT2 : RowT (ts_shipRows T f) N K c2) (hR2 : RowR r2 N K c2) (hO2 : OKc N K c2) : CaseR (ts_shipRows T f) r2 mn :=
  ⟨N, K, c2, hT2, hR2, hO2, case_names h hT hO⟩
theorem A_shift (hr : Rel S M) (x y z : Int32) : StepR (F_X4_shift S x y z) (F_X5_shift M x y z) := by
  have h := hr.core
  have no : StepR (J_X4_shift_16 S) (J_X5_shift_21 (mB M) x y z) := by
    refine AskR.step (S := S) (M := M) ?_ hr
    unfold J_X4_shift_16 J_X5_shift_21 J_X5_shift_26
    rw [X_none, bs, M_ref1 (mB_tr M) (by decide), bs, if_neg n10]
    exact ask_no _ _
  have no5 : StepR (J_X4_shift_56 S) (J_X5_shift_77 (mB M) x y z) := by
    refine AskR.step (S := S) (M := M) ?_ hr
    unfold J_X4_shift_56 J_X5_shift_77 J_X5_shift_82
    rw [X_none, bs, M_ref1 (mB_tr M) (by decide), bs, if_neg n10]
    exact ask_no _ _
  unfold F_X4_shift F_X5_shift
  rw [M_begins, bs]
  rcases A_ship h x with ⟨e1, e2⟩ | ⟨N, K, c, i, hT, hR, hO, hi, rfl, e1, e2⟩
  · rw [e1, e2, bs, bs, if_pos rfl, if_pos rfl]
    exact no
  · rw [e1, e2, bs, bs, if_neg n10, if_neg n10]
    rcases A_ship h y with ⟨e3, e4⟩ | ⟨N2, K2, c2, j, hT2, hR2, hO2, hj, rfl, e3, e4⟩
    · rw [e3, e4, bs, bs, if_pos rfl, if_pos rfl]
      exact no
    · obtain ⟨rfl, rfl⟩ := sameN hT hT2 hO hO2
      have hN := hO.1
      rw [e3, e4, bs, bs, if_neg n10, if_neg n10]
      unfold J_X5_shift_26
      rw [M_ref0 (mB_tr M), bs, if_pos rfl, show F_X5_in z.toInt64 1 10 = F_X4_within z 1 10 from M_in2 z 1 10]
      rcases W_casesL z (l := 1) (b := 10) (by omega) (by omega) with e | ⟨e, a, ha1, ha2, rfl⟩
      · have e' : F_X4_within z 1 10 = some 0 := e
        refine AskR.step (S := S) (M := M) ?_ hr
        unfold J_X5_shift_51
        rw [e', bs, bs, if_pos rfl, if_pos rfl, X_none, bs, M_ref1 (mB_tr M) (by decide), bs, if_neg n10]
        exact ask_no _ _
      · have e' : F_X4_within (nI a) 1 10 = some 1 := e
        unfold J_X5_shift_51
        rw [e', bs, bs, if_neg n10, if_neg n10, M_ref0 (mB_tr M), bs, if_pos rfl]
        by_cases hab : nI i = nI j
        · rw [if_pos hab, if_pos hab]
          exact no5
        · have hij : i ≠ j := fun q => hab (by rw [q])
          have m1 : F_X5_ofShip (m_s M) (nI i) 1 = some (nI (c (10 + 6 * i + 1))) := Sh hR hO hi (w := 1) (by decide)
          rw [if_neg hab, if_neg hab, X_of1 hT hN.2.1 hi, bs, mB_s, m1, bs]
          have s1 := (hO.2.2.1 i hi).2.2.1
          have s2 := (hO.2.2.1 j hj).2.2.1
          by_cases hle : nI a ≤ nI (c (10 + 6 * i + 1))
          · rw [if_pos hle, if_pos hle]
            rw [nI_leI (by omega) (by omega)] at hle
            obtain ⟨h0, hc⟩ := core_case hr hT hO
            obtain ⟨E, u, n, p, b, eb, ek, hrel⟩ := act_step hr hc h0
            have hTd : RowT (x_now S) N2 K2 (cD c (fun k => c (10 + 6 * k + 1))) := by rw [cD_self]; exact hT
            have hRd : RowR (m_s M) N2 K2 (cD c (fun k => c (10 + 6 * k + 1))) := by rw [cD_self]; exact hR
            have hT1 := cD_T hTd hN.2.1 hi (c (10 + 6 * i + 1) - a)
            have hR1 := cD_R hRd hN.2.1 hN.2.2 hi (c (10 + 6 * i + 1) - a)
            have hTt := cD_T hT1 hN.2.1 hj (c (10 + 6 * j + 1) + a)
            have hRt := cD_R hR1 hN.2.1 hN.2.2 hj (c (10 + 6 * j + 1) + a)
            have hsum : sN (fun k => if k = j then c (10 + 6 * j + 1) + a else if k = i then c (10 + 6 * i + 1) - a else c (10 + 6 * k + 1)) N2 = 10 := by
              have q1 := sN_up (fun k => c (10 + 6 * k + 1)) i (c (10 + 6 * i + 1) - a) N2
              have q2 := sN_up (fun k => if k = i then c (10 + 6 * i + 1) - a else c (10 + 6 * k + 1)) j (c (10 + 6 * j + 1) + a) N2
              rw [if_pos hi, if_pos hi, hO.2.2.2.1] at q1
              rw [if_pos hj, if_pos hj, if_neg (fun q => hij q.symm)] at q2
              omega
            have hOt := cD_OK hO hsum
            have x2 := X_of1 hT1 hN.2.1 hj
            rw [cD_ten (by omega), if_neg (fun q => hij q.symm)] at x2
            have x3 := X_of1 hTt hN.2.1 hj
            rw [cD_ten (by omega), if_pos rfl] at x3
            have y1 := M_shw hR hN.2.1 hi (w := 1) (by omega)
            have y2 := M_shw hR1 hN.2.1 hj (w := 1) (by omega)
            rw [cD_ten (by omega), if_neg (fun q => hij q.symm)] at y2
            have y3 : F_X5_ofShip _ (nI j) 1 = some _ := Sh hRt hOt hj (w := 1) (by decide)
            rw [cD_ten (by omega), if_pos rfl] at y3
            have ix1 : ∀ k : Nat, (10 : Int32) + (6 : Int32) * nI k + (1 : Int32) = nI (10 + 6 * k + 1) := fun k => ix6 k 1
            unfold J_X5_shift_82
            rw [eb, bs, xa_t, X_of1 hT hN.2.1 hi, bs, nI_subI hle, X_setShip _ (by omega), bs, nm_eq, xa_st, xa_t, x2, bs, nI_add, X_setShip _ (by omega), bs, nm_eq, xa_st, xa_t, x3, bs]
            rw [M_ref0 (mB_tr M), bs, if_pos rfl, ek, bs, nm_eq, ma_s, ix1, y1, bs, nI_subI hle, wI _ (by omega) (by omega), bs, nm_eq, ma_ss, nm_eq, ma_s, ix1, y2, bs, nI_add, wI _ (by omega) (by omega), bs, nm_eq, ma_ss, ma_s, y3, bs]
            exact ⟨_, _, _, rfl, rfl, hrel _ _ ⟨N2, K2, _, hTt, hRt, hOt, case_names hc hT hO⟩⟩
          · rw [if_neg hle, if_neg hle]
            exact no5
theorem sAf_at {k w : Nat} {v : Int32} (hw : w < (sA_v k).length) (hn : (sA_v k).length ≤ 1000) (h : (sA_v k).getD w 0 = v) : rdI (sAf k) (nI w) = some v := by
  rw [rI _ hw hn]
  simp only [exI, dif_pos hw, sAf]
  rw [h]
theorem M_isWithin (x v : Int32) : F_X5_isWithin x v = F_X4_within v (if x = 0 then 1 else 0) (if x = 0 then 99999 else if x = 2 ∨ x = 3 then 9999999 else 1) := by
  have hz : ∀ l h : Int32, (F_X4_within v l h).bind (fun q => zz q <| some q) = F_X4_within v l h := by
    intro l h
    rcases W_any v l h with e | e
    · rw [e]; rfl
    · rw [e]; rfl
  have i1 : F_X5_in v.toInt64 1 99999 = F_X4_within v 1 99999 := M_in2 v 1 99999
  have i2 : F_X5_in v.toInt64 0 9999999 = F_X4_within v 0 9999999 := M_in2 v 0 9999999
  have i3 : F_X5_in v.toInt64 0 1 = F_X4_within v 0 1 := M_in2 v 0 1
  unfold F_X5_isWithin J_X5_isWithin_42 J_X5_isWithin_52
  rw [i1, i2, i3, hz, hz, hz]
  by_cases h0 : x = 0
  · rw [if_pos h0, if_pos h0, if_pos h0]
  · rw [if_neg h0, if_neg h0, if_neg h0]
    by_cases h1 : x = 1
    · rw [if_pos h1, if_neg (by subst h1; decide)]
    · rw [if_neg h1]
      by_cases h2 : x = 2
      · rw [if_pos h2, if_pos (Or.inl h2)]
      · rw [if_neg h2]
        by_cases h3 : x = 3
        · rw [if_pos h3, if_pos (Or.inr h3)]
        · rw [if_neg h3, if_neg (by rintro (q | q) <;> contradiction)]
theorem A_become (hr : Rel S M) (x y z : Int32) : StepR (F_X4_become S x y z) (F_X5_become M x y z) := by
  have h := hr.core
  have no : StepR (J_X4_become_22 S) (J_X5_become_30 (mB M) x y z) := by
    refine AskR.step (S := S) (M := M) ?_ hr
    unfold J_X4_become_22 J_X5_become_30 J_X5_become_35
    rw [X_none, bs, M_ref1 (mB_tr M) (by decide), bs, if_neg n10]
    exact ask_no _ _
  unfold F_X4_become F_X5_become
  rw [M_begins, bs]
  rcases A_ship h x with ⟨e1, e2⟩ | ⟨N, K, c, i, hT, hR, hO, hi, rfl, e1, e2⟩
  · rw [e1, e2, bs, bs, if_pos rfl, if_pos rfl]
    exact no
  · have hN := hO.1
    rw [e1, e2, bs, bs, if_neg n10, if_neg n10, show F_X5_in y.toInt64 0 5 = F_X4_within y 0 5 from M_in2 y 0 5]
    rcases W_cases y (b := 5) (by omega) with e | ⟨e, w, hw, rfl⟩
    · have e' : F_X4_within y 0 5 = some 0 := e
      rw [e', bs, bs, if_pos rfl, if_pos rfl]
      exact no
    · have e' : F_X4_within (nI w) 0 5 = some 1 := e
      rw [e', bs, bs, if_neg n10, if_neg n10]
      by_cases h1 : nI w = 1
      · rw [if_pos h1, if_pos h1]
        exact no
      · rw [if_neg h1, if_neg h1]
        unfold J_X5_become_35
        rw [M_ref0 (mB_tr M), bs, if_pos rfl, M_isWithin]
        have hw1 : w ≠ 1 := fun q => h1 (by rw [q]; rfl)
        have hb : rdI (sAf 0) (nI w) = some (if nI w = 0 then 1 else 0) ∧ rdI (sAf 1) (nI w) = some (if nI w = 0 then 99999 else if nI w = 2 ∨ nI w = 3 then 9999999 else 1) := by
          rcases (show w = 0 ∨ w = 2 ∨ w = 3 ∨ w = 4 ∨ w = 5 by omega) with rfl | rfl | rfl | rfl | rfl
          · exact ⟨sAf_at (by decide) (by decide) (by decide), sAf_at (by decide) (by decide) (by decide)⟩
          · exact ⟨sAf_at (by decide) (by decide) (by decide), sAf_at (by decide) (by decide) (by decide)⟩
          · exact ⟨sAf_at (by decide) (by decide) (by decide), sAf_at (by decide) (by decide) (by decide)⟩
          · exact ⟨sAf_at (by decide) (by decide) (by decide), sAf_at (by decide) (by decide) (by decide)⟩
          · exact ⟨sAf_at (by decide) (by decide) (by decide), sAf_at (by decide) (by decide) (by decide)⟩
        rw [hb.1, bs, hb.2, bs]
        have hv : (F_X4_within z (if nI w = 0 then 1 else 0) (if nI w = 0 then 99999 else if nI w = 2 ∨ nI w = 3 then 9999999 else 1) = some 0) ∨ (F_X4_within z (if nI w = 0 then 1 else 0) (if nI w = 0 then 99999 else if nI w = 2 ∨ nI w = 3 then 9999999 else 1) = some 1 ∧ ∃ v, shB w v ∧ z = nI v) := by
          unfold shB
          rcases (show w = 0 ∨ w = 2 ∨ w = 3 ∨ w = 4 ∨ w = 5 by omega) with rfl | rfl | rfl | rfl | rfl
          · rcases W_casesL z (l := 1) (b := 99999) (by omega) (by omega) with q | ⟨q, v, q1, q2, q3⟩
            · exact Or.inl q
            · exact Or.inr ⟨q, v, by omega, q3⟩
          · rcases W_casesL z (l := 0) (b := 9999999) (by omega) (by omega) with q | ⟨q, v, q1, q2, q3⟩
            · exact Or.inl q
            · exact Or.inr ⟨q, v, by omega, q3⟩
          · rcases W_casesL z (l := 0) (b := 9999999) (by omega) (by omega) with q | ⟨q, v, q1, q2, q3⟩
            · exact Or.inl q
            · exact Or.inr ⟨q, v, by omega, q3⟩
          · rcases W_casesL z (l := 0) (b := 1) (by omega) (by omega) with q | ⟨q, v, q1, q2, q3⟩
            · exact Or.inl q
            · exact Or.inr ⟨q, v, by omega, q3⟩
          · rcases W_casesL z (l := 0) (b := 1) (by omega) (by omega) with q | ⟨q, v, q1, q2, q3⟩
            · exact Or.inl q
            · exact Or.inr ⟨q, v, by omega, q3⟩
        rcases hv with e3 | ⟨e3, v, hvb, rfl⟩
        · refine AskR.step (S := S) (M := M) ?_ hr
          unfold J_X5_become_56
          rw [e3, bs, bs, if_pos rfl, if_pos rfl, X_none, bs, M_ref1 (mB_tr M) (by decide), bs, if_neg n10]
          exact ask_no _ _
        · obtain ⟨h0, hc⟩ := core_case hr hT hO
          obtain ⟨E, u, n, p, b, eb, ek, hrel⟩ := act_step hr hc h0
          have hT2 := cU_Ts (v := v) hT hN.2.1 hi (show w < 6 by omega)
          have hR2 := cU_R (v := v) hR hN.2.1 hN.2.2 (y := 10 + 6 * i + w) (by omega) (by omega)
          have hO2 := cU_OKs hO hi hvb
          unfold J_X5_become_56
          rw [e3, bs, bs, if_neg n10, if_neg n10, eb, bs, xa_t, C_shw hT hN.2.1 hi (by omega), bs, C_set _ (by omega) (by omega), bs, nm_eq, xa_st]
          rw [M_ref0 (mB_tr M), bs, if_pos rfl, ek, bs, ma_s, Sh hR hO hi (by omega), bs, ix6, wI _ (by omega) (by omega), bs, nm_eq, ma_ss]
          exact ⟨_, _, _, rfl, rfl, hrel _ _ ⟨N, K, _, hT2, hR2, hO2, case_names hc hT hO⟩⟩
theorem A_law (hr : Rel S M) (x y : Int32) : StepR (F_X4_law S x y) (F_X5_law M x y) := by
  have h := hr.core
  have no : StepR (J_X4_law_17 S) (J_X5_law_26 (mB M) x y) := by
    refine AskR.step (S := S) (M := M) ?_ hr
    unfold J_X4_law_17 J_X5_law_26 J_X5_law_31
    rw [X_none, bs, M_ref1 (mB_tr M) (by decide), bs, if_neg n10]
    exact ask_no _ _
  have no5 : StepR (J_X4_law_86 S) (J_X5_law_120 (mB M) x y 1) := by
    refine AskR.step (S := S) (M := M) ?_ hr
    unfold J_X4_law_86 J_X5_law_120
    rw [X_none, bs, M_ref1 (mB_tr M) (by decide), bs, if_neg n10]
    exact ask_no _ _
  unfold F_X4_law F_X5_law
  rw [M_begins, bs]
  rcases A_text h with ⟨e1, e2⟩ | ⟨N, K, c, hT, hR, hO, e1, e2⟩
  · rw [e1, bs, if_pos rfl, if_pos e2]
    exact no
  · have hN := hO.1
    have hl := hO.2.1
    rw [e1, bs, if_neg n10, if_neg e2, show F_X5_in x.toInt64 2 9 = F_X4_within x 2 9 from M_in2 x 2 9]
    rcases W_casesL x (l := 2) (b := 9) (by omega) (by omega) with e | ⟨e, w, hw1, hw2, rfl⟩
    · have e' : F_X4_within x 2 9 = some 0 := e
      rw [e', bs, bs, if_pos rfl, if_pos rfl]
      exact no
    · have e' : F_X4_within (nI w) 2 9 = some 1 := e
      rw [e', bs, bs, if_neg n10, if_neg n10]
      have hb : ∃ l b : Nat, l < 2 ^ 31 ∧ b < 2 ^ 31 ∧ rdI (sAf 2) (nI w) = some (nI l) ∧ rdI (sAf 3) (nI w) = some (nI b) ∧ F_X5_lowOf (nI w) = some (nI l) ∧ F_X5_highOf (nI w) = some (nI b) ∧ (∀ v, l ≤ v → v ≤ b → (w = 8 → v ≤ c 9) → (w = 9 → c 8 ≤ v) → lwB c w v) := by
        unfold lwB
        rcases (show w = 2 ∨ w = 3 ∨ w = 4 ∨ w = 5 ∨ w = 6 ∨ w = 7 ∨ w = 8 ∨ w = 9 by omega) with rfl | rfl | rfl | rfl | rfl | rfl | rfl | rfl
        · exact ⟨0, 1, by omega, by omega, sAf_at (by decide) (by decide) (by decide), sAf_at (by decide) (by decide) (by decide), rfl, rfl, fun v _ _ _ _ => by omega⟩
        · exact ⟨0, 1, by omega, by omega, sAf_at (by decide) (by decide) (by decide), sAf_at (by decide) (by decide) (by decide), rfl, rfl, fun v _ _ _ _ => by omega⟩
        · exact ⟨0, 1, by omega, by omega, sAf_at (by decide) (by decide) (by decide), sAf_at (by decide) (by decide) (by decide), rfl, rfl, fun v _ _ _ _ => by omega⟩
        · exact ⟨0, 99999, by omega, by omega, sAf_at (by decide) (by decide) (by decide), sAf_at (by decide) (by decide) (by decide), rfl, rfl, fun v _ _ _ _ => by omega⟩
        · exact ⟨0, 99999, by omega, by omega, sAf_at (by decide) (by decide) (by decide), sAf_at (by decide) (by decide) (by decide), rfl, rfl, fun v _ _ _ _ => by omega⟩
        · exact ⟨1, 99999, by omega, by omega, sAf_at (by decide) (by decide) (by decide), sAf_at (by decide) (by decide) (by decide), rfl, rfl, fun v _ _ _ _ => by omega⟩
        · exact ⟨0, 999, by omega, by omega, sAf_at (by decide) (by decide) (by decide), sAf_at (by decide) (by decide) (by decide), rfl, rfl, fun v _ _ _ _ => by omega⟩
        · exact ⟨0, 999, by omega, by omega, sAf_at (by decide) (by decide) (by decide), sAf_at (by decide) (by decide) (by decide), rfl, rfl, fun v _ _ _ _ => by omega⟩
      obtain ⟨l, b, hl1, hb1, r1, r2, f1, f2, hlw⟩ := hb
      unfold J_X5_law_31
      rw [r1, bs, r2, bs, M_ref0 (mB_tr M), bs, if_pos rfl, f1, bs, f2, bs, M_in2]
      have g8 : rdI (m_s M) 8 = some (nI (c 8)) := Rw hR (w := 8) (by decide) (by decide)
      have g9 : rdI (m_s M) 9 = some (nI (c 9)) := Rw hR (w := 9) (by decide) (by decide)
      have t8 : rdI (t_laws (x_now S)) 8 = some (nI (c 8)) := C_law hT (w := 8) (by decide) (by decide)
      have t9 : rdI (t_laws (x_now S)) 9 = some (nI (c 9)) := C_law hT (w := 9) (by decide) (by decide)
      rcases W_casesL y hl1 hb1 with e3 | ⟨e3, v, hv1, hv2, rfl⟩
      · refine AskR.step (S := S) (M := M) ?_ hr
        unfold J_X5_law_62
        rw [e3, bs, bs, if_pos rfl, if_pos rfl, X_none, bs, M_ref1 (mB_tr M) (by decide), bs, if_neg n10]
        exact ask_no _ _
      · have yes : (w = 8 → v ≤ c 9) → (w = 9 → c 8 ≤ v) → StepR (J_X4_law_92 S (nI w) (nI v)) (J_X5_law_120 (mB M) (nI w) (nI v) 0) := by
          intro q8 q9
          obtain ⟨h0, hc⟩ := core_case hr hT hO
          obtain ⟨E, u, n, p, b, eb, ek, hrel⟩ := act_step hr hc h0
          have hT2 := cU_Tl (v := v) hT (show w < 10 by omega)
          have hR2 := cU_R (v := v) hR hN.2.1 hN.2.2 (y := w) (by omega) (by omega)
          have hO2 := cU_OKl hO (hlw v hv1 hv2 q8 q9)
          unfold J_X4_law_92 J_X5_law_120
          rw [eb, bs, xa_t, C_law hT (by omega) (by omega), bs, wI _ (by omega) (by omega), bs, nm_eq, xa_st]
          rw [M_ref0 (mB_tr M), bs, if_pos rfl, ek, bs, ma_s, Rw hR (by omega) (by omega), bs, wI _ (by omega) (by omega), bs, nm_eq, ma_ss]
          exact ⟨_, _, _, rfl, rfl, hrel _ _ ⟨N, K, _, hT2, hR2, hO2, case_names hc hT hO⟩⟩
        unfold J_X5_law_62
        rw [e3, bs, bs, if_neg n10, if_neg n10, M_ref0 (mB_tr M), bs, if_pos rfl, mB_s, g8, bs]
        by_cases w8 : w = 8
        · have d8 : nI w = 8 := by rw [w8]; rfl
          have d9 : ¬ nI w = 9 := by rw [w8]; decide
          rw [if_pos d8, if_pos d8, t9, bs]
          unfold J_X5_law_88 J_X4_law_66 J_X5_law_106
          rw [if_neg d9, if_neg d9, mB_s, g9, bs]
          by_cases q : c 9 < v
          · rw [if_pos ((nI_ltI (by omega) (by omega)).mpr q), if_neg (by rw [nI_leI (by omega) (by omega)]; omega)]
            exact no5
          · rw [if_neg (by rw [nI_ltI (by omega) (by omega)]; omega), if_pos (by rw [nI_leI (by omega) (by omega)]; omega)]
            exact yes (fun _ => by omega) (fun _ => by omega)
        · have d8 : ¬ nI w = 8 := fun q => w8 ((nI_eq (b := 8) (by omega) (by omega)).mp q)
          rw [if_neg d8, if_neg d8]
          unfold J_X5_law_88 J_X4_law_66 J_X5_law_106
          by_cases w9 : w = 9
          · have d9 : nI w = 9 := by rw [w9]; rfl
            rw [if_pos d9, if_pos d9, t8, bs]
            by_cases q : c 8 ≤ v
            · rw [if_pos ((nI_leI (by omega) (by omega)).mpr q), if_pos ((nI_leI (by omega) (by omega)).mpr q)]
              exact yes (fun _ => by omega) (fun _ => by omega)
            · rw [if_neg (by rw [nI_leI (by omega) (by omega)]; omega), if_neg (by rw [nI_leI (by omega) (by omega)]; omega)]
              exact no5
          · have d9 : ¬ nI w = 9 := fun q => w9 ((nI_eq (b := 9) (by omega) (by omega)).mp q)
            rw [if_neg d9, if_neg d9, mB_s, g9, bs, if_pos (by rw [nI_leI (by omega) (by omega)]; omega)]
            exact yes (fun _ => by omega) (fun _ => by omega)
end ACTS
