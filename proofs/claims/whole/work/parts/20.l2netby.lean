/-! ===== level 2: the net by other laws, on both sides ===== -/
section NETBY
variable {S : XS} {M : MS} {N K : Nat} {c : Nat → Nat}
theorem rs_two (R : RS) (a b : TS) : rs_told (rs_told R a) b = rs_told R b := rfl
theorem rs_t (R : RS) (a : TS) : r_told (rs_told R a) = a := rfl
theorem ts_two (T : TS) (a b : Fin 10 → Int32) : ts_laws (ts_laws T a) b = ts_laws T b := rfl
theorem ts_l (T : TS) (a : Fin 10 → Int32) : t_laws (ts_laws T a) = a := rfl
def tL (T : TS) (d : Nat) : TS := ts_laws T (upI (upI (upI (t_laws T) 2 (nI (d % 2))) 3 (nI (d / 2 % 2))) 4 (nI (d / 4 % 2)))
def rL3 (r : Fin 82 → Int32) (d : Nat) : Fin 82 → Int32 := upI (upI (upI r 2 (nI (d % 2))) 3 (nI (d / 2 % 2))) 4 (nI (d / 4 % 2))
theorem X_settle {T : TS} (R : RS) (hT : RowT T N K c) (hO : OKc N K c) : ∃ wt lk, WtOK N c wt ∧ F_X1_settle (rs_told R T) = some (stl T wt lk N K c) := by
  obtain ⟨wt, lk, hW, e⟩ := C_settle (wt := r_weight R) (bk := r_backs R) hT hO (r_lacked R) (r_owed R) (r_paid R) (r_weights R)
  exact ⟨wt, lk, hW, (congrArg F_X1_settle (rk_of R T)).trans e⟩
theorem X_netUnder (hT : RowT (x_now S) N K c) (hO : OKc N K c) {a d : Nat} (ha : a < N) (hd : d < 8) : ∃ R, F_X4_netUnder S (nI a) (nI d) = some (ntL N K (cL c d) a, xs_reckoning S R) := by
  obtain ⟨wt, lk, hW, e⟩ := X_settle (x_reckoning S) (cL_T hT d) (cL_OK hO d)
  refine ⟨stl (ts_laws (x_now S) (upI (upI (upI (t_laws (x_now S)) 2 (nI (d % 2))) 3 (nI (d / 2 % 2))) 4 (nI (d / 4 % 2)))) wt lk N K (cL c d), ?_⟩
  · unfold F_X4_netUnder F_X1_take
    rw [C_copy, bs, nm_eq, bs, nm_eq, xK_k, rs_t, bit0 hd, show (2 : Int32) = nI 2 from rfl, wI _ (by omega) (by omega), bs, nm_eq, xK_two, rs_two, xK_k, rs_t, ts_l, show (nI d >>> ((1 : Int32) &&& 31)) &&& (1 : Int32) = nI (d / 2 % 2) from bit1 hd, show (3 : Int32) = nI 3 from rfl, wI _ (by omega) (by omega), bs, nm_eq, xK_two, rs_two, ts_two, xK_k, rs_t, ts_l, show (nI d >>> (nI 2 &&& 31)) &&& (1 : Int32) = nI (d / 4 % 2) from bit2 hd, show (4 : Int32) = nI 4 from rfl, wI _ (by omega) (by omega), bs, nm_eq, xK_two, rs_two, ts_two, xK_k, e, bs, nm_eq, xK_two, xK_k, C_netOf (cL_T hT d) (cL_OK hO d) hW ha, bs]
theorem M_netWith (hR : RowR (m_s M) N K c) (hO : OKc N K c) {a d : Nat} (ha : a < N) (hd : d < 8) : ∃ w o u p, F_X5_netWith (mB M) (nI a) (nI d) = some (ntL N K (cL c d) a, sc (mB M) w o u p) := by
  have el := M_lays (M := mB M) (w := m_w (mB M)) (o := m_owed (mB M)) (u := m_out (mB M)) (p := m_paid (mB M))
  rw [sc_self] at el
  have hR3 : RowR (rL3 (m_s M) d) N K (cL c d) := cL_R hR d
  obtain ⟨o2, u2, p2, e, hP⟩ := M_paysAll (M := mB M) (p := m_paid (mB M)) hR3 (cL_OK hO d) (m_owed (mB M)) (m_out (mB M))
  refine ⟨rL3 (m_s M) d, o2, u2, p2, ?_⟩
  have st : ∀ (j : Nat) (_ : j < 3) (v : Nat) (_ : (nI d >>> (nI j &&& 31)) &&& (1 : Int32) = nI v) (k9 : MS → Option (Int64 × MS)) rc (w : Fin 82 → Int32) (o u : Fin 16 → Int64) (p : Fin 64 → Int64), B_X5_netWith_6 (nI a) (nI d) k9 rc (sc (mB M) w o u p) (nI j) = rc (sc (mB M) (upI w (2 + j) (nI v)) o u p) (nI (j + 1)) := by
    intro j hj v hv k9 rc w o u p
    unfold B_X5_netWith_6
    rw [show (3 : Int32) = nI 3 from rfl, if_neg (by rw [nI_leI (by omega) (by omega)]; omega), hv, sc_w, show (2 : Int32) = nI 2 from rfl, nI_add, wI w (by omega) (by omega), bs, nm_eq, sc_sw, nm_eq, nI_1]
  unfold F_X5_netWith
  rw [el, bs, FU_eq]
  refine ((lo2_s _ 999 _ _).trans (st 0 (by omega) (d % 2) (bit0' hd) _ _ _ _ _ _)).trans ?_
  refine ((lo2_s _ 998 _ _).trans (st 1 (by omega) (d / 2 % 2) (bit1 hd) _ _ _ _ _ _)).trans ?_
  refine ((lo2_s _ 997 _ _).trans (st 2 (by omega) (d / 4 % 2) (bit2 hd) _ _ _ _ _ _)).trans ?_
  refine (lo2_s _ 996 _ _).trans ?_
  have key : ∀ (k9 : MS → Option (Int64 × MS)) rc S2, B_X5_netWith_6 (nI a) (nI d) k9 rc S2 (nI (2 + 1)) = k9 S2 := by
    intro k9 rc S2
    unfold B_X5_netWith_6
    rw [if_pos (by decide)]
  rw [key]
  have e' : F_X5_paysAll (sc (mB M) (upI (upI (upI (m_s (mB M)) (2 + 0) (nI (d % 2))) (2 + 1) (nI (d / 2 % 2))) (2 + 2) (nI (d / 4 % 2))) (m_owed (mB M)) (m_out (mB M)) (m_paid (mB M))) = some (sc (mB M) (rL3 (m_s M) d) o2 u2 p2) := e
  rw [e', bs, M_netOf hR3 (cL_OK hO d) hP ha, bs]
theorem A_netBy (h : Core (x_now S) (m_told M) (m_s M)) (x y : Int32) : AskR S M (F_X4_netBy S x y) (F_X5_netBy M x y) := by
  unfold F_X4_netBy F_X5_netBy J_X5_netBy_18
  rw [M_begins, bs]
  rcases A_ship h x with ⟨e1, e2⟩ | ⟨N, K, c, a, hT, hR, hO, ha, rfl, e1, e2⟩
  · unfold J_X5_netBy_50
    rw [e1, e2, bs, bs, if_pos rfl, if_pos rfl, X_nothing, bs, M_ref1 (mB_tr M) (by decide), bs, if_neg (show ¬ (1 : Int32) = 0 by decide)]
    exact ask_no _ _
  · rw [e1, e2, bs, bs, if_neg n10, if_neg n10, M_ref0 (mB_tr M), bs, if_pos rfl, show F_X5_in y.toInt64 0 7 = F_X4_within y 0 7 from M_in y 7]
    unfold J_X5_netBy_43 J_X5_netBy_50
    rcases W_cases y (b := 7) (by omega) with e | ⟨e, d, hd, rfl⟩
    · have e' : F_X4_within y 0 7 = some 0 := e
      rw [e', bs, bs, if_pos rfl, if_pos rfl, X_nothing, bs, M_ref1 (mB_tr M) (by decide), bs, if_neg (show ¬ (1 : Int32) = 0 by decide)]
      exact ask_no _ _
    · have e' : F_X4_within (nI d) 0 7 = some 1 := e
      have hTx : RowT (x_now (xT S 0)) N K c := hT
      obtain ⟨R, en⟩ := X_netUnder (S := xT S 0) hTx hO ha (show d < 8 by omega)
      obtain ⟨w, o, u, p, em⟩ := M_netWith (M := M) hR hO ha (show d < 8 by omega)
      rw [e', bs, bs, if_neg n10, if_neg n10, X_accept, bs, en, bs, M_ref0 (mB_tr M), bs, if_pos rfl, em, bs]
      exact ask_full _ _ _ _ _ _
end NETBY
