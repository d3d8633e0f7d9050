/-! ===== level 2: both sides asked ===== -/
def Core (T : TS) (to : Int32) (s : Fin 82 → Int32) : Prop := (to = 0 ∧ t_ships T = 0 ∧ t_claims T = 0) ∨ (to ≠ 0 ∧ ∃ N K c, RowT T N K c ∧ RowR s N K c ∧ OKc N K c)
def xv (S : XS) : (Fin 600 → Int32) × TS × (Fin 10 → TS) × (Fin 2 → TS) × (Fin 2 → Int32) × Int32 × Int32 × Int32 × Int32 := (d_bytes (x_reader S), x_now S, x_earlier S, x_images S, x_kept S, x_tapeLength S, x_undoable S, x_nextAct S, x_latestFault S)
def mv (M : MS) : Int32 × Int32 × (Fin 82 → Int32) × (Fin 820 → Int32) × Int32 × (Fin 164 → Int32) × (Fin 2 → Int32) × (Fin 4 → Int64) × (Fin 600 → Int32) × Int32 := (m_fault M, m_told M, m_s M, m_past M, m_acts M, m_kept M, m_isKept M, m_names M, m_tape M, m_taped M)
def xT (S : XS) (t : Int32) : XS := xs_latestPlace (xs_latestTrouble S t) (-1)
def mB (M : MS) : MS := ms_place (ms_trouble (ms_thrown M 0) 0) (-1)
def mR (M : MS) (t : Int32) : MS := ms_trouble (mB M) t
theorem xT_now (S : XS) (t : Int32) : x_now (xT S t) = x_now S := rfl
theorem xT_v (S : XS) (t : Int32) : xv (xT S t) = xv S := rfl
theorem xK_v (S : XS) (t : Int32) (R : RS) : xv (xs_reckoning (xT S t) R) = xv S := rfl
theorem xK_k (S : XS) (R : RS) : x_reckoning (xs_reckoning S R) = R := rfl
theorem xK_n (S : XS) (R : RS) : x_now (xs_reckoning S R) = x_now S := rfl
theorem mB_s (M : MS) : m_s (mB M) = m_s M := rfl
theorem mB_told (M : MS) : m_told (mB M) = m_told M := rfl
theorem mB_tr (M : MS) : m_trouble (mB M) = 0 := rfl
theorem mB_v (M : MS) : mv (mB M) = mv M := rfl
theorem mR_v (M : MS) (t : Int32) : mv (mR M t) = mv M := rfl
theorem sc_v (M : MS) (w : Fin 82 → Int32) (o u : Fin 16 → Int64) (p : Fin 64 → Int64) : mv (sc (mB M) w o u p) = mv M := rfl
/-- both sides answer alike, keep what lasts, and say the same trouble -/
def AskR {α : Type} (S : XS) (M : MS) (f : Option (α × XS)) (g : Option (α × MS)) : Prop := ∃ a S2 M2, f = some (a, S2) ∧ g = some (a, M2) ∧ xv S2 = xv S ∧ mv M2 = mv M ∧ x_latestTrouble S2 = m_trouble M2 ∧ x_latestPlace S2 = m_place M2
section REL
variable {α : Type} {S : XS} {M : MS}
theorem ask_no (v : α) (t : Int32) : AskR S M (some (v, xT S t)) (some (v, mR M t)) := ⟨v, _, _, rfl, rfl, xT_v S t, mR_v M t, rfl, rfl⟩
theorem ask_yes (v : α) : AskR S M (some (v, xT S 0)) (some (v, mB M)) := ⟨v, _, _, rfl, rfl, xT_v S 0, mB_v M, rfl, rfl⟩
theorem ask_half (v : α) (R : RS) : AskR S M (some (v, xs_reckoning (xT S 0) R)) (some (v, mB M)) := ⟨v, _, _, rfl, rfl, xK_v S 0 R, mB_v M, rfl, rfl⟩
theorem ask_full (v : α) (R : RS) (w : Fin 82 → Int32) (o u : Fin 16 → Int64) (p : Fin 64 → Int64) : AskR S M (some (v, xs_reckoning (xT S 0) R)) (some (v, sc (mB M) w o u p)) := ⟨v, _, _, rfl, rfl, xK_v S 0 R, sc_v M w o u p, rfl, rfl⟩
theorem X_refuse (S : XS) (t : Int32) : F_X4_refuse S t = some (0, xT S t) := by
  unfold F_X4_refuse xT
  rw [nm_eq, nm_eq]
theorem X_none (S : XS) (t : Int32) : F_X4_none S t = some (-1, xT S t) := by
  unfold F_X4_none
  rw [X_refuse, bs]
theorem X_nothing (S : XS) (t : Int32) : F_X4_nothing S t = some (-1000000000000, xT S t) := by
  unfold F_X4_nothing
  rw [X_refuse, bs]
theorem X_accept (S : XS) : F_X4_accept S = some (xT S 0) := by
  unfold F_X4_accept xT
  rw [nm_eq, nm_eq]
theorem rk_of (R : RS) (T : TS) : rs_told R T = rk T (r_weight R) (r_backs R) (r_owed R) (r_paid R) (r_lacked R) (r_weights R) := rfl
theorem xK_two (S : XS) (a b : RS) : xs_reckoning (xs_reckoning S a) b = xs_reckoning S b := rfl
theorem X_reckon {N K : Nat} {c : Nat → Nat} (hR : RowT (x_now S) N K c) (hO : OKc N K c) : ∃ wt lk, WtOK N c wt ∧ F_X4_reckon S = some (xs_reckoning S (stl (x_now S) wt lk N K c)) := by
  obtain ⟨wt, lk, hW, e⟩ := C_settle (wt := r_weight (x_reckoning S)) (bk := r_backs (x_reckoning S)) hR hO (r_lacked (x_reckoning S)) (r_owed (x_reckoning S)) (r_paid (x_reckoning S)) (r_weights (x_reckoning S))
  refine ⟨wt, lk, hW, ?_⟩
  unfold F_X4_reckon F_X1_take
  rw [C_copy, bs, nm_eq, bs, nm_eq, xK_k, rk_of, e, bs, nm_eq, xK_two]
  rfl
theorem M_begins (M : MS) : F_X5_begins M = some (mB M) := by
  unfold F_X5_begins mB
  rw [nm_eq, nm_eq, nm_eq]
theorem M_ref0 {M2 : MS} (h : m_trouble M2 = 0) (t : Int32) : F_X5_refuse M2 0 t = some (0, M2) := by
  unfold F_X5_refuse J_X5_refuse_16
  rw [if_pos h, if_pos rfl, if_pos h]
theorem mR_tr (M : MS) (t : Int32) : m_trouble (ms_trouble M t) = t := rfl
theorem M_ref1 {M2 : MS} (h : m_trouble M2 = 0) {t : Int32} (ht : ¬ t = 0) : F_X5_refuse M2 1 t = some (1, ms_trouble M2 t) := by
  unfold F_X5_refuse J_X5_refuse_16
  rw [if_pos h, if_neg (by decide), nm_eq, mR_tr, if_neg ht]
theorem W_cases (x : Int32) {b : Nat} (hb : b < 2 ^ 31) : F_X4_within x 0 (nI b) = some 0 ∨ (F_X4_within x 0 (nI b) = some 1 ∧ ∃ a, a ≤ b ∧ x = nI a) := by
  unfold F_X4_within
  by_cases h : x < 0
  · rw [if_pos h]
    exact Or.inl rfl
  · obtain ⟨j, hj, rfl⟩ := nI_of h
    rw [if_neg h]
    by_cases h2 : nI b < nI j
    · rw [if_pos h2]
      exact Or.inl rfl
    · rw [if_neg h2]
      refine Or.inr ⟨rfl, j, ?_, rfl⟩
      rw [nI_ltI hb hj] at h2
      omega
theorem M_in (x y : Int32) : F_X5_in x.toInt64 0 y.toInt64 = F_X4_within x 0 y := by
  have e1 : lg_cmp x.toInt64 0 < 0 ↔ x < 0 := (lg_cmp_lt _ _).trans (Int32.toInt64_lt (a := x) (b := 0))
  have e2 : 0 < lg_cmp x.toInt64 y.toInt64 ↔ y < x := (lg_cmp_gt _ _).trans (Int32.toInt64_lt (a := y) (b := x))
  unfold F_X5_in F_X4_within
  by_cases h : x < 0
  · rw [if_pos (e1.mpr h), if_pos h]
  · rw [if_neg (fun q => h (e1.mp q)), if_neg h]
    by_cases h2 : y < x
    · rw [if_pos (e2.mpr h2), if_pos h2]
    · rw [if_neg (fun q => h2 (e2.mp q)), if_neg h2]
theorem W_none (x : Int32) : F_X4_within x 0 ((0 : Int32) - 1) = some 0 := by
  unfold F_X4_within
  by_cases h : x < 0
  · rw [if_pos h]
  · rw [if_neg h, if_pos]
    rw [Int32.lt_iff_toInt_lt] at h ⊢
    have h1 : ((0 : Int32) - 1).toInt = -1 := by decide
    have h2 : (0 : Int32).toInt = 0 := by decide
    omega
theorem nI_less {N : Nat} (h : 0 < N) : nI N - 1 = nI (N - 1) := by
  obtain ⟨n, rfl⟩ : ∃ n, N = n + 1 := ⟨N - 1, by omega⟩
  exact nI_pred n
theorem A_ship (h : Core (x_now S) (m_told M) (m_s M)) (x : Int32) : (F_X4_hasShip S x = some 0 ∧ F_X5_isShip (mB M) x = some 0) ∨ (∃ N K c a, RowT (x_now S) N K c ∧ RowR (m_s M) N K c ∧ OKc N K c ∧ a < N ∧ x = nI a ∧ F_X4_hasShip S x = some 1 ∧ F_X5_isShip (mB M) x = some 1) := by
  unfold F_X4_hasShip F_X5_isShip
  rw [mB_told, mB_s]
  rcases h with ⟨h0, h1, h2⟩ | ⟨h0, N, K, c, hT, hR, hO⟩
  · rw [h1, W_none, bs, if_pos h0]
    exact Or.inl ⟨rfl, rfl⟩
  · have hN := hO.1
    rw [hT.1, if_neg h0, R0 hR, bs, M_in, nI_less (by omega)]
    rcases W_cases x (b := N - 1) (by omega) with e | ⟨e, a, ha, rfl⟩
    · rw [e, bs, bs, if_pos rfl]
      exact Or.inl ⟨rfl, rfl⟩
    · rw [e, bs, bs, if_neg (by decide)]
      exact Or.inr ⟨N, K, c, a, hT, hR, hO, by omega, rfl, rfl, rfl⟩
theorem A_claim (h : Core (x_now S) (m_told M) (m_s M)) (x : Int32) : (F_X4_hasClaim S x = some 0 ∧ F_X5_isClaim (mB M) x = some 0) ∨ (∃ N K c k, RowT (x_now S) N K c ∧ RowR (m_s M) N K c ∧ OKc N K c ∧ k < K ∧ x = nI k ∧ F_X4_hasClaim S x = some 1 ∧ F_X5_isClaim (mB M) x = some 1) := by
  unfold F_X4_hasClaim F_X5_isClaim
  rw [mB_told, mB_s]
  rcases h with ⟨h0, h1, h2⟩ | ⟨h0, N, K, c, hT, hR, hO⟩
  · rw [h2, W_none, bs, if_pos h0]
    exact Or.inl ⟨rfl, rfl⟩
  · have hN := hO.1
    rw [hT.2.1, if_neg h0, R1 hR, bs, M_in]
    by_cases hK : K = 0
    · subst hK
      rw [show nI 0 = 0 from rfl, W_none, bs, bs, if_pos rfl]
      exact Or.inl ⟨rfl, rfl⟩
    · rw [nI_less (by omega)]
      rcases W_cases x (b := K - 1) (by omega) with e | ⟨e, a, ha, rfl⟩
      · rw [e, bs, bs, if_pos rfl]
        exact Or.inl ⟨rfl, rfl⟩
      · rw [e, bs, bs, if_neg (by decide)]
        exact Or.inr ⟨N, K, c, a, hT, hR, hO, by omega, rfl, rfl, rfl⟩
theorem A_net (h : Core (x_now S) (m_told M) (m_s M)) (x : Int32) : AskR S M (F_X4_net S x) (F_X5_net M x) := by
  unfold F_X4_net F_X5_net
  rw [M_begins, bs]
  rcases A_ship h x with ⟨e1, e2⟩ | ⟨N, K, c, a, hT, hR, hO, ha, rfl, e1, e2⟩
  · rw [e1, e2, bs, bs, if_pos rfl, if_pos rfl, X_nothing, bs]
    unfold J_X5_net_18
    rw [M_ref1 (mB_tr M) (by decide), bs, if_neg (show ¬ (1 : Int32) = 0 by decide)]
    exact ask_no _ _
  · rw [e1, e2, bs, bs, if_neg (by decide), if_neg (by decide), X_accept, bs]
    obtain ⟨wt, lk, hW, er⟩ := X_reckon (S := xT S 0) hT hO
    rw [er, bs, xK_k, xT_now, C_netOf hT hO hW ha, bs]
    unfold J_X5_net_18
    rw [M_ref0 (mB_tr M), bs, if_pos rfl]
    obtain ⟨o2, u2, p2, el, hP⟩ := M_laysPaid (M := mB M) (w := m_w (mB M)) (o := m_owed (mB M)) (u := m_out (mB M)) (p := m_paid (mB M)) (N := N) (K := K) (c := c) hR hO
    rw [sc_self] at el
    rw [el, bs, M_netOf (w := m_s (mB M)) hR hO hP ha, bs]
    exact ask_full _ _ _ _ _ _
end REL
