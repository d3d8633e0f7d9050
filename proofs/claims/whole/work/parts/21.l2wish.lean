/-! ===== level 2: wished, gap ===== -/
section WISH
variable {S : XS} {M : MS} {N K : Nat} {c : Nat → Nat}
theorem M_netWith2 (hR : RowR (m_s M) N K c) (hO : OKc N K c) {a d : Nat} (ha : a < N) (hd : d < 8) (w : Fin 82 → Int32) (o u : Fin 16 → Int64) (p : Fin 64 → Int64) : ∃ w2 o2 u2 p2, F_X5_netWith (sc (mB M) w o u p) (nI a) (nI d) = some (ntL N K (cL c d) a, sc (mB M) w2 o2 u2 p2) := by
  have el := M_lays (M := mB M) (w := w) (o := o) (u := u) (p := p)
  have hR3 : RowR (rL3 (m_s M) d) N K (cL c d) := cL_R hR d
  obtain ⟨o2, u2, p2, e, hP⟩ := M_paysAll (M := mB M) (p := p) hR3 (cL_OK hO d) o u
  refine ⟨rL3 (m_s M) d, o2, u2, p2, ?_⟩
  have st : ∀ (j : Nat) (_ : j < 3) (v : Nat) (_ : (nI d >>> (nI j &&& 31)) &&& (1 : Int32) = nI v) (k9 : MS → Option (Int64 × MS)) rc (w : Fin 82 → Int32) (o u : Fin 16 → Int64) (p : Fin 64 → Int64), B_X5_netWith_6 (nI a) (nI d) k9 rc (sc (mB M) w o u p) (nI j) = rc (sc (mB M) (upI w (2 + j) (nI v)) o u p) (nI (j + 1)) := by
    intro j hj v hv k9 rc w o u p
    unfold B_X5_netWith_6
    rw [show (3 : Int32) = nI 3 from rfl, if_neg (by rw [nI_leI (by omega) (by omega)]; omega), hv, sc_w, show (2 : Int32) = nI 2 from rfl, nI_add, wI w (by omega) (by omega), bs, nm_eq, sc_sw, nm_eq, nI_1]
  unfold F_X5_netWith
  rw [el, bs, FU_eq]
  refine ((lo2_s _ 999 _ _).trans (st 0 (by omega) (d % 2) (bit0' hd) _ _ _ _ _ _)).trans ?_
  refine ((lo2_s _ 998 _ _).trans (st 1 (by omega) (d / 2 % 2) (bit1 hd) _ _ _ _ _ _)).trans ?_
  refine ((lo2_s _ 997 _ _).trans (st 2 (by omega) (d / 4 % 2) (bit2 hd) _ _ _ _ _ _)).trans ?_
  refine (lo2_s _ 996 _ _).trans ?_
  have key : ∀ (k9 : MS → Option (Int64 × MS)) rc S2, B_X5_netWith_6 (nI a) (nI d) k9 rc S2 (nI (2 + 1)) = k9 S2 := by
    intro k9 rc S2
    unfold B_X5_netWith_6
    rw [if_pos (by decide)]
  rw [key]
  have e' : F_X5_paysAll (sc (mB M) (upI (upI (upI (m_s (mB M)) (2 + 0) (nI (d % 2))) (2 + 1) (nI (d / 2 % 2))) (2 + 2) (nI (d / 4 % 2))) o u p) = some (sc (mB M) (rL3 (m_s M) d) o2 u2 p2) := e
  rw [e', bs, M_netOf hR3 (cL_OK hO d) hP ha, bs]
theorem X_netUnder2 (hT : RowT (x_now S) N K c) (hO : OKc N K c) {a d : Nat} (ha : a < N) (hd : d < 8) (R : RS) : ∃ R2, F_X4_netUnder (xs_reckoning S R) (nI a) (nI d) = some (ntL N K (cL c d) a, xs_reckoning S R2) := by
  have hT2 : RowT (x_now (xs_reckoning S R)) N K c := hT
  obtain ⟨R2, e⟩ := X_netUnder hT2 hO ha hd
  exact ⟨R2, e.trans (by rw [xK_two])⟩
/-- the two loops over the laws keep step -/
theorem wish_loop (hT : RowT (x_now S) N K c) (hR : RowR (m_s M) N K c) (hO : OKc N K c) {a : Nat} (ha : a < N) : ∀ (n j fu : Nat), j + n = 8 → n < fu → ∀ (R : RS) (w : Fin 82 → Int32) (o u : Fin 16 → Int64) (p : Fin 64 → Int64) (x : Int32) (v : Int64), ∃ z R2 w2 o2 u2 p2,
    lo4 (B_X4_wished_30 (nI a) (fun S6 z7 => some (z7, S6))) fu (xs_reckoning (xT S 0) R) x v (nI j) = some (z, xs_reckoning (xT S 0) R2) ∧
    lo4 (B_X5_wished_39 (nI a) (fun S7 z8 => some (z8, S7))) fu (sc (mB M) w o u p) x v (nI j) = some (z, sc (mB M) w2 o2 u2 p2) := by
  intro n
  induction n with
  | zero =>
    intro j fu hj hf R w o u p x v
    obtain ⟨fu, rfl⟩ : ∃ f, fu = f + 1 := ⟨fu - 1, by omega⟩
    have hj : j = 8 := by omega
    subst hj
    have k1 : ∀ (k9 : XS → Int32 → Option (Int32 × XS)) rc S2, B_X4_wished_30 (nI a) k9 rc S2 x v (nI 8) = k9 S2 x := by
      intro k9 rc S2
      unfold B_X4_wished_30
      rw [if_pos (by decide)]
    have k2 : ∀ (k9 : MS → Int32 → Option (Int32 × MS)) rc S2, B_X5_wished_39 (nI a) k9 rc S2 x v (nI 8) = k9 S2 x := by
      intro k9 rc S2
      unfold B_X5_wished_39
      rw [if_pos (by decide)]
    exact ⟨x, R, w, o, u, p, (lo4_s _ _ _ _ _ _).trans (k1 _ _ _), (lo4_s _ _ _ _ _ _).trans (k2 _ _ _)⟩
  | succ n ih =>
    intro j fu hj hf R w o u p x v
    obtain ⟨fu, rfl⟩ : ∃ f, fu = f + 1 := ⟨fu - 1, by omega⟩
    have hTx : RowT (x_now (xT S 0)) N K c := hT
    obtain ⟨R2, e1⟩ := X_netUnder2 (S := xT S 0) hTx hO ha (show j < 8 by omega) R
    obtain ⟨w2, o2, u2, p2, e2⟩ := M_netWith2 (M := M) hR hO ha (show j < 8 by omega) w o u p
    have h8 : ¬ (8 : Int32) ≤ nI j := by
      rw [show (8 : Int32) = nI 8 from rfl, nI_leI (by omega) (by omega)]
      omega
    by_cases hc : lg_cmp (ntL N K (cL c j) a) v ≤ 0
    · obtain ⟨z, R3, w3, o3, u3, p3, f1, f2⟩ := ih (j + 1) fu (by omega) (by omega) R2 w2 o2 u2 p2 x v
      have k1 : ∀ (k9 : XS → Int32 → Option (Int32 × XS)) rc, B_X4_wished_30 (nI a) k9 rc (xs_reckoning (xT S 0) R) x v (nI j) = rc (xs_reckoning (xT S 0) R2) x v (nI (j + 1)) := by
        intro k9 rc
        unfold B_X4_wished_30 J_X4_wished_59
        rw [if_neg h8, e1, bs, if_pos hc, nm_eq, nI_1]
      have k2 : ∀ (k9 : MS → Int32 → Option (Int32 × MS)) rc, B_X5_wished_39 (nI a) k9 rc (sc (mB M) w o u p) x v (nI j) = rc (sc (mB M) w2 o2 u2 p2) x v (nI (j + 1)) := by
        intro k9 rc
        unfold B_X5_wished_39 J_X5_wished_68
        rw [if_neg h8, e2, bs, if_pos hc, nm_eq, nI_1]
      exact ⟨z, R3, w3, o3, u3, p3, ((lo4_s _ _ _ _ _ _).trans (k1 _ _)).trans f1, ((lo4_s _ _ _ _ _ _).trans (k2 _ _)).trans f2⟩
    · obtain ⟨z, R3, w3, o3, u3, p3, f1, f2⟩ := ih (j + 1) fu (by omega) (by omega) R2 w2 o2 u2 p2 (nI j) (ntL N K (cL c j) a)
      have k1 : ∀ (k9 : XS → Int32 → Option (Int32 × XS)) rc, B_X4_wished_30 (nI a) k9 rc (xs_reckoning (xT S 0) R) x v (nI j) = rc (xs_reckoning (xT S 0) R2) (nI j) (ntL N K (cL c j) a) (nI (j + 1)) := by
        intro k9 rc
        unfold B_X4_wished_30 J_X4_wished_59
        rw [if_neg h8, e1, bs, if_neg hc, nm_eq, nI_1]
      have k2 : ∀ (k9 : MS → Int32 → Option (Int32 × MS)) rc, B_X5_wished_39 (nI a) k9 rc (sc (mB M) w o u p) x v (nI j) = rc (sc (mB M) w2 o2 u2 p2) (nI j) (ntL N K (cL c j) a) (nI (j + 1)) := by
        intro k9 rc
        unfold B_X5_wished_39 J_X5_wished_68
        rw [if_neg h8, e2, bs, if_neg hc, nm_eq, nI_1]
      exact ⟨z, R3, w3, o3, u3, p3, ((lo4_s _ _ _ _ _ _).trans (k1 _ _)).trans f1, ((lo4_s _ _ _ _ _ _).trans (k2 _ _)).trans f2⟩
theorem A_wished (h : Core (x_now S) (m_told M) (m_s M)) (x : Int32) : AskR S M (F_X4_wished S x) (F_X5_wished M x) := by
  unfold F_X4_wished F_X5_wished J_X5_wished_18
  rw [M_begins, bs]
  rcases A_ship h x with ⟨e1, e2⟩ | ⟨N, K, c, a, hT, hR, hO, ha, rfl, e1, e2⟩
  · rw [e1, e2, bs, bs, if_pos rfl, if_pos rfl, X_none, bs, M_ref1 (mB_tr M) (by decide), bs, if_neg (show ¬ (1 : Int32) = 0 by decide)]
    exact ask_no _ _
  · have hTx : RowT (x_now (xT S 0)) N K c := hT
    obtain ⟨R, en⟩ := X_netUnder (S := xT S 0) hTx hO ha (show 0 < 8 by omega)
    obtain ⟨w, o, u, p, em⟩ := M_netWith (M := M) hR hO ha (show 0 < 8 by omega)
    have en' : F_X4_netUnder (xT S 0) (nI a) 0 = _ := en
    have em' : F_X5_netWith (mB M) (nI a) 0 = _ := em
    obtain ⟨z, R2, w2, o2, u2, p2, f1, f2⟩ := wish_loop (S := S) (M := M) hT hR hO ha 7 1 FU (by omega) (by rw [FU_eq]; omega) R w o u p 0 (ntL N K (cL c 0) a)
    have f1' : lo4 (B_X4_wished_30 (nI a) (fun S6 z7 => some (z7, S6))) FU (xs_reckoning (xT S 0) R) 0 (ntL N K (cL c 0) a) 1 = _ := f1
    have f2' : lo4 (B_X5_wished_39 (nI a) (fun S7 z8 => some (z8, S7))) FU (sc (mB M) w o u p) 0 (ntL N K (cL c 0) a) 1 = _ := f2
    rw [e1, e2, bs, bs, if_neg n10, if_neg n10, X_accept, bs, en', bs, f1', M_ref0 (mB_tr M), bs, if_pos rfl, em', bs, f2']
    exact ask_full _ _ _ _ _ _
theorem A_gap (h : Core (x_now S) (m_told M) (m_s M)) (x : Int32) : AskR S M (F_X4_gap S x) (F_X5_gap M x) := by
  unfold F_X4_gap F_X5_gap J_X5_gap_18
  rw [M_begins, bs]
  rcases A_ship h x with ⟨e1, e2⟩ | ⟨N, K, c, a, hT, hR, hO, ha, rfl, e1, e2⟩
  · rw [e1, e2, bs, bs, if_pos rfl, if_pos rfl, X_nothing, bs, M_ref1 (mB_tr M) (by decide), bs, if_neg (show ¬ (1 : Int32) = 0 by decide)]
    exact ask_no _ _
  · have hl := hO.2.1
    have hTx : RowT (x_now (xT S 0)) N K c := hT
    have t2 : rdI (t_laws (x_now (xT S 0))) 2 = some (nI (c 2)) := C_law hTx (w := 2) (by decide) (by decide)
    have t3 : rdI (t_laws (x_now (xT S 0))) 3 = some (nI (c 3)) := C_law hTx (w := 3) (by decide) (by decide)
    have r2 : rdI (m_s M) 2 = some (nI (c 2)) := by
      rw [show (2 : Int32) = nI 2 from rfl, rI _ (by omega) (by omega), hR.2.2.1 2 (by omega) (by omega)]
    have r3 : rdI (m_s M) 3 = some (nI (c 3)) := by
      rw [show (3 : Int32) = nI 3 from rfl, rI _ (by omega) (by omega), hR.2.2.1 3 (by omega) (by omega)]
    have hv : nI (c 2) + (2 : Int32) * nI (c 3) = nI (c 2 + 2 * c 3) := by
      rw [show (2 : Int32) = nI 2 from rfl, pk_mul, nI_add]
    have hv4 : nI (c 2 + 2 * c 3) + (4 : Int32) = nI (c 2 + 2 * c 3 + 4) := nI_add _ 4
    obtain ⟨R, en⟩ := X_netUnder (S := xT S 0) hTx hO ha (show c 2 + 2 * c 3 + 4 < 8 by omega)
    obtain ⟨R2, en2⟩ := X_netUnder2 (S := xT S 0) hTx hO ha (show c 2 + 2 * c 3 < 8 by omega) R
    obtain ⟨w, o, u, p, em⟩ := M_netWith (M := M) hR hO ha (show c 2 + 2 * c 3 + 4 < 8 by omega)
    obtain ⟨w2, o2, u2, p2, em2⟩ := M_netWith2 (M := M) hR hO ha (show c 2 + 2 * c 3 < 8 by omega) w o u p
    rw [e1, e2, bs, bs, if_neg n10, if_neg n10, X_accept, bs, t2, bs, t3, bs, nm_eq, hv, hv4, en, bs, en2, bs, M_ref0 (mB_tr M), bs, if_pos rfl, mB_s, r2, bs, r3, bs, nm_eq, hv, hv4, em, bs, em2, bs]
    exact ask_full _ _ _ _ _ _
end WISH
