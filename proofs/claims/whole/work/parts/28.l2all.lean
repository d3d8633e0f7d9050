/-! ===== level 2: all ===== -/
def acI (v : Int64) (f : Nat → Int64) : Nat → Int64
  | 0 => v
  | n + 1 => acI v f n + f n
theorem sumI {β σ : Type} (B : (σ → Int64 → Int32 → Option β) → σ → Int64 → Int32 → Option β) (S : σ) (k9 : σ → Int64 → Option β) (f : Nat → Int64) (n : Nat) (hn : n < 900) (h1 : ∀ rc x j, j < n → B rc S x (nI j) = rc S (x + f j) (nI (j + 1))) (h3 : ∀ rc x, B rc S x (nI n) = k9 S x) (v : Int64) : lo3 B FU S v 0 = k9 S (acI v f n) := by
  refine loopR (fun fu j (a : Int64) => lo3 B fu S a (nI j)) _ n (fun j a => a = acI v f j) ?_ ?_ n FU 0 v (by omega) (by rw [FU_eq]; omega) rfl
  · intro fu j a hj e
    refine ⟨a + f j, ?_, (lo3_s _ _ _ _ _).trans (h1 _ _ _ hj)⟩
    rw [e]
    rfl
  · intro fu a e
    rw [← e]
    exact (lo3_s _ _ _ _ _).trans (h3 _ _)
section ALL
variable {S : XS} {M : MS}
theorem A_all (h : Core (x_now S) (m_told M) (m_s M)) : AskR S M (F_X4_all S) (F_X5_all M) := by
  unfold F_X4_all F_X5_all J_X5_all_17
  rw [M_begins, bs]
  rcases A_text h with ⟨e1, e2⟩ | ⟨N, K, c, hT, hR, hO, e1, e2⟩
  · rw [e1, bs, if_pos rfl, if_pos e2, X_nothing, bs, M_ref1 (mB_tr M) (by decide), bs, if_neg (show ¬ (1 : Int32) = 0 by decide)]
    exact ask_no _ _
  · have hN := hO.1
    have hTx : RowT (x_now (xT S 0)) N K c := hT
    have hts : t_ships (x_now (xT S 0)) = nI N := hTx.1
    have htc : t_claims (x_now (xT S 0)) = nI K := hTx.2.1
    obtain ⟨wt, lk, hW, er⟩ := X_reckon (S := xT S 0) hTx hO
    obtain ⟨o2, u2, p2, el, hP⟩ := M_lp hR hO
    have c2 : ∀ v, lo3 (B_X4_all_55 (fun S12 z13 => some (z13, S12))) FU (xs_reckoning (xT S 0) (stl (x_now (xT S 0)) wt lk N K c)) v 0 = some (acI v (fun k => lN (ptN N K c k - gvN N K c k)) K, xs_reckoning (xT S 0) (stl (x_now (xT S 0)) wt lk N K c)) := by
      intro v
      refine sumI _ _ (fun S12 z13 => some (z13, S12)) _ K (by omega) (fun rc x k hk => ?_) (fun rc x => ?_) v
      · unfold B_X4_all_55
        rw [xK_n, htc, if_neg (by rw [nI_leI (by omega) (by omega)]; omega), xK_k, C_leftToClaim hTx hO hW hk, bs, nm_eq, nm_eq, nI_1]
      · unfold B_X4_all_55
        rw [xK_n, htc, if_pos (by rw [nI_leI (by omega) (by omega)]; omega)]
    have c1 : lo3 (B_X4_all_25 (fun S7 z8 => lo3 (B_X4_all_55 (fun S12 z13 => some (z13, S12))) FU S7 z8 0)) FU (xs_reckoning (xT S 0) (stl (x_now (xT S 0)) wt lk N K c)) 0 0 = some (acI (acI 0 (ntL N K c) N) (fun k => lN (ptN N K c k - gvN N K c k)) K, xs_reckoning (xT S 0) (stl (x_now (xT S 0)) wt lk N K c)) := by
      refine (sumI _ _ (fun S7 z8 => lo3 (B_X4_all_55 (fun S12 z13 => some (z13, S12))) FU S7 z8 0) (ntL N K c) N (by omega) (fun rc x i hi => ?_) (fun rc x => ?_) 0).trans (c2 _)
      · unfold B_X4_all_25
        rw [xK_n, hts, if_neg (by rw [nI_leI (by omega) (by omega)]; omega), xK_k, C_netOf hTx hO hW hi, bs, nm_eq, nm_eq, nI_1]
      · unfold B_X4_all_25
        rw [xK_n, hts, if_pos (by rw [nI_leI (by omega) (by omega)]; omega)]
    have m2 : ∀ v, lo3 (B_X5_all_62 (fun S15 z16 => some (z16, S15))) FU (sc (mB M) (m_s M) o2 u2 p2) v 0 = some (acI v (fun k => lN (ptN N K c k - gvN N K c k)) K, sc (mB M) (m_s M) o2 u2 p2) := by
      intro v
      refine sumI _ _ (fun S15 z16 => some (z16, S15)) _ K (by omega) (fun rc x k hk => ?_) (fun rc x => ?_) v
      · unfold B_X5_all_62
        rw [sc_w, R1 hR, bs, if_neg (by rw [nI_leI (by omega) (by omega)]; omega), M_paidTo hR hO hP hk, bs, M_givenOf hR hO hP hk, bs, lN_sub (gvN_le hO), nm_eq, nm_eq, nI_1]
      · unfold B_X5_all_62
        rw [sc_w, R1 hR, bs, if_pos (by rw [nI_leI (by omega) (by omega)]; omega)]
    have m1 : lo3 (B_X5_all_36 (fun S8 z9 => lo3 (B_X5_all_62 (fun S15 z16 => some (z16, S15))) FU S8 z9 0)) FU (sc (mB M) (m_s M) o2 u2 p2) 0 0 = some (acI (acI 0 (ntL N K c) N) (fun k => lN (ptN N K c k - gvN N K c k)) K, sc (mB M) (m_s M) o2 u2 p2) := by
      refine (sumI _ _ (fun S8 z9 => lo3 (B_X5_all_62 (fun S15 z16 => some (z16, S15))) FU S8 z9 0) (ntL N K c) N (by omega) (fun rc x i hi => ?_) (fun rc x => ?_) 0).trans (m2 _)
      · unfold B_X5_all_36
        rw [sc_w, R0 hR, bs, if_neg (by rw [nI_leI (by omega) (by omega)]; omega), M_netOf hR hO hP hi, bs, nm_eq, nm_eq, nI_1]
      · unfold B_X5_all_36
        rw [sc_w, R0 hR, bs, if_pos (by rw [nI_leI (by omega) (by omega)]; omega)]
    rw [e1, bs, if_neg n10, if_neg e2, X_accept, bs, er, bs, c1, M_ref0 (mB_tr M), bs, if_pos rfl, el, bs, m1]
    exact ask_full _ _ _ _ _ _
end ALL
