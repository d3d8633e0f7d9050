/-! ===== level 2: enough ===== -/
def mxN (f : Nat → Nat) : Nat → Nat
  | 0 => 0
  | n + 1 => max (mxN f n) (f n)
theorem mxN_s (f : Nat → Nat) (n : Nat) : mxN f (n + 1) = max (mxN f n) (f n) := rfl
theorem mxN_mem (f : Nat → Nat) {i : Nat} : ∀ {n : Nat}, i < n → f i ≤ mxN f n
  | 0, h => absurd h (Nat.not_lt_zero i)
  | n + 1, h => by
    rw [mxN_s]
    rcases Nat.lt_or_ge i n with q | q
    · have := mxN_mem f q
      omega
    · have e : i = n := by omega
      rw [e]
      omega
theorem mxN_bd (f : Nat → Nat) {b : Nat} : ∀ {n : Nat}, (∀ i, i < n → f i ≤ b) → mxN f n ≤ b
  | 0, _ => Nat.zero_le _
  | n + 1, h => by
    have h1 := mxN_bd f (n := n) (fun i hi => h i (by omega))
    have h2 := h n (by omega)
    rw [mxN_s]
    omega
section ENOUGH
variable {S : XS} {M : MS} {N K : Nat} {c : Nat → Nat}
theorem ndN_le2 (hO : OKc N K c) {i : Nat} (hi : i < N) : ndN N K c i ≤ 2000000000 := by
  have hN := hO.1
  have h1 : sN (fun j => lwN N K c i j) N ≤ N * 129999987 := sN_bd fun j hj => lwN_le hO hi hj
  have h2 : sN (fun k => dN N c i k - lvU N K c i (4 + k)) K ≤ K * 9999999 := sN_bd fun k hk => by
    have a1 := dN_le hO hi hk
    have a2 := (hO.2.2.2.2 k hk).2.2.2.1
    show dN N c i k - lvU N K c i (4 + k) ≤ 9999999
    omega
  have h3 : N * 129999987 ≤ 4 * 129999987 := Nat.mul_le_mul_right _ hN.2.1
  have h4 : K * 9999999 ≤ 12 * 9999999 := Nat.mul_le_mul_right _ hN.2.2
  unfold ndN
  omega
theorem rnN_le (hO : OKc N K c) {i : Nat} (hi : i < N) : rnN N K c i ≤ 4000000000 := by
  have h1 := ndN_le2 hO hi
  have h2 := hO.2.2.1 i hi
  have h3 := hO.2.1
  unfold rnN
  split
  · omega
  · exact Nat.le_trans (Nat.div_le_self _ _) (by omega)
theorem enough_M {M2 : MS} {w : Fin 82 → Int32} {p : Fin 64 → Int64} (hR : RowR w N K c) (hO : OKc N K c) : ∀ (n i fu : Nat), i + n = N → n < fu → mxN (rnN N K c) i ≤ 99999 → ∀ (o u : Fin 16 → Int64), ∃ o2 u2,
    lo3 (B_X5_enough_34 (fun S13 z14 => some (z14.toInt32, S13))) fu (sc M2 w o u p) (lN (mxN (rnN N K c) i)) (nI i) = some (if mxN (rnN N K c) N ≤ 99999 then (lN (mxN (rnN N K c) N)).toInt32 else -2, sc M2 w o2 u2 p) := by
  have hN := hO.1
  intro n
  induction n with
  | zero =>
    intro i fu hi hf hm o u
    obtain ⟨fu, rfl⟩ : ∃ f, fu = f + 1 := ⟨fu - 1, by omega⟩
    have hi : i = N := by omega
    subst hi
    have key : ∀ (k9 : MS → Int64 → Option (Int32 × MS)) rc x, B_X5_enough_34 k9 rc (sc M2 w o u p) x (nI i) = k9 (sc M2 w o u p) x := by
      intro k9 rc x
      unfold B_X5_enough_34
      rw [sc_w, R0 hR, bs, if_pos (by rw [nI_leI (by omega) (by omega)]; omega)]
    refine ⟨o, u, ((lo3_s _ _ _ _ _).trans (key _ _ _)).trans ?_⟩
    rw [if_pos hm]
  | succ n ih =>
    intro i fu hi hf hm o u
    obtain ⟨fu, rfl⟩ : ∃ f, fu = f + 1 := ⟨fu - 1, by omega⟩
    have hiN : i < N := by omega
    have e5 : F_X5_ofShip w (nI i) 5 = some (nI (c (10 + 6 * i + 5))) := Sh hR hO hiN (w := 5) (by decide)
    have e0 : F_X5_ofShip w (nI i) 0 = some (nI (c (10 + 6 * i))) := Sh hR hO hiN (w := 0) (by decide)
    have e7 : rdI w 7 = some (nI (c 7)) := by
      rw [show (7 : Int32) = nI 7 from rfl, rI _ (by omega) (by omega), hR.2.2.1 7 (by omega) (by omega)]
    have hs := hO.2.2.1 i hiN
    have hl := hO.2.1
    have hstep : ¬ nI N ≤ nI i := by
      rw [nI_leI (by omega) (by omega)]
      omega
    by_cases h5 : c (10 + 6 * i + 5) = 1
    · have hr : rnN N K c i = 0 := by
        unfold rnN
        rw [if_pos h5]
      have hmx : mxN (rnN N K c) (i + 1) = mxN (rnN N K c) i := by
        rw [mxN_s, hr]
        omega
      obtain ⟨o2, u2, f⟩ := ih (i + 1) fu (by omega) (by omega) (by omega) o u
      have key : ∀ (k9 : MS → Int64 → Option (Int32 × MS)) rc x, B_X5_enough_34 k9 rc (sc M2 w o u p) x (nI i) = rc (sc M2 w o u p) x (nI (i + 1)) := by
        intro k9 rc x
        unfold B_X5_enough_34 J_X5_enough_130
        rw [sc_w, R0 hR, bs, if_neg hstep, e5, bs, if_pos (by rw [h5]; rfl), nm_eq, nI_1]
      rw [hmx] at f
      exact ⟨o2, u2, ((lo3_s _ _ _ _ _).trans (key _ _ _)).trans f⟩
    · have hr : rnN N K c i = (ndN N K c i + max (c (10 + 6 * i)) (c 7) - 1) / max (c (10 + 6 * i)) (c 7) := by
        unfold rnN
        rw [if_neg h5]
      have hrl := rnN_le hO hiN
      have hnd := ndN_le2 hO hiN
      obtain ⟨o1, u1, en⟩ := M_neededOf (M := M2) (w := w) (o := o) (u := u) (p := p) hR hO hiN
      have h2e9 : ¬ 0 < lg_cmp (lN (ndN N K c i)) 2000000000 := fun z => by
        have := (pk_lLT (a := 2000000000) (b := ndN N K c i) (by omega) (by omega)).mp ((lg_cmp_gt _ _).mp z)
        omega
      by_cases hq : rnN N K c i ≤ 99999
      · have hmx : mxN (rnN N K c) (i + 1) ≤ 99999 := by
          rw [mxN_s]
          omega
        obtain ⟨o2, u2, f⟩ := ih (i + 1) fu (by omega) (by omega) hmx o1 u1
        have key : ∀ (k9 : MS → Int64 → Option (Int32 × MS)) rc, B_X5_enough_34 k9 rc (sc M2 w o u p) (lN (mxN (rnN N K c) i)) (nI i) = rc (sc M2 w o1 u1 p) (lN (mxN (rnN N K c) (i + 1))) (nI (i + 1)) := by
          intro k9 rc
          unfold B_X5_enough_34 J_X5_enough_130
          rw [sc_w, R0 hR, bs, if_neg hstep, e5, bs, if_neg (nI_n1 h5 (by omega)), en, bs, sc_w, e0, bs, e7, bs, nI_l (by omega), nI_l (by omega), M_greater (by omega) (by omega), bs, lN_add, show (1 : Int64) = lN 1 from rfl, lN_sub (by omega), dvL_N (by omega) (by omega) (by omega), bs, ← hr, if_neg h2e9, show (99999 : Int64) = lN 99999 from rfl, if_pos ((lg_cmp_le _ _).mpr ((pk_lLE (b := 99999) (by omega) (by omega)).mpr hq)), M_greater (by omega) (by omega), bs, nm_eq, nI_1, mxN_s]
        exact ⟨o2, u2, ((lo3_s _ _ _ _ _).trans (key _ _)).trans f⟩
      · have hbig := mxN_mem (rnN N K c) hiN
        have key : ∀ (k9 : MS → Int64 → Option (Int32 × MS)) rc, B_X5_enough_34 k9 rc (sc M2 w o u p) (lN (mxN (rnN N K c) i)) (nI i) = some (-2, sc M2 w o1 u1 p) := by
          intro k9 rc
          unfold B_X5_enough_34 J_X5_enough_120
          rw [sc_w, R0 hR, bs, if_neg hstep, e5, bs, if_neg (nI_n1 h5 (by omega)), en, bs, sc_w, e0, bs, e7, bs, nI_l (by omega), nI_l (by omega), M_greater (by omega) (by omega), bs, lN_add, show (1 : Int64) = lN 1 from rfl, lN_sub (by omega), dvL_N (by omega) (by omega) (by omega), bs, ← hr, if_neg h2e9, show (99999 : Int64) = lN 99999 from rfl, if_neg (fun z => hq ((pk_lLE (b := 99999) (by omega) (by omega)).mp ((lg_cmp_le _ _).mp z)))]
        refine ⟨o1, u1, ((lo3_s _ _ _ _ _).trans (key _ _)).trans ?_⟩
        rw [if_neg (by omega)]
theorem mx_le (hO : OKc N K c) {n : Nat} (hn : n ≤ N) : mxN (rnN N K c) n ≤ 4000000000 := mxN_bd _ fun i hi => rnN_le hO (by omega)
theorem A_text (h : Core (x_now S) (m_told M) (m_s M)) : (F_X4_hasText S = some 0 ∧ m_told (mB M) = 0) ∨ (∃ N K c, RowT (x_now S) N K c ∧ RowR (m_s M) N K c ∧ OKc N K c ∧ F_X4_hasText S = some 1 ∧ ¬ m_told (mB M) = 0) := by
  unfold F_X4_hasText
  rcases h with ⟨h0, h1, h2⟩ | ⟨h0, N, K, c, hT, hR, hO⟩
  · rw [h1, if_pos (by decide)]
    exact Or.inl ⟨rfl, h0⟩
  · have hN := hO.1
    rw [hT.1, if_neg (nI_nle (by omega) (by omega))]
    exact Or.inr ⟨N, K, c, hT, hR, hO, rfl, h0⟩
theorem A_enough (h : Core (x_now S) (m_told M) (m_s M)) : AskR S M (F_X4_enough S) (F_X5_enough M) := by
  unfold F_X4_enough F_X5_enough J_X5_enough_17
  rw [M_begins, bs]
  rcases A_text h with ⟨e1, e2⟩ | ⟨N, K, c, hT, hR, hO, e1, e2⟩
  · rw [e1, bs, if_pos rfl, if_pos e2, X_none, bs, M_ref1 (mB_tr M) (by decide), bs, if_neg (show ¬ (1 : Int32) = 0 by decide)]
    exact ask_no _ _
  · have hN := hO.1
    have hTx : RowT (x_now (xT S 0)) N K c := hT
    have hR2 : RowR (m_s (mB M)) N K c := hR
    obtain ⟨wt, lk, hW, er⟩ := X_reckon (S := xT S 0) hTx hO
    have el := M_lays (M := mB M) (w := m_w (mB M)) (o := m_owed (mB M)) (u := m_out (mB M)) (p := m_paid (mB M))
    rw [sc_self] at el
    obtain ⟨o2, u2, f⟩ := enough_M (M2 := mB M) (p := m_paid (mB M)) hR2 hO N 0 FU (by omega) (by rw [FU_eq]; omega) (Nat.zero_le _) (m_owed (mB M)) (m_out (mB M))
    have f' : lo3 (B_X5_enough_34 (fun S13 z14 => some (z14.toInt32, S13))) FU (sc (mB M) (m_s (mB M)) (m_owed (mB M)) (m_out (mB M)) (m_paid (mB M))) 0 0 = _ := f
    have cls : ∀ (k9 : XS → Int64 → Option (Int32 × XS)), lo3 (B_X4_enough_25 k9) FU (xs_reckoning (xT S 0) (stl (x_now (xT S 0)) wt lk N K c)) 0 0 = k9 (xs_reckoning (xT S 0) (stl (x_now (xT S 0)) wt lk N K c)) (lN (mxN (rnN N K c) N)) := by
      intro k9
      refine loopR (fun fu i (_ : Unit) => lo3 (B_X4_enough_25 k9) fu (xs_reckoning (xT S 0) (stl (x_now (xT S 0)) wt lk N K c)) (lN (mxN (rnN N K c) i)) (nI i)) _ N (fun _ _ => True) ?_ ?_ N FU 0 () (by omega) (by rw [FU_eq]; omega) trivial
      · intro fu i _ hi _
        have h1 := rnN_le hO hi
        have h2 := mx_le hO (n := i) (by omega)
        have hts : t_ships (x_now (xT S 0)) = nI N := hTx.1
        have key : ∀ rc, B_X4_enough_25 k9 rc (xs_reckoning (xT S 0) (stl (x_now (xT S 0)) wt lk N K c)) (lN (mxN (rnN N K c) i)) (nI i) = rc (xs_reckoning (xT S 0) (stl (x_now (xT S 0)) wt lk N K c)) (lN (mxN (rnN N K c) (i + 1))) (nI (i + 1)) := by
          intro rc
          unfold B_X4_enough_25
          rw [xK_n, hts, if_neg (by rw [nI_leI (by omega) (by omega)]; omega), xK_k, C_rateNeeded hTx hO hi, bs, nm_eq, nm_eq, nI_1, mxN_s]
          by_cases hq : rnN N K c i < mxN (rnN N K c) i
          · rw [if_pos ((pk_lLT (by omega) (by omega)).mpr hq), show max (mxN (rnN N K c) i) (rnN N K c i) = mxN (rnN N K c) i by omega]
          · rw [if_neg (fun z => hq ((pk_lLT (by omega) (by omega)).mp z)), show max (mxN (rnN N K c) i) (rnN N K c i) = rnN N K c i by omega]
        exact ⟨(), trivial, (lo3_s _ _ _ _ _).trans (key _)⟩
      · intro fu _ _
        have hts : t_ships (x_now (xT S 0)) = nI N := hTx.1
        have key : ∀ rc x, B_X4_enough_25 k9 rc (xs_reckoning (xT S 0) (stl (x_now (xT S 0)) wt lk N K c)) x (nI N) = k9 (xs_reckoning (xT S 0) (stl (x_now (xT S 0)) wt lk N K c)) x := by
          intro rc x
          unfold B_X4_enough_25
          rw [xK_n, hts, if_pos (by rw [nI_leI (by omega) (by omega)]; omega)]
        exact (lo3_s _ _ _ _ _).trans (key _ _)
    have hmx := mx_le hO (n := N) (Nat.le_refl N)
    rw [e1, bs, if_neg n10, if_neg e2, X_accept, bs, er, bs, cls, M_ref0 (mB_tr M), bs, if_pos rfl, el, bs, f', show (99999 : Int64) = lN 99999 from rfl]
    by_cases hq : mxN (rnN N K c) N ≤ 99999
    · rw [if_pos ((lg_cmp_le _ _).mpr ((pk_lLE (b := 99999) (by omega) (by omega)).mpr hq)), if_pos hq]
      exact ask_full _ _ _ _ _ _
    · rw [if_neg (fun z => hq ((pk_lLE (b := 99999) (by omega) (by omega)).mp ((lg_cmp_le _ _).mp z))), if_neg hq]
      exact ask_full _ _ _ _ _ _
end ENOUGH
