/-! ===== level 2: withdraw, undo, image, again; what is looked at ===== -/
section DROP
variable {N K : Nat} {c : Nat → Nat}
theorem cW_lo {k z : Nat} (h : z < 34 + 4 * k) : cW c k z = c z := if_neg (by omega)
theorem cW_hi {k z : Nat} (h : 34 + 4 * k ≤ z) : cW c k z = c (z + 4) := if_pos h
theorem cW_cl {k j x : Nat} (hx : x < 4) : cW c k (34 + 4 * j + x) = if k ≤ j then c (34 + 4 * (j + 1) + x) else c (34 + 4 * j + x) := by
  by_cases h : k ≤ j
  · rw [if_pos h, cW_hi (by omega)]
    exact congrArg c (by omega)
  · rw [if_neg h, cW_lo (by omega)]
theorem cW_on {k j : Nat} : onI (cW c k) j = if k ≤ j then onI c (j + 1) else onI c j := by
  have h0 : cW c k (34 + 4 * j) = _ := cW_cl (x := 0) (by decide)
  unfold onI
  rw [h0, cW_cl (x := 1) (by decide)]
  by_cases h : k ≤ j
  · rw [if_pos h, if_pos h, if_pos h]
    rfl
  · rw [if_neg h, if_neg h, if_neg h]
    rfl
theorem cW_OK {k : Nat} (hO : OKc N K c) (hk : k < K) : OKc N (K - 1) (cW c k) := by
  obtain ⟨h1, h2, h3, h4, h5⟩ := hO
  refine ⟨⟨h1.1, h1.2.1, by omega⟩, ?_, ?_, ?_, ?_⟩
  · rw [cW_lo (z := 2) (by omega), cW_lo (z := 3) (by omega), cW_lo (z := 4) (by omega), cW_lo (z := 5) (by omega), cW_lo (z := 6) (by omega), cW_lo (z := 7) (by omega), cW_lo (z := 8) (by omega), cW_lo (z := 9) (by omega)]
    exact h2
  · intro j hj
    rw [cW_lo (z := 10 + 6 * j) (by omega), cW_lo (z := 10 + 6 * j + 1) (by omega), cW_lo (z := 10 + 6 * j + 2) (by omega), cW_lo (z := 10 + 6 * j + 3) (by omega), cW_lo (z := 10 + 6 * j + 4) (by omega), cW_lo (z := 10 + 6 * j + 5) (by omega)]
    exact h3 j hj
  · exact (sN_eq fun j hj => cW_lo (by omega)).trans h4
  · intro j hj
    have e0 : cW c k (34 + 4 * j) = _ := cW_cl (x := 0) (by decide)
    rw [e0, cW_cl (x := 1) (by decide), cW_cl (x := 2) (by decide), cW_cl (x := 3) (by decide)]
    by_cases h : k ≤ j
    · rw [if_pos h, if_pos h, if_pos h, if_pos h]
      exact h5 (j + 1) (by omega)
    · rw [if_neg h, if_neg h, if_neg h, if_neg h]
      exact h5 j (by omega)
theorem cW_T {T : TS} {k : Nat} (hT : RowT T N K c) (hN : N ≤ 4) (hK : K ≤ 12) (hk : k < K) {f : Fin 48 → Int32} (hf : ∀ z, z < 48 → exI f z = if 4 * k ≤ z ∧ z < 4 * k + (4 * (K - 1) - 4 * k) then exI (t_claimRows T) (4 * k + (z - 4 * k) + 4) else exI (t_claimRows T) z) : RowT (ts_claimRows (ts_claims T (nI (K - 1))) f) N (K - 1) (cW c k) := by
  obtain ⟨h1, h2, h3, h4, h5⟩ := hT
  refine ⟨h1, rfl, ?_, ?_, ?_⟩
  · intro x hx hx2
    rw [cW_lo (by omega)]
    exact h3 x hx hx2
  · intro j hj x hx
    rw [cW_lo (by omega)]
    exact h4 j hj x hx
  · intro j hj
    refine ⟨fun x hx hx1 => ?_, ?_⟩
    · show exI f _ = _
      rw [hf _ (by omega), cW_cl hx]
      by_cases q : k ≤ j
      · rw [if_pos (by omega), if_pos q, show 4 * k + (4 * j + x - 4 * k) + 4 = 4 * (j + 1) + x by omega]
        exact (h5 (j + 1) (by omega)).1 x hx hx1
      · rw [if_neg (by omega), if_neg q]
        exact (h5 j (by omega)).1 x hx hx1
    · show exI f _ = _
      rw [hf _ (by omega), cW_on]
      by_cases q : k ≤ j
      · rw [if_pos (by omega), if_pos q, show 4 * k + (4 * j + 1 - 4 * k) + 4 = 4 * (j + 1) + 1 by omega]
        exact (h5 (j + 1) (by omega)).2
      · rw [if_neg (by omega), if_neg q]
        exact (h5 j (by omega)).2
theorem cW_R {r : Fin 82 → Int32} {k : Nat} (hR : RowR r N K c) (hN : N ≤ 4) (hK : K ≤ 12) (hk : k < K) {f : Fin 82 → Int32} (hf : ∀ z, z < 82 → exI f z = if 34 + 4 * k ≤ z ∧ z < 34 + 4 * k + (4 * (K - 1) - 4 * k) then exI r (34 + 4 * k + (z - (34 + 4 * k)) + 4) else exI (upI r 1 (nI (K - 1))) z) : RowR f N (K - 1) (cW c k) := by
  obtain ⟨h1, h2, h3, h4, h5⟩ := hR
  have far : ∀ z, z ≠ 1 → exI (upI r 1 (nI (K - 1))) z = exI r z := fun z q => by
    rw [exI_up _ (by omega), if_neg q]
  refine ⟨?_, ?_, ?_, ?_, ?_⟩
  · rw [hf 0 (by omega), if_neg (by omega), far 0 (by omega), h1]
  · rw [hf 1 (by omega), if_neg (by omega), exI_up _ (by omega), if_pos rfl]
  · intro x hx hx2
    rw [hf x (by omega), if_neg (by omega), far x (by omega), cW_lo (by omega)]
    exact h3 x hx hx2
  · intro j hj x hx
    rw [hf _ (by omega), if_neg (by omega), far _ (by omega), cW_lo (by omega)]
    exact h4 j hj x hx
  · intro j hj
    refine ⟨fun x hx hx1 => ?_, ?_⟩
    · rw [hf _ (by omega), cW_cl hx]
      by_cases q : k ≤ j
      · rw [if_pos (by omega), if_pos q, show 34 + 4 * k + (34 + 4 * j + x - (34 + 4 * k)) + 4 = 34 + 4 * (j + 1) + x by omega]
        exact (h5 (j + 1) (by omega)).1 x hx hx1
      · rw [if_neg (by omega), if_neg q, far _ (by omega)]
        exact (h5 j (by omega)).1 x hx hx1
    · rw [hf _ (by omega), cW_on]
      by_cases q : k ≤ j
      · rw [if_pos (by omega), if_pos q, show 34 + 4 * k + (34 + 4 * j + 1 - (34 + 4 * k)) + 4 = 34 + 4 * (j + 1) + 1 by omega]
        exact (h5 (j + 1) (by omega)).2
      · rw [if_neg (by omega), if_neg q, far _ (by omega)]
        exact (h5 j (by omega)).2
theorem td_c (T : TS) (v : Int32) (f : Fin 48 → Int32) : t_claims (ts_claimRows (ts_claims T v) f) = v := rfl
theorem td_0 (T : TS) (v : Int32) : ts_claims T v = ts_claimRows (ts_claims T v) (t_claimRows T) := rfl
theorem C_drop {T : TS} {k : Nat} (hc : t_claims T = nI K) (hK : K ≤ 12) (hk : k < K) : ∃ f : Fin 48 → Int32, (∀ z, z < 48 → exI f z = if 4 * k ≤ z ∧ z < 4 * k + (4 * (K - 1) - 4 * k) then exI (t_claimRows T) (4 * k + (z - 4 * k) + 4) else exI (t_claimRows T) z) ∧ F_X2_dropClaim T (nI k) = some (ts_claimRows (ts_claims T (nI (K - 1))) f) := by
  obtain ⟨f, hf, e⟩ := copyL (B_X2_dropClaim_14 (fun S7 => some S7)) (fun f => ts_claimRows (ts_claims T (nI (K - 1))) f) (fun S7 => some S7) (4 * k) (4 * k) (4 * (K - 1) - 4 * k) (fun i => exI (t_claimRows T) (4 * k + i + 4)) (by omega) (by omega) (t_claimRows T) (by
    intro rc f i hi hI
    have hz := hI (4 * k + i + 4) (by omega)
    rw [if_neg (by omega)] at hz
    unfold B_X2_dropClaim_14
    rw [td_c, show (4 : Int32) = nI 4 from rfl, pk_mul, if_neg (by rw [nI_leI (by omega) (by omega)]; omega), tc_l, nI_add, rI _ (by omega) (by omega), bs, hz, wI _ (by omega) (by omega), bs, nm_eq, tc_two, nm_eq, nI_1]) (by
    intro rc f hI
    unfold B_X2_dropClaim_14
    rw [td_c, show (4 : Int32) = nI 4 from rfl, pk_mul, if_pos (by rw [nI_leI (by omega) (by omega)]; omega)])
  refine ⟨f, hf, ?_⟩
  unfold F_X2_dropClaim
  rw [hc, nI_less (by omega), nm_eq, show (4 : Int32) = nI 4 from rfl, pk_mul, nm_eq, show k * 4 = 4 * k by omega, td_0]
  exact e
end DROP
section DROP2
variable {S : XS} {M : MS}
theorem A_withdraw (hr : Rel S M) (x : Int32) : StepR (F_X4_withdraw S x) (F_X5_withdraw M x) := by
  have h := hr.core
  unfold F_X4_withdraw F_X5_withdraw
  rw [M_begins, bs]
  rcases A_claim h x with ⟨e1, e2⟩ | ⟨N, K, c, k, hT, hR, hO, hk, rfl, e1, e2⟩
  · refine AskR.step (S := S) (M := M) ?_ hr
    unfold J_X5_withdraw_18
    rw [e1, e2, bs, bs, if_pos rfl, if_pos rfl, X_none, bs, M_ref1 (mB_tr M) (by decide), bs, if_neg n10]
    exact ask_no _ _
  · have hN := hO.1
    obtain ⟨h0, hc⟩ := core_case hr hT hO
    obtain ⟨E, u, n, p, b, eb, ek, hrel⟩ := act_step hr hc h0
    obtain ⟨f, hf, ed⟩ := C_drop hT.2.1 hN.2.2 hk
    unfold J_X5_withdraw_18
    rw [e1, e2, bs, bs, if_neg n10, if_neg n10, eb, bs, xa_t, ed, bs, nm_eq, xa_st, xa_t, td_c]
    rw [M_ref0 (mB_tr M), bs, if_pos rfl, ek, bs, ma_s, R1 hR, bs, nI_less (by omega), show (1 : Int32) = nI 1 from rfl, wI _ (by omega) (by omega), bs, nm_eq, ma_ss, show (34 : Int32) = nI 34 from rfl, show (4 : Int32) = nI 4 from rfl, pk_mul, nI_add, nm_eq]
    obtain ⟨g, hg, eg⟩ := copyL (B_X5_withdraw_48 (fun S14 => (rdI (m_s S14) (1 : Int32)).bind fun v15 => some (v15, S14))) (fun f => ma (mB M) f p b) (fun S14 => (rdI (m_s S14) (1 : Int32)).bind fun v15 => some (v15, S14)) (34 + 4 * k) (34 + 4 * k) (4 * (K - 1) - 4 * k) (fun i => exI (m_s M) (34 + 4 * k + i + 4)) (by omega) (by omega) (upI (m_s M) 1 (nI (K - 1))) (by
      intro rc f i hi hI
      have hz := hI (34 + 4 * k + i + 4) (by omega)
      rw [if_neg (by omega), exI_up _ (by omega), if_neg (by omega)] at hz
      have h1 := hI 1 (by omega)
      rw [if_neg (by omega), exI_up _ (by omega), if_pos rfl] at h1
      unfold B_X5_withdraw_48
      rw [ma_s, show (1 : Int32) = nI 1 from rfl, rI _ (by omega) (by omega), bs, h1, show (34 : Int32) = nI 34 from rfl, show (4 : Int32) = nI 4 from rfl, pk_mul, nI_add, if_neg (by rw [nI_leI (by omega) (by omega)]; omega), nI_add, rI _ (by omega) (by omega), bs, hz, wI _ (by omega) (by omega), bs, nm_eq, ma_ss, nm_eq, nI_add]) (by
      intro rc f hI
      have h1 := hI 1 (by omega)
      rw [if_neg (by omega), exI_up _ (by omega), if_pos rfl] at h1
      have key : ∀ (k9 : MS → Option (Int32 × MS)), B_X5_withdraw_48 k9 rc (ma (mB M) f p b) (nI (34 + 4 * k + (4 * (K - 1) - 4 * k))) = k9 (ma (mB M) f p b) := by
        intro k9
        unfold B_X5_withdraw_48
        rw [ma_s, show (1 : Int32) = nI 1 from rfl, rI _ (by omega) (by omega), bs, h1, show (34 : Int32) = nI 34 from rfl, show (4 : Int32) = nI 4 from rfl, pk_mul, nI_add, if_pos (by rw [nI_leI (by omega) (by omega)]; omega)]
      exact key _)
    have hR2 := cW_R hR hN.2.1 hN.2.2 hk hg
    have eg' : lo2 (B_X5_withdraw_48 (fun S14 => (rdI (m_s S14) (nI 1)).bind fun v15 => some (v15, S14))) FU (ma (mB M) (upI (m_s M) 1 (nI (K - 1))) p b) (nI (34 + 4 * k)) = _ := eg
    rw [eg', ma_s, R1 hR2, bs]
    exact ⟨_, _, _, rfl, rfl, hrel _ _ ⟨N, K - 1, _, cW_T hT hN.2.1 hN.2.2 hk hf, hR2, cW_OK hO hk, case_names hc hT hO⟩⟩
theorem rel_told (hr : Rel S M) (h0 : m_told M ≠ 0) : CaseR (x_now S) (m_s M) (m_names M) := by
  rcases hr.2.2.1 with ⟨h, -⟩ | h
  · exact absurd h h0
  · exact h.2
theorem A_undo (hr : Rel S M) : StepR (F_X4_undo S) (F_X5_undo M) := by
  have h := hr.core
  unfold F_X4_undo F_X5_undo
  rw [M_begins, bs]
  rcases A_text h with ⟨e1, e2⟩ | ⟨N, K, c, hT, hR, hO, e1, e2⟩
  · refine AskR.step (S := S) (M := M) ?_ hr
    unfold J_X5_undo_17
    rw [e1, bs, if_pos rfl, if_pos e2, X_none, bs, M_ref1 (mB_tr M) (by decide), bs, if_neg n10]
    exact ask_no _ _
  · obtain ⟨A, P, hu, ha, hn, hA, hP, hq⟩ := hr.2.2.2.1
    unfold J_X5_undo_17
    rw [e1, bs, if_neg n10, if_neg e2, M_ref0 (mB_tr M), bs, if_pos rfl, mB_a, hu, ha]
    by_cases h0 : A = 0
    · subst h0
      refine AskR.step (S := S) (M := M) ?_ hr
      unfold J_X5_undo_37
      rw [if_pos nI_0, if_pos nI_0, X_none, bs, M_ref1 (mB_tr M) (by decide), bs, if_neg n10]
      exact ask_no _ _
    · have hz : ¬ nI A = 0 := nI_ne0 (by omega) (by omega)
      have hu2 : x_undoable (xT S 0) = nI A := hu
      have hn2 : x_nextAct (xT S 0) = nI P := hn
      have he : x_earlier (xT S 0) = x_earlier S := rfl
      obtain ⟨g, hg, eg⟩ := copyL (B_X5_undo_58 (fun S9 => some (m_acts S9, S9))) (fun f => ma (mB M) f (m_past M) (nI (A - 1))) (fun S9 => some (m_acts S9, S9)) 0 0 82 (fun i => exI (m_past M) (82 * (A - 1) + i)) (by omega) (by omega) (m_s M) (by
        intro rc f i hi hI
        unfold B_X5_undo_58
        rw [show (82 : Int32) = nI 82 from rfl, if_neg (by rw [nI_leI (by omega) (by omega)]; omega), ma_p, ma_a, pk_mul, nI_add, ma_s, show 0 + i = i by omega, rI _ (by omega) (by omega), bs, wI _ (by omega) (by omega), bs, nm_eq, ma_ss, nm_eq, nI_1]) (by
        intro rc f hI
        unfold B_X5_undo_58
        rw [if_pos (by decide)])
      have hgr : g = rowP (m_past M) (A - 1) := ext_I fun z hz => by
        rw [hg z hz, if_pos (by omega), rowP_at _ _ hz]
        rfl
      have eg' : lo2 (B_X5_undo_58 (fun S9 => some (m_acts S9, S9))) FU (ma (mB M) (m_s M) (m_past M) (nI (A - 1))) 0 = _ := eg
      have e0 : ms_acts (mB M) (nI (A - 1)) = ma (mB M) (m_s M) (m_past M) (nI (A - 1)) := ma_sa (mB M) (m_s M) (m_past M) (m_acts M) (nI (A - 1))
      unfold J_X5_undo_37
      rw [if_neg hz, if_neg hz, X_accept, bs, hn2, show (10 : Int32) = nI 10 from rfl, nI_add, nI_less (by omega), rmI_N (by omega) (by omega) (by omega), bs, nm_eq, ← xa_self (xT S 0), xa_sn, nm_eq, xa_u, hu2, nI_less (by omega), xa_su, xa_n, ix_N (Nat.mod_lt _ (by decide)) (by omega), bs, C_copy, bs, nm_eq, xa_st, xa_u, xa_e, he]
      rw [M_ref0 (mB_tr M), bs, if_pos rfl, nm_eq, mB_a, ha, nI_less (by omega), e0, eg', ma_a, hgr]
      refine ⟨_, _, _, rfl, rfl, ⟨rfl, rfl, hr.1.2.2⟩, hr.2.1, Or.inr ⟨e2, ?_⟩, ⟨A - 1, (P + 10 - 1) % 10, rfl, rfl, rfl, by omega, by omega, fun q hql => ?_⟩, hr.2.2.2.2⟩
      · have := hq (A - 1) (by omega)
        rw [fin_at (x_earlier S) _ (Nat.mod_lt _ (by decide)) (show (P + 10 - A + (A - 1)) % 10 = (P + 10 - 1) % 10 by omega)] at this
        exact this
      · have := hq q (by omega)
        rw [fin_at (x_earlier S) _ (Nat.mod_lt _ (by decide)) (show (P + 10 - A + q) % 10 = ((P + 10 - 1) % 10 + 10 - (A - 1) + q) % 10 by omega)] at this
        exact this
theorem X_no0 (S : XS) : (F_X4_refuse S (1 : Int32)).bind (fun q2 => zz q2.1 <| some (q2.1, q2.2)) = some ((0 : Int32), xT S 1) := by
  rw [X_refuse, bs]
  rfl
theorem xk_at (hr : Rel S M) {m : Nat} (hm : m < 2) : exI (x_kept S) m = exI (m_isKept M) m := (hr.2.2.2.2 m hm).1
theorem A_image (hr : Rel S M) (x : Int32) : StepR (F_X4_image S x) (F_X5_image M x) := by
  have h := hr.core
  have no : StepR (J_X4_image_16 S) (J_X5_image_22 (mB M) x) := by
    refine AskR.step (S := S) (M := M) ?_ hr
    unfold J_X4_image_16 J_X5_image_22 J_X5_image_27
    rw [X_no0, M_ref1 (mB_tr M) (by decide), bs, if_neg n10]
    exact ask_no _ _
  unfold F_X4_image F_X5_image
  rw [M_begins, bs]
  rcases A_text h with ⟨e1, e2⟩ | ⟨N, K, c, hT, hR, hO, e1, e2⟩
  · rw [e1, bs, if_pos rfl, if_pos e2]
    exact no
  · rw [e1, bs, if_neg n10, if_neg e2, show F_X5_in x.toInt64 0 1 = F_X4_within x 0 1 from M_in2 x 0 1]
    rcases W_cases x (b := 1) (by omega) with e | ⟨e, i, hi, rfl⟩
    · have e' : F_X4_within x 0 1 = some 0 := e
      rw [e', bs, bs, if_pos rfl, if_pos rfl]
      exact no
    · have e' : F_X4_within (nI i) 0 1 = some 1 := e
      have hi2 : i < 2 := by omega
      obtain ⟨h0, hc⟩ := core_case hr hT hO
      obtain ⟨g, hg, eg⟩ := copyL (B_X5_image_38 (nI i) (fun S7 => (wrI (m_isKept S7) (nI i) (1 : Int32)).bind fun f8 => nm (ms_isKept S7 f8 : MS) fun S9 => some ((1 : Int32), S9))) (fun f => mk4 (mB M) (m_s M) (m_acts M) f (m_isKept M)) (fun S7 => (wrI (m_isKept S7) (nI i) (1 : Int32)).bind fun f8 => nm (ms_isKept S7 f8 : MS) fun S9 => some ((1 : Int32), S9)) 0 (82 * i) 82 (exI (m_s M)) (by omega) (by omega) (m_kept M) (by
        intro rc f j hj hI
        unfold B_X5_image_38
        rw [show (82 : Int32) = nI 82 from rfl, if_neg (by rw [nI_leI (by omega) (by omega)]; omega), mk_s, rI _ (by omega) (by omega), bs, mk_k, pk_mul, nI_add, show 0 + j = j by omega, wI _ (by omega) (by omega), bs, nm_eq, mk_sk, nm_eq, nI_1]) (by
        intro rc f hI
        unfold B_X5_image_38
        rw [if_pos (by decide)])
      have eg' : lo2 (B_X5_image_38 (nI i) (fun S7 => (wrI (m_isKept S7) (nI i) (1 : Int32)).bind fun f8 => nm (ms_isKept S7 f8 : MS) fun S9 => some ((1 : Int32), S9))) FU (mB M) 0 = _ := eg
      unfold J_X5_image_27
      rw [e', bs, bs, if_neg n10, if_neg n10, X_accept, bs, ix_N hi2 (by omega), bs, C_copy, bs, nm_eq, wI _ (by omega) (by omega), bs, nm_eq]
      rw [M_ref0 (mB_tr M), bs, if_pos rfl, eg', mk_b, wI _ (by omega) (by omega), bs, nm_eq, mk_sb]
      refine ⟨_, _, _, rfl, rfl, ⟨rfl, rfl, hr.1.2.2⟩, hr.2.1, hr.2.2.1, hr.2.2.2.1, fun m hm => ?_⟩
      show exI (upI (x_kept S) i 1) m = exI (upI (m_isKept M) i 1) m ∧ (exI (upI (x_kept S) i 1) m ≠ 0 → m_told M ≠ 0 ∧ CaseR (upT (x_images S) ⟨i, hi2⟩ (x_now S) ⟨m, hm⟩) (rowK g m) (m_names M))
      rw [exI_up _ (by omega), exI_up _ (by omega), upT_at]
      by_cases q : m = i
      · rw [if_pos q, if_pos q]
        refine ⟨rfl, fun _ => ⟨h0, ?_⟩⟩
        rw [if_pos q]
        have : rowK g m = m_s M := ext_I fun z hz => by
          rw [rowK_at g m hz, hg _ (by omega), if_pos (by omega)]
          exact congrArg (exI (m_s M)) (by omega)
        rw [this]
        exact hc
      · rw [if_neg q, if_neg q]
        refine ⟨xk_at hr hm, fun hk => ⟨h0, ?_⟩⟩
        rw [if_neg q]
        have : rowK g m = rowK (m_kept M) m := ext_I fun z hz => by
          rw [rowK_at g m hz, hg _ (by omega), if_neg (by omega), rowK_at _ m hz]
        rw [this]
        exact ((hr.2.2.2.2 m hm).2 hk).2
theorem A_again (hr : Rel S M) (x : Int32) : StepR (F_X4_again S x) (F_X5_again M x) := by
  have h := hr.core
  have no : StepR (J_X4_again_18 S) (J_X5_again_31 (mB M) x) := by
    refine AskR.step (S := S) (M := M) ?_ hr
    unfold J_X4_again_18 J_X5_again_31 J_X5_again_36
    rw [X_no0, M_ref1 (mB_tr M) (by decide), bs, if_neg n10]
    exact ask_no _ _
  unfold F_X4_again F_X5_again
  rw [M_begins, bs, show F_X5_in x.toInt64 0 1 = F_X4_within x 0 1 from M_in2 x 0 1]
  rcases W_cases x (b := 1) (by omega) with e | ⟨e, i, hi, rfl⟩
  · have e' : F_X4_within x 0 1 = some 0 := e
    rw [e', bs, bs, if_pos rfl]
    by_cases h0 : m_told (mB M) = 0
    · rw [if_pos h0]
      exact no
    · rw [if_neg h0, if_pos rfl]
      exact no
  · have e' : F_X4_within (nI i) 0 1 = some 1 := e
    have hi2 : i < 2 := by omega
    have hk := hr.2.2.2.2 i hi2
    have hmk : rdI (m_isKept (mB M)) (nI i) = some (exI (x_kept S) i) := by
      rw [hk.1]
      exact rI (m_isKept M) hi2 (by omega)
    rw [e', bs, bs, if_neg n10, rI _ hi2 (by omega), bs]
    by_cases q : exI (x_kept S) i = 0
    · rw [if_pos q]
      by_cases h0 : m_told (mB M) = 0
      · rw [if_pos h0]
        exact no
      · rw [if_neg h0, if_neg n10, hmk, bs, if_pos q]
        exact no
    · obtain ⟨h0, hc⟩ := hk.2 q
      have h0' : ¬ m_told (mB M) = 0 := h0
      obtain ⟨g, hg, eg⟩ := copyL (B_X5_again_47 (nI i) (fun S7 => nm (ms_acts S7 (0 : Int32) : MS) fun S8 => some ((1 : Int32), S8))) (fun f => mk4 (mB M) f (m_acts M) (m_kept M) (m_isKept M)) (fun S7 => nm (ms_acts S7 (0 : Int32) : MS) fun S8 => some ((1 : Int32), S8)) 0 0 82 (fun j => exI (m_kept M) (82 * i + j)) (by omega) (by omega) (m_s M) (by
        intro rc f j hj hI
        unfold B_X5_again_47
        rw [show (82 : Int32) = nI 82 from rfl, if_neg (by rw [nI_leI (by omega) (by omega)]; omega), mk_k, pk_mul, nI_add, mk_s, show 0 + j = j by omega, rI _ (by omega) (by omega), bs, wI _ (by omega) (by omega), bs, nm_eq, mk_ss, nm_eq, nI_1]) (by
        intro rc f hI
        unfold B_X5_again_47
        rw [if_pos (by decide)])
      have hgr : g = rowK (m_kept M) i := ext_I fun z hz => by
        rw [hg z hz, if_pos (by omega), rowK_at _ _ hz]
        rfl
      have eg' : lo2 (B_X5_again_47 (nI i) (fun S7 => nm (ms_acts S7 (0 : Int32) : MS) fun S8 => some ((1 : Int32), S8))) FU (mB M) 0 = _ := eg
      have hf : ∀ S : XS, F_X4_forgetActs S = some (xs_nextAct (xs_undoable S 0) 0) := fun S => rfl
      unfold J_X5_again_36
      rw [if_neg q, X_accept, bs, ix_N hi2 (by omega), bs, C_copy, bs, nm_eq, hf, bs, if_neg h0', if_neg n10, hmk, bs, if_neg q, M_ref0 (mB_tr M), bs, if_pos rfl, eg', nm_eq, mk_sa, hgr]
      exact ⟨_, _, _, rfl, rfl, ⟨rfl, rfl, hr.1.2.2⟩, hr.2.1, Or.inr ⟨h0, hc⟩, ⟨0, 0, rfl, rfl, rfl, by omega, by omega, fun q hq => absurd hq (Nat.not_lt_zero q)⟩, hr.2.2.2.2⟩
/-- what is only looked at -/
def PeekR (S : XS) (f : Option Int32) (g : Option (Int32 × MS)) : Prop := ∃ a M2, f = some a ∧ g = some (a, M2) ∧ Rel S M2
theorem peek (hr : Rel S M) {a b : Int32} (h : a = b) : PeekR S (some a) (some (b, ms_thrown M 0)) := ⟨a, ms_thrown M 0, rfl, by rw [h], hr⟩
theorem A_size (hr : Rel S M) : PeekR S (F_X4_size S) (F_X5_size M) := by
  obtain ⟨t, -, h1, h2, -⟩ := hr.2.1
  exact peek hr (h1.trans h2.symm)
theorem A_trouble (hr : Rel S M) : PeekR S (F_X4_trouble S) (F_X5_trouble M) := peek hr hr.1.1
theorem A_fault (hr : Rel S M) : PeekR S (F_X4_fault S) (F_X5_fault M) := peek hr hr.1.2.2
theorem A_where (hr : Rel S M) : PeekR S (F_X4_where S) (F_X5_where M) := peek hr hr.1.2.1
end DROP2
