/-! ===== level 2: file, withdraw ===== -/
def cF (c : Nat → Nat) (K a b m d : Nat) : Nat → Nat := fun z => if z = 34 + 4 * K then a else if z = 34 + 4 * K + 1 then b else if z = 34 + 4 * K + 2 then m else if z = 34 + 4 * K + 3 then d else c z
def cW (c : Nat → Nat) (k : Nat) : Nat → Nat := fun z => if 34 + 4 * k ≤ z then c (z + 4) else c z
section FILE
variable {N K : Nat} {c : Nat → Nat}
theorem cF_far {K a b m d z : Nat} (h : z < 34 + 4 * K) : cF c K a b m d z = c z := by
  unfold cF
  rw [if_neg (by omega), if_neg (by omega), if_neg (by omega), if_neg (by omega)]
theorem cF_0 {K a b m d : Nat} : cF c K a b m d (34 + 4 * K) = a := if_pos rfl
theorem cF_1 {K a b m d : Nat} : cF c K a b m d (34 + 4 * K + 1) = b := by
  unfold cF
  rw [if_neg (by omega), if_pos rfl]
theorem cF_2 {K a b m d : Nat} : cF c K a b m d (34 + 4 * K + 2) = m := by
  unfold cF
  rw [if_neg (by omega), if_neg (by omega), if_pos rfl]
theorem cF_3 {K a b m d : Nat} : cF c K a b m d (34 + 4 * K + 3) = d := by
  unfold cF
  rw [if_neg (by omega), if_neg (by omega), if_neg (by omega), if_pos rfl]
theorem cF_on {K a b m d k : Nat} (h : k < K) : onI (cF c K a b m d) k = onI c k := by
  unfold onI
  rw [cF_far (by omega), cF_far (by omega)]
theorem cF_OK {a b m d : Nat} (hO : OKc N K c) (hK : K < 12) (ha : a ≤ 2) (hb : a = 0 → b < N) (hm1 : 1 ≤ m) (hm : m ≤ 9999999) (hd : d ≤ 999) : OKc N (K + 1) (cF c K a b m d) := by
  obtain ⟨h1, h2, h3, h4, h5⟩ := hO
  refine ⟨⟨h1.1, h1.2.1, by omega⟩, ?_, ?_, ?_, ?_⟩
  · rw [cF_far (z := 2) (by omega), cF_far (z := 3) (by omega), cF_far (z := 4) (by omega), cF_far (z := 5) (by omega), cF_far (z := 6) (by omega), cF_far (z := 7) (by omega), cF_far (z := 8) (by omega), cF_far (z := 9) (by omega)]
    exact h2
  · intro k hk
    rw [cF_far (z := 10 + 6 * k) (by omega), cF_far (z := 10 + 6 * k + 1) (by omega), cF_far (z := 10 + 6 * k + 2) (by omega), cF_far (z := 10 + 6 * k + 3) (by omega), cF_far (z := 10 + 6 * k + 4) (by omega), cF_far (z := 10 + 6 * k + 5) (by omega)]
    exact h3 k hk
  · exact (sN_eq fun k hk => cF_far (by omega)).trans h4
  · intro k hk
    by_cases q : k = K
    · subst q
      rw [cF_0, cF_1, cF_2, cF_3]
      exact ⟨ha, hb, hm1, hm, hd⟩
    · rw [cF_far (z := 34 + 4 * k) (by omega), cF_far (z := 34 + 4 * k + 1) (by omega), cF_far (z := 34 + 4 * k + 2) (by omega), cF_far (z := 34 + 4 * k + 3) (by omega)]
      exact h5 k (by omega)
def fT (f : Fin 48 → Int32) (K : Nat) (a o m d : Int32) : Fin 48 → Int32 := upI (upI (upI (upI f (4 * K) a) (4 * K + 1) o) (4 * K + 2) m) (4 * K + 3) d
def fR (r : Fin 82 → Int32) (K : Nat) (a o m d n : Int32) : Fin 82 → Int32 := upI (upI (upI (upI (upI r (34 + 4 * K) a) (34 + 4 * K + 1) o) (34 + 4 * K + 2) m) (34 + 4 * K + 3) d) 1 n
theorem fT_at {f : Fin 48 → Int32} {K : Nat} {a o m d : Int32} (hK : K < 12) (z : Nat) : exI (fT f K a o m d) z = if z = 4 * K + 3 then d else if z = 4 * K + 2 then m else if z = 4 * K + 1 then o else if z = 4 * K then a else exI f z := by
  unfold fT
  rw [exI_up _ (by omega), exI_up _ (by omega), exI_up _ (by omega), exI_up _ (by omega)]
theorem fR_at {r : Fin 82 → Int32} {K : Nat} {a o m d n : Int32} (hK : K < 12) (z : Nat) : exI (fR r K a o m d n) z = if z = 1 then n else if z = 34 + 4 * K + 3 then d else if z = 34 + 4 * K + 2 then m else if z = 34 + 4 * K + 1 then o else if z = 34 + 4 * K then a else exI r z := by
  unfold fR
  rw [exI_up _ (by omega), exI_up _ (by omega), exI_up _ (by omega), exI_up _ (by omega), exI_up _ (by omega)]
theorem on_new {a b m d : Nat} : onI (cF c K a b m d) K = if a = 0 then nI b else -2 := by
  unfold onI
  rw [cF_0, cF_1]
theorem cF_T {T : TS} {a b m d : Nat} {o : Int32} (hT : RowT T N K c) (hN : N ≤ 4) (hK : K < 12) (ho : o = if a = 0 then nI b else -2) : RowT (ts_claims (ts_claimRows T (fT (t_claimRows T) K (nI a) o (nI m) (nI d))) (nI (K + 1))) N (K + 1) (cF c K a b m d) := by
  obtain ⟨h1, h2, h3, h4, h5⟩ := hT
  refine ⟨h1, rfl, ?_, ?_, ?_⟩
  · intro x hx hx2
    rw [cF_far (by omega)]
    exact h3 x hx hx2
  · intro k hk x hx
    rw [cF_far (by omega)]
    exact h4 k hk x hx
  · intro k hk
    by_cases q : k = K
    · subst q
      refine ⟨fun x hx hx1 => ?_, ?_⟩
      · show exI (fT _ _ _ _ _ _) _ = _
        rw [fT_at hK]
        rcases (show x = 0 ∨ x = 2 ∨ x = 3 by omega) with rfl | rfl | rfl
        · rw [if_neg (by omega), if_neg (by omega), if_neg (by omega), if_pos (by omega)]
          exact congrArg nI cF_0.symm
        · rw [if_neg (by omega), if_pos rfl, cF_2]
        · rw [if_pos rfl, cF_3]
      · show exI (fT _ _ _ _ _ _) _ = _
        rw [fT_at hK, if_neg (by omega), if_neg (by omega), if_pos rfl, on_new, ho]
    · refine ⟨fun x hx hx1 => ?_, ?_⟩
      · show exI (fT _ _ _ _ _ _) _ = _
        rw [fT_at hK, if_neg (by omega), if_neg (by omega), if_neg (by omega), if_neg (by omega), cF_far (by omega)]
        exact (h5 k (by omega)).1 x hx hx1
      · show exI (fT _ _ _ _ _ _) _ = _
        rw [fT_at hK, if_neg (by omega), if_neg (by omega), if_neg (by omega), if_neg (by omega), cF_on (by omega)]
        exact (h5 k (by omega)).2
theorem cF_R {r : Fin 82 → Int32} {a b m d : Nat} {o : Int32} (hR : RowR r N K c) (hN : N ≤ 4) (hK : K < 12) (ho : o = if a = 0 then nI b else -2) : RowR (fR r K (nI a) o (nI m) (nI d) (nI (K + 1))) N (K + 1) (cF c K a b m d) := by
  obtain ⟨h1, h2, h3, h4, h5⟩ := hR
  have far : ∀ z, z < 34 + 4 * K → z ≠ 1 → exI (fR r K (nI a) o (nI m) (nI d) (nI (K + 1))) z = exI r z := fun z q q1 => by
    rw [fR_at hK, if_neg q1, if_neg (by omega), if_neg (by omega), if_neg (by omega), if_neg (by omega)]
  refine ⟨(far 0 (by omega) (by omega)).trans h1, ?_, ?_, ?_, ?_⟩
  · rw [fR_at hK, if_pos rfl]
  · intro x hx hx2
    rw [far x (by omega) (by omega), cF_far (by omega)]
    exact h3 x hx hx2
  · intro k hk x hx
    rw [far _ (by omega) (by omega), cF_far (by omega)]
    exact h4 k hk x hx
  · intro k hk
    by_cases q : k = K
    · subst q
      refine ⟨fun x hx hx1 => ?_, ?_⟩
      · rw [fR_at hK, if_neg (by omega)]
        rcases (show x = 0 ∨ x = 2 ∨ x = 3 by omega) with rfl | rfl | rfl
        · rw [if_neg (by omega), if_neg (by omega), if_neg (by omega), if_pos (by omega)]
          exact congrArg nI cF_0.symm
        · rw [if_neg (by omega), if_pos rfl, cF_2]
        · rw [if_pos rfl, cF_3]
      · rw [fR_at hK, if_neg (by omega), if_neg (by omega), if_neg (by omega), if_pos rfl, on_new, ho]
    · refine ⟨fun x hx hx1 => ?_, ?_⟩
      · rw [far _ (by omega) (by omega), cF_far (by omega)]
        exact (h5 k (by omega)).1 x hx hx1
      · rw [far _ (by omega) (by omega), cF_on (by omega)]
        exact (h5 k (by omega)).2
theorem tc_two (T : TS) (a b : Fin 48 → Int32) : ts_claimRows (ts_claimRows T a) b = ts_claimRows T b := rfl
theorem tc_l (T : TS) (a : Fin 48 → Int32) : t_claimRows (ts_claimRows T a) = a := rfl
theorem tc_c (T : TS) (a : Fin 48 → Int32) : t_claims (ts_claimRows T a) = t_claims T := rfl
theorem C_addClaim {T : TS} (hc : t_claims T = nI K) (hK : K < 12) (x y m d : Int32) : F_X2_addClaim T x y m d = some (ts_claims (ts_claimRows T (fT (t_claimRows T) K x (if x = 0 then y else -2) m d)) (nI (K + 1))) := by
  have j : ∀ (f : Fin 48 → Int32) (o : Int32), J_X2_addClaim_36 (ts_claimRows T f) m d (nI (4 * K)) o (nI (4 * K + 1)) = some (ts_claims (ts_claimRows T (upI (upI (upI f (4 * K + 1) o) (4 * K + 2) m) (4 * K + 3) d)) (nI (K + 1))) := by
    intro f o
    unfold J_X2_addClaim_36
    rw [tc_l, wI _ (by omega) (by omega), bs, nm_eq, tc_two, tc_l, show (2 : Int32) = nI 2 from rfl, nI_add, wI _ (by omega) (by omega), bs, nm_eq, tc_two, tc_l, show (3 : Int32) = nI 3 from rfl, nI_add, wI _ (by omega) (by omega), bs, nm_eq, tc_two, nm_eq, tc_c, hc, nI_1]
  unfold F_X2_addClaim
  rw [hc, show (4 : Int32) = nI 4 from rfl, pk_mul, nm_eq, show K * 4 = 4 * K by omega, show nI (4 * K) + (0 : Int32) = nI (4 * K) from Int32.add_zero _, wI _ (by omega) (by omega), bs, nm_eq, nI_1]
  by_cases h : x = 0
  · rw [if_pos h, if_pos h, j]
    rfl
  · rw [if_neg h, if_neg h, j]
    rfl
theorem M_file2 {M : MS} {s : Fin 82 → Int32} {p : Fin 820 → Int32} {a : Int32} {K : Nat} (hK : K < 12) (h1 : exI s 1 = nI K) (x o m d : Int32) : J_X5_file_159 (ma M (upI s (34 + 4 * K) x) p a) m d (nI (34 + 4 * K)) o (nI (34 + 4 * K + 1)) = some (nI K, ma M (fR s K x o m d (nI (K + 1))) p a) := by
  have e1 : exI (upI (upI (upI (upI s (34 + 4 * K) x) (34 + 4 * K + 1) o) (34 + 4 * K + 2) m) (34 + 4 * K + 3) d) 1 = nI K := by
    rw [exI_up _ (by omega), exI_up _ (by omega), exI_up _ (by omega), exI_up _ (by omega), if_neg (by omega), if_neg (by omega), if_neg (by omega), if_neg (by omega), h1]
  unfold J_X5_file_159
  rw [ma_s, wI _ (by omega) (by omega), bs, nm_eq, ma_ss, ma_s, show (2 : Int32) = nI 2 from rfl, nI_add, wI _ (by omega) (by omega), bs, nm_eq, ma_ss, ma_s, show (3 : Int32) = nI 3 from rfl, nI_add, wI _ (by omega) (by omega), bs, nm_eq, ma_ss, ma_s, show (1 : Int32) = nI 1 from rfl, rI _ (by omega) (by omega), bs, e1, nI_add, wI _ (by omega) (by omega), bs, nm_eq, ma_ss, ma_s, rI _ (by omega) (by omega), exI_up _ (by omega), if_pos rfl, bs]
  rw [show nI (K + 1) - nI 1 = nI K from nI_pred K]
  rfl
end FILE
section FILE2
variable {S : XS} {M : MS}
theorem A_file (hr : Rel S M) (x y z t : Int32) : StepR (F_X4_file S x y z t) (F_X5_file M x y z t) := by
  have h := hr.core
  have no : StepR (J_X4_file_28 S) (J_X5_file_36 (mB M) x y z t) := by
    refine AskR.step (S := S) (M := M) ?_ hr
    unfold J_X4_file_28 J_X5_file_36 J_X5_file_41
    rw [X_none, bs, M_ref1 (mB_tr M) (by decide), bs, if_neg n10]
    exact ask_no _ _
  have no2 : StepR (J_X4_file_56 S) (J_X5_file_76 (mB M) x y z t) := by
    refine AskR.step (S := S) (M := M) ?_ hr
    unfold J_X4_file_56 J_X5_file_76 J_X5_file_81
    rw [X_none, bs, M_ref1 (mB_tr M) (by decide), bs, if_neg n10]
    exact ask_no _ _
  have go : ∀ {N K : Nat} {c : Nat → Nat} {a b : Nat}, RowT (x_now S) N K c → RowR (m_s M) N K c → OKc N K c → a ≤ 2 → x = nI a → (a = 0 → y = nI b ∧ b < N) → StepR (J_X4_file_34 S x y z t) (J_X5_file_40 (mB M) x y z t) := by
    intro N K c a b hT hR hO ha hx hy
    have hN := hO.1
    unfold J_X4_file_34 J_X5_file_40 J_X5_file_41
    rw [M_ref0 (mB_tr M), bs, if_pos rfl, show F_X5_in z.toInt64 1 9999999 = F_X4_within z 1 9999999 from M_in2 z 1 9999999, show F_X5_in t.toInt64 0 999 = F_X4_within t 0 999 from M_in2 t 0 999]
    rcases W_casesL z (l := 1) (b := 9999999) (by omega) (by omega) with e | ⟨e, m, hm1, hm2, rfl⟩
    · have e' : F_X4_within z 1 9999999 = some 0 := e
      rw [e', bs, bs, if_pos rfl, if_pos rfl]
      exact no2
    · have e' : F_X4_within (nI m) 1 9999999 = some 1 := e
      rw [e', bs, bs, if_neg n10, if_neg n10]
      rcases W_casesL t (l := 0) (b := 999) (by omega) (by omega) with e2 | ⟨e2, d, hd1, hd2, rfl⟩
      · have e2' : F_X4_within t 0 999 = some 0 := e2
        rw [e2', bs, bs, if_pos rfl, if_pos rfl]
        exact no2
      · have e2' : F_X4_within (nI d) 0 999 = some 1 := e2
        unfold J_X5_file_81
        rw [e2', bs, bs, if_neg n10, if_neg n10, hT.2.1, M_ref0 (mB_tr M), bs, if_pos rfl, mB_s, R1 hR, bs, show (12 : Int32) = nI 12 from rfl]
        by_cases hK : K = 12
        · subst hK
          refine AskR.step (S := S) (M := M) ?_ hr
          unfold J_X5_file_105
          rw [if_neg (by decide), if_pos rfl, X_none, bs, M_ref1 (mB_tr M) (by decide), bs, if_neg n10]
          exact ask_no _ _
        · obtain ⟨h0, hc⟩ := core_case hr hT hO
          obtain ⟨E, u, n, p, b2, eb, ek, hrel⟩ := act_step hr hc h0
          have hTc : t_claims (x_now S) = nI K := hT.2.1
          have ho : (if x = 0 then y else (-2 : Int32)) = if a = 0 then nI b else -2 := by
            by_cases q : a = 0
            · rw [if_pos q, if_pos (by rw [hx, q]; rfl), (hy q).1]
            · rw [if_neg q, if_neg (by rw [hx]; exact nI_ne0 (by omega) (by omega))]
          have hT2 := cF_T (a := a) (b := b) (m := m) (d := d) hT hN.2.1 (show K < 12 by omega) ho
          have hR2 := cF_R (a := a) (b := b) (m := m) (d := d) hR hN.2.1 (show K < 12 by omega) ho
          have hO2 := cF_OK (a := a) (b := b) (m := m) (d := d) hO (by omega) ha (fun q => (hy q).2) hm1 hm2 hd2
          rw [← hx] at hT2 hR2
          unfold J_X5_file_105
          rw [if_pos ((nI_ltI (by omega) (by omega)).mpr (by omega)), eb, bs, xa_t, C_addClaim hTc (by omega), bs, nm_eq, xa_st, xa_t]
          rw [if_neg (fun q => hK ((nI_eq (by omega) (by omega)).mp q)), M_ref0 (mB_tr M), bs, if_pos rfl, ek, bs, ma_s, R1 hR, bs, nm_eq, show (34 : Int32) = nI 34 from rfl, show (4 : Int32) = nI 4 from rfl, pk_mul, nI_add, show nI (34 + 4 * K) + (0 : Int32) = nI (34 + 4 * K) from Int32.add_zero _, wI _ (by omega) (by omega), bs, nm_eq, ma_ss, nI_1]
          have hk1 : exI (m_s M) 1 = nI K := hR.2.1
          have ea : t_claims (ts_claims (ts_claimRows (x_now S) (fT (t_claimRows (x_now S)) K x (if x = 0 then y else -2) (nI m) (nI d))) (nI (K + 1))) - 1 = nI K := nI_pred K
          by_cases q : x = 0
          · rw [if_pos q] at hT2 hR2 ea
            rw [if_pos q, if_pos q, M_file2 (by omega) hk1, ea]
            exact ⟨_, _, _, rfl, rfl, hrel _ _ ⟨N, K + 1, _, hT2, hR2, hO2, case_names hc hT hO⟩⟩
          · rw [if_neg q] at hT2 hR2 ea
            rw [if_neg q, if_neg q, M_file2 (by omega) hk1, ea]
            exact ⟨_, _, _, rfl, rfl, hrel _ _ ⟨N, K + 1, _, hT2, hR2, hO2, case_names hc hT hO⟩⟩
  unfold F_X4_file F_X5_file
  rw [M_begins, bs]
  rcases A_text h with ⟨e1, e2⟩ | ⟨N, K, c, hT, hR, hO, e1, e2⟩
  · rw [e1, bs, if_pos rfl, if_pos e2]
    exact no
  · have hN := hO.1
    rw [e1, bs, if_neg n10, if_neg e2, show F_X5_in x.toInt64 0 2 = F_X4_within x 0 2 from M_in2 x 0 2]
    rcases W_cases x (b := 2) (by omega) with e | ⟨e, a, ha, hxa⟩
    · have e' : F_X4_within x 0 2 = some 0 := e
      rw [e', bs, bs, if_pos rfl, if_pos rfl]
      exact no
    · have e' : F_X4_within x 0 2 = some 1 := e
      rw [e', bs, bs, if_neg n10, if_neg n10]
      by_cases q : x = 0
      · rw [if_pos q, if_pos q]
        have ha0 : a = 0 := (nI_eq (b := 0) (by omega) (by omega)).mp (hxa.symm.trans q)
        rcases A_ship h y with ⟨e3, e4⟩ | ⟨N2, K2, c2, j, hT2, hR2, hO2, hj, hyj, e3, e4⟩
        · rw [e3, e4, bs, bs, if_pos rfl, if_pos rfl]
          exact no
        · rw [e3, e4, bs, bs, if_neg n10, if_neg n10]
          exact go hT2 hR2 hO2 ha hxa (fun _ => ⟨hyj, hj⟩)
      · rw [if_neg q, if_neg q]
        exact go (b := 0) hT hR hO ha hxa (fun q0 => absurd (by rw [hxa, q0]; rfl) q)
end FILE2
