/-! ===== level 2: judged ===== -/
section JUDGE
variable {S : XS} {M : MS} {N K : Nat} {c : Nat → Nat}
theorem sd_d (M : MS) (v : Int64) (w : Fin 82 → Int32) (o u : Fin 16 → Int64) (p : Fin 64 → Int64) : m_drawn (sc (ms_drawn M v) w o u p) = v := rfl
def sdx (M : MS) (v : Int64) (w : Fin 82 → Int32) (o u : Fin 16 → Int64) (p : Fin 64 → Int64) : MS := (M.1, M.2.1, M.2.2.1, M.2.2.2.1, M.2.2.2.2.1, M.2.2.2.2.2.1, w, M.2.2.2.2.2.2.2.1, M.2.2.2.2.2.2.2.2.1, M.2.2.2.2.2.2.2.2.2.1, M.2.2.2.2.2.2.2.2.2.2.1, M.2.2.2.2.2.2.2.2.2.2.2.1, M.2.2.2.2.2.2.2.2.2.2.2.2.1, M.2.2.2.2.2.2.2.2.2.2.2.2.2.1, M.2.2.2.2.2.2.2.2.2.2.2.2.2.2.1, M.2.2.2.2.2.2.2.2.2.2.2.2.2.2.2.1, M.2.2.2.2.2.2.2.2.2.2.2.2.2.2.2.2.1, M.2.2.2.2.2.2.2.2.2.2.2.2.2.2.2.2.2.1, M.2.2.2.2.2.2.2.2.2.2.2.2.2.2.2.2.2.2.1, M.2.2.2.2.2.2.2.2.2.2.2.2.2.2.2.2.2.2.2.1, M.2.2.2.2.2.2.2.2.2.2.2.2.2.2.2.2.2.2.2.2.1, M.2.2.2.2.2.2.2.2.2.2.2.2.2.2.2.2.2.2.2.2.2.1, M.2.2.2.2.2.2.2.2.2.2.2.2.2.2.2.2.2.2.2.2.2.2.1, M.2.2.2.2.2.2.2.2.2.2.2.2.2.2.2.2.2.2.2.2.2.2.2.1, M.2.2.2.2.2.2.2.2.2.2.2.2.2.2.2.2.2.2.2.2.2.2.2.2.1, M.2.2.2.2.2.2.2.2.2.2.2.2.2.2.2.2.2.2.2.2.2.2.2.2.2.1, o, u, p, v)
theorem sdx_a (M : MS) (v : Int64) (w : Fin 82 → Int32) (o u : Fin 16 → Int64) (p : Fin 64 → Int64) : ms_drawn (sc M w o u p) v = sdx M v w o u p := rfl
theorem sdx_b (M : MS) (v : Int64) (w : Fin 82 → Int32) (o u : Fin 16 → Int64) (p : Fin 64 → Int64) : sc (ms_drawn M v) w o u p = sdx M v w o u p := rfl
theorem sc_dr (M : MS) (v : Int64) (w : Fin 82 → Int32) (o u : Fin 16 → Int64) (p : Fin 64 → Int64) : ms_drawn (sc M w o u p) v = sc (ms_drawn M v) w o u p := (sdx_a M v w o u p).trans (sdx_b M v w o u p).symm
theorem dr_dr (M : MS) (v v2 : Int64) : ms_drawn (ms_drawn M v) v2 = ms_drawn M v2 := rfl
theorem sd_s (M : MS) (v v2 : Int64) (w : Fin 82 → Int32) (o u : Fin 16 → Int64) (p : Fin 64 → Int64) : ms_drawn (sc (ms_drawn M v) w o u p) v2 = sc (ms_drawn M v2) w o u p := by
  rw [sc_dr, dr_dr]
theorem sd_m (M : MS) (v : Int64) : m_s (ms_drawn M v) = m_s M := rfl
theorem sd_v (M : MS) (v : Int64) (w : Fin 82 → Int32) (o u : Fin 16 → Int64) (p : Fin 64 → Int64) : mv (sc (ms_drawn (mB M) v) w o u p) = mv M := rfl
theorem M_draw {x n : Nat} (hx : x < 2147483647) (h0 : 0 < N) (hN : N ≤ 4) (w : Fin 82 → Int32) (o u : Fin 16 → Int64) (p : Fin 64 → Int64) : F_X5_draw (sc (ms_drawn M (lN (dx x n))) w o u p) (nI N) = some (nI (dx x (n + 1) % N), sc (ms_drawn M (lN (dx x (n + 1)))) w o u p) := by
  have hlt := dx_lt hx (n + 1)
  unfold F_X5_draw
  rw [sd_d, Int64.mul_comm, dx_step hx, bs, nm_eq, sd_s, sd_d, nI_l (by omega), rmL_N (by omega) h0 (by omega), bs, lN_i]
theorem M_zero {r : Fin 82 → Int32} (hR : RowR r N K c) (hN : N ≤ 4) (hK : K ≤ 12) (M : MS) (y : Int32) (o u : Fin 16 → Int64) (p : Fin 64 → Int64) (k9 : MS → Option (Int64 × MS)) : ∃ r2, RowR r2 N K (cD c (fun _ => 0)) ∧ lo2 (B_X5_netJudged_6 y k9) FU (sc M r o u p) (0 : Int32) = k9 (sc M r2 o u p) := by
  obtain ⟨r2, ⟨u2, h1, h2⟩, e⟩ := loopE (fun fu i (s : Fin 82 → Int32) => lo2 (B_X5_netJudged_6 y k9) fu (sc M s o u p) (nI i)) (fun s => k9 (sc M s o u p)) N (fun n s => ∃ u, RowR s N K (cD c u) ∧ ∀ k, k < n → u k = 0) (by
    intro fu i s hi ⟨t, h1, h2⟩
    refine ⟨_, ⟨_, cD_R h1 hN hK hi 0, fun k hk => ?_⟩, ?_⟩
    · by_cases q : k = i
      · rw [if_pos q]
      · rw [if_neg q, h2 k (by omega)]
    · have key : ∀ rc, B_X5_netJudged_6 y k9 rc (sc M s o u p) (nI i) = rc (sc M (upI s (10 + 6 * i + 1) (nI 0)) o u p) (nI (i + 1)) := by
        intro rc
        unfold B_X5_netJudged_6
        rw [sc_w, R0 h1, bs, if_neg (by rw [nI_leI (by omega) (by omega)]; omega), show (10 : Int32) = nI 10 from rfl, show (6 : Int32) = nI 6 from rfl, pk_mul, nI_add, nI_1, wI _ (by omega) (by omega), bs, nm_eq, sc_sw, nm_eq, nI_1]
        rfl
      exact (lo2_s _ _ _ _).trans (key _)) (by
    intro fu s ⟨t, h1, h2⟩
    have key : ∀ rc, B_X5_netJudged_6 y k9 rc (sc M s o u p) (nI N) = k9 (sc M s o u p) := by
      intro rc
      unfold B_X5_netJudged_6
      rw [sc_w, R0 h1, bs, if_pos (by rw [nI_leI (by omega) (by omega)]; omega)]
    exact (lo2_s _ _ _ _).trans (key _)) N FU 0 r (by omega) (by rw [FU_eq]; omega) ⟨fun k => c (10 + 6 * k + 1), by rw [cD_self]; exact hR, fun k hk => absurd hk (Nat.not_lt_zero k)⟩
  exact ⟨r2, cD_congR h1 hN h2, e⟩
theorem M_netJudged (hR : RowR (m_s M) N K c) (hO : OKc N K c) {a x : Nat} (ha : a < N) (hx : x < 2147483647) (w : Fin 82 → Int32) (o u : Fin 16 → Int64) (p : Fin 64 → Int64) : ∃ w2 o2 u2 p2, F_X5_netJudged (sc (ms_drawn M (lN x)) w o u p) (nI a) = some (ntL N K (cD c (dt N x 10)) a, sc (ms_drawn M (lN (dx x 10))) w2 o2 u2 p2) := by
  have hN := hO.1
  have h0 : 0 < N := by omega
  obtain ⟨r1, hr1, e1⟩ := M_zero hR hN.2.1 hN.2.2 (ms_drawn M (lN x)) (nI a) o u p (fun S6 => lo2 (B_X5_netJudged_39 (nI a) (fun S14 => (F_X5_paysAll S14).bind fun q15 => (F_X5_netOf q15 (nI a)).bind fun q16 => some (q16, q15))) FU S6 (0 : Int32))
  obtain ⟨r2, hr2, e2⟩ := loopE (fun fu n (s : Fin 82 → Int32) => lo2 (B_X5_netJudged_39 (nI a) (fun S14 => (F_X5_paysAll S14).bind fun q15 => (F_X5_netOf q15 (nI a)).bind fun q16 => some (q16, q15))) fu (sc (ms_drawn M (lN (dx x n))) s o u p) (nI n)) (fun s => (F_X5_paysAll (sc (ms_drawn M (lN (dx x 10))) s o u p)).bind fun q15 => (F_X5_netOf q15 (nI a)).bind fun q16 => some (q16, q15)) 10 (fun n s => RowR s N K (cD c (dt N x n))) (by
    intro fu n s hn h1
    have hl : dx x (n + 1) % N < N := Nat.mod_lt _ h0
    refine ⟨_, cD_R h1 hN.2.1 hN.2.2 hl (dt N x n (dx x (n + 1) % N) + 1), ?_⟩
    have key : ∀ (k9 : MS → Option (Int64 × MS)) rc, B_X5_netJudged_39 (nI a) k9 rc (sc (ms_drawn M (lN (dx x n))) s o u p) (nI n) = rc (sc (ms_drawn M (lN (dx x (n + 1)))) (upI s (10 + 6 * (dx x (n + 1) % N) + 1) (nI (dt N x n (dx x (n + 1) % N) + 1))) o u p) (nI (n + 1)) := by
      intro k9 rc
      unfold B_X5_netJudged_39
      rw [show (10 : Int32) = nI 10 from rfl, if_neg (by rw [nI_leI (by omega) (by omega)]; omega), sc_w, R0 h1, bs, M_draw hx h0 hN.2.1, bs, nm_eq, show (6 : Int32) = nI 6 from rfl, pk_mul, nI_add, nI_1, sc_w, rI _ (by omega) (by omega), h1.2.2.2.1 _ hl 1 (by omega), cD_ten (by omega), bs, nI_1, wI _ (by omega) (by omega), bs, nm_eq, sc_sw, nm_eq, nI_1]
    exact (lo2_s _ _ _ _).trans (key _ _)) (by
    intro fu s h1
    have key : ∀ (k9 : MS → Option (Int64 × MS)) rc S2, B_X5_netJudged_39 (nI a) k9 rc S2 (nI 10) = k9 S2 := by
      intro k9 rc S2
      unfold B_X5_netJudged_39
      rw [if_pos (by decide)]
    exact (lo2_s _ _ _ _).trans (key _ _ _)) 10 FU 0 r1 (by omega) (by rw [FU_eq]; omega) hr1
  have hO2 : OKc N K (cD c (dt N x 10)) := cD_OK hO (dt_sum h0 10)
  obtain ⟨o2, u2, p2, e, hP⟩ := M_paysAll (M := ms_drawn M (lN (dx x 10))) (p := p) hr2 hO2 o u
  refine ⟨r2, o2, u2, p2, ?_⟩
  unfold F_X5_netJudged
  rw [M_lays, bs, sd_m]
  refine e1.trans (e2.trans ?_)
  rw [e, bs, M_netOf hr2 hO2 hP ha, bs]
theorem M_less (x y : Int64) : F_X5_lesser x y = some (if y < x then y else x) := by
  unfold F_X5_lesser
  by_cases h : y < x
  · rw [if_pos h, if_pos ((lg_cmp_ge x y).mpr (Int64.le_of_lt h))]
  · rw [if_neg h]
    by_cases h2 : 0 ≤ lg_cmp x y
    · rw [if_pos h2]
      have h3 := (lg_cmp_ge x y).mp h2
      have h4 : x = y := by
        rw [Int64.lt_iff_toInt_lt] at h
        rw [Int64.le_iff_toInt_le] at h3
        exact Int64.toInt_inj.mp (by omega)
      rw [h4]
    · rw [if_neg h2]
theorem M_more (x y : Int64) : F_X5_greater x y = some (if y < x then x else y) := by
  unfold F_X5_greater
  by_cases h : y < x
  · rw [if_pos h, if_neg (fun q => by
      have h3 := (lg_cmp_le x y).mp q
      rw [Int64.lt_iff_toInt_lt] at h
      rw [Int64.le_iff_toInt_le] at h3
      omega)]
  · rw [if_neg h, if_pos ((lg_cmp_le x y).mpr (by
      rw [Int64.lt_iff_toInt_lt] at h
      rw [Int64.le_iff_toInt_le]
      omega))]
/-- one judge on both sides -/
theorem X_judge {R : RS} {c' : Nat → Nat} (hT : RowT (r_told R) N K c') (hO : OKc N K c) (hc : ∀ t, cD c' t = cD c t) {a x : Nat} (ha : a < N) (hx : x < 2147483647) : ∃ R2 T2, F_X2_drawFaults (r_told R) (lN x) = some (lN (dx x 10), T2) ∧ F_X1_settle (rs_told R T2) = some R2 ∧ F_X1_netOf R2 (nI a) = some (ntL N K (cD c (dt N x 10)) a) ∧ RowT (r_told R2) N K (cD c (dt N x 10)) := by
  have hN := hO.1
  have h0 : 0 < N := by omega
  obtain ⟨T2, h2, e⟩ := X_draw hT hN.2.1 h0 hx
  rw [hc] at h2
  have hO2 : OKc N K (cD c (dt N x 10)) := cD_OK hO (dt_sum h0 10)
  obtain ⟨wt, lk, hW, es⟩ := X_settle R h2 hO2
  exact ⟨_, T2, e, es, C_netOf h2 hO2 hW ha, h2⟩
theorem judge_loop (hR : RowR (m_s M) N K c) (hO : OKc N K c) {a m : Nat} (ha : a < N) (hm : m ≤ 50) (y : Int32) : ∀ (n j fu : Nat), j + n = m → n < fu → ∀ (R : RS) (c' : Nat → Nat) (x : Nat) (s l g : Int64) (w : Fin 82 → Int32) (o u : Fin 16 → Int64) (p : Fin 64 → Int64), RowT (r_told R) N K c' → (∀ t, cD c' t = cD c t) → x < 2147483647 → ∃ z R2 v w2 o2 u2 p2,
    lo6 (B_X4_judged_81 (nI a) (nI m) y (fun S20 z21 z22 z23 => if y = 0 then some (z21, S20) else if y = (1 : Int32) then some (z22, S20) else some (z23, S20))) fu (xs_reckoning (xT S 0) R) (lN x) s l g (nI j) = some (z, xs_reckoning (xT S 0) R2) ∧
    lo5 (B_X5_judged_97 (nI a) (nI m) y (fun S12 z13 z14 z15 => if y = 0 then some (z13, S12) else if y = (1 : Int32) then some (z14, S12) else some (z15, S12))) fu (sc (ms_drawn (mB M) (lN x)) w o u p) s l g (nI j) = some (z, sc (ms_drawn (mB M) v) w2 o2 u2 p2) := by
  intro n
  induction n with
  | zero =>
    intro j fu hj hf R c' x s l g w o u p hT hc hx
    obtain ⟨fu, rfl⟩ : ∃ f, fu = f + 1 := ⟨fu - 1, by omega⟩
    have hle : nI m ≤ nI j := by
      rw [nI_leI (by omega) (by omega)]
      omega
    have k1 : ∀ (k9 : XS → Int64 → Int64 → Int64 → Option (Int64 × XS)) rc S2 v, B_X4_judged_81 (nI a) (nI m) y k9 rc S2 v s l g (nI j) = k9 S2 s l g := by
      intro k9 rc S2 v
      unfold B_X4_judged_81
      rw [if_pos hle]
    have k2 : ∀ (k9 : MS → Int64 → Int64 → Int64 → Option (Int64 × MS)) rc S2, B_X5_judged_97 (nI a) (nI m) y k9 rc S2 s l g (nI j) = k9 S2 s l g := by
      intro k9 rc S2
      unfold B_X5_judged_97
      rw [if_pos hle]
    refine ⟨if y = 0 then s else if y = (1 : Int32) then l else g, R, lN x, w, o, u, p, ((lo6_s _ _ _ _ _ _ _ _).trans (k1 _ _ _ _)).trans ?_, ((lo5_s _ _ _ _ _ _ _).trans (k2 _ _ _)).trans ?_⟩
    · by_cases h0 : y = 0
      · rw [if_pos h0, if_pos h0]
      · rw [if_neg h0, if_neg h0]
        by_cases h1 : y = 1
        · rw [if_pos h1, if_pos h1]
        · rw [if_neg h1, if_neg h1]
    · by_cases h0 : y = 0
      · rw [if_pos h0, if_pos h0]
      · rw [if_neg h0, if_neg h0]
        by_cases h1 : y = 1
        · rw [if_pos h1, if_pos h1]
        · rw [if_neg h1, if_neg h1]
  | succ n ih =>
    intro j fu hj hf R c' x s l g w o u p hT hc hx
    obtain ⟨fu, rfl⟩ : ∃ f, fu = f + 1 := ⟨fu - 1, by omega⟩
    have hle : ¬ nI m ≤ nI j := by
      rw [nI_leI (by omega) (by omega)]
      omega
    have hRB : RowR (m_s (mB M)) N K c := hR
    obtain ⟨R2, T2, e1, e2, e3, hT2⟩ := X_judge hT hO hc ha hx
    obtain ⟨w2, o2, u2, p2, em⟩ := M_netJudged (M := mB M) hRB hO ha hx w o u p
    obtain ⟨q, hq⟩ : ∃ q, q = ntL N K (cD c (dt N x 10)) a := ⟨_, rfl⟩
    rw [← hq] at e3 em
    have hx2 := dx_lt hx 10
    by_cases h0 : nI j = 0
    · obtain ⟨z, R3, v3, w3, o3, u3, p3, f1, f2⟩ := ih (j + 1) fu (by omega) (by omega) R2 _ (dx x 10) (s + q) q q w2 o2 u2 p2 hT2 (fun t => cD_two t) hx2
      refine ⟨z, R3, v3, w3, o3, u3, p3, ?_, ?_⟩
      · have k1 : ∀ (k9 : XS → Int64 → Int64 → Int64 → Option (Int64 × XS)) rc, B_X4_judged_81 (nI a) (nI m) y k9 rc (xs_reckoning (xT S 0) R) (lN x) s l g (nI j) = rc (xs_reckoning (xT S 0) R2) (lN (dx x 10)) (s + q) q q (nI (j + 1)) := by
          intro k9 rc
          unfold B_X4_judged_81 J_X4_judged_142 J_X4_judged_161
          rw [if_neg hle, xK_k, e1, bs, nm_eq, xK_two, xK_k, e2, bs, nm_eq, xK_two, xK_k, e3, bs, nm_eq, if_pos h0, if_pos h0, nm_eq, nI_1]
        exact ((lo6_s _ _ _ _ _ _ _ _).trans (k1 _ _)).trans f1
      · have k2 : ∀ (k9 : MS → Int64 → Int64 → Int64 → Option (Int64 × MS)) rc, B_X5_judged_97 (nI a) (nI m) y k9 rc (sc (ms_drawn (mB M) (lN x)) w o u p) s l g (nI j) = rc (sc (ms_drawn (mB M) (lN (dx x 10))) w2 o2 u2 p2) (s + q) q q (nI (j + 1)) := by
          intro k9 rc
          unfold B_X5_judged_97 J_X5_judged_134 J_X5_judged_153
          rw [if_neg hle, em, bs, nm_eq, if_pos h0, if_pos h0, nm_eq, nI_1]
        exact ((lo5_s _ _ _ _ _ _ _).trans (k2 _ _)).trans f2
    · obtain ⟨z, R3, v3, w3, o3, u3, p3, f1, f2⟩ := ih (j + 1) fu (by omega) (by omega) R2 _ (dx x 10) (s + q) (if q < l then q else l) (if q < g then g else q) w2 o2 u2 p2 hT2 (fun t => cD_two t) hx2
      refine ⟨z, R3, v3, w3, o3, u3, p3, ?_, ?_⟩
      · have k1 : ∀ (k9 : XS → Int64 → Int64 → Int64 → Option (Int64 × XS)) rc, B_X4_judged_81 (nI a) (nI m) y k9 rc (xs_reckoning (xT S 0) R) (lN x) s l g (nI j) = rc (xs_reckoning (xT S 0) R2) (lN (dx x 10)) (s + q) (if q < l then q else l) (if q < g then g else q) (nI (j + 1)) := by
          intro k9 rc
          unfold B_X4_judged_81 J_X4_judged_142 J_X4_judged_161
          rw [if_neg hle, xK_k, e1, bs, nm_eq, xK_two, xK_k, e2, bs, nm_eq, xK_two, xK_k, e3, bs, nm_eq, if_neg h0, nm_eq, if_neg h0, nm_eq, nm_eq, nI_1]
        exact ((lo6_s _ _ _ _ _ _ _ _).trans (k1 _ _)).trans f1
      · have k2 : ∀ (k9 : MS → Int64 → Int64 → Int64 → Option (Int64 × MS)) rc, B_X5_judged_97 (nI a) (nI m) y k9 rc (sc (ms_drawn (mB M) (lN x)) w o u p) s l g (nI j) = rc (sc (ms_drawn (mB M) (lN (dx x 10))) w2 o2 u2 p2) (s + q) (if q < l then q else l) (if q < g then g else q) (nI (j + 1)) := by
          intro k9 rc
          unfold B_X5_judged_97 J_X5_judged_134 J_X5_judged_153
          rw [if_neg hle, em, bs, nm_eq, if_neg h0, M_less, bs, if_neg h0, M_more, bs, nm_eq, nI_1]
        exact ((lo5_s _ _ _ _ _ _ _).trans (k2 _ _)).trans f2
theorem ask_judge {α : Type} (v : α) (R : RS) (d : Int64) (w : Fin 82 → Int32) (o u : Fin 16 → Int64) (p : Fin 64 → Int64) : AskR S M (some (v, xs_reckoning (xT S 0) R)) (some (v, sc (ms_drawn (mB M) d) w o u p)) := ⟨v, _, _, rfl, rfl, xK_v S 0 R, sd_v M d w o u p, rfl, rfl⟩
theorem sd_self (M : MS) (v : Int64) : sc (ms_drawn M v) (m_w M) (m_owed M) (m_out M) (m_paid M) = ms_drawn M v := rfl
theorem A_judged (h : Core (x_now S) (m_told M) (m_s M)) (x y z t : Int32) : AskR S M (F_X4_judged S x y z t) (F_X5_judged M x y z t) := by
  have no : AskR S M (J_X4_judged_18 S) (J_X5_judged_26 (mB M) x y z t) := by
    unfold J_X4_judged_18 J_X5_judged_26 J_X5_judged_31 J_X5_judged_75
    rw [X_nothing, bs, M_ref1 (mB_tr M) (by decide), bs, if_neg n10]
    exact ask_no _ _
  have no2 : AskR S M (J_X4_judged_44 S) (J_X5_judged_63 (mB M) x y z t) := by
    unfold J_X4_judged_44 J_X5_judged_63 J_X5_judged_68 J_X5_judged_75
    rw [X_nothing, bs, M_ref1 (mB_tr M) (by decide), bs, if_neg n10]
    exact ask_no _ _
  unfold F_X4_judged F_X5_judged
  rw [M_begins, bs]
  rcases A_ship h x with ⟨e1, e2⟩ | ⟨N, K, c, a, hT, hR, hO, ha, rfl, e1, e2⟩
  · rw [e1, e2, bs, bs, if_pos rfl, if_pos rfl]
    exact no
  · rw [e1, e2, bs, bs, if_neg n10, if_neg n10, show F_X5_in t.toInt64 0 2 = F_X4_within t 0 2 from M_in2 t 0 2]
    rcases W_any t 0 2 with e | e
    · rw [e, bs, bs, if_pos rfl, if_pos rfl]
      exact no
    · rw [e, bs, bs, if_neg n10, if_neg n10]
      unfold J_X5_judged_31
      rw [M_ref0 (mB_tr M), bs, if_pos rfl, show F_X5_in y.toInt64 1 2147483646 = F_X4_within y 1 2147483646 from M_in2 y 1 2147483646, show F_X5_in z.toInt64 1 50 = F_X4_within z 1 50 from M_in2 z 1 50]
      rcases W_casesL y (l := 1) (b := 2147483646) (by omega) (by omega) with e3 | ⟨e3, b, hb1, hb2, rfl⟩
      · have e3' : F_X4_within y 1 2147483646 = some 0 := e3
        rw [e3', bs, bs, if_pos rfl, if_pos rfl]
        exact no2
      · have e3' : F_X4_within (nI b) 1 2147483646 = some 1 := e3
        rw [e3', bs, bs, if_neg n10, if_neg n10]
        rcases W_casesL z (l := 1) (b := 50) (by omega) (by omega) with e4 | ⟨e4, m, hm1, hm2, rfl⟩
        · have e4' : F_X4_within z 1 50 = some 0 := e4
          rw [e4', bs, bs, if_pos rfl, if_pos rfl]
          exact no2
        · have e4' : F_X4_within (nI m) 1 50 = some 1 := e4
          have hT2 : RowT (r_told (rs_told (x_reckoning (xT S 0)) (x_now (xT S 0)))) N K c := hT
          obtain ⟨v, R2, d2, w2, o2, u2, p2, f1, f2⟩ := judge_loop (S := S) (M := M) hR hO ha hm2 t m 0 FU (by omega) (by rw [FU_eq]; omega) _ c b 0 0 0 (m_w (mB M)) (m_owed (mB M)) (m_out (mB M)) (m_paid (mB M)) hT2 (fun _ => rfl) (by omega)
          rw [sd_self] at f2
          unfold J_X5_judged_68 F_X1_take
          rw [e4', bs, bs, if_neg n10, if_neg n10, X_accept, bs, C_copy, bs, nm_eq, bs, nm_eq, nm_eq, nI_l (by omega), M_ref0 (mB_tr M), bs, if_pos rfl, nm_eq]
          rw [nI_0] at f1 f2
          rw [f1, f2]
          exact ask_judge _ _ _ _ _ _ _
end JUDGE
