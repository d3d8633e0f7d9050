/-! ===== level 2: feed ===== -/
def mt (M : MS) (f : Fin 600 → Int32) (n : Int32) : MS := (M.1, M.2.1, M.2.2.1, M.2.2.2.1, M.2.2.2.2.1, M.2.2.2.2.2.1, M.2.2.2.2.2.2.1, M.2.2.2.2.2.2.2.1, M.2.2.2.2.2.2.2.2.1, M.2.2.2.2.2.2.2.2.2.1, M.2.2.2.2.2.2.2.2.2.2.1, M.2.2.2.2.2.2.2.2.2.2.2.1, M.2.2.2.2.2.2.2.2.2.2.2.2.1, M.2.2.2.2.2.2.2.2.2.2.2.2.2.1, f, n, M.2.2.2.2.2.2.2.2.2.2.2.2.2.2.2.2.1, M.2.2.2.2.2.2.2.2.2.2.2.2.2.2.2.2.2.1, M.2.2.2.2.2.2.2.2.2.2.2.2.2.2.2.2.2.2.1, M.2.2.2.2.2.2.2.2.2.2.2.2.2.2.2.2.2.2.2.1, M.2.2.2.2.2.2.2.2.2.2.2.2.2.2.2.2.2.2.2.2.1, M.2.2.2.2.2.2.2.2.2.2.2.2.2.2.2.2.2.2.2.2.2.1, M.2.2.2.2.2.2.2.2.2.2.2.2.2.2.2.2.2.2.2.2.2.2.1, M.2.2.2.2.2.2.2.2.2.2.2.2.2.2.2.2.2.2.2.2.2.2.2.1, M.2.2.2.2.2.2.2.2.2.2.2.2.2.2.2.2.2.2.2.2.2.2.2.2.1, M.2.2.2.2.2.2.2.2.2.2.2.2.2.2.2.2.2.2.2.2.2.2.2.2.2.1, M.2.2.2.2.2.2.2.2.2.2.2.2.2.2.2.2.2.2.2.2.2.2.2.2.2.2.1, M.2.2.2.2.2.2.2.2.2.2.2.2.2.2.2.2.2.2.2.2.2.2.2.2.2.2.2.1, M.2.2.2.2.2.2.2.2.2.2.2.2.2.2.2.2.2.2.2.2.2.2.2.2.2.2.2.2.1, M.2.2.2.2.2.2.2.2.2.2.2.2.2.2.2.2.2.2.2.2.2.2.2.2.2.2.2.2.2)
def xb (S : XS) (B : Fin 600 → Int32) (n : Int32) : XS := ((B, S.1.2), S.2.1, S.2.2.1, S.2.2.2.1, S.2.2.2.2.1, S.2.2.2.2.2.1, n, S.2.2.2.2.2.2.2.1, S.2.2.2.2.2.2.2.2.1, S.2.2.2.2.2.2.2.2.2.1, S.2.2.2.2.2.2.2.2.2.2.1, S.2.2.2.2.2.2.2.2.2.2.2)
section FEEDS
variable (M : MS) (S : XS) (f f2 B B2 : Fin 600 → Int32) (n n2 : Int32)
theorem mt_f : m_tape (mt M f n) = f := rfl
theorem mt_n : m_taped (mt M f n) = n := rfl
theorem mt_sf : ms_tape (mt M f n) f2 = mt M f2 n := rfl
theorem mt_sn : ms_taped (mt M f n) n2 = mt M f n2 := rfl
theorem mt_self : mt M (m_tape M) (m_taped M) = M := rfl
theorem xb_b : d_bytes (x_reader (xb S B n)) = B := rfl
theorem xb_n : x_tapeLength (xb S B n) = n := rfl
theorem xb_sb : xs_reader (xb S B n) (ds_bytes (x_reader (xb S B n)) B2) = xb S B2 n := rfl
theorem xb_sn : xs_tapeLength (xb S B n) n2 = xb S B n2 := rfl
theorem xb_self : xb S (d_bytes (x_reader S)) (x_tapeLength S) = S := rfl
end FEEDS
def bv (v : Int32) (j : Nat) : Int32 := (v >>> (((24 : Int32) - (8 : Int32) * nI j) &&& 31)).toInt8.toInt32
def pB (B : Fin 600 → Int32) (t : Nat) (v : Int32) : Fin 600 → Int32 := upI (upI (upI (upI B t (bv v 0)) (t + 1) (bv v 1)) (t + 2) (bv v 2)) (t + 3) (bv v 3)
theorem pB_at (B : Fin 600 → Int32) {t : Nat} (ht : t + 4 ≤ 600) (v : Int32) (z : Nat) : exI (pB B t v) z = if t ≤ z ∧ z < t + 4 then bv v (z - t) else exI B z := by
  unfold pB
  rw [exI_up _ (by omega), exI_up _ (by omega), exI_up _ (by omega), exI_up _ (by omega)]
  by_cases h3 : z = t + 3
  · rw [if_pos h3, if_pos (by omega), show z - t = 3 by omega]
  · rw [if_neg h3]
    by_cases h2 : z = t + 2
    · rw [if_pos h2, if_pos (by omega), show z - t = 2 by omega]
    · rw [if_neg h2]
      by_cases h1 : z = t + 1
      · rw [if_pos h1, if_pos (by omega), show z - t = 1 by omega]
      · rw [if_neg h1]
        by_cases h0 : z = t
        · rw [if_pos h0, if_pos (by omega), show z - t = 0 by omega]
        · rw [if_neg h0, if_neg (by omega)]
theorem X_putBytes (S : XS) (B : Fin 600 → Int32) {t : Nat} (ht : t + 4 ≤ 600) (v : Int32) : F_X4_putBytes (xb S B (nI t)) v = some (xb S (pB B t v) (nI (t + 4))) := by
  have st : ∀ (k9 : XS → Option XS) rc (B : Fin 600 → Int32) (t : Nat) (m : Int32), t < 600 → ¬ m < 0 → B_X4_putBytes_3 v k9 rc (xb S B (nI t)) m = rc (xb S (upI B t ((v >>> (m &&& 31)).toInt8.toInt32)) (nI (t + 1))) (m + (-8)) := by
    intro k9 rc B t m ht hm
    unfold B_X4_putBytes_3
    rw [if_neg hm, xb_n, show (600 : Int32) = nI 600 from rfl, if_neg (by rw [nI_leI (by omega) (by omega)]; omega), xb_b, wI _ ht (by omega), bs, nm_eq, xb_sb, nm_eq, xb_n, nI_1, xb_sn, nm_eq]
  have en : ∀ (k9 : XS → Option XS) rc S2, B_X4_putBytes_3 v k9 rc S2 (-8) = k9 S2 := by
    intro k9 rc S2
    unfold B_X4_putBytes_3
    rw [if_pos (by decide)]
  unfold F_X4_putBytes
  rw [FU_eq]
  refine ((lo2_s _ 999 _ _).trans (st _ _ _ t 24 (by omega) (by decide))).trans ?_
  rw [show (24 : Int32) + (-8) = 16 by decide]
  refine ((lo2_s _ 998 _ _).trans (st _ _ _ (t + 1) 16 (by omega) (by decide))).trans ?_
  rw [show (16 : Int32) + (-8) = 8 by decide]
  refine ((lo2_s _ 997 _ _).trans (st _ _ _ (t + 1 + 1) 8 (by omega) (by decide))).trans ?_
  rw [show (8 : Int32) + (-8) = 0 by decide]
  refine ((lo2_s _ 996 _ _).trans (st _ _ _ (t + 1 + 1 + 1) 0 (by omega) (by decide))).trans ?_
  rw [show (0 : Int32) + (-8) = -8 by decide]
  refine ((lo2_s _ 995 _ _).trans (en _ _ _)).trans ?_
  rfl
def selF (a b c d e : Int32) (j : Nat) : Int32 := if 4 ≤ j then (if 8 ≤ j then (if 12 ≤ j then (if 16 ≤ j then e else d) else c) else b) else a
section FEED2
variable {S : XS} {M : MS}
theorem A_feed (hr : Rel S M) (a b c d e : Int32) : StepR (F_X4_feed S a b c d e) (F_X5_feed M a b c d e) := by
  obtain ⟨t, ht, h1, h2, hb⟩ := hr.2.1
  have h2' : m_taped (ms_thrown M 0) = nI t := h2
  unfold F_X4_feed F_X5_feed
  rw [nm_eq, h1, h2', show (20 : Int32) = nI 20 from rfl, nI_add, show (600 : Int32) = nI 600 from rfl]
  by_cases hle : t + 20 ≤ 600
  · have hc : nI (t + 20) ≤ nI 600 := (nI_leI (by omega) (by omega)).mpr hle
    rw [if_pos hc, if_pos hc]
    obtain ⟨g, hg, eg⟩ := copyL (B_X5_feed_23 a b c d e (fun S6 => nm (ms_taped S6 ((m_taped S6) + (nI 20)) : MS) fun S7 => some (m_taped S7, S7))) (fun f => mt (ms_thrown M 0) f (nI t)) (fun S6 => nm (ms_taped S6 ((m_taped S6) + (nI 20)) : MS) fun S7 => some (m_taped S7, S7)) 0 t 20 (fun j => (selF a b c d e j >>> (((24 : Int32) - (8 : Int32) * nI (j % 4)) &&& 31)) &&& 255) (by omega) (by omega) (m_tape M) (by
      intro rc f j hj hI
      have key : ∀ (k9 : MS → Option (Int32 × MS)) (w : Int32), J_X5_feed_76 k9 rc (mt (ms_thrown M 0) f (nI t)) a b c d e (nI j) w = rc (mt (ms_thrown M 0) (upI f (t + j) ((w >>> (((24 : Int32) - (8 : Int32) * nI (j % 4)) &&& 31)) &&& 255)) (nI t)) (nI (j + 1)) := by
        intro k9 w
        unfold J_X5_feed_76
        rw [show (4 : Int32) = nI 4 from rfl, rmI_N (by omega) (by omega) (by omega), bs, mt_f, mt_n, nI_add, wI _ (by omega) (by omega), bs, nm_eq, mt_sf, nm_eq, nI_1]
      unfold B_X5_feed_23
      rw [show 0 + j = j by omega, key, key, key, key, key, show (20 : Int32) = nI 20 from rfl, show (4 : Int32) = nI 4 from rfl, show (8 : Int32) = nI 8 from rfl, show (12 : Int32) = nI 12 from rfl, show (16 : Int32) = nI 16 from rfl, if_neg (by rw [nI_leI (by omega) (by omega)]; omega)]
      unfold selF
      by_cases q4 : 4 ≤ j
      · rw [if_pos ((nI_leI (by omega) (by omega)).mpr q4), if_pos q4]
        by_cases q8 : 8 ≤ j
        · rw [if_pos ((nI_leI (by omega) (by omega)).mpr q8), if_pos q8]
          by_cases q12 : 12 ≤ j
          · rw [if_pos ((nI_leI (by omega) (by omega)).mpr q12), if_pos q12]
            by_cases q16 : 16 ≤ j
            · rw [if_pos ((nI_leI (by omega) (by omega)).mpr q16), if_pos q16]
            · rw [if_neg (by rw [nI_leI (by omega) (by omega)]; omega), if_neg q16]
          · rw [if_neg (by rw [nI_leI (by omega) (by omega)]; omega), if_neg q12]
        · rw [if_neg (by rw [nI_leI (by omega) (by omega)]; omega), if_neg q8]
      · rw [if_neg (by rw [nI_leI (by omega) (by omega)]; omega), if_neg q4]) (by
      intro rc f hI
      have key : ∀ (k9 : MS → Option (Int32 × MS)) S2, B_X5_feed_23 a b c d e k9 rc S2 (nI (0 + 20)) = k9 S2 := by
        intro k9 S2
        unfold B_X5_feed_23
        rw [if_pos (by decide)]
      exact key _ _)
    have e0 : mt (ms_thrown M 0) (m_tape M) (nI t) = ms_thrown M 0 := by
      rw [← h2']
      exact mt_self (ms_thrown M 0)
    rw [e0] at eg
    have es : S = xb S (d_bytes (x_reader S)) (nI t) := by
      rw [← h1]
      exact (xb_self S).symm
    have eg' : lo2 (B_X5_feed_23 a b c d e (fun S6 => nm (ms_taped S6 ((m_taped S6) + (nI 20)) : MS) fun S7 => some (m_taped S7, S7))) FU (ms_thrown M 0) 0 = _ := eg
    rw [eg', nm_eq, mt_n, nI_add, mt_sn, mt_n]
    have hp : ∀ k9 : XS → Option (Int32 × XS), (F_X4_putBytes S a).bind (fun q1 => (F_X4_putBytes q1 b).bind fun q2 => (F_X4_putBytes q2 c).bind fun q3 => (F_X4_putBytes q3 d).bind fun q4 => (F_X4_putBytes q4 e).bind k9) = k9 (xb S (pB (pB (pB (pB (pB (d_bytes (x_reader S)) t a) (t + 4) b) (t + 4 + 4) c) (t + 4 + 4 + 4) d) (t + 4 + 4 + 4 + 4) e) (nI (t + 4 + 4 + 4 + 4 + 4))) := by
      intro k9
      have ea := X_putBytes S (d_bytes (x_reader S)) (t := t) (by omega) a
      rw [← es] at ea
      rw [ea, bs, X_putBytes _ _ (by omega), bs, X_putBytes _ _ (by omega), bs, X_putBytes _ _ (by omega), bs, X_putBytes _ _ (by omega), bs]
    rw [hp, xb_n]
    refine ⟨_, _, _, rfl, rfl, hr.1, ⟨t + 20, hle, rfl, rfl, fun k hk => ?_⟩, hr.2.2⟩
    rw [xb_b, mt_f, hg k (by omega), pB_at _ (by omega), pB_at _ (by omega), pB_at _ (by omega), pB_at _ (by omega), pB_at _ (by omega)]
    by_cases q : k < t
    · rw [if_neg (by omega), if_neg (by omega), if_neg (by omega), if_neg (by omega), if_neg (by omega), if_neg (by omega)]
      exact hb k q
    · rw [if_pos (show t ≤ k ∧ k < t + 20 by omega)]
      unfold selF
      by_cases q16 : t + 16 ≤ k
      · rw [if_pos (by omega), if_pos (by omega), if_pos (by omega), if_pos (by omega), if_pos (by omega), show k - (t + 4 + 4 + 4 + 4) = (k - t) % 4 by omega]
        exact ⟨_, rfl, rfl⟩
      · rw [if_neg (by omega)]
        by_cases q12 : t + 12 ≤ k
        · rw [if_pos (by omega), if_pos (by omega), if_pos (by omega), if_pos (by omega), if_neg (by omega), show k - (t + 4 + 4 + 4) = (k - t) % 4 by omega]
          exact ⟨_, rfl, rfl⟩
        · rw [if_neg (by omega)]
          by_cases q8 : t + 8 ≤ k
          · rw [if_pos (by omega), if_pos (by omega), if_pos (by omega), if_neg (by omega), show k - (t + 4 + 4) = (k - t) % 4 by omega]
            exact ⟨_, rfl, rfl⟩
          · rw [if_neg (by omega)]
            by_cases q4 : t + 4 ≤ k
            · rw [if_pos (by omega), if_pos (by omega), if_neg (by omega), show k - (t + 4) = (k - t) % 4 by omega]
              exact ⟨_, rfl, rfl⟩
            · rw [if_neg (by omega), if_pos (by omega), if_neg (by omega), show k - t = (k - t) % 4 by omega, Nat.mod_mod]
              exact ⟨_, rfl, rfl⟩
  · have hc : ¬ nI (t + 20) ≤ nI 600 := by
      rw [nI_leI (by omega) (by omega)]
      exact hle
    rw [if_neg hc, if_neg hc]
    exact ⟨_, _, _, rfl, rfl, hr⟩
end FEED2
