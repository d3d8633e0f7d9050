/-! ===== level 2: what is asked of the model's row ===== -/
theorem sumM {β σ : Type} (B : (σ → Int64 → Int32 → Option β) → σ → Int64 → Int32 → Option β) (S : σ) (k9 : σ → Int64 → Option β) (f : Nat → Nat) (n : Nat) (hn : n < 900) (h1 : ∀ rc x j, j < n → B rc S x (nI j) = rc S (x + lN (f j)) (nI (j + 1))) (h3 : ∀ rc x, B rc S x (nI n) = k9 S x) (v : Int64) : lo3 B FU S v 0 = k9 S (v + lN (sN f n)) := by
  refine loopR (fun fu j (a : Int64) => lo3 B fu S a (nI j)) _ n (fun j a => a = v + lN (sN f j)) ?_ ?_ n FU 0 v (by omega) (by rw [FU_eq]; omega) (Int64.add_zero v).symm
  · intro fu j a hj e
    refine ⟨a + lN (f j), ?_, (lo3_s _ _ _ _ _).trans (h1 _ _ _ hj)⟩
    rw [e, Int64.add_assoc, lN_add, ← sN_s f j]
  · intro fu a e
    rw [← e]
    exact (lo3_s _ _ _ _ _).trans (h3 _ _)
def PdOK (N K : Nat) (c : Nat → Nat) (p : Fin 64 → Int64) : Prop := ∀ i, i < N → ∀ q, q < 16 → exL p (16 * i + q) = lN (payN N K c i q)
section MASK
variable {M : MS} {w : Fin 82 → Int32} {N K : Nat} {c : Nat → Nat} {o u : Fin 16 → Int64} {p : Fin 64 → Int64}
theorem M_lays : F_X5_lays (sc M w o u p) = some (sc M (m_s M) o u p) := by
  unfold F_X5_lays
  refine loopR (fun fu q (s : Fin 82 → Int32) => lo2 (B_X5_lays_2 (fun S5 => some S5)) fu (sc M s o u p) (nI q)) _ 82 (fun n s => ∀ q, q < n → exI s q = exI (m_s M) q) ?_ ?_ 82 FU 0 w (by omega) (by rw [FU_eq]; omega) (fun q hq => absurd hq (Nat.not_lt_zero q))
  · intro fu q s hq hI
    have key : ∀ k9 rc, B_X5_lays_2 k9 rc (sc M s o u p) (nI q) = rc (sc M (upI s q (exI (m_s M) q)) o u p) (nI (q + 1)) := by
      intro k9 rc
      unfold B_X5_lays_2
      rw [show (82 : Int32) = nI 82 from rfl, if_neg (by rw [nI_leI (by omega) (by omega)]; omega), sc_s, rI _ hq (by omega), bs, sc_w, wI s hq (by omega), bs, nm_eq, sc_sw, nm_eq, nI_1]
    refine ⟨upI s q (exI (m_s M) q), fun z hz => ?_, (lo2_s _ _ _ _).trans (key _ _)⟩
    rw [exI_up s hq]
    by_cases h : z = q
    · rw [if_pos h, h]
    · rw [if_neg h]
      exact hI z (by omega)
  · intro fu s hI
    have key : ∀ k9 rc, B_X5_lays_2 k9 rc (sc M s o u p) (nI 82) = k9 (sc M s o u p) := by
      intro k9 rc
      unfold B_X5_lays_2
      rw [if_pos (by decide)]
    refine ((lo2_s _ _ _ _).trans (key _ _)).trans ?_
    rw [show s = m_s M from ext_I hI]
theorem M_laysPaid (hR : RowR (m_s M) N K c) (hO : OKc N K c) : ∃ (o2 u2 : Fin 16 → Int64) (p2 : Fin 64 → Int64), F_X5_laysPaid (sc M w o u p) = some (sc M (m_s M) o2 u2 p2) ∧ PdOK N K c p2 := by
  obtain ⟨o2, u2, p2, e, h⟩ := M_paysAll (M := M) (p := p) hR hO o u
  refine ⟨o2, u2, p2, ?_, h⟩
  unfold F_X5_laysPaid
  rw [M_lays, bs, e, bs]
theorem M_paidBy (hO : OKc N K c) (hP : PdOK N K c p) {i : Nat} (hi : i < N) : F_X5_paidBy (sc M w o u p) (nI i) = some (lN (sN (payN N K c i) 16)) := by
  have hN := hO.1
  unfold F_X5_paidBy
  refine (sumL _ (fun z4 => some z4) (payN N K c i) 16 (by omega) (fun rc x q hq => ?_) (fun rc x => ?_) 0).trans ?_
  · unfold B_X5_paidBy_5
    rw [if_neg (le16 hq), sc_p, show (16 : Int32) = nI 16 from rfl, pk_mul, nI_add, rL p (by omega) (by omega), hP i hi q hq, bs, nm_eq, nm_eq, nI_1]
  · unfold B_X5_paidBy_5
    rw [if_pos (by decide)]
  · rw [sumL0]
theorem M_paidTo (hR : RowR w N K c) (hO : OKc N K c) (hP : PdOK N K c p) {k : Nat} (hk : k < K) : F_X5_paidTo (sc M w o u p) (nI k) = some (lN (ptN N K c k)) := by
  have hN := hO.1
  unfold F_X5_paidTo
  refine (sumL _ (fun z5 => some z5) (fun i => payN N K c i (4 + k)) N (by omega) (fun rc x j hj => ?_) (fun rc x => ?_) 0).trans ?_
  · unfold B_X5_paidTo_5
    rw [sc_w, R0 hR, bs, if_neg (by rw [nI_leI (by omega) (by omega)]; omega), sc_p, show (16 : Int32) = nI 16 from rfl, pk_mul, show (4 : Int32) = nI 4 from rfl, nI_add, nI_add, show 16 * j + 4 + k = 16 * j + (4 + k) by omega, rL p (by omega) (by omega), hP j hj (4 + k) (by omega), bs, nm_eq, nm_eq, nI_1]
  · unfold B_X5_paidTo_5
    rw [sc_w, R0 hR, bs, if_pos (by rw [nI_leI (by omega) (by omega)]; omega)]
  · rw [sumL0]
    rfl
theorem M_givenOf (hR : RowR w N K c) (hO : OKc N K c) (hP : PdOK N K c p) {k : Nat} (hk : k < K) : F_X5_givenOf (sc M w o u p) (nI k) = some (lN (gvN N K c k)) := by
  have hc := hO.2.2.2.2 k hk
  have h1 := ptN_le hO k
  have h2 := bkN_le hO hk
  have e0 : F_X5_ofClaim w (nI k) 0 = some (nI (c (34 + 4 * k))) := Cl hR hO hk (w := 0) (by decide) (by decide)
  unfold F_X5_givenOf gvN
  rw [sc_w, Cl1 hR hO hk, bs, e0, bs]
  by_cases h0 : c (34 + 4 * k) = 0
  · have hon := hc.2.1 h0
    have e4 : F_X5_ofShip w (nI (c (34 + 4 * k + 1))) 4 = some (nI (c (10 + 6 * c (34 + 4 * k + 1) + 4))) := Sh hR hO hon (w := 4) (by decide)
    have hb := (hO.2.2.1 _ hon).2.2.2.2.2.1
    have eo : onI c k = nI (c (34 + 4 * k + 1)) := if_pos h0
    rw [if_pos (by rw [h0]; rfl), eo, e4, bs]
    by_cases h4 : c (10 + 6 * c (34 + 4 * k + 1) + 4) = 0
    · rw [if_pos (by rw [h4]; rfl), if_neg (fun z => z.2 h4)]
      rfl
    · rw [if_neg (nI_ne0 (by omega) (by omega)), M_backOf hR hO hk, bs, M_paidTo hR hO hP hk, bs, M_lesser (by omega) (by omega), bs, if_pos (show c (34 + 4 * k) = 0 ∧ c (10 + 6 * c (34 + 4 * k + 1) + 4) ≠ 0 from ⟨h0, h4⟩)]
  · rw [if_neg (nI_ne0 (by omega) (by omega)), if_neg (fun z => h0 z.1)]
    rfl
theorem M_netOf (hR : RowR w N K c) (hO : OKc N K c) (hP : PdOK N K c p) {i : Nat} (hi : i < N) : F_X5_netOf (sc M w o u p) (nI i) = some (ntL N K c i) := by
  have hN := hO.1
  have e2 : F_X5_ofShip w (nI i) 2 = some (nI (c (10 + 6 * i + 2))) := Sh hR hO hi (w := 2) (by decide)
  have hb := (hO.2.2.1 i hi).2.2.2.1
  have second : ∀ v, lo2 (B_X5_netOf_56 (sc M w o u p) (nI i) (fun z14 => some z14)) FU v 0 = some (v + lN (s2N N K c i)) := by
    intro v
    refine (sumL _ (fun z14 => some z14) (fun k => if c (34 + 4 * k) = 0 ∧ c (34 + 4 * k + 1) = i then gvN N K c k else 0) K (by omega) (fun rc x k hk => ?_) (fun rc x => ?_) v)
    · have hc := hO.2.2.2.2 k hk
      unfold B_X5_netOf_56
      rw [sc_w, R1 hR, bs, if_neg (by rw [nI_leI (by omega) (by omega)]; omega), Cl1 hR hO hk, bs]
      unfold J_X5_netOf_92
      by_cases h : c (34 + 4 * k) = 0 ∧ c (34 + 4 * k + 1) = i
      · rw [if_pos ((onI_ne hc.2.1 hO.1.2.1 hi).mpr h), M_givenOf hR hO hP hk, bs, nm_eq, nm_eq, nI_1, if_pos h]
      · rw [if_neg (fun q => h ((onI_ne hc.2.1 hO.1.2.1 hi).mp q)), nm_eq, nm_eq, nI_1, if_neg h]
        rfl
    · unfold B_X5_netOf_56
      rw [sc_w, R1 hR, bs, if_pos (by rw [nI_leI (by omega) (by omega)]; omega)]
  unfold F_X5_netOf
  rw [M_paidBy hO hP hi, bs, sc_w, e2, bs, nm_eq, nI_l (by omega)]
  refine (sumL _ (fun z8 => lo2 (B_X5_netOf_56 (sc M w o u p) (nI i) (fun z14 => some z14)) FU z8 0) (fun j => payN N K c j i) N (by omega) (fun rc x j hj => ?_) (fun rc x => ?_) _).trans (second _)
  · unfold B_X5_netOf_21
    rw [sc_w, R0 hR, bs, if_neg (by rw [nI_leI (by omega) (by omega)]; omega), sc_p, show (16 : Int32) = nI 16 from rfl, pk_mul, nI_add, rL p (by omega) (by omega), hP j hj i (by omega), bs, nm_eq, nm_eq, nI_1]
  · unfold B_X5_netOf_21
    rw [sc_w, R0 hR, bs, if_pos (by rw [nI_leI (by omega) (by omega)]; omega)]
theorem M_owedBy (hR : RowR (m_s M) N K c) (hO : OKc N K c) {i : Nat} (hi : i < N) : F_X5_owedBy (sc M w o u p) (nI i) = some (lN (sN (payB N K c i) 16)) := by
  have hN := hO.1
  have second : ∀ v, lo2 (B_X5_owedBy_38 (sc M w o u p) (nI i) (fun z10 => some z10)) FU v 0 = some (v + lN (sN (fun k => dN N c i k) K)) := by
    intro v
    refine (sumL _ (fun z10 => some z10) (fun k => dN N c i k) K (by omega) (fun rc x k hk => ?_) (fun rc x => ?_) v)
    · unfold B_X5_owedBy_38
      rw [sc_s, R1 hR, bs, if_neg (by rw [nI_leI (by omega) (by omega)]; omega), M_debtOf hR hO hi hk, bs, nm_eq, nm_eq, nI_1]
    · unfold B_X5_owedBy_38
      rw [sc_s, R1 hR, bs, if_pos (by rw [nI_leI (by omega) (by omega)]; omega)]
  unfold F_X5_owedBy
  refine (sumL _ (fun z5 => lo2 (B_X5_owedBy_38 (sc M w o u p) (nI i) (fun z10 => some z10)) FU z5 0) (fun j => lwN N K c i j) N (by omega) (fun rc x j hj => ?_) (fun rc x => ?_) 0).trans ((second _).trans ?_)
  · unfold B_X5_owedBy_5
    rw [sc_s, R0 hR, bs, if_neg (by rw [nI_leI (by omega) (by omega)]; omega), M_lawOwed hR hO hi hj, bs, nm_eq, nm_eq, nI_1]
  · unfold B_X5_owedBy_5
    rw [sc_s, R0 hR, bs, if_pos (by rw [nI_leI (by omega) (by omega)]; omega)]
  · rw [sumL0, lN_add, payB_sum hO]
theorem M_neededOf (hR : RowR w N K c) (hO : OKc N K c) {i : Nat} (hi : i < N) : ∃ o2 u2, F_X5_neededOf (sc M w o u p) (nI i) = some (lN (ndN N K c i), sc M w o2 u2 p) := by
  have hN := hO.1
  refine ⟨aL (oPg N c i 1 K), aL (lvU N K c i), ?_⟩
  have second : ∀ v, lo3 (B_X5_neededOf_43 (nI i) (fun S13 z14 => some (z14, S13))) FU (sc M w (aL (oPg N c i 1 K)) (aL (lvU N K c i)) p) v 0 = some (v + lN (sN (fun k => dN N c i k - lvU N K c i (4 + k)) K), sc M w (aL (oPg N c i 1 K)) (aL (lvU N K c i)) p) := by
    intro v
    refine (sumM _ _ (fun S13 z14 => some (z14, S13)) (fun k => dN N c i k - lvU N K c i (4 + k)) K (by omega) (fun rc x k hk => ?_) (fun rc x => ?_) v)
    · unfold B_X5_neededOf_43
      rw [sc_w, R1 hR, bs, if_neg (by rw [nI_leI (by omega) (by omega)]; omega), M_debtOf hR hO hi hk, bs, sc_u, show (4 : Int32) = nI 4 from rfl, nI_add, rL_a _ (by omega) (by omega), bs, nm_eq, nm_eq, nI_1, lN_sub (lvU_le k)]
    · unfold B_X5_neededOf_43
      rw [sc_w, R1 hR, bs, if_pos (by rw [nI_leI (by omega) (by omega)]; omega)]
  unfold F_X5_neededOf
  rw [M_sharesLives hR hO hi, bs]
  refine (sumM _ _ (fun S6 z7 => lo3 (B_X5_neededOf_43 (nI i) (fun S13 z14 => some (z14, S13))) FU S6 z7 0) (fun j => lwN N K c i j) N (by omega) (fun rc x j hj => ?_) (fun rc x => ?_) 0).trans ((second _).trans ?_)
  · unfold B_X5_neededOf_10
    rw [sc_w, R0 hR, bs, if_neg (by rw [nI_leI (by omega) (by omega)]; omega), M_lawOwed hR hO hi hj, bs, nm_eq, nm_eq, nI_1]
  · unfold B_X5_neededOf_10
    rw [sc_w, R0 hR, bs, if_pos (by rw [nI_leI (by omega) (by omega)]; omega)]
  · rw [sumL0, lN_add]
    rfl
end MASK
