/-! ===== level 2: the class's Reckoning in plain numbers: debts ===== -/
def rk (T : TS) (wt : Fin 4 → Int32) (bk : Fin 16 → Int64) (ow pd : Fin 64 → Int64) (lk : Fin 16 → Int64) (ws : Int32) : RS := (T, wt, bk, ow, pd, lk, ws)
section RK
variable (T : TS) (wt : Fin 4 → Int32) (bk : Fin 16 → Int64) (ow pd : Fin 64 → Int64) (lk : Fin 16 → Int64) (ws : Int32)
theorem rk_t : r_told (rk T wt bk ow pd lk ws) = T := rfl
theorem rk_w : r_weight (rk T wt bk ow pd lk ws) = wt := rfl
theorem rk_b : r_backs (rk T wt bk ow pd lk ws) = bk := rfl
theorem rk_o : r_owed (rk T wt bk ow pd lk ws) = ow := rfl
theorem rk_p : r_paid (rk T wt bk ow pd lk ws) = pd := rfl
theorem rk_l : r_lacked (rk T wt bk ow pd lk ws) = lk := rfl
theorem rk_ws : r_weights (rk T wt bk ow pd lk ws) = ws := rfl
theorem rk_st (x : TS) : rs_told (rk T wt bk ow pd lk ws) x = rk x wt bk ow pd lk ws := rfl
theorem rk_sw (x : Fin 4 → Int32) : rs_weight (rk T wt bk ow pd lk ws) x = rk T x bk ow pd lk ws := rfl
theorem rk_sb (x : Fin 16 → Int64) : rs_backs (rk T wt bk ow pd lk ws) x = rk T wt x ow pd lk ws := rfl
theorem rk_so (x : Fin 64 → Int64) : rs_owed (rk T wt bk ow pd lk ws) x = rk T wt bk x pd lk ws := rfl
theorem rk_sp (x : Fin 64 → Int64) : rs_paid (rk T wt bk ow pd lk ws) x = rk T wt bk ow x lk ws := rfl
theorem rk_sl (x : Fin 16 → Int64) : rs_lacked (rk T wt bk ow pd lk ws) x = rk T wt bk ow pd x ws := rfl
theorem rk_sws (x : Int32) : rs_weights (rk T wt bk ow pd lk ws) x = rk T wt bk ow pd lk x := rfl
end RK
theorem C_fill {n : Nat} (hn : n ≤ 1000) (h2 : n < 999) (S : Fin n → Int64) : F_J7_fill_d0a16 S 0 = some (aL (fun _ => 0)) := by
  unfold F_J7_fill_d0a16
  refine loopR (fun fu i (s : Fin n → Int64) => lo2 (B_J7_fill_d0a16_6 0 (nI n) (fun S4 => some S4)) fu s (nI i)) _ n (fun i s => ∀ k, k < i → exL s k = 0) ?_ ?_ n FU 0 S (by omega) (by rw [FU_eq]; omega) (fun k hk => absurd hk (Nat.not_lt_zero k))
  · intro fu i s hi e
    have key : ∀ k rc, B_J7_fill_d0a16_6 0 (nI n) k rc s (nI i) = rc (upL s i 0) (nI (i + 1)) := by
      intro k rc
      unfold B_J7_fill_d0a16_6
      rw [if_neg (by rw [nI_leI (by omega) (by omega)]; omega), wL s hi hn, bs, nm_eq, nm_eq, nI_1]
    refine ⟨upL s i 0, fun k hk => ?_, (lo2_s _ _ _ _).trans (key _ _)⟩
    rw [exL_up s hi]
    by_cases h : k = i
    · rw [if_pos h]
    · rw [if_neg h]
      exact e k (by omega)
  · intro fu s e
    have key : ∀ k rc, B_J7_fill_d0a16_6 0 (nI n) k rc s (nI n) = k s := by
      intro k rc
      unfold B_J7_fill_d0a16_6
      rw [if_pos (by rw [nI_leI (by omega) (by omega)]; omega)]
    refine ((lo2_s _ _ _ _).trans (key _ _)).trans (congrArg some (ext_L fun k hk => ?_))
    rw [e k hk, exL_aL _ hk]
    rfl
section CRE
variable {T : TS} {N K : Nat} {c : Nat → Nat} {wt : Fin 4 → Int32} {bk lk : Fin 16 → Int64} {ow pd : Fin 64 → Int64}
def WtOK (N : Nat) (c : Nat → Nat) (wt : Fin 4 → Int32) : Prop := ∀ i, i < N → exI wt i = nI (wN c i)
theorem C_weigh (hR : RowT T N K c) (hO : OKc N K c) (ws : Int32) : ∃ wt2, WtOK N c wt2 ∧ F_X1_weigh (rk T wt bk ow pd lk ws) = some (rk T wt2 bk ow pd lk (nI (WN N c))) := by
  have hN := hO.1
  unfold F_X1_weigh
  rw [nm_eq, rk_sws]
  obtain ⟨w2, h, e⟩ := loopE (fun fu i (s : Fin 4 → Int32) => lo2 (B_X1_weigh_7 (fun S8 => some S8)) fu (rk T s bk ow pd lk (nI (sN (wN c) i))) (nI i)) (fun s => some (rk T s bk ow pd lk (nI (WN N c)))) N (fun n s => ∀ i, i < n → exI s i = nI (wN c i)) (by
    intro fu i s hi hI
    have key : ∀ k9 rc, B_X1_weigh_7 k9 rc (rk T s bk ow pd lk (nI (sN (wN c) i))) (nI i) = rc (rk T (upI s i (nI (wN c i))) bk ow pd lk (nI (sN (wN c) (i + 1)))) (nI (i + 1)) := by
      intro k9 rc
      unfold B_X1_weigh_7
      rw [rk_t, hR.1, if_neg (by rw [nI_leI (by omega) (by omega)]; omega), C_weightOf hR hO hi, bs, rk_w, wI s (by omega) (by omega), bs, nm_eq, rk_sw, rk_w, rI _ (by omega) (by omega), exI_up s (by omega), if_pos rfl, bs, rk_ws, nI_add, rk_sws, nm_eq, nm_eq, nI_1, sN_s]
    refine ⟨upI s i (nI (wN c i)), fun z hz => ?_, (lo2_s _ _ _ _).trans (key _ _)⟩
    rw [exI_up s (by omega)]
    by_cases h : z = i
    · subst h
      rw [if_pos rfl]
    · rw [if_neg h]
      exact hI z (by omega)) (by
    intro fu s hI
    have key : ∀ k9 rc, B_X1_weigh_7 k9 rc (rk T s bk ow pd lk (nI (sN (wN c) N))) (nI N) = k9 (rk T s bk ow pd lk (nI (sN (wN c) N))) := by
      intro k9 rc
      unfold B_X1_weigh_7
      rw [rk_t, hR.1, if_pos (by rw [nI_leI (by omega) (by omega)]; omega)]
    exact (lo2_s _ _ _ _).trans (key _ _)) N FU 0 wt (by omega) (by rw [FU_eq]; omega) (fun i hi => absurd hi (Nat.not_lt_zero i))
  exact ⟨w2, h, e⟩
theorem C_cut {a b : Nat} (ha : a < 2 ^ 62) (hb : b < 2 ^ 62) : F_X1_cut (lN a) (lN b) = some (lN (a / b)) := by
  unfold F_X1_cut
  rw [show (0 : Int64) = lN 0 from rfl]
  by_cases h : b = 0
  · subst h
    rw [if_pos ((lg_cmp_eq _ _).mpr rfl), Nat.div_zero]
  · rw [if_neg (fun q => h ((pk_lEQ (by omega) (by omega)).mp ((lg_cmp_eq _ _).mp q))), dvL_N ha (by omega) hb]
    rfl
theorem C_partOf (hO : OKc N K c) (hW : WtOK N c wt) {a : Nat} (ha : a < N) {x : Nat} (hx : x < 2 ^ 40) : F_X1_partOf (rk T wt bk ow pd lk (nI (WN N c))) (nI a) (lN x) = some (lN (pN N c a x)) := by
  have hN := hO.1
  have hw := wN_le hO ha
  have hWl := WN_le hO
  have hm : x * wN c a ≤ x * 10 := Nat.mul_le_mul_left x hw
  unfold F_X1_partOf
  rw [rk_w, rI _ (by omega) (by omega), hW a ha, bs, rk_ws, nI_l (by omega), nI_l (by omega), lN_mul, C_cut (by omega) (by omega)]
  rfl
theorem rdC_n2 (c : Nat → Nat) (k : Nat) (h : c 8 ≤ c 9) : rdC c k = -2 ↔ c 9 < c (34 + 4 * k + 3) := by
  unfold rdC
  by_cases h1 : c (34 + 4 * k + 3) ≤ c 8
  · rw [if_pos h1]
    exact ⟨fun q => absurd q (by decide), fun q => by omega⟩
  · rw [if_neg h1]
    by_cases h2 : c (34 + 4 * k + 3) ≤ c 9
    · rw [if_pos h2]
      exact ⟨fun q => absurd q (by decide), fun q => by omega⟩
    · rw [if_neg h2]
      exact ⟨fun _ => by omega, fun _ => rfl⟩
theorem C_debt (hR : RowT T N K c) (hO : OKc N K c) (hW : WtOK N c wt) {a k : Nat} (ha : a < N) (hk : k < K) : F_X1_debt (rk T wt bk ow pd lk (nI (WN N c))) (nI a) (nI k) = some (lN (dN N c a k)) := by
  have hN := hO.1
  have hc := hO.2.2.2.2 k hk
  have e2 : F_X2_ofClaim T (nI k) 2 = some (nI (c (34 + 4 * k + 2))) := C_cl hR hO hk (w := 2) (by decide) (by decide)
  have e3 : F_X2_holds T 3 = some (if c 3 = 1 then 1 else 0) := C_holds hR hO (w := 3) (by decide) (by decide)
  have hl := hO.2.1
  have hp := C_partOf (T := T) (bk := bk) (ow := ow) (pd := pd) (lk := lk) hO hW ha (x := c (34 + 4 * k + 2)) (by omega)
  have hw := wN_le hO ha
  have hWl := WN_le hO
  unfold F_X1_debt dN
  rw [rk_t, C_roundOf hR hO hk, bs]
  by_cases h1 : c 9 < c (34 + 4 * k + 3)
  · rw [if_pos ((rdC_n2 c k hl.2.2.2.2.2.2.2.1).mpr h1), if_pos h1]
    rfl
  · rw [if_neg (fun q => h1 ((rdC_n2 c k hl.2.2.2.2.2.2.2.1).mp q)), if_neg h1, e2, bs, nm_eq, nI_l (by omega), C_isGoods hR hO hk, bs]
    by_cases h0 : c (34 + 4 * k) = 0
    · rw [if_pos h0, if_neg (by decide), C_cl1 hR hO hk, bs]
      by_cases h2 : c (34 + 4 * k + 1) = a
      · rw [if_pos ((onI_ne hc.2.1 hO.1.2.1 ha).mpr ⟨h0, h2⟩), if_pos ⟨h0, h2⟩]
        rfl
      · rw [if_neg (fun q => h2 ((onI_ne hc.2.1 hO.1.2.1 ha).mp q).2), if_neg (fun q => h2 q.2), e3, bs]
        by_cases h3 : c 3 = 1
        · have h5 := hc.2.1 h0
          have h6 : wN c a + wN c (c (34 + 4 * k + 1)) ≤ WN N c := sN_mem2 (wN c) (fun e => h2 e.symm) ha h5
          have hm : c (34 + 4 * k + 2) * wN c a ≤ c (34 + 4 * k + 2) * 10 := Nat.mul_le_mul_left _ hw
          rw [if_pos h3, if_neg (by decide), if_neg (by omega), rk_w, rI _ (by omega) (by omega), hW a ha, bs, show onI c k = nI (c (34 + 4 * k + 1)) from if_pos h0, rI _ (by omega) (by omega), hW _ h5, bs, rk_ws, pk_sub (by omega), nI_l (by omega), nI_l (by omega), lN_mul, C_cut (by omega) (by omega)]
          rfl
        · rw [if_neg h3, if_pos rfl, if_pos (Or.inr (by omega)), hp]
          rfl
    · rw [if_neg h0, if_pos rfl, if_neg (fun q => h0 q.1), if_pos (Or.inl h0), hp]
      rfl
def oC (N : Nat) (c : Nat → Nat) (i m K : Nat) : Nat → Nat := fun z => if 4 ≤ z % 16 ∧ z % 16 < 4 + (if z / 16 < i then K else if z / 16 = i then m else 0) then dN N c (z / 16) (z % 16 - 4) else 0
theorem C_oweClaims (hR : RowT T N K c) (hO : OKc N K c) (hW : WtOK N c wt) : F_X1_oweClaims (rk T wt bk (aL (fun _ => 0)) pd lk (nI (WN N c))) = some (rk T wt bk (aL (oC N c N 0 K)) pd lk (nI (WN N c))) := by
  have hN := hO.1
  have inner : ∀ (i : Nat) (_ : i < N) (k9 : RS → Option RS), lo2 (B_X1_oweClaims_15 (nI i) k9) FU (rk T wt bk (aL (oC N c i 0 K)) pd lk (nI (WN N c))) 0 = k9 (rk T wt bk (aL (oC N c (i + 1) 0 K)) pd lk (nI (WN N c))) := by
    intro i hi k9
    refine loopR (fun fu k (_ : Unit) => lo2 (B_X1_oweClaims_15 (nI i) k9) fu (rk T wt bk (aL (oC N c i k K)) pd lk (nI (WN N c))) (nI k)) _ K (fun _ _ => True) ?_ ?_ K FU 0 () (by omega) (by rw [FU_eq]; omega) trivial
    · intro fu k _ hk _
      have key : ∀ rc, B_X1_oweClaims_15 (nI i) k9 rc (rk T wt bk (aL (oC N c i k K)) pd lk (nI (WN N c))) (nI k) = rc (rk T wt bk (aL (oC N c i (k + 1) K)) pd lk (nI (WN N c))) (nI (k + 1)) := by
        intro rc
        unfold B_X1_oweClaims_15
        rw [rk_t, hR.2.1, if_neg (by rw [nI_leI (by omega) (by omega)]; omega), C_debt hR hO hW hi hk, bs, rk_o, show (16 : Int32) = nI 16 from rfl, show (4 : Int32) = nI 4 from rfl, pk_mul, nI_add, nI_add, wL_a _ (by omega) (by omega), bs, nm_eq, rk_so, nm_eq, nI_1]
        refine congrArg (fun z => rc (rk T wt bk z pd lk (nI (WN N c))) (nI (k + 1))) (aL_eq fun z hz => ?_)
        show (if z = i * 16 + 4 + k then dN N c i k else oC N c i k K z) = oC N c i (k + 1) K z
        unfold oC
        by_cases h : z = i * 16 + 4 + k
        · have h1 : z / 16 = i := by omega
          have h2 : z % 16 - 4 = k := by omega
          rw [if_pos h, h1, h2, if_neg (Nat.lt_irrefl i), if_pos rfl, if_pos (by omega)]
        · rw [if_neg h]
          by_cases h1 : z / 16 = i
          · rw [h1, if_neg (Nat.lt_irrefl i), if_pos rfl, if_neg (Nat.lt_irrefl i), if_pos rfl]
            by_cases h2 : 4 ≤ z % 16 ∧ z % 16 < 4 + k
            · rw [if_pos h2, if_pos (by omega)]
            · rw [if_neg h2, if_neg (by omega)]
          · rw [if_neg h1, if_neg h1]
      exact ⟨(), trivial, (lo2_s _ _ _ _).trans (key _)⟩
    · intro fu _ _
      have key : ∀ rc, B_X1_oweClaims_15 (nI i) k9 rc (rk T wt bk (aL (oC N c i K K)) pd lk (nI (WN N c))) (nI K) = k9 (rk T wt bk (aL (oC N c i K K)) pd lk (nI (WN N c))) := by
        intro rc
        unfold B_X1_oweClaims_15
        rw [rk_t, hR.2.1, if_pos (by rw [nI_leI (by omega) (by omega)]; omega)]
      refine ((lo2_s _ _ _ _).trans (key _)).trans ?_
      refine congrArg (fun z => k9 (rk T wt bk z pd lk (nI (WN N c)))) (aL_eq fun z _ => ?_)
      unfold oC
      by_cases h1 : z / 16 < i
      · rw [if_pos h1, if_pos (show z / 16 < i + 1 by omega)]
      · rw [if_neg h1]
        by_cases h2 : z / 16 = i
        · rw [if_pos h2, if_pos (show z / 16 < i + 1 by omega)]
        · rw [if_neg h2, if_neg (show ¬ z / 16 < i + 1 by omega)]
          by_cases h3 : z / 16 = i + 1
          · rw [if_pos h3]
          · rw [if_neg h3]
  unfold F_X1_oweClaims
  rw [show (aL (fun _ => 0) : Fin 64 → Int64) = aL (oC N c 0 0 K) from aL_eq (fun z _ => by
    unfold oC
    rw [if_neg (show ¬ z / 16 < 0 by omega)]
    by_cases h : z / 16 = 0
    · rw [if_pos h, if_neg (by omega)]
    · rw [if_neg h, if_neg (by omega)])]
  refine loopR (fun fu i (_ : Unit) => lo2 (B_X1_oweClaims_2 (fun S7 => some S7)) fu (rk T wt bk (aL (oC N c i 0 K)) pd lk (nI (WN N c))) (nI i)) _ N (fun _ _ => True) ?_ ?_ N FU 0 () (by omega) (by rw [FU_eq]; omega) trivial
  · intro fu i _ hi _
    have key : ∀ k9 rc, B_X1_oweClaims_2 k9 rc (rk T wt bk (aL (oC N c i 0 K)) pd lk (nI (WN N c))) (nI i) = rc (rk T wt bk (aL (oC N c (i + 1) 0 K)) pd lk (nI (WN N c))) (nI (i + 1)) := by
      intro k9 rc
      unfold B_X1_oweClaims_2
      rw [rk_t, hR.1, if_neg (by rw [nI_leI (by omega) (by omega)]; omega), inner i hi, nm_eq, nI_1]
    exact ⟨(), trivial, (lo2_s _ _ _ _).trans (key _ _)⟩
  · intro fu _ _
    have key : ∀ k9 rc, B_X1_oweClaims_2 k9 rc (rk T wt bk (aL (oC N c N 0 K)) pd lk (nI (WN N c))) (nI N) = k9 (rk T wt bk (aL (oC N c N 0 K)) pd lk (nI (WN N c))) := by
      intro k9 rc
      unfold B_X1_oweClaims_2
      rw [rk_t, hR.1, if_pos (by rw [nI_leI (by omega) (by omega)]; omega)]
    exact (lo2_s _ _ _ _).trans (key _ _)
end CRE
