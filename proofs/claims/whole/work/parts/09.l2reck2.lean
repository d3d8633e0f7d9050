/-! ===== level 2: the class's Reckoning: back, ships ===== -/
section CR2
variable {T : TS} {N K : Nat} {c : Nat → Nat} {wt : Fin 4 → Int32} {bk lk : Fin 16 → Int64} {ow pd : Fin 64 → Int64}
/-- the row of debts holds the claims' part -/
def OwC (N K : Nat) (c : Nat → Nat) (ow : Fin 64 → Int64) : Prop := ∀ i, i < N → ∀ k, k < K → exL ow (16 * i + 4 + k) = lN (dN N c i k)
theorem C_owedToClaim (hO : OKc N K c) (h : OwC N K c ow) {i k : Nat} (hi : i < N) (hk : k < K) (ws : Int32) : F_X1_owedToClaim (rk T wt bk ow pd lk ws) (nI i) (nI k) = some (lN (dN N c i k)) := by
  have hN := hO.1
  unfold F_X1_owedToClaim
  rw [rk_o, show (16 : Int32) = nI 16 from rfl, show (4 : Int32) = nI 4 from rfl, pk_mul, nI_add, nI_add, rL _ (by omega) (by omega), show i * 16 + 4 + k = 16 * i + 4 + k by omega, h i hi k hk]
  rfl
theorem C_backFor (hR : RowT T N K c) (hO : OKc N K c) (hW : WtOK N c wt) (hw : OwC N K c ow) {k j : Nat} (hk : k < K) (hj : j < N) : F_X1_backFor (rk T wt bk ow pd lk (nI (WN N c))) (nI k) (nI j) = some (lN (bN N c k j)) := by
  have hc := hO.2.2.2.2 k hk
  have hl := hO.2.1
  have e2 : F_X2_ofClaim T (nI k) 2 = some (nI (c (34 + 4 * k + 2))) := C_cl hR hO hk (w := 2) (by decide) (by decide)
  have e3 : F_X2_holds T 3 = some (if c 3 = 1 then 1 else 0) := C_holds hR hO (w := 3) (by decide) (by decide)
  have hp := C_partOf (T := T) (bk := bk) (ow := ow) (pd := pd) (lk := lk) hO hW hj (x := c (34 + 4 * k + 2)) (by omega)
  have z0 : J_X1_backFor_39 (rk T wt bk ow pd lk (nI (WN N c))) (nI k) (nI j) = some (lN 0) := by
    unfold J_X1_backFor_39 J_X1_backFor_40
    rw [if_pos rfl]
    rfl
  unfold F_X1_backFor bN
  rw [rk_t, e3, bs]
  by_cases h3 : c 3 = 1
  · rw [if_pos h3, if_neg (by decide), C_isGoods hR hO hk, bs]
    by_cases h0 : c (34 + 4 * k) = 0
    · rw [if_pos h0, if_neg (by decide), C_roundOf hR hO hk, bs]
      by_cases h1 : c 9 < c (34 + 4 * k + 3)
      · rw [if_pos ((rdC_n2 c k hl.2.2.2.2.2.2.2.1).mpr h1), z0, if_pos (Or.inr (Or.inr (Or.inl h1)))]
      · rw [if_neg (fun q => h1 ((rdC_n2 c k hl.2.2.2.2.2.2.2.1).mp q))]
        unfold J_X1_backFor_40
        rw [if_neg (by decide), rk_t, C_cl1 hR hO hk, bs]
        by_cases h2 : c (34 + 4 * k + 1) = j
        · rw [if_pos ((onI_ne hc.2.1 hO.1.2.1 hj).mpr ⟨h0, h2⟩), if_pos (Or.inr (Or.inr (Or.inr h2)))]
          rfl
        · rw [if_neg (fun q => h2 ((onI_ne hc.2.1 hO.1.2.1 hj).mp q).2), if_neg (by omega), C_owedToClaim hO hw hj hk, bs, e2, bs, nI_l (by omega), hp, bs, lN_sub (dN_ge hO hj hk (by omega) h0 h1 h2)]
    · rw [if_neg h0, if_pos rfl, z0, if_pos (Or.inr (Or.inl h0))]
  · rw [if_neg h3, if_pos rfl, z0, if_pos (Or.inl (by omega))]
/-- back, claims below m, of claim m the ships below n -/
def bkG (N : Nat) (c : Nat → Nat) (m n : Nat) : Nat → Nat := fun z => if z % 4 < N then sN (fun k => if c (34 + 4 * k) = 0 ∧ c (34 + 4 * k + 1) = z / 4 then bN N c k (z % 4) else 0) m + (if z % 4 < n ∧ c (34 + 4 * m) = 0 ∧ c (34 + 4 * m + 1) = z / 4 then bN N c m (z % 4) else 0) else 0
theorem C_oweBack (hR : RowT T N K c) (hO : OKc N K c) (hW : WtOK N c wt) (hw : OwC N K c ow) : F_X1_oweBack (rk T wt (aL (fun _ => 0)) ow pd lk (nI (WN N c))) = some (rk T wt (aL (bkG N c K 0)) ow pd lk (nI (WN N c))) := by
  have hN := hO.1
  have nx : ∀ m, (aL (bkG N c m N) : Fin 16 → Int64) = aL (bkG N c (m + 1) 0) := fun m => aL_eq fun z _ => by
    unfold bkG
    by_cases h : z % 4 < N
    · rw [if_pos h, if_pos h, if_neg (show ¬ (z % 4 < 0 ∧ _) from fun q => absurd q.1 (Nat.not_lt_zero _)), sN_s, Nat.add_zero]
      by_cases h2 : c (34 + 4 * m) = 0 ∧ c (34 + 4 * m + 1) = z / 4
      · rw [if_pos ⟨h, h2⟩, if_pos h2]
        rfl
      · rw [if_neg (fun q => h2 q.2), if_neg h2]
    · rw [if_neg h, if_neg h]
  have skip : ∀ m, ¬ c (34 + 4 * m) = 0 → (aL (bkG N c m 0) : Fin 16 → Int64) = aL (bkG N c (m + 1) 0) := fun m hm => (aL_eq fun z _ => by
    unfold bkG
    rw [if_neg (show ¬ (z % 4 < 0 ∧ _) from fun q => absurd q.1 (Nat.not_lt_zero _)), if_neg (show ¬ (z % 4 < N ∧ _ ∧ _) from fun q => hm q.2.1)]).trans (nx m)
  have inner : ∀ (m : Nat) (_ : m < K) (_ : c (34 + 4 * m) = 0) (k9 : RS → Option RS), lo2 (B_X1_oweBack_26 (nI m) k9) FU (rk T wt (aL (bkG N c m 0)) ow pd lk (nI (WN N c))) 0 = k9 (rk T wt (aL (bkG N c m N)) ow pd lk (nI (WN N c))) := by
    intro m hm h0 k9
    have hh := (hO.2.2.2.2 m hm).2.1 h0
    refine loopR (fun fu j (_ : Unit) => lo2 (B_X1_oweBack_26 (nI m) k9) fu (rk T wt (aL (bkG N c m j)) ow pd lk (nI (WN N c))) (nI j)) _ N (fun _ _ => True) ?_ ?_ N FU 0 () (by omega) (by rw [FU_eq]; omega) trivial
    · intro fu j _ hj _
      have key : ∀ rc, B_X1_oweBack_26 (nI m) k9 rc (rk T wt (aL (bkG N c m j)) ow pd lk (nI (WN N c))) (nI j) = rc (rk T wt (aL (bkG N c m (j + 1))) ow pd lk (nI (WN N c))) (nI (j + 1)) := by
        intro rc
        unfold B_X1_oweBack_26
        rw [rk_t, hR.1, if_neg (by rw [nI_leI (by omega) (by omega)]; omega), C_cl1 hR hO hm, bs, show onI c m = nI (c (34 + 4 * m + 1)) from if_pos h0, nm_eq, show (4 : Int32) = nI 4 from rfl, pk_mul, nI_add, rk_b, rL_a _ (by omega) (by omega), bs, C_backFor hR hO hW hw hm hj, bs, lN_add, wL_a _ (by omega) (by omega), bs, nm_eq, rk_sb, nm_eq, nI_1]
        refine congrArg (fun z => rc (rk T wt z ow pd lk (nI (WN N c))) (nI (j + 1))) (aL_eq fun z hz => ?_)
        show (if z = c (34 + 4 * m + 1) * 4 + j then bkG N c m j (c (34 + 4 * m + 1) * 4 + j) + bN N c m j else bkG N c m j z) = bkG N c m (j + 1) z
        by_cases h : z = c (34 + 4 * m + 1) * 4 + j
        · rw [if_pos h, ← h]
          have h1 : z / 4 = c (34 + 4 * m + 1) := by omega
          have h2 : z % 4 = j := by omega
          unfold bkG
          rw [h2, if_pos hj, if_pos hj, if_neg (show ¬ (j < j ∧ _) from fun q => Nat.lt_irrefl j q.1), if_pos (show j < j + 1 ∧ _ ∧ _ from ⟨by omega, h0, h1.symm⟩), Nat.add_zero]
        · rw [if_neg h]
          unfold bkG
          by_cases h1 : z % 4 < N
          · rw [if_pos h1, if_pos h1]
            by_cases h2 : z % 4 < j ∧ c (34 + 4 * m) = 0 ∧ c (34 + 4 * m + 1) = z / 4
            · rw [if_pos h2, if_pos ⟨by omega, h2.2⟩]
            · rw [if_neg h2, if_neg (fun q => h2 ⟨by omega, q.2⟩)]
          · rw [if_neg h1, if_neg h1]
      exact ⟨(), trivial, (lo2_s _ _ _ _).trans (key _)⟩
    · intro fu _ _
      have key : ∀ rc, B_X1_oweBack_26 (nI m) k9 rc (rk T wt (aL (bkG N c m N)) ow pd lk (nI (WN N c))) (nI N) = k9 (rk T wt (aL (bkG N c m N)) ow pd lk (nI (WN N c))) := by
        intro rc
        unfold B_X1_oweBack_26
        rw [rk_t, hR.1, if_pos (by rw [nI_leI (by omega) (by omega)]; omega)]
      exact (lo2_s _ _ _ _).trans (key _)
  unfold F_X1_oweBack
  rw [show (aL (fun _ => 0) : Fin 16 → Int64) = aL (bkG N c 0 0) from aL_eq (fun z _ => by
    unfold bkG
    rw [if_neg (show ¬ (z % 4 < 0 ∧ _) from fun q => absurd q.1 (Nat.not_lt_zero _))]
    split <;> rfl)]
  refine loopR (fun fu m (_ : Unit) => lo2 (B_X1_oweBack_2 (fun S11 => some S11)) fu (rk T wt (aL (bkG N c m 0)) ow pd lk (nI (WN N c))) (nI m)) _ K (fun _ _ => True) ?_ ?_ K FU 0 () (by omega) (by rw [FU_eq]; omega) trivial
  · intro fu m _ hm _
    have hJ : ∀ k9 rc S, J_X1_oweBack_70 k9 rc S (nI m) = rc S (nI (m + 1)) := by
      intro k9 rc S
      unfold J_X1_oweBack_70
      rw [nm_eq, nI_1]
    have key : ∀ k9 rc, B_X1_oweBack_2 k9 rc (rk T wt (aL (bkG N c m 0)) ow pd lk (nI (WN N c))) (nI m) = rc (rk T wt (aL (bkG N c (m + 1) 0)) ow pd lk (nI (WN N c))) (nI (m + 1)) := by
      intro k9 rc
      unfold B_X1_oweBack_2
      rw [rk_t, hR.2.1, if_neg (by rw [nI_leI (by omega) (by omega)]; omega), C_isGoods hR hO hm, bs]
      by_cases h0 : c (34 + 4 * m) = 0
      · rw [if_pos h0, if_neg (by decide), inner m hm h0, hJ, nx]
      · rw [if_neg h0, if_pos rfl, hJ, skip m h0]
    exact ⟨(), trivial, (lo2_s _ _ _ _).trans (key _ _)⟩
  · intro fu _ _
    have key : ∀ k9 rc, B_X1_oweBack_2 k9 rc (rk T wt (aL (bkG N c K 0)) ow pd lk (nI (WN N c))) (nI K) = k9 (rk T wt (aL (bkG N c K 0)) ow pd lk (nI (WN N c))) := by
      intro k9 rc
      unfold B_X1_oweBack_2
      rw [rk_t, hR.2.1, if_pos (by rw [nI_leI (by omega) (by omega)]; omega)]
    exact (lo2_s _ _ _ _).trans (key _ _)
theorem C_backTo (hO : OKc N K c) {i j : Nat} (hi : i < N) (hj : j < N) (ws : Int32) : F_X1_backTo (rk T wt (aL (bkG N c K 0)) ow pd lk ws) (nI i) (nI j) = some (lN (boN N K c i j)) := by
  have hN := hO.1
  unfold F_X1_backTo
  rw [rk_b, show (4 : Int32) = nI 4 from rfl, pk_mul, nI_add, rL_a _ (by omega) (by omega), bs]
  unfold bkG boN
  rw [show (i * 4 + j) % 4 = j by omega, show (i * 4 + j) / 4 = i by omega, if_pos hj, if_neg (show ¬ (j < 0 ∧ _) from fun q => absurd q.1 (Nat.not_lt_zero _)), Nat.add_zero]
theorem C_hullDebt (hR : RowT T N K c) (hO : OKc N K c) (hW : WtOK N c wt) {i j : Nat} (hi : i < N) (hj : j < N) : F_X1_hullDebt (rk T wt bk ow pd lk (nI (WN N c))) (nI i) (nI j) = some (lN (pN N c i (c (10 + 6 * j + 2)))) := by
  have e1 : F_X2_ofShip T (nI j) 2 = some (nI (c (10 + 6 * j + 2))) := C_sh hR hO hj (w := 2) (by decide)
  have h := (hO.2.2.1 j hj).2.2.2.1
  unfold F_X1_hullDebt
  rw [rk_t, e1, bs, nI_l (by omega), C_partOf hO hW hi (by omega)]
  rfl
theorem C_crossDebt (hR : RowT T N K c) (hO : OKc N K c) (hW : WtOK N c wt) {i j : Nat} (hi : i < N) (hj : j < N) : F_X1_crossDebt (rk T wt (aL (bkG N c K 0)) ow pd lk (nI (WN N c))) (nI i) (nI j) = some (lN (cdN N K c i j)) := by
  unfold F_X1_crossDebt
  rw [C_hullDebt hR hO hW hi hj, bs, C_backTo hO hi hj, bs, lN_add]
  rfl
/-- all debts: ships' part below i (of row i below j), claims' part -/
def oS (N K : Nat) (c : Nat → Nat) (i j : Nat) : Nat → Nat := fun z => if z % 16 < 4 then (if z % 16 < N ∧ (z / 16 < i ∨ (z / 16 = i ∧ z % 16 < j)) then lwN N K c (z / 16) (z % 16) else 0) else oC N c N 0 K z
theorem C_oweShips (hR : RowT T N K c) (hO : OKc N K c) (hW : WtOK N c wt) : F_X1_oweShips (rk T wt (aL (bkG N c K 0)) (aL (oC N c N 0 K)) pd lk (nI (WN N c))) = some (rk T wt (aL (bkG N c K 0)) (aL (oS N K c N 0)) pd lk (nI (WN N c))) := by
  have hN := hO.1
  have e4 : F_X2_holds T 4 = some (if c 4 = 1 then 1 else 0) := C_holds hR hO (w := 4) (by decide) (by decide)
  have inner : ∀ (i : Nat) (_ : i < N) (k9 : RS → Option RS), lo2 (B_X1_oweShips_15 (nI i) k9) FU (rk T wt (aL (bkG N c K 0)) (aL (oS N K c i 0)) pd lk (nI (WN N c))) 0 = k9 (rk T wt (aL (bkG N c K 0)) (aL (oS N K c (i + 1) 0)) pd lk (nI (WN N c))) := by
    intro i hi k9
    refine loopR (fun fu j (_ : Unit) => lo2 (B_X1_oweShips_15 (nI i) k9) fu (rk T wt (aL (bkG N c K 0)) (aL (oS N K c i j)) pd lk (nI (WN N c))) (nI j)) _ N (fun _ _ => True) ?_ ?_ N FU 0 () (by omega) (by rw [FU_eq]; omega) trivial
    · intro fu j _ hj _
      have hJ80 : ∀ rc S, J_X1_oweShips_80 k9 rc S (nI i) (nI j) = rc S (nI (j + 1)) := by
        intro rc S
        unfold J_X1_oweShips_80
        rw [nm_eq, nI_1]
      have hb1 := cdN_le hO hi hj
      have hb2 := cdN_le hO hj hi
      have put : ∀ rc (x y : Nat) (_ : y ≤ x) (_ : x - y = lwN N K c i j), J_X1_oweShips_63 k9 rc (rk T wt (aL (bkG N c K 0)) (aL (oS N K c i j)) pd lk (nI (WN N c))) (nI i) (nI j) (lN x) (lN y) = rc (rk T wt (aL (bkG N c K 0)) (aL (oS N K c i (j + 1))) pd lk (nI (WN N c))) (nI (j + 1)) := by
        intro rc x y hxy hv
        unfold J_X1_oweShips_63
        rw [rk_o, show (16 : Int32) = nI 16 from rfl, pk_mul, nI_add, lN_sub hxy, hv, wL_a _ (by omega) (by omega), bs, nm_eq, rk_so, hJ80]
        refine congrArg (fun z => rc (rk T wt (aL (bkG N c K 0)) z pd lk (nI (WN N c))) (nI (j + 1))) (aL_eq fun z hz => ?_)
        show (if z = i * 16 + j then lwN N K c i j else oS N K c i j z) = oS N K c i (j + 1) z
        unfold oS
        by_cases h : z = i * 16 + j
        · have h1 : z / 16 = i := by omega
          have h2 : z % 16 = j := by omega
          rw [if_pos h, h1, h2, if_pos (by omega), if_pos (by omega)]
        · rw [if_neg h]
          by_cases h1 : z % 16 < 4
          · rw [if_pos h1, if_pos h1]
            by_cases h2 : z % 16 < N ∧ (z / 16 < i ∨ (z / 16 = i ∧ z % 16 < j))
            · rw [if_pos h2, if_pos (by omega)]
            · rw [if_neg h2, if_neg (by omega)]
          · rw [if_neg h1, if_neg h1]
      have key : ∀ rc, B_X1_oweShips_15 (nI i) k9 rc (rk T wt (aL (bkG N c K 0)) (aL (oS N K c i j)) pd lk (nI (WN N c))) (nI j) = rc (rk T wt (aL (bkG N c K 0)) (aL (oS N K c i (j + 1))) pd lk (nI (WN N c))) (nI (j + 1)) := by
        intro rc
        unfold B_X1_oweShips_15
        rw [rk_t, hR.1, if_neg (by rw [nI_leI (by omega) (by omega)]; omega)]
        by_cases hij : i = j
        · subst hij
          rw [if_pos rfl, hJ80]
          refine congrArg (fun z => rc (rk T wt (aL (bkG N c K 0)) z pd lk (nI (WN N c))) (nI (i + 1))) (aL_eq fun z hz => ?_)
          unfold oS
          by_cases h1 : z % 16 < 4
          · rw [if_pos h1, if_pos h1]
            by_cases h2 : z % 16 < N ∧ (z / 16 < i ∨ (z / 16 = i ∧ z % 16 < i))
            · rw [if_pos h2, if_pos (by omega)]
            · rw [if_neg h2]
              by_cases h3 : z % 16 < N ∧ (z / 16 < i ∨ (z / 16 = i ∧ z % 16 < i + 1))
              · rw [if_pos h3, show z / 16 = i by omega, show z % 16 = i by omega]
                exact (if_pos rfl).symm
              · rw [if_neg h3]
          · rw [if_neg h1, if_neg h1]
        · rw [if_neg (fun q => hij ((nI_eq (by omega) (by omega)).mp q)), C_crossDebt hR hO hW hi hj, bs, e4, bs]
          have hlw : lwN N K c i j = if c 4 = 1 then cdN N K c i j else cdN N K c i j - min (cdN N K c i j) (cdN N K c j i) := if_neg hij
          by_cases h4 : c 4 = 1
          · rw [if_pos h4, if_neg (by decide), show (0 : Int64) = lN 0 from rfl]
            rw [if_pos h4] at hlw
            exact put rc _ 0 (by omega) (by omega)
          · rw [if_neg h4, if_pos rfl, C_crossDebt hR hO hW hj hi, bs, nm_eq]
            rw [if_neg h4] at hlw
            by_cases h5 : cdN N K c j i < cdN N K c i j
            · rw [if_pos ((pk_lLT (by omega) (by omega)).mpr h5)]
              exact put rc _ _ (by omega) (by omega)
            · rw [if_neg (fun q => h5 ((pk_lLT (by omega) (by omega)).mp q))]
              exact put rc _ _ (by omega) (by omega)
      exact ⟨(), trivial, (lo2_s _ _ _ _).trans (key _)⟩
    · intro fu _ _
      have key : ∀ rc, B_X1_oweShips_15 (nI i) k9 rc (rk T wt (aL (bkG N c K 0)) (aL (oS N K c i N)) pd lk (nI (WN N c))) (nI N) = k9 (rk T wt (aL (bkG N c K 0)) (aL (oS N K c i N)) pd lk (nI (WN N c))) := by
        intro rc
        unfold B_X1_oweShips_15
        rw [rk_t, hR.1, if_pos (by rw [nI_leI (by omega) (by omega)]; omega)]
      refine ((lo2_s _ _ _ _).trans (key _)).trans ?_
      refine congrArg (fun z => k9 (rk T wt (aL (bkG N c K 0)) z pd lk (nI (WN N c)))) (aL_eq fun z _ => ?_)
      unfold oS
      by_cases h1 : z % 16 < 4
      · rw [if_pos h1, if_pos h1]
        by_cases h2 : z % 16 < N ∧ (z / 16 < i ∨ (z / 16 = i ∧ z % 16 < N))
        · rw [if_pos h2, if_pos (by omega)]
        · rw [if_neg h2, if_neg (by omega)]
      · rw [if_neg h1, if_neg h1]
  unfold F_X1_oweShips
  rw [show (aL (oC N c N 0 K) : Fin 64 → Int64) = aL (oS N K c 0 0) from aL_eq (fun z _ => by
    unfold oS
    by_cases h1 : z % 16 < 4
    · rw [if_pos h1, if_neg (by omega)]
      unfold oC
      rw [if_neg (by omega)]
    · rw [if_neg h1])]
  refine loopR (fun fu i (_ : Unit) => lo2 (B_X1_oweShips_2 (fun S10 => some S10)) fu (rk T wt (aL (bkG N c K 0)) (aL (oS N K c i 0)) pd lk (nI (WN N c))) (nI i)) _ N (fun _ _ => True) ?_ ?_ N FU 0 () (by omega) (by rw [FU_eq]; omega) trivial
  · intro fu i _ hi _
    have key : ∀ k9 rc, B_X1_oweShips_2 k9 rc (rk T wt (aL (bkG N c K 0)) (aL (oS N K c i 0)) pd lk (nI (WN N c))) (nI i) = rc (rk T wt (aL (bkG N c K 0)) (aL (oS N K c (i + 1) 0)) pd lk (nI (WN N c))) (nI (i + 1)) := by
      intro k9 rc
      unfold B_X1_oweShips_2
      rw [rk_t, hR.1, if_neg (by rw [nI_leI (by omega) (by omega)]; omega), inner i hi, nm_eq, nI_1]
    exact ⟨(), trivial, (lo2_s _ _ _ _).trans (key _ _)⟩
  · intro fu _ _
    have key : ∀ k9 rc, B_X1_oweShips_2 k9 rc (rk T wt (aL (bkG N c K 0)) (aL (oS N K c N 0)) pd lk (nI (WN N c))) (nI N) = k9 (rk T wt (aL (bkG N c K 0)) (aL (oS N K c N 0)) pd lk (nI (WN N c))) := by
      intro k9 rc
      unfold B_X1_oweShips_2
      rw [rk_t, hR.1, if_pos (by rw [nI_leI (by omega) (by omega)]; omega)]
    exact (lo2_s _ _ _ _).trans (key _ _)
end CR2
