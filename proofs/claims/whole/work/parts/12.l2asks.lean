/-! ===== level 2: what is asked of a settled case, both sides ===== -/
theorem sumL {β : Type} (B : (Int64 → Int32 → Option β) → Int64 → Int32 → Option β) (k9 : Int64 → Option β) (f : Nat → Nat) (n : Nat) (hn : n < 900) (h1 : ∀ rc x j, j < n → B rc x (nI j) = rc (x + lN (f j)) (nI (j + 1))) (h3 : ∀ rc x, B rc x (nI n) = k9 x) (v : Int64) : lo2 B FU v 0 = k9 (v + lN (sN f n)) := by
  refine loopR (fun fu j (a : Int64) => lo2 B fu a (nI j)) _ n (fun j a => a = v + lN (sN f j)) ?_ ?_ n FU 0 v (by omega) (by rw [FU_eq]; omega) (Int64.add_zero v).symm
  · intro fu j a hj e
    refine ⟨a + lN (f j), ?_, (lo2_s _ _ _ _).trans (h1 _ _ _ hj)⟩
    rw [e, Int64.add_assoc, lN_add, ← sN_s f j]
  · intro fu a e
    rw [← e]
    exact (lo2_s _ _ _ _).trans (h3 _ _)
theorem sumL0 (x : Nat) : (0 : Int64) + lN x = lN x := Int64.zero_add _
theorem sN_shift (f : Nat → Nat) : ∀ n, sN f 4 + sN (fun k => f (4 + k)) n = sN f (4 + n)
  | 0 => rfl
  | n + 1 => by
    rw [sN_s (fun k => f (4 + k)) n, ← Nat.add_assoc, sN_shift f n, show 4 + (n + 1) = (4 + n) + 1 from rfl, sN_s f (4 + n)]
def ptN (N K : Nat) (c : Nat → Nat) (k : Nat) : Nat := sN (fun i => payN N K c i (4 + k)) N
def gvN (N K : Nat) (c : Nat → Nat) (k : Nat) : Nat := if c (34 + 4 * k) = 0 ∧ c (10 + 6 * c (34 + 4 * k + 1) + 4) ≠ 0 then min (bkN N c k) (ptN N K c k) else 0
def s1N (N K : Nat) (c : Nat → Nat) (i : Nat) : Nat := sN (fun j => payN N K c j i) N
def s2N (N K : Nat) (c : Nat → Nat) (i : Nat) : Nat := sN (fun k => if c (34 + 4 * k) = 0 ∧ c (34 + 4 * k + 1) = i then gvN N K c k else 0) K
def ntL (N K : Nat) (c : Nat → Nat) (i : Nat) : Int64 := -(lN (sN (payN N K c i) 16)) - lN (c (10 + 6 * i + 2)) + lN (s1N N K c i) + lN (s2N N K c i)
def ppN (N K : Nat) (c : Nat → Nat) (i : Nat) : Nat := sN (fun k => if c (34 + 4 * k) = 1 then payN N K c i (4 + k) else 0) K
def opN (N K : Nat) (c : Nat → Nat) (i : Nat) : Nat := sN (fun k => if c (34 + 4 * k) = 1 then dN N c i k else 0) K
section ASK
variable {N K : Nat} {c : Nat → Nat}
theorem payN_le (hO : OKc N K c) {i : Nat} (hi : i < N) (q : Nat) : payN N K c i q ≤ 800000000 := by
  have hlv : lvU N K c i q ≤ 400000000 := by
    have h0 : shp (oPg N c i 0 K) (fdN c i 6) q ≤ oPg N c i 0 K q := shp_le _
    have h1 : shp (oPg N c i 1 K) (fdN c i 6 - sN (oPg N c i 0 K) 16) q ≤ oPg N c i 1 K q := shp_le _
    have h2 := oPg_le hO (rd := 0) hi q
    have h3 := oPg_le hO (rd := 1) hi q
    show _ + _ ≤ _
    omega
  have hrt : rtU N K c i q ≤ 600000000 := by
    have h0 : shp (oAg N K c i 0 (lvU N K c i) K) (fdN c i 5) q ≤ oAg N K c i 0 (lvU N K c i) K q := shp_le _
    have h1 := oAg_le hO (rd := 0) hi (lvU N K c i) q
    show _ + _ ≤ _
    omega
  have hpu : payU N K c i q ≤ 800000000 := by
    have h0 : shp (oAg N K c i 1 (rtU N K c i) K) (fdN c i 5 - sN (oAg N K c i 0 (lvU N K c i) K) 16) q ≤ oAg N K c i 1 (rtU N K c i) K q := shp_le _
    have h1 := oAg_le hO (rd := 1) hi (rtU N K c i) q
    show _ + _ ≤ _
    omega
  unfold payN
  split
  · unfold payB
    split
    · split
      · rename_i h4 h5
        have := lwN_le hO hi h5
        omega
      · omega
    · split
      · rename_i h4 h5
        have h1 := dN_le hO hi (k := q - 4) (by omega)
        have h2 := (hO.2.2.2.2 (q - 4) (by omega)).2.2.2.1
        omega
      · omega
  · exact hpu
theorem ptN_le (hO : OKc N K c) (k : Nat) : ptN N K c k ≤ 3200000000 := by
  have := sN_bd (f := fun i => payN N K c i (4 + k)) (c := 800000000) (n := N) (fun i hi => payN_le hO hi _)
  have hN := hO.1
  have h2 : N * 800000000 ≤ 4 * 800000000 := Nat.mul_le_mul_right _ hN.2.1
  unfold ptN
  omega
theorem bkN_le (hO : OKc N K c) {k : Nat} (hk : k < K) : bkN N c k ≤ 40000000 := by
  have := sN_bd (f := fun j => bN N c k j) (c := 9999999) (n := N) (fun j hj => bN_le hO hk hj)
  have hN := hO.1
  have h2 : N * 9999999 ≤ 4 * 9999999 := Nat.mul_le_mul_right _ hN.2.1
  unfold bkN
  omega
theorem paid_le (hO : OKc N K c) {i : Nat} (hi : i < N) : sN (payN N K c i) 16 ≤ 12800000000 := by
  have := sN_bd (f := payN N K c i) (c := 800000000) (n := 16) (fun k _ => payN_le hO hi k)
  omega
theorem ppN_le (hO : OKc N K c) (i : Nat) : ppN N K c i ≤ sN (payN N K c i) 16 := by
  have h1 : ppN N K c i ≤ sN (fun k => payN N K c i (4 + k)) K := sN_le fun k _ => by
    show (if c (34 + 4 * k) = 1 then payN N K c i (4 + k) else 0) ≤ payN N K c i (4 + k)
    split <;> omega
  have h2 := sN_shift (payN N K c i) K
  have hN := hO.1
  have h3 := sN_mono (payN N K c i) (show 4 + K ≤ 16 by omega)
  omega
end ASK
section ASKC
variable {T : TS} {N K : Nat} {c : Nat → Nat} {wt : Fin 4 → Int32} {lk : Fin 16 → Int64}
/-- the class's reckoning, settled -/
def stl (T : TS) (wt : Fin 4 → Int32) (lk : Fin 16 → Int64) (N K : Nat) (c : Nat → Nat) : RS := rk T wt (aL (bkG N c K 0)) (aL (oS N K c N 0)) (aL (pP N K c N)) lk (nI (WN N c))
theorem stl_t : r_told (stl T wt lk N K c) = T := rfl
theorem stl_o : r_owed (stl T wt lk N K c) = aL (oS N K c N 0) := rfl
theorem stl_p : r_paid (stl T wt lk N K c) = aL (pP N K c N) := rfl
theorem pP_at {i q : Nat} (hi : i < N) (hq : q < 16) : pP N K c N (16 * i + q) = payN N K c i q := by
  unfold pP
  rw [show (16 * i + q) / 16 = i by omega, show (16 * i + q) % 16 = q by omega, if_pos hi]
theorem OwC_oS (hO : OKc N K c) : OwC N K c (aL (oS N K c N 0)) := fun i hi k hk => by
  have hN := hO.1
  rw [exL_aL _ (by omega), show 16 * i + 4 + k = 16 * i + (4 + k) by omega, oS_at hi (by omega)]
  unfold payB
  rw [if_neg (by omega), if_pos (by omega), show 4 + k - 4 = k by omega]
theorem C_rowTogether {i : Nat} (hi : i < 4) (O : Nat → Nat) : F_X1_rowTogether (aL O) (nI i) = some (lN (sN (fun q => O (16 * i + q)) 16)) := by
  unfold F_X1_rowTogether
  refine (sumL _ (fun z4 => some z4) (fun q => O (16 * i + q)) 16 (by omega) (fun rc x q hq => ?_) (fun rc x => ?_) 0).trans ?_
  · unfold B_X1_rowTogether_5
    rw [if_neg (le16 hq), show (16 : Int32) = nI 16 from rfl, pk_mul, nI_add, show i * 16 + q = 16 * i + q by omega, rL_a O (by omega) (by omega), bs, nm_eq, nm_eq, nI_1]
  · unfold B_X1_rowTogether_5
    rw [if_pos (by decide)]
  · rw [sumL0]
theorem C_owedByShip (hO : OKc N K c) {i : Nat} (hi : i < N) : F_X1_owedByShip (stl T wt lk N K c) (nI i) = some (lN (sN (payB N K c i) 16)) := by
  have hN := hO.1
  unfold F_X1_owedByShip
  rw [stl_o, C_rowTogether (by omega), bs, sN_eq (g := payB N K c i) (fun q hq => oS_at hi hq)]
theorem C_paidByShip (hO : OKc N K c) {i : Nat} (hi : i < N) : F_X1_paidByShip (stl T wt lk N K c) (nI i) = some (lN (sN (payN N K c i) 16)) := by
  have hN := hO.1
  unfold F_X1_paidByShip
  rw [stl_p, C_rowTogether (by omega), bs, sN_eq (g := payN N K c i) (fun q hq => pP_at hi hq)]
theorem C_owedToShip (hO : OKc N K c) {i j : Nat} (hi : i < N) (hj : j < N) : F_X1_owedToShip (stl T wt lk N K c) (nI i) (nI j) = some (lN (lwN N K c i j)) := by
  have hN := hO.1
  unfold F_X1_owedToShip
  rw [stl_o, show (16 : Int32) = nI 16 from rfl, pk_mul, nI_add, show i * 16 + j = 16 * i + j by omega, rL_a _ (by omega) (by omega), bs, oS_at hi (by omega)]
  unfold payB
  rw [if_pos (by omega), if_pos hj]
theorem C_paidToShip (hO : OKc N K c) {i j : Nat} (hi : i < N) (hj : j < N) : F_X1_paidToShip (stl T wt lk N K c) (nI i) (nI j) = some (lN (payN N K c i j)) := by
  have hN := hO.1
  unfold F_X1_paidToShip
  rw [stl_p, show (16 : Int32) = nI 16 from rfl, pk_mul, nI_add, show i * 16 + j = 16 * i + j by omega, rL_a _ (by omega) (by omega), bs, pP_at hi (by omega)]
theorem C_paidToClaim (hO : OKc N K c) {i k : Nat} (hi : i < N) (hk : k < K) : F_X1_paidToClaim (stl T wt lk N K c) (nI i) (nI k) = some (lN (payN N K c i (4 + k))) := by
  have hN := hO.1
  unfold F_X1_paidToClaim
  rw [stl_p, show (16 : Int32) = nI 16 from rfl, pk_mul, show (4 : Int32) = nI 4 from rfl, nI_add, nI_add, show i * 16 + 4 + k = 16 * i + (4 + k) by omega, rL_a _ (by omega) (by omega), bs, pP_at hi (by omega)]
theorem C_owedToClaim2 (hO : OKc N K c) {i k : Nat} (hi : i < N) (hk : k < K) : F_X1_owedToClaim (stl T wt lk N K c) (nI i) (nI k) = some (lN (dN N c i k)) := C_owedToClaim hO (OwC_oS hO) hi hk _
theorem C_paidToClaimByAll (hR : RowT T N K c) (hO : OKc N K c) {k : Nat} (hk : k < K) : F_X1_paidToClaimByAll (stl T wt lk N K c) (nI k) = some (lN (ptN N K c k)) := by
  have hN := hO.1
  have hts : t_ships T = nI N := hR.1
  unfold F_X1_paidToClaimByAll
  refine (sumL _ (fun z4 => some z4) (fun i => payN N K c i (4 + k)) N (by omega) (fun rc x j hj => ?_) (fun rc x => ?_) 0).trans ?_
  · unfold B_X1_paidToClaimByAll_5
    rw [stl_t, hts, if_neg (by rw [nI_leI (by omega) (by omega)]; omega), C_paidToClaim hO hj hk, bs, nm_eq, nm_eq, nI_1]
  · unfold B_X1_paidToClaimByAll_5
    rw [stl_t, hts, if_pos (by rw [nI_leI (by omega) (by omega)]; omega)]
  · rw [sumL0]
    rfl
theorem C_backForClaim (hR : RowT T N K c) (hO : OKc N K c) (hW : WtOK N c wt) {k : Nat} (hk : k < K) : F_X1_backForClaim (stl T wt lk N K c) (nI k) = some (lN (bkN N c k)) := by
  have hN := hO.1
  have hts : t_ships T = nI N := hR.1
  have e : ∀ j, j < N → F_X1_backFor (stl T wt lk N K c) (nI k) (nI j) = some (lN (bN N c k j)) := fun j hj => C_backFor hR hO hW (OwC_oS hO) hk hj
  unfold F_X1_backForClaim
  refine (sumL _ (fun z4 => some z4) (fun j => bN N c k j) N (by omega) (fun rc x j hj => ?_) (fun rc x => ?_) 0).trans ?_
  · unfold B_X1_backForClaim_5
    rw [stl_t, hts, if_neg (by rw [nI_leI (by omega) (by omega)]; omega), e j hj, bs, nm_eq, nm_eq, nI_1]
  · unfold B_X1_backForClaim_5
    rw [stl_t, hts, if_pos (by rw [nI_leI (by omega) (by omega)]; omega)]
  · rw [sumL0]
    rfl
theorem C_givenBack (hR : RowT T N K c) (hO : OKc N K c) (hW : WtOK N c wt) {k : Nat} (hk : k < K) : F_X1_givenBack (stl T wt lk N K c) (nI k) = some (lN (gvN N K c k)) := by
  have hc := hO.2.2.2.2 k hk
  have h1 := ptN_le hO k
  have h2 := bkN_le hO hk
  unfold F_X1_givenBack gvN
  rw [stl_t, C_isGoods hR hO hk, bs]
  by_cases h0 : c (34 + 4 * k) = 0
  · have hon := hc.2.1 h0
    have e4 : F_X2_ofShip T (nI (c (34 + 4 * k + 1))) 4 = some (nI (c (10 + 6 * c (34 + 4 * k + 1) + 4))) := C_sh hR hO hon (w := 4) (by decide)
    have hb := (hO.2.2.1 _ hon).2.2.2.2.2.1
    have eo : onI c k = nI (c (34 + 4 * k + 1)) := if_pos h0
    rw [if_pos h0, if_neg (by decide), C_cl1 hR hO hk, bs, eo, e4, bs]
    by_cases h4 : c (10 + 6 * c (34 + 4 * k + 1) + 4) = 0
    · rw [if_pos (by rw [h4]; rfl), if_neg (fun z => z.2 h4)]
      rfl
    · rw [if_neg (nI_ne0 (by omega) (by omega)), C_backForClaim hR hO hW hk, bs, C_paidToClaimByAll hR hO hk, bs, nm_eq, if_pos (show c (34 + 4 * k) = 0 ∧ c (10 + 6 * c (34 + 4 * k + 1) + 4) ≠ 0 from ⟨h0, h4⟩), Nat.min_def]
      by_cases h : ptN N K c k < bkN N c k
      · rw [if_pos ((pk_lLT (by omega) (by omega)).mpr h), if_neg (by omega)]
      · rw [if_neg (fun q => h ((pk_lLT (by omega) (by omega)).mp q)), if_pos (by omega)]
  · rw [if_neg h0, if_pos rfl, if_neg (fun z => h0 z.1)]
    rfl
theorem gvN_le (hO : OKc N K c) {k : Nat} : gvN N K c k ≤ ptN N K c k := by
  unfold gvN
  split
  · exact Nat.min_le_right _ _
  · omega
theorem C_leftToClaim (hR : RowT T N K c) (hO : OKc N K c) (hW : WtOK N c wt) {k : Nat} (hk : k < K) : F_X1_leftToClaim (stl T wt lk N K c) (nI k) = some (lN (ptN N K c k - gvN N K c k)) := by
  unfold F_X1_leftToClaim
  rw [C_paidToClaimByAll hR hO hk, bs, C_givenBack hR hO hW hk, bs, lN_sub (gvN_le hO)]
theorem C_netOf (hR : RowT T N K c) (hO : OKc N K c) (hW : WtOK N c wt) {i : Nat} (hi : i < N) : F_X1_netOf (stl T wt lk N K c) (nI i) = some (ntL N K c i) := by
  have hN := hO.1
  have hts : t_ships T = nI N := hR.1
  have htc : t_claims T = nI K := hR.2.1
  have e2 : F_X2_ofShip T (nI i) 2 = some (nI (c (10 + 6 * i + 2))) := C_sh hR hO hi (w := 2) (by decide)
  have hb := (hO.2.2.1 i hi).2.2.2.1
  have second : ∀ v, lo2 (B_X1_netOf_52 (stl T wt lk N K c) (nI i) (fun z12 => some z12)) FU v 0 = some (v + lN (s2N N K c i)) := by
    intro v
    refine (sumL _ (fun z12 => some z12) (fun k => if c (34 + 4 * k) = 0 ∧ c (34 + 4 * k + 1) = i then gvN N K c k else 0) K (by omega) (fun rc x k hk => ?_) (fun rc x => ?_) v)
    · have hc := hO.2.2.2.2 k hk
      unfold B_X1_netOf_52
      rw [stl_t, htc, if_neg (by rw [nI_leI (by omega) (by omega)]; omega), C_cl1 hR hO hk, bs]
      unfold J_X1_netOf_87
      by_cases h : c (34 + 4 * k) = 0 ∧ c (34 + 4 * k + 1) = i
      · rw [if_pos ((onI_ne hc.2.1 hO.1.2.1 hi).mpr h), C_givenBack hR hO hW hk, bs, nm_eq, nm_eq, nI_1, if_pos h]
      · rw [if_neg (fun q => h ((onI_ne hc.2.1 hO.1.2.1 hi).mp q)), nm_eq, nI_1, if_neg h]
        exact congrArg (fun z => rc z (nI (k + 1))) (Int64.add_zero x).symm
    · unfold B_X1_netOf_52
      rw [stl_t, htc, if_pos (by rw [nI_leI (by omega) (by omega)]; omega)]
  unfold F_X1_netOf
  rw [C_paidByShip hO hi, bs, stl_t, e2, bs, nm_eq, nI_l (by omega)]
  refine (sumL _ (fun z7 => lo2 (B_X1_netOf_52 (stl T wt lk N K c) (nI i) (fun z12 => some z12)) FU z7 0) (fun j => payN N K c j i) N (by omega) (fun rc x j hj => ?_) (fun rc x => ?_) _).trans (second _)
  · unfold B_X1_netOf_21
    rw [stl_t, hts, if_neg (by rw [nI_leI (by omega) (by omega)]; omega), C_paidToShip hO hj hi, bs, nm_eq, nm_eq, nI_1]
  · unfold B_X1_netOf_21
    rw [stl_t, hts, if_pos (by rw [nI_leI (by omega) (by omega)]; omega)]
theorem C_paidToPersons (hR : RowT T N K c) (hO : OKc N K c) {i : Nat} (hi : i < N) : F_X1_paidToPersons (stl T wt lk N K c) (nI i) = some (lN (ppN N K c i)) := by
  have hN := hO.1
  have htc : t_claims T = nI K := hR.2.1
  unfold F_X1_paidToPersons
  refine (sumL _ (fun z5 => some z5) (fun k => if c (34 + 4 * k) = 1 then payN N K c i (4 + k) else 0) K (by omega) (fun rc x k hk => ?_) (fun rc x => ?_) 0).trans ?_
  · have hc := hO.2.2.2.2 k hk
    have e0 : F_X2_ofClaim T (nI k) 0 = some (nI (c (34 + 4 * k))) := C_cl hR hO hk (w := 0) (by decide) (by decide)
    unfold B_X1_paidToPersons_5
    rw [stl_t, htc, if_neg (by rw [nI_leI (by omega) (by omega)]; omega), e0, bs]
    unfold J_X1_paidToPersons_41
    by_cases h : c (34 + 4 * k) = 1
    · rw [if_pos (by rw [h]; rfl), C_paidToClaim hO hi hk, bs, nm_eq, nm_eq, nI_1, if_pos h]
    · rw [if_neg (nI_n1 h (by omega)), nm_eq, nI_1, if_neg h]
      exact congrArg (fun z => rc z (nI (k + 1))) (Int64.add_zero x).symm
  · unfold B_X1_paidToPersons_5
    rw [stl_t, htc, if_pos (by rw [nI_leI (by omega) (by omega)]; omega)]
  · rw [sumL0]
    rfl
theorem C_owedToPersons (hR : RowT T N K c) (hO : OKc N K c) {i : Nat} (hi : i < N) : F_X1_owedToPersons (stl T wt lk N K c) (nI i) = some (lN (opN N K c i)) := by
  have hN := hO.1
  have htc : t_claims T = nI K := hR.2.1
  unfold F_X1_owedToPersons
  refine (sumL _ (fun z5 => some z5) (fun k => if c (34 + 4 * k) = 1 then dN N c i k else 0) K (by omega) (fun rc x k hk => ?_) (fun rc x => ?_) 0).trans ?_
  · have hc := hO.2.2.2.2 k hk
    have e0 : F_X2_ofClaim T (nI k) 0 = some (nI (c (34 + 4 * k))) := C_cl hR hO hk (w := 0) (by decide) (by decide)
    unfold B_X1_owedToPersons_5
    rw [stl_t, htc, if_neg (by rw [nI_leI (by omega) (by omega)]; omega), e0, bs]
    unfold J_X1_owedToPersons_41
    by_cases h : c (34 + 4 * k) = 1
    · rw [if_pos (by rw [h]; rfl), C_owedToClaim2 hO hi hk, bs, nm_eq, nm_eq, nI_1, if_pos h]
    · rw [if_neg (nI_n1 h (by omega)), nm_eq, nI_1, if_neg h]
      exact congrArg (fun z => rc z (nI (k + 1))) (Int64.add_zero x).symm
  · unfold B_X1_owedToPersons_5
    rw [stl_t, htc, if_pos (by rw [nI_leI (by omega) (by omega)]; omega)]
  · rw [sumL0]
    rfl
theorem C_threeQuarters {a : Nat} (h : a < 2 ^ 40) : F_X1_threeQuarters (lN a) = some (lN (a * 3 / 4)) := by
  unfold F_X1_threeQuarters
  rw [show (3 : Int64) = lN 3 from rfl, lN_mul, show (4 : Int64) = lN 4 from rfl, dvL_N (by omega) (by omega) (by omega), bs]
def cvN (N K : Nat) (c : Nat → Nat) (i : Nat) : Nat := min ((sN (payN N K c i) 16 - ppN N K c i) * 3 / 4) (c (10 + 6 * i + 3) * 3 / 4)
theorem C_coveredOf (hR : RowT T N K c) (hO : OKc N K c) {i : Nat} (hi : i < N) : F_X1_coveredOf (stl T wt lk N K c) (nI i) = some (lN (cvN N K c i)) := by
  have e3 : F_X2_ofShip T (nI i) 3 = some (nI (c (10 + 6 * i + 3))) := C_sh hR hO hi (w := 3) (by decide)
  have hb := (hO.2.2.1 i hi).2.2.2.2.1
  have h1 := ppN_le hO i
  have h2 := paid_le hO hi
  unfold F_X1_coveredOf cvN
  rw [C_paidByShip hO hi, bs, C_paidToPersons hR hO hi, bs, lN_sub h1, C_threeQuarters (by omega), bs, stl_t, e3, bs, nI_l (by omega), C_threeQuarters (by omega), bs, nm_eq, Nat.min_def]
  by_cases h : c (10 + 6 * i + 3) * 3 / 4 < (sN (payN N K c i) 16 - ppN N K c i) * 3 / 4
  · rw [if_pos ((pk_lLT (by omega) (by omega)).mpr h), if_neg (by omega)]
  · rw [if_neg (fun q => h ((pk_lLT (by omega) (by omega)).mp q)), if_pos (by omega)]
end ASKC
