/-! ===== level 2: the model's own functions of a row, in plain numbers ===== -/
theorem bs {α β : Type} (a : α) (f : α → Option β) : (some a).bind f = f a := rfl
theorem nm_eq {α β : Type} (e : α) (k : α → β) : nm e k = k e := rfl
theorem nI_n1 {a : Nat} (h : a ≠ 1) (ha : a < 2 ^ 31) : ¬ nI a = 1 := fun q => h ((nI_eq (a := a) (b := 1) ha (by omega)).mp q)
theorem M_ofShip (r : Fin 82 → Int32) {a w : Nat} (h : 10 + 6 * a + w < 82) : F_X5_ofShip r (nI a) (nI w) = some (exI r (10 + 6 * a + w)) := by
  unfold F_X5_ofShip
  rw [show (10 : Int32) = nI 10 from rfl, show (6 : Int32) = nI 6 from rfl, pk_mul, nI_add, nI_add, rI r h (by omega)]
  rfl
theorem M_ofClaim (r : Fin 82 → Int32) {a w : Nat} (h : 34 + 4 * a + w < 82) : F_X5_ofClaim r (nI a) (nI w) = some (exI r (34 + 4 * a + w)) := by
  unfold F_X5_ofClaim
  rw [show (34 : Int32) = nI 34 from rfl, show (4 : Int32) = nI 4 from rfl, pk_mul, nI_add, nI_add, rI r h (by omega)]
  rfl
section ML2
variable {r : Fin 82 → Int32} {N K : Nat} {c : Nat → Nat}
theorem R0 (hR : RowR r N K c) : rdI r 0 = some (nI N) := by
  rw [show (0 : Int32) = nI 0 from rfl, rI r (by omega) (by omega), hR.1]
theorem R1 (hR : RowR r N K c) : rdI r 1 = some (nI K) := by
  rw [show (1 : Int32) = nI 1 from rfl, rI r (by omega) (by omega), hR.2.1]
theorem Rw (hR : RowR r N K c) {w : Nat} (h2 : 2 ≤ w) (h : w < 10) : rdI r (nI w) = some (nI (c w)) := by
  rw [rI r (by omega) (by omega), hR.2.2.1 w h2 h]
theorem Sh (hR : RowR r N K c) (hO : OKc N K c) {a w : Nat} (ha : a < N) (hw : w < 6) : F_X5_ofShip r (nI a) (nI w) = some (nI (c (10 + 6 * a + w))) := by
  have := hO.1.2.1
  rw [M_ofShip r (by omega), hR.2.2.2.1 a ha w hw]
theorem Cl (hR : RowR r N K c) (hO : OKc N K c) {k w : Nat} (hk : k < K) (hw : w < 4) (h1 : w ≠ 1) : F_X5_ofClaim r (nI k) (nI w) = some (nI (c (34 + 4 * k + w))) := by
  have := hO.1.2.2
  rw [M_ofClaim r (by omega), (hR.2.2.2.2 k hk).1 w hw h1]
theorem Cl1 (hR : RowR r N K c) (hO : OKc N K c) {k : Nat} (hk : k < K) : F_X5_ofClaim r (nI k) 1 = some (onI c k) := by
  have := hO.1.2.2
  rw [show (1 : Int32) = nI 1 from rfl, M_ofClaim r (by omega), (hR.2.2.2.2 k hk).2]
theorem M_weightOf (hR : RowR r N K c) (hO : OKc N K c) {a : Nat} (ha : a < N) : F_X5_weightOf r (nI a) = some (nI (wN c a)) := by
  have e1 : F_X5_ofShip r (nI a) 1 = some (nI (c (10 + 6 * a + 1))) := Sh hR hO ha (w := 1) (by decide)
  have e2 : rdI r 2 = some (nI (c 2)) := Rw hR (w := 2) (by decide) (by decide)
  have hb := (hO.2.2.1 a ha).2.2.1
  have hc := hO.2.1.1
  unfold F_X5_weightOf
  rw [e1, bs, e2, bs]
  unfold wN
  by_cases h2 : c 2 = 1
  · rw [if_pos (by rw [h2]; rfl), if_pos h2]
    by_cases h0 : 0 < c (10 + 6 * a + 1)
    · rw [if_neg (nI_nle h0 (by omega)), if_pos h0]
      rfl
    · have h0 : c (10 + 6 * a + 1) = 0 := by omega
      rw [h0]
      rfl
  · rw [if_neg (nI_n1 h2 (by omega)), if_neg h2]
theorem M_weightsOf (hR : RowR r N K c) (hO : OKc N K c) : F_X5_weightsOf r = some (nI (WN N c)) := by
  have hN := hO.1
  unfold F_X5_weightsOf
  refine loopR (fun fu i (acc : Int32) => lo2 (B_X5_weightsOf_4 r (fun z5 => some z5)) fu acc (nI i)) _ N (fun i acc => acc = nI (sN (wN c) i)) ?_ ?_ N FU 0 0 (by omega) (by rw [FU_eq]; omega) rfl
  · intro fu i acc hi e
    subst e
    refine ⟨nI (sN (wN c) (i + 1)), rfl, ?_⟩
    show B_X5_weightsOf_4 r _ (lo2 _ fu) (nI (sN (wN c) i)) (nI i) = _
    unfold B_X5_weightsOf_4
    rw [R0 hR, bs, if_neg (by rw [nI_leI (by omega) (by omega)]; omega), M_weightOf hR hO hi, bs, nm_eq, nm_eq, nI_add, nI_1]
    rfl
  · intro fu acc e
    subst e
    show B_X5_weightsOf_4 r _ (lo2 _ fu) (nI (sN (wN c) N)) (nI N) = _
    unfold B_X5_weightsOf_4
    rw [R0 hR, bs, if_pos (by rw [nI_leI (by omega) (by omega)]; omega)]
    rfl
def rdC (c : Nat → Nat) (k : Nat) : Int32 := if c (34 + 4 * k + 3) ≤ c 8 then 0 else if c (34 + 4 * k + 3) ≤ c 9 then 1 else -2
theorem M_roundOf (hR : RowR r N K c) (hO : OKc N K c) {k : Nat} (hk : k < K) : F_X5_roundOf r (nI k) = some (rdC c k) := by
  have e1 : F_X5_ofClaim r (nI k) 3 = some (nI (c (34 + 4 * k + 3))) := Cl hR hO hk (w := 3) (by decide) (by decide)
  have e2 : rdI r 8 = some (nI (c 8)) := Rw hR (w := 8) (by decide) (by decide)
  have e3 : rdI r 9 = some (nI (c 9)) := Rw hR (w := 9) (by decide) (by decide)
  have h1 := hO.2.1
  have h2 := (hO.2.2.2.2 k hk).2.2.2.2
  unfold F_X5_roundOf rdC
  rw [e1, bs, e2, bs]
  by_cases h : c (34 + 4 * k + 3) ≤ c 8
  · rw [if_neg (by rw [nI_ltI (by omega) (by omega)]; omega), if_pos h]
  · rw [if_pos (by rw [nI_ltI (by omega) (by omega)]; omega), if_neg h, e3, bs]
    by_cases h' : c (34 + 4 * k + 3) ≤ c 9
    · rw [if_neg (by rw [nI_ltI (by omega) (by omega)]; omega), if_pos h']
    · rw [if_pos (by rw [nI_ltI (by omega) (by omega)]; omega), if_neg h']
theorem dvL_N {a b : Nat} (ha : a < 2 ^ 62) (h0 : 0 < b) (hb : b < 2 ^ 62) : dvL (lN a) (lN b) = some (lN (a / b)) := by
  unfold dvL
  have h : ¬ lN b = 0 := fun q => by
    have := (pk_lEQ (a := b) (b := 0) (by omega) (by omega)).mp q
    omega
  rw [if_neg h, pk_lDiv (by omega) h0 (by omega)]
theorem M_partOf (hR : RowR r N K c) (hO : OKc N K c) {a : Nat} (ha : a < N) {x : Nat} (hx : x < 2 ^ 40) : F_X5_partOf r (nI a) (lN x) = some (lN (pN N c a x)) := by
  have hw := wN_le hO ha
  have hW := WN_le hO
  have hW0 := WN_pos hO
  have hm : x * wN c a ≤ x * 10 := Nat.mul_le_mul_left x hw
  unfold F_X5_partOf
  rw [M_weightOf hR hO ha, bs, M_weightsOf hR hO, bs, nI_l (by omega), nI_l (by omega), lN_mul, dvL_N (by omega) hW0 (by omega)]
  rfl
theorem onI_ne {c : Nat → Nat} {k a N : Nat} (h : c (34 + 4 * k) = 0 → c (34 + 4 * k + 1) < N) (hN : N ≤ 4) (ha : a < N) : onI c k = nI a ↔ c (34 + 4 * k) = 0 ∧ c (34 + 4 * k + 1) = a := by
  unfold onI
  by_cases h0 : c (34 + 4 * k) = 0
  · have h1 := h h0
    rw [if_pos h0, nI_eq (by omega) (by omega)]
    exact ⟨fun e => ⟨h0, e⟩, fun e => e.2⟩
  · rw [if_neg h0]
    refine ⟨fun e => ?_, fun e => absurd e.1 h0⟩
    have h2 : (-2 : Int32).toInt = (nI a).toInt := by rw [e]
    rw [nI_toInt (by omega)] at h2
    have h3 : (-2 : Int32).toInt = -2 := by decide
    omega
theorem rdC_neg (c : Nat → Nat) (k : Nat) (h : c 8 ≤ c 9) : rdC c k < 0 ↔ c 9 < c (34 + 4 * k + 3) := by
  unfold rdC
  by_cases h1 : c (34 + 4 * k + 3) ≤ c 8
  · rw [if_pos h1]
    exact ⟨fun q => absurd q (by decide), fun q => by omega⟩
  · rw [if_neg h1]
    by_cases h2 : c (34 + 4 * k + 3) ≤ c 9
    · rw [if_pos h2]
      exact ⟨fun q => absurd q (by decide), fun q => by omega⟩
    · rw [if_neg h2]
      exact ⟨fun _ => by omega, fun _ => by decide⟩
theorem M_debtOf (hR : RowR r N K c) (hO : OKc N K c) {a k : Nat} (ha : a < N) (hk : k < K) : F_X5_debtOf r (nI a) (nI k) = some (lN (dN N c a k)) := by
  have hc := hO.2.2.2.2 k hk
  have e2 : F_X5_ofClaim r (nI k) 2 = some (nI (c (34 + 4 * k + 2))) := Cl hR hO hk (w := 2) (by decide) (by decide)
  have e0 : F_X5_ofClaim r (nI k) 0 = some (nI (c (34 + 4 * k))) := Cl hR hO hk (w := 0) (by decide) (by decide)
  have e3 : rdI r 3 = some (nI (c 3)) := Rw hR (w := 3) (by decide) (by decide)
  have hl := hO.2.1
  have hp := M_partOf hR hO ha (x := c (34 + 4 * k + 2)) (by omega)
  have hw := wN_le hO ha
  have hW := WN_le hO
  unfold F_X5_debtOf dN
  rw [M_roundOf hR hO hk, bs]
  by_cases h1 : c 9 < c (34 + 4 * k + 3)
  · rw [if_pos ((rdC_neg c k hl.2.2.2.2.2.2.2.1).mpr h1), if_pos h1]
    rfl
  · rw [if_neg (fun q => h1 ((rdC_neg c k hl.2.2.2.2.2.2.2.1).mp q)), if_neg h1, Cl1 hR hO hk, bs]
    by_cases h2 : c (34 + 4 * k) = 0 ∧ c (34 + 4 * k + 1) = a
    · rw [if_pos ((onI_ne hc.2.1 hO.1.2.1 ha).mpr h2), if_pos h2]
      rfl
    · rw [if_neg (fun q => h2 ((onI_ne hc.2.1 hO.1.2.1 ha).mp q)), if_neg h2, e2, bs, nm_eq, e0, bs, nI_l (by omega)]
      by_cases h3 : c (34 + 4 * k) = 0
      · rw [if_pos (by rw [h3]; rfl), e3, bs]
        by_cases h4 : c 3 = 0
        · rw [if_pos (by rw [h4]; rfl), if_pos (Or.inr h4)]
          unfold J_X5_debtOf_43
          rw [hp]
          rfl
        · have h5 := hc.2.1 h3
          have h6 : wN c a + wN c (c (34 + 4 * k + 1)) ≤ WN N c := sN_mem2 (wN c) (fun e => h2 ⟨h3, e.symm⟩) ha h5
          have hm : c (34 + 4 * k + 2) * wN c a ≤ c (34 + 4 * k + 2) * 10 := Nat.mul_le_mul_left _ hw
          rw [if_neg (nI_ne0 (by omega) (by omega)), if_neg (by omega), M_weightsOf hR hO, bs, show onI c k = nI (c (34 + 4 * k + 1)) from if_pos h3, bs, M_weightOf hR hO h5, bs, nm_eq, pk_sub (by omega)]
          by_cases h7 : WN N c - wN c (c (34 + 4 * k + 1)) = 0
          · rw [h7, if_pos (show nI 0 = (0 : Int32) from rfl), Nat.div_zero]
            rfl
          · rw [if_neg (nI_ne0 (by omega) (by omega)), M_weightOf hR hO ha, bs, nI_l (by omega), nI_l (by omega), lN_mul, dvL_N (by omega) (by omega) (by omega)]
            rfl
      · rw [if_neg (nI_ne0 (by omega) (by omega)), if_pos (Or.inl h3)]
        unfold J_X5_debtOf_43
        rw [hp]
        rfl
theorem M_backTo (hR : RowR r N K c) (hO : OKc N K c) {a k : Nat} (ha : a < N) (hk : k < K) : F_X5_backTo r (nI k) (nI a) = some (lN (bN N c k a)) := by
  have hc := hO.2.2.2.2 k hk
  have e2 : F_X5_ofClaim r (nI k) 2 = some (nI (c (34 + 4 * k + 2))) := Cl hR hO hk (w := 2) (by decide) (by decide)
  have e0 : F_X5_ofClaim r (nI k) 0 = some (nI (c (34 + 4 * k))) := Cl hR hO hk (w := 0) (by decide) (by decide)
  have e3 : rdI r 3 = some (nI (c 3)) := Rw hR (w := 3) (by decide) (by decide)
  have hl := hO.2.1
  have hp := M_partOf hR hO ha (x := c (34 + 4 * k + 2)) (by omega)
  unfold F_X5_backTo bN
  rw [e3, bs]
  by_cases h3 : c 3 = 0
  · rw [if_pos (by rw [h3]; rfl), if_pos (Or.inl h3)]
    rfl
  · rw [if_neg (nI_ne0 (by omega) (by omega)), e0, bs]
    by_cases h0 : c (34 + 4 * k) = 0
    · rw [if_pos (by rw [h0]; rfl), M_roundOf hR hO hk, bs]
      by_cases h1 : c 9 < c (34 + 4 * k + 3)
      · rw [if_pos ((rdC_neg c k hl.2.2.2.2.2.2.2.1).mpr h1), if_pos (Or.inr (Or.inr (Or.inl h1)))]
        rfl
      · rw [if_neg (fun q => h1 ((rdC_neg c k hl.2.2.2.2.2.2.2.1).mp q)), Cl1 hR hO hk, bs]
        by_cases h2 : c (34 + 4 * k + 1) = a
        · rw [if_pos ((onI_ne hc.2.1 hO.1.2.1 ha).mpr ⟨h0, h2⟩), if_pos (Or.inr (Or.inr (Or.inr h2)))]
          rfl
        · rw [if_neg (fun q => h2 ((onI_ne hc.2.1 hO.1.2.1 ha).mp q).2), if_neg (by omega), M_debtOf hR hO ha hk, bs, e2, bs, nI_l (by omega), hp, bs, lN_sub (dN_ge hO ha hk h3 h0 h1 h2)]
    · rw [if_neg (nI_ne0 (by omega) (by omega)), if_pos (Or.inr (Or.inl h0))]
      rfl
def bkN (N : Nat) (c : Nat → Nat) (k : Nat) : Nat := sN (fun j => bN N c k j) N
theorem M_backOf (hR : RowR r N K c) (hO : OKc N K c) {k : Nat} (hk : k < K) : F_X5_backOf r (nI k) = some (lN (bkN N c k)) := by
  have hN := hO.1
  unfold F_X5_backOf
  refine loopR (fun fu i (acc : Int64) => lo2 (B_X5_backOf_5 r (nI k) (fun z5 => some z5)) fu acc (nI i)) _ N (fun i acc => acc = lN (sN (fun j => bN N c k j) i)) ?_ ?_ N FU 0 0 (by omega) (by rw [FU_eq]; omega) rfl
  · intro fu i acc hi e
    subst e
    refine ⟨_, rfl, ?_⟩
    show B_X5_backOf_5 r _ _ (lo2 _ fu) _ (nI i) = _
    unfold B_X5_backOf_5
    rw [R0 hR, bs, if_neg (by rw [nI_leI (by omega) (by omega)]; omega), M_backTo hR hO hi hk, bs, nm_eq, nm_eq, lN_add, nI_1]
    rfl
  · intro fu acc e
    subst e
    show B_X5_backOf_5 r _ _ (lo2 _ fu) _ (nI N) = _
    unfold B_X5_backOf_5
    rw [R0 hR, bs, if_pos (by rw [nI_leI (by omega) (by omega)]; omega)]
    rfl
theorem M_hullOwed (hR : RowR r N K c) (hO : OKc N K c) {i j : Nat} (hi : i < N) (hj : j < N) : F_X5_hullOwed r (nI i) (nI j) = some (lN (pN N c i (c (10 + 6 * j + 2)))) := by
  have e1 : F_X5_ofShip r (nI j) 2 = some (nI (c (10 + 6 * j + 2))) := Sh hR hO hj (w := 2) (by decide)
  have h := (hO.2.2.1 j hj).2.2.2.1
  unfold F_X5_hullOwed
  rw [e1, bs, nI_l (by omega), M_partOf hR hO hi (by omega)]
  rfl
theorem M_backOwed (hR : RowR r N K c) (hO : OKc N K c) {i j : Nat} (hi : i < N) (hj : j < N) : F_X5_backOwed r (nI i) (nI j) = some (lN (boN N K c i j)) := by
  have hN := hO.1
  unfold F_X5_backOwed
  refine loopR (fun fu k (acc : Int64) => lo2 (B_X5_backOwed_5 r (nI i) (nI j) (fun z6 => some z6)) fu acc (nI k)) _ K (fun k acc => acc = lN (sN (fun k => if c (34 + 4 * k) = 0 ∧ c (34 + 4 * k + 1) = i then bN N c k j else 0) k)) ?_ ?_ K FU 0 0 (by omega) (by rw [FU_eq]; omega) rfl
  · intro fu k acc hk e
    subst e
    refine ⟨_, rfl, ?_⟩
    have hc := hO.2.2.2.2 k hk
    show B_X5_backOwed_5 r _ _ _ (lo2 _ fu) _ (nI k) = _
    unfold B_X5_backOwed_5
    rw [R1 hR, bs, if_neg (by rw [nI_leI (by omega) (by omega)]; omega), Cl1 hR hO hk, bs]
    by_cases h : c (34 + 4 * k) = 0 ∧ c (34 + 4 * k + 1) = i
    · rw [if_pos ((onI_ne hc.2.1 hO.1.2.1 hi).mpr h), M_backTo hR hO hj hk, bs]
      unfold J_X5_backOwed_36
      rw [nm_eq, nm_eq, lN_add, nI_1, sN, if_pos h]
    · rw [if_neg (fun q => h ((onI_ne hc.2.1 hO.1.2.1 hi).mp q))]
      unfold J_X5_backOwed_36
      rw [nm_eq, nm_eq, show (0 : Int64) = lN 0 from rfl, lN_add, nI_1, sN, if_neg h]
  · intro fu acc e
    subst e
    show B_X5_backOwed_5 r _ _ _ (lo2 _ fu) _ (nI K) = _
    unfold B_X5_backOwed_5
    rw [R1 hR, bs, if_pos (by rw [nI_leI (by omega) (by omega)]; omega)]
    rfl
theorem M_bothOwed (hR : RowR r N K c) (hO : OKc N K c) {i j : Nat} (hi : i < N) (hj : j < N) : F_X5_bothOwed r (nI i) (nI j) = some (lN (cdN N K c i j)) := by
  unfold F_X5_bothOwed
  rw [M_hullOwed hR hO hi hj, bs, M_backOwed hR hO hi hj, bs, lN_add]
  rfl
theorem M_lesser {a b : Nat} (ha : a < 2 ^ 63) (hb : b < 2 ^ 63) : F_X5_lesser (lN a) (lN b) = some (lN (min a b)) := by
  unfold F_X5_lesser
  rw [Nat.min_def]
  by_cases h : b ≤ a
  · rw [if_pos ((lg_cmp_ge _ _).mpr ((pk_lLE hb ha).mpr h))]
    by_cases h2 : a ≤ b
    · rw [if_pos h2, show a = b by omega]
    · rw [if_neg h2]
  · rw [if_neg (fun q => h ((pk_lLE hb ha).mp ((lg_cmp_ge _ _).mp q))), if_pos (by omega)]
theorem M_greater {a b : Nat} (ha : a < 2 ^ 63) (hb : b < 2 ^ 63) : F_X5_greater (lN a) (lN b) = some (lN (max a b)) := by
  unfold F_X5_greater
  rw [Nat.max_def]
  by_cases h : a ≤ b
  · rw [if_pos ((lg_cmp_le _ _).mpr ((pk_lLE ha hb).mpr h)), if_pos h]
  · rw [if_neg (fun q => h ((pk_lLE ha hb).mp ((lg_cmp_le _ _).mp q))), if_neg h]
theorem M_lawOwed (hR : RowR r N K c) (hO : OKc N K c) {i j : Nat} (hi : i < N) (hj : j < N) : F_X5_lawOwed r (nI i) (nI j) = some (lN (lwN N K c i j)) := by
  have hN := hO.1
  have e4 : rdI r 4 = some (nI (c 4)) := Rw hR (w := 4) (by decide) (by decide)
  have h1 := cdN_le hO hi hj
  have h2 := cdN_le hO hj hi
  have hl := hO.2.1
  unfold F_X5_lawOwed lwN
  by_cases h : i = j
  · rw [if_pos (by rw [h]), if_pos h]
    rfl
  · rw [if_neg (fun q => h ((nI_eq (by omega) (by omega)).mp q)), if_neg h, M_bothOwed hR hO hi hj, bs, e4, bs]
    by_cases h4 : c 4 = 1
    · rw [if_pos (by rw [h4]; rfl), if_pos h4]
    · rw [if_neg (nI_n1 h4 (by omega)), if_neg h4, M_bothOwed hR hO hj hi, bs, M_lesser (by omega) (by omega), bs, lN_sub (Nat.min_le_left _ _)]
theorem M_fundOf (hR : RowR r N K c) (hO : OKc N K c) {i w : Nat} (hi : i < N) (hw : w = 5 ∨ w = 6) : F_X5_fundOf r (nI i) (nI w) = some (lN (fdN c i w)) := by
  have e0 : F_X5_ofShip r (nI i) 0 = some (nI (c (10 + 6 * i))) := Sh hR hO hi (w := 0) (by decide)
  have e7 : rdI r 7 = some (nI (c 7)) := Rw hR (w := 7) (by decide) (by decide)
  have ew : rdI r (nI w) = some (nI (c w)) := Rw hR (by omega) (by omega)
  have hl := hO.2.1
  have hs := hO.2.2.1 i hi
  have hcw : c w ≤ 99999 := by rcases hw with rfl | rfl <;> omega
  have hm : max (c (10 + 6 * i)) (c 7) ≤ 99999 := by omega
  have hmm : max (c (10 + 6 * i)) (c 7) * c w ≤ 99999 * 99999 := Nat.mul_le_mul hm hcw
  unfold F_X5_fundOf
  rw [e0, bs, e7, bs, nI_l (by omega), nI_l (by omega), M_greater (by omega) (by omega), bs, ew, bs, nI_l (by omega), lN_mul, show (2000000000 : Int64) = lN 2000000000 from rfl, M_lesser (by omega) (by omega), bs]
  unfold fdN
  rw [Nat.min_comm]
end ML2
