/-! ===== level 2: the class's Told in plain numbers ===== -/
section CTO
variable {T : TS} {N K : Nat} {c : Nat → Nat}
theorem C_sh (hR : RowT T N K c) (hO : OKc N K c) {a w : Nat} (ha : a < N) (hw : w < 6) : F_X2_ofShip T (nI a) (nI w) = some (nI (c (10 + 6 * a + w))) := by
  have := hO.1.2.1
  unfold F_X2_ofShip
  rw [show (6 : Int32) = nI 6 from rfl, pk_mul, nI_add, show a * 6 + w = 6 * a + w by omega, rI _ (by omega) (by omega), hR.2.2.2.1 a ha w hw]
  rfl
theorem C_cl (hR : RowT T N K c) (hO : OKc N K c) {k w : Nat} (hk : k < K) (hw : w < 4) (h1 : w ≠ 1) : F_X2_ofClaim T (nI k) (nI w) = some (nI (c (34 + 4 * k + w))) := by
  have := hO.1.2.2
  unfold F_X2_ofClaim
  rw [show (4 : Int32) = nI 4 from rfl, pk_mul, nI_add, show k * 4 + w = 4 * k + w by omega, rI _ (by omega) (by omega), (hR.2.2.2.2 k hk).1 w hw h1]
  rfl
theorem C_cl1 (hR : RowT T N K c) (hO : OKc N K c) {k : Nat} (hk : k < K) : F_X2_ofClaim T (nI k) 1 = some (onI c k) := by
  have := hO.1.2.2
  unfold F_X2_ofClaim
  rw [show (4 : Int32) = nI 4 from rfl, show (1 : Int32) = nI 1 from rfl, pk_mul, nI_add, show k * 4 + 1 = 4 * k + 1 by omega, rI _ (by omega) (by omega), (hR.2.2.2.2 k hk).2]
  rfl
theorem C_law (hR : RowT T N K c) {w : Nat} (h2 : 2 ≤ w) (h : w < 10) : rdI (t_laws T) (nI w) = some (nI (c w)) := by
  rw [rI _ (by omega) (by omega), hR.2.2.1 w h2 h]
theorem C_holds (hR : RowT T N K c) (hO : OKc N K c) {w : Nat} (h2 : 2 ≤ w) (h : w < 5) : F_X2_holds T (nI w) = some (if c w = 1 then 1 else 0) := by
  have hl := hO.2.1
  have hb : c w ≤ 1 := by
    rcases (show w = 2 ∨ w = 3 ∨ w = 4 by omega) with rfl | rfl | rfl <;> omega
  unfold F_X2_holds
  rw [C_law hR h2 (by omega), bs]
  by_cases h1 : c w = 1
  · rw [if_pos (by rw [h1]; rfl), if_pos h1]
  · rw [if_neg (nI_n1 h1 (by omega)), if_neg h1]
theorem C_isGoods (hR : RowT T N K c) (hO : OKc N K c) {k : Nat} (hk : k < K) : F_X2_isGoods T (nI k) = some (if c (34 + 4 * k) = 0 then 1 else 0) := by
  have e0 : F_X2_ofClaim T (nI k) 0 = some (nI (c (34 + 4 * k))) := C_cl hR hO hk (w := 0) (by decide) (by decide)
  have hc := (hO.2.2.2.2 k hk).1
  unfold F_X2_isGoods
  rw [e0, bs]
  by_cases h : c (34 + 4 * k) = 0
  · rw [if_pos (by rw [h]; rfl), if_pos h]
  · rw [if_neg (nI_ne0 (by omega) (by omega)), if_neg h]
theorem C_weightOf (hR : RowT T N K c) (hO : OKc N K c) {a : Nat} (ha : a < N) : F_X2_weightOf T (nI a) = some (nI (wN c a)) := by
  have e1 : F_X2_ofShip T (nI a) 1 = some (nI (c (10 + 6 * a + 1))) := C_sh hR hO ha (w := 1) (by decide)
  have e2 : F_X2_holds T 2 = some (if c 2 = 1 then 1 else 0) := C_holds hR hO (w := 2) (by decide) (by decide)
  have hb := (hO.2.2.1 a ha).2.2.1
  unfold F_X2_weightOf wN
  rw [e1, bs, e2, bs]
  by_cases h2 : c 2 = 1
  · rw [if_pos h2, if_pos h2, if_neg (by decide), nm_eq]
    by_cases h0 : 0 < c (10 + 6 * a + 1)
    · rw [if_pos h0]
      by_cases h1 : 1 < c (10 + 6 * a + 1)
      · rw [if_pos (show (1 : Int32) < nI _ from (nI_ltI (a := 1) (by omega) (by omega)).mpr h1)]
        rfl
      · have : c (10 + 6 * a + 1) = 1 := by omega
        rw [this]
        rfl
    · have : c (10 + 6 * a + 1) = 0 := by omega
      rw [this]
      rfl
  · rw [if_neg h2, if_neg h2, if_pos rfl]
theorem C_roundOf (hR : RowT T N K c) (hO : OKc N K c) {k : Nat} (hk : k < K) : F_X2_roundOf T (nI k) = some (rdC c k) := by
  have e1 : F_X2_ofClaim T (nI k) 3 = some (nI (c (34 + 4 * k + 3))) := C_cl hR hO hk (w := 3) (by decide) (by decide)
  have e2 : rdI (t_laws T) 8 = some (nI (c 8)) := C_law hR (w := 8) (by decide) (by decide)
  have e3 : rdI (t_laws T) 9 = some (nI (c 9)) := C_law hR (w := 9) (by decide) (by decide)
  have h1 := hO.2.1
  have h2 := (hO.2.2.2.2 k hk).2.2.2.2
  unfold F_X2_roundOf rdC
  rw [e1, bs, e3, bs]
  by_cases h : c (34 + 4 * k + 3) ≤ c 9
  · rw [if_pos ((nI_leI (by omega) (by omega)).mpr h), e2, bs]
    by_cases h' : c (34 + 4 * k + 3) ≤ c 8
    · rw [if_pos ((nI_leI (by omega) (by omega)).mpr h'), if_pos h']
    · rw [if_neg (fun q => h' ((nI_leI (by omega) (by omega)).mp q)), if_neg h', if_pos h]
  · rw [if_neg (fun q => h ((nI_leI (by omega) (by omega)).mp q)), if_neg (by omega), if_neg h]
theorem C_fundTons (hR : RowT T N K c) (hO : OKc N K c) {i : Nat} (hi : i < N) : F_X2_fundTons T (nI i) = some (lN (max (c (10 + 6 * i)) (c 7))) := by
  have e0 : F_X2_ofShip T (nI i) 0 = some (nI (c (10 + 6 * i))) := C_sh hR hO hi (w := 0) (by decide)
  have e7 : rdI (t_laws T) 7 = some (nI (c 7)) := C_law hR (w := 7) (by decide) (by decide)
  have hl := hO.2.1
  have hs := hO.2.2.1 i hi
  unfold F_X2_fundTons
  rw [e0, bs, e7, bs, nm_eq, Nat.max_def]
  by_cases h : c (10 + 6 * i) < c 7
  · rw [if_pos ((nI_ltI (by omega) (by omega)).mpr h), if_pos (by omega), nI_l (by omega)]
  · rw [if_neg (fun q => h ((nI_ltI (by omega) (by omega)).mp q)), nI_l (by omega)]
    by_cases h2 : c (10 + 6 * i) ≤ c 7
    · rw [if_pos h2, show c (10 + 6 * i) = c 7 by omega]
    · rw [if_neg h2]
theorem C_fundOf (hR : RowT T N K c) (hO : OKc N K c) {i w : Nat} (hi : i < N) (hw : w = 5 ∨ w = 6) : F_X2_fundOf T (nI i) (nI w) = some (lN (fdN c i w)) := by
  have ew : rdI (t_laws T) (nI w) = some (nI (c w)) := C_law hR (by omega) (by omega)
  have hl := hO.2.1
  have hs := hO.2.2.1 i hi
  have hcw : c w ≤ 99999 := by rcases hw with rfl | rfl <;> omega
  have hm : max (c (10 + 6 * i)) (c 7) ≤ 99999 := by omega
  have hmm : max (c (10 + 6 * i)) (c 7) * c w ≤ 99999 * 99999 := Nat.mul_le_mul hm hcw
  unfold F_X2_fundOf fdN
  rw [C_fundTons hR hO hi, bs, ew, bs, nm_eq, nI_l (by omega), lN_mul, show (2000000000 : Int64) = lN 2000000000 from rfl, Nat.min_def]
  by_cases h : 2000000000 < max (c (10 + 6 * i)) (c 7) * c w
  · rw [if_pos ((pk_lLT (by omega) (by omega)).mpr h), if_neg (by omega)]
  · rw [if_neg (fun q => h ((pk_lLT (by omega) (by omega)).mp q)), if_pos (by omega)]
theorem C_copy (T T2 : TS) : F_X2_copyFrom T T2 = some T2 := by
  have hL : ∀ (f g : Fin 4 → Int64), cpL (n0 := 4) (exL f) g 0 0 4 = some f := fun f g => by
    unfold cpL
    rw [if_pos (by decide)]
    refine congrArg some (funext fun j => ?_)
    have hj := j.2
    unfold va_cpy
    rw [if_pos ⟨by rw [show (0 : Int32).toNatClampNeg = 0 from rfl]; omega, by rw [show (0 : Int32).toNatClampNeg = 0 from rfl, show (4 : Int32).toNatClampNeg = 4 from rfl]; omega⟩, show (0 : Int32).toNatClampNeg = 0 from rfl]
    simp [exL, hj]
  have hI : ∀ (n : Nat) (m : Int32) (_ : m.toNatClampNeg = n) (_ : cpOK n n 0 0 m = true) (f g : Fin n → Int32), cpI (n0 := n) (exI f) g 0 0 m = some f := fun n m hm hok f g => by
    unfold cpI
    rw [if_pos hok]
    refine congrArg some (funext fun j => ?_)
    have hj := j.2
    unfold va_cpy
    rw [if_pos ⟨by rw [show (0 : Int32).toNatClampNeg = 0 from rfl]; omega, by rw [show (0 : Int32).toNatClampNeg = 0 from rfl, hm]; omega⟩, show (0 : Int32).toNatClampNeg = 0 from rfl]
    simp [exI, hj]
  obtain ⟨a1, a2, a3, a4, a5, a6⟩ := T
  obtain ⟨b1, b2, b3, b4, b5, b6⟩ := T2
  unfold F_X2_copyFrom
  simp only [nm_eq, t_ships, t_claims, t_names, t_shipRows, t_claimRows, t_laws, ts_ships, ts_claims, ts_names, ts_shipRows, ts_claimRows, ts_laws, hL, bs, hI 24 24 rfl (by decide), hI 48 48 rfl (by decide), hI 10 10 rfl (by decide)]
end CTO
