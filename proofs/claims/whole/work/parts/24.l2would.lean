/-! ===== level 2: would ===== -/
section WOULD
variable {S : XS} {M : MS} {N K : Nat} {c : Nat → Nat}
theorem nI_subI {a b : Nat} (h : b ≤ a) : nI a - nI b = nI (a - b) := by
  have : nI (a - b) + nI b = nI a := by
    rw [nI_add, Nat.sub_add_cancel h]
  rw [← this]
  exact Int32.add_sub_cancel _ _
theorem ts_two2 (T : TS) (a b : Fin 24 → Int32) : ts_shipRows (ts_shipRows T a) b = ts_shipRows T b := rfl
theorem ts_l2 (T : TS) (a : Fin 24 → Int32) : t_shipRows (ts_shipRows T a) = a := rfl
theorem X_tenths (hT : RowT (x_now S) N K c) (hO : OKc N K c) {i j : Nat} (hi : i < N) (hj : j < N) : F_X4_tenthsOfBoth S (nI i) (nI j) = some (nI (c (10 + 6 * i + 1) + c (10 + 6 * j + 1))) := by
  have e1 : F_X2_ofShip (x_now S) (nI i) 1 = some (nI (c (10 + 6 * i + 1))) := C_sh hT hO hi (w := 1) (by decide)
  have e2 : F_X2_ofShip (x_now S) (nI j) 1 = some (nI (c (10 + 6 * j + 1))) := C_sh hT hO hj (w := 1) (by decide)
  unfold F_X4_tenthsOfBoth
  rw [e1, bs, e2, bs, nI_add]
theorem X_setShip (T : TS) {i : Nat} (hi : i < 4) (v : Int32) : F_X2_setShip T (nI i) 1 v = some (ts_shipRows T (upI (t_shipRows T) (6 * i + 1) v)) := by
  unfold F_X2_setShip
  rw [show (6 : Int32) = nI 6 from rfl, pk_mul, nI_1, show i * 6 + 1 = 6 * i + 1 by omega, wI _ (by omega) (by omega), bs, nm_eq]
theorem X_netWithTenths (hT : RowT (x_now S) N K c) (hO : OKc N K c) {i j a : Nat} (hi : i < N) (hj : j < N) (hij : i ≠ j) (ha : a ≤ c (10 + 6 * i + 1) + c (10 + 6 * j + 1)) : ∃ R, F_X4_netWithTenths S (nI i) (nI j) (nI a) = some (ntL N K (cT c i j a (c (10 + 6 * i + 1) + c (10 + 6 * j + 1) - a)) i, xs_reckoning S R) := by
  have hN := hO.1
  have hT2 := cT_T (a := a) (b := c (10 + 6 * i + 1) + c (10 + 6 * j + 1) - a) hT hN.2.1 hi hj
  have hO2 := cT_OK (a := a) (b := c (10 + 6 * i + 1) + c (10 + 6 * j + 1) - a) hO hi hj hij (by omega)
  obtain ⟨wt, lk, hW, e⟩ := X_settle (x_reckoning S) hT2 hO2
  refine ⟨stl (ts_shipRows (x_now S) (upI (upI (t_shipRows (x_now S)) (6 * i + 1) (nI a)) (6 * j + 1) (nI (c (10 + 6 * i + 1) + c (10 + 6 * j + 1) - a)))) wt lk N K (cT c i j a (c (10 + 6 * i + 1) + c (10 + 6 * j + 1) - a)), ?_⟩
  have et : ∀ R, F_X4_tenthsOfBoth (xs_reckoning S R) (nI i) (nI j) = some (nI (c (10 + 6 * i + 1) + c (10 + 6 * j + 1))) := fun R => by
    have hTR : RowT (x_now (xs_reckoning S R)) N K c := hT
    exact X_tenths hTR hO hi hj
  unfold F_X4_netWithTenths F_X1_take
  rw [C_copy, bs, nm_eq, bs, nm_eq, xK_k, rs_t, X_setShip _ (by omega), bs, nm_eq, xK_two, rs_two, et, bs, xK_k, rs_t, nI_subI ha, X_setShip _ (by omega), bs, nm_eq, xK_two, rs_two, ts_l2, ts_two2, xK_k, e, bs, nm_eq, xK_two, xK_k, C_netOf hT2 hO2 hW hi, bs]
end WOULD
