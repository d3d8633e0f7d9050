/-! ===== pure functions, printed out of the bytecode ===== -/
def F_X2_copyFrom (S : TS) (T2 : TS) : Option (TS) :=
  nm (ts_ships S (t_ships T2) : TS) fun S1 =>
  nm (ts_claims S1 (t_claims T2) : TS) fun S2 =>
  (cpL (n0 := 4) (exL (t_names T2)) (t_names S2) (0 : Int32) (0 : Int32) (4 : Int32)).bind fun f3 =>
  nm (ts_names S2 f3 : TS) fun S4 =>
  (cpI (n0 := 24) (exI (t_shipRows T2)) (t_shipRows S4) (0 : Int32) (0 : Int32) (24 : Int32)).bind fun f5 =>
  nm (ts_shipRows S4 f5 : TS) fun S6 =>
  (cpI (n0 := 48) (exI (t_claimRows T2)) (t_claimRows S6) (0 : Int32) (0 : Int32) (48 : Int32)).bind fun f7 =>
  nm (ts_claimRows S6 f7 : TS) fun S8 =>
  (cpI (n0 := 10) (exI (t_laws T2)) (t_laws S8) (0 : Int32) (0 : Int32) (10 : Int32)).bind fun f9 =>
  nm (ts_laws S8 f9 : TS) fun S10 =>
  some S10
def F_X1_take (S : RS) (T2 : TS) : Option (RS) :=
  (F_X2_copyFrom (r_told S) T2).bind fun q1 =>
  nm (rs_told S q1 : RS) fun S2 =>
  some S2
def B_J7_fill_d0a16_6 {n : Nat} (x1 : Int64) (x4 : Int32) (k : (Fin n → Int64) → Option ((Fin n → Int64))) (rc : (Fin n → Int64) → Int32 → Option ((Fin n → Int64))) (S : (Fin n → Int64)) (x3 : Int32) : Option ((Fin n → Int64)) :=
  if x4 ≤ x3 then
  (k S)
  else
  ((wrL S x3 x1).bind fun f1 =>
  nm (f1 : (Fin n → Int64)) fun S2 =>
  nm (x3 + 1 : Int32) fun v3 =>
  rc S2 v3)
def F_J7_fill_d0a16 {n : Nat} (S : (Fin n → Int64)) (x1 : Int64) : Option ((Fin n → Int64)) :=
  lo2 (B_J7_fill_d0a16_6 x1 (Int32.ofNat n) (fun S4 => some S4)) FU S (0 : Int32)
def F_X2_ofShip (S : TS) (x1 : Int32) (x2 : Int32) : Option (Int32) :=
  (rdI (t_shipRows S) ((x1 * (6 : Int32)) + x2)).bind fun v1 =>
  some v1
def F_X2_holds (S : TS) (x1 : Int32) : Option (Int32) :=
  (rdI (t_laws S) x1).bind fun v1 =>
  if v1 = (1 : Int32) then
  (some (1 : Int32))
  else
  (some (0 : Int32))
def F_X2_weightOf (S : TS) (x1 : Int32) : Option (Int32) :=
  (F_X2_ofShip S x1 (1 : Int32)).bind fun q1 =>
  (F_X2_holds S (2 : Int32)).bind fun q2 =>
  if q2 = 0 then
  (some q1)
  else
  (nm ((if (1 : Int32) < q1 then (1 : Int32) else q1) : Int32) fun v3 =>
  some v3)
def B_X1_weigh_7 (k : RS → Option (RS)) (rc : RS → Int32 → Option (RS)) (S : RS) (x1 : Int32) : Option (RS) :=
  if (t_ships (r_told S)) ≤ x1 then
  (k S)
  else
  ((F_X2_weightOf (r_told S) x1).bind fun q2 =>
  (wrI (r_weight S) x1 q2).bind fun f3 =>
  nm (rs_weight S f3 : RS) fun S4 =>
  (rdI (r_weight S4) x1).bind fun v5 =>
  nm (rs_weights S4 ((r_weights S4) + v5) : RS) fun S6 =>
  nm (x1 + 1 : Int32) fun v7 =>
  rc S6 v7)
def F_X1_weigh (S : RS) : Option (RS) :=
  nm (rs_weights S (0 : Int32) : RS) fun S1 =>
  lo2 (B_X1_weigh_7 (fun S8 => some S8)) FU S1 (0 : Int32)
def F_X2_ofClaim (S : TS) (x1 : Int32) (x2 : Int32) : Option (Int32) :=
  (rdI (t_claimRows S) ((x1 * (4 : Int32)) + x2)).bind fun v1 =>
  some v1
def F_X2_roundOf (S : TS) (x1 : Int32) : Option (Int32) :=
  (F_X2_ofClaim S x1 (3 : Int32)).bind fun q1 =>
  (rdI (t_laws S) (9 : Int32)).bind fun v2 =>
  if q1 ≤ v2 then
  ((rdI (t_laws S) (8 : Int32)).bind fun v3 =>
  if q1 ≤ v3 then
  (some (0 : Int32))
  else
  (some (1 : Int32)))
  else
  (some (-2 : Int32))
def F_X2_isGoods (S : TS) (x1 : Int32) : Option (Int32) :=
  (F_X2_ofClaim S x1 (0 : Int32)).bind fun q1 =>
  if q1 = 0 then
  (some (1 : Int32))
  else
  (some (0 : Int32))
def F_X1_cut (x0 : Int64) (x2 : Int64) : Option (Int64) :=
  if (lg_cmp x2 (0 : Int64)) = 0 then
  (some (0 : Int64))
  else
  ((dvL x0 x2).bind fun v1 =>
  some v1)
def F_X1_partOf (S : RS) (x1 : Int32) (x2 : Int64) : Option (Int64) :=
  (rdI (r_weight S) x1).bind fun v1 =>
  (F_X1_cut (x2 * v1.toInt64) ((r_weights S).toInt64)).bind fun q2 =>
  some q2
def F_X1_debt (S : RS) (x1 : Int32) (x2 : Int32) : Option (Int64) :=
  (F_X2_roundOf (r_told S) x2).bind fun q1 =>
  if q1 = (-2 : Int32) then
  (some (0 : Int64))
  else
  ((F_X2_ofClaim (r_told S) x2 (2 : Int32)).bind fun q2 =>
  nm (q2.toInt64 : Int64) fun v3 =>
  (F_X2_isGoods (r_told S) x2).bind fun q4 =>
  if q4 = 0 then
  ((F_X1_partOf S x1 v3).bind fun q11 =>
  some q11)
  else
  ((F_X2_ofClaim (r_told S) x2 (1 : Int32)).bind fun q5 =>
  if q5 = x1 then
  (some (0 : Int64))
  else
  ((F_X2_holds (r_told S) (3 : Int32)).bind fun q6 =>
  if q6 = 0 then
  ((F_X1_partOf S x1 v3).bind fun q10 =>
  some q10)
  else
  ((rdI (r_weight S) x1).bind fun v7 =>
  (rdI (r_weight S) q5).bind fun v8 =>
  (F_X1_cut (v3 * v7.toInt64) (((r_weights S) - v8).toInt64)).bind fun q9 =>
  some q9))))
def B_X1_oweClaims_15 (x1 : Int32) (k : RS → Option (RS)) (rc : RS → Int32 → Option (RS)) (S : RS) (x2 : Int32) : Option (RS) :=
  if (t_claims (r_told S)) ≤ x2 then
  (k S)
  else
  ((F_X1_debt S x1 x2).bind fun q1 =>
  (wrL (r_owed S) (((x1 * (16 : Int32)) + (4 : Int32)) + x2) q1).bind fun f2 =>
  nm (rs_owed S f2 : RS) fun S3 =>
  nm (x2 + 1 : Int32) fun v4 =>
  rc S3 v4)
def B_X1_oweClaims_2 (k : RS → Option (RS)) (rc : RS → Int32 → Option (RS)) (S : RS) (x1 : Int32) : Option (RS) :=
  if (t_ships (r_told S)) ≤ x1 then
  (k S)
  else
  (lo2 (B_X1_oweClaims_15 x1 (fun S5 => nm (x1 + 1 : Int32) fun v6 =>
  rc S5 v6)) FU S (0 : Int32))
def F_X1_oweClaims (S : RS) : Option (RS) :=
  lo2 (B_X1_oweClaims_2 (fun S7 => some S7)) FU S (0 : Int32)
def F_X1_owedToClaim (S : RS) (x1 : Int32) (x2 : Int32) : Option (Int64) :=
  (rdL (r_owed S) (((x1 * (16 : Int32)) + (4 : Int32)) + x2)).bind fun v1 =>
  some v1
def J_X1_backFor_40 (S : RS) (x1 : Int32) (x2 : Int32) (y0 : Int32) : Option (Int64) :=
  if y0 = 0 then
  (some (0 : Int64))
  else
  ((F_X2_ofClaim (r_told S) x1 (1 : Int32)).bind fun q2 =>
  if q2 = x2 then
  (some (0 : Int64))
  else
  ((F_X1_owedToClaim S x2 x1).bind fun q3 =>
  (F_X2_ofClaim (r_told S) x1 (2 : Int32)).bind fun q4 =>
  (F_X1_partOf S x2 q4.toInt64).bind fun q5 =>
  some (q3 - q5)))
def J_X1_backFor_39 (S : RS) (x1 : Int32) (x2 : Int32) : Option (Int64) :=
  J_X1_backFor_40 S x1 x2 (0 : Int32)
def F_X1_backFor (S : RS) (x1 : Int32) (x2 : Int32) : Option (Int64) :=
  (F_X2_holds (r_told S) (3 : Int32)).bind fun q1 =>
  if q1 = 0 then
  (J_X1_backFor_39 S x1 x2)
  else
  ((F_X2_isGoods (r_told S) x1).bind fun q6 =>
  if q6 = 0 then
  (J_X1_backFor_39 S x1 x2)
  else
  ((F_X2_roundOf (r_told S) x1).bind fun q7 =>
  if q7 = (-2 : Int32) then
  (J_X1_backFor_39 S x1 x2)
  else
  (J_X1_backFor_40 S x1 x2 (1 : Int32))))
def J_X1_oweBack_70 (k : RS → Option (RS)) (rc : RS → Int32 → Option (RS)) (S : RS) (x1 : Int32) : Option (RS) :=
  nm (x1 + 1 : Int32) fun v2 =>
  rc S v2
def B_X1_oweBack_26 (x1 : Int32) (k : RS → Option (RS)) (rc : RS → Int32 → Option (RS)) (S : RS) (x2 : Int32) : Option (RS) :=
  if (t_ships (r_told S)) ≤ x2 then
  (k S)
  else
  ((F_X2_ofClaim (r_told S) x1 (1 : Int32)).bind fun q3 =>
  nm (((q3 * (4 : Int32)) + x2) : Int32) fun v4 =>
  (rdL (r_backs S) v4).bind fun v5 =>
  (F_X1_backFor S x1 x2).bind fun q6 =>
  (wrL (r_backs S) v4 (v5 + q6)).bind fun f7 =>
  nm (rs_backs S f7 : RS) fun S8 =>
  nm (x2 + 1 : Int32) fun v9 =>
  rc S8 v9)
def B_X1_oweBack_2 (k : RS → Option (RS)) (rc : RS → Int32 → Option (RS)) (S : RS) (x1 : Int32) : Option (RS) :=
  if (t_claims (r_told S)) ≤ x1 then
  (k S)
  else
  ((F_X2_isGoods (r_told S) x1).bind fun q1 =>
  if q1 = 0 then
  (J_X1_oweBack_70 k rc S x1)
  else
  (lo2 (B_X1_oweBack_26 x1 (fun S10 => J_X1_oweBack_70 k rc S10 x1)) FU S (0 : Int32)))
def F_X1_oweBack (S : RS) : Option (RS) :=
  lo2 (B_X1_oweBack_2 (fun S11 => some S11)) FU S (0 : Int32)
def F_X1_hullDebt (S : RS) (x1 : Int32) (x2 : Int32) : Option (Int64) :=
  (F_X2_ofShip (r_told S) x2 (2 : Int32)).bind fun q1 =>
  (F_X1_partOf S x1 q1.toInt64).bind fun q2 =>
  some q2
def F_X1_backTo (S : RS) (x1 : Int32) (x2 : Int32) : Option (Int64) :=
  (rdL (r_backs S) ((x1 * (4 : Int32)) + x2)).bind fun v1 =>
  some v1
def F_X1_crossDebt (S : RS) (x1 : Int32) (x2 : Int32) : Option (Int64) :=
  (F_X1_hullDebt S x1 x2).bind fun q1 =>
  (F_X1_backTo S x1 x2).bind fun q2 =>
  some (q1 + q2)
def J_X1_oweShips_80 (k : RS → Option (RS)) (rc : RS → Int32 → Option (RS)) (S : RS) (x1 : Int32) (x2 : Int32) : Option (RS) :=
  nm (x2 + 1 : Int32) fun v1 =>
  rc S v1
def J_X1_oweShips_63 (k : RS → Option (RS)) (rc : RS → Int32 → Option (RS)) (S : RS) (x1 : Int32) (x2 : Int32) (x3 : Int64) (y0 : Int64) : Option (RS) :=
  (wrL (r_owed S) ((x1 * (16 : Int32)) + x2) (x3 - y0)).bind fun f6 =>
  nm (rs_owed S f6 : RS) fun S7 =>
  J_X1_oweShips_80 k rc S7 x1 x2
def B_X1_oweShips_15 (x1 : Int32) (k : RS → Option (RS)) (rc : RS → Int32 → Option (RS)) (S : RS) (x2 : Int32) : Option (RS) :=
  if (t_ships (r_told S)) ≤ x2 then
  (k S)
  else
  (if x1 = x2 then
  (J_X1_oweShips_80 k rc S x1 x2)
  else
  ((F_X1_crossDebt S x1 x2).bind fun q2 =>
  (F_X2_holds (r_told S) (4 : Int32)).bind fun q3 =>
  if q3 = 0 then
  ((F_X1_crossDebt S x2 x1).bind fun q4 =>
  nm ((if q4 < q2 then q4 else q2) : Int64) fun v5 =>
  J_X1_oweShips_63 k rc S x1 x2 q2 v5)
  else
  (J_X1_oweShips_63 k rc S x1 x2 q2 (0 : Int64))))
def B_X1_oweShips_2 (k : RS → Option (RS)) (rc : RS → Int32 → Option (RS)) (S : RS) (x1 : Int32) : Option (RS) :=
  if (t_ships (r_told S)) ≤ x1 then
  (k S)
  else
  (lo2 (B_X1_oweShips_15 x1 (fun S8 => nm (x1 + 1 : Int32) fun v9 =>
  rc S8 v9)) FU S (0 : Int32))
def F_X1_oweShips (S : RS) : Option (RS) :=
  lo2 (B_X1_oweShips_2 (fun S10 => some S10)) FU S (0 : Int32)
def F_X2_fundTons (S : TS) (x1 : Int32) : Option (Int64) :=
  (F_X2_ofShip S x1 (0 : Int32)).bind fun q1 =>
  (rdI (t_laws S) (7 : Int32)).bind fun v2 =>
  nm ((if q1 < v2 then v2 else q1) : Int32) fun v3 =>
  some v3.toInt64
def F_X2_fundOf (S : TS) (x1 : Int32) (x2 : Int32) : Option (Int64) :=
  (F_X2_fundTons S x1).bind fun q1 =>
  (rdI (t_laws S) x2).bind fun v2 =>
  nm ((if (2000000000 : Int64) < (q1 * v2.toInt64) then (2000000000 : Int64) else (q1 * v2.toInt64)) : Int64) fun v3 =>
  some v3
def J_X1_takesPart_82 (S : RS) : Option (Int32) :=
  some (1 : Int32)
def F_X1_takesPart (S : RS) (x1 : Int32) (x2 : Int32) (x3 : Int32) : Option (Int32) :=
  if (4 : Int32) ≤ x1 then
  (nm ((x1 - (4 : Int32)) : Int32) fun v1 =>
  if (t_claims (r_told S)) ≤ v1 then
  (some (0 : Int32))
  else
  ((F_X2_roundOf (r_told S) v1).bind fun q2 =>
  if q2 = x3 then
  (if x2 = (5 : Int32) then
  (J_X1_takesPart_82 S)
  else
  ((F_X2_ofClaim (r_told S) v1 (0 : Int32)).bind fun q3 =>
  if q3 = (1 : Int32) then
  (J_X1_takesPart_82 S)
  else
  (some (0 : Int32))))
  else
  (some (0 : Int32))))
  else
  (if (t_ships (r_told S)) ≤ x1 then
  (some (0 : Int32))
  else
  (if x2 = (5 : Int32) then
  (if x3 = 0 then
  (some (1 : Int32))
  else
  (some (0 : Int32)))
  else
  (some (0 : Int32))))
def J_X1_findLacks_76 (k : RS → Int64 → Option (Int64 × RS)) (rc : RS → Int64 → Int32 → Option (Int64 × RS)) (S : RS) (x1 : Int32) (x2 : Int32) (x3 : Int32) (x4 : Int64) (x6 : Int32) : Option (Int64 × RS) :=
  nm (x6 + 1 : Int32) fun v4 =>
  rc S x4 v4
def B_X1_findLacks_6 (x1 : Int32) (x2 : Int32) (x3 : Int32) (k : RS → Int64 → Option (Int64 × RS)) (rc : RS → Int64 → Int32 → Option (Int64 × RS)) (S : RS) (x4 : Int64) (x6 : Int32) : Option (Int64 × RS) :=
  if (16 : Int32) ≤ x6 then
  (k S x4)
  else
  ((wrL (r_lacked S) x6 (0 : Int64)).bind fun f1 =>
  nm (rs_lacked S f1 : RS) fun S2 =>
  (F_X1_takesPart S2 x6 x2 x3).bind fun q3 =>
  if q3 = 0 then
  (J_X1_findLacks_76 k rc S2 x1 x2 x3 x4 x6)
  else
  ((rdL (r_owed S2) ((x1 * (16 : Int32)) + x6)).bind fun v5 =>
  (rdL (r_paid S2) ((x1 * (16 : Int32)) + x6)).bind fun v6 =>
  (wrL (r_lacked S2) x6 (v5 - v6)).bind fun f7 =>
  nm (rs_lacked S2 f7 : RS) fun S8 =>
  (rdL (r_lacked S8) x6).bind fun v9 =>
  nm ((x4 + v9) : Int64) fun v10 =>
  J_X1_findLacks_76 k rc S8 x1 x2 x3 v10 x6))
def F_X1_findLacks (S : RS) (x1 : Int32) (x2 : Int32) (x3 : Int32) : Option (Int64 × RS) :=
  lo3 (B_X1_findLacks_6 x1 x2 x3 (fun S11 z12 => some (z12, S11))) FU S (0 : Int64) (0 : Int32)
def B_X1_shareScarce_6 (x1 : Int32) (x2 : Int64) (x4 : Int64) (k : RS → Int64 → Option (RS)) (rc : RS → Int64 → Int32 → Option (RS)) (S : RS) (x6 : Int64) (x8 : Int32) : Option (RS) :=
  if (16 : Int32) ≤ x8 then
  (k S x6)
  else
  ((rdL (r_lacked S) x8).bind fun v1 =>
  (F_X1_cut (v1 * x2) x4).bind fun q2 =>
  nm (((x1 * (16 : Int32)) + x8) : Int32) fun v3 =>
  (rdL (r_paid S) v3).bind fun v4 =>
  (wrL (r_paid S) v3 (v4 + q2)).bind fun f5 =>
  nm (rs_paid S f5 : RS) fun S6 =>
  (rdL (r_lacked S6) x8).bind fun v7 =>
  (wrL (r_lacked S6) x8 (v7 - q2)).bind fun f8 =>
  nm (rs_lacked S6 f8 : RS) fun S9 =>
  nm ((x6 - q2) : Int64) fun v10 =>
  nm (x8 + 1 : Int32) fun v11 =>
  rc S9 v10 v11)
def J_X1_shareScarce_122 (k : RS → Option (RS)) (rc : RS → Int64 → Int32 → Option (RS)) (S : RS) (x1 : Int32) (x6 : Int64) (x8 : Int32) : Option (RS) :=
  nm (x8 + 1 : Int32) fun v15 =>
  rc S x6 v15
def B_X1_shareScarce_74 (x1 : Int32) (k : RS → Option (RS)) (rc : RS → Int64 → Int32 → Option (RS)) (S : RS) (x6 : Int64) (x8 : Int32) : Option (RS) :=
  if (16 : Int32) ≤ x8 then
  (k S)
  else
  (if (lg_cmp x6 (0 : Int64)) ≤ 0 then
  (k S)
  else
  ((rdL (r_lacked S) x8).bind fun v14 =>
  if (lg_cmp v14 (0 : Int64)) ≤ 0 then
  (J_X1_shareScarce_122 k rc S x1 x6 x8)
  else
  (nm (((x1 * (16 : Int32)) + x8) : Int32) fun v16 =>
  (rdL (r_paid S) v16).bind fun v17 =>
  (wrL (r_paid S) v16 (v17 + (1 : Int64))).bind fun f18 =>
  nm (rs_paid S f18 : RS) fun S19 =>
  nm ((x6 - (1 : Int64)) : Int64) fun v20 =>
  J_X1_shareScarce_122 k rc S19 x1 v20 x8)))
def F_X1_shareScarce (S : RS) (x1 : Int32) (x2 : Int64) (x4 : Int64) : Option (RS) :=
  lo3 (B_X1_shareScarce_6 x1 x2 x4 (fun S12 z13 => lo3 (B_X1_shareScarce_74 x1 (fun S21 => some S21)) FU S12 z13 (0 : Int32))) FU S x2 (0 : Int32)
def B_X1_payLacks_2 (x1 : Int32) (k : RS → Option (RS)) (rc : RS → Int32 → Option (RS)) (S : RS) (x2 : Int32) : Option (RS) :=
  if (16 : Int32) ≤ x2 then
  (k S)
  else
  (nm (((x1 * (16 : Int32)) + x2) : Int32) fun v1 =>
  (rdL (r_paid S) v1).bind fun v2 =>
  (rdL (r_lacked S) x2).bind fun v3 =>
  (wrL (r_paid S) v1 (v2 + v3)).bind fun f4 =>
  nm (rs_paid S f4 : RS) fun S5 =>
  nm (x2 + 1 : Int32) fun v6 =>
  rc S5 v6)
def F_X1_payLacks (S : RS) (x1 : Int32) : Option (RS) :=
  lo2 (B_X1_payLacks_2 x1 (fun S7 => some S7)) FU S (0 : Int32)
def J_X1_payOutOf_59 (k : RS → Option (RS)) (rc : RS → Int64 → Int32 → Option (RS)) (S : RS) (x1 : Int32) (x2 : Int32) (x3 : Int64) (x5 : Int32) : Option (RS) :=
  nm (x5 + 1 : Int32) fun v5 =>
  rc S x3 v5
def B_X1_payOutOf_13 (x1 : Int32) (x2 : Int32) (k : RS → Option (RS)) (rc : RS → Int64 → Int32 → Option (RS)) (S : RS) (x3 : Int64) (x5 : Int32) : Option (RS) :=
  if (1 : Int32) < x5 then
  (k S)
  else
  ((F_X1_findLacks S x1 x2 x5).bind fun q2 =>
  if (lg_cmp q2.1 x3) ≤ 0 then
  ((F_X1_payLacks q2.2 x1).bind fun q3 =>
  nm ((x3 - q2.1) : Int64) fun v4 =>
  J_X1_payOutOf_59 k rc q3 x1 x2 v4 x5)
  else
  ((F_X1_shareScarce q2.2 x1 x3 q2.1).bind fun q6 =>
  J_X1_payOutOf_59 k rc q6 x1 x2 (0 : Int64) x5))
def F_X1_payOutOf (S : RS) (x1 : Int32) (x2 : Int32) : Option (RS) :=
  (F_X2_fundOf (r_told S) x1 x2).bind fun q1 =>
  lo3 (B_X1_payOutOf_13 x1 x2 (fun S7 => some S7)) FU S q1 (0 : Int32)
def F_X1_pay (S : RS) (x1 : Int32) : Option (RS) :=
  (F_X2_ofShip (r_told S) x1 (5 : Int32)).bind fun q1 =>
  if q1 = (1 : Int32) then
  ((cpL (n0 := 64) (exL (r_owed S)) (r_paid S) (x1 * (16 : Int32)) (x1 * (16 : Int32)) (16 : Int32)).bind fun f4 =>
  nm (rs_paid S f4 : RS) fun S5 =>
  some S5)
  else
  ((F_X1_payOutOf S x1 (6 : Int32)).bind fun q2 =>
  (F_X1_payOutOf q2 x1 (5 : Int32)).bind fun q3 =>
  some q3)
def B_X1_settle_42 (k : RS → Option (RS)) (rc : RS → Int32 → Option (RS)) (S : RS) (x1 : Int32) : Option (RS) :=
  if (t_ships (r_told S)) ≤ x1 then
  (k S)
  else
  ((F_X1_pay S x1).bind fun q11 =>
  nm (x1 + 1 : Int32) fun v12 =>
  rc q11 v12)
def F_X1_settle (S : RS) : Option (RS) :=
  (F_J7_fill_d0a16 (r_owed S) (0 : Int64)).bind fun q1 =>
  nm (rs_owed S q1 : RS) fun S2 =>
  (F_J7_fill_d0a16 (r_paid S2) (0 : Int64)).bind fun q3 =>
  nm (rs_paid S2 q3 : RS) fun S4 =>
  (F_J7_fill_d0a16 (r_backs S4) (0 : Int64)).bind fun q5 =>
  nm (rs_backs S4 q5 : RS) fun S6 =>
  (F_X1_weigh S6).bind fun q7 =>
  (F_X1_oweClaims q7).bind fun q8 =>
  (F_X1_oweBack q8).bind fun q9 =>
  (F_X1_oweShips q9).bind fun q10 =>
  lo2 (B_X1_settle_42 (fun S13 => some S13)) FU q10 (0 : Int32)
def B_X1_backForClaim_5 (S : RS) (x1 : Int32) (k : Int64 → Option (Int64)) (rc : Int64 → Int32 → Option (Int64)) (x2 : Int64) (x4 : Int32) : Option (Int64) :=
  if (t_ships (r_told S)) ≤ x4 then
  (k x2)
  else
  ((F_X1_backFor S x1 x4).bind fun q1 =>
  nm ((x2 + q1) : Int64) fun v2 =>
  nm (x4 + 1 : Int32) fun v3 =>
  rc v2 v3)
def F_X1_backForClaim (S : RS) (x1 : Int32) : Option (Int64) :=
  lo2 (B_X1_backForClaim_5 S x1 (fun z4 => some z4)) FU (0 : Int64) (0 : Int32)
def F_X1_owedToShip (S : RS) (x1 : Int32) (x2 : Int32) : Option (Int64) :=
  (rdL (r_owed S) ((x1 * (16 : Int32)) + x2)).bind fun v1 =>
  some v1
def B_X1_rowTogether_5 (S : (Fin 64 → Int64)) (x1 : Int32) (k : Int64 → Option (Int64)) (rc : Int64 → Int32 → Option (Int64)) (x2 : Int64) (x4 : Int32) : Option (Int64) :=
  if (16 : Int32) ≤ x4 then
  (k x2)
  else
  ((rdL S ((x1 * (16 : Int32)) + x4)).bind fun v1 =>
  nm ((x2 + v1) : Int64) fun v2 =>
  nm (x4 + 1 : Int32) fun v3 =>
  rc v2 v3)
def F_X1_rowTogether (S : (Fin 64 → Int64)) (x1 : Int32) : Option (Int64) :=
  lo2 (B_X1_rowTogether_5 S x1 (fun z4 => some z4)) FU (0 : Int64) (0 : Int32)
def F_X1_owedByShip (S : RS) (x1 : Int32) : Option (Int64) :=
  (F_X1_rowTogether (r_owed S) x1).bind fun q1 =>
  some q1
def F_X1_paidToClaim (S : RS) (x1 : Int32) (x2 : Int32) : Option (Int64) :=
  (rdL (r_paid S) (((x1 * (16 : Int32)) + (4 : Int32)) + x2)).bind fun v1 =>
  some v1
def F_X1_paidToShip (S : RS) (x1 : Int32) (x2 : Int32) : Option (Int64) :=
  (rdL (r_paid S) ((x1 * (16 : Int32)) + x2)).bind fun v1 =>
  some v1
def F_X1_paidByShip (S : RS) (x1 : Int32) : Option (Int64) :=
  (F_X1_rowTogether (r_paid S) x1).bind fun q1 =>
  some q1
def B_X1_paidToClaimByAll_5 (S : RS) (x1 : Int32) (k : Int64 → Option (Int64)) (rc : Int64 → Int32 → Option (Int64)) (x2 : Int64) (x4 : Int32) : Option (Int64) :=
  if (t_ships (r_told S)) ≤ x4 then
  (k x2)
  else
  ((F_X1_paidToClaim S x4 x1).bind fun q1 =>
  nm ((x2 + q1) : Int64) fun v2 =>
  nm (x4 + 1 : Int32) fun v3 =>
  rc v2 v3)
def F_X1_paidToClaimByAll (S : RS) (x1 : Int32) : Option (Int64) :=
  lo2 (B_X1_paidToClaimByAll_5 S x1 (fun z4 => some z4)) FU (0 : Int64) (0 : Int32)
def F_X1_givenBack (S : RS) (x1 : Int32) : Option (Int64) :=
  (F_X2_isGoods (r_told S) x1).bind fun q1 =>
  if q1 = 0 then
  (some (0 : Int64))
  else
  ((F_X2_ofClaim (r_told S) x1 (1 : Int32)).bind fun q2 =>
  (F_X2_ofShip (r_told S) q2 (4 : Int32)).bind fun q3 =>
  if q3 = 0 then
  (some (0 : Int64))
  else
  ((F_X1_backForClaim S x1).bind fun q4 =>
  (F_X1_paidToClaimByAll S x1).bind fun q5 =>
  nm ((if q5 < q4 then q5 else q4) : Int64) fun v6 =>
  some v6))
def F_X1_leftToClaim (S : RS) (x1 : Int32) : Option (Int64) :=
  (F_X1_paidToClaimByAll S x1).bind fun q1 =>
  (F_X1_givenBack S x1).bind fun q2 =>
  some (q1 - q2)
def B_X1_netOf_21 (S : RS) (x1 : Int32) (k : Int64 → Option (Int64)) (rc : Int64 → Int32 → Option (Int64)) (x2 : Int64) (x4 : Int32) : Option (Int64) :=
  if (t_ships (r_told S)) ≤ x4 then
  (k x2)
  else
  ((F_X1_paidToShip S x4 x1).bind fun q4 =>
  nm ((x2 + q4) : Int64) fun v5 =>
  nm (x4 + 1 : Int32) fun v6 =>
  rc v5 v6)
def J_X1_netOf_87 (k : Int64 → Option (Int64)) (rc : Int64 → Int32 → Option (Int64)) (S : RS) (x1 : Int32) (x2 : Int64) (x4 : Int32) : Option (Int64) :=
  nm (x4 + 1 : Int32) fun v9 =>
  rc x2 v9
def B_X1_netOf_52 (S : RS) (x1 : Int32) (k : Int64 → Option (Int64)) (rc : Int64 → Int32 → Option (Int64)) (x2 : Int64) (x4 : Int32) : Option (Int64) :=
  if (t_claims (r_told S)) ≤ x4 then
  (k x2)
  else
  ((F_X2_ofClaim (r_told S) x4 (1 : Int32)).bind fun q8 =>
  if q8 = x1 then
  ((F_X1_givenBack S x4).bind fun q10 =>
  nm ((x2 + q10) : Int64) fun v11 =>
  J_X1_netOf_87 k rc S x1 v11 x4)
  else
  (J_X1_netOf_87 k rc S x1 x2 x4))
def F_X1_netOf (S : RS) (x1 : Int32) : Option (Int64) :=
  (F_X1_paidByShip S x1).bind fun q1 =>
  (F_X2_ofShip (r_told S) x1 (2 : Int32)).bind fun q2 =>
  nm (((-q1) - q2.toInt64) : Int64) fun v3 =>
  lo2 (B_X1_netOf_21 S x1 (fun z7 => lo2 (B_X1_netOf_52 S x1 (fun z12 => some z12)) FU z7 (0 : Int32))) FU v3 (0 : Int32)
def J_X1_paidToPersons_41 (k : Int64 → Option (Int64)) (rc : Int64 → Int32 → Option (Int64)) (S : RS) (x1 : Int32) (x2 : Int64) (x4 : Int32) : Option (Int64) :=
  nm (x4 + 1 : Int32) fun v2 =>
  rc x2 v2
def B_X1_paidToPersons_5 (S : RS) (x1 : Int32) (k : Int64 → Option (Int64)) (rc : Int64 → Int32 → Option (Int64)) (x2 : Int64) (x4 : Int32) : Option (Int64) :=
  if (t_claims (r_told S)) ≤ x4 then
  (k x2)
  else
  ((F_X2_ofClaim (r_told S) x4 (0 : Int32)).bind fun q1 =>
  if q1 = (1 : Int32) then
  ((F_X1_paidToClaim S x1 x4).bind fun q3 =>
  nm ((x2 + q3) : Int64) fun v4 =>
  J_X1_paidToPersons_41 k rc S x1 v4 x4)
  else
  (J_X1_paidToPersons_41 k rc S x1 x2 x4))
def F_X1_paidToPersons (S : RS) (x1 : Int32) : Option (Int64) :=
  lo2 (B_X1_paidToPersons_5 S x1 (fun z5 => some z5)) FU (0 : Int64) (0 : Int32)
def F_X1_threeQuarters (x0 : Int64) : Option (Int64) :=
  (dvL (x0 * (3 : Int64)) (4 : Int64)).bind fun v1 =>
  some v1
def F_X1_coveredOf (S : RS) (x1 : Int32) : Option (Int64) :=
  (F_X1_paidByShip S x1).bind fun q1 =>
  (F_X1_paidToPersons S x1).bind fun q2 =>
  (F_X1_threeQuarters (q1 - q2)).bind fun q3 =>
  (F_X2_ofShip (r_told S) x1 (3 : Int32)).bind fun q4 =>
  (F_X1_threeQuarters q4.toInt64).bind fun q5 =>
  nm ((if q5 < q3 then q5 else q3) : Int64) fun v6 =>
  some v6
def J_X1_owedToPersons_41 (k : Int64 → Option (Int64)) (rc : Int64 → Int32 → Option (Int64)) (S : RS) (x1 : Int32) (x2 : Int64) (x4 : Int32) : Option (Int64) :=
  nm (x4 + 1 : Int32) fun v2 =>
  rc x2 v2
def B_X1_owedToPersons_5 (S : RS) (x1 : Int32) (k : Int64 → Option (Int64)) (rc : Int64 → Int32 → Option (Int64)) (x2 : Int64) (x4 : Int32) : Option (Int64) :=
  if (t_claims (r_told S)) ≤ x4 then
  (k x2)
  else
  ((F_X2_ofClaim (r_told S) x4 (0 : Int32)).bind fun q1 =>
  if q1 = (1 : Int32) then
  ((F_X1_owedToClaim S x1 x4).bind fun q3 =>
  nm ((x2 + q3) : Int64) fun v4 =>
  J_X1_owedToPersons_41 k rc S x1 v4 x4)
  else
  (J_X1_owedToPersons_41 k rc S x1 x2 x4))
def F_X1_owedToPersons (S : RS) (x1 : Int32) : Option (Int64) :=
  lo2 (B_X1_owedToPersons_5 S x1 (fun z5 => some z5)) FU (0 : Int64) (0 : Int32)
def F_X1_rateNeeded (S : RS) (x1 : Int32) : Option (Int64) :=
  (F_X2_ofShip (r_told S) x1 (5 : Int32)).bind fun q1 =>
  if q1 = (1 : Int32) then
  (some (0 : Int64))
  else
  ((F_X1_owedToPersons S x1).bind fun q2 =>
  (F_X1_owedByShip S x1).bind fun q3 =>
  (F_X2_fundOf (r_told S) x1 (6 : Int32)).bind fun q4 =>
  nm ((if q4 < q2 then q4 else q2) : Int64) fun v5 =>
  nm ((q3 - v5) : Int64) fun v6 =>
  (F_X2_fundTons (r_told S) x1).bind fun q7 =>
  (F_X1_cut ((v6 + q7) - (1 : Int64)) q7).bind fun q8 =>
  some q8)
def F_X2_clear (S : TS) : Option (TS) :=
  nm (ts_ships S (0 : Int32) : TS) fun S1 =>
  nm (ts_claims S1 (0 : Int32) : TS) fun S2 =>
  (cpI (n0 := 10) (exI (sAf 4)) (t_laws S2) (0 : Int32) (0 : Int32) (10 : Int32)).bind fun f3 =>
  nm (ts_laws S2 f3 : TS) fun S4 =>
  some S4
def F_X2_setShip (S : TS) (x1 : Int32) (x2 : Int32) (x3 : Int32) : Option (TS) :=
  (wrI (t_shipRows S) ((x1 * (6 : Int32)) + x2) x3).bind fun f1 =>
  nm (ts_shipRows S f1 : TS) fun S2 =>
  some S2
def B_X2_shipNamed_2 (S : TS) (x1 : Int64) (k : Unit → Option (Int32)) (rc : Int32 → Option (Int32)) (x3 : Int32) : Option (Int32) :=
  if (t_ships S) ≤ x3 then
  (k ())
  else
  ((rdL (t_names S) x3).bind fun v1 =>
  if (lg_cmp v1 x1) = 0 then
  (some x3)
  else
  (nm (x3 + 1 : Int32) fun v2 =>
  rc v2))
def F_X2_shipNamed (S : TS) (x1 : Int64) : Option (Int32) :=
  lo1 (B_X2_shipNamed_2 S x1 (fun _u => some (-1 : Int32))) FU (0 : Int32)
def B_X2_addShip_12 (k : TS → Option (TS)) (rc : TS → Int32 → Option (TS)) (S : TS) (x3 : Int32) : Option (TS) :=
  if (6 : Int32) ≤ x3 then
  (k S)
  else
  ((F_X2_setShip S (t_ships S) x3 (0 : Int32)).bind fun q3 =>
  nm (x3 + 1 : Int32) fun v4 =>
  rc q3 v4)
def F_X2_addShip (S : TS) (x1 : Int64) : Option (TS) :=
  (wrL (t_names S) (t_ships S) x1).bind fun f1 =>
  nm (ts_names S f1 : TS) fun S2 =>
  lo2 (B_X2_addShip_12 (fun S5 => nm (ts_ships S5 ((t_ships S5) + (1 : Int32)) : TS) fun S6 =>
  some S6)) FU S2 (0 : Int32)
def J_X2_addClaim_36 (S : TS) (x3 : Int32) (x4 : Int32) (x5 : Int32) (y0 : Int32) (y1 : Int32) : Option (TS) :=
  (wrI (t_claimRows S) y1 y0).bind fun f4 =>
  nm (ts_claimRows S f4 : TS) fun S5 =>
  (wrI (t_claimRows S5) (x5 + (2 : Int32)) x3).bind fun f6 =>
  nm (ts_claimRows S5 f6 : TS) fun S7 =>
  (wrI (t_claimRows S7) (x5 + (3 : Int32)) x4).bind fun f8 =>
  nm (ts_claimRows S7 f8 : TS) fun S9 =>
  nm (ts_claims S9 ((t_claims S9) + (1 : Int32)) : TS) fun S10 =>
  some S10
def F_X2_addClaim (S : TS) (x1 : Int32) (x2 : Int32) (x3 : Int32) (x4 : Int32) : Option (TS) :=
  nm (((t_claims S) * (4 : Int32)) : Int32) fun v1 =>
  (wrI (t_claimRows S) (v1 + (0 : Int32)) x1).bind fun f2 =>
  nm (ts_claimRows S f2 : TS) fun S3 =>
  if x1 = 0 then
  (J_X2_addClaim_36 S3 x3 x4 v1 x2 (v1 + (1 : Int32)))
  else
  (J_X2_addClaim_36 S3 x3 x4 v1 (-2 : Int32) (v1 + (1 : Int32)))
def B_X2_dropClaim_14 (k : TS → Option (TS)) (rc : TS → Int32 → Option (TS)) (S : TS) (x2 : Int32) : Option (TS) :=
  if ((t_claims S) * (4 : Int32)) ≤ x2 then
  (k S)
  else
  ((rdI (t_claimRows S) (x2 + (4 : Int32))).bind fun v3 =>
  (wrI (t_claimRows S) x2 v3).bind fun f4 =>
  nm (ts_claimRows S f4 : TS) fun S5 =>
  nm (x2 + 1 : Int32) fun v6 =>
  rc S5 v6)
def F_X2_dropClaim (S : TS) (x1 : Int32) : Option (TS) :=
  nm (ts_claims S ((t_claims S) - (1 : Int32)) : TS) fun S1 =>
  nm ((x1 * (4 : Int32)) : Int32) fun v2 =>
  lo2 (B_X2_dropClaim_14 (fun S7 => some S7)) FU S1 v2
def B_X2_faultsTogether_4 (S : TS) (k : Int32 → Option (Int32)) (rc : Int32 → Int32 → Option (Int32)) (x1 : Int32) (x2 : Int32) : Option (Int32) :=
  if (t_ships S) ≤ x2 then
  (k x1)
  else
  ((F_X2_ofShip S x2 (1 : Int32)).bind fun q1 =>
  nm ((x1 + q1) : Int32) fun v2 =>
  nm (x2 + 1 : Int32) fun v3 =>
  rc v2 v3)
def F_X2_faultsTogether (S : TS) : Option (Int32) :=
  lo2 (B_X2_faultsTogether_4 S (fun z4 => some z4)) FU (0 : Int32) (0 : Int32)
def B_X2_drawFaults_2 (x1 : Int64) (k : TS → Option (Int64 × TS)) (rc : TS → Int32 → Option (Int64 × TS)) (S : TS) (x3 : Int32) : Option (Int64 × TS) :=
  if (t_ships S) ≤ x3 then
  (k S)
  else
  ((F_X2_setShip S x3 (1 : Int32) (0 : Int32)).bind fun q1 =>
  nm (x3 + 1 : Int32) fun v2 =>
  rc q1 v2)
def B_X2_drawFaults_28 (k : TS → Int64 → Option (Int64 × TS)) (rc : TS → Int64 → Int32 → Option (Int64 × TS)) (S : TS) (x3 : Int64) (x5 : Int32) : Option (Int64 × TS) :=
  if (10 : Int32) ≤ x5 then
  (k S x3)
  else
  (if (t_ships S) ≤ 0 then
  (k S x3)
  else
  ((rmL ((48271 : Int64) * x3) (2147483647 : Int64)).bind fun v4 =>
  (rmL v4 ((t_ships S).toInt64)).bind fun v5 =>
  nm (v5.toInt32 : Int32) fun v6 =>
  (F_X2_ofShip S v6 (1 : Int32)).bind fun q7 =>
  (F_X2_setShip S v6 (1 : Int32) (q7 + (1 : Int32))).bind fun q8 =>
  nm (x5 + 1 : Int32) fun v9 =>
  rc q8 v4 v9))
def J_X2_drawFaults_84 (S : TS) (x3 : Int64) : Option (Int64 × TS) :=
  some (x3, S)
def F_X2_drawFaults (S : TS) (x1 : Int64) : Option (Int64 × TS) :=
  lo2 (B_X2_drawFaults_2 x1 (fun S3 => lo3 (B_X2_drawFaults_28 (fun S10 z11 => J_X2_drawFaults_84 S10 z11)) FU S3 x1 (0 : Int32))) FU S (0 : Int32)
