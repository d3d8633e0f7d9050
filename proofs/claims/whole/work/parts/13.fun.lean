/-! ===== pure functions, printed out of the bytecode ===== -/
def F_X2_ofShip (S : TS) (x1 : Int32) (x2 : Int32) : Option (Int32) :=
  (rdI (t_shipRows S) ((x1 * (6 : Int32)) + x2)).bind fun v1 =>
  some v1
def F_X2_setShip (S : TS) (x1 : Int32) (x2 : Int32) (x3 : Int32) : Option (TS) :=
  (wrI (t_shipRows S) ((x1 * (6 : Int32)) + x2) x3).bind fun f1 =>
  nm (ts_shipRows S f1 : TS) fun S2 =>
  some S2
def F_X2_ofClaim (S : TS) (x1 : Int32) (x2 : Int32) : Option (Int32) :=
  (rdI (t_claimRows S) ((x1 * (4 : Int32)) + x2)).bind fun v1 =>
  some v1
def F_X2_holds (S : TS) (x1 : Int32) : Option (Int32) :=
  (rdI (t_laws S) x1).bind fun v1 =>
  if v1 = (1 : Int32) then
  (some (1 : Int32))
  else
  (some (0 : Int32))
def F_X2_isGoods (S : TS) (x1 : Int32) : Option (Int32) :=
  (F_X2_ofClaim S x1 (0 : Int32)).bind fun q1 =>
  if q1 = 0 then
  (some (1 : Int32))
  else
  (some (0 : Int32))
def B_X2_shipNamed_2 (S : TS) (x1 : Int64) (k : Unit → Option (Int32)) (rc : Int32 → Option (Int32)) (x3 : Int32) : Option (Int32) :=
  if (t_ships S) ≤ x3 then
  (k ())
  else
  ((rdL (t_names S) x3).bind fun v1 =>
  if (lg_cmp v1 x1) = 0 then
  (some x3)
  else
  (nm (x3 + 1 : Int32) fun v2 =>
  rc v2))
def F_X2_shipNamed (S : TS) (x1 : Int64) : Option (Int32) :=
  lo1 (B_X2_shipNamed_2 S x1 (fun _u => some (-1 : Int32))) FU (0 : Int32)
def B_X2_addShip_12 (k : TS → Option (TS)) (rc : TS → Int32 → Option (TS)) (S : TS) (x3 : Int32) : Option (TS) :=
  if (6 : Int32) ≤ x3 then
  (k S)
  else
  ((F_X2_setShip S (t_ships S) x3 (0 : Int32)).bind fun q3 =>
  nm (x3 + 1 : Int32) fun v4 =>
  rc q3 v4)
def F_X2_addShip (S : TS) (x1 : Int64) : Option (TS) :=
  (wrL (t_names S) (t_ships S) x1).bind fun f1 =>
  nm (ts_names S f1 : TS) fun S2 =>
  lo2 (B_X2_addShip_12 (fun S5 => nm (ts_ships S5 ((t_ships S5) + (1 : Int32)) : TS) fun S6 =>
  some S6)) FU S2 (0 : Int32)
def J_X2_addClaim_36 (S : TS) (x3 : Int32) (x4 : Int32) (x5 : Int32) (y0 : Int32) (y1 : Int32) : Option (TS) :=
  (wrI (t_claimRows S) y1 y0).bind fun f4 =>
  nm (ts_claimRows S f4 : TS) fun S5 =>
  (wrI (t_claimRows S5) (x5 + (2 : Int32)) x3).bind fun f6 =>
  nm (ts_claimRows S5 f6 : TS) fun S7 =>
  (wrI (t_claimRows S7) (x5 + (3 : Int32)) x4).bind fun f8 =>
  nm (ts_claimRows S7 f8 : TS) fun S9 =>
  nm (ts_claims S9 ((t_claims S9) + (1 : Int32)) : TS) fun S10 =>
  some S10
def F_X2_addClaim (S : TS) (x1 : Int32) (x2 : Int32) (x3 : Int32) (x4 : Int32) : Option (TS) :=
  nm (((t_claims S) * (4 : Int32)) : Int32) fun v1 =>
  (wrI (t_claimRows S) (v1 + (0 : Int32)) x1).bind fun f2 =>
  nm (ts_claimRows S f2 : TS) fun S3 =>
  if x1 = 0 then
  (J_X2_addClaim_36 S3 x3 x4 v1 x2 (v1 + (1 : Int32)))
  else
  (J_X2_addClaim_36 S3 x3 x4 v1 (-2 : Int32) (v1 + (1 : Int32)))
def B_X2_dropClaim_14 (k : TS → Option (TS)) (rc : TS → Int32 → Option (TS)) (S : TS) (x2 : Int32) : Option (TS) :=
  if ((t_claims S) * (4 : Int32)) ≤ x2 then
  (k S)
  else
  ((rdI (t_claimRows S) (x2 + (4 : Int32))).bind fun v3 =>
  (wrI (t_claimRows S) x2 v3).bind fun f4 =>
  nm (ts_claimRows S f4 : TS) fun S5 =>
  nm (x2 + 1 : Int32) fun v6 =>
  rc S5 v6)
def F_X2_dropClaim (S : TS) (x1 : Int32) : Option (TS) :=
  nm (ts_claims S ((t_claims S) - (1 : Int32)) : TS) fun S1 =>
  nm ((x1 * (4 : Int32)) : Int32) fun v2 =>
  lo2 (B_X2_dropClaim_14 (fun S7 => some S7)) FU S1 v2
def B_X2_faultsTogether_4 (S : TS) (k : Int32 → Option (Int32)) (rc : Int32 → Int32 → Option (Int32)) (x1 : Int32) (x2 : Int32) : Option (Int32) :=
  if (t_ships S) ≤ x2 then
  (k x1)
  else
  ((F_X2_ofShip S x2 (1 : Int32)).bind fun q1 =>
  nm ((x1 + q1) : Int32) fun v2 =>
  nm (x2 + 1 : Int32) fun v3 =>
  rc v2 v3)
def F_X2_faultsTogether (S : TS) : Option (Int32) :=
  lo2 (B_X2_faultsTogether_4 S (fun z4 => some z4)) FU (0 : Int32) (0 : Int32)
def F_X2_weightOf (S : TS) (x1 : Int32) : Option (Int32) :=
  (F_X2_ofShip S x1 (1 : Int32)).bind fun q1 =>
  (F_X2_holds S (2 : Int32)).bind fun q2 =>
  if q2 = 0 then
  (some q1)
  else
  (nm ((if (1 : Int32) < q1 then (1 : Int32) else q1) : Int32) fun v3 =>
  some v3)
def F_X2_roundOf (S : TS) (x1 : Int32) : Option (Int32) :=
  (F_X2_ofClaim S x1 (3 : Int32)).bind fun q1 =>
  (rdI (t_laws S) (9 : Int32)).bind fun v2 =>
  if q1 ≤ v2 then
  ((rdI (t_laws S) (8 : Int32)).bind fun v3 =>
  if q1 ≤ v3 then
  (some (0 : Int32))
  else
  (some (1 : Int32)))
  else
  (some (-2 : Int32))
def F_X2_fundTons (S : TS) (x1 : Int32) : Option (Int64) :=
  (F_X2_ofShip S x1 (0 : Int32)).bind fun q1 =>
  (rdI (t_laws S) (7 : Int32)).bind fun v2 =>
  nm ((if q1 < v2 then v2 else q1) : Int32) fun v3 =>
  some v3.toInt64
def F_X2_fundOf (S : TS) (x1 : Int32) (x2 : Int32) : Option (Int64) :=
  (F_X2_fundTons S x1).bind fun q1 =>
  (rdI (t_laws S) x2).bind fun v2 =>
  nm ((if (2000000000 : Int64) < (q1 * v2.toInt64) then (2000000000 : Int64) else (q1 * v2.toInt64)) : Int64) fun v3 =>
  some v3
def B_X2_drawFaults_2 (x1 : Int64) (k : TS → Option (Int64 × TS)) (rc : TS → Int32 → Option (Int64 × TS)) (S : TS) (x3 : Int32) : Option (Int64 × TS) :=
  if (t_ships S) ≤ x3 then
  (k S)
  else
  ((F_X2_setShip S x3 (1 : Int32) (0 : Int32)).bind fun q1 =>
  nm (x3 + 1 : Int32) fun v2 =>
  rc q1 v2)
def B_X2_drawFaults_28 (k : TS → Int64 → Option (Int64 × TS)) (rc : TS → Int64 → Int32 → Option (Int64 × TS)) (S : TS) (x3 : Int64) (x5 : Int32) : Option (Int64 × TS) :=
  if (10 : Int32) ≤ x5 then
  (k S x3)
  else
  (if (t_ships S) ≤ 0 then
  (k S x3)
  else
  ((rmL ((48271 : Int64) * x3) (2147483647 : Int64)).bind fun v4 =>
  (rmL v4 ((t_ships S).toInt64)).bind fun v5 =>
  nm (v5.toInt32 : Int32) fun v6 =>
  (F_X2_ofShip S v6 (1 : Int32)).bind fun q7 =>
  (F_X2_setShip S v6 (1 : Int32) (q7 + (1 : Int32))).bind fun q8 =>
  nm (x5 + 1 : Int32) fun v9 =>
  rc q8 v4 v9))
def J_X2_drawFaults_84 (S : TS) (x3 : Int64) : Option (Int64 × TS) :=
  some (x3, S)
def F_X2_drawFaults (S : TS) (x1 : Int64) : Option (Int64 × TS) :=
  lo2 (B_X2_drawFaults_2 x1 (fun S3 => lo3 (B_X2_drawFaults_28 (fun S10 z11 => J_X2_drawFaults_84 S10 z11)) FU S3 x1 (0 : Int32))) FU S (0 : Int32)
