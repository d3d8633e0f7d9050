/-! ===== pure functions, printed out of the bytecode ===== -/
def F_X2_clear (S : TS) : Option (TS) :=
  nm (ts_ships S (0 : Int32) : TS) fun S1 =>
  nm (ts_claims S1 (0 : Int32) : TS) fun S2 =>
  (cpI (n0 := 10) (exI (sAf 4)) (t_laws S2) (0 : Int32) (0 : Int32) (10 : Int32)).bind fun f3 =>
  nm (ts_laws S2 f3 : TS) fun S4 =>
  some S4
def B_X0_begin_24 (k : DS → Option (DS)) (rc : DS → Int32 → Option (DS)) (S : DS) (x2 : Int32) : Option (DS) :=
  if (10 : Int32) ≤ x2 then
  (k S)
  else
  ((wrI (d_lawTold S) x2 (0 : Int32)).bind fun f6 =>
  nm (ds_lawTold S f6 : DS) fun S7 =>
  nm (x2 + 1 : Int32) fun v8 =>
  rc S7 v8)
def F_X0_begin (S : DS) (x1 : Int32) : Option (DS) :=
  nm (ds_end S x1 : DS) fun S1 =>
  nm (ds_next S1 (0 : Int32) : DS) fun S2 =>
  nm (ds_found S2 (0 : Int32) : DS) fun S3 =>
  (F_X2_clear (d_told S3)).bind fun q4 =>
  nm (ds_told S3 q4 : DS) fun S5 =>
  lo2 (B_X0_begin_24 (fun S9 => some S9)) FU S5 (0 : Int32)
def F_X0_isLetter (x0 : Int32) : Option (Int32) :=
  if x0 < (97 : Int32) then
  (some (0 : Int32))
  else
  (if (122 : Int32) < x0 then
  (some (0 : Int32))
  else
  (some (1 : Int32)))
def J_X0_stepLetters_76 (k : DS → Option (DS)) (rc : DS → Option (DS)) (S : DS) : Option (DS) :=
  nm (ds_length S ((d_length S) + (1 : Int32)) : DS) fun S5 =>
  nm (ds_next S5 ((d_next S5) + (1 : Int32)) : DS) fun S6 =>
  rc S6
def B_X0_stepLetters_10 (k : DS → Option (DS)) (rc : DS → Option (DS)) (S : DS) : Option (DS) :=
  if (d_end S) ≤ (d_next S) then
  (k S)
  else
  ((rdI (d_bytes S) (d_next S)).bind fun v3 =>
  (F_X0_isLetter v3).bind fun q4 =>
  if q4 = 0 then
  (k S)
  else
  (if (7 : Int32) ≤ (d_length S) then
  (J_X0_stepLetters_76 k rc S)
  else
  ((rdI (d_bytes S) (d_next S)).bind fun v7 =>
  nm (ds_letters S ((d_letters S) ||| ((((v7 - (97 : Int32)) + (1 : Int32)).toInt64) <<< (((5 : Int32) * (d_length S)).toInt64 &&& 63))) : DS) fun S8 =>
  J_X0_stepLetters_76 k rc S8)))
def J_X0_stepLetters_114 (S : DS) (y0 : Int32) : Option (DS) :=
  nm (ds_token S y0 : DS) fun S10 =>
  some S10
def J_X0_stepLetters_99 (S : DS) : Option (DS) :=
  if (7 : Int32) < (d_length S) then
  (J_X0_stepLetters_114 S (4 : Int32))
  else
  (J_X0_stepLetters_114 S (1 : Int32))
def F_X0_stepLetters (S : DS) : Option (DS) :=
  nm (ds_letters S (0 : Int64) : DS) fun S1 =>
  nm (ds_length S1 (0 : Int32) : DS) fun S2 =>
  lo1 (B_X0_stepLetters_10 (fun S9 => J_X0_stepLetters_99 S9)) FU S2
def F_X0_isDigit (x0 : Int32) : Option (Int32) :=
  if x0 < (48 : Int32) then
  (some (0 : Int32))
  else
  (if (57 : Int32) < x0 then
  (some (0 : Int32))
  else
  (some (1 : Int32)))
def J_X0_stepDigits_69 (k : DS → Option (DS)) (rc : DS → Option (DS)) (S : DS) : Option (DS) :=
  nm (ds_length S ((d_length S) + (1 : Int32)) : DS) fun S5 =>
  nm (ds_next S5 ((d_next S5) + (1 : Int32)) : DS) fun S6 =>
  rc S6
def B_X0_stepDigits_10 (k : DS → Option (DS)) (rc : DS → Option (DS)) (S : DS) : Option (DS) :=
  if (d_end S) ≤ (d_next S) then
  (k S)
  else
  ((rdI (d_bytes S) (d_next S)).bind fun v3 =>
  (F_X0_isDigit v3).bind fun q4 =>
  if q4 = 0 then
  (k S)
  else
  (if (7 : Int32) ≤ (d_length S) then
  (J_X0_stepDigits_69 k rc S)
  else
  ((rdI (d_bytes S) (d_next S)).bind fun v7 =>
  nm (ds_number S ((((d_number S) * (10 : Int32)) + v7) - (48 : Int32)) : DS) fun S8 =>
  J_X0_stepDigits_69 k rc S8)))
def J_X0_stepDigits_107 (S : DS) (y0 : Int32) : Option (DS) :=
  nm (ds_token S y0 : DS) fun S10 =>
  some S10
def J_X0_stepDigits_92 (S : DS) : Option (DS) :=
  if (7 : Int32) < (d_length S) then
  (J_X0_stepDigits_107 S (4 : Int32))
  else
  (J_X0_stepDigits_107 S (2 : Int32))
def F_X0_stepDigits (S : DS) : Option (DS) :=
  nm (ds_number S (0 : Int32) : DS) fun S1 =>
  nm (ds_length S1 (0 : Int32) : DS) fun S2 =>
  lo1 (B_X0_stepDigits_10 (fun S9 => J_X0_stepDigits_92 S9)) FU S2
def B_X0_step_0 (k : DS → Option (DS)) (rc : DS → Option (DS)) (S : DS) : Option (DS) :=
  if (d_end S) ≤ (d_next S) then
  (k S)
  else
  ((rdI (d_bytes S) (d_next S)).bind fun v1 =>
  if v1 = (32 : Int32) then
  (nm (ds_next S ((d_next S) + (1 : Int32)) : DS) fun S2 =>
  rc S2)
  else
  (k S))
def J_X0_step_129 (S : DS) (y0 : Int32) : Option (DS) :=
  nm (ds_token S y0 : DS) fun S10 =>
  nm (ds_next S10 ((d_next S10) + (1 : Int32)) : DS) fun S11 =>
  some S11
def J_X0_step_38 (S : DS) : Option (DS) :=
  nm (ds_start S (d_next S) : DS) fun S4 =>
  if (d_next S4) < (d_end S4) then
  ((rdI (d_bytes S4) (d_next S4)).bind fun v5 =>
  (F_X0_isLetter v5).bind fun q6 =>
  if q6 = 0 then
  ((rdI (d_bytes S4) (d_next S4)).bind fun v7 =>
  (F_X0_isDigit v7).bind fun q8 =>
  if q8 = 0 then
  ((rdI (d_bytes S4) (d_next S4)).bind fun v9 =>
  if v9 = (59 : Int32) then
  (J_X0_step_129 S4 (3 : Int32))
  else
  (J_X0_step_129 S4 (4 : Int32)))
  else
  ((F_X0_stepDigits S4).bind fun q12 =>
  some q12))
  else
  ((F_X0_stepLetters S4).bind fun q13 =>
  some q13))
  else
  (nm (ds_token S4 (0 : Int32) : DS) fun S14 =>
  some S14)
def F_X0_step (S : DS) : Option (DS) :=
  lo1 (B_X0_step_0 (fun S3 => J_X0_step_38 S3)) FU S
def B_X0_fixedWord_12 (S : DS) (k : Unit → Option ((Option Nat))) (rc : Int32 → Option ((Option Nat))) (x1 : Int32) : Option ((Option Nat)) :=
  if (19 : Int32) ≤ x1 then
  (k ())
  else
  ((ixB x1 19).bind fun j1 =>
  (wd_let[j1.1]?).bind fun v2 =>
  if (lg_cmp v2 (d_letters S)) = 0 then
  ((ixB x1 19).bind fun j4 =>
  some (some j4.1))
  else
  (nm (x1 + 1 : Int32) fun v3 =>
  rc v3))
def F_X0_fixedWord (S : DS) : Option ((Option Nat)) :=
  if (d_token S) = (1 : Int32) then
  (lo1 (B_X0_fixedWord_12 S (fun _u => some none)) FU (0 : Int32))
  else
  (some none)
def F_X0_fail (S : DS) (x1 : Int32) : Option (Int32 × DS) :=
  nm (ds_found S x1 : DS) fun S1 =>
  some ((0 : Int32), S1)
def F_X0_isName (S : DS) : Option (Int32) :=
  if (d_token S) = (1 : Int32) then
  (if (6 : Int32) < (d_length S) then
  (some (0 : Int32))
  else
  ((F_X0_fixedWord S).bind fun q1 =>
  Option.elim q1
  (some (1 : Int32))
  (fun w2 => some (0 : Int32))))
  else
  (some (0 : Int32))
def B_X2_shipNamed_2 (S : TS) (x1 : Int64) (k : Unit → Option (Int32)) (rc : Int32 → Option (Int32)) (x3 : Int32) : Option (Int32) :=
  if (t_ships S) ≤ x3 then
  (k ())
  else
  ((rdL (t_names S) x3).bind fun v1 =>
  if (lg_cmp v1 x1) = 0 then
  (some x3)
  else
  (nm (x3 + 1 : Int32) fun v2 =>
  rc v2))
def F_X2_shipNamed (S : TS) (x1 : Int64) : Option (Int32) :=
  lo1 (B_X2_shipNamed_2 S x1 (fun _u => some (-1 : Int32))) FU (0 : Int32)
def F_X2_setShip (S : TS) (x1 : Int32) (x2 : Int32) (x3 : Int32) : Option (TS) :=
  (wrI (t_shipRows S) ((x1 * (6 : Int32)) + x2) x3).bind fun f1 =>
  nm (ts_shipRows S f1 : TS) fun S2 =>
  some S2
def B_X2_addShip_12 (k : TS → Option (TS)) (rc : TS → Int32 → Option (TS)) (S : TS) (x3 : Int32) : Option (TS) :=
  if (6 : Int32) ≤ x3 then
  (k S)
  else
  ((F_X2_setShip S (t_ships S) x3 (0 : Int32)).bind fun q3 =>
  nm (x3 + 1 : Int32) fun v4 =>
  rc q3 v4)
def F_X2_addShip (S : TS) (x1 : Int64) : Option (TS) :=
  (wrL (t_names S) (t_ships S) x1).bind fun f1 =>
  nm (ts_names S f1 : TS) fun S2 =>
  lo2 (B_X2_addShip_12 (fun S5 => nm (ts_ships S5 ((t_ships S5) + (1 : Int32)) : TS) fun S6 =>
  some S6)) FU S2 (0 : Int32)
def F_X4_within (x0 : Int32) (x1 : Int32) (x2 : Int32) : Option (Int32) :=
  if x0 < x1 then
  (some (0 : Int32))
  else
  (if x2 < x0 then
  (some (0 : Int32))
  else
  (some (1 : Int32)))
def J_X0_isWholeWithin_34 (S : DS) : Option (Int32 × DS) :=
  some ((1 : Int32), S)
def F_X0_isWholeWithin (S : DS) (x1 : Int32) (x2 : Int32) : Option (Int32 × DS) :=
  if (d_token S) = (2 : Int32) then
  ((F_X4_within (d_number S) x1 x2).bind fun q1 =>
  if q1 = 0 then
  ((F_X0_fail S (2 : Int32)).bind fun q2 =>
  if q2.1 = 0 then
  (some ((0 : Int32), q2.2))
  else
  (J_X0_isWholeWithin_34 q2.2))
  else
  (J_X0_isWholeWithin_34 S))
  else
  ((F_X0_fail S (1 : Int32)).bind fun q3 =>
  zz q3.1 <|
  some (q3.1, q3.2))
def F_X0_readColumn (S : DS) (x1 : Nat) : Option (Int32 × DS) :=
  (wd_col[x1]?).bind fun v1 =>
  (F_X0_fixedWord S).bind fun q2 =>
  Option.elim q2
  ((F_X0_fail S (1 : Int32)).bind fun q4 =>
  zz q4.1 <|
  some (q4.1, q4.2))
  (fun w3 => (ltW w3 x1).bind fun u5 =>
  if w3 = x1 then
  ((F_X0_step S).bind fun q6 =>
  (rdI (sAf 0) v1).bind fun v7 =>
  (rdI (sAf 1) v1).bind fun v8 =>
  (F_X0_isWholeWithin q6 v7 v8).bind fun q9 =>
  if q9.1 = 0 then
  (some ((0 : Int32), q9.2))
  else
  ((F_X2_setShip (d_told q9.2) ((t_ships (d_told q9.2)) - (1 : Int32)) v1 (d_number q9.2)).bind fun q10 =>
  nm (ds_told q9.2 q10 : DS) fun S11 =>
  (F_X0_step S11).bind fun q12 =>
  some ((1 : Int32), q12)))
  else
  ((F_X0_fail S (1 : Int32)).bind fun q13 =>
  zz q13.1 <|
  some (q13.1, q13.2)))
def F_X0_readMark (S : DS) (x1 : Nat) : Option (DS) :=
  (F_X0_fixedWord S).bind fun q1 =>
  Option.elim q1
  (some S)
  (fun w2 => (ltW w2 x1).bind fun u3 =>
  if w2 = x1 then
  ((wd_col[x1]?).bind fun v4 =>
  (F_X2_setShip (d_told S) ((t_ships (d_told S)) - (1 : Int32)) v4 (1 : Int32)).bind fun q5 =>
  nm (ds_told S q5 : DS) fun S6 =>
  (F_X0_step S6).bind fun q7 =>
  some q7)
  else
  (some S))
def F_X0_readShip (S : DS) : Option (Int32 × DS) :=
  if (t_ships (d_told S)) < (4 : Int32) then
  ((F_X0_step S).bind fun q1 =>
  (F_X0_isName q1).bind fun q2 =>
  if q2 = 0 then
  ((F_X0_fail q1 (1 : Int32)).bind fun q14 =>
  zz q14.1 <|
  some (q14.1, q14.2))
  else
  ((F_X2_shipNamed (d_told q1) (d_letters q1)).bind fun q3 =>
  if q3 = (-1 : Int32) then
  ((F_X2_addShip (d_told q1) (d_letters q1)).bind fun q4 =>
  nm (ds_told q1 q4 : DS) fun S5 =>
  (F_X0_step S5).bind fun q6 =>
  (F_X0_readColumn q6 1).bind fun q7 =>
  if q7.1 = 0 then
  (some ((0 : Int32), q7.2))
  else
  ((F_X0_readColumn q7.2 2).bind fun q8 =>
  if q8.1 = 0 then
  (some ((0 : Int32), q8.2))
  else
  ((F_X0_readColumn q8.2 3).bind fun q9 =>
  if q9.1 = 0 then
  (some ((0 : Int32), q9.2))
  else
  ((F_X0_readColumn q9.2 4).bind fun q10 =>
  if q10.1 = 0 then
  (some ((0 : Int32), q10.2))
  else
  ((F_X0_readMark q10.2 5).bind fun q11 =>
  (F_X0_readMark q11 6).bind fun q12 =>
  some ((1 : Int32), q12))))))
  else
  ((F_X0_fail q1 (3 : Int32)).bind fun q13 =>
  zz q13.1 <|
  some (q13.1, q13.2))))
  else
  ((F_X0_fail S (4 : Int32)).bind fun q15 =>
  zz q15.1 <|
  some (q15.1, q15.2))
def J_X2_addClaim_36 (S : TS) (x3 : Int32) (x4 : Int32) (x5 : Int32) (y0 : Int32) (y1 : Int32) : Option (TS) :=
  (wrI (t_claimRows S) y1 y0).bind fun f4 =>
  nm (ts_claimRows S f4 : TS) fun S5 =>
  (wrI (t_claimRows S5) (x5 + (2 : Int32)) x3).bind fun f6 =>
  nm (ts_claimRows S5 f6 : TS) fun S7 =>
  (wrI (t_claimRows S7) (x5 + (3 : Int32)) x4).bind fun f8 =>
  nm (ts_claimRows S7 f8 : TS) fun S9 =>
  nm (ts_claims S9 ((t_claims S9) + (1 : Int32)) : TS) fun S10 =>
  some S10
def F_X2_addClaim (S : TS) (x1 : Int32) (x2 : Int32) (x3 : Int32) (x4 : Int32) : Option (TS) :=
  nm (((t_claims S) * (4 : Int32)) : Int32) fun v1 =>
  (wrI (t_claimRows S) (v1 + (0 : Int32)) x1).bind fun f2 =>
  nm (ts_claimRows S f2 : TS) fun S3 =>
  if x1 = 0 then
  (J_X2_addClaim_36 S3 x3 x4 v1 x2 (v1 + (1 : Int32)))
  else
  (J_X2_addClaim_36 S3 x3 x4 v1 (-2 : Int32) (v1 + (1 : Int32)))
def J_X0_readClaim_69 (S : DS) (x1 : Int32) (x2 : Int32) : Option (Int32 × DS) :=
  (F_X0_isWholeWithin S (1 : Int32) (9999999 : Int32)).bind fun q2 =>
  if q2.1 = 0 then
  (some ((0 : Int32), q2.2))
  else
  (nm (d_number q2.2 : Int32) fun v3 =>
  (F_X0_step q2.2).bind fun q4 =>
  (F_X0_fixedWord q4).bind fun q5 =>
  Option.elim q5
  ((F_X0_fail q4 (1 : Int32)).bind fun q7 =>
  zz q7.1 <|
  some (q7.1, q7.2))
  (fun w6 => (ltW w6 7).bind fun u8 =>
  if w6 = 7 then
  ((F_X0_step q4).bind fun q9 =>
  (F_X0_isWholeWithin q9 (0 : Int32) (999 : Int32)).bind fun q10 =>
  if q10.1 = 0 then
  (some ((0 : Int32), q10.2))
  else
  ((F_X2_addClaim (d_told q10.2) x1 x2 v3 (d_number q10.2)).bind fun q11 =>
  nm (ds_told q10.2 q11 : DS) fun S12 =>
  (F_X0_step S12).bind fun q13 =>
  some ((1 : Int32), q13)))
  else
  ((F_X0_fail q4 (1 : Int32)).bind fun q14 =>
  zz q14.1 <|
  some (q14.1, q14.2))))
def F_X0_readClaim (S : DS) (x1 : Int32) : Option (Int32 × DS) :=
  if (t_claims (d_told S)) < (12 : Int32) then
  ((F_X0_step S).bind fun q1 =>
  if x1 = 0 then
  ((F_X0_isName q1).bind fun q15 =>
  if q15 = 0 then
  ((F_X0_fail q1 (1 : Int32)).bind fun q19 =>
  zz q19.1 <|
  some (q19.1, q19.2))
  else
  ((F_X2_shipNamed (d_told q1) (d_letters q1)).bind fun q16 =>
  if q16 = (-1 : Int32) then
  ((F_X0_fail q1 (3 : Int32)).bind fun q18 =>
  zz q18.1 <|
  some (q18.1, q18.2))
  else
  ((F_X0_step q1).bind fun q17 =>
  J_X0_readClaim_69 q17 x1 q16)))
  else
  (J_X0_readClaim_69 q1 x1 (-2 : Int32)))
  else
  ((F_X0_fail S (4 : Int32)).bind fun q20 =>
  zz q20.1 <|
  some (q20.1, q20.2))
def F_X0_readLaw (S : DS) (x1 : Int32) : Option (Int32 × DS) :=
  (rdI (d_lawTold S) x1).bind fun v1 =>
  if v1 = 0 then
  ((wrI (d_lawTold S) x1 (1 : Int32)).bind fun f2 =>
  nm (ds_lawTold S f2 : DS) fun S3 =>
  (F_X0_step S3).bind fun q4 =>
  if (5 : Int32) ≤ x1 then
  ((rdI (sAf 2) x1).bind fun v5 =>
  (rdI (sAf 3) x1).bind fun v6 =>
  (F_X0_isWholeWithin q4 v5 v6).bind fun q7 =>
  if q7.1 = 0 then
  (some ((0 : Int32), q7.2))
  else
  ((wrI (t_laws (d_told q7.2)) x1 (d_number q7.2)).bind fun f8 =>
  nm (ds_told q7.2 (ts_laws (d_told q7.2) f8) : DS) fun S9 =>
  (F_X0_step S9).bind fun q10 =>
  some ((1 : Int32), q10)))
  else
  ((wrI (t_laws (d_told q4)) x1 (1 : Int32)).bind fun f11 =>
  nm (ds_told q4 (ts_laws (d_told q4) f11) : DS) fun S12 =>
  some ((1 : Int32), S12)))
  else
  ((F_X0_fail S (3 : Int32)).bind fun q13 =>
  zz q13.1 <|
  some (q13.1, q13.2))
def J_X0_readLine_16 (S : DS) : Option (Int32 × DS) :=
  (F_X0_fail S (1 : Int32)).bind fun q3 =>
  zz q3.1 <|
  some (q3.1, q3.2)
def F_X0_readLine (S : DS) : Option (Int32 × DS) :=
  (F_X0_fixedWord S).bind fun q1 =>
  Option.elim q1
  (J_X0_readLine_16 S)
  (fun w2 => (wd_role[w2]?).bind fun v4 =>
  if v4 = 0 then
  (J_X0_readLine_16 S)
  else
  ((wd_role[w2]?).bind fun v5 =>
  if v5 = (1 : Int32) then
  ((F_X0_readShip S).bind fun q11 =>
  zz q11.1 <|
  some (q11.1, q11.2))
  else
  ((wd_role[w2]?).bind fun v6 =>
  if v6 = (2 : Int32) then
  ((wd_col[w2]?).bind fun v9 =>
  (F_X0_readClaim S v9).bind fun q10 =>
  zz q10.1 <|
  some (q10.1, q10.2))
  else
  ((wd_col[w2]?).bind fun v7 =>
  (F_X0_readLaw S v7).bind fun q8 =>
  zz q8.1 <|
  some (q8.1, q8.2)))))
def F_X2_ofShip (S : TS) (x1 : Int32) (x2 : Int32) : Option (Int32) :=
  (rdI (t_shipRows S) ((x1 * (6 : Int32)) + x2)).bind fun v1 =>
  some v1
def B_X2_faultsTogether_4 (S : TS) (k : Int32 → Option (Int32)) (rc : Int32 → Int32 → Option (Int32)) (x1 : Int32) (x2 : Int32) : Option (Int32) :=
  if (t_ships S) ≤ x2 then
  (k x1)
  else
  ((F_X2_ofShip S x2 (1 : Int32)).bind fun q1 =>
  nm ((x1 + q1) : Int32) fun v2 =>
  nm (x2 + 1 : Int32) fun v3 =>
  rc v2 v3)
def F_X2_faultsTogether (S : TS) : Option (Int32) :=
  lo2 (B_X2_faultsTogether_4 S (fun z4 => some z4)) FU (0 : Int32) (0 : Int32)
def F_X0_fitsTogether (S : DS) : Option (Int32) :=
  if (t_ships (d_told S)) < (2 : Int32) then
  (some (0 : Int32))
  else
  ((F_X2_faultsTogether (d_told S)).bind fun q1 =>
  if q1 = (10 : Int32) then
  ((rdI (t_laws (d_told S)) (9 : Int32)).bind fun v2 =>
  (rdI (t_laws (d_told S)) (8 : Int32)).bind fun v3 =>
  if v2 < v3 then
  (some (0 : Int32))
  else
  (some (1 : Int32)))
  else
  (some (0 : Int32)))
def B_X0_read_7 (k : DS → Option (Int32 × DS)) (rc : DS → Int32 → Option (Int32 × DS)) (S : DS) (x2 : Int32) : Option (Int32 × DS) :=
  if (d_end S) < x2 then
  (k S)
  else
  ((F_X0_step S).bind fun q2 =>
  (F_X0_readLine q2).bind fun q3 =>
  if q3.1 = 0 then
  (some (d_found q3.2, q3.2))
  else
  (if (d_token q3.2) = 0 then
  ((F_X0_fitsTogether q3.2).bind fun q5 =>
  if q5 = 0 then
  (some ((5 : Int32), q3.2))
  else
  (some ((0 : Int32), q3.2)))
  else
  (if (d_token q3.2) = (3 : Int32) then
  (nm (x2 + 1 : Int32) fun v4 =>
  rc q3.2 v4)
  else
  (some ((1 : Int32), q3.2)))))
def F_X0_read (S : DS) (x1 : Int32) : Option (Int32 × DS) :=
  (F_X0_begin S x1).bind fun q1 =>
  lo2 (B_X0_read_7 (fun S6 => some ((1 : Int32), S6))) FU q1 (0 : Int32)
def F_X2_copyFrom (S : TS) (T2 : TS) : Option (TS) :=
  nm (ts_ships S (t_ships T2) : TS) fun S1 =>
  nm (ts_claims S1 (t_claims T2) : TS) fun S2 =>
  (cpL (n0 := 4) (exL (t_names T2)) (t_names S2) (0 : Int32) (0 : Int32) (4 : Int32)).bind fun f3 =>
  nm (ts_names S2 f3 : TS) fun S4 =>
  (cpI (n0 := 24) (exI (t_shipRows T2)) (t_shipRows S4) (0 : Int32) (0 : Int32) (24 : Int32)).bind fun f5 =>
  nm (ts_shipRows S4 f5 : TS) fun S6 =>
  (cpI (n0 := 48) (exI (t_claimRows T2)) (t_claimRows S6) (0 : Int32) (0 : Int32) (48 : Int32)).bind fun f7 =>
  nm (ts_claimRows S6 f7 : TS) fun S8 =>
  (cpI (n0 := 10) (exI (t_laws T2)) (t_laws S8) (0 : Int32) (0 : Int32) (10 : Int32)).bind fun f9 =>
  nm (ts_laws S8 f9 : TS) fun S10 =>
  some S10
def F_X1_take (S : RS) (T2 : TS) : Option (RS) :=
  (F_X2_copyFrom (r_told S) T2).bind fun q1 =>
  nm (rs_told S q1 : RS) fun S2 =>
  some S2
def B_J7_fill_d0a16_6 {n : Nat} (x1 : Int64) (x4 : Int32) (k : (Fin n → Int64) → Option ((Fin n → Int64))) (rc : (Fin n → Int64) → Int32 → Option ((Fin n → Int64))) (S : (Fin n → Int64)) (x3 : Int32) : Option ((Fin n → Int64)) :=
  if x4 ≤ x3 then
  (k S)
  else
  ((wrL S x3 x1).bind fun f1 =>
  nm (f1 : (Fin n → Int64)) fun S2 =>
  nm (x3 + 1 : Int32) fun v3 =>
  rc S2 v3)
def F_J7_fill_d0a16 {n : Nat} (S : (Fin n → Int64)) (x1 : Int64) : Option ((Fin n → Int64)) :=
  lo2 (B_J7_fill_d0a16_6 x1 (Int32.ofNat n) (fun S4 => some S4)) FU S (0 : Int32)
def F_X2_holds (S : TS) (x1 : Int32) : Option (Int32) :=
  (rdI (t_laws S) x1).bind fun v1 =>
  if v1 = (1 : Int32) then
  (some (1 : Int32))
  else
  (some (0 : Int32))
def F_X2_weightOf (S : TS) (x1 : Int32) : Option (Int32) :=
  (F_X2_ofShip S x1 (1 : Int32)).bind fun q1 =>
  (F_X2_holds S (2 : Int32)).bind fun q2 =>
  if q2 = 0 then
  (some q1)
  else
  (nm ((if (1 : Int32) < q1 then (1 : Int32) else q1) : Int32) fun v3 =>
  some v3)
def B_X1_weigh_7 (k : RS → Option (RS)) (rc : RS → Int32 → Option (RS)) (S : RS) (x1 : Int32) : Option (RS) :=
  if (t_ships (r_told S)) ≤ x1 then
  (k S)
  else
  ((F_X2_weightOf (r_told S) x1).bind fun q2 =>
  (wrI (r_weight S) x1 q2).bind fun f3 =>
  nm (rs_weight S f3 : RS) fun S4 =>
  (rdI (r_weight S4) x1).bind fun v5 =>
  nm (rs_weights S4 ((r_weights S4) + v5) : RS) fun S6 =>
  nm (x1 + 1 : Int32) fun v7 =>
  rc S6 v7)
def F_X1_weigh (S : RS) : Option (RS) :=
  nm (rs_weights S (0 : Int32) : RS) fun S1 =>
  lo2 (B_X1_weigh_7 (fun S8 => some S8)) FU S1 (0 : Int32)
def F_X2_ofClaim (S : TS) (x1 : Int32) (x2 : Int32) : Option (Int32) :=
  (rdI (t_claimRows S) ((x1 * (4 : Int32)) + x2)).bind fun v1 =>
  some v1
def F_X2_roundOf (S : TS) (x1 : Int32) : Option (Int32) :=
  (F_X2_ofClaim S x1 (3 : Int32)).bind fun q1 =>
  (rdI (t_laws S) (9 : Int32)).bind fun v2 =>
  if q1 ≤ v2 then
  ((rdI (t_laws S) (8 : Int32)).bind fun v3 =>
  if q1 ≤ v3 then
  (some (0 : Int32))
  else
  (some (1 : Int32)))
  else
  (some (-2 : Int32))
def F_X2_isGoods (S : TS) (x1 : Int32) : Option (Int32) :=
  (F_X2_ofClaim S x1 (0 : Int32)).bind fun q1 =>
  if q1 = 0 then
  (some (1 : Int32))
  else
  (some (0 : Int32))
def F_X1_cut (x0 : Int64) (x2 : Int64) : Option (Int64) :=
  if (lg_cmp x2 (0 : Int64)) = 0 then
  (some (0 : Int64))
  else
  ((dvL x0 x2).bind fun v1 =>
  some v1)
def F_X1_partOf (S : RS) (x1 : Int32) (x2 : Int64) : Option (Int64) :=
  (rdI (r_weight S) x1).bind fun v1 =>
  (F_X1_cut (x2 * v1.toInt64) ((r_weights S).toInt64)).bind fun q2 =>
  some q2
def F_X1_debt (S : RS) (x1 : Int32) (x2 : Int32) : Option (Int64) :=
  (F_X2_roundOf (r_told S) x2).bind fun q1 =>
  if q1 = (-2 : Int32) then
  (some (0 : Int64))
  else
  ((F_X2_ofClaim (r_told S) x2 (2 : Int32)).bind fun q2 =>
  nm (q2.toInt64 : Int64) fun v3 =>
  (F_X2_isGoods (r_told S) x2).bind fun q4 =>
  if q4 = 0 then
  ((F_X1_partOf S x1 v3).bind fun q11 =>
  some q11)
  else
  ((F_X2_ofClaim (r_told S) x2 (1 : Int32)).bind fun q5 =>
  if q5 = x1 then
  (some (0 : Int64))
  else
  ((F_X2_holds (r_told S) (3 : Int32)).bind fun q6 =>
  if q6 = 0 then
  ((F_X1_partOf S x1 v3).bind fun q10 =>
  some q10)
  else
  ((rdI (r_weight S) x1).bind fun v7 =>
  (rdI (r_weight S) q5).bind fun v8 =>
  (F_X1_cut (v3 * v7.toInt64) (((r_weights S) - v8).toInt64)).bind fun q9 =>
  some q9))))
def B_X1_oweClaims_15 (x1 : Int32) (k : RS → Option (RS)) (rc : RS → Int32 → Option (RS)) (S : RS) (x2 : Int32) : Option (RS) :=
  if (t_claims (r_told S)) ≤ x2 then
  (k S)
  else
  ((F_X1_debt S x1 x2).bind fun q1 =>
  (wrL (r_owed S) (((x1 * (16 : Int32)) + (4 : Int32)) + x2) q1).bind fun f2 =>
  nm (rs_owed S f2 : RS) fun S3 =>
  nm (x2 + 1 : Int32) fun v4 =>
  rc S3 v4)
def B_X1_oweClaims_2 (k : RS → Option (RS)) (rc : RS → Int32 → Option (RS)) (S : RS) (x1 : Int32) : Option (RS) :=
  if (t_ships (r_told S)) ≤ x1 then
  (k S)
  else
  (lo2 (B_X1_oweClaims_15 x1 (fun S5 => nm (x1 + 1 : Int32) fun v6 =>
  rc S5 v6)) FU S (0 : Int32))
def F_X1_oweClaims (S : RS) : Option (RS) :=
  lo2 (B_X1_oweClaims_2 (fun S7 => some S7)) FU S (0 : Int32)
def F_X1_owedToClaim (S : RS) (x1 : Int32) (x2 : Int32) : Option (Int64) :=
  (rdL (r_owed S) (((x1 * (16 : Int32)) + (4 : Int32)) + x2)).bind fun v1 =>
  some v1
def J_X1_backFor_40 (S : RS) (x1 : Int32) (x2 : Int32) (y0 : Int32) : Option (Int64) :=
  if y0 = 0 then
  (some (0 : Int64))
  else
  ((F_X2_ofClaim (r_told S) x1 (1 : Int32)).bind fun q2 =>
  if q2 = x2 then
  (some (0 : Int64))
  else
  ((F_X1_owedToClaim S x2 x1).bind fun q3 =>
  (F_X2_ofClaim (r_told S) x1 (2 : Int32)).bind fun q4 =>
  (F_X1_partOf S x2 q4.toInt64).bind fun q5 =>
  some (q3 - q5)))
def J_X1_backFor_39 (S : RS) (x1 : Int32) (x2 : Int32) : Option (Int64) :=
  J_X1_backFor_40 S x1 x2 (0 : Int32)
def F_X1_backFor (S : RS) (x1 : Int32) (x2 : Int32) : Option (Int64) :=
  (F_X2_holds (r_told S) (3 : Int32)).bind fun q1 =>
  if q1 = 0 then
  (J_X1_backFor_39 S x1 x2)
  else
  ((F_X2_isGoods (r_told S) x1).bind fun q6 =>
  if q6 = 0 then
  (J_X1_backFor_39 S x1 x2)
  else
  ((F_X2_roundOf (r_told S) x1).bind fun q7 =>
  if q7 = (-2 : Int32) then
  (J_X1_backFor_39 S x1 x2)
  else
  (J_X1_backFor_40 S x1 x2 (1 : Int32))))
def J_X1_oweBack_70 (k : RS → Option (RS)) (rc : RS → Int32 → Option (RS)) (S : RS) (x1 : Int32) : Option (RS) :=
  nm (x1 + 1 : Int32) fun v2 =>
  rc S v2
def B_X1_oweBack_26 (x1 : Int32) (k : RS → Option (RS)) (rc : RS → Int32 → Option (RS)) (S : RS) (x2 : Int32) : Option (RS) :=
  if (t_ships (r_told S)) ≤ x2 then
  (k S)
  else
  ((F_X2_ofClaim (r_told S) x1 (1 : Int32)).bind fun q3 =>
  nm (((q3 * (4 : Int32)) + x2) : Int32) fun v4 =>
  (rdL (r_backs S) v4).bind fun v5 =>
  (F_X1_backFor S x1 x2).bind fun q6 =>
  (wrL (r_backs S) v4 (v5 + q6)).bind fun f7 =>
  nm (rs_backs S f7 : RS) fun S8 =>
  nm (x2 + 1 : Int32) fun v9 =>
  rc S8 v9)
def B_X1_oweBack_2 (k : RS → Option (RS)) (rc : RS → Int32 → Option (RS)) (S : RS) (x1 : Int32) : Option (RS) :=
  if (t_claims (r_told S)) ≤ x1 then
  (k S)
  else
  ((F_X2_isGoods (r_told S) x1).bind fun q1 =>
  if q1 = 0 then
  (J_X1_oweBack_70 k rc S x1)
  else
  (lo2 (B_X1_oweBack_26 x1 (fun S10 => J_X1_oweBack_70 k rc S10 x1)) FU S (0 : Int32)))
def F_X1_oweBack (S : RS) : Option (RS) :=
  lo2 (B_X1_oweBack_2 (fun S11 => some S11)) FU S (0 : Int32)
def F_X1_hullDebt (S : RS) (x1 : Int32) (x2 : Int32) : Option (Int64) :=
  (F_X2_ofShip (r_told S) x2 (2 : Int32)).bind fun q1 =>
  (F_X1_partOf S x1 q1.toInt64).bind fun q2 =>
  some q2
def F_X1_backTo (S : RS) (x1 : Int32) (x2 : Int32) : Option (Int64) :=
  (rdL (r_backs S) ((x1 * (4 : Int32)) + x2)).bind fun v1 =>
  some v1
def F_X1_crossDebt (S : RS) (x1 : Int32) (x2 : Int32) : Option (Int64) :=
  (F_X1_hullDebt S x1 x2).bind fun q1 =>
  (F_X1_backTo S x1 x2).bind fun q2 =>
  some (q1 + q2)
def J_X1_oweShips_80 (k : RS → Option (RS)) (rc : RS → Int32 → Option (RS)) (S : RS) (x1 : Int32) (x2 : Int32) : Option (RS) :=
  nm (x2 + 1 : Int32) fun v1 =>
  rc S v1
def J_X1_oweShips_63 (k : RS → Option (RS)) (rc : RS → Int32 → Option (RS)) (S : RS) (x1 : Int32) (x2 : Int32) (x3 : Int64) (y0 : Int64) : Option (RS) :=
  (wrL (r_owed S) ((x1 * (16 : Int32)) + x2) (x3 - y0)).bind fun f6 =>
  nm (rs_owed S f6 : RS) fun S7 =>
  J_X1_oweShips_80 k rc S7 x1 x2
def B_X1_oweShips_15 (x1 : Int32) (k : RS → Option (RS)) (rc : RS → Int32 → Option (RS)) (S : RS) (x2 : Int32) : Option (RS) :=
  if (t_ships (r_told S)) ≤ x2 then
  (k S)
  else
  (if x1 = x2 then
  (J_X1_oweShips_80 k rc S x1 x2)
  else
  ((F_X1_crossDebt S x1 x2).bind fun q2 =>
  (F_X2_holds (r_told S) (4 : Int32)).bind fun q3 =>
  if q3 = 0 then
  ((F_X1_crossDebt S x2 x1).bind fun q4 =>
  nm ((if q4 < q2 then q4 else q2) : Int64) fun v5 =>
  J_X1_oweShips_63 k rc S x1 x2 q2 v5)
  else
  (J_X1_oweShips_63 k rc S x1 x2 q2 (0 : Int64))))
def B_X1_oweShips_2 (k : RS → Option (RS)) (rc : RS → Int32 → Option (RS)) (S : RS) (x1 : Int32) : Option (RS) :=
  if (t_ships (r_told S)) ≤ x1 then
  (k S)
  else
  (lo2 (B_X1_oweShips_15 x1 (fun S8 => nm (x1 + 1 : Int32) fun v9 =>
  rc S8 v9)) FU S (0 : Int32))
def F_X1_oweShips (S : RS) : Option (RS) :=
  lo2 (B_X1_oweShips_2 (fun S10 => some S10)) FU S (0 : Int32)
def F_X1_payAll (S : RS) (x1 : Int32) : Option (RS) :=
  (cpL (n0 := 64) (exL (r_owed S)) (r_paid S) (x1 * (16 : Int32)) (x1 * (16 : Int32)) (16 : Int32)).bind fun f1 =>
  nm (rs_paid S f1 : RS) fun S2 =>
  some S2
def F_X2_fundTons (S : TS) (x1 : Int32) : Option (Int64) :=
  (F_X2_ofShip S x1 (0 : Int32)).bind fun q1 =>
  (rdI (t_laws S) (7 : Int32)).bind fun v2 =>
  nm ((if q1 < v2 then v2 else q1) : Int32) fun v3 =>
  some v3.toInt64
def F_X2_fundOf (S : TS) (x1 : Int32) (x2 : Int32) : Option (Int64) :=
  (F_X2_fundTons S x1).bind fun q1 =>
  (rdI (t_laws S) x2).bind fun v2 =>
  nm ((if (2000000000 : Int64) < (q1 * v2.toInt64) then (2000000000 : Int64) else (q1 * v2.toInt64)) : Int64) fun v3 =>
  some v3
def J_X1_takesPart_82 (S : RS) : Option (Int32) :=
  some (1 : Int32)
def F_X1_takesPart (S : RS) (x1 : Int32) (x2 : Int32) (x3 : Int32) : Option (Int32) :=
  if (4 : Int32) ≤ x1 then
  (nm ((x1 - (4 : Int32)) : Int32) fun v1 =>
  if (t_claims (r_told S)) ≤ v1 then
  (some (0 : Int32))
  else
  ((F_X2_roundOf (r_told S) v1).bind fun q2 =>
  if q2 = x3 then
  (if x2 = (5 : Int32) then
  (J_X1_takesPart_82 S)
  else
  ((F_X2_ofClaim (r_told S) v1 (0 : Int32)).bind fun q3 =>
  if q3 = (1 : Int32) then
  (J_X1_takesPart_82 S)
  else
  (some (0 : Int32))))
  else
  (some (0 : Int32))))
  else
  (if (t_ships (r_told S)) ≤ x1 then
  (some (0 : Int32))
  else
  (if x2 = (5 : Int32) then
  (if x3 = 0 then
  (some (1 : Int32))
  else
  (some (0 : Int32)))
  else
  (some (0 : Int32))))
def J_X1_findLacks_76 (k : RS → Int64 → Option (Int64 × RS)) (rc : RS → Int64 → Int32 → Option (Int64 × RS)) (S : RS) (x1 : Int32) (x2 : Int32) (x3 : Int32) (x4 : Int64) (x6 : Int32) : Option (Int64 × RS) :=
  nm (x6 + 1 : Int32) fun v4 =>
  rc S x4 v4
def B_X1_findLacks_6 (x1 : Int32) (x2 : Int32) (x3 : Int32) (k : RS → Int64 → Option (Int64 × RS)) (rc : RS → Int64 → Int32 → Option (Int64 × RS)) (S : RS) (x4 : Int64) (x6 : Int32) : Option (Int64 × RS) :=
  if (16 : Int32) ≤ x6 then
  (k S x4)
  else
  ((wrL (r_lacked S) x6 (0 : Int64)).bind fun f1 =>
  nm (rs_lacked S f1 : RS) fun S2 =>
  (F_X1_takesPart S2 x6 x2 x3).bind fun q3 =>
  if q3 = 0 then
  (J_X1_findLacks_76 k rc S2 x1 x2 x3 x4 x6)
  else
  ((rdL (r_owed S2) ((x1 * (16 : Int32)) + x6)).bind fun v5 =>
  (rdL (r_paid S2) ((x1 * (16 : Int32)) + x6)).bind fun v6 =>
  (wrL (r_lacked S2) x6 (v5 - v6)).bind fun f7 =>
  nm (rs_lacked S2 f7 : RS) fun S8 =>
  (rdL (r_lacked S8) x6).bind fun v9 =>
  nm ((x4 + v9) : Int64) fun v10 =>
  J_X1_findLacks_76 k rc S8 x1 x2 x3 v10 x6))
def F_X1_findLacks (S : RS) (x1 : Int32) (x2 : Int32) (x3 : Int32) : Option (Int64 × RS) :=
  lo3 (B_X1_findLacks_6 x1 x2 x3 (fun S11 z12 => some (z12, S11))) FU S (0 : Int64) (0 : Int32)
def B_X1_shareScarce_6 (x1 : Int32) (x2 : Int64) (x4 : Int64) (k : RS → Int64 → Option (RS)) (rc : RS → Int64 → Int32 → Option (RS)) (S : RS) (x6 : Int64) (x8 : Int32) : Option (RS) :=
  if (16 : Int32) ≤ x8 then
  (k S x6)
  else
  ((rdL (r_lacked S) x8).bind fun v1 =>
  (F_X1_cut (v1 * x2) x4).bind fun q2 =>
  nm (((x1 * (16 : Int32)) + x8) : Int32) fun v3 =>
  (rdL (r_paid S) v3).bind fun v4 =>
  (wrL (r_paid S) v3 (v4 + q2)).bind fun f5 =>
  nm (rs_paid S f5 : RS) fun S6 =>
  (rdL (r_lacked S6) x8).bind fun v7 =>
  (wrL (r_lacked S6) x8 (v7 - q2)).bind fun f8 =>
  nm (rs_lacked S6 f8 : RS) fun S9 =>
  nm ((x6 - q2) : Int64) fun v10 =>
  nm (x8 + 1 : Int32) fun v11 =>
  rc S9 v10 v11)
def J_X1_shareScarce_122 (k : RS → Option (RS)) (rc : RS → Int64 → Int32 → Option (RS)) (S : RS) (x1 : Int32) (x6 : Int64) (x8 : Int32) : Option (RS) :=
  nm (x8 + 1 : Int32) fun v15 =>
  rc S x6 v15
def B_X1_shareScarce_74 (x1 : Int32) (k : RS → Option (RS)) (rc : RS → Int64 → Int32 → Option (RS)) (S : RS) (x6 : Int64) (x8 : Int32) : Option (RS) :=
  if (16 : Int32) ≤ x8 then
  (k S)
  else
  (if (lg_cmp x6 (0 : Int64)) ≤ 0 then
  (k S)
  else
  ((rdL (r_lacked S) x8).bind fun v14 =>
  if (lg_cmp v14 (0 : Int64)) ≤ 0 then
  (J_X1_shareScarce_122 k rc S x1 x6 x8)
  else
  (nm (((x1 * (16 : Int32)) + x8) : Int32) fun v16 =>
  (rdL (r_paid S) v16).bind fun v17 =>
  (wrL (r_paid S) v16 (v17 + (1 : Int64))).bind fun f18 =>
  nm (rs_paid S f18 : RS) fun S19 =>
  nm ((x6 - (1 : Int64)) : Int64) fun v20 =>
  J_X1_shareScarce_122 k rc S19 x1 v20 x8)))
def F_X1_shareScarce (S : RS) (x1 : Int32) (x2 : Int64) (x4 : Int64) : Option (RS) :=
  lo3 (B_X1_shareScarce_6 x1 x2 x4 (fun S12 z13 => lo3 (B_X1_shareScarce_74 x1 (fun S21 => some S21)) FU S12 z13 (0 : Int32))) FU S x2 (0 : Int32)
def B_X1_payLacks_2 (x1 : Int32) (k : RS → Option (RS)) (rc : RS → Int32 → Option (RS)) (S : RS) (x2 : Int32) : Option (RS) :=
  if (16 : Int32) ≤ x2 then
  (k S)
  else
  (nm (((x1 * (16 : Int32)) + x2) : Int32) fun v1 =>
  (rdL (r_paid S) v1).bind fun v2 =>
  (rdL (r_lacked S) x2).bind fun v3 =>
  (wrL (r_paid S) v1 (v2 + v3)).bind fun f4 =>
  nm (rs_paid S f4 : RS) fun S5 =>
  nm (x2 + 1 : Int32) fun v6 =>
  rc S5 v6)
def F_X1_payLacks (S : RS) (x1 : Int32) : Option (RS) :=
  lo2 (B_X1_payLacks_2 x1 (fun S7 => some S7)) FU S (0 : Int32)
def J_X1_payOutOf_59 (k : RS → Option (RS)) (rc : RS → Int64 → Int32 → Option (RS)) (S : RS) (x1 : Int32) (x2 : Int32) (x3 : Int64) (x5 : Int32) : Option (RS) :=
  nm (x5 + 1 : Int32) fun v5 =>
  rc S x3 v5
def B_X1_payOutOf_13 (x1 : Int32) (x2 : Int32) (k : RS → Option (RS)) (rc : RS → Int64 → Int32 → Option (RS)) (S : RS) (x3 : Int64) (x5 : Int32) : Option (RS) :=
  if (1 : Int32) < x5 then
  (k S)
  else
  ((F_X1_findLacks S x1 x2 x5).bind fun q2 =>
  if (lg_cmp q2.1 x3) ≤ 0 then
  ((F_X1_payLacks q2.2 x1).bind fun q3 =>
  nm ((x3 - q2.1) : Int64) fun v4 =>
  J_X1_payOutOf_59 k rc q3 x1 x2 v4 x5)
  else
  ((F_X1_shareScarce q2.2 x1 x3 q2.1).bind fun q6 =>
  J_X1_payOutOf_59 k rc q6 x1 x2 (0 : Int64) x5))
def F_X1_payOutOf (S : RS) (x1 : Int32) (x2 : Int32) : Option (RS) :=
  (F_X2_fundOf (r_told S) x1 x2).bind fun q1 =>
  lo3 (B_X1_payOutOf_13 x1 x2 (fun S7 => some S7)) FU S q1 (0 : Int32)
def J_X1_settle_87 (k : RS → Option (RS)) (rc : RS → Int32 → Option (RS)) (S : RS) (x1 : Int32) : Option (RS) :=
  nm (x1 + 1 : Int32) fun v14 =>
  rc S v14
def B_X1_settle_42 (k : RS → Option (RS)) (rc : RS → Int32 → Option (RS)) (S : RS) (x1 : Int32) : Option (RS) :=
  if (t_ships (r_told S)) ≤ x1 then
  (k S)
  else
  ((F_X2_ofShip (r_told S) x1 (5 : Int32)).bind fun q11 =>
  if q11 = (1 : Int32) then
  ((F_X1_payAll S x1).bind fun q15 =>
  J_X1_settle_87 k rc q15 x1)
  else
  ((F_X1_payOutOf S x1 (6 : Int32)).bind fun q12 =>
  (F_X1_payOutOf q12 x1 (5 : Int32)).bind fun q13 =>
  J_X1_settle_87 k rc q13 x1))
def F_X1_settle (S : RS) : Option (RS) :=
  (F_J7_fill_d0a16 (r_owed S) (0 : Int64)).bind fun q1 =>
  nm (rs_owed S q1 : RS) fun S2 =>
  (F_J7_fill_d0a16 (r_paid S2) (0 : Int64)).bind fun q3 =>
  nm (rs_paid S2 q3 : RS) fun S4 =>
  (F_J7_fill_d0a16 (r_backs S4) (0 : Int64)).bind fun q5 =>
  nm (rs_backs S4 q5 : RS) fun S6 =>
  (F_X1_weigh S6).bind fun q7 =>
  (F_X1_oweClaims q7).bind fun q8 =>
  (F_X1_oweBack q8).bind fun q9 =>
  (F_X1_oweShips q9).bind fun q10 =>
  lo2 (B_X1_settle_42 (fun S16 => some S16)) FU q10 (0 : Int32)
def B_X1_backForClaim_5 (S : RS) (x1 : Int32) (k : Int64 → Option (Int64)) (rc : Int64 → Int32 → Option (Int64)) (x2 : Int64) (x4 : Int32) : Option (Int64) :=
  if (t_ships (r_told S)) ≤ x4 then
  (k x2)
  else
  ((F_X1_backFor S x1 x4).bind fun q1 =>
  nm ((x2 + q1) : Int64) fun v2 =>
  nm (x4 + 1 : Int32) fun v3 =>
  rc v2 v3)
def F_X1_backForClaim (S : RS) (x1 : Int32) : Option (Int64) :=
  lo2 (B_X1_backForClaim_5 S x1 (fun z4 => some z4)) FU (0 : Int64) (0 : Int32)
def F_X1_owedToShip (S : RS) (x1 : Int32) (x2 : Int32) : Option (Int64) :=
  (rdL (r_owed S) ((x1 * (16 : Int32)) + x2)).bind fun v1 =>
  some v1
def B_X1_rowTogether_5 (S : (Fin 64 → Int64)) (x1 : Int32) (k : Int64 → Option (Int64)) (rc : Int64 → Int32 → Option (Int64)) (x2 : Int64) (x4 : Int32) : Option (Int64) :=
  if (16 : Int32) ≤ x4 then
  (k x2)
  else
  ((rdL S ((x1 * (16 : Int32)) + x4)).bind fun v1 =>
  nm ((x2 + v1) : Int64) fun v2 =>
  nm (x4 + 1 : Int32) fun v3 =>
  rc v2 v3)
def F_X1_rowTogether (S : (Fin 64 → Int64)) (x1 : Int32) : Option (Int64) :=
  lo2 (B_X1_rowTogether_5 S x1 (fun z4 => some z4)) FU (0 : Int64) (0 : Int32)
def F_X1_owedByShip (S : RS) (x1 : Int32) : Option (Int64) :=
  (F_X1_rowTogether (r_owed S) x1).bind fun q1 =>
  some q1
def F_X1_paidToClaim (S : RS) (x1 : Int32) (x2 : Int32) : Option (Int64) :=
  (rdL (r_paid S) (((x1 * (16 : Int32)) + (4 : Int32)) + x2)).bind fun v1 =>
  some v1
def F_X1_paidToShip (S : RS) (x1 : Int32) (x2 : Int32) : Option (Int64) :=
  (rdL (r_paid S) ((x1 * (16 : Int32)) + x2)).bind fun v1 =>
  some v1
def F_X1_paidByShip (S : RS) (x1 : Int32) : Option (Int64) :=
  (F_X1_rowTogether (r_paid S) x1).bind fun q1 =>
  some q1
def B_X1_paidToClaimByAll_5 (S : RS) (x1 : Int32) (k : Int64 → Option (Int64)) (rc : Int64 → Int32 → Option (Int64)) (x2 : Int64) (x4 : Int32) : Option (Int64) :=
  if (t_ships (r_told S)) ≤ x4 then
  (k x2)
  else
  ((F_X1_paidToClaim S x4 x1).bind fun q1 =>
  nm ((x2 + q1) : Int64) fun v2 =>
  nm (x4 + 1 : Int32) fun v3 =>
  rc v2 v3)
def F_X1_paidToClaimByAll (S : RS) (x1 : Int32) : Option (Int64) :=
  lo2 (B_X1_paidToClaimByAll_5 S x1 (fun z4 => some z4)) FU (0 : Int64) (0 : Int32)
def F_X1_givenBack (S : RS) (x1 : Int32) : Option (Int64) :=
  (F_X2_isGoods (r_told S) x1).bind fun q1 =>
  if q1 = 0 then
  (some (0 : Int64))
  else
  ((F_X2_ofClaim (r_told S) x1 (1 : Int32)).bind fun q2 =>
  (F_X2_ofShip (r_told S) q2 (4 : Int32)).bind fun q3 =>
  if q3 = 0 then
  (some (0 : Int64))
  else
  ((F_X1_backForClaim S x1).bind fun q4 =>
  (F_X1_paidToClaimByAll S x1).bind fun q5 =>
  nm ((if q5 < q4 then q5 else q4) : Int64) fun v6 =>
  some v6))
def F_X1_leftToClaim (S : RS) (x1 : Int32) : Option (Int64) :=
  (F_X1_paidToClaimByAll S x1).bind fun q1 =>
  (F_X1_givenBack S x1).bind fun q2 =>
  some (q1 - q2)
def B_X1_netOf_21 (S : RS) (x1 : Int32) (k : Int64 → Option (Int64)) (rc : Int64 → Int32 → Option (Int64)) (x2 : Int64) (x4 : Int32) : Option (Int64) :=
  if (t_ships (r_told S)) ≤ x4 then
  (k x2)
  else
  ((F_X1_paidToShip S x4 x1).bind fun q4 =>
  nm ((x2 + q4) : Int64) fun v5 =>
  nm (x4 + 1 : Int32) fun v6 =>
  rc v5 v6)
def J_X1_netOf_87 (k : Int64 → Option (Int64)) (rc : Int64 → Int32 → Option (Int64)) (S : RS) (x1 : Int32) (x2 : Int64) (x4 : Int32) : Option (Int64) :=
  nm (x4 + 1 : Int32) fun v9 =>
  rc x2 v9
def B_X1_netOf_52 (S : RS) (x1 : Int32) (k : Int64 → Option (Int64)) (rc : Int64 → Int32 → Option (Int64)) (x2 : Int64) (x4 : Int32) : Option (Int64) :=
  if (t_claims (r_told S)) ≤ x4 then
  (k x2)
  else
  ((F_X2_ofClaim (r_told S) x4 (1 : Int32)).bind fun q8 =>
  if q8 = x1 then
  ((F_X1_givenBack S x4).bind fun q10 =>
  nm ((x2 + q10) : Int64) fun v11 =>
  J_X1_netOf_87 k rc S x1 v11 x4)
  else
  (J_X1_netOf_87 k rc S x1 x2 x4))
def F_X1_netOf (S : RS) (x1 : Int32) : Option (Int64) :=
  (F_X1_paidByShip S x1).bind fun q1 =>
  (F_X2_ofShip (r_told S) x1 (2 : Int32)).bind fun q2 =>
  nm (((-q1) - q2.toInt64) : Int64) fun v3 =>
  lo2 (B_X1_netOf_21 S x1 (fun z7 => lo2 (B_X1_netOf_52 S x1 (fun z12 => some z12)) FU z7 (0 : Int32))) FU v3 (0 : Int32)
def J_X1_paidToPersons_41 (k : Int64 → Option (Int64)) (rc : Int64 → Int32 → Option (Int64)) (S : RS) (x1 : Int32) (x2 : Int64) (x4 : Int32) : Option (Int64) :=
  nm (x4 + 1 : Int32) fun v2 =>
  rc x2 v2
def B_X1_paidToPersons_5 (S : RS) (x1 : Int32) (k : Int64 → Option (Int64)) (rc : Int64 → Int32 → Option (Int64)) (x2 : Int64) (x4 : Int32) : Option (Int64) :=
  if (t_claims (r_told S)) ≤ x4 then
  (k x2)
  else
  ((F_X2_ofClaim (r_told S) x4 (0 : Int32)).bind fun q1 =>
  if q1 = (1 : Int32) then
  ((F_X1_paidToClaim S x1 x4).bind fun q3 =>
  nm ((x2 + q3) : Int64) fun v4 =>
  J_X1_paidToPersons_41 k rc S x1 v4 x4)
  else
  (J_X1_paidToPersons_41 k rc S x1 x2 x4))
def F_X1_paidToPersons (S : RS) (x1 : Int32) : Option (Int64) :=
  lo2 (B_X1_paidToPersons_5 S x1 (fun z5 => some z5)) FU (0 : Int64) (0 : Int32)
def F_X1_threeQuarters (x0 : Int64) : Option (Int64) :=
  (dvL (x0 * (3 : Int64)) (4 : Int64)).bind fun v1 =>
  some v1
def F_X1_coveredOf (S : RS) (x1 : Int32) : Option (Int64) :=
  (F_X1_paidByShip S x1).bind fun q1 =>
  (F_X1_paidToPersons S x1).bind fun q2 =>
  (F_X1_threeQuarters (q1 - q2)).bind fun q3 =>
  (F_X2_ofShip (r_told S) x1 (3 : Int32)).bind fun q4 =>
  (F_X1_threeQuarters q4.toInt64).bind fun q5 =>
  nm ((if q5 < q3 then q5 else q3) : Int64) fun v6 =>
  some v6
def J_X1_owedToPersons_41 (k : Int64 → Option (Int64)) (rc : Int64 → Int32 → Option (Int64)) (S : RS) (x1 : Int32) (x2 : Int64) (x4 : Int32) : Option (Int64) :=
  nm (x4 + 1 : Int32) fun v2 =>
  rc x2 v2
def B_X1_owedToPersons_5 (S : RS) (x1 : Int32) (k : Int64 → Option (Int64)) (rc : Int64 → Int32 → Option (Int64)) (x2 : Int64) (x4 : Int32) : Option (Int64) :=
  if (t_claims (r_told S)) ≤ x4 then
  (k x2)
  else
  ((F_X2_ofClaim (r_told S) x4 (0 : Int32)).bind fun q1 =>
  if q1 = (1 : Int32) then
  ((F_X1_owedToClaim S x1 x4).bind fun q3 =>
  nm ((x2 + q3) : Int64) fun v4 =>
  J_X1_owedToPersons_41 k rc S x1 v4 x4)
  else
  (J_X1_owedToPersons_41 k rc S x1 x2 x4))
def F_X1_owedToPersons (S : RS) (x1 : Int32) : Option (Int64) :=
  lo2 (B_X1_owedToPersons_5 S x1 (fun z5 => some z5)) FU (0 : Int64) (0 : Int32)
def F_X1_rateNeeded (S : RS) (x1 : Int32) : Option (Int64) :=
  (F_X2_ofShip (r_told S) x1 (5 : Int32)).bind fun q1 =>
  if q1 = (1 : Int32) then
  (some (0 : Int64))
  else
  ((F_X1_owedToPersons S x1).bind fun q2 =>
  (F_X1_owedByShip S x1).bind fun q3 =>
  (F_X2_fundOf (r_told S) x1 (6 : Int32)).bind fun q4 =>
  nm ((if q4 < q2 then q4 else q2) : Int64) fun v5 =>
  nm ((q3 - v5) : Int64) fun v6 =>
  (F_X2_fundTons (r_told S) x1).bind fun q7 =>
  (F_X1_cut ((v6 + q7) - (1 : Int64)) q7).bind fun q8 =>
  some q8)
def B_X2_dropClaim_14 (k : TS → Option (TS)) (rc : TS → Int32 → Option (TS)) (S : TS) (x2 : Int32) : Option (TS) :=
  if ((t_claims S) * (4 : Int32)) ≤ x2 then
  (k S)
  else
  ((rdI (t_claimRows S) (x2 + (4 : Int32))).bind fun v3 =>
  (wrI (t_claimRows S) x2 v3).bind fun f4 =>
  nm (ts_claimRows S f4 : TS) fun S5 =>
  nm (x2 + 1 : Int32) fun v6 =>
  rc S5 v6)
def F_X2_dropClaim (S : TS) (x1 : Int32) : Option (TS) :=
  nm (ts_claims S ((t_claims S) - (1 : Int32)) : TS) fun S1 =>
  nm ((x1 * (4 : Int32)) : Int32) fun v2 =>
  lo2 (B_X2_dropClaim_14 (fun S7 => some S7)) FU S1 v2
def B_X2_drawFaults_2 (x1 : Int64) (k : TS → Option (Int64 × TS)) (rc : TS → Int32 → Option (Int64 × TS)) (S : TS) (x3 : Int32) : Option (Int64 × TS) :=
  if (t_ships S) ≤ x3 then
  (k S)
  else
  ((F_X2_setShip S x3 (1 : Int32) (0 : Int32)).bind fun q1 =>
  nm (x3 + 1 : Int32) fun v2 =>
  rc q1 v2)
def B_X2_drawFaults_28 (k : TS → Int64 → Option (Int64 × TS)) (rc : TS → Int64 → Int32 → Option (Int64 × TS)) (S : TS) (x3 : Int64) (x5 : Int32) : Option (Int64 × TS) :=
  if (10 : Int32) ≤ x5 then
  (k S x3)
  else
  (if (t_ships S) ≤ 0 then
  (k S x3)
  else
  ((rmL ((48271 : Int64) * x3) (2147483647 : Int64)).bind fun v4 =>
  (rmL v4 ((t_ships S).toInt64)).bind fun v5 =>
  nm (v5.toInt32 : Int32) fun v6 =>
  (F_X2_ofShip S v6 (1 : Int32)).bind fun q7 =>
  (F_X2_setShip S v6 (1 : Int32) (q7 + (1 : Int32))).bind fun q8 =>
  nm (x5 + 1 : Int32) fun v9 =>
  rc q8 v4 v9))
def J_X2_drawFaults_84 (S : TS) (x3 : Int64) : Option (Int64 × TS) :=
  some (x3, S)
def F_X2_drawFaults (S : TS) (x1 : Int64) : Option (Int64 × TS) :=
  lo2 (B_X2_drawFaults_2 x1 (fun S3 => lo3 (B_X2_drawFaults_28 (fun S10 z11 => J_X2_drawFaults_84 S10 z11)) FU S3 x1 (0 : Int32))) FU S (0 : Int32)
def B_X4_putBytes_3 (x1 : Int32) (k : XS → Option (XS)) (rc : XS → Int32 → Option (XS)) (S : XS) (x2 : Int32) : Option (XS) :=
  if x2 < 0 then
  (k S)
  else
  (if (600 : Int32) ≤ (x_tapeLength S) then
  (k S)
  else
  ((wrI (d_bytes (x_reader S)) (x_tapeLength S) ((x1 >>> (x2 &&& 31)).toInt8.toInt32)).bind fun f1 =>
  nm (xs_reader S (ds_bytes (x_reader S) f1) : XS) fun S2 =>
  nm (xs_tapeLength S2 ((x_tapeLength S2) + (1 : Int32)) : XS) fun S3 =>
  nm (x2 + (-8) : Int32) fun v4 =>
  rc S3 v4))
def F_X4_putBytes (S : XS) (x1 : Int32) : Option (XS) :=
  lo2 (B_X4_putBytes_3 x1 (fun S5 => some S5)) FU S (24 : Int32)
def F_X4_feed (S : XS) (x1 : Int32) (x2 : Int32) (x3 : Int32) (x4 : Int32) (x5 : Int32) : Option (Int32 × XS) :=
  if ((x_tapeLength S) + (20 : Int32)) ≤ (600 : Int32) then
  ((F_X4_putBytes S x1).bind fun q1 =>
  (F_X4_putBytes q1 x2).bind fun q2 =>
  (F_X4_putBytes q2 x3).bind fun q3 =>
  (F_X4_putBytes q3 x4).bind fun q4 =>
  (F_X4_putBytes q4 x5).bind fun q5 =>
  some (x_tapeLength q5, q5))
  else
  (some ((-1 : Int32), S))
def F_X4_refuse (S : XS) (x1 : Int32) : Option (Int32 × XS) :=
  nm (xs_latestTrouble S x1 : XS) fun S1 =>
  nm (xs_latestPlace S1 (-1 : Int32) : XS) fun S2 =>
  some ((0 : Int32), S2)
def F_X4_none (S : XS) (x1 : Int32) : Option (Int32 × XS) :=
  (F_X4_refuse S x1).bind fun q1 =>
  some ((-1 : Int32), q1.2)
def F_X4_accept (S : XS) : Option (XS) :=
  nm (xs_latestTrouble S (0 : Int32) : XS) fun S1 =>
  nm (xs_latestPlace S1 (-1 : Int32) : XS) fun S2 =>
  some S2
def F_X4_forgetActs (S : XS) : Option (XS) :=
  nm (xs_undoable S (0 : Int32) : XS) fun S1 =>
  nm (xs_nextAct S1 (0 : Int32) : XS) fun S2 =>
  some S2
def B_X4_text_84 (k : XS → Option (Int32 × XS)) (rc : XS → Int32 → Option (Int32 × XS)) (S : XS) (x2 : Int32) : Option (Int32 × XS) :=
  if (2 : Int32) ≤ x2 then
  (k S)
  else
  ((wrI (x_kept S) x2 (0 : Int32)).bind fun f10 =>
  nm (xs_kept S f10 : XS) fun S11 =>
  nm (x2 + 1 : Int32) fun v12 =>
  rc S11 v12)
def F_X4_text (S : XS) (x1 : Int32) : Option (Int32 × XS) :=
  (F_X4_within x1 (0 : Int32) (x_tapeLength S)).bind fun q1 =>
  if q1 = 0 then
  ((F_X4_none S (2 : Int32)).bind fun q16 =>
  some (q16.1, q16.2))
  else
  (nm (xs_tapeLength S (0 : Int32) : XS) fun S2 =>
  (F_X0_read (x_reader S2) x1).bind fun q3 =>
  nm (xs_reader S2 q3.2 : XS) fun S4 =>
  nm (xs_latestFault S4 q3.1 : XS) fun S5 =>
  if (x_latestFault S5) = 0 then
  ((F_X4_accept S5).bind fun q6 =>
  (F_X2_copyFrom (x_now q6) (d_told (x_reader q6))).bind fun q7 =>
  nm (xs_now q6 q7 : XS) fun S8 =>
  (F_X4_forgetActs S8).bind fun q9 =>
  lo2 (B_X4_text_84 (fun S13 => some (t_ships (x_now S13), S13))) FU q9 (0 : Int32))
  else
  (nm (xs_latestTrouble S5 (4 : Int32) : XS) fun S14 =>
  nm (xs_latestPlace S14 (d_start (x_reader S14)) : XS) fun S15 =>
  some ((-1 : Int32), S15)))
def F_X4_fault (S : XS) : Option (Int32) :=
  some (x_latestFault S)
def F_X4_where (S : XS) : Option (Int32) :=
  some (x_latestPlace S)
def F_X4_hasText (S : XS) : Option (Int32) :=
  if (t_ships (x_now S)) ≤ 0 then
  (some (0 : Int32))
  else
  (some (1 : Int32))
def J_X4_about_17 (S : XS) : Option (Int32 × XS) :=
  (F_X4_none S (1 : Int32)).bind fun q2 =>
  some (q2.1, q2.2)
def F_X4_about (S : XS) (x1 : Int32) : Option (Int32 × XS) :=
  (F_X4_hasText S).bind fun q1 =>
  if q1 = 0 then
  (J_X4_about_17 S)
  else
  ((F_X4_within x1 (0 : Int32) (10 : Int32)).bind fun q3 =>
  if q3 = 0 then
  (J_X4_about_17 S)
  else
  ((F_X4_accept S).bind fun q4 =>
  if x1 = 0 then
  (some (t_ships (x_now q4), q4))
  else
  (if x1 = (1 : Int32) then
  (some (t_claims (x_now q4), q4))
  else
  (if x1 = (10 : Int32) then
  (some (x_undoable q4, q4))
  else
  ((rdI (t_laws (x_now q4)) x1).bind fun v5 =>
  some (v5, q4))))))
def F_X4_hasShip (S : XS) (x1 : Int32) : Option (Int32) :=
  (F_X4_within x1 (0 : Int32) ((t_ships (x_now S)) - (1 : Int32))).bind fun q1 =>
  zz q1 <|
  some q1
def J_X4_ship_18 (S : XS) : Option (Int32 × XS) :=
  (F_X4_none S (1 : Int32)).bind fun q2 =>
  some (q2.1, q2.2)
def F_X4_ship (S : XS) (x1 : Int32) (x2 : Int32) : Option (Int32 × XS) :=
  (F_X4_hasShip S x1).bind fun q1 =>
  if q1 = 0 then
  (J_X4_ship_18 S)
  else
  ((F_X4_within x2 (0 : Int32) (6 : Int32)).bind fun q3 =>
  if q3 = 0 then
  (J_X4_ship_18 S)
  else
  ((F_X4_accept S).bind fun q4 =>
  if x2 = (6 : Int32) then
  ((F_X2_weightOf (x_now q4) x1).bind fun q6 =>
  some (q6, q4))
  else
  ((F_X2_ofShip (x_now q4) x1 x2).bind fun q5 =>
  some (q5, q4))))
def F_X4_hasClaim (S : XS) (x1 : Int32) : Option (Int32) :=
  (F_X4_within x1 (0 : Int32) ((t_claims (x_now S)) - (1 : Int32))).bind fun q1 =>
  zz q1 <|
  some q1
def J_X4_claim_17 (S : XS) : Option (Int32 × XS) :=
  (F_X4_none S (1 : Int32)).bind fun q2 =>
  some (q2.1, q2.2)
def F_X4_claim (S : XS) (x1 : Int32) (x2 : Int32) : Option (Int32 × XS) :=
  (F_X4_hasClaim S x1).bind fun q1 =>
  if q1 = 0 then
  (J_X4_claim_17 S)
  else
  ((F_X4_within x2 (0 : Int32) (4 : Int32)).bind fun q3 =>
  if q3 = 0 then
  (J_X4_claim_17 S)
  else
  ((F_X4_accept S).bind fun q4 =>
  if x2 = (4 : Int32) then
  ((F_X2_roundOf (x_now q4) x1).bind fun q6 =>
  some (q6, q4))
  else
  ((F_X2_ofClaim (x_now q4) x1 x2).bind fun q5 =>
  some (q5, q4))))
def F_X4_reckon (S : XS) : Option (XS) :=
  (F_X1_take (x_reckoning S) (x_now S)).bind fun q1 =>
  nm (xs_reckoning S q1 : XS) fun S2 =>
  (F_X1_settle (x_reckoning S2)).bind fun q3 =>
  nm (xs_reckoning S2 q3 : XS) fun S4 =>
  some S4
def F_X4_part (S : XS) (x1 : Int32) (x2 : Int32) : Option (Int32 × XS) :=
  (F_X4_hasShip S x1).bind fun q1 =>
  if q1 = 0 then
  ((F_X4_none S (1 : Int32)).bind fun q7 =>
  some (q7.1, q7.2))
  else
  ((F_X4_within x2 (0 : Int32) (9999999 : Int32)).bind fun q2 =>
  if q2 = 0 then
  ((F_X4_none S (2 : Int32)).bind fun q6 =>
  some (q6.1, q6.2))
  else
  ((F_X4_accept S).bind fun q3 =>
  (F_X4_reckon q3).bind fun q4 =>
  (F_X1_partOf (x_reckoning q4) x1 x2.toInt64).bind fun q5 =>
  some (q5.toInt32, q4)))
def J_X4_owes_16 (S : XS) : Option (Int32 × XS) :=
  (F_X4_none S (1 : Int32)).bind fun q2 =>
  some (q2.1, q2.2)
def F_X4_owes (S : XS) (x1 : Int32) (x2 : Int32) : Option (Int32 × XS) :=
  (F_X4_hasShip S x1).bind fun q1 =>
  if q1 = 0 then
  (J_X4_owes_16 S)
  else
  ((F_X4_hasClaim S x2).bind fun q3 =>
  if q3 = 0 then
  (J_X4_owes_16 S)
  else
  ((F_X4_accept S).bind fun q4 =>
  (F_X4_reckon q4).bind fun q5 =>
  (F_X1_owedToClaim (x_reckoning q5) x1 x2).bind fun q6 =>
  some (q6.toInt32, q5)))
def J_X4_between_25 (S : XS) : Option (Int64 × XS) :=
  (F_X4_none S (1 : Int32)).bind fun q2 =>
  some (q2.1.toInt64, q2.2)
def F_X4_between (S : XS) (x1 : Int32) (x2 : Int32) (x3 : Int32) : Option (Int64 × XS) :=
  (F_X4_hasShip S x1).bind fun q1 =>
  if q1 = 0 then
  (J_X4_between_25 S)
  else
  ((F_X4_hasShip S x2).bind fun q3 =>
  if q3 = 0 then
  (J_X4_between_25 S)
  else
  ((F_X4_within x3 (0 : Int32) (3 : Int32)).bind fun q4 =>
  if q4 = 0 then
  (J_X4_between_25 S)
  else
  (if x1 = x2 then
  ((F_X4_none S (5 : Int32)).bind fun q11 =>
  some (q11.1.toInt64, q11.2))
  else
  ((F_X4_accept S).bind fun q5 =>
  (F_X4_reckon q5).bind fun q6 =>
  if x3 = 0 then
  ((F_X1_hullDebt (x_reckoning q6) x1 x2).bind fun q10 =>
  some (q10, q6))
  else
  (if x3 = (1 : Int32) then
  ((F_X1_backTo (x_reckoning q6) x1 x2).bind fun q9 =>
  some (q9, q6))
  else
  (if x3 = (2 : Int32) then
  ((F_X1_crossDebt (x_reckoning q6) x1 x2).bind fun q8 =>
  some (q8, q6))
  else
  ((F_X1_owedToShip (x_reckoning q6) x1 x2).bind fun q7 =>
  some (q7, q6))))))))
def F_X4_back (S : XS) (x1 : Int32) : Option (Int64 × XS) :=
  (F_X4_hasClaim S x1).bind fun q1 =>
  if q1 = 0 then
  ((F_X4_none S (1 : Int32)).bind fun q5 =>
  some (q5.1.toInt64, q5.2))
  else
  ((F_X4_accept S).bind fun q2 =>
  (F_X4_reckon q2).bind fun q3 =>
  (F_X1_backForClaim (x_reckoning q3) x1).bind fun q4 =>
  some (q4, q3))
def J_X4_fund_17 (S : XS) : Option (Int32 × XS) :=
  (F_X4_none S (1 : Int32)).bind fun q2 =>
  some (q2.1, q2.2)
def J_X4_fund_42 (S : XS) (y0 : Int32) (y1 : Int32) : Option (Int32 × XS) :=
  (F_X2_fundOf (x_now S) y1 y0).bind fun q5 =>
  some (q5.toInt32, S)
def F_X4_fund (S : XS) (x1 : Int32) (x2 : Int32) : Option (Int32 × XS) :=
  (F_X4_hasShip S x1).bind fun q1 =>
  if q1 = 0 then
  (J_X4_fund_17 S)
  else
  ((F_X4_within x2 (0 : Int32) (1 : Int32)).bind fun q3 =>
  if q3 = 0 then
  (J_X4_fund_17 S)
  else
  ((F_X4_accept S).bind fun q4 =>
  if x2 = 0 then
  (J_X4_fund_42 q4 (6 : Int32) x1)
  else
  (J_X4_fund_42 q4 (5 : Int32) x1)))
def J_X4_pays_16 (S : XS) : Option (Int32 × XS) :=
  (F_X4_none S (1 : Int32)).bind fun q2 =>
  some (q2.1, q2.2)
def F_X4_pays (S : XS) (x1 : Int32) (x2 : Int32) : Option (Int32 × XS) :=
  (F_X4_hasShip S x1).bind fun q1 =>
  if q1 = 0 then
  (J_X4_pays_16 S)
  else
  ((F_X4_hasClaim S x2).bind fun q3 =>
  if q3 = 0 then
  (J_X4_pays_16 S)
  else
  ((F_X4_accept S).bind fun q4 =>
  (F_X4_reckon q4).bind fun q5 =>
  (F_X1_paidToClaim (x_reckoning q5) x1 x2).bind fun q6 =>
  some (q6.toInt32, q5)))
def J_X4_paysTo_16 (S : XS) : Option (Int64 × XS) :=
  (F_X4_none S (1 : Int32)).bind fun q2 =>
  some (q2.1.toInt64, q2.2)
def F_X4_paysTo (S : XS) (x1 : Int32) (x2 : Int32) : Option (Int64 × XS) :=
  (F_X4_hasShip S x1).bind fun q1 =>
  if q1 = 0 then
  (J_X4_paysTo_16 S)
  else
  ((F_X4_hasShip S x2).bind fun q3 =>
  if q3 = 0 then
  (J_X4_paysTo_16 S)
  else
  (if x1 = x2 then
  ((F_X4_none S (5 : Int32)).bind fun q7 =>
  some (q7.1.toInt64, q7.2))
  else
  ((F_X4_accept S).bind fun q4 =>
  (F_X4_reckon q4).bind fun q5 =>
  (F_X1_paidToShip (x_reckoning q5) x1 x2).bind fun q6 =>
  some (q6, q5))))
def J_X4_sum_17 (S : XS) : Option (Int64 × XS) :=
  (F_X4_none S (1 : Int32)).bind fun q2 =>
  some (q2.1.toInt64, q2.2)
def F_X4_sum (S : XS) (x1 : Int32) (x2 : Int32) : Option (Int64 × XS) :=
  (F_X4_hasShip S x1).bind fun q1 =>
  if q1 = 0 then
  (J_X4_sum_17 S)
  else
  ((F_X4_within x2 (0 : Int32) (1 : Int32)).bind fun q3 =>
  if q3 = 0 then
  (J_X4_sum_17 S)
  else
  ((F_X4_accept S).bind fun q4 =>
  (F_X4_reckon q4).bind fun q5 =>
  if x2 = 0 then
  ((F_X1_owedByShip (x_reckoning q5) x1).bind fun q7 =>
  some (q7, q5))
  else
  ((F_X1_paidByShip (x_reckoning q5) x1).bind fun q6 =>
  some (q6, q5))))
def F_X4_bites (S : XS) (x1 : Int32) : Option (Int32 × XS) :=
  (F_X4_hasShip S x1).bind fun q1 =>
  if q1 = 0 then
  ((F_X4_none S (1 : Int32)).bind fun q6 =>
  some (q6.1, q6.2))
  else
  ((F_X4_accept S).bind fun q2 =>
  (F_X4_reckon q2).bind fun q3 =>
  (F_X1_paidByShip (x_reckoning q3) x1).bind fun q4 =>
  (F_X1_owedByShip (x_reckoning q3) x1).bind fun q5 =>
  if 0 ≤ (lg_cmp q4 q5) then
  (some ((0 : Int32), q3))
  else
  (some ((1 : Int32), q3)))
def J_X4_gets_17 (S : XS) : Option (Int64 × XS) :=
  (F_X4_none S (1 : Int32)).bind fun q2 =>
  some (q2.1.toInt64, q2.2)
def F_X4_gets (S : XS) (x1 : Int32) (x2 : Int32) : Option (Int64 × XS) :=
  (F_X4_hasClaim S x1).bind fun q1 =>
  if q1 = 0 then
  (J_X4_gets_17 S)
  else
  ((F_X4_within x2 (0 : Int32) (2 : Int32)).bind fun q3 =>
  if q3 = 0 then
  (J_X4_gets_17 S)
  else
  ((F_X4_accept S).bind fun q4 =>
  (F_X4_reckon q4).bind fun q5 =>
  if x2 = 0 then
  ((F_X1_leftToClaim (x_reckoning q5) x1).bind fun q8 =>
  some (q8, q5))
  else
  (if x2 = (1 : Int32) then
  ((F_X1_givenBack (x_reckoning q5) x1).bind fun q7 =>
  some (q7, q5))
  else
  ((F_X1_paidToClaimByAll (x_reckoning q5) x1).bind fun q6 =>
  some (q6, q5)))))
def J_X4_cover_17 (S : XS) : Option (Int64 × XS) :=
  (F_X4_none S (1 : Int32)).bind fun q2 =>
  some (q2.1.toInt64, q2.2)
def F_X4_cover (S : XS) (x1 : Int32) (x2 : Int32) : Option (Int64 × XS) :=
  (F_X4_hasShip S x1).bind fun q1 =>
  if q1 = 0 then
  (J_X4_cover_17 S)
  else
  ((F_X4_within x2 (0 : Int32) (1 : Int32)).bind fun q3 =>
  if q3 = 0 then
  (J_X4_cover_17 S)
  else
  ((F_X4_accept S).bind fun q4 =>
  (F_X4_reckon q4).bind fun q5 =>
  (F_X1_coveredOf (x_reckoning q5) x1).bind fun q6 =>
  if x2 = 0 then
  (some (q6, q5))
  else
  ((F_X1_paidByShip (x_reckoning q5) x1).bind fun q7 =>
  some ((q7 - q6), q5))))
def F_X4_nothing (S : XS) (x1 : Int32) : Option (Int64 × XS) :=
  (F_X4_refuse S x1).bind fun q1 =>
  some ((-1000000000000 : Int64), q1.2)
def F_X4_net (S : XS) (x1 : Int32) : Option (Int64 × XS) :=
  (F_X4_hasShip S x1).bind fun q1 =>
  if q1 = 0 then
  ((F_X4_nothing S (1 : Int32)).bind fun q5 =>
  some (q5.1, q5.2))
  else
  ((F_X4_accept S).bind fun q2 =>
  (F_X4_reckon q2).bind fun q3 =>
  (F_X1_netOf (x_reckoning q3) x1).bind fun q4 =>
  some (q4, q3))
def F_X4_netUnder (S : XS) (x1 : Int32) (x2 : Int32) : Option (Int64 × XS) :=
  (F_X1_take (x_reckoning S) (x_now S)).bind fun q1 =>
  nm (xs_reckoning S q1 : XS) fun S2 =>
  (wrI (t_laws (r_told (x_reckoning S2))) (2 : Int32) (x2 &&& (1 : Int32))).bind fun f3 =>
  nm (xs_reckoning S2 (rs_told (x_reckoning S2) (ts_laws (r_told (x_reckoning S2)) f3)) : XS) fun S4 =>
  (wrI (t_laws (r_told (x_reckoning S4))) (3 : Int32) ((x2 >>> ((1 : Int32) &&& 31)) &&& (1 : Int32))).bind fun f5 =>
  nm (xs_reckoning S4 (rs_told (x_reckoning S4) (ts_laws (r_told (x_reckoning S4)) f5)) : XS) fun S6 =>
  (wrI (t_laws (r_told (x_reckoning S6))) (4 : Int32) ((x2 >>> ((2 : Int32) &&& 31)) &&& (1 : Int32))).bind fun f7 =>
  nm (xs_reckoning S6 (rs_told (x_reckoning S6) (ts_laws (r_told (x_reckoning S6)) f7)) : XS) fun S8 =>
  (F_X1_settle (x_reckoning S8)).bind fun q9 =>
  nm (xs_reckoning S8 q9 : XS) fun S10 =>
  (F_X1_netOf (x_reckoning S10) x1).bind fun q11 =>
  some (q11, S10)
def F_X4_netBy (S : XS) (x1 : Int32) (x2 : Int32) : Option (Int64 × XS) :=
  (F_X4_hasShip S x1).bind fun q1 =>
  if q1 = 0 then
  ((F_X4_nothing S (1 : Int32)).bind fun q6 =>
  some (q6.1, q6.2))
  else
  ((F_X4_within x2 (0 : Int32) (7 : Int32)).bind fun q2 =>
  if q2 = 0 then
  ((F_X4_nothing S (2 : Int32)).bind fun q5 =>
  some (q5.1, q5.2))
  else
  ((F_X4_accept S).bind fun q3 =>
  (F_X4_netUnder q3 x1 x2).bind fun q4 =>
  some (q4.1, q4.2)))
def J_X4_wished_59 (k : XS → Int32 → Option (Int32 × XS)) (rc : XS → Int32 → Int64 → Int32 → Option (Int32 × XS)) (S : XS) (x1 : Int32) (x2 : Int32) (x3 : Int64) (x5 : Int32) : Option (Int32 × XS) :=
  nm (x5 + 1 : Int32) fun v5 =>
  rc S x2 x3 v5
def B_X4_wished_30 (x1 : Int32) (k : XS → Int32 → Option (Int32 × XS)) (rc : XS → Int32 → Int64 → Int32 → Option (Int32 × XS)) (S : XS) (x2 : Int32) (x3 : Int64) (x5 : Int32) : Option (Int32 × XS) :=
  if (8 : Int32) ≤ x5 then
  (k S x2)
  else
  ((F_X4_netUnder S x1 x5).bind fun q4 =>
  if (lg_cmp q4.1 x3) ≤ 0 then
  (J_X4_wished_59 k rc q4.2 x1 x2 x3 x5)
  else
  (J_X4_wished_59 k rc q4.2 x1 x5 q4.1 x5))
def F_X4_wished (S : XS) (x1 : Int32) : Option (Int32 × XS) :=
  (F_X4_hasShip S x1).bind fun q1 =>
  if q1 = 0 then
  ((F_X4_none S (1 : Int32)).bind fun q8 =>
  some (q8.1, q8.2))
  else
  ((F_X4_accept S).bind fun q2 =>
  (F_X4_netUnder q2 x1 (0 : Int32)).bind fun q3 =>
  lo4 (B_X4_wished_30 x1 (fun S6 z7 => some (z7, S6))) FU q3.2 (0 : Int32) q3.1 (1 : Int32))
def F_X4_gap (S : XS) (x1 : Int32) : Option (Int64 × XS) :=
  (F_X4_hasShip S x1).bind fun q1 =>
  if q1 = 0 then
  ((F_X4_nothing S (1 : Int32)).bind fun q8 =>
  some (q8.1, q8.2))
  else
  ((F_X4_accept S).bind fun q2 =>
  (rdI (t_laws (x_now q2)) (2 : Int32)).bind fun v3 =>
  (rdI (t_laws (x_now q2)) (3 : Int32)).bind fun v4 =>
  nm ((v3 + ((2 : Int32) * v4)) : Int32) fun v5 =>
  (F_X4_netUnder q2 x1 (v5 + (4 : Int32))).bind fun q6 =>
  (F_X4_netUnder q6.2 x1 v5).bind fun q7 =>
  some ((q6.1 - q7.1), q7.2))
def B_X4_enough_25 (k : XS → Int64 → Option (Int32 × XS)) (rc : XS → Int64 → Int32 → Option (Int32 × XS)) (S : XS) (x1 : Int64) (x3 : Int32) : Option (Int32 × XS) :=
  if (t_ships (x_now S)) ≤ x3 then
  (k S x1)
  else
  ((F_X1_rateNeeded (x_reckoning S) x3).bind fun q4 =>
  nm ((if q4 < x1 then x1 else q4) : Int64) fun v5 =>
  nm (x3 + 1 : Int32) fun v6 =>
  rc S v5 v6)
def F_X4_enough (S : XS) : Option (Int32 × XS) :=
  (F_X4_hasText S).bind fun q1 =>
  if q1 = 0 then
  ((F_X4_none S (1 : Int32)).bind fun q9 =>
  some (q9.1, q9.2))
  else
  ((F_X4_accept S).bind fun q2 =>
  (F_X4_reckon q2).bind fun q3 =>
  lo3 (B_X4_enough_25 (fun S7 z8 => if (lg_cmp z8 (99999 : Int64)) ≤ 0 then
  (some (z8.toInt32, S7))
  else
  (some ((-2 : Int32), S7)))) FU q3 (0 : Int64) (0 : Int32))
def F_X4_tenthsOfBoth (S : XS) (x1 : Int32) (x2 : Int32) : Option (Int32) :=
  (F_X2_ofShip (x_now S) x1 (1 : Int32)).bind fun q1 =>
  (F_X2_ofShip (x_now S) x2 (1 : Int32)).bind fun q2 =>
  some (q1 + q2)
def F_X4_netWithTenths (S : XS) (x1 : Int32) (x2 : Int32) (x3 : Int32) : Option (Int64 × XS) :=
  (F_X1_take (x_reckoning S) (x_now S)).bind fun q1 =>
  nm (xs_reckoning S q1 : XS) fun S2 =>
  (F_X2_setShip (r_told (x_reckoning S2)) x1 (1 : Int32) x3).bind fun q3 =>
  nm (xs_reckoning S2 (rs_told (x_reckoning S2) q3) : XS) fun S4 =>
  (F_X4_tenthsOfBoth S4 x1 x2).bind fun q5 =>
  (F_X2_setShip (r_told (x_reckoning S4)) x2 (1 : Int32) (q5 - x3)).bind fun q6 =>
  nm (xs_reckoning S4 (rs_told (x_reckoning S4) q6) : XS) fun S7 =>
  (F_X1_settle (x_reckoning S7)).bind fun q8 =>
  nm (xs_reckoning S7 q8 : XS) fun S9 =>
  (F_X1_netOf (x_reckoning S9) x1).bind fun q10 =>
  some (q10, S9)
def J_X4_would_16 (S : XS) : Option (Int64 × XS) :=
  (F_X4_nothing S (1 : Int32)).bind fun q2 =>
  some (q2.1, q2.2)
def F_X4_would (S : XS) (x1 : Int32) (x2 : Int32) (x3 : Int32) : Option (Int64 × XS) :=
  (F_X4_hasShip S x1).bind fun q1 =>
  if q1 = 0 then
  (J_X4_would_16 S)
  else
  ((F_X4_hasShip S x2).bind fun q3 =>
  if q3 = 0 then
  (J_X4_would_16 S)
  else
  (if x1 = x2 then
  ((F_X4_nothing S (5 : Int32)).bind fun q9 =>
  some (q9.1, q9.2))
  else
  ((F_X4_tenthsOfBoth S x1 x2).bind fun q4 =>
  (F_X4_within x3 (0 : Int32) q4).bind fun q5 =>
  if q5 = 0 then
  ((F_X4_nothing S (2 : Int32)).bind fun q8 =>
  some (q8.1, q8.2))
  else
  ((F_X4_accept S).bind fun q6 =>
  (F_X4_netWithTenths q6 x1 x2 x3).bind fun q7 =>
  some (q7.1, q7.2)))))
def J_X4_worse_16 (S : XS) : Option (Int32 × XS) :=
  (F_X4_none S (1 : Int32)).bind fun q2 =>
  some (q2.1, q2.2)
def B_X4_worse_65 (x1 : Int32) (x2 : Int32) (x3 : Int32) (x4 : Int32) (k : XS → Option (Int32 × XS)) (rc : XS → Int32 → Option (Int32 × XS)) (S : XS) (x5 : Int32) : Option (Int32 × XS) :=
  if x4 < x5 then
  (k S)
  else
  ((F_X4_netWithTenths S x1 x2 x5).bind fun q7 =>
  if 0 ≤ (lg_cmp q7.1 x3.toInt64) then
  (nm (x5 + 1 : Int32) fun v8 =>
  rc q7.2 v8)
  else
  (some (x5, q7.2)))
def F_X4_worse (S : XS) (x1 : Int32) (x2 : Int32) (x3 : Int32) : Option (Int32 × XS) :=
  (F_X4_hasShip S x1).bind fun q1 =>
  if q1 = 0 then
  (J_X4_worse_16 S)
  else
  ((F_X4_hasShip S x2).bind fun q3 =>
  if q3 = 0 then
  (J_X4_worse_16 S)
  else
  ((F_X4_within x3 (-1000000000 : Int32) (1000000000 : Int32)).bind fun q4 =>
  if q4 = 0 then
  ((F_X4_none S (2 : Int32)).bind fun q11 =>
  some (q11.1, q11.2))
  else
  (if x1 = x2 then
  ((F_X4_none S (5 : Int32)).bind fun q10 =>
  some (q10.1, q10.2))
  else
  ((F_X4_accept S).bind fun q5 =>
  (F_X4_tenthsOfBoth q5 x1 x2).bind fun q6 =>
  lo2 (B_X4_worse_65 x1 x2 x3 q6 (fun S9 => some ((-2 : Int32), S9))) FU q5 (0 : Int32)))))
def J_X4_judged_18 (S : XS) : Option (Int64 × XS) :=
  (F_X4_nothing S (1 : Int32)).bind fun q2 =>
  some (q2.1, q2.2)
def J_X4_judged_44 (S : XS) : Option (Int64 × XS) :=
  (F_X4_nothing S (2 : Int32)).bind fun q5 =>
  some (q5.1, q5.2)
def J_X4_judged_161 (k : XS → Int64 → Int64 → Int64 → Option (Int64 × XS)) (rc : XS → Int64 → Int64 → Int64 → Int64 → Int32 → Option (Int64 × XS)) (S : XS) (x1 : Int32) (x3 : Int32) (x4 : Int32) (x5 : Int64) (x7 : Int64) (x9 : Int64) (x13 : Int32) (y0 : Int64) : Option (Int64 × XS) :=
  nm (x13 + 1 : Int32) fun v19 =>
  rc S x5 x7 x9 y0 v19
def J_X4_judged_142 (k : XS → Int64 → Int64 → Int64 → Option (Int64 × XS)) (rc : XS → Int64 → Int64 → Int64 → Int64 → Int32 → Option (Int64 × XS)) (S : XS) (x1 : Int32) (x3 : Int32) (x4 : Int32) (x5 : Int64) (x7 : Int64) (x11 : Int64) (x13 : Int32) (x14 : Int64) (y0 : Int64) : Option (Int64 × XS) :=
  if x13 = 0 then
  (J_X4_judged_161 k rc S x1 x3 x4 x5 x7 y0 x13 x14)
  else
  (nm ((if x14 < x11 then x11 else x14) : Int64) fun v18 =>
  J_X4_judged_161 k rc S x1 x3 x4 x5 x7 y0 x13 v18)
def B_X4_judged_81 (x1 : Int32) (x3 : Int32) (x4 : Int32) (k : XS → Int64 → Int64 → Int64 → Option (Int64 × XS)) (rc : XS → Int64 → Int64 → Int64 → Int64 → Int32 → Option (Int64 × XS)) (S : XS) (x5 : Int64) (x7 : Int64) (x9 : Int64) (x11 : Int64) (x13 : Int32) : Option (Int64 × XS) :=
  if x3 ≤ x13 then
  (k S x7 x9 x11)
  else
  ((F_X2_drawFaults (r_told (x_reckoning S)) x5).bind fun q11 =>
  nm (xs_reckoning S (rs_told (x_reckoning S) q11.2) : XS) fun S12 =>
  (F_X1_settle (x_reckoning S12)).bind fun q13 =>
  nm (xs_reckoning S12 q13 : XS) fun S14 =>
  (F_X1_netOf (x_reckoning S14) x1).bind fun q15 =>
  nm ((x7 + q15) : Int64) fun v16 =>
  if x13 = 0 then
  (J_X4_judged_142 k rc S14 x1 x3 x4 q11.1 v16 x11 x13 q15 q15)
  else
  (nm ((if q15 < x9 then q15 else x9) : Int64) fun v17 =>
  J_X4_judged_142 k rc S14 x1 x3 x4 q11.1 v16 x11 x13 q15 v17))
def F_X4_judged (S : XS) (x1 : Int32) (x2 : Int32) (x3 : Int32) (x4 : Int32) : Option (Int64 × XS) :=
  (F_X4_hasShip S x1).bind fun q1 =>
  if q1 = 0 then
  (J_X4_judged_18 S)
  else
  ((F_X4_within x4 (0 : Int32) (2 : Int32)).bind fun q3 =>
  if q3 = 0 then
  (J_X4_judged_18 S)
  else
  ((F_X4_within x2 (1 : Int32) (2147483646 : Int32)).bind fun q4 =>
  if q4 = 0 then
  (J_X4_judged_44 S)
  else
  ((F_X4_within x3 (1 : Int32) (50 : Int32)).bind fun q6 =>
  if q6 = 0 then
  (J_X4_judged_44 S)
  else
  ((F_X4_accept S).bind fun q7 =>
  (F_X1_take (x_reckoning q7) (x_now q7)).bind fun q8 =>
  nm (xs_reckoning q7 q8 : XS) fun S9 =>
  nm (x2.toInt64 : Int64) fun v10 =>
  lo6 (B_X4_judged_81 x1 x3 x4 (fun S20 z21 z22 z23 => if x4 = 0 then
  (some (z21, S20))
  else
  (if x4 = (1 : Int32) then
  (some (z22, S20))
  else
  (some (z23, S20))))) FU S9 v10 (0 : Int64) (0 : Int64) (0 : Int64) (0 : Int32)))))
def B_X4_all_25 (k : XS → Int64 → Option (Int64 × XS)) (rc : XS → Int64 → Int32 → Option (Int64 × XS)) (S : XS) (x1 : Int64) (x3 : Int32) : Option (Int64 × XS) :=
  if (t_ships (x_now S)) ≤ x3 then
  (k S x1)
  else
  ((F_X1_netOf (x_reckoning S) x3).bind fun q4 =>
  nm ((x1 + q4) : Int64) fun v5 =>
  nm (x3 + 1 : Int32) fun v6 =>
  rc S v5 v6)
def B_X4_all_55 (k : XS → Int64 → Option (Int64 × XS)) (rc : XS → Int64 → Int32 → Option (Int64 × XS)) (S : XS) (x1 : Int64) (x3 : Int32) : Option (Int64 × XS) :=
  if (t_claims (x_now S)) ≤ x3 then
  (k S x1)
  else
  ((F_X1_leftToClaim (x_reckoning S) x3).bind fun q9 =>
  nm ((x1 + q9) : Int64) fun v10 =>
  nm (x3 + 1 : Int32) fun v11 =>
  rc S v10 v11)
def F_X4_all (S : XS) : Option (Int64 × XS) :=
  (F_X4_hasText S).bind fun q1 =>
  if q1 = 0 then
  ((F_X4_nothing S (1 : Int32)).bind fun q14 =>
  some (q14.1, q14.2))
  else
  ((F_X4_accept S).bind fun q2 =>
  (F_X4_reckon q2).bind fun q3 =>
  lo3 (B_X4_all_25 (fun S7 z8 => lo3 (B_X4_all_55 (fun S12 z13 => some (z13, S12))) FU S7 z8 (0 : Int32))) FU q3 (0 : Int64) (0 : Int32))
def F_X4_beginAct (S : XS) : Option (XS) :=
  (F_X4_accept S).bind fun q1 =>
  (ixB (x_nextAct q1) 10).bind fun j2 =>
  (F_X2_copyFrom (x_earlier q1 j2) (x_now q1)).bind fun q3 =>
  nm (xs_earlier q1 (upT (x_earlier q1) j2 q3) : XS) fun S4 =>
  (rmI ((x_nextAct S4) + (1 : Int32)) (10 : Int32)).bind fun v6 =>
  nm (xs_nextAct S4 v6 : XS) fun S7 =>
  nm ((if (10 : Int32) < ((x_undoable S7) + (1 : Int32)) then (10 : Int32) else ((x_undoable S7) + (1 : Int32))) : Int32) fun v8 =>
  nm (xs_undoable S7 v8 : XS) fun S9 =>
  some S9
def J_X4_shift_16 (S : XS) : Option (Int32 × XS) :=
  (F_X4_none S (1 : Int32)).bind fun q2 =>
  some (q2.1, q2.2)
def J_X4_shift_56 (S : XS) : Option (Int32 × XS) :=
  (F_X4_none S (5 : Int32)).bind fun q5 =>
  some (q5.1, q5.2)
def F_X4_shift (S : XS) (x1 : Int32) (x2 : Int32) (x3 : Int32) : Option (Int32 × XS) :=
  (F_X4_hasShip S x1).bind fun q1 =>
  if q1 = 0 then
  (J_X4_shift_16 S)
  else
  ((F_X4_hasShip S x2).bind fun q3 =>
  if q3 = 0 then
  (J_X4_shift_16 S)
  else
  ((F_X4_within x3 (1 : Int32) (10 : Int32)).bind fun q4 =>
  if q4 = 0 then
  ((F_X4_none S (2 : Int32)).bind fun q15 =>
  some (q15.1, q15.2))
  else
  (if x1 = x2 then
  (J_X4_shift_56 S)
  else
  ((F_X2_ofShip (x_now S) x1 (1 : Int32)).bind fun q6 =>
  if x3 ≤ q6 then
  ((F_X4_beginAct S).bind fun q7 =>
  (F_X2_ofShip (x_now q7) x1 (1 : Int32)).bind fun q8 =>
  (F_X2_setShip (x_now q7) x1 (1 : Int32) (q8 - x3)).bind fun q9 =>
  nm (xs_now q7 q9 : XS) fun S10 =>
  (F_X2_ofShip (x_now S10) x2 (1 : Int32)).bind fun q11 =>
  (F_X2_setShip (x_now S10) x2 (1 : Int32) (q11 + x3)).bind fun q12 =>
  nm (xs_now S10 q12 : XS) fun S13 =>
  (F_X2_ofShip (x_now S13) x2 (1 : Int32)).bind fun q14 =>
  some (q14, S13))
  else
  (J_X4_shift_56 S)))))
def J_X4_file_28 (S : XS) : Option (Int32 × XS) :=
  (F_X4_none S (1 : Int32)).bind fun q2 =>
  some (q2.1, q2.2)
def J_X4_file_56 (S : XS) : Option (Int32 × XS) :=
  (F_X4_none S (2 : Int32)).bind fun q5 =>
  some (q5.1, q5.2)
def J_X4_file_34 (S : XS) (x1 : Int32) (x2 : Int32) (x3 : Int32) (x4 : Int32) : Option (Int32 × XS) :=
  (F_X4_within x3 (1 : Int32) (9999999 : Int32)).bind fun q4 =>
  if q4 = 0 then
  (J_X4_file_56 S)
  else
  ((F_X4_within x4 (0 : Int32) (999 : Int32)).bind fun q6 =>
  if q6 = 0 then
  (J_X4_file_56 S)
  else
  (if (t_claims (x_now S)) < (12 : Int32) then
  ((F_X4_beginAct S).bind fun q7 =>
  (F_X2_addClaim (x_now q7) x1 x2 x3 x4).bind fun q8 =>
  nm (xs_now q7 q8 : XS) fun S9 =>
  some (((t_claims (x_now S9)) - (1 : Int32)), S9))
  else
  ((F_X4_none S (3 : Int32)).bind fun q10 =>
  some (q10.1, q10.2))))
def F_X4_file (S : XS) (x1 : Int32) (x2 : Int32) (x3 : Int32) (x4 : Int32) : Option (Int32 × XS) :=
  (F_X4_hasText S).bind fun q1 =>
  if q1 = 0 then
  (J_X4_file_28 S)
  else
  ((F_X4_within x1 (0 : Int32) (2 : Int32)).bind fun q3 =>
  if q3 = 0 then
  (J_X4_file_28 S)
  else
  (if x1 = 0 then
  ((F_X4_hasShip S x2).bind fun q11 =>
  if q11 = 0 then
  (J_X4_file_28 S)
  else
  (J_X4_file_34 S x1 x2 x3 x4))
  else
  (J_X4_file_34 S x1 x2 x3 x4)))
def F_X4_withdraw (S : XS) (x1 : Int32) : Option (Int32 × XS) :=
  (F_X4_hasClaim S x1).bind fun q1 =>
  if q1 = 0 then
  ((F_X4_none S (1 : Int32)).bind fun q5 =>
  some (q5.1, q5.2))
  else
  ((F_X4_beginAct S).bind fun q2 =>
  (F_X2_dropClaim (x_now q2) x1).bind fun q3 =>
  nm (xs_now q2 q3 : XS) fun S4 =>
  some (t_claims (x_now S4), S4))
def J_X4_become_22 (S : XS) : Option (Int32 × XS) :=
  (F_X4_none S (1 : Int32)).bind fun q2 =>
  some (q2.1, q2.2)
def F_X4_become (S : XS) (x1 : Int32) (x2 : Int32) (x3 : Int32) : Option (Int32 × XS) :=
  (F_X4_hasShip S x1).bind fun q1 =>
  if q1 = 0 then
  (J_X4_become_22 S)
  else
  ((F_X4_within x2 (0 : Int32) (5 : Int32)).bind fun q3 =>
  if q3 = 0 then
  (J_X4_become_22 S)
  else
  (if x2 = (1 : Int32) then
  (J_X4_become_22 S)
  else
  ((rdI (sAf 0) x2).bind fun v4 =>
  (rdI (sAf 1) x2).bind fun v5 =>
  (F_X4_within x3 v4 v5).bind fun q6 =>
  if q6 = 0 then
  ((F_X4_none S (2 : Int32)).bind fun q11 =>
  some (q11.1, q11.2))
  else
  ((F_X4_beginAct S).bind fun q7 =>
  (F_X2_ofShip (x_now q7) x1 x2).bind fun q8 =>
  (F_X2_setShip (x_now q7) x1 x2 x3).bind fun q9 =>
  nm (xs_now q7 q9 : XS) fun S10 =>
  some (q8, S10)))))
def J_X4_law_17 (S : XS) : Option (Int32 × XS) :=
  (F_X4_none S (1 : Int32)).bind fun q2 =>
  some (q2.1, q2.2)
def J_X4_law_92 (S : XS) (x1 : Int32) (x2 : Int32) : Option (Int32 × XS) :=
  (F_X4_beginAct S).bind fun q7 =>
  (rdI (t_laws (x_now q7)) x1).bind fun v8 =>
  (wrI (t_laws (x_now q7)) x1 x2).bind fun f9 =>
  nm (xs_now q7 (ts_laws (x_now q7) f9) : XS) fun S10 =>
  some (v8, S10)
def J_X4_law_86 (S : XS) : Option (Int32 × XS) :=
  (F_X4_none S (5 : Int32)).bind fun q12 =>
  some (q12.1, q12.2)
def J_X4_law_66 (S : XS) (x1 : Int32) (x2 : Int32) : Option (Int32 × XS) :=
  if x1 = (9 : Int32) then
  ((rdI (t_laws (x_now S)) (8 : Int32)).bind fun v11 =>
  if v11 ≤ x2 then
  (J_X4_law_92 S x1 x2)
  else
  (J_X4_law_86 S))
  else
  (J_X4_law_92 S x1 x2)
def F_X4_law (S : XS) (x1 : Int32) (x2 : Int32) : Option (Int32 × XS) :=
  (F_X4_hasText S).bind fun q1 =>
  if q1 = 0 then
  (J_X4_law_17 S)
  else
  ((F_X4_within x1 (2 : Int32) (9 : Int32)).bind fun q3 =>
  if q3 = 0 then
  (J_X4_law_17 S)
  else
  ((rdI (sAf 2) x1).bind fun v4 =>
  (rdI (sAf 3) x1).bind fun v5 =>
  (F_X4_within x2 v4 v5).bind fun q6 =>
  if q6 = 0 then
  ((F_X4_none S (2 : Int32)).bind fun q14 =>
  some (q14.1, q14.2))
  else
  (if x1 = (8 : Int32) then
  ((rdI (t_laws (x_now S)) (9 : Int32)).bind fun v13 =>
  if v13 < x2 then
  (J_X4_law_86 S)
  else
  (J_X4_law_66 S x1 x2))
  else
  (J_X4_law_66 S x1 x2))))
def F_X4_undo (S : XS) : Option (Int32 × XS) :=
  (F_X4_hasText S).bind fun q1 =>
  if q1 = 0 then
  ((F_X4_none S (1 : Int32)).bind fun q10 =>
  some (q10.1, q10.2))
  else
  (if (x_undoable S) = 0 then
  ((F_X4_none S (5 : Int32)).bind fun q9 =>
  some (q9.1, q9.2))
  else
  ((F_X4_accept S).bind fun q2 =>
  (rmI (((x_nextAct q2) + (10 : Int32)) - (1 : Int32)) (10 : Int32)).bind fun v3 =>
  nm (xs_nextAct q2 v3 : XS) fun S4 =>
  nm (xs_undoable S4 ((x_undoable S4) - (1 : Int32)) : XS) fun S5 =>
  (ixB (x_nextAct S5) 10).bind fun j6 =>
  (F_X2_copyFrom (x_now S5) (x_earlier S5 j6)).bind fun q7 =>
  nm (xs_now S5 q7 : XS) fun S8 =>
  some (x_undoable S8, S8)))
def J_X4_image_16 (S : XS) : Option (Int32 × XS) :=
  (F_X4_refuse S (1 : Int32)).bind fun q2 =>
  zz q2.1 <|
  some (q2.1, q2.2)
def F_X4_image (S : XS) (x1 : Int32) : Option (Int32 × XS) :=
  (F_X4_hasText S).bind fun q1 =>
  if q1 = 0 then
  (J_X4_image_16 S)
  else
  ((F_X4_within x1 (0 : Int32) (1 : Int32)).bind fun q3 =>
  if q3 = 0 then
  (J_X4_image_16 S)
  else
  ((F_X4_accept S).bind fun q4 =>
  (ixB x1 2).bind fun j5 =>
  (F_X2_copyFrom (x_images q4 j5) (x_now q4)).bind fun q6 =>
  nm (xs_images q4 (upT (x_images q4) j5 q6) : XS) fun S7 =>
  (wrI (x_kept S7) x1 (1 : Int32)).bind fun f9 =>
  nm (xs_kept S7 f9 : XS) fun S10 =>
  some ((1 : Int32), S10)))
def J_X4_again_18 (S : XS) : Option (Int32 × XS) :=
  (F_X4_refuse S (1 : Int32)).bind fun q2 =>
  zz q2.1 <|
  some (q2.1, q2.2)
def F_X4_again (S : XS) (x1 : Int32) : Option (Int32 × XS) :=
  (F_X4_within x1 (0 : Int32) (1 : Int32)).bind fun q1 =>
  if q1 = 0 then
  (J_X4_again_18 S)
  else
  ((rdI (x_kept S) x1).bind fun v3 =>
  if v3 = 0 then
  (J_X4_again_18 S)
  else
  ((F_X4_accept S).bind fun q4 =>
  (ixB x1 2).bind fun j5 =>
  (F_X2_copyFrom (x_now q4) (x_images q4 j5)).bind fun q6 =>
  nm (xs_now q4 q6 : XS) fun S7 =>
  (F_X4_forgetActs S7).bind fun q8 =>
  some ((1 : Int32), q8)))
def F_X4_size (S : XS) : Option (Int32) :=
  some (x_tapeLength S)
def F_X4_trouble (S : XS) : Option (Int32) :=
  some (x_latestTrouble S)
def F_X5_thrown (S : MS) : Option (Int32) :=
  some (m_thrown S)
def F_X5_in (x0 : Int64) (x2 : Int64) (x4 : Int64) : Option (Int32) :=
  if (lg_cmp x0 x2) < 0 then
  (some (0 : Int32))
  else
  (if 0 < (lg_cmp x0 x4) then
  (some (0 : Int32))
  else
  (some (1 : Int32)))
def F_X5_lesser (x0 : Int64) (x2 : Int64) : Option (Int64) :=
  if 0 ≤ (lg_cmp x0 x2) then
  (some x2)
  else
  (some x0)
def F_X5_greater (x0 : Int64) (x2 : Int64) : Option (Int64) :=
  if (lg_cmp x0 x2) ≤ 0 then
  (some x2)
  else
  (some x0)
def F_X5_begins (S : MS) : Option (MS) :=
  nm (ms_thrown S (0 : Int32) : MS) fun S1 =>
  nm (ms_trouble S1 (0 : Int32) : MS) fun S2 =>
  nm (ms_place S2 (-1 : Int32) : MS) fun S3 =>
  some S3
def J_X5_refuse_16 (S : MS) : Option (Int32 × MS) :=
  if (m_trouble S) = 0 then
  (some ((0 : Int32), S))
  else
  (some ((1 : Int32), S))
def F_X5_refuse (S : MS) (x1 : Int32) (x2 : Int32) : Option (Int32 × MS) :=
  if (m_trouble S) = 0 then
  (if x1 = 0 then
  (J_X5_refuse_16 S)
  else
  (nm (ms_trouble S x2 : MS) fun S1 =>
  J_X5_refuse_16 S1))
  else
  (J_X5_refuse_16 S)
def J_X5_feed_76 (k : MS → Option (Int32 × MS)) (rc : MS → Int32 → Option (Int32 × MS)) (S : MS) (x1 : Int32) (x2 : Int32) (x3 : Int32) (x4 : Int32) (x5 : Int32) (x6 : Int32) (y0 : Int32) : Option (Int32 × MS) :=
  (rmI x6 (4 : Int32)).bind fun v2 =>
  (wrI (m_tape S) ((m_taped S) + x6) ((y0 >>> (((24 : Int32) - ((8 : Int32) * v2)) &&& 31)) &&& (255 : Int32))).bind fun f3 =>
  nm (ms_tape S f3 : MS) fun S4 =>
  nm (x6 + 1 : Int32) fun v5 =>
  rc S4 v5
def B_X5_feed_23 (x1 : Int32) (x2 : Int32) (x3 : Int32) (x4 : Int32) (x5 : Int32) (k : MS → Option (Int32 × MS)) (rc : MS → Int32 → Option (Int32 × MS)) (S : MS) (x6 : Int32) : Option (Int32 × MS) :=
  if (20 : Int32) ≤ x6 then
  (k S)
  else
  (if (4 : Int32) ≤ x6 then
  (if (8 : Int32) ≤ x6 then
  (if (12 : Int32) ≤ x6 then
  (if (16 : Int32) ≤ x6 then
  (J_X5_feed_76 k rc S x1 x2 x3 x4 x5 x6 x5)
  else
  (J_X5_feed_76 k rc S x1 x2 x3 x4 x5 x6 x4))
  else
  (J_X5_feed_76 k rc S x1 x2 x3 x4 x5 x6 x3))
  else
  (J_X5_feed_76 k rc S x1 x2 x3 x4 x5 x6 x2))
  else
  (J_X5_feed_76 k rc S x1 x2 x3 x4 x5 x6 x1))
def F_X5_feed (S : MS) (x1 : Int32) (x2 : Int32) (x3 : Int32) (x4 : Int32) (x5 : Int32) : Option (Int32 × MS) :=
  nm (ms_thrown S (0 : Int32) : MS) fun S1 =>
  if ((m_taped S1) + (20 : Int32)) ≤ (600 : Int32) then
  (lo2 (B_X5_feed_23 x1 x2 x3 x4 x5 (fun S6 => nm (ms_taped S6 ((m_taped S6) + (20 : Int32)) : MS) fun S7 =>
  some (m_taped S7, S7))) FU S1 (0 : Int32))
  else
  (some ((-1 : Int32), S1))
def F_X5_size (S : MS) : Option (Int32 × MS) :=
  nm (ms_thrown S (0 : Int32) : MS) fun S1 =>
  some (m_taped S1, S1)
def F_X5_seen (S : MS) (x1 : Int32) : Option (Int32) :=
  if (m_length S) ≤ x1 then
  (some (-1 : Int32))
  else
  ((rdI (m_tape S) x1).bind fun v1 =>
  some v1)
def F_X5_isLetter (x0 : Int32) : Option (Int32) :=
  if x0 < (97 : Int32) then
  (some (0 : Int32))
  else
  (if (122 : Int32) < x0 then
  (some (0 : Int32))
  else
  (some (1 : Int32)))
def F_X5_isDigit (x0 : Int32) : Option (Int32) :=
  if x0 < (48 : Int32) then
  (some (0 : Int32))
  else
  (if (57 : Int32) < x0 then
  (some (0 : Int32))
  else
  (some (1 : Int32)))
def B_X5_token_0 (k : MS → Option (MS)) (rc : MS → Option (MS)) (S : MS) : Option (MS) :=
  (F_X5_seen S (m_next S)).bind fun q1 =>
  if q1 = (32 : Int32) then
  (nm (ms_next S ((m_next S) + (1 : Int32)) : MS) fun S2 =>
  rc S2)
  else
  (k S)
def J_X5_token_288 (S : MS) (y0 : Int32) : Option (MS) :=
  nm (ms_sort S y0 : MS) fun S9 =>
  nm (ms_next S9 ((m_next S9) + (1 : Int32)) : MS) fun S10 =>
  some S10
def J_X5_token_229 (k : MS → Option (MS)) (rc : MS → Option (MS)) (S : MS) (y0 : Int32) : Option (MS) :=
  nm (ms_number S y0 : MS) fun S14 =>
  nm (ms_next S14 ((m_next S14) + (1 : Int32)) : MS) fun S15 =>
  nm (ms_many S15 ((m_many S15) + (1 : Int32)) : MS) fun S16 =>
  rc S16
def B_X5_token_182 (k : MS → Option (MS)) (rc : MS → Option (MS)) (S : MS) : Option (MS) :=
  (F_X5_seen S (m_next S)).bind fun q12 =>
  (F_X5_isDigit q12).bind fun q13 =>
  if q13 = 0 then
  (k S)
  else
  (if (7 : Int32) ≤ (m_many S) then
  (J_X5_token_229 k rc S (0 : Int32))
  else
  ((F_X5_seen S (m_next S)).bind fun q17 =>
  J_X5_token_229 k rc S ((((10 : Int32) * (m_number S)) + q17) - (48 : Int32))))
def J_X5_token_270 (S : MS) (y0 : Int32) : Option (MS) :=
  nm (ms_sort S y0 : MS) fun S19 =>
  some S19
def J_X5_token_123 (k : MS → Option (MS)) (rc : MS → Option (MS)) (S : MS) (y0 : Int64) : Option (MS) :=
  nm (ms_word S y0 : MS) fun S23 =>
  nm (ms_next S23 ((m_next S23) + (1 : Int32)) : MS) fun S24 =>
  nm (ms_many S24 ((m_many S24) + (1 : Int32)) : MS) fun S25 =>
  rc S25
def B_X5_token_73 (k : MS → Option (MS)) (rc : MS → Option (MS)) (S : MS) : Option (MS) :=
  (F_X5_seen S (m_next S)).bind fun q21 =>
  (F_X5_isLetter q21).bind fun q22 =>
  if q22 = 0 then
  (k S)
  else
  (if (7 : Int32) ≤ (m_many S) then
  (J_X5_token_123 k rc S (0 : Int64))
  else
  ((F_X5_seen S (m_next S)).bind fun q26 =>
  J_X5_token_123 k rc S ((((32 : Int64) * (m_word S)) + q26.toInt64) - (96 : Int64))))
def J_X5_token_164 (S : MS) (y0 : Int32) : Option (MS) :=
  nm (ms_sort S y0 : MS) fun S28 =>
  some S28
def F_X5_token (S : MS) : Option (MS) :=
  lo1 (B_X5_token_0 (fun S3 => nm (ms_from S3 (m_next S3) : MS) fun S4 =>
  nm (ms_many S4 (0 : Int32) : MS) fun S5 =>
  (F_X5_seen S5 (m_next S5)).bind fun q6 =>
  if q6 = (-1 : Int32) then
  (nm (ms_sort S5 (0 : Int32) : MS) fun S29 =>
  some S29)
  else
  ((F_X5_isLetter q6).bind fun q7 =>
  if q7 = 0 then
  ((F_X5_isDigit q6).bind fun q8 =>
  if q8 = 0 then
  (if q6 = (59 : Int32) then
  (J_X5_token_288 S5 (3 : Int32))
  else
  (J_X5_token_288 S5 (4 : Int32)))
  else
  (nm (ms_number S5 (0 : Int32) : MS) fun S11 =>
  lo1 (B_X5_token_182 (fun S18 => if (m_many S18) ≤ (7 : Int32) then
  (J_X5_token_270 S18 (2 : Int32))
  else
  (J_X5_token_270 S18 (4 : Int32)))) FU S11))
  else
  (nm (ms_word S5 (0 : Int64) : MS) fun S20 =>
  lo1 (B_X5_token_73 (fun S27 => if (m_many S27) ≤ (7 : Int32) then
  (J_X5_token_164 S27 (1 : Int32))
  else
  (J_X5_token_164 S27 (4 : Int32)))) FU S20)))) FU S
def F_X5_fails (S : MS) (x1 : Int32) : Option (MS) :=
  if (m_wrong S) = 0 then
  (nm (ms_wrong S x1 : MS) fun S1 =>
  nm (ms_wrongAt S1 (m_from S1) : MS) fun S2 =>
  some S2)
  else
  (some S)
def F_X5_goesOn (S : MS) : Option (MS) :=
  if (m_wrong S) = 0 then
  ((F_X5_token S).bind fun q1 =>
  some q1)
  else
  (some S)
def J_X5_spelled_88 (x6 : Int32) (y0 : Int64) : Option (Int64) :=
  if x6 = 0 then
  (some y0)
  else
  (some (((32 : Int64) * y0) + x6.toInt64))
def J_X5_spelled_66 (x5 : Int32) (x6 : Int32) (y0 : Int64) : Option (Int64) :=
  if x5 = 0 then
  (J_X5_spelled_88 x6 y0)
  else
  (J_X5_spelled_88 x6 (((32 : Int64) * y0) + x5.toInt64))
def J_X5_spelled_44 (x4 : Int32) (x5 : Int32) (x6 : Int32) (y0 : Int64) : Option (Int64) :=
  if x4 = 0 then
  (J_X5_spelled_66 x5 x6 y0)
  else
  (J_X5_spelled_66 x5 x6 (((32 : Int64) * y0) + x4.toInt64))
def F_X5_spelled (x0 : Int32) (x1 : Int32) (x2 : Int32) (x3 : Int32) (x4 : Int32) (x5 : Int32) (x6 : Int32) : Option (Int64) :=
  nm (x0.toInt64 : Int64) fun v1 =>
  nm ((((32 : Int64) * v1) + x1.toInt64) : Int64) fun v2 =>
  nm ((((32 : Int64) * v2) + x2.toInt64) : Int64) fun v3 =>
  if x3 = 0 then
  (J_X5_spelled_44 x4 x5 x6 v3)
  else
  (J_X5_spelled_44 x4 x5 x6 (((32 : Int64) * v3) + x3.toInt64))
def F_X5_isWord (S : MS) (x1 : Int64) : Option (Int32) :=
  if (m_wrong S) = 0 then
  (if (m_sort S) = (1 : Int32) then
  (if (lg_cmp (m_word S) x1) = 0 then
  (some (1 : Int32))
  else
  (some (0 : Int32)))
  else
  (some (0 : Int32)))
  else
  (some (0 : Int32))
def F_X5_shipWord : Option (Int64) :=
  (F_X5_spelled (19 : Int32) (8 : Int32) (9 : Int32) (16 : Int32) (0 : Int32) (0 : Int32) (0 : Int32)).bind fun q1 =>
  some q1
def F_X5_tonsWord : Option (Int64) :=
  (F_X5_spelled (20 : Int32) (15 : Int32) (14 : Int32) (19 : Int32) (0 : Int32) (0 : Int32) (0 : Int32)).bind fun q1 =>
  some q1
def F_X5_faultWord : Option (Int64) :=
  (F_X5_spelled (6 : Int32) (1 : Int32) (21 : Int32) (12 : Int32) (20 : Int32) (0 : Int32) (0 : Int32)).bind fun q1 =>
  some q1
def F_X5_hullWord : Option (Int64) :=
  (F_X5_spelled (8 : Int32) (21 : Int32) (12 : Int32) (12 : Int32) (0 : Int32) (0 : Int32) (0 : Int32)).bind fun q1 =>
  some q1
def F_X5_valueWord : Option (Int64) :=
  (F_X5_spelled (22 : Int32) (1 : Int32) (12 : Int32) (21 : Int32) (5 : Int32) (0 : Int32) (0 : Int32)).bind fun q1 =>
  some q1
def F_X5_clauseWord : Option (Int64) :=
  (F_X5_spelled (3 : Int32) (12 : Int32) (1 : Int32) (21 : Int32) (19 : Int32) (5 : Int32) (0 : Int32)).bind fun q1 =>
  some q1
def F_X5_barredWord : Option (Int64) :=
  (F_X5_spelled (2 : Int32) (1 : Int32) (18 : Int32) (18 : Int32) (5 : Int32) (4 : Int32) (0 : Int32)).bind fun q1 =>
  some q1
def F_X5_goodsWord : Option (Int64) :=
  (F_X5_spelled (7 : Int32) (15 : Int32) (15 : Int32) (4 : Int32) (19 : Int32) (0 : Int32) (0 : Int32)).bind fun q1 =>
  some q1
def F_X5_personsWord : Option (Int64) :=
  (F_X5_spelled (16 : Int32) (5 : Int32) (18 : Int32) (19 : Int32) (15 : Int32) (14 : Int32) (19 : Int32)).bind fun q1 =>
  some q1
def F_X5_othersWord : Option (Int64) :=
  (F_X5_spelled (15 : Int32) (20 : Int32) (8 : Int32) (5 : Int32) (18 : Int32) (19 : Int32) (0 : Int32)).bind fun q1 =>
  some q1
def F_X5_dayWord : Option (Int64) :=
  (F_X5_spelled (4 : Int32) (1 : Int32) (25 : Int32) (0 : Int32) (0 : Int32) (0 : Int32) (0 : Int32)).bind fun q1 =>
  some q1
def F_X5_aboutWord (x0 : Int32) : Option (Int64) :=
  if x0 = (2 : Int32) then
  ((F_X5_spelled (5 : Int32) (17 : Int32) (21 : Int32) (1 : Int32) (12 : Int32) (0 : Int32) (0 : Int32)).bind fun q2 =>
  some q2)
  else
  if x0 = (3 : Int32) then
  ((F_X5_spelled (23 : Int32) (8 : Int32) (15 : Int32) (12 : Int32) (5 : Int32) (0 : Int32) (0 : Int32)).bind fun q3 =>
  some q3)
  else
  if x0 = (4 : Int32) then
  ((F_X5_spelled (3 : Int32) (18 : Int32) (15 : Int32) (19 : Int32) (19 : Int32) (0 : Int32) (0 : Int32)).bind fun q4 =>
  some q4)
  else
  if x0 = (5 : Int32) then
  ((F_X5_spelled (18 : Int32) (1 : Int32) (20 : Int32) (5 : Int32) (0 : Int32) (0 : Int32) (0 : Int32)).bind fun q5 =>
  some q5)
  else
  if x0 = (6 : Int32) then
  ((F_X5_spelled (12 : Int32) (9 : Int32) (22 : Int32) (5 : Int32) (19 : Int32) (0 : Int32) (0 : Int32)).bind fun q6 =>
  some q6)
  else
  if x0 = (7 : Int32) then
  ((F_X5_spelled (12 : Int32) (5 : Int32) (1 : Int32) (19 : Int32) (20 : Int32) (0 : Int32) (0 : Int32)).bind fun q7 =>
  some q7)
  else
  if x0 = (8 : Int32) then
  ((F_X5_spelled (4 : Int32) (21 : Int32) (5 : Int32) (0 : Int32) (0 : Int32) (0 : Int32) (0 : Int32)).bind fun q8 =>
  some q8)
  else
  ((F_X5_spelled (12 : Int32) (1 : Int32) (19 : Int32) (20 : Int32) (0 : Int32) (0 : Int32) (0 : Int32)).bind fun q9 =>
  some q9)
def B_X5_aboutHere_2 (S : MS) (k : Unit → Option (Int32)) (rc : Int32 → Option (Int32)) (x1 : Int32) : Option (Int32) :=
  if (9 : Int32) < x1 then
  (k ())
  else
  ((F_X5_aboutWord x1).bind fun q1 =>
  (F_X5_isWord S q1).bind fun q2 =>
  if q2 = 0 then
  (nm (x1 + 1 : Int32) fun v3 =>
  rc v3)
  else
  (some x1))
def F_X5_aboutHere (S : MS) : Option (Int32) :=
  lo1 (B_X5_aboutHere_2 S (fun _u => some (-1 : Int32))) FU (2 : Int32)
def F_X5_isName (S : MS) : Option (Int32) :=
  if (m_wrong S) = 0 then
  (if (m_sort S) = (1 : Int32) then
  (if (6 : Int32) < (m_many S) then
  (some (0 : Int32))
  else
  ((F_X5_aboutHere S).bind fun q1 =>
  if q1 = (-1 : Int32) then
  ((F_X5_shipWord).bind fun q2 =>
  (F_X5_isWord S q2).bind fun q3 =>
  if q3 = 0 then
  ((F_X5_tonsWord).bind fun q4 =>
  (F_X5_isWord S q4).bind fun q5 =>
  if q5 = 0 then
  ((F_X5_faultWord).bind fun q6 =>
  (F_X5_isWord S q6).bind fun q7 =>
  if q7 = 0 then
  ((F_X5_hullWord).bind fun q8 =>
  (F_X5_isWord S q8).bind fun q9 =>
  if q9 = 0 then
  ((F_X5_valueWord).bind fun q10 =>
  (F_X5_isWord S q10).bind fun q11 =>
  if q11 = 0 then
  ((F_X5_clauseWord).bind fun q12 =>
  (F_X5_isWord S q12).bind fun q13 =>
  if q13 = 0 then
  ((F_X5_barredWord).bind fun q14 =>
  (F_X5_isWord S q14).bind fun q15 =>
  if q15 = 0 then
  ((F_X5_goodsWord).bind fun q16 =>
  (F_X5_isWord S q16).bind fun q17 =>
  if q17 = 0 then
  ((F_X5_othersWord).bind fun q18 =>
  (F_X5_isWord S q18).bind fun q19 =>
  if q19 = 0 then
  ((F_X5_dayWord).bind fun q20 =>
  (F_X5_isWord S q20).bind fun q21 =>
  if q21 = 0 then
  (some (1 : Int32))
  else
  (some (0 : Int32)))
  else
  (some (0 : Int32)))
  else
  (some (0 : Int32)))
  else
  (some (0 : Int32)))
  else
  (some (0 : Int32)))
  else
  (some (0 : Int32)))
  else
  (some (0 : Int32)))
  else
  (some (0 : Int32)))
  else
  (some (0 : Int32)))
  else
  (some (0 : Int32)))
  else
  (some (0 : Int32))))
  else
  (some (0 : Int32)))
  else
  (some (0 : Int32))
def B_X5_shipNamed_2 (S : MS) (k : Unit → Option (Int32)) (rc : Int32 → Option (Int32)) (x1 : Int32) : Option (Int32) :=
  (rdI (m_read S) (0 : Int32)).bind fun v1 =>
  if v1 ≤ x1 then
  (k ())
  else
  ((rdL (m_readNames S) x1).bind fun v2 =>
  if (lg_cmp v2 (m_word S)) = 0 then
  (some x1)
  else
  (nm (x1 + 1 : Int32) fun v3 =>
  rc v3))
def F_X5_shipNamed (S : MS) : Option (Int32) :=
  lo1 (B_X5_shipNamed_2 S (fun _u => some (-1 : Int32))) FU (0 : Int32)
def J_X5_takes_13 (S : MS) : Option (MS) :=
  (F_X5_goesOn S).bind fun q2 =>
  some q2
def F_X5_takes (S : MS) (x1 : Int64) : Option (MS) :=
  (F_X5_isWord S x1).bind fun q1 =>
  if q1 = 0 then
  ((F_X5_fails S (1 : Int32)).bind fun q3 =>
  J_X5_takes_13 q3)
  else
  (J_X5_takes_13 S)
def J_X5_whole_36 (S : MS) : Option (Int32 × MS) :=
  nm (m_number S : Int32) fun v2 =>
  (F_X5_goesOn S).bind fun q3 =>
  some (v2, q3)
def F_X5_whole (S : MS) (x1 : Int32) (x2 : Int32) : Option (Int32 × MS) :=
  if (m_sort S) = (2 : Int32) then
  ((F_X5_in ((m_number S).toInt64) x1.toInt64 x2.toInt64).bind fun q1 =>
  if q1 = 0 then
  ((F_X5_fails S (2 : Int32)).bind fun q4 =>
  J_X5_whole_36 q4)
  else
  (J_X5_whole_36 S))
  else
  ((F_X5_fails S (1 : Int32)).bind fun q5 =>
  J_X5_whole_36 q5)
def J_X5_shipLine_245 (S : MS) : Option (MS) :=
  (rdI (m_read S) (0 : Int32)).bind fun v39 =>
  (wrI (m_read S) (0 : Int32) (v39 + (1 : Int32))).bind fun f40 =>
  nm (ms_read S f40 : MS) fun S41 =>
  some S41
def J_X5_shipLine_228 (S : MS) (x2 : Int32) (y0 : Int32) (y1 : Int32) : Option (MS) :=
  (wrI (m_read S) y1 y0).bind fun f36 =>
  nm (ms_read S f36 : MS) fun S37 =>
  (rdI (m_read S37) (x2 + (5 : Int32))).bind fun v38 =>
  if v38 = (1 : Int32) then
  ((F_X5_token S37).bind fun q42 =>
  J_X5_shipLine_245 q42)
  else
  (J_X5_shipLine_245 S37)
def J_X5_shipLine_206 (S : MS) (x2 : Int32) : Option (MS) :=
  (F_X5_barredWord).bind fun q34 =>
  (F_X5_isWord S q34).bind fun q35 =>
  if q35 = 0 then
  (J_X5_shipLine_228 S x2 (0 : Int32) (x2 + (5 : Int32)))
  else
  (J_X5_shipLine_228 S x2 (1 : Int32) (x2 + (5 : Int32)))
def J_X5_shipLine_189 (S : MS) (x2 : Int32) (y0 : Int32) (y1 : Int32) : Option (MS) :=
  (wrI (m_read S) y1 y0).bind fun f31 =>
  nm (ms_read S f31 : MS) fun S32 =>
  (rdI (m_read S32) (x2 + (4 : Int32))).bind fun v33 =>
  if v33 = (1 : Int32) then
  ((F_X5_token S32).bind fun q43 =>
  J_X5_shipLine_206 q43 x2)
  else
  (J_X5_shipLine_206 S32 x2)
def J_X5_shipLine_49 (S : MS) (x1 : Int32) : Option (MS) :=
  if (m_wrong S) = 0 then
  ((wrL (m_readNames S) x1 (m_word S)).bind fun f5 =>
  nm (ms_readNames S f5 : MS) fun S6 =>
  nm (((10 : Int32) + ((6 : Int32) * x1)) : Int32) fun v7 =>
  (F_X5_token S6).bind fun q8 =>
  (F_X5_tonsWord).bind fun q9 =>
  (F_X5_takes q8 q9).bind fun q10 =>
  (F_X5_whole q10 (1 : Int32) (99999 : Int32)).bind fun q11 =>
  (wrI (m_read q11.2) (v7 + (0 : Int32)) q11.1).bind fun f12 =>
  nm (ms_read q11.2 f12 : MS) fun S13 =>
  (F_X5_faultWord).bind fun q14 =>
  (F_X5_takes S13 q14).bind fun q15 =>
  (F_X5_whole q15 (0 : Int32) (10 : Int32)).bind fun q16 =>
  (wrI (m_read q16.2) (v7 + (1 : Int32)) q16.1).bind fun f17 =>
  nm (ms_read q16.2 f17 : MS) fun S18 =>
  (F_X5_hullWord).bind fun q19 =>
  (F_X5_takes S18 q19).bind fun q20 =>
  (F_X5_whole q20 (0 : Int32) (9999999 : Int32)).bind fun q21 =>
  (wrI (m_read q21.2) (v7 + (2 : Int32)) q21.1).bind fun f22 =>
  nm (ms_read q21.2 f22 : MS) fun S23 =>
  (F_X5_valueWord).bind fun q24 =>
  (F_X5_takes S23 q24).bind fun q25 =>
  (F_X5_whole q25 (0 : Int32) (9999999 : Int32)).bind fun q26 =>
  (wrI (m_read q26.2) (v7 + (3 : Int32)) q26.1).bind fun f27 =>
  nm (ms_read q26.2 f27 : MS) fun S28 =>
  (F_X5_clauseWord).bind fun q29 =>
  (F_X5_isWord S28 q29).bind fun q30 =>
  if q30 = 0 then
  (J_X5_shipLine_189 S28 v7 (0 : Int32) (v7 + (4 : Int32)))
  else
  (J_X5_shipLine_189 S28 v7 (1 : Int32) (v7 + (4 : Int32))))
  else
  (some S)
def J_X5_shipLine_17 (S : MS) (x1 : Int32) : Option (MS) :=
  (F_X5_goesOn S).bind fun q2 =>
  (F_X5_isName q2).bind fun q3 =>
  if q3 = 0 then
  ((F_X5_fails q2 (1 : Int32)).bind fun q45 =>
  J_X5_shipLine_49 q45 x1)
  else
  ((F_X5_shipNamed q2).bind fun q4 =>
  if q4 = (-1 : Int32) then
  (J_X5_shipLine_49 q2 x1)
  else
  ((F_X5_fails q2 (3 : Int32)).bind fun q44 =>
  J_X5_shipLine_49 q44 x1))
def F_X5_shipLine (S : MS) : Option (MS) :=
  (rdI (m_read S) (0 : Int32)).bind fun v1 =>
  if v1 = (4 : Int32) then
  ((F_X5_fails S (4 : Int32)).bind fun q46 =>
  J_X5_shipLine_17 q46 v1)
  else
  (J_X5_shipLine_17 S v1)
def J_X5_claimLine_104 (S : MS) (x3 : Int32) : Option (MS) :=
  (F_X5_whole S (1 : Int32) (9999999 : Int32)).bind fun q8 =>
  (wrI (m_read q8.2) (x3 + (2 : Int32)) q8.1).bind fun f9 =>
  nm (ms_read q8.2 f9 : MS) fun S10 =>
  (F_X5_dayWord).bind fun q11 =>
  (F_X5_takes S10 q11).bind fun q12 =>
  (F_X5_whole q12 (0 : Int32) (999 : Int32)).bind fun q13 =>
  (wrI (m_read q13.2) (x3 + (3 : Int32)) q13.1).bind fun f14 =>
  nm (ms_read q13.2 f14 : MS) fun S15 =>
  (rdI (m_read S15) (1 : Int32)).bind fun v16 =>
  (wrI (m_read S15) (1 : Int32) (v16 + (1 : Int32))).bind fun f17 =>
  nm (ms_read S15 f17 : MS) fun S18 =>
  some S18
def J_X5_claimLine_88 (S : MS) (x3 : Int32) : Option (MS) :=
  (F_X5_shipNamed S).bind fun q21 =>
  (wrI (m_read S) (x3 + (1 : Int32)) q21).bind fun f22 =>
  nm (ms_read S f22 : MS) fun S23 =>
  (F_X5_goesOn S23).bind fun q24 =>
  J_X5_claimLine_104 q24 x3
def J_X5_claimLine_18 (S : MS) (x1 : Int32) (x2 : Int32) : Option (MS) :=
  (F_X5_goesOn S).bind fun q2 =>
  if (m_wrong q2) = 0 then
  (nm (((34 : Int32) + ((4 : Int32) * x2)) : Int32) fun v3 =>
  (wrI (m_read q2) (v3 + (0 : Int32)) x1).bind fun f4 =>
  nm (ms_read q2 f4 : MS) fun S5 =>
  (wrI (m_read S5) (v3 + (1 : Int32)) (-2 : Int32)).bind fun f6 =>
  nm (ms_read S5 f6 : MS) fun S7 =>
  if x1 = 0 then
  ((F_X5_isName S7).bind fun q19 =>
  if q19 = 0 then
  ((F_X5_fails S7 (1 : Int32)).bind fun q26 =>
  J_X5_claimLine_88 q26 v3)
  else
  ((F_X5_shipNamed S7).bind fun q20 =>
  if q20 = (-1 : Int32) then
  ((F_X5_fails S7 (3 : Int32)).bind fun q25 =>
  J_X5_claimLine_88 q25 v3)
  else
  (J_X5_claimLine_88 S7 v3)))
  else
  (J_X5_claimLine_104 S7 v3))
  else
  (some q2)
def F_X5_claimLine (S : MS) (x1 : Int32) : Option (MS) :=
  (rdI (m_read S) (1 : Int32)).bind fun v1 =>
  if v1 = (12 : Int32) then
  ((F_X5_fails S (4 : Int32)).bind fun q27 =>
  J_X5_claimLine_18 q27 x1 v1)
  else
  (J_X5_claimLine_18 S x1 v1)
def F_X5_lowOf (x0 : Int32) : Option (Int32) :=
  if x0 = (7 : Int32) then
  (some (1 : Int32))
  else
  (some (0 : Int32))
def F_X5_highOf (x0 : Int32) : Option (Int32) :=
  if (5 : Int32) ≤ x0 then
  (if (8 : Int32) ≤ x0 then
  (some (999 : Int32))
  else
  (some (99999 : Int32)))
  else
  (some (1 : Int32))
def J_X5_aboutLine_67 (S : MS) (y0 : Int32) (y1 : Int32) : Option (MS) :=
  (wrI (m_read S) y1 y0).bind fun f6 =>
  nm (ms_read S f6 : MS) fun S7 =>
  some S7
def J_X5_aboutLine_17 (S : MS) (x1 : Int32) : Option (MS) :=
  nm (ms_toldOnce S ((m_toldOnce S) ||| ((1 : Int32) <<< (x1 &&& 31))) : MS) fun S1 =>
  (F_X5_goesOn S1).bind fun q2 =>
  if (m_wrong q2) = 0 then
  (if (5 : Int32) ≤ x1 then
  ((F_X5_lowOf x1).bind fun q3 =>
  (F_X5_highOf x1).bind fun q4 =>
  (F_X5_whole q2 q3 q4).bind fun q5 =>
  J_X5_aboutLine_67 q5.2 q5.1 x1)
  else
  (J_X5_aboutLine_67 q2 (1 : Int32) x1))
  else
  (some q2)
def F_X5_aboutLine (S : MS) (x1 : Int32) : Option (MS) :=
  if (((m_toldOnce S) >>> (x1 &&& 31)) &&& (1 : Int32)) = (1 : Int32) then
  ((F_X5_fails S (3 : Int32)).bind fun q8 =>
  J_X5_aboutLine_17 q8 x1)
  else
  (J_X5_aboutLine_17 S x1)
def F_X5_line (S : MS) : Option (MS) :=
  (F_X5_aboutHere S).bind fun q1 =>
  (F_X5_shipWord).bind fun q2 =>
  (F_X5_isWord S q2).bind fun q3 =>
  if q3 = 0 then
  ((F_X5_goodsWord).bind fun q4 =>
  (F_X5_isWord S q4).bind fun q5 =>
  if q5 = 0 then
  ((F_X5_personsWord).bind fun q6 =>
  (F_X5_isWord S q6).bind fun q7 =>
  if q7 = 0 then
  ((F_X5_othersWord).bind fun q8 =>
  (F_X5_isWord S q8).bind fun q9 =>
  if q9 = 0 then
  (if q1 = (-1 : Int32) then
  ((F_X5_fails S (1 : Int32)).bind fun q10 =>
  some q10)
  else
  ((F_X5_aboutLine S q1).bind fun q11 =>
  some q11))
  else
  ((F_X5_claimLine S (2 : Int32)).bind fun q12 =>
  some q12))
  else
  ((F_X5_claimLine S (1 : Int32)).bind fun q13 =>
  some q13))
  else
  ((F_X5_claimLine S (0 : Int32)).bind fun q14 =>
  some q14))
  else
  ((F_X5_shipLine S).bind fun q15 =>
  some q15)
def B_X5_plain_2 (k : MS → Option (MS)) (rc : MS → Int32 → Option (MS)) (S : MS) (x1 : Int32) : Option (MS) :=
  if (82 : Int32) ≤ x1 then
  (k S)
  else
  ((wrI (m_read S) x1 (0 : Int32)).bind fun f1 =>
  nm (ms_read S f1 : MS) fun S2 =>
  nm (x1 + 1 : Int32) fun v3 =>
  rc S2 v3)
def F_X5_plain (S : MS) : Option (MS) :=
  lo2 (B_X5_plain_2 (fun S4 => (wrI (m_read S4) (5 : Int32) (100 : Int32)).bind fun f5 =>
  nm (ms_read S4 f5 : MS) fun S6 =>
  (wrI (m_read S6) (6 : Int32) (200 : Int32)).bind fun f7 =>
  nm (ms_read S6 f7 : MS) fun S8 =>
  (wrI (m_read S8) (7 : Int32) (300 : Int32)).bind fun f9 =>
  nm (ms_read S8 f9 : MS) fun S10 =>
  (wrI (m_read S10) (8 : Int32) (365 : Int32)).bind fun f11 =>
  nm (ms_read S10 f11 : MS) fun S12 =>
  (wrI (m_read S12) (9 : Int32) (730 : Int32)).bind fun f13 =>
  nm (ms_read S12 f13 : MS) fun S14 =>
  nm (ms_toldOnce S14 (0 : Int32) : MS) fun S15 =>
  some S15)) FU S (0 : Int32)
def B_X5_tenths_4 (S : MS) (k : Int32 → Option (Int32)) (rc : Int32 → Int32 → Option (Int32)) (x1 : Int32) (x2 : Int32) : Option (Int32) :=
  (rdI (m_read S) (0 : Int32)).bind fun v1 =>
  if v1 ≤ x2 then
  (k x1)
  else
  ((rdI (m_read S) (((10 : Int32) + ((6 : Int32) * x2)) + (1 : Int32))).bind fun v2 =>
  nm ((x1 + v2) : Int32) fun v3 =>
  nm (x2 + 1 : Int32) fun v4 =>
  rc v3 v4)
def F_X5_tenths (S : MS) : Option (Int32) :=
  lo2 (B_X5_tenths_4 S (fun z5 => some z5)) FU (0 : Int32) (0 : Int32)
def J_X5_reads_65 (k : MS → Option (MS)) (rc : MS → Int32 → Option (MS)) (S : MS) (y0 : Int32) : Option (MS) :=
  if y0 = 0 then
  (rc S y0)
  else
  ((F_X5_token S).bind fun q8 =>
  rc q8 y0)
def J_X5_reads_64 (k : MS → Option (MS)) (rc : MS → Int32 → Option (MS)) (S : MS) : Option (MS) :=
  J_X5_reads_65 k rc S (0 : Int32)
def B_X5_reads_30 (k : MS → Option (MS)) (rc : MS → Int32 → Option (MS)) (S : MS) (x2 : Int32) : Option (MS) :=
  if x2 = 0 then
  (k S)
  else
  (if (m_wrong S) = 0 then
  ((F_X5_line S).bind fun q7 =>
  if (m_wrong q7) = 0 then
  (if (m_sort q7) = (3 : Int32) then
  (J_X5_reads_65 k rc q7 (1 : Int32))
  else
  (J_X5_reads_64 k rc q7))
  else
  (J_X5_reads_64 k rc q7))
  else
  (k S))
def J_X5_reads_125 (S : MS) : Option (MS) :=
  (F_X5_fails S (5 : Int32)).bind fun q11 =>
  some q11
def J_X5_reads_89 (S : MS) : Option (MS) :=
  (rdI (m_read S) (0 : Int32)).bind fun v10 =>
  if v10 < (2 : Int32) then
  (J_X5_reads_125 S)
  else
  ((F_X5_tenths S).bind fun q12 =>
  if q12 = (10 : Int32) then
  ((rdI (m_read S) (9 : Int32)).bind fun v13 =>
  (rdI (m_read S) (8 : Int32)).bind fun v14 =>
  if v14 ≤ v13 then
  (some S)
  else
  (J_X5_reads_125 S))
  else
  (J_X5_reads_125 S))
def J_X5_reads_77 (S : MS) : Option (MS) :=
  if (m_sort S) = 0 then
  (J_X5_reads_89 S)
  else
  ((F_X5_fails S (1 : Int32)).bind fun q15 =>
  J_X5_reads_89 q15)
def F_X5_reads (S : MS) (x1 : Int32) : Option (MS) :=
  nm (ms_length S x1 : MS) fun S1 =>
  nm (ms_next S1 (0 : Int32) : MS) fun S2 =>
  nm (ms_wrong S2 (0 : Int32) : MS) fun S3 =>
  nm (ms_wrongAt S3 (-1 : Int32) : MS) fun S4 =>
  (F_X5_plain S4).bind fun q5 =>
  (F_X5_token q5).bind fun q6 =>
  lo2 (B_X5_reads_30 (fun S9 => J_X5_reads_77 S9)) FU q6 (1 : Int32)
def B_X5_text_83 (k : MS → Option (Int32 × MS)) (rc : MS → Int32 → Option (Int32 × MS)) (S : MS) (x2 : Int32) : Option (Int32 × MS) :=
  if (82 : Int32) ≤ x2 then
  (k S)
  else
  ((rdI (m_read S) x2).bind fun v8 =>
  (wrI (m_s S) x2 v8).bind fun f9 =>
  nm (ms_s S f9 : MS) fun S10 =>
  nm (x2 + 1 : Int32) fun v11 =>
  rc S10 v11)
def B_X5_text_109 (k : MS → Option (Int32 × MS)) (rc : MS → Int32 → Option (Int32 × MS)) (S : MS) (x2 : Int32) : Option (Int32 × MS) :=
  if (4 : Int32) ≤ x2 then
  (k S)
  else
  ((rdL (m_readNames S) x2).bind fun v13 =>
  (wrL (m_names S) x2 v13).bind fun f14 =>
  nm (ms_names S f14 : MS) fun S15 =>
  nm (x2 + 1 : Int32) fun v16 =>
  rc S15 v16)
def J_X5_text_64 (S : MS) (y0 : Int32) : Option (Int32 × MS) :=
  (F_X5_refuse S y0 (4 : Int32)).bind fun q7 =>
  if q7.1 = 0 then
  (lo2 (B_X5_text_83 (fun S12 => lo2 (B_X5_text_109 (fun S17 => nm (ms_told S17 (1 : Int32) : MS) fun S18 =>
  nm (ms_acts S18 (0 : Int32) : MS) fun S19 =>
  (wrI (m_isKept S19) (0 : Int32) (0 : Int32)).bind fun f20 =>
  nm (ms_isKept S19 f20 : MS) fun S21 =>
  (wrI (m_isKept S21) (1 : Int32) (0 : Int32)).bind fun f22 =>
  nm (ms_isKept S21 f22 : MS) fun S23 =>
  (rdI (m_s S23) (0 : Int32)).bind fun v24 =>
  some (v24, S23))) FU S12 (0 : Int32))) FU q7.2 (0 : Int32))
  else
  (nm (ms_place q7.2 (m_wrongAt q7.2) : MS) fun S25 =>
  some ((-1 : Int32), S25))
def J_X5_text_24 (S : MS) (x1 : Int32) (y0 : Int32) : Option (Int32 × MS) :=
  (F_X5_refuse S y0 (2 : Int32)).bind fun q3 =>
  if q3.1 = 0 then
  (nm (ms_taped q3.2 (0 : Int32) : MS) fun S4 =>
  (F_X5_reads S4 x1).bind fun q5 =>
  nm (ms_fault q5 (m_wrong q5) : MS) fun S6 =>
  if (m_wrong S6) = 0 then
  (J_X5_text_64 S6 (0 : Int32))
  else
  (J_X5_text_64 S6 (1 : Int32)))
  else
  (some ((-1 : Int32), q3.2))
def F_X5_text (S : MS) (x1 : Int32) : Option (Int32 × MS) :=
  (F_X5_begins S).bind fun q1 =>
  (F_X5_in x1.toInt64 (0 : Int64) ((m_taped q1).toInt64)).bind fun q2 =>
  if q2 = 0 then
  (J_X5_text_24 q1 x1 (1 : Int32))
  else
  (J_X5_text_24 q1 x1 (0 : Int32))
def F_X5_fault (S : MS) : Option (Int32 × MS) :=
  nm (ms_thrown S (0 : Int32) : MS) fun S1 =>
  some (m_fault S1, S1)
def F_X5_where (S : MS) : Option (Int32 × MS) :=
  nm (ms_thrown S (0 : Int32) : MS) fun S1 =>
  some (m_place S1, S1)
def F_X5_trouble (S : MS) : Option (Int32 × MS) :=
  nm (ms_thrown S (0 : Int32) : MS) fun S1 =>
  some (m_trouble S1, S1)
def F_X5_isShip (S : MS) (x1 : Int32) : Option (Int32) :=
  if (m_told S) = 0 then
  (some (0 : Int32))
  else
  ((rdI (m_s S) (0 : Int32)).bind fun v1 =>
  (F_X5_in x1.toInt64 (0 : Int64) ((v1 - (1 : Int32)).toInt64)).bind fun q2 =>
  if q2 = 0 then
  (some (0 : Int32))
  else
  (some (1 : Int32)))
def F_X5_isClaim (S : MS) (x1 : Int32) : Option (Int32) :=
  if (m_told S) = 0 then
  (some (0 : Int32))
  else
  ((rdI (m_s S) (1 : Int32)).bind fun v1 =>
  (F_X5_in x1.toInt64 (0 : Int64) ((v1 - (1 : Int32)).toInt64)).bind fun q2 =>
  if q2 = 0 then
  (some (0 : Int32))
  else
  (some (1 : Int32)))
def F_X5_ofShip (S : (Fin 82 → Int32)) (x1 : Int32) (x2 : Int32) : Option (Int32) :=
  (rdI S (((10 : Int32) + ((6 : Int32) * x1)) + x2)).bind fun v1 =>
  some v1
def F_X5_ofClaim (S : (Fin 82 → Int32)) (x1 : Int32) (x2 : Int32) : Option (Int32) :=
  (rdI S (((34 : Int32) + ((4 : Int32) * x1)) + x2)).bind fun v1 =>
  some v1
def J_X5_about_29 (S : MS) (x1 : Int32) (y0 : Int32) : Option (Int32 × MS) :=
  (F_X5_refuse S y0 (1 : Int32)).bind fun q2 =>
  if q2.1 = 0 then
  (if x1 = (10 : Int32) then
  (some (m_acts q2.2, q2.2))
  else
  ((rdI (m_s q2.2) x1).bind fun v3 =>
  some (v3, q2.2)))
  else
  (some ((-1 : Int32), q2.2))
def J_X5_about_24 (S : MS) (x1 : Int32) : Option (Int32 × MS) :=
  J_X5_about_29 S x1 (1 : Int32)
def F_X5_about (S : MS) (x1 : Int32) : Option (Int32 × MS) :=
  (F_X5_begins S).bind fun q1 =>
  if (m_told q1) = 0 then
  (J_X5_about_24 q1 x1)
  else
  ((F_X5_in x1.toInt64 (0 : Int64) (10 : Int64)).bind fun q4 =>
  if q4 = 0 then
  (J_X5_about_24 q1 x1)
  else
  (J_X5_about_29 q1 x1 (0 : Int32)))
def F_X5_weightOf (S : (Fin 82 → Int32)) (x1 : Int32) : Option (Int32) :=
  (F_X5_ofShip S x1 (1 : Int32)).bind fun q1 =>
  (rdI S (2 : Int32)).bind fun v2 =>
  if v2 = (1 : Int32) then
  (if q1 ≤ 0 then
  (some (0 : Int32))
  else
  (some (1 : Int32)))
  else
  (some q1)
def J_X5_ship_30 (S : MS) (x1 : Int32) (x2 : Int32) (y0 : Int32) : Option (Int32 × MS) :=
  (F_X5_refuse S y0 (1 : Int32)).bind fun q3 =>
  if q3.1 = 0 then
  (if x2 = (6 : Int32) then
  ((F_X5_weightOf (m_s q3.2) x1).bind fun q5 =>
  some (q5, q3.2))
  else
  ((F_X5_ofShip (m_s q3.2) x1 x2).bind fun q4 =>
  some (q4, q3.2)))
  else
  (some ((-1 : Int32), q3.2))
def J_X5_ship_25 (S : MS) (x1 : Int32) (x2 : Int32) : Option (Int32 × MS) :=
  J_X5_ship_30 S x1 x2 (1 : Int32)
def F_X5_ship (S : MS) (x1 : Int32) (x2 : Int32) : Option (Int32 × MS) :=
  (F_X5_begins S).bind fun q1 =>
  (F_X5_isShip q1 x1).bind fun q2 =>
  if q2 = 0 then
  (J_X5_ship_25 q1 x1 x2)
  else
  ((F_X5_in x2.toInt64 (0 : Int64) (6 : Int64)).bind fun q6 =>
  if q6 = 0 then
  (J_X5_ship_25 q1 x1 x2)
  else
  (J_X5_ship_30 q1 x1 x2 (0 : Int32)))
def F_X5_roundOf (S : (Fin 82 → Int32)) (x1 : Int32) : Option (Int32) :=
  (F_X5_ofClaim S x1 (3 : Int32)).bind fun q1 =>
  (rdI S (8 : Int32)).bind fun v2 =>
  if v2 < q1 then
  ((rdI S (9 : Int32)).bind fun v3 =>
  if v3 < q1 then
  (some (-2 : Int32))
  else
  (some (1 : Int32)))
  else
  (some (0 : Int32))
def J_X5_claim_30 (S : MS) (x1 : Int32) (x2 : Int32) (y0 : Int32) : Option (Int32 × MS) :=
  (F_X5_refuse S y0 (1 : Int32)).bind fun q3 =>
  if q3.1 = 0 then
  (if x2 = (4 : Int32) then
  ((F_X5_roundOf (m_s q3.2) x1).bind fun q5 =>
  some (q5, q3.2))
  else
  ((F_X5_ofClaim (m_s q3.2) x1 x2).bind fun q4 =>
  some (q4, q3.2)))
  else
  (some ((-1 : Int32), q3.2))
def J_X5_claim_25 (S : MS) (x1 : Int32) (x2 : Int32) : Option (Int32 × MS) :=
  J_X5_claim_30 S x1 x2 (1 : Int32)
def F_X5_claim (S : MS) (x1 : Int32) (x2 : Int32) : Option (Int32 × MS) :=
  (F_X5_begins S).bind fun q1 =>
  (F_X5_isClaim q1 x1).bind fun q2 =>
  if q2 = 0 then
  (J_X5_claim_25 q1 x1 x2)
  else
  ((F_X5_in x2.toInt64 (0 : Int64) (4 : Int64)).bind fun q6 =>
  if q6 = 0 then
  (J_X5_claim_25 q1 x1 x2)
  else
  (J_X5_claim_30 q1 x1 x2 (0 : Int32)))
def B_X5_letter_30 (x1 : Int32) (x2 : Int32) (k : MS → Int32 → Option (Int32 × MS)) (rc : MS → Int32 → Int64 → Option (Int32 × MS)) (S : MS) (x3 : Int32) (x4 : Int64) : Option (Int32 × MS) :=
  if (lg_cmp x4 (0 : Int64)) ≤ 0 then
  (k S x3)
  else
  (nm (x3 + 1 : Int32) fun v4 =>
  (dvL x4 (32 : Int64)).bind fun v5 =>
  rc S v4 v5)
def B_X5_letter_84 (x2 : Int32) (k : MS → Int64 → Option (Int32 × MS)) (rc : MS → Int64 → Int32 → Option (Int32 × MS)) (S : MS) (x4 : Int64) (x6 : Int32) : Option (Int32 × MS) :=
  if x6 ≤ x2 then
  (k S x4)
  else
  ((dvL x4 (32 : Int64)).bind fun v11 =>
  nm (x6 + (-1) : Int32) fun v12 =>
  rc S v11 v12)
def F_X5_letter (S : MS) (x1 : Int32) (x2 : Int32) : Option (Int32 × MS) :=
  nm (ms_thrown S (0 : Int32) : MS) fun S1 =>
  (F_X5_isShip S1 x1).bind fun q2 =>
  if q2 = 0 then
  (nm (ms_thrown S1 (1 : Int32) : MS) fun S17 =>
  some ((0 : Int32), S17))
  else
  ((rdL (m_names S1) x1).bind fun v3 =>
  lo3 (B_X5_letter_30 x1 x2 (fun S6 z7 => (F_X5_in x2.toInt64 (0 : Int64) ((z7 - (1 : Int32)).toInt64)).bind fun q8 =>
  if q8 = 0 then
  (nm (ms_thrown S6 (1 : Int32) : MS) fun S16 =>
  some ((0 : Int32), S16))
  else
  ((rdL (m_names S6) x1).bind fun v9 =>
  nm ((z7 - (1 : Int32)) : Int32) fun v10 =>
  lo3 (B_X5_letter_84 x2 (fun S13 z14 => (rmL z14 (32 : Int64)).bind fun v15 =>
  some ((v15.toInt32 - (1 : Int32)), S13))) FU S6 v9 v10))) FU S1 (0 : Int32) v3)
def B_X5_weightsOf_4 (S : (Fin 82 → Int32)) (k : Int32 → Option (Int32)) (rc : Int32 → Int32 → Option (Int32)) (x1 : Int32) (x2 : Int32) : Option (Int32) :=
  (rdI S (0 : Int32)).bind fun v1 =>
  if v1 ≤ x2 then
  (k x1)
  else
  ((F_X5_weightOf S x2).bind fun q2 =>
  nm ((x1 + q2) : Int32) fun v3 =>
  nm (x2 + 1 : Int32) fun v4 =>
  rc v3 v4)
def F_X5_weightsOf (S : (Fin 82 → Int32)) : Option (Int32) :=
  lo2 (B_X5_weightsOf_4 S (fun z5 => some z5)) FU (0 : Int32) (0 : Int32)
def F_X5_partOf (S : (Fin 82 → Int32)) (x1 : Int32) (x2 : Int64) : Option (Int64) :=
  (F_X5_weightOf S x1).bind fun q1 =>
  (F_X5_weightsOf S).bind fun q2 =>
  (dvL (x2 * q1.toInt64) q2.toInt64).bind fun v3 =>
  some v3
def J_X5_debtOf_43 (S : (Fin 82 → Int32)) (x1 : Int32) (x3 : Int64) : Option (Int64) :=
  (F_X5_partOf S x1 x3).bind fun q6 =>
  some q6
def F_X5_debtOf (S : (Fin 82 → Int32)) (x1 : Int32) (x2 : Int32) : Option (Int64) :=
  (F_X5_roundOf S x2).bind fun q1 =>
  if q1 < 0 then
  (some (0 : Int64))
  else
  ((F_X5_ofClaim S x2 (1 : Int32)).bind fun q2 =>
  if q2 = x1 then
  (some (0 : Int64))
  else
  ((F_X5_ofClaim S x2 (2 : Int32)).bind fun q3 =>
  nm (q3.toInt64 : Int64) fun v4 =>
  (F_X5_ofClaim S x2 (0 : Int32)).bind fun q5 =>
  if q5 = 0 then
  ((rdI S (3 : Int32)).bind fun v7 =>
  if v7 = 0 then
  (J_X5_debtOf_43 S x1 v4)
  else
  ((F_X5_weightsOf S).bind fun q8 =>
  (F_X5_ofClaim S x2 (1 : Int32)).bind fun q9 =>
  (F_X5_weightOf S q9).bind fun q10 =>
  nm ((q8 - q10) : Int32) fun v11 =>
  if v11 = 0 then
  (some (0 : Int64))
  else
  ((F_X5_weightOf S x1).bind fun q12 =>
  (dvL (v4 * q12.toInt64) v11.toInt64).bind fun v13 =>
  some v13)))
  else
  (J_X5_debtOf_43 S x1 v4)))
def F_X5_backTo (S : (Fin 82 → Int32)) (x1 : Int32) (x2 : Int32) : Option (Int64) :=
  (rdI S (3 : Int32)).bind fun v1 =>
  if v1 = 0 then
  (some (0 : Int64))
  else
  ((F_X5_ofClaim S x1 (0 : Int32)).bind fun q2 =>
  if q2 = 0 then
  ((F_X5_roundOf S x1).bind fun q3 =>
  if q3 < 0 then
  (some (0 : Int64))
  else
  ((F_X5_ofClaim S x1 (1 : Int32)).bind fun q4 =>
  if q4 = x2 then
  (some (0 : Int64))
  else
  ((F_X5_debtOf S x2 x1).bind fun q5 =>
  (F_X5_ofClaim S x1 (2 : Int32)).bind fun q6 =>
  (F_X5_partOf S x2 q6.toInt64).bind fun q7 =>
  some (q5 - q7))))
  else
  (some (0 : Int64)))
def B_X5_backOf_5 (S : (Fin 82 → Int32)) (x1 : Int32) (k : Int64 → Option (Int64)) (rc : Int64 → Int32 → Option (Int64)) (x2 : Int64) (x4 : Int32) : Option (Int64) :=
  (rdI S (0 : Int32)).bind fun v1 =>
  if v1 ≤ x4 then
  (k x2)
  else
  ((F_X5_backTo S x1 x4).bind fun q2 =>
  nm ((x2 + q2) : Int64) fun v3 =>
  nm (x4 + 1 : Int32) fun v4 =>
  rc v3 v4)
def F_X5_backOf (S : (Fin 82 → Int32)) (x1 : Int32) : Option (Int64) :=
  lo2 (B_X5_backOf_5 S x1 (fun z5 => some z5)) FU (0 : Int64) (0 : Int32)
def F_X5_hullOwed (S : (Fin 82 → Int32)) (x1 : Int32) (x2 : Int32) : Option (Int64) :=
  (F_X5_ofShip S x2 (2 : Int32)).bind fun q1 =>
  (F_X5_partOf S x1 q1.toInt64).bind fun q2 =>
  some q2
def J_X5_backOwed_36 (k : Int64 → Option (Int64)) (rc : Int64 → Int32 → Option (Int64)) (S : (Fin 82 → Int32)) (x1 : Int32) (x2 : Int32) (x5 : Int32) (y0 : Int64) (y1 : Int64) : Option (Int64) :=
  nm ((y1 + y0) : Int64) fun v3 =>
  nm (x5 + 1 : Int32) fun v4 =>
  rc v3 v4
def B_X5_backOwed_5 (S : (Fin 82 → Int32)) (x1 : Int32) (x2 : Int32) (k : Int64 → Option (Int64)) (rc : Int64 → Int32 → Option (Int64)) (x3 : Int64) (x5 : Int32) : Option (Int64) :=
  (rdI S (1 : Int32)).bind fun v1 =>
  if v1 ≤ x5 then
  (k x3)
  else
  ((F_X5_ofClaim S x5 (1 : Int32)).bind fun q2 =>
  if q2 = x1 then
  ((F_X5_backTo S x5 x2).bind fun q5 =>
  J_X5_backOwed_36 k rc S x1 x2 x5 q5 x3)
  else
  (J_X5_backOwed_36 k rc S x1 x2 x5 (0 : Int64) x3))
def F_X5_backOwed (S : (Fin 82 → Int32)) (x1 : Int32) (x2 : Int32) : Option (Int64) :=
  lo2 (B_X5_backOwed_5 S x1 x2 (fun z6 => some z6)) FU (0 : Int64) (0 : Int32)
def F_X5_bothOwed (S : (Fin 82 → Int32)) (x1 : Int32) (x2 : Int32) : Option (Int64) :=
  (F_X5_hullOwed S x1 x2).bind fun q1 =>
  (F_X5_backOwed S x1 x2).bind fun q2 =>
  some (q1 + q2)
def F_X5_lawOwed (S : (Fin 82 → Int32)) (x1 : Int32) (x2 : Int32) : Option (Int64) :=
  if x1 = x2 then
  (some (0 : Int64))
  else
  ((F_X5_bothOwed S x1 x2).bind fun q1 =>
  (rdI S (4 : Int32)).bind fun v2 =>
  if v2 = (1 : Int32) then
  (some q1)
  else
  ((F_X5_bothOwed S x2 x1).bind fun q3 =>
  (F_X5_lesser q1 q3).bind fun q4 =>
  some (q1 - q4)))
def F_X5_fundOf (S : (Fin 82 → Int32)) (x1 : Int32) (x2 : Int32) : Option (Int64) :=
  (F_X5_ofShip S x1 (0 : Int32)).bind fun q1 =>
  (rdI S (7 : Int32)).bind fun v2 =>
  (F_X5_greater q1.toInt64 v2.toInt64).bind fun q3 =>
  (rdI S x2).bind fun v4 =>
  (F_X5_lesser (2000000000 : Int64) (q3 * v4.toInt64)).bind fun q5 =>
  some q5
def B_X5_shares_5 (x1 : Int64) (k : MS → Int64 → Option (Int64 × MS)) (rc : MS → Int64 → Int32 → Option (Int64 × MS)) (S : MS) (x3 : Int64) (x5 : Int32) : Option (Int64 × MS) :=
  if (16 : Int32) ≤ x5 then
  (k S x3)
  else
  ((rdL (m_owed S) x5).bind fun v1 =>
  nm ((x3 + v1) : Int64) fun v2 =>
  nm (x5 + 1 : Int32) fun v3 =>
  rc S v2 v3)
def B_X5_shares_77 (x1 : Int64) (x3 : Int64) (k : MS → Int64 → Option (Int64 × MS)) (rc : MS → Int64 → Int32 → Option (Int64 × MS)) (S : MS) (x5 : Int64) (x7 : Int32) : Option (Int64 × MS) :=
  if (16 : Int32) ≤ x7 then
  (k S x5)
  else
  ((rdL (m_owed S) x7).bind fun v6 =>
  (dvL (v6 * x1) x3).bind fun v7 =>
  nm ((x5 - v7) : Int64) fun v8 =>
  nm (x7 + 1 : Int32) fun v9 =>
  rc S v8 v9)
def J_X5_shares_161 (k : MS → Int64 → Option (Int64 × MS)) (rc : MS → Int64 → Int32 → Option (Int64 × MS)) (S : MS) (x1 : Int64) (x3 : Int64) (x5 : Int64) (x7 : Int32) (x8 : Int64) : Option (Int64 × MS) :=
  (rdL (m_out S) x7).bind fun v14 =>
  (wrL (m_out S) x7 (v14 + x8)).bind fun f15 =>
  nm (ms_out S f15 : MS) fun S16 =>
  nm (x7 + 1 : Int32) fun v17 =>
  rc S16 x5 v17
def B_X5_shares_109 (x1 : Int64) (x3 : Int64) (k : MS → Int64 → Option (Int64 × MS)) (rc : MS → Int64 → Int32 → Option (Int64 × MS)) (S : MS) (x5 : Int64) (x7 : Int32) : Option (Int64 × MS) :=
  if (16 : Int32) ≤ x7 then
  (k S x5)
  else
  ((rdL (m_owed S) x7).bind fun v12 =>
  (dvL (v12 * x1) x3).bind fun v13 =>
  if (lg_cmp x5 (0 : Int64)) ≤ 0 then
  (J_X5_shares_161 k rc S x1 x3 x5 x7 v13)
  else
  ((rdL (m_owed S) x7).bind fun v18 =>
  if 0 ≤ (lg_cmp v13 v18) then
  (J_X5_shares_161 k rc S x1 x3 x5 x7 v13)
  else
  (nm ((v13 + (1 : Int64)) : Int64) fun v19 =>
  nm ((x5 - (1 : Int64)) : Int64) fun v20 =>
  J_X5_shares_161 k rc S x1 x3 v20 x7 v19)))
def B_X5_shares_37 (x1 : Int64) (x3 : Int64) (k : MS → Option (Int64 × MS)) (rc : MS → Int32 → Option (Int64 × MS)) (S : MS) (x5 : Int32) : Option (Int64 × MS) :=
  if (16 : Int32) ≤ x5 then
  (k S)
  else
  ((rdL (m_out S) x5).bind fun v23 =>
  (rdL (m_owed S) x5).bind fun v24 =>
  (wrL (m_out S) x5 (v23 + v24)).bind fun f25 =>
  nm (ms_out S f25 : MS) fun S26 =>
  nm (x5 + 1 : Int32) fun v27 =>
  rc S26 v27)
def F_X5_shares (S : MS) (x1 : Int64) : Option (Int64 × MS) :=
  lo3 (B_X5_shares_5 x1 (fun S4 z5 => if 0 < (lg_cmp z5 x1) then
  (lo3 (B_X5_shares_77 x1 z5 (fun S10 z11 => lo3 (B_X5_shares_109 x1 z5 (fun S21 z22 => some (z22, S21))) FU S10 z11 (0 : Int32))) FU S4 x1 (0 : Int32))
  else
  (lo2 (B_X5_shares_37 x1 z5 (fun S28 => some ((x1 - z5), S28))) FU S4 (0 : Int32)))) FU S (0 : Int64) (0 : Int32)
def B_X5_clears_2 (k : (Fin 16 → Int64) → Option ((Fin 16 → Int64))) (rc : (Fin 16 → Int64) → Int32 → Option ((Fin 16 → Int64))) (S : (Fin 16 → Int64)) (x2 : Int32) : Option ((Fin 16 → Int64)) :=
  if (16 : Int32) ≤ x2 then
  (k S)
  else
  ((wrL S x2 (0 : Int64)).bind fun f1 =>
  nm (f1 : (Fin 16 → Int64)) fun S2 =>
  nm (x2 + 1 : Int32) fun v3 =>
  rc S2 v3)
def F_X5_clears (S : (Fin 16 → Int64)) : Option ((Fin 16 → Int64)) :=
  lo2 (B_X5_clears_2 (fun S4 => some S4)) FU S (0 : Int32)
def J_X5_owesPersons_62 (k : MS → Option (MS)) (rc : MS → Int32 → Option (MS)) (S : MS) (x1 : Int32) (x2 : Int32) (x3 : Int32) : Option (MS) :=
  nm (x3 + 1 : Int32) fun v5 =>
  rc S v5
def B_X5_owesPersons_10 (x1 : Int32) (x2 : Int32) (k : MS → Option (MS)) (rc : MS → Int32 → Option (MS)) (S : MS) (x3 : Int32) : Option (MS) :=
  (rdI (m_w S) (1 : Int32)).bind fun v3 =>
  if v3 ≤ x3 then
  (k S)
  else
  ((F_X5_ofClaim (m_w S) x3 (0 : Int32)).bind fun q4 =>
  if q4 = (1 : Int32) then
  ((F_X5_roundOf (m_w S) x3).bind fun q6 =>
  if q6 = x2 then
  ((F_X5_debtOf (m_w S) x1 x3).bind fun q7 =>
  (wrL (m_owed S) ((4 : Int32) + x3) q7).bind fun f8 =>
  nm (ms_owed S f8 : MS) fun S9 =>
  J_X5_owesPersons_62 k rc S9 x1 x2 x3)
  else
  (J_X5_owesPersons_62 k rc S x1 x2 x3))
  else
  (J_X5_owesPersons_62 k rc S x1 x2 x3))
def F_X5_owesPersons (S : MS) (x1 : Int32) (x2 : Int32) : Option (MS) :=
  (F_X5_clears (m_owed S)).bind fun q1 =>
  nm (ms_owed S q1 : MS) fun S2 =>
  lo2 (B_X5_owesPersons_10 x1 x2 (fun S10 => some S10)) FU S2 (0 : Int32)
def B_X5_owesAll_10 (x1 : Int32) (x2 : Int32) (k : MS → Option (MS)) (rc : MS → Int32 → Option (MS)) (S : MS) (x3 : Int32) : Option (MS) :=
  (rdI (m_w S) (0 : Int32)).bind fun v3 =>
  if v3 ≤ x3 then
  (k S)
  else
  (if x2 = 0 then
  ((F_X5_lawOwed (m_w S) x1 x3).bind fun q4 =>
  (wrL (m_owed S) x3 q4).bind fun f5 =>
  nm (ms_owed S f5 : MS) fun S6 =>
  nm (x3 + 1 : Int32) fun v7 =>
  rc S6 v7)
  else
  (k S))
def J_X5_owesAll_95 (k : MS → Option (MS)) (rc : MS → Int32 → Option (MS)) (S : MS) (x1 : Int32) (x2 : Int32) (x3 : Int32) : Option (MS) :=
  nm (x3 + 1 : Int32) fun v11 =>
  rc S v11
def B_X5_owesAll_47 (x1 : Int32) (x2 : Int32) (k : MS → Option (MS)) (rc : MS → Int32 → Option (MS)) (S : MS) (x3 : Int32) : Option (MS) :=
  (rdI (m_w S) (1 : Int32)).bind fun v9 =>
  if v9 ≤ x3 then
  (k S)
  else
  ((F_X5_roundOf (m_w S) x3).bind fun q10 =>
  if q10 = x2 then
  ((F_X5_debtOf (m_w S) x1 x3).bind fun q12 =>
  (rdL (m_out S) ((4 : Int32) + x3)).bind fun v13 =>
  (wrL (m_owed S) ((4 : Int32) + x3) (q12 - v13)).bind fun f14 =>
  nm (ms_owed S f14 : MS) fun S15 =>
  J_X5_owesAll_95 k rc S15 x1 x2 x3)
  else
  (J_X5_owesAll_95 k rc S x1 x2 x3))
def J_X5_owesAll_45 (S : MS) (x1 : Int32) (x2 : Int32) : Option (MS) :=
  lo2 (B_X5_owesAll_47 x1 x2 (fun S16 => some S16)) FU S (0 : Int32)
def F_X5_owesAll (S : MS) (x1 : Int32) (x2 : Int32) : Option (MS) :=
  (F_X5_clears (m_owed S)).bind fun q1 =>
  nm (ms_owed S q1 : MS) fun S2 =>
  lo2 (B_X5_owesAll_10 x1 x2 (fun S8 => J_X5_owesAll_45 S8 x1 x2)) FU S2 (0 : Int32)
def B_X5_sharesLives_22 (x1 : Int32) (k : MS → Option (MS)) (rc : MS → Int64 → Int32 → Option (MS)) (S : MS) (x2 : Int64) (x4 : Int32) : Option (MS) :=
  if (2 : Int32) ≤ x4 then
  (k S)
  else
  ((F_X5_owesPersons S x1 x4).bind fun q4 =>
  (F_X5_shares q4 x2).bind fun q5 =>
  nm (x4 + 1 : Int32) fun v6 =>
  rc q5.2 q5.1 v6)
def F_X5_sharesLives (S : MS) (x1 : Int32) : Option (MS) :=
  (F_X5_clears (m_out S)).bind fun q1 =>
  nm (ms_out S q1 : MS) fun S2 =>
  (F_X5_fundOf (m_w S2) x1 (6 : Int32)).bind fun q3 =>
  lo3 (B_X5_sharesLives_22 x1 (fun S7 => some S7)) FU S2 q3 (0 : Int32)
def B_X5_paysOne_110 (x1 : Int32) (k : MS → Option (MS)) (rc : MS → Int64 → Int32 → Option (MS)) (S : MS) (x2 : Int64) (x4 : Int32) : Option (MS) :=
  if (2 : Int32) ≤ x4 then
  (k S)
  else
  ((F_X5_owesAll S x1 x4).bind fun q4 =>
  (F_X5_shares q4 x2).bind fun q5 =>
  nm (x4 + 1 : Int32) fun v6 =>
  rc q5.2 q5.1 v6)
def B_X5_paysOne_137 (x1 : Int32) (k : MS → Option (MS)) (rc : MS → Int32 → Option (MS)) (S : MS) (x2 : Int32) : Option (MS) :=
  if (16 : Int32) ≤ x2 then
  (k S)
  else
  ((rdL (m_out S) x2).bind fun v8 =>
  (wrL (m_paid S) (((16 : Int32) * x1) + x2) v8).bind fun f9 =>
  nm (ms_paid S f9 : MS) fun S10 =>
  nm (x2 + 1 : Int32) fun v11 =>
  rc S10 v11)
def J_X5_paysOne_135 (S : MS) (x1 : Int32) : Option (MS) :=
  lo2 (B_X5_paysOne_137 x1 (fun S12 => some S12)) FU S (0 : Int32)
def B_X5_paysOne_23 (x1 : Int32) (k : MS → Option (MS)) (rc : MS → Int32 → Option (MS)) (S : MS) (x2 : Int32) : Option (MS) :=
  (rdI (m_w S) (0 : Int32)).bind fun v15 =>
  if v15 ≤ x2 then
  (k S)
  else
  ((F_X5_lawOwed (m_w S) x1 x2).bind fun q16 =>
  (wrL (m_out S) x2 q16).bind fun f17 =>
  nm (ms_out S f17 : MS) fun S18 =>
  nm (x2 + 1 : Int32) fun v19 =>
  rc S18 v19)
def B_X5_paysOne_56 (x1 : Int32) (k : MS → Option (MS)) (rc : MS → Int32 → Option (MS)) (S : MS) (x2 : Int32) : Option (MS) :=
  (rdI (m_w S) (1 : Int32)).bind fun v21 =>
  if v21 ≤ x2 then
  (k S)
  else
  ((F_X5_debtOf (m_w S) x1 x2).bind fun q22 =>
  (wrL (m_out S) ((4 : Int32) + x2) q22).bind fun f23 =>
  nm (ms_out S f23 : MS) fun S24 =>
  nm (x2 + 1 : Int32) fun v25 =>
  rc S24 v25)
def F_X5_paysOne (S : MS) (x1 : Int32) : Option (MS) :=
  (F_X5_ofShip (m_w S) x1 (5 : Int32)).bind fun q1 =>
  if q1 = (1 : Int32) then
  ((F_X5_clears (m_out S)).bind fun q13 =>
  nm (ms_out S q13 : MS) fun S14 =>
  lo2 (B_X5_paysOne_23 x1 (fun S20 => lo2 (B_X5_paysOne_56 x1 (fun S26 => J_X5_paysOne_135 S26 x1)) FU S20 (0 : Int32))) FU S14 (0 : Int32))
  else
  ((F_X5_sharesLives S x1).bind fun q2 =>
  (F_X5_fundOf (m_w q2) x1 (5 : Int32)).bind fun q3 =>
  lo3 (B_X5_paysOne_110 x1 (fun S7 => J_X5_paysOne_135 S7 x1)) FU q2 q3 (0 : Int32))
def B_X5_paysAll_2 (k : MS → Option (MS)) (rc : MS → Int32 → Option (MS)) (S : MS) (x1 : Int32) : Option (MS) :=
  (rdI (m_w S) (0 : Int32)).bind fun v1 =>
  if v1 ≤ x1 then
  (k S)
  else
  ((F_X5_paysOne S x1).bind fun q2 =>
  nm (x1 + 1 : Int32) fun v3 =>
  rc q2 v3)
def F_X5_paysAll (S : MS) : Option (MS) :=
  lo2 (B_X5_paysAll_2 (fun S4 => some S4)) FU S (0 : Int32)
def B_X5_lays_2 (k : MS → Option (MS)) (rc : MS → Int32 → Option (MS)) (S : MS) (x1 : Int32) : Option (MS) :=
  if (82 : Int32) ≤ x1 then
  (k S)
  else
  ((rdI (m_s S) x1).bind fun v1 =>
  (wrI (m_w S) x1 v1).bind fun f2 =>
  nm (ms_w S f2 : MS) fun S3 =>
  nm (x1 + 1 : Int32) fun v4 =>
  rc S3 v4)
def F_X5_lays (S : MS) : Option (MS) :=
  lo2 (B_X5_lays_2 (fun S5 => some S5)) FU S (0 : Int32)
def F_X5_laysPaid (S : MS) : Option (MS) :=
  (F_X5_lays S).bind fun q1 =>
  (F_X5_paysAll q1).bind fun q2 =>
  some q2
def B_X5_paidTo_5 (S : MS) (x1 : Int32) (k : Int64 → Option (Int64)) (rc : Int64 → Int32 → Option (Int64)) (x2 : Int64) (x4 : Int32) : Option (Int64) :=
  (rdI (m_w S) (0 : Int32)).bind fun v1 =>
  if v1 ≤ x4 then
  (k x2)
  else
  ((rdL (m_paid S) ((((16 : Int32) * x4) + (4 : Int32)) + x1)).bind fun v2 =>
  nm ((x2 + v2) : Int64) fun v3 =>
  nm (x4 + 1 : Int32) fun v4 =>
  rc v3 v4)
def F_X5_paidTo (S : MS) (x1 : Int32) : Option (Int64) :=
  lo2 (B_X5_paidTo_5 S x1 (fun z5 => some z5)) FU (0 : Int64) (0 : Int32)
def F_X5_givenOf (S : MS) (x1 : Int32) : Option (Int64) :=
  (F_X5_ofClaim (m_w S) x1 (1 : Int32)).bind fun q1 =>
  (F_X5_ofClaim (m_w S) x1 (0 : Int32)).bind fun q2 =>
  if q2 = 0 then
  ((F_X5_ofShip (m_w S) q1 (4 : Int32)).bind fun q3 =>
  if q3 = 0 then
  (some (0 : Int64))
  else
  ((F_X5_backOf (m_w S) x1).bind fun q4 =>
  (F_X5_paidTo S x1).bind fun q5 =>
  (F_X5_lesser q4 q5).bind fun q6 =>
  some q6))
  else
  (some (0 : Int64))
def B_X5_paidBy_5 (S : MS) (x1 : Int32) (k : Int64 → Option (Int64)) (rc : Int64 → Int32 → Option (Int64)) (x2 : Int64) (x4 : Int32) : Option (Int64) :=
  if (16 : Int32) ≤ x4 then
  (k x2)
  else
  ((rdL (m_paid S) (((16 : Int32) * x1) + x4)).bind fun v1 =>
  nm ((x2 + v1) : Int64) fun v2 =>
  nm (x4 + 1 : Int32) fun v3 =>
  rc v2 v3)
def F_X5_paidBy (S : MS) (x1 : Int32) : Option (Int64) :=
  lo2 (B_X5_paidBy_5 S x1 (fun z4 => some z4)) FU (0 : Int64) (0 : Int32)
def B_X5_netOf_21 (S : MS) (x1 : Int32) (k : Int64 → Option (Int64)) (rc : Int64 → Int32 → Option (Int64)) (x2 : Int64) (x4 : Int32) : Option (Int64) :=
  (rdI (m_w S) (0 : Int32)).bind fun v4 =>
  if v4 ≤ x4 then
  (k x2)
  else
  ((rdL (m_paid S) (((16 : Int32) * x4) + x1)).bind fun v5 =>
  nm ((x2 + v5) : Int64) fun v6 =>
  nm (x4 + 1 : Int32) fun v7 =>
  rc v6 v7)
def J_X5_netOf_92 (k : Int64 → Option (Int64)) (rc : Int64 → Int32 → Option (Int64)) (S : MS) (x1 : Int32) (x4 : Int32) (y0 : Int64) (y1 : Int64) : Option (Int64) :=
  nm ((y1 + y0) : Int64) fun v11 =>
  nm (x4 + 1 : Int32) fun v12 =>
  rc v11 v12
def B_X5_netOf_56 (S : MS) (x1 : Int32) (k : Int64 → Option (Int64)) (rc : Int64 → Int32 → Option (Int64)) (x2 : Int64) (x4 : Int32) : Option (Int64) :=
  (rdI (m_w S) (1 : Int32)).bind fun v9 =>
  if v9 ≤ x4 then
  (k x2)
  else
  ((F_X5_ofClaim (m_w S) x4 (1 : Int32)).bind fun q10 =>
  if q10 = x1 then
  ((F_X5_givenOf S x4).bind fun q13 =>
  J_X5_netOf_92 k rc S x1 x4 q13 x2)
  else
  (J_X5_netOf_92 k rc S x1 x4 (0 : Int64) x2))
def F_X5_netOf (S : MS) (x1 : Int32) : Option (Int64) :=
  (F_X5_paidBy S x1).bind fun q1 =>
  (F_X5_ofShip (m_w S) x1 (2 : Int32)).bind fun q2 =>
  nm (((-q1) - q2.toInt64) : Int64) fun v3 =>
  lo2 (B_X5_netOf_21 S x1 (fun z8 => lo2 (B_X5_netOf_56 S x1 (fun z14 => some z14)) FU z8 (0 : Int32))) FU v3 (0 : Int32)
def J_X5_part_43 (S : MS) (x1 : Int32) (x2 : Int32) (y0 : Int32) : Option (Int32 × MS) :=
  (F_X5_refuse S y0 (2 : Int32)).bind fun q5 =>
  if q5.1 = 0 then
  ((F_X5_partOf (m_s q5.2) x1 x2.toInt64).bind fun q6 =>
  some (q6.toInt32, q5.2))
  else
  (some ((-1 : Int32), q5.2))
def J_X5_part_18 (S : MS) (x1 : Int32) (x2 : Int32) (y0 : Int32) : Option (Int32 × MS) :=
  (F_X5_refuse S y0 (1 : Int32)).bind fun q3 =>
  if q3.1 = 0 then
  ((F_X5_in x2.toInt64 (0 : Int64) (9999999 : Int64)).bind fun q4 =>
  if q4 = 0 then
  (J_X5_part_43 q3.2 x1 x2 (1 : Int32))
  else
  (J_X5_part_43 q3.2 x1 x2 (0 : Int32)))
  else
  (some ((-1 : Int32), q3.2))
def F_X5_part (S : MS) (x1 : Int32) (x2 : Int32) : Option (Int32 × MS) :=
  (F_X5_begins S).bind fun q1 =>
  (F_X5_isShip q1 x1).bind fun q2 =>
  if q2 = 0 then
  (J_X5_part_18 q1 x1 x2 (1 : Int32))
  else
  (J_X5_part_18 q1 x1 x2 (0 : Int32))
def J_X5_owes_26 (S : MS) (x1 : Int32) (x2 : Int32) (y0 : Int32) : Option (Int32 × MS) :=
  (F_X5_refuse S y0 (1 : Int32)).bind fun q3 =>
  if q3.1 = 0 then
  ((F_X5_debtOf (m_s q3.2) x1 x2).bind fun q4 =>
  some (q4.toInt32, q3.2))
  else
  (some ((-1 : Int32), q3.2))
def J_X5_owes_21 (S : MS) (x1 : Int32) (x2 : Int32) : Option (Int32 × MS) :=
  J_X5_owes_26 S x1 x2 (1 : Int32)
def F_X5_owes (S : MS) (x1 : Int32) (x2 : Int32) : Option (Int32 × MS) :=
  (F_X5_begins S).bind fun q1 =>
  (F_X5_isShip q1 x1).bind fun q2 =>
  if q2 = 0 then
  (J_X5_owes_21 q1 x1 x2)
  else
  ((F_X5_isClaim q1 x2).bind fun q5 =>
  if q5 = 0 then
  (J_X5_owes_21 q1 x1 x2)
  else
  (J_X5_owes_26 q1 x1 x2 (0 : Int32)))
def J_X5_between_63 (S : MS) : Option (Int64 × MS) :=
  some ((-1 : Int64), S)
def J_X5_between_56 (S : MS) (x1 : Int32) (x2 : Int32) (x3 : Int32) (y0 : Int32) : Option (Int64 × MS) :=
  (F_X5_refuse S y0 (5 : Int32)).bind fun q4 =>
  if q4.1 = 0 then
  (if x3 = (0 : Int32) then
  ((F_X5_hullOwed (m_s q4.2) x1 x2).bind fun q6 =>
  some (q6, q4.2))
  else
  if x3 = (1 : Int32) then
  ((F_X5_backOwed (m_s q4.2) x1 x2).bind fun q7 =>
  some (q7, q4.2))
  else
  if x3 = (2 : Int32) then
  ((F_X5_bothOwed (m_s q4.2) x1 x2).bind fun q8 =>
  some (q8, q4.2))
  else
  ((F_X5_lawOwed (m_s q4.2) x1 x2).bind fun q9 =>
  some (q9, q4.2)))
  else
  (J_X5_between_63 q4.2)
def J_X5_between_38 (S : MS) (x1 : Int32) (x2 : Int32) (x3 : Int32) (y0 : Int32) : Option (Int64 × MS) :=
  (F_X5_refuse S y0 (1 : Int32)).bind fun q3 =>
  if q3.1 = 0 then
  (if x1 = x2 then
  (J_X5_between_56 q3.2 x1 x2 x3 (1 : Int32))
  else
  (J_X5_between_56 q3.2 x1 x2 x3 (0 : Int32)))
  else
  (J_X5_between_63 q3.2)
def J_X5_between_33 (S : MS) (x1 : Int32) (x2 : Int32) (x3 : Int32) : Option (Int64 × MS) :=
  J_X5_between_38 S x1 x2 x3 (1 : Int32)
def F_X5_between (S : MS) (x1 : Int32) (x2 : Int32) (x3 : Int32) : Option (Int64 × MS) :=
  (F_X5_begins S).bind fun q1 =>
  (F_X5_isShip q1 x1).bind fun q2 =>
  if q2 = 0 then
  (J_X5_between_33 q1 x1 x2 x3)
  else
  ((F_X5_isShip q1 x2).bind fun q10 =>
  if q10 = 0 then
  (J_X5_between_33 q1 x1 x2 x3)
  else
  ((F_X5_in x3.toInt64 (0 : Int64) (3 : Int64)).bind fun q11 =>
  if q11 = 0 then
  (J_X5_between_33 q1 x1 x2 x3)
  else
  (J_X5_between_38 q1 x1 x2 x3 (0 : Int32))))
def J_X5_back_18 (S : MS) (x1 : Int32) (y0 : Int32) : Option (Int64 × MS) :=
  (F_X5_refuse S y0 (1 : Int32)).bind fun q3 =>
  if q3.1 = 0 then
  ((F_X5_backOf (m_s q3.2) x1).bind fun q4 =>
  some (q4, q3.2))
  else
  (some ((-1 : Int64), q3.2))
def F_X5_back (S : MS) (x1 : Int32) : Option (Int64 × MS) :=
  (F_X5_begins S).bind fun q1 =>
  (F_X5_isClaim q1 x1).bind fun q2 =>
  if q2 = 0 then
  (J_X5_back_18 q1 x1 (1 : Int32))
  else
  (J_X5_back_18 q1 x1 (0 : Int32))
def J_X5_fund_52 (S : MS) (y0 : Int32) (y1 : Int32) : Option (Int32 × MS) :=
  (F_X5_fundOf (m_s S) y1 y0).bind fun q4 =>
  some (q4.toInt32, S)
def J_X5_fund_28 (S : MS) (x1 : Int32) (x2 : Int32) (y0 : Int32) : Option (Int32 × MS) :=
  (F_X5_refuse S y0 (1 : Int32)).bind fun q3 =>
  if q3.1 = 0 then
  (if x2 = 0 then
  (J_X5_fund_52 q3.2 (6 : Int32) x1)
  else
  (J_X5_fund_52 q3.2 (5 : Int32) x1))
  else
  (some ((-1 : Int32), q3.2))
def J_X5_fund_23 (S : MS) (x1 : Int32) (x2 : Int32) : Option (Int32 × MS) :=
  J_X5_fund_28 S x1 x2 (1 : Int32)
def F_X5_fund (S : MS) (x1 : Int32) (x2 : Int32) : Option (Int32 × MS) :=
  (F_X5_begins S).bind fun q1 =>
  (F_X5_isShip q1 x1).bind fun q2 =>
  if q2 = 0 then
  (J_X5_fund_23 q1 x1 x2)
  else
  ((F_X5_in x2.toInt64 (0 : Int64) (1 : Int64)).bind fun q5 =>
  if q5 = 0 then
  (J_X5_fund_23 q1 x1 x2)
  else
  (J_X5_fund_28 q1 x1 x2 (0 : Int32)))
def J_X5_pays_26 (S : MS) (x1 : Int32) (x2 : Int32) (y0 : Int32) : Option (Int32 × MS) :=
  (F_X5_refuse S y0 (1 : Int32)).bind fun q3 =>
  if q3.1 = 0 then
  ((F_X5_laysPaid q3.2).bind fun q4 =>
  (rdL (m_paid q4) ((((16 : Int32) * x1) + (4 : Int32)) + x2)).bind fun v5 =>
  some (v5.toInt32, q4))
  else
  (some ((-1 : Int32), q3.2))
def J_X5_pays_21 (S : MS) (x1 : Int32) (x2 : Int32) : Option (Int32 × MS) :=
  J_X5_pays_26 S x1 x2 (1 : Int32)
def F_X5_pays (S : MS) (x1 : Int32) (x2 : Int32) : Option (Int32 × MS) :=
  (F_X5_begins S).bind fun q1 =>
  (F_X5_isShip q1 x1).bind fun q2 =>
  if q2 = 0 then
  (J_X5_pays_21 q1 x1 x2)
  else
  ((F_X5_isClaim q1 x2).bind fun q6 =>
  if q6 = 0 then
  (J_X5_pays_21 q1 x1 x2)
  else
  (J_X5_pays_26 q1 x1 x2 (0 : Int32)))
def J_X5_paysTo_51 (S : MS) : Option (Int64 × MS) :=
  some ((-1 : Int64), S)
def J_X5_paysTo_44 (S : MS) (x1 : Int32) (x2 : Int32) (y0 : Int32) : Option (Int64 × MS) :=
  (F_X5_refuse S y0 (5 : Int32)).bind fun q4 =>
  if q4.1 = 0 then
  ((F_X5_laysPaid q4.2).bind fun q5 =>
  (rdL (m_paid q5) (((16 : Int32) * x1) + x2)).bind fun v6 =>
  some (v6, q5))
  else
  (J_X5_paysTo_51 q4.2)
def J_X5_paysTo_26 (S : MS) (x1 : Int32) (x2 : Int32) (y0 : Int32) : Option (Int64 × MS) :=
  (F_X5_refuse S y0 (1 : Int32)).bind fun q3 =>
  if q3.1 = 0 then
  (if x1 = x2 then
  (J_X5_paysTo_44 q3.2 x1 x2 (1 : Int32))
  else
  (J_X5_paysTo_44 q3.2 x1 x2 (0 : Int32)))
  else
  (J_X5_paysTo_51 q3.2)
def J_X5_paysTo_21 (S : MS) (x1 : Int32) (x2 : Int32) : Option (Int64 × MS) :=
  J_X5_paysTo_26 S x1 x2 (1 : Int32)
def F_X5_paysTo (S : MS) (x1 : Int32) (x2 : Int32) : Option (Int64 × MS) :=
  (F_X5_begins S).bind fun q1 =>
  (F_X5_isShip q1 x1).bind fun q2 =>
  if q2 = 0 then
  (J_X5_paysTo_21 q1 x1 x2)
  else
  ((F_X5_isShip q1 x2).bind fun q7 =>
  if q7 = 0 then
  (J_X5_paysTo_21 q1 x1 x2)
  else
  (J_X5_paysTo_26 q1 x1 x2 (0 : Int32)))
def B_X5_owedBy_5 (S : MS) (x1 : Int32) (k : Int64 → Option (Int64)) (rc : Int64 → Int32 → Option (Int64)) (x2 : Int64) (x4 : Int32) : Option (Int64) :=
  (rdI (m_s S) (0 : Int32)).bind fun v1 =>
  if v1 ≤ x4 then
  (k x2)
  else
  ((F_X5_lawOwed (m_s S) x1 x4).bind fun q2 =>
  nm ((x2 + q2) : Int64) fun v3 =>
  nm (x4 + 1 : Int32) fun v4 =>
  rc v3 v4)
def B_X5_owedBy_38 (S : MS) (x1 : Int32) (k : Int64 → Option (Int64)) (rc : Int64 → Int32 → Option (Int64)) (x2 : Int64) (x4 : Int32) : Option (Int64) :=
  (rdI (m_s S) (1 : Int32)).bind fun v6 =>
  if v6 ≤ x4 then
  (k x2)
  else
  ((F_X5_debtOf (m_s S) x1 x4).bind fun q7 =>
  nm ((x2 + q7) : Int64) fun v8 =>
  nm (x4 + 1 : Int32) fun v9 =>
  rc v8 v9)
def F_X5_owedBy (S : MS) (x1 : Int32) : Option (Int64) :=
  lo2 (B_X5_owedBy_5 S x1 (fun z5 => lo2 (B_X5_owedBy_38 S x1 (fun z10 => some z10)) FU z5 (0 : Int32))) FU (0 : Int64) (0 : Int32)
def J_X5_sum_28 (S : MS) (x1 : Int32) (x2 : Int32) (y0 : Int32) : Option (Int64 × MS) :=
  (F_X5_refuse S y0 (1 : Int32)).bind fun q3 =>
  if q3.1 = 0 then
  (if x2 = 0 then
  ((F_X5_owedBy q3.2 x1).bind fun q6 =>
  some (q6, q3.2))
  else
  ((F_X5_laysPaid q3.2).bind fun q4 =>
  (F_X5_paidBy q4 x1).bind fun q5 =>
  some (q5, q4)))
  else
  (some ((-1 : Int64), q3.2))
def J_X5_sum_23 (S : MS) (x1 : Int32) (x2 : Int32) : Option (Int64 × MS) :=
  J_X5_sum_28 S x1 x2 (1 : Int32)
def F_X5_sum (S : MS) (x1 : Int32) (x2 : Int32) : Option (Int64 × MS) :=
  (F_X5_begins S).bind fun q1 =>
  (F_X5_isShip q1 x1).bind fun q2 =>
  if q2 = 0 then
  (J_X5_sum_23 q1 x1 x2)
  else
  ((F_X5_in x2.toInt64 (0 : Int64) (1 : Int64)).bind fun q7 =>
  if q7 = 0 then
  (J_X5_sum_23 q1 x1 x2)
  else
  (J_X5_sum_28 q1 x1 x2 (0 : Int32)))
def J_X5_bites_18 (S : MS) (x1 : Int32) (y0 : Int32) : Option (Int32 × MS) :=
  (F_X5_refuse S y0 (1 : Int32)).bind fun q3 =>
  if q3.1 = 0 then
  ((F_X5_laysPaid q3.2).bind fun q4 =>
  (F_X5_paidBy q4 x1).bind fun q5 =>
  (F_X5_owedBy q4 x1).bind fun q6 =>
  if 0 ≤ (lg_cmp q5 q6) then
  (some ((0 : Int32), q4))
  else
  (some ((1 : Int32), q4)))
  else
  (some ((-1 : Int32), q3.2))
def F_X5_bites (S : MS) (x1 : Int32) : Option (Int32 × MS) :=
  (F_X5_begins S).bind fun q1 =>
  (F_X5_isShip q1 x1).bind fun q2 =>
  if q2 = 0 then
  (J_X5_bites_18 q1 x1 (1 : Int32))
  else
  (J_X5_bites_18 q1 x1 (0 : Int32))
def J_X5_gets_30 (S : MS) (x1 : Int32) (x2 : Int32) (y0 : Int32) : Option (Int64 × MS) :=
  (F_X5_refuse S y0 (1 : Int32)).bind fun q3 =>
  if q3.1 = 0 then
  ((F_X5_laysPaid q3.2).bind fun q4 =>
  if x2 = 0 then
  ((F_X5_paidTo q4 x1).bind fun q7 =>
  (F_X5_givenOf q4 x1).bind fun q8 =>
  some ((q7 - q8), q4))
  else
  (if x2 = (1 : Int32) then
  ((F_X5_givenOf q4 x1).bind fun q6 =>
  some (q6, q4))
  else
  ((F_X5_paidTo q4 x1).bind fun q5 =>
  some (q5, q4))))
  else
  (some ((-1 : Int64), q3.2))
def J_X5_gets_25 (S : MS) (x1 : Int32) (x2 : Int32) : Option (Int64 × MS) :=
  J_X5_gets_30 S x1 x2 (1 : Int32)
def F_X5_gets (S : MS) (x1 : Int32) (x2 : Int32) : Option (Int64 × MS) :=
  (F_X5_begins S).bind fun q1 =>
  (F_X5_isClaim q1 x1).bind fun q2 =>
  if q2 = 0 then
  (J_X5_gets_25 q1 x1 x2)
  else
  ((F_X5_in x2.toInt64 (0 : Int64) (2 : Int64)).bind fun q9 =>
  if q9 = 0 then
  (J_X5_gets_25 q1 x1 x2)
  else
  (J_X5_gets_30 q1 x1 x2 (0 : Int32)))
def J_X5_cover_96 (k : MS → Int64 → Option (Int64 × MS)) (rc : MS → Int64 → Int32 → Option (Int64 × MS)) (S : MS) (x1 : Int32) (x2 : Int32) (x5 : Int32) (y0 : Int64) (y1 : Int64) : Option (Int64 × MS) :=
  nm ((y1 - y0) : Int64) fun v8 =>
  nm (x5 + 1 : Int32) fun v9 =>
  rc S v8 v9
def B_X5_cover_52 (x1 : Int32) (x2 : Int32) (k : MS → Int64 → Option (Int64 × MS)) (rc : MS → Int64 → Int32 → Option (Int64 × MS)) (S : MS) (x3 : Int64) (x5 : Int32) : Option (Int64 × MS) :=
  (rdI (m_s S) (1 : Int32)).bind fun v6 =>
  if v6 ≤ x5 then
  (k S x3)
  else
  ((F_X5_ofClaim (m_s S) x5 (0 : Int32)).bind fun q7 =>
  if q7 = (1 : Int32) then
  ((rdL (m_paid S) ((((16 : Int32) * x1) + (4 : Int32)) + x5)).bind fun v10 =>
  J_X5_cover_96 k rc S x1 x2 x5 v10 x3)
  else
  (J_X5_cover_96 k rc S x1 x2 x5 (0 : Int64) x3))
def J_X5_cover_28 (S : MS) (x1 : Int32) (x2 : Int32) (y0 : Int32) : Option (Int64 × MS) :=
  (F_X5_refuse S y0 (1 : Int32)).bind fun q3 =>
  if q3.1 = 0 then
  ((F_X5_laysPaid q3.2).bind fun q4 =>
  (F_X5_paidBy q4 x1).bind fun q5 =>
  lo3 (B_X5_cover_52 x1 x2 (fun S11 z12 => (dvL (z12 * (3 : Int64)) (4 : Int64)).bind fun v13 =>
  (F_X5_ofShip (m_s S11) x1 (3 : Int32)).bind fun q14 =>
  (dvL (q14.toInt64 * (3 : Int64)) (4 : Int64)).bind fun v15 =>
  (F_X5_lesser v13 v15).bind fun q16 =>
  if x2 = 0 then
  (some (q16, S11))
  else
  ((F_X5_paidBy S11 x1).bind fun q17 =>
  some ((q17 - q16), S11)))) FU q4 q5 (0 : Int32))
  else
  (some ((-1 : Int64), q3.2))
def J_X5_cover_23 (S : MS) (x1 : Int32) (x2 : Int32) : Option (Int64 × MS) :=
  J_X5_cover_28 S x1 x2 (1 : Int32)
def F_X5_cover (S : MS) (x1 : Int32) (x2 : Int32) : Option (Int64 × MS) :=
  (F_X5_begins S).bind fun q1 =>
  (F_X5_isShip q1 x1).bind fun q2 =>
  if q2 = 0 then
  (J_X5_cover_23 q1 x1 x2)
  else
  ((F_X5_in x2.toInt64 (0 : Int64) (1 : Int64)).bind fun q18 =>
  if q18 = 0 then
  (J_X5_cover_23 q1 x1 x2)
  else
  (J_X5_cover_28 q1 x1 x2 (0 : Int32)))
def J_X5_net_18 (S : MS) (x1 : Int32) (y0 : Int32) : Option (Int64 × MS) :=
  (F_X5_refuse S y0 (1 : Int32)).bind fun q3 =>
  if q3.1 = 0 then
  ((F_X5_laysPaid q3.2).bind fun q4 =>
  (F_X5_netOf q4 x1).bind fun q5 =>
  some (q5, q4))
  else
  (some ((-1000000000000 : Int64), q3.2))
def F_X5_net (S : MS) (x1 : Int32) : Option (Int64 × MS) :=
  (F_X5_begins S).bind fun q1 =>
  (F_X5_isShip q1 x1).bind fun q2 =>
  if q2 = 0 then
  (J_X5_net_18 q1 x1 (1 : Int32))
  else
  (J_X5_net_18 q1 x1 (0 : Int32))
def B_X5_netWith_6 (x1 : Int32) (x2 : Int32) (k : MS → Option (Int64 × MS)) (rc : MS → Int32 → Option (Int64 × MS)) (S : MS) (x3 : Int32) : Option (Int64 × MS) :=
  if (3 : Int32) ≤ x3 then
  (k S)
  else
  ((wrI (m_w S) ((2 : Int32) + x3) ((x2 >>> (x3 &&& 31)) &&& (1 : Int32))).bind fun f2 =>
  nm (ms_w S f2 : MS) fun S3 =>
  nm (x3 + 1 : Int32) fun v4 =>
  rc S3 v4)
def F_X5_netWith (S : MS) (x1 : Int32) (x2 : Int32) : Option (Int64 × MS) :=
  (F_X5_lays S).bind fun q1 =>
  lo2 (B_X5_netWith_6 x1 x2 (fun S5 => (F_X5_paysAll S5).bind fun q6 =>
  (F_X5_netOf q6 x1).bind fun q7 =>
  some (q7, q6))) FU q1 (0 : Int32)
def J_X5_netBy_50 (S : MS) : Option (Int64 × MS) :=
  some ((-1000000000000 : Int64), S)
def J_X5_netBy_43 (S : MS) (x1 : Int32) (x2 : Int32) (y0 : Int32) : Option (Int64 × MS) :=
  (F_X5_refuse S y0 (2 : Int32)).bind fun q5 =>
  if q5.1 = 0 then
  ((F_X5_netWith q5.2 x1 x2).bind fun q6 =>
  some (q6.1, q6.2))
  else
  (J_X5_netBy_50 q5.2)
def J_X5_netBy_18 (S : MS) (x1 : Int32) (x2 : Int32) (y0 : Int32) : Option (Int64 × MS) :=
  (F_X5_refuse S y0 (1 : Int32)).bind fun q3 =>
  if q3.1 = 0 then
  ((F_X5_in x2.toInt64 (0 : Int64) (7 : Int64)).bind fun q4 =>
  if q4 = 0 then
  (J_X5_netBy_43 q3.2 x1 x2 (1 : Int32))
  else
  (J_X5_netBy_43 q3.2 x1 x2 (0 : Int32)))
  else
  (J_X5_netBy_50 q3.2)
def F_X5_netBy (S : MS) (x1 : Int32) (x2 : Int32) : Option (Int64 × MS) :=
  (F_X5_begins S).bind fun q1 =>
  (F_X5_isShip q1 x1).bind fun q2 =>
  if q2 = 0 then
  (J_X5_netBy_18 q1 x1 x2 (1 : Int32))
  else
  (J_X5_netBy_18 q1 x1 x2 (0 : Int32))
def J_X5_wished_68 (k : MS → Int32 → Option (Int32 × MS)) (rc : MS → Int32 → Int64 → Int32 → Option (Int32 × MS)) (S : MS) (x1 : Int32) (x2 : Int32) (x3 : Int64) (x5 : Int32) : Option (Int32 × MS) :=
  nm (x5 + 1 : Int32) fun v6 =>
  rc S x2 x3 v6
def B_X5_wished_39 (x1 : Int32) (k : MS → Int32 → Option (Int32 × MS)) (rc : MS → Int32 → Int64 → Int32 → Option (Int32 × MS)) (S : MS) (x2 : Int32) (x3 : Int64) (x5 : Int32) : Option (Int32 × MS) :=
  if (8 : Int32) ≤ x5 then
  (k S x2)
  else
  ((F_X5_netWith S x1 x5).bind fun q5 =>
  if (lg_cmp q5.1 x3) ≤ 0 then
  (J_X5_wished_68 k rc q5.2 x1 x2 x3 x5)
  else
  (J_X5_wished_68 k rc q5.2 x1 x5 q5.1 x5))
def J_X5_wished_18 (S : MS) (x1 : Int32) (y0 : Int32) : Option (Int32 × MS) :=
  (F_X5_refuse S y0 (1 : Int32)).bind fun q3 =>
  if q3.1 = 0 then
  ((F_X5_netWith q3.2 x1 (0 : Int32)).bind fun q4 =>
  lo4 (B_X5_wished_39 x1 (fun S7 z8 => some (z8, S7))) FU q4.2 (0 : Int32) q4.1 (1 : Int32))
  else
  (some ((-1 : Int32), q3.2))
def F_X5_wished (S : MS) (x1 : Int32) : Option (Int32 × MS) :=
  (F_X5_begins S).bind fun q1 =>
  (F_X5_isShip q1 x1).bind fun q2 =>
  if q2 = 0 then
  (J_X5_wished_18 q1 x1 (1 : Int32))
  else
  (J_X5_wished_18 q1 x1 (0 : Int32))
def J_X5_gap_18 (S : MS) (x1 : Int32) (y0 : Int32) : Option (Int64 × MS) :=
  (F_X5_refuse S y0 (1 : Int32)).bind fun q3 =>
  if q3.1 = 0 then
  ((rdI (m_s q3.2) (2 : Int32)).bind fun v4 =>
  (rdI (m_s q3.2) (3 : Int32)).bind fun v5 =>
  nm ((v4 + ((2 : Int32) * v5)) : Int32) fun v6 =>
  (F_X5_netWith q3.2 x1 (v6 + (4 : Int32))).bind fun q7 =>
  (F_X5_netWith q7.2 x1 v6).bind fun q8 =>
  some ((q7.1 - q8.1), q8.2))
  else
  (some ((-1000000000000 : Int64), q3.2))
def F_X5_gap (S : MS) (x1 : Int32) : Option (Int64 × MS) :=
  (F_X5_begins S).bind fun q1 =>
  (F_X5_isShip q1 x1).bind fun q2 =>
  if q2 = 0 then
  (J_X5_gap_18 q1 x1 (1 : Int32))
  else
  (J_X5_gap_18 q1 x1 (0 : Int32))
def B_X5_neededOf_10 (x1 : Int32) (k : MS → Int64 → Option (Int64 × MS)) (rc : MS → Int64 → Int32 → Option (Int64 × MS)) (S : MS) (x2 : Int64) (x4 : Int32) : Option (Int64 × MS) :=
  (rdI (m_w S) (0 : Int32)).bind fun v2 =>
  if v2 ≤ x4 then
  (k S x2)
  else
  ((F_X5_lawOwed (m_w S) x1 x4).bind fun q3 =>
  nm ((x2 + q3) : Int64) fun v4 =>
  nm (x4 + 1 : Int32) fun v5 =>
  rc S v4 v5)
def B_X5_neededOf_43 (x1 : Int32) (k : MS → Int64 → Option (Int64 × MS)) (rc : MS → Int64 → Int32 → Option (Int64 × MS)) (S : MS) (x2 : Int64) (x4 : Int32) : Option (Int64 × MS) :=
  (rdI (m_w S) (1 : Int32)).bind fun v8 =>
  if v8 ≤ x4 then
  (k S x2)
  else
  ((F_X5_debtOf (m_w S) x1 x4).bind fun q9 =>
  (rdL (m_out S) ((4 : Int32) + x4)).bind fun v10 =>
  nm ((x2 + (q9 - v10)) : Int64) fun v11 =>
  nm (x4 + 1 : Int32) fun v12 =>
  rc S v11 v12)
def F_X5_neededOf (S : MS) (x1 : Int32) : Option (Int64 × MS) :=
  (F_X5_sharesLives S x1).bind fun q1 =>
  lo3 (B_X5_neededOf_10 x1 (fun S6 z7 => lo3 (B_X5_neededOf_43 x1 (fun S13 z14 => some (z14, S13))) FU S6 z7 (0 : Int32))) FU q1 (0 : Int64) (0 : Int32)
def J_X5_enough_120 (k : MS → Int64 → Option (Int32 × MS)) (rc : MS → Int64 → Int32 → Option (Int32 × MS)) (S : MS) : Option (Int32 × MS) :=
  some ((-2 : Int32), S)
def J_X5_enough_130 (k : MS → Int64 → Option (Int32 × MS)) (rc : MS → Int64 → Int32 → Option (Int32 × MS)) (S : MS) (x1 : Int64) (x3 : Int32) : Option (Int32 × MS) :=
  nm (x3 + 1 : Int32) fun v12 =>
  rc S x1 v12
def B_X5_enough_34 (k : MS → Int64 → Option (Int32 × MS)) (rc : MS → Int64 → Int32 → Option (Int32 × MS)) (S : MS) (x1 : Int64) (x3 : Int32) : Option (Int32 × MS) :=
  (rdI (m_w S) (0 : Int32)).bind fun v4 =>
  if v4 ≤ x3 then
  (k S x1)
  else
  ((F_X5_ofShip (m_w S) x3 (5 : Int32)).bind fun q5 =>
  if q5 = (1 : Int32) then
  (J_X5_enough_130 k rc S x1 x3)
  else
  ((F_X5_neededOf S x3).bind fun q6 =>
  (F_X5_ofShip (m_w q6.2) x3 (0 : Int32)).bind fun q7 =>
  (rdI (m_w q6.2) (7 : Int32)).bind fun v8 =>
  (F_X5_greater q7.toInt64 v8.toInt64).bind fun q9 =>
  (dvL ((q6.1 + q9) - (1 : Int64)) q9).bind fun v10 =>
  if 0 < (lg_cmp q6.1 (2000000000 : Int64)) then
  (J_X5_enough_120 k rc q6.2)
  else
  (if (lg_cmp v10 (99999 : Int64)) ≤ 0 then
  ((F_X5_greater x1 v10).bind fun q11 =>
  J_X5_enough_130 k rc q6.2 q11 x3)
  else
  (J_X5_enough_120 k rc q6.2))))
def J_X5_enough_17 (S : MS) (y0 : Int32) : Option (Int32 × MS) :=
  (F_X5_refuse S y0 (1 : Int32)).bind fun q2 =>
  if q2.1 = 0 then
  ((F_X5_lays q2.2).bind fun q3 =>
  lo3 (B_X5_enough_34 (fun S13 z14 => some (z14.toInt32, S13))) FU q3 (0 : Int64) (0 : Int32))
  else
  (some ((-1 : Int32), q2.2))
def F_X5_enough (S : MS) : Option (Int32 × MS) :=
  (F_X5_begins S).bind fun q1 =>
  if (m_told q1) = 0 then
  (J_X5_enough_17 q1 (1 : Int32))
  else
  (J_X5_enough_17 q1 (0 : Int32))
def F_X5_netShifted (S : MS) (x1 : Int32) (x2 : Int32) (x3 : Int32) : Option (Int64 × MS) :=
  (F_X5_lays S).bind fun q1 =>
  (F_X5_ofShip (m_w q1) x1 (1 : Int32)).bind fun q2 =>
  (F_X5_ofShip (m_w q1) x2 (1 : Int32)).bind fun q3 =>
  nm ((q2 + q3) : Int32) fun v4 =>
  (wrI (m_w q1) (((10 : Int32) + ((6 : Int32) * x1)) + (1 : Int32)) x3).bind fun f5 =>
  nm (ms_w q1 f5 : MS) fun S6 =>
  (wrI (m_w S6) (((10 : Int32) + ((6 : Int32) * x2)) + (1 : Int32)) (v4 - x3)).bind fun f7 =>
  nm (ms_w S6 f7 : MS) fun S8 =>
  (F_X5_paysAll S8).bind fun q9 =>
  (F_X5_netOf q9 x1).bind fun q10 =>
  some (q10, q9)
def J_X5_would_51 (S : MS) : Option (Int64 × MS) :=
  some ((-1000000000000 : Int64), S)
def J_X5_would_90 (S : MS) (x1 : Int32) (x2 : Int32) (x3 : Int32) (y0 : Int32) : Option (Int64 × MS) :=
  (F_X5_refuse S y0 (2 : Int32)).bind fun q8 =>
  if q8.1 = 0 then
  ((F_X5_netShifted q8.2 x1 x2 x3).bind fun q9 =>
  some (q9.1, q9.2))
  else
  (some ((-1000000000000 : Int64), q8.2))
def J_X5_would_44 (S : MS) (x1 : Int32) (x2 : Int32) (x3 : Int32) (y0 : Int32) : Option (Int64 × MS) :=
  (F_X5_refuse S y0 (5 : Int32)).bind fun q4 =>
  if q4.1 = 0 then
  ((F_X5_ofShip (m_s q4.2) x1 (1 : Int32)).bind fun q5 =>
  (F_X5_ofShip (m_s q4.2) x2 (1 : Int32)).bind fun q6 =>
  (F_X5_in x3.toInt64 (0 : Int64) ((q5 + q6).toInt64)).bind fun q7 =>
  if q7 = 0 then
  (J_X5_would_90 q4.2 x1 x2 x3 (1 : Int32))
  else
  (J_X5_would_90 q4.2 x1 x2 x3 (0 : Int32)))
  else
  (J_X5_would_51 q4.2)
def J_X5_would_26 (S : MS) (x1 : Int32) (x2 : Int32) (x3 : Int32) (y0 : Int32) : Option (Int64 × MS) :=
  (F_X5_refuse S y0 (1 : Int32)).bind fun q3 =>
  if q3.1 = 0 then
  (if x1 = x2 then
  (J_X5_would_44 q3.2 x1 x2 x3 (1 : Int32))
  else
  (J_X5_would_44 q3.2 x1 x2 x3 (0 : Int32)))
  else
  (J_X5_would_51 q3.2)
def J_X5_would_21 (S : MS) (x1 : Int32) (x2 : Int32) (x3 : Int32) : Option (Int64 × MS) :=
  J_X5_would_26 S x1 x2 x3 (1 : Int32)
def F_X5_would (S : MS) (x1 : Int32) (x2 : Int32) (x3 : Int32) : Option (Int64 × MS) :=
  (F_X5_begins S).bind fun q1 =>
  (F_X5_isShip q1 x1).bind fun q2 =>
  if q2 = 0 then
  (J_X5_would_21 q1 x1 x2 x3)
  else
  ((F_X5_isShip q1 x2).bind fun q10 =>
  if q10 = 0 then
  (J_X5_would_21 q1 x1 x2 x3)
  else
  (J_X5_would_26 q1 x1 x2 x3 (0 : Int32)))
def B_X5_worse_104 (x1 : Int32) (x2 : Int32) (x3 : Int32) (x4 : Int32) (k : MS → Option (Int32 × MS)) (rc : MS → Int32 → Option (Int32 × MS)) (S : MS) (x5 : Int32) : Option (Int32 × MS) :=
  if x4 < x5 then
  (k S)
  else
  ((F_X5_netShifted S x1 x2 x5).bind fun q10 =>
  if 0 ≤ (lg_cmp q10.1 x3.toInt64) then
  (nm (x5 + 1 : Int32) fun v11 =>
  rc q10.2 v11)
  else
  (some (x5, q10.2)))
def J_X5_worse_71 (S : MS) (x1 : Int32) (x2 : Int32) (x3 : Int32) (y0 : Int32) : Option (Int32 × MS) :=
  (F_X5_refuse S y0 (5 : Int32)).bind fun q6 =>
  if q6.1 = 0 then
  ((F_X5_ofShip (m_s q6.2) x1 (1 : Int32)).bind fun q7 =>
  (F_X5_ofShip (m_s q6.2) x2 (1 : Int32)).bind fun q8 =>
  nm ((q7 + q8) : Int32) fun v9 =>
  lo2 (B_X5_worse_104 x1 x2 x3 v9 (fun S12 => some ((-2 : Int32), S12))) FU q6.2 (0 : Int32))
  else
  (some ((-1 : Int32), q6.2))
def J_X5_worse_53 (S : MS) (x1 : Int32) (x2 : Int32) (x3 : Int32) (y0 : Int32) : Option (Int32 × MS) :=
  (F_X5_refuse S y0 (2 : Int32)).bind fun q5 =>
  if q5.1 = 0 then
  (if x1 = x2 then
  (J_X5_worse_71 q5.2 x1 x2 x3 (1 : Int32))
  else
  (J_X5_worse_71 q5.2 x1 x2 x3 (0 : Int32)))
  else
  (some ((-1 : Int32), q5.2))
def J_X5_worse_26 (S : MS) (x1 : Int32) (x2 : Int32) (x3 : Int32) (y0 : Int32) : Option (Int32 × MS) :=
  (F_X5_refuse S y0 (1 : Int32)).bind fun q3 =>
  if q3.1 = 0 then
  ((F_X5_in x3.toInt64 (-1000000000 : Int64) (1000000000 : Int64)).bind fun q4 =>
  if q4 = 0 then
  (J_X5_worse_53 q3.2 x1 x2 x3 (1 : Int32))
  else
  (J_X5_worse_53 q3.2 x1 x2 x3 (0 : Int32)))
  else
  (some ((-1 : Int32), q3.2))
def J_X5_worse_21 (S : MS) (x1 : Int32) (x2 : Int32) (x3 : Int32) : Option (Int32 × MS) :=
  J_X5_worse_26 S x1 x2 x3 (1 : Int32)
def F_X5_worse (S : MS) (x1 : Int32) (x2 : Int32) (x3 : Int32) : Option (Int32 × MS) :=
  (F_X5_begins S).bind fun q1 =>
  (F_X5_isShip q1 x1).bind fun q2 =>
  if q2 = 0 then
  (J_X5_worse_21 q1 x1 x2 x3)
  else
  ((F_X5_isShip q1 x2).bind fun q13 =>
  if q13 = 0 then
  (J_X5_worse_21 q1 x1 x2 x3)
  else
  (J_X5_worse_26 q1 x1 x2 x3 (0 : Int32)))
def F_X5_draw (S : MS) (x1 : Int32) : Option (Int32 × MS) :=
  (rmL ((m_drawn S) * (48271 : Int64)) (2147483647 : Int64)).bind fun v1 =>
  nm (ms_drawn S v1 : MS) fun S2 =>
  (rmL (m_drawn S2) x1.toInt64).bind fun v3 =>
  some (v3.toInt32, S2)
def B_X5_netJudged_6 (x1 : Int32) (k : MS → Option (Int64 × MS)) (rc : MS → Int32 → Option (Int64 × MS)) (S : MS) (x2 : Int32) : Option (Int64 × MS) :=
  (rdI (m_w S) (0 : Int32)).bind fun v2 =>
  if v2 ≤ x2 then
  (k S)
  else
  ((wrI (m_w S) (((10 : Int32) + ((6 : Int32) * x2)) + (1 : Int32)) (0 : Int32)).bind fun f3 =>
  nm (ms_w S f3 : MS) fun S4 =>
  nm (x2 + 1 : Int32) fun v5 =>
  rc S4 v5)
def B_X5_netJudged_39 (x1 : Int32) (k : MS → Option (Int64 × MS)) (rc : MS → Int32 → Option (Int64 × MS)) (S : MS) (x2 : Int32) : Option (Int64 × MS) :=
  if (10 : Int32) ≤ x2 then
  (k S)
  else
  ((rdI (m_w S) (0 : Int32)).bind fun v7 =>
  (F_X5_draw S v7).bind fun q8 =>
  nm ((((10 : Int32) + ((6 : Int32) * q8.1)) + (1 : Int32)) : Int32) fun v9 =>
  (rdI (m_w q8.2) v9).bind fun v10 =>
  (wrI (m_w q8.2) v9 (v10 + (1 : Int32))).bind fun f11 =>
  nm (ms_w q8.2 f11 : MS) fun S12 =>
  nm (x2 + 1 : Int32) fun v13 =>
  rc S12 v13)
def F_X5_netJudged (S : MS) (x1 : Int32) : Option (Int64 × MS) :=
  (F_X5_lays S).bind fun q1 =>
  lo2 (B_X5_netJudged_6 x1 (fun S6 => lo2 (B_X5_netJudged_39 x1 (fun S14 => (F_X5_paysAll S14).bind fun q15 =>
  (F_X5_netOf q15 x1).bind fun q16 =>
  some (q16, q15))) FU S6 (0 : Int32))) FU q1 (0 : Int32)
def J_X5_judged_75 (S : MS) : Option (Int64 × MS) :=
  some ((-1000000000000 : Int64), S)
def J_X5_judged_153 (k : MS → Int64 → Int64 → Int64 → Option (Int64 × MS)) (rc : MS → Int64 → Int64 → Int64 → Int32 → Option (Int64 × MS)) (S : MS) (x1 : Int32) (x3 : Int32) (x4 : Int32) (x5 : Int64) (x7 : Int64) (x11 : Int32) (y0 : Int64) : Option (Int64 × MS) :=
  nm (x11 + 1 : Int32) fun v11 =>
  rc S x5 x7 y0 v11
def J_X5_judged_134 (k : MS → Int64 → Int64 → Int64 → Option (Int64 × MS)) (rc : MS → Int64 → Int64 → Int64 → Int32 → Option (Int64 × MS)) (S : MS) (x1 : Int32) (x3 : Int32) (x4 : Int32) (x5 : Int64) (x9 : Int64) (x11 : Int32) (x12 : Int64) (y0 : Int64) : Option (Int64 × MS) :=
  if x11 = 0 then
  (J_X5_judged_153 k rc S x1 x3 x4 x5 y0 x11 x12)
  else
  ((F_X5_greater x9 x12).bind fun q10 =>
  J_X5_judged_153 k rc S x1 x3 x4 x5 y0 x11 q10)
def B_X5_judged_97 (x1 : Int32) (x3 : Int32) (x4 : Int32) (k : MS → Int64 → Int64 → Int64 → Option (Int64 × MS)) (rc : MS → Int64 → Int64 → Int64 → Int32 → Option (Int64 × MS)) (S : MS) (x5 : Int64) (x7 : Int64) (x9 : Int64) (x11 : Int32) : Option (Int64 × MS) :=
  if x3 ≤ x11 then
  (k S x5 x7 x9)
  else
  ((F_X5_netJudged S x1).bind fun q7 =>
  nm ((x5 + q7.1) : Int64) fun v8 =>
  if x11 = 0 then
  (J_X5_judged_134 k rc q7.2 x1 x3 x4 v8 x9 x11 q7.1 q7.1)
  else
  ((F_X5_lesser x7 q7.1).bind fun q9 =>
  J_X5_judged_134 k rc q7.2 x1 x3 x4 v8 x9 x11 q7.1 q9))
def J_X5_judged_68 (S : MS) (x1 : Int32) (x2 : Int32) (x3 : Int32) (x4 : Int32) (y0 : Int32) : Option (Int64 × MS) :=
  (F_X5_refuse S y0 (2 : Int32)).bind fun q5 =>
  if q5.1 = 0 then
  (nm (ms_drawn q5.2 x2.toInt64 : MS) fun S6 =>
  lo5 (B_X5_judged_97 x1 x3 x4 (fun S12 z13 z14 z15 => if x4 = 0 then
  (some (z13, S12))
  else
  (if x4 = (1 : Int32) then
  (some (z14, S12))
  else
  (some (z15, S12))))) FU S6 (0 : Int64) (0 : Int64) (0 : Int64) (0 : Int32))
  else
  (J_X5_judged_75 q5.2)
def J_X5_judged_63 (S : MS) (x1 : Int32) (x2 : Int32) (x3 : Int32) (x4 : Int32) : Option (Int64 × MS) :=
  J_X5_judged_68 S x1 x2 x3 x4 (1 : Int32)
def J_X5_judged_31 (S : MS) (x1 : Int32) (x2 : Int32) (x3 : Int32) (x4 : Int32) (y0 : Int32) : Option (Int64 × MS) :=
  (F_X5_refuse S y0 (1 : Int32)).bind fun q3 =>
  if q3.1 = 0 then
  ((F_X5_in x2.toInt64 (1 : Int64) (2147483646 : Int64)).bind fun q4 =>
  if q4 = 0 then
  (J_X5_judged_63 q3.2 x1 x2 x3 x4)
  else
  ((F_X5_in x3.toInt64 (1 : Int64) (50 : Int64)).bind fun q16 =>
  if q16 = 0 then
  (J_X5_judged_63 q3.2 x1 x2 x3 x4)
  else
  (J_X5_judged_68 q3.2 x1 x2 x3 x4 (0 : Int32))))
  else
  (J_X5_judged_75 q3.2)
def J_X5_judged_26 (S : MS) (x1 : Int32) (x2 : Int32) (x3 : Int32) (x4 : Int32) : Option (Int64 × MS) :=
  J_X5_judged_31 S x1 x2 x3 x4 (1 : Int32)
def F_X5_judged (S : MS) (x1 : Int32) (x2 : Int32) (x3 : Int32) (x4 : Int32) : Option (Int64 × MS) :=
  (F_X5_begins S).bind fun q1 =>
  (F_X5_isShip q1 x1).bind fun q2 =>
  if q2 = 0 then
  (J_X5_judged_26 q1 x1 x2 x3 x4)
  else
  ((F_X5_in x4.toInt64 (0 : Int64) (2 : Int64)).bind fun q17 =>
  if q17 = 0 then
  (J_X5_judged_26 q1 x1 x2 x3 x4)
  else
  (J_X5_judged_31 q1 x1 x2 x3 x4 (0 : Int32)))
def B_X5_all_36 (k : MS → Int64 → Option (Int64 × MS)) (rc : MS → Int64 → Int32 → Option (Int64 × MS)) (S : MS) (x1 : Int64) (x3 : Int32) : Option (Int64 × MS) :=
  (rdI (m_w S) (0 : Int32)).bind fun v4 =>
  if v4 ≤ x3 then
  (k S x1)
  else
  ((F_X5_netOf S x3).bind fun q5 =>
  nm ((x1 + q5) : Int64) fun v6 =>
  nm (x3 + 1 : Int32) fun v7 =>
  rc S v6 v7)
def B_X5_all_62 (k : MS → Int64 → Option (Int64 × MS)) (rc : MS → Int64 → Int32 → Option (Int64 × MS)) (S : MS) (x1 : Int64) (x3 : Int32) : Option (Int64 × MS) :=
  (rdI (m_w S) (1 : Int32)).bind fun v10 =>
  if v10 ≤ x3 then
  (k S x1)
  else
  ((F_X5_paidTo S x3).bind fun q11 =>
  (F_X5_givenOf S x3).bind fun q12 =>
  nm ((x1 + (q11 - q12)) : Int64) fun v13 =>
  nm (x3 + 1 : Int32) fun v14 =>
  rc S v13 v14)
def J_X5_all_17 (S : MS) (y0 : Int32) : Option (Int64 × MS) :=
  (F_X5_refuse S y0 (1 : Int32)).bind fun q2 =>
  if q2.1 = 0 then
  ((F_X5_laysPaid q2.2).bind fun q3 =>
  lo3 (B_X5_all_36 (fun S8 z9 => lo3 (B_X5_all_62 (fun S15 z16 => some (z16, S15))) FU S8 z9 (0 : Int32))) FU q3 (0 : Int64) (0 : Int32))
  else
  (some ((-1000000000000 : Int64), q2.2))
def F_X5_all (S : MS) : Option (Int64 × MS) :=
  (F_X5_begins S).bind fun q1 =>
  if (m_told q1) = 0 then
  (J_X5_all_17 q1 (1 : Int32))
  else
  (J_X5_all_17 q1 (0 : Int32))
def B_X5_keeps_51 (k : MS → Option (MS)) (rc : MS → Int32 → Option (MS)) (S : MS) (x1 : Int32) : Option (MS) :=
  if (82 : Int32) ≤ x1 then
  (k S)
  else
  ((rdI (m_s S) x1).bind fun v1 =>
  (wrI (m_past S) (((82 : Int32) * (m_acts S)) + x1) v1).bind fun f2 =>
  nm (ms_past S f2 : MS) fun S3 =>
  nm (x1 + 1 : Int32) fun v4 =>
  rc S3 v4)
def J_X5_keeps_49 (S : MS) : Option (MS) :=
  lo2 (B_X5_keeps_51 (fun S5 => nm (ms_acts S5 ((m_acts S5) + (1 : Int32)) : MS) fun S6 =>
  some S6)) FU S (0 : Int32)
def B_X5_keeps_11 (k : MS → Option (MS)) (rc : MS → Int32 → Option (MS)) (S : MS) (x1 : Int32) : Option (MS) :=
  if (738 : Int32) ≤ x1 then
  (k S)
  else
  ((rdI (m_past S) (x1 + (82 : Int32))).bind fun v7 =>
  (wrI (m_past S) x1 v7).bind fun f8 =>
  nm (ms_past S f8 : MS) fun S9 =>
  nm (x1 + 1 : Int32) fun v10 =>
  rc S9 v10)
def F_X5_keeps (S : MS) : Option (MS) :=
  if (m_acts S) = (10 : Int32) then
  (lo2 (B_X5_keeps_11 (fun S11 => nm (ms_acts S11 ((m_acts S11) - (1 : Int32)) : MS) fun S12 =>
  J_X5_keeps_49 S12)) FU S (0 : Int32))
  else
  (J_X5_keeps_49 S)
def J_X5_shift_82 (S : MS) (x1 : Int32) (x2 : Int32) (x3 : Int32) (y0 : Int32) : Option (Int32 × MS) :=
  (F_X5_refuse S y0 (5 : Int32)).bind fun q6 =>
  if q6.1 = 0 then
  ((F_X5_keeps q6.2).bind fun q7 =>
  nm ((((10 : Int32) + ((6 : Int32) * x1)) + (1 : Int32)) : Int32) fun v8 =>
  (rdI (m_s q7) v8).bind fun v9 =>
  (wrI (m_s q7) v8 (v9 - x3)).bind fun f10 =>
  nm (ms_s q7 f10 : MS) fun S11 =>
  nm ((((10 : Int32) + ((6 : Int32) * x2)) + (1 : Int32)) : Int32) fun v12 =>
  (rdI (m_s S11) v12).bind fun v13 =>
  (wrI (m_s S11) v12 (v13 + x3)).bind fun f14 =>
  nm (ms_s S11 f14 : MS) fun S15 =>
  (F_X5_ofShip (m_s S15) x2 (1 : Int32)).bind fun q16 =>
  some (q16, S15))
  else
  (some ((-1 : Int32), q6.2))
def J_X5_shift_77 (S : MS) (x1 : Int32) (x2 : Int32) (x3 : Int32) : Option (Int32 × MS) :=
  J_X5_shift_82 S x1 x2 x3 (1 : Int32)
def J_X5_shift_51 (S : MS) (x1 : Int32) (x2 : Int32) (x3 : Int32) (y0 : Int32) : Option (Int32 × MS) :=
  (F_X5_refuse S y0 (2 : Int32)).bind fun q5 =>
  if q5.1 = 0 then
  (if x1 = x2 then
  (J_X5_shift_77 q5.2 x1 x2 x3)
  else
  ((F_X5_ofShip (m_s q5.2) x1 (1 : Int32)).bind fun q17 =>
  if x3 ≤ q17 then
  (J_X5_shift_82 q5.2 x1 x2 x3 (0 : Int32))
  else
  (J_X5_shift_77 q5.2 x1 x2 x3)))
  else
  (some ((-1 : Int32), q5.2))
def J_X5_shift_26 (S : MS) (x1 : Int32) (x2 : Int32) (x3 : Int32) (y0 : Int32) : Option (Int32 × MS) :=
  (F_X5_refuse S y0 (1 : Int32)).bind fun q3 =>
  if q3.1 = 0 then
  ((F_X5_in x3.toInt64 (1 : Int64) (10 : Int64)).bind fun q4 =>
  if q4 = 0 then
  (J_X5_shift_51 q3.2 x1 x2 x3 (1 : Int32))
  else
  (J_X5_shift_51 q3.2 x1 x2 x3 (0 : Int32)))
  else
  (some ((-1 : Int32), q3.2))
def J_X5_shift_21 (S : MS) (x1 : Int32) (x2 : Int32) (x3 : Int32) : Option (Int32 × MS) :=
  J_X5_shift_26 S x1 x2 x3 (1 : Int32)
def F_X5_shift (S : MS) (x1 : Int32) (x2 : Int32) (x3 : Int32) : Option (Int32 × MS) :=
  (F_X5_begins S).bind fun q1 =>
  (F_X5_isShip q1 x1).bind fun q2 =>
  if q2 = 0 then
  (J_X5_shift_21 q1 x1 x2 x3)
  else
  ((F_X5_isShip q1 x2).bind fun q18 =>
  if q18 = 0 then
  (J_X5_shift_21 q1 x1 x2 x3)
  else
  (J_X5_shift_26 q1 x1 x2 x3 (0 : Int32)))
def J_X5_file_159 (S : MS) (x3 : Int32) (x4 : Int32) (x5 : Int32) (y0 : Int32) (y1 : Int32) : Option (Int32 × MS) :=
  (wrI (m_s S) y1 y0).bind fun f12 =>
  nm (ms_s S f12 : MS) fun S13 =>
  (wrI (m_s S13) (x5 + (2 : Int32)) x3).bind fun f14 =>
  nm (ms_s S13 f14 : MS) fun S15 =>
  (wrI (m_s S15) (x5 + (3 : Int32)) x4).bind fun f16 =>
  nm (ms_s S15 f16 : MS) fun S17 =>
  (rdI (m_s S17) (1 : Int32)).bind fun v18 =>
  (wrI (m_s S17) (1 : Int32) (v18 + (1 : Int32))).bind fun f19 =>
  nm (ms_s S17 f19 : MS) fun S20 =>
  (rdI (m_s S20) (1 : Int32)).bind fun v21 =>
  some ((v21 - (1 : Int32)), S20)
def J_X5_file_105 (S : MS) (x1 : Int32) (x2 : Int32) (x3 : Int32) (x4 : Int32) (y0 : Int32) : Option (Int32 × MS) :=
  (F_X5_refuse S y0 (3 : Int32)).bind fun q6 =>
  if q6.1 = 0 then
  ((F_X5_keeps q6.2).bind fun q7 =>
  (rdI (m_s q7) (1 : Int32)).bind fun v8 =>
  nm (((34 : Int32) + ((4 : Int32) * v8)) : Int32) fun v9 =>
  (wrI (m_s q7) (v9 + (0 : Int32)) x1).bind fun f10 =>
  nm (ms_s q7 f10 : MS) fun S11 =>
  if x1 = 0 then
  (J_X5_file_159 S11 x3 x4 v9 x2 (v9 + (1 : Int32)))
  else
  (J_X5_file_159 S11 x3 x4 v9 (-2 : Int32) (v9 + (1 : Int32))))
  else
  (some ((-1 : Int32), q6.2))
def J_X5_file_81 (S : MS) (x1 : Int32) (x2 : Int32) (x3 : Int32) (x4 : Int32) (y0 : Int32) : Option (Int32 × MS) :=
  (F_X5_refuse S y0 (2 : Int32)).bind fun q4 =>
  if q4.1 = 0 then
  ((rdI (m_s q4.2) (1 : Int32)).bind fun v5 =>
  if v5 = (12 : Int32) then
  (J_X5_file_105 q4.2 x1 x2 x3 x4 (1 : Int32))
  else
  (J_X5_file_105 q4.2 x1 x2 x3 x4 (0 : Int32)))
  else
  (some ((-1 : Int32), q4.2))
def J_X5_file_76 (S : MS) (x1 : Int32) (x2 : Int32) (x3 : Int32) (x4 : Int32) : Option (Int32 × MS) :=
  J_X5_file_81 S x1 x2 x3 x4 (1 : Int32)
def J_X5_file_41 (S : MS) (x1 : Int32) (x2 : Int32) (x3 : Int32) (x4 : Int32) (y0 : Int32) : Option (Int32 × MS) :=
  (F_X5_refuse S y0 (1 : Int32)).bind fun q2 =>
  if q2.1 = 0 then
  ((F_X5_in x3.toInt64 (1 : Int64) (9999999 : Int64)).bind fun q3 =>
  if q3 = 0 then
  (J_X5_file_76 q2.2 x1 x2 x3 x4)
  else
  ((F_X5_in x4.toInt64 (0 : Int64) (999 : Int64)).bind fun q22 =>
  if q22 = 0 then
  (J_X5_file_76 q2.2 x1 x2 x3 x4)
  else
  (J_X5_file_81 q2.2 x1 x2 x3 x4 (0 : Int32))))
  else
  (some ((-1 : Int32), q2.2))
def J_X5_file_36 (S : MS) (x1 : Int32) (x2 : Int32) (x3 : Int32) (x4 : Int32) : Option (Int32 × MS) :=
  J_X5_file_41 S x1 x2 x3 x4 (1 : Int32)
def J_X5_file_40 (S : MS) (x1 : Int32) (x2 : Int32) (x3 : Int32) (x4 : Int32) : Option (Int32 × MS) :=
  J_X5_file_41 S x1 x2 x3 x4 (0 : Int32)
def F_X5_file (S : MS) (x1 : Int32) (x2 : Int32) (x3 : Int32) (x4 : Int32) : Option (Int32 × MS) :=
  (F_X5_begins S).bind fun q1 =>
  if (m_told q1) = 0 then
  (J_X5_file_36 q1 x1 x2 x3 x4)
  else
  ((F_X5_in x1.toInt64 (0 : Int64) (2 : Int64)).bind fun q23 =>
  if q23 = 0 then
  (J_X5_file_36 q1 x1 x2 x3 x4)
  else
  (if x1 = 0 then
  ((F_X5_isShip q1 x2).bind fun q24 =>
  if q24 = 0 then
  (J_X5_file_36 q1 x1 x2 x3 x4)
  else
  (J_X5_file_40 q1 x1 x2 x3 x4))
  else
  (J_X5_file_40 q1 x1 x2 x3 x4)))
def B_X5_withdraw_48 (k : MS → Option (Int32 × MS)) (rc : MS → Int32 → Option (Int32 × MS)) (S : MS) (x2 : Int32) : Option (Int32 × MS) :=
  (rdI (m_s S) (1 : Int32)).bind fun v9 =>
  if ((34 : Int32) + ((4 : Int32) * v9)) ≤ x2 then
  (k S)
  else
  ((rdI (m_s S) (x2 + (4 : Int32))).bind fun v10 =>
  (wrI (m_s S) x2 v10).bind fun f11 =>
  nm (ms_s S f11 : MS) fun S12 =>
  nm (x2 + 1 : Int32) fun v13 =>
  rc S12 v13)
def J_X5_withdraw_18 (S : MS) (x1 : Int32) (y0 : Int32) : Option (Int32 × MS) :=
  (F_X5_refuse S y0 (1 : Int32)).bind fun q3 =>
  if q3.1 = 0 then
  ((F_X5_keeps q3.2).bind fun q4 =>
  (rdI (m_s q4) (1 : Int32)).bind fun v5 =>
  (wrI (m_s q4) (1 : Int32) (v5 - (1 : Int32))).bind fun f6 =>
  nm (ms_s q4 f6 : MS) fun S7 =>
  nm (((34 : Int32) + ((4 : Int32) * x1)) : Int32) fun v8 =>
  lo2 (B_X5_withdraw_48 (fun S14 => (rdI (m_s S14) (1 : Int32)).bind fun v15 =>
  some (v15, S14))) FU S7 v8)
  else
  (some ((-1 : Int32), q3.2))
def F_X5_withdraw (S : MS) (x1 : Int32) : Option (Int32 × MS) :=
  (F_X5_begins S).bind fun q1 =>
  (F_X5_isClaim q1 x1).bind fun q2 =>
  if q2 = 0 then
  (J_X5_withdraw_18 q1 x1 (1 : Int32))
  else
  (J_X5_withdraw_18 q1 x1 (0 : Int32))
def J_X5_isWithin_52 (x1 : Int32) : Option (Int32) :=
  (F_X5_in x1.toInt64 (0 : Int64) (1 : Int64)).bind fun q3 =>
  zz q3 <|
  some q3
def J_X5_isWithin_42 (x1 : Int32) : Option (Int32) :=
  (F_X5_in x1.toInt64 (0 : Int64) (9999999 : Int64)).bind fun q4 =>
  zz q4 <|
  some q4
def F_X5_isWithin (x0 : Int32) (x1 : Int32) : Option (Int32) :=
  if x0 = (0 : Int32) then
  ((F_X5_in x1.toInt64 (1 : Int64) (99999 : Int64)).bind fun q2 =>
  zz q2 <|
  some q2)
  else
  if x0 = (1 : Int32) then
  (J_X5_isWithin_52 x1)
  else
  if x0 = (2 : Int32) then
  (J_X5_isWithin_42 x1)
  else
  if x0 = (3 : Int32) then
  (J_X5_isWithin_42 x1)
  else
  (J_X5_isWithin_52 x1)
def J_X5_become_56 (S : MS) (x1 : Int32) (x2 : Int32) (x3 : Int32) (y0 : Int32) : Option (Int32 × MS) :=
  (F_X5_refuse S y0 (2 : Int32)).bind fun q5 =>
  if q5.1 = 0 then
  ((F_X5_keeps q5.2).bind fun q6 =>
  (F_X5_ofShip (m_s q6) x1 x2).bind fun q7 =>
  (wrI (m_s q6) (((10 : Int32) + ((6 : Int32) * x1)) + x2) x3).bind fun f8 =>
  nm (ms_s q6 f8 : MS) fun S9 =>
  some (q7, S9))
  else
  (some ((-1 : Int32), q5.2))
def J_X5_become_35 (S : MS) (x1 : Int32) (x2 : Int32) (x3 : Int32) (y0 : Int32) : Option (Int32 × MS) :=
  (F_X5_refuse S y0 (1 : Int32)).bind fun q3 =>
  if q3.1 = 0 then
  ((F_X5_isWithin x2 x3).bind fun q4 =>
  if q4 = 0 then
  (J_X5_become_56 q3.2 x1 x2 x3 (1 : Int32))
  else
  (J_X5_become_56 q3.2 x1 x2 x3 (0 : Int32)))
  else
  (some ((-1 : Int32), q3.2))
def J_X5_become_30 (S : MS) (x1 : Int32) (x2 : Int32) (x3 : Int32) : Option (Int32 × MS) :=
  J_X5_become_35 S x1 x2 x3 (1 : Int32)
def F_X5_become (S : MS) (x1 : Int32) (x2 : Int32) (x3 : Int32) : Option (Int32 × MS) :=
  (F_X5_begins S).bind fun q1 =>
  (F_X5_isShip q1 x1).bind fun q2 =>
  if q2 = 0 then
  (J_X5_become_30 q1 x1 x2 x3)
  else
  ((F_X5_in x2.toInt64 (0 : Int64) (5 : Int64)).bind fun q10 =>
  if q10 = 0 then
  (J_X5_become_30 q1 x1 x2 x3)
  else
  (if x2 = (1 : Int32) then
  (J_X5_become_30 q1 x1 x2 x3)
  else
  (J_X5_become_35 q1 x1 x2 x3 (0 : Int32))))
def J_X5_law_120 (S : MS) (x1 : Int32) (x2 : Int32) (y0 : Int32) : Option (Int32 × MS) :=
  (F_X5_refuse S y0 (5 : Int32)).bind fun q9 =>
  if q9.1 = 0 then
  ((F_X5_keeps q9.2).bind fun q10 =>
  (rdI (m_s q10) x1).bind fun v11 =>
  (wrI (m_s q10) x1 x2).bind fun f12 =>
  nm (ms_s q10 f12 : MS) fun S13 =>
  some (v11, S13))
  else
  (some ((-1 : Int32), q9.2))
def J_X5_law_106 (S : MS) (x1 : Int32) (x2 : Int32) (x3 : Int32) (y0 : Int32) : Option (Int32 × MS) :=
  if x3 ≤ y0 then
  (J_X5_law_120 S x1 x2 (0 : Int32))
  else
  (J_X5_law_120 S x1 x2 (1 : Int32))
def J_X5_law_88 (S : MS) (x1 : Int32) (x2 : Int32) (y0 : Int32) : Option (Int32 × MS) :=
  if x1 = (9 : Int32) then
  (J_X5_law_106 S x1 x2 y0 x2)
  else
  ((rdI (m_s S) (9 : Int32)).bind fun v8 =>
  J_X5_law_106 S x1 x2 y0 v8)
def J_X5_law_62 (S : MS) (x1 : Int32) (x2 : Int32) (y0 : Int32) : Option (Int32 × MS) :=
  (F_X5_refuse S y0 (2 : Int32)).bind fun q6 =>
  if q6.1 = 0 then
  (if x1 = (8 : Int32) then
  (J_X5_law_88 q6.2 x1 x2 x2)
  else
  ((rdI (m_s q6.2) (8 : Int32)).bind fun v7 =>
  J_X5_law_88 q6.2 x1 x2 v7))
  else
  (some ((-1 : Int32), q6.2))
def J_X5_law_31 (S : MS) (x1 : Int32) (x2 : Int32) (y0 : Int32) : Option (Int32 × MS) :=
  (F_X5_refuse S y0 (1 : Int32)).bind fun q2 =>
  if q2.1 = 0 then
  ((F_X5_lowOf x1).bind fun q3 =>
  (F_X5_highOf x1).bind fun q4 =>
  (F_X5_in x2.toInt64 q3.toInt64 q4.toInt64).bind fun q5 =>
  if q5 = 0 then
  (J_X5_law_62 q2.2 x1 x2 (1 : Int32))
  else
  (J_X5_law_62 q2.2 x1 x2 (0 : Int32)))
  else
  (some ((-1 : Int32), q2.2))
def J_X5_law_26 (S : MS) (x1 : Int32) (x2 : Int32) : Option (Int32 × MS) :=
  J_X5_law_31 S x1 x2 (1 : Int32)
def F_X5_law (S : MS) (x1 : Int32) (x2 : Int32) : Option (Int32 × MS) :=
  (F_X5_begins S).bind fun q1 =>
  if (m_told q1) = 0 then
  (J_X5_law_26 q1 x1 x2)
  else
  ((F_X5_in x1.toInt64 (2 : Int64) (9 : Int64)).bind fun q14 =>
  if q14 = 0 then
  (J_X5_law_26 q1 x1 x2)
  else
  (J_X5_law_31 q1 x1 x2 (0 : Int32)))
def B_X5_undo_58 (k : MS → Option (Int32 × MS)) (rc : MS → Int32 → Option (Int32 × MS)) (S : MS) (x1 : Int32) : Option (Int32 × MS) :=
  if (82 : Int32) ≤ x1 then
  (k S)
  else
  ((rdI (m_past S) (((82 : Int32) * (m_acts S)) + x1)).bind fun v5 =>
  (wrI (m_s S) x1 v5).bind fun f6 =>
  nm (ms_s S f6 : MS) fun S7 =>
  nm (x1 + 1 : Int32) fun v8 =>
  rc S7 v8)
def J_X5_undo_37 (S : MS) (y0 : Int32) : Option (Int32 × MS) :=
  (F_X5_refuse S y0 (5 : Int32)).bind fun q3 =>
  if q3.1 = 0 then
  (nm (ms_acts q3.2 ((m_acts q3.2) - (1 : Int32)) : MS) fun S4 =>
  lo2 (B_X5_undo_58 (fun S9 => some (m_acts S9, S9))) FU S4 (0 : Int32))
  else
  (some ((-1 : Int32), q3.2))
def J_X5_undo_17 (S : MS) (y0 : Int32) : Option (Int32 × MS) :=
  (F_X5_refuse S y0 (1 : Int32)).bind fun q2 =>
  if q2.1 = 0 then
  (if (m_acts q2.2) = 0 then
  (J_X5_undo_37 q2.2 (1 : Int32))
  else
  (J_X5_undo_37 q2.2 (0 : Int32)))
  else
  (some ((-1 : Int32), q2.2))
def F_X5_undo (S : MS) : Option (Int32 × MS) :=
  (F_X5_begins S).bind fun q1 =>
  if (m_told q1) = 0 then
  (J_X5_undo_17 q1 (1 : Int32))
  else
  (J_X5_undo_17 q1 (0 : Int32))
def B_X5_image_38 (x1 : Int32) (k : MS → Option (Int32 × MS)) (rc : MS → Int32 → Option (Int32 × MS)) (S : MS) (x2 : Int32) : Option (Int32 × MS) :=
  if (82 : Int32) ≤ x2 then
  (k S)
  else
  ((rdI (m_s S) x2).bind fun v3 =>
  (wrI (m_kept S) (((82 : Int32) * x1) + x2) v3).bind fun f4 =>
  nm (ms_kept S f4 : MS) fun S5 =>
  nm (x2 + 1 : Int32) fun v6 =>
  rc S5 v6)
def J_X5_image_27 (S : MS) (x1 : Int32) (y0 : Int32) : Option (Int32 × MS) :=
  (F_X5_refuse S y0 (1 : Int32)).bind fun q2 =>
  if q2.1 = 0 then
  (lo2 (B_X5_image_38 x1 (fun S7 => (wrI (m_isKept S7) x1 (1 : Int32)).bind fun f8 =>
  nm (ms_isKept S7 f8 : MS) fun S9 =>
  some ((1 : Int32), S9))) FU q2.2 (0 : Int32))
  else
  (some ((0 : Int32), q2.2))
def J_X5_image_22 (S : MS) (x1 : Int32) : Option (Int32 × MS) :=
  J_X5_image_27 S x1 (1 : Int32)
def F_X5_image (S : MS) (x1 : Int32) : Option (Int32 × MS) :=
  (F_X5_begins S).bind fun q1 =>
  if (m_told q1) = 0 then
  (J_X5_image_22 q1 x1)
  else
  ((F_X5_in x1.toInt64 (0 : Int64) (1 : Int64)).bind fun q10 =>
  if q10 = 0 then
  (J_X5_image_22 q1 x1)
  else
  (J_X5_image_27 q1 x1 (0 : Int32)))
def B_X5_again_47 (x1 : Int32) (k : MS → Option (Int32 × MS)) (rc : MS → Int32 → Option (Int32 × MS)) (S : MS) (x2 : Int32) : Option (Int32 × MS) :=
  if (82 : Int32) ≤ x2 then
  (k S)
  else
  ((rdI (m_kept S) (((82 : Int32) * x1) + x2)).bind fun v3 =>
  (wrI (m_s S) x2 v3).bind fun f4 =>
  nm (ms_s S f4 : MS) fun S5 =>
  nm (x2 + 1 : Int32) fun v6 =>
  rc S5 v6)
def J_X5_again_36 (S : MS) (x1 : Int32) (y0 : Int32) : Option (Int32 × MS) :=
  (F_X5_refuse S y0 (1 : Int32)).bind fun q2 =>
  if q2.1 = 0 then
  (lo2 (B_X5_again_47 x1 (fun S7 => nm (ms_acts S7 (0 : Int32) : MS) fun S8 =>
  some ((1 : Int32), S8))) FU q2.2 (0 : Int32))
  else
  (some ((0 : Int32), q2.2))
def J_X5_again_31 (S : MS) (x1 : Int32) : Option (Int32 × MS) :=
  J_X5_again_36 S x1 (1 : Int32)
def F_X5_again (S : MS) (x1 : Int32) : Option (Int32 × MS) :=
  (F_X5_begins S).bind fun q1 =>
  if (m_told q1) = 0 then
  (J_X5_again_31 q1 x1)
  else
  ((F_X5_in x1.toInt64 (0 : Int64) (1 : Int64)).bind fun q9 =>
  if q9 = 0 then
  (J_X5_again_31 q1 x1)
  else
  ((rdI (m_isKept q1) x1).bind fun v10 =>
  if v10 = 0 then
  (J_X5_again_31 q1 x1)
  else
  (J_X5_again_36 q1 x1 (0 : Int32))))
