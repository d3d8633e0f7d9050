/-! ===== level 2: the class's settling ===== -/
section CSE
variable {T : TS} {N K : Nat} {c : Nat → Nat} {wt : Fin 4 → Int32} {bk : Fin 16 → Int64}
theorem addRow_two {n : Nat} (i : Nat) (a b P : Nat → Nat) : (aL (addRow i b (addRow i a P)) : Fin n → Int64) = aL (addRow i (fun q => a q + b q) P) := aL_eq fun z _ => by
  unfold addRow
  by_cases h : z / 16 = i
  · rw [if_pos h, if_pos h, if_pos h, Nat.add_assoc]
  · rw [if_neg h, if_neg h, if_neg h]
theorem addRow_eq {n : Nat} (i : Nat) {a b : Nat → Nat} (P : Nat → Nat) (h : ∀ q, q < 16 → a q = b q) : (aL (addRow i a P) : Fin n → Int64) = aL (addRow i b P) := aL_eq fun z _ => by
  unfold addRow
  rw [h (z % 16) (by omega)]
theorem addRow_at {i : Nat} (a P : Nat → Nat) {q : Nat} (hq : q < 16) (h0 : P (16 * i + q) = 0) : addRow i a P (16 * i + q) = a q := by
  unfold addRow
  rw [if_pos (show (16 * i + q) / 16 = i by omega), show (16 * i + q) % 16 = q by omega, h0, Nat.zero_add]
def LkOK (N K : Nat) (c : Nat → Nat) (which rd i : Nat) (O P l : Nat → Nat) : Prop := ∀ q, q < 16 → (tkP N K c which rd q → P (16 * i + q) ≤ O (16 * i + q) ∧ l q = O (16 * i + q) - P (16 * i + q)) ∧ (¬ tkP N K c which rd q → l q = 0)
theorem C_payRound (hR : RowT T N K c) (hO : OKc N K c) {which rd i : Nat} (hw : which = 5 ∨ which = 6) (hrd : rd < 2) (hi : i < N) (O P l : Nat → Nat) (hl : LkOK N K c which rd i O P l) {g : Nat} (hg : g ≤ 2000000000) (ho : ∀ k, k < 16 → l k ≤ 200000000) (lk : Fin 16 → Int64) (ws : Int32) :
    ∃ lk2, ∀ k9 rc, B_X1_payOutOf_13 (nI i) (nI which) k9 rc (rk T wt bk (aL O) (aL P) lk ws) (lN g) (nI rd) = rc (rk T wt bk (aL O) (aL (addRow i (shp l g) P)) lk2 ws) (lN (g - sN l 16)) (nI (rd + 1)) := by
  have hN := hO.1
  have hall : sN l 16 ≤ 3200000000 := by
    have := sN_bd (f := l) (c := 200000000) (n := 16) ho
    omega
  have hJ : ∀ (k9 : RS → Option RS) rc S x, J_X1_payOutOf_59 k9 rc S (nI i) (nI which) x (nI rd) = rc S x (nI (rd + 1)) := by
    intro k9 rc S x
    unfold J_X1_payOutOf_59
    rw [nm_eq, nI_1]
  have hgo : ¬ (1 : Int32) < nI rd := by
    rw [show (1 : Int32) = nI 1 from rfl, nI_ltI (by omega) (by omega)]
    omega
  by_cases h : sN l 16 ≤ g
  · refine ⟨aL l, fun k9 rc => ?_⟩
    unfold B_X1_payOutOf_13
    rw [if_neg hgo, C_findLacks hR hO hw hrd hi O P l hl, bs, if_pos ((lg_cmp_le _ _).mpr ((pk_lLE (by omega) (by omega)).mpr h)), C_payLacks (by omega), bs, nm_eq, lN_sub h, hJ, addRow_eq i (b := shp l g) P (fun q _ => (if_pos h).symm)]
  · obtain ⟨lk2, e⟩ := C_shareScarce (T := T) (wt := wt) (bk := bk) (i := i) (f := g) (by omega) O P l hg ho (by omega) ws
    refine ⟨lk2, fun k9 rc => ?_⟩
    unfold B_X1_payOutOf_13
    rw [if_neg hgo, C_findLacks hR hO hw hrd hi O P l hl, bs, if_neg (fun z => h ((pk_lLE (by omega) (by omega)).mp ((lg_cmp_le _ _).mp z))), e, bs, hJ, show g - sN l 16 = 0 by omega]
    rfl
theorem C_payOutOf (hR : RowT T N K c) (hO : OKc N K c) {which i : Nat} (hw : which = 5 ∨ which = 6) (hi : i < N) (O P l0 l1 : Nat → Nat)
    (h0 : LkOK N K c which 0 i O P l0) (h1 : LkOK N K c which 1 i O (addRow i (shp l0 (fdN c i which)) P) l1)
    (b0 : ∀ k, k < 16 → l0 k ≤ 200000000) (b1 : ∀ k, k < 16 → l1 k ≤ 200000000) (lk : Fin 16 → Int64) (ws : Int32) :
    ∃ lk2, F_X1_payOutOf (rk T wt bk (aL O) (aL P) lk ws) (nI i) (nI which) = some (rk T wt bk (aL O) (aL (addRow i (fun q => shp l0 (fdN c i which) q + shp l1 (fdN c i which - sN l0 16) q) P)) lk2 ws) := by
  have hfl := fdN_le c i which
  obtain ⟨lk1, e1⟩ := C_payRound (wt := wt) (bk := bk) hR hO hw (rd := 0) (by omega) hi O P l0 h0 hfl b0 lk ws
  obtain ⟨lk2, e2⟩ := C_payRound (wt := wt) (bk := bk) hR hO hw (rd := 1) (by omega) hi O _ l1 h1 (g := fdN c i which - sN l0 16) (by omega) b1 lk1 ws
  refine ⟨lk2, ?_⟩
  unfold F_X1_payOutOf
  rw [rk_t, C_fundOf hR hO hi hw, bs, FU_eq]
  refine ((lo3_s _ 999 _ _ _).trans (e1 _ _)).trans ?_
  refine ((lo3_s _ 998 _ _ _).trans (e2 _ _)).trans ?_
  refine (lo3_s _ 997 _ _ _).trans ?_
  have key : ∀ (k9 : RS → Option RS) rc S x, B_X1_payOutOf_13 (nI i) (nI which) k9 rc S x (nI (1 + 1)) = k9 S := by
    intro k9 rc S x
    unfold B_X1_payOutOf_13
    rw [if_pos (by decide)]
  rw [key, addRow_two]
theorem oS_at {i q : Nat} (hi : i < N) (hq : q < 16) : oS N K c N 0 (16 * i + q) = payB N K c i q := by
  unfold oS payB oC
  rw [show (16 * i + q) % 16 = q by omega, show (16 * i + q) / 16 = i by omega]
  by_cases h : q < 4
  · rw [if_pos h, if_pos h]
    by_cases h2 : q < N
    · rw [if_pos h2, if_pos ⟨h2, Or.inl hi⟩]
    · rw [if_neg h2, if_neg (fun z => h2 z.1)]
  · rw [if_neg h, if_neg h, if_pos hi]
    by_cases h2 : q < 4 + K
    · rw [if_pos h2, if_pos ⟨by omega, h2⟩]
    · rw [if_neg h2, if_neg (fun z => h2 z.2)]
theorem C_rowCopy {i : Nat} (hi : i < 4) (O P : Nat → Nat) : cpL (n0 := 64) (n1 := 64) (exL (aL (n := 64) O)) (aL P) (nI i * (16 : Int32)) (nI i * (16 : Int32)) 16 = some (aL (fun z => if z / 16 = i then O z else P z)) := by
  have h1 : (nI i * (16 : Int32)).toNatClampNeg = 16 * i := by
    rcases (show i = 0 ∨ i = 1 ∨ i = 2 ∨ i = 3 by omega) with h | h | h | h <;> subst h <;> decide
  have h2 : cpOK 64 64 (nI i * (16 : Int32)) (nI i * (16 : Int32)) 16 = true := by
    rcases (show i = 0 ∨ i = 1 ∨ i = 2 ∨ i = 3 by omega) with h | h | h | h <;> subst h <;> decide
  unfold cpL
  rw [if_pos h2, h1, show (16 : Int32).toNatClampNeg = 16 from rfl]
  refine congrArg some (funext fun j => ?_)
  have hj := j.2
  unfold va_cpy
  by_cases h : j.1 / 16 = i
  · rw [if_pos ⟨by omega, by omega⟩, exL_aL _ (by omega), show 16 * i + (j.1 - 16 * i) = j.1 by omega]
    show _ = lN (if j.1 / 16 = i then O j.1 else P j.1)
    rw [if_pos h]
  · rw [if_neg (by omega), exL_aL _ hj]
    show _ = lN (if j.1 / 16 = i then O j.1 else P j.1)
    rw [if_neg h]
def pP (N K : Nat) (c : Nat → Nat) (n : Nat) : Nat → Nat := fun z => if z / 16 < n then payN N K c (z / 16) (z % 16) else 0
theorem lvU_lt4 {i q : Nat} (hq : q < 4) : lvU N K c i q = 0 := by
  have z : ∀ rd, oPg N c i rd K q = 0 := fun rd => by
    unfold oPg
    rw [if_neg (by omega)]
  have h0 : shp (oPg N c i 0 K) (fdN c i 6) q ≤ oPg N c i 0 K q := shp_le _
  have h1 : shp (oPg N c i 1 K) (fdN c i 6 - sN (oPg N c i 0 K) 16) q ≤ oPg N c i 1 K q := shp_le _
  rw [z] at h0 h1
  show _ + _ = 0
  omega
/-- what a ship pays, as one step of the class's loop over its ships -/
def payOne (S : RS) (x1 : Int32) : Option (RS) :=
  (F_X2_ofShip (r_told S) x1 (5 : Int32)).bind fun q1 =>
  if q1 = (1 : Int32) then
  ((cpL (n0 := 64) (exL (r_owed S)) (r_paid S) (x1 * (16 : Int32)) (x1 * (16 : Int32)) (16 : Int32)).bind fun f4 =>
  nm (rs_paid S f4 : RS) fun S5 =>
  some S5)
  else
  ((F_X1_payOutOf S x1 (6 : Int32)).bind fun q2 =>
  (F_X1_payOutOf q2 x1 (5 : Int32)).bind fun q3 =>
  some q3)
theorem settle_step (k : RS → Option RS) (rc : RS → Int32 → Option RS) (S : RS) (x1 : Int32) (h : ¬ t_ships (r_told S) ≤ x1) : B_X1_settle_42 k rc S x1 = (payOne S x1).bind fun q => rc q (x1 + 1) := by
  unfold B_X1_settle_42 J_X1_settle_87 payOne F_X1_payAll
  rw [if_neg h]
  cases F_X2_ofShip (r_told S) x1 5 with
  | none => rfl
  | some v =>
    rw [bs, bs]
    by_cases hv : v = 1
    · rw [if_pos hv, if_pos hv]
      exact congrArg (Option.bind _) (funext fun q => nm_eq _ _)
    · rw [if_neg hv, if_neg hv, Option.bind_assoc]
      refine congrArg (Option.bind _) (funext fun q2 => ?_)
      rw [Option.bind_assoc]
      exact congrArg (Option.bind _) (funext fun q3 => nm_eq _ _)
theorem C_pay (hR : RowT T N K c) (hO : OKc N K c) {i : Nat} (hi : i < N) (lk : Fin 16 → Int64) (ws : Int32) : ∃ lk2, payOne (rk T wt bk (aL (oS N K c N 0)) (aL (pP N K c i)) lk ws) (nI i) = some (rk T wt bk (aL (oS N K c N 0)) (aL (pP N K c (i + 1))) lk2 ws) := by
  have hN := hO.1
  have e5 : F_X2_ofShip T (nI i) 5 = some (nI (c (10 + 6 * i + 5))) := C_sh hR hO hi (w := 5) (by decide)
  have hb := (hO.2.2.1 i hi).2.2.2.2.2.2
  have hz : ∀ q, q < 16 → pP N K c i (16 * i + q) = 0 := fun q hq => by
    unfold pP
    rw [if_neg (by omega)]
  unfold payOne
  rw [rk_t, e5, bs]
  by_cases h5 : c (10 + 6 * i + 5) = 1
  · refine ⟨lk, ?_⟩
    have hpay : payN N K c i = payB N K c i := if_pos h5
    rw [if_pos (by rw [h5]; rfl), rk_o, rk_p, C_rowCopy (by omega), bs, nm_eq, rk_sp]
    refine congrArg (fun z => some (rk T wt bk (aL (oS N K c N 0)) z lk ws)) (aL_eq fun z hz2 => ?_)
    unfold pP
    by_cases h : z / 16 = i
    · rw [if_pos h, if_pos (by omega), h, hpay, ← oS_at hi (show z % 16 < 16 by omega), show 16 * i + z % 16 = z by omega]
    · rw [if_neg h]
      by_cases h2 : z / 16 < i
      · rw [if_pos h2, if_pos (by omega)]
      · rw [if_neg h2, if_neg (by omega)]
  · have hpay : payN N K c i = payU N K c i := if_neg h5
    have hOat : ∀ q, 4 ≤ q → q - 4 < K → q < 16 → oS N K c N 0 (16 * i + q) = dN N c i (q - 4) := fun q h1 h2 h3 => by
      rw [oS_at hi h3]
      unfold payB
      rw [if_neg (by omega), if_pos (by omega)]
    have l0 : LkOK N K c 6 0 i (oS N K c N 0) (pP N K c i) (oPg N c i 0 K) := fun q hq => ⟨fun ht => by
      rcases ht with ht | ht
      · omega
      · have hc1 : c (34 + 4 * (q - 4)) = 1 := by omega
        rw [hz q hq, hOat q ht.1 ht.2.1 hq]
        refine ⟨by omega, ?_⟩
        unfold oPg
        rw [if_pos ⟨ht.1, by omega, hc1, ht.2.2.1⟩, Nat.sub_zero], fun ht => by
      unfold oPg
      rw [if_neg (fun z => ht (Or.inr ⟨z.1, by omega, z.2.2.2, Or.inr z.2.2.1⟩))]⟩
    have l1 : LkOK N K c 6 1 i (oS N K c N 0) (addRow i (shp (oPg N c i 0 K) (fdN c i 6)) (pP N K c i)) (oPg N c i 1 K) := fun q hq => ⟨fun ht => by
      rcases ht with ht | ht
      · omega
      · have hc1 : c (34 + 4 * (q - 4)) = 1 := by omega
        have hs : shp (oPg N c i 0 K) (fdN c i 6) q ≤ oPg N c i 0 K q := shp_le _
        have hs0 : oPg N c i 0 K q = 0 := by
          unfold oPg
          rw [if_neg (fun z => by omega)]
        rw [addRow_at _ _ hq (hz q hq), hOat q ht.1 ht.2.1 hq, show shp (oPg N c i 0 K) (fdN c i 6) q = 0 by omega]
        refine ⟨by omega, ?_⟩
        unfold oPg
        rw [if_pos ⟨ht.1, by omega, hc1, ht.2.2.1⟩, Nat.sub_zero], fun ht => by
      unfold oPg
      rw [if_neg (fun z => ht (Or.inr ⟨z.1, by omega, z.2.2.2, Or.inr z.2.2.1⟩))]⟩
    obtain ⟨lk1, e1⟩ := C_payOutOf (wt := wt) (bk := bk) hR hO (Or.inr rfl) hi (oS N K c N 0) (pP N K c i) _ _ l0 l1 (fun k _ => oPg_le hO hi k) (fun k _ => oPg_le hO hi k) lk ws
    have e1' : F_X1_payOutOf (rk T wt bk (aL (oS N K c N 0)) (aL (pP N K c i)) lk ws) (nI i) 6 = some (rk T wt bk (aL (oS N K c N 0)) (aL (addRow i (lvU N K c i) (pP N K c i))) lk1 ws) := e1
    have r0 : LkOK N K c 5 0 i (oS N K c N 0) (addRow i (lvU N K c i) (pP N K c i)) (oAg N K c i 0 (lvU N K c i) K) := fun q hq => ⟨fun ht => by
      rw [addRow_at _ _ hq (hz q hq)]
      rcases ht with ht | ht
      · rw [lvU_lt4 ht.1, oS_at hi hq]
        refine ⟨by omega, ?_⟩
        unfold oAg oAs payB
        rw [if_pos ht.1, if_pos ht.1, if_pos ht.2.1, if_pos ⟨rfl, ht.2.1⟩, Nat.sub_zero]
      · have := lvU_le (N := N) (K := K) (c := c) (i := i) (q - 4)
        rw [show 4 + (q - 4) = q by omega] at this
        rw [hOat q ht.1 ht.2.1 hq]
        refine ⟨this, ?_⟩
        unfold oAg
        rw [if_neg (by omega), if_pos ⟨by omega, ht.2.2.1⟩], fun ht => by
      unfold oAg oAs
      by_cases h : q < 4
      · rw [if_pos h, if_neg (fun z => ht (Or.inl ⟨h, z.2, rfl, rfl⟩))]
      · rw [if_neg h, if_neg (fun z => ht (Or.inr ⟨by omega, by omega, z.2, Or.inl rfl⟩))]⟩
    have r1 : LkOK N K c 5 1 i (oS N K c N 0) (addRow i (rtU N K c i) (pP N K c i)) (oAg N K c i 1 (rtU N K c i) K) := fun q hq => ⟨fun ht => by
      rw [addRow_at _ _ hq (hz q hq)]
      rcases ht with ht | ht
      · omega
      · have := rtU_le (N := N) (K := K) (c := c) (i := i) (q - 4) ht.2.2.1
        rw [show 4 + (q - 4) = q by omega] at this
        rw [hOat q ht.1 ht.2.1 hq]
        refine ⟨this, ?_⟩
        unfold oAg
        rw [if_neg (by omega), if_pos ⟨by omega, ht.2.2.1⟩], fun ht => by
      unfold oAg oAs
      by_cases h : q < 4
      · rw [if_pos h, if_neg (fun z => by omega)]
      · rw [if_neg h, if_neg (fun z => ht (Or.inr ⟨by omega, by omega, z.2, Or.inl rfl⟩))]⟩
    have r1' : LkOK N K c 5 1 i (oS N K c N 0) (addRow i (shp (oAg N K c i 0 (lvU N K c i) K) (fdN c i 5)) (addRow i (lvU N K c i) (pP N K c i))) (oAg N K c i 1 (rtU N K c i) K) := by
      intro q hq
      have e : addRow i (shp (oAg N K c i 0 (lvU N K c i) K) (fdN c i 5)) (addRow i (lvU N K c i) (pP N K c i)) (16 * i + q) = addRow i (rtU N K c i) (pP N K c i) (16 * i + q) := by
        rw [addRow_at (rtU N K c i) _ hq (hz q hq)]
        unfold addRow
        rw [if_pos (show (16 * i + q) / 16 = i by omega), if_pos (show (16 * i + q) / 16 = i by omega), show (16 * i + q) % 16 = q by omega, hz q hq, Nat.zero_add]
        rfl
      rw [e]
      exact r1 q hq
    obtain ⟨lk2, e2⟩ := C_payOutOf (wt := wt) (bk := bk) hR hO (Or.inl rfl) hi (oS N K c N 0) (addRow i (lvU N K c i) (pP N K c i)) _ _ r0 r1' (fun k _ => oAg_le hO hi _ k) (fun k _ => oAg_le hO hi _ k) lk1 ws
    have e2' : F_X1_payOutOf (rk T wt bk (aL (oS N K c N 0)) (aL (addRow i (lvU N K c i) (pP N K c i))) lk1 ws) (nI i) 5 = _ := e2
    refine ⟨lk2, ?_⟩
    rw [if_neg (nI_n1 h5 (by omega)), e1', bs, e2', bs, addRow_two]
    refine congrArg (fun z => some (rk T wt bk (aL (oS N K c N 0)) z lk2 ws)) (aL_eq fun z hz2 => ?_)
    by_cases h : z / 16 = i
    · have ez : z = 16 * i + z % 16 := by omega
      have hm : z % 16 < 16 := by omega
      have e3 := addRow_at (i := i) (fun q => lvU N K c i q + (shp (oAg N K c i 0 (lvU N K c i) K) (fdN c i 5) q + shp (oAg N K c i 1 (rtU N K c i) K) (fdN c i 5 - sN (oAg N K c i 0 (lvU N K c i) K) 16) q)) (pP N K c i) hm (hz _ hm)
      rw [← ez] at e3
      rw [e3]
      unfold pP
      rw [if_pos (by omega), h, hpay, ← Nat.add_assoc]
      rfl
    · unfold addRow pP
      rw [if_neg h]
      by_cases h2 : z / 16 < i
      · rw [if_pos h2, if_pos (by omega)]
      · rw [if_neg h2, if_neg (by omega)]
theorem OwC_oC (hO : OKc N K c) : OwC N K c (aL (oC N c N 0 K)) := fun i hi k hk => by
  have hN := hO.1
  rw [exL_aL _ (by omega)]
  unfold oC
  rw [show (16 * i + 4 + k) % 16 = 4 + k by omega, show (16 * i + 4 + k) / 16 = i by omega, if_pos hi, if_pos ⟨by omega, by omega⟩, show 4 + k - 4 = k by omega]
/-- the class's settling, in plain numbers -/
theorem C_settle (hR : RowT T N K c) (hO : OKc N K c) (lk : Fin 16 → Int64) (ow pd : Fin 64 → Int64) (ws : Int32) : ∃ wt2 lk2, WtOK N c wt2 ∧ F_X1_settle (rk T wt bk ow pd lk ws) = some (rk T wt2 (aL (bkG N c K 0)) (aL (oS N K c N 0)) (aL (pP N K c N)) lk2 (nI (WN N c))) := by
  have hN := hO.1
  obtain ⟨wt2, hW, ew⟩ := C_weigh (T := T) (wt := wt) (bk := aL (fun _ => 0)) (ow := aL (fun _ => 0)) (pd := aL (fun _ => 0)) (lk := lk) hR hO ws
  have hts : t_ships T = nI N := hR.1
  obtain ⟨lk2, -, e⟩ := loopE (fun fu i (s : Fin 16 → Int64) => lo2 (B_X1_settle_42 (fun S13 => some S13)) fu (rk T wt2 (aL (bkG N c K 0)) (aL (oS N K c N 0)) (aL (pP N K c i)) s (nI (WN N c))) (nI i)) (fun s => some (rk T wt2 (aL (bkG N c K 0)) (aL (oS N K c N 0)) (aL (pP N K c N)) s (nI (WN N c)))) N (fun _ _ => True) (by
    intro fu i s hi _
    obtain ⟨s2, e⟩ := C_pay (wt := wt2) (bk := aL (bkG N c K 0)) hR hO hi s (nI (WN N c))
    have key : ∀ (k9 : RS → Option RS) rc, B_X1_settle_42 k9 rc (rk T wt2 (aL (bkG N c K 0)) (aL (oS N K c N 0)) (aL (pP N K c i)) s (nI (WN N c))) (nI i) = rc (rk T wt2 (aL (bkG N c K 0)) (aL (oS N K c N 0)) (aL (pP N K c (i + 1))) s2 (nI (WN N c))) (nI (i + 1)) := by
      intro k9 rc
      rw [settle_step _ _ _ _ (by rw [rk_t, hts, nI_leI (by omega) (by omega)]; omega), e, bs, nI_1]
    exact ⟨s2, trivial, (lo2_s _ _ _ _).trans (key _ _)⟩) (by
    intro fu s _
    have key : ∀ (k9 : RS → Option RS) rc, B_X1_settle_42 k9 rc (rk T wt2 (aL (bkG N c K 0)) (aL (oS N K c N 0)) (aL (pP N K c N)) s (nI (WN N c))) (nI N) = k9 (rk T wt2 (aL (bkG N c K 0)) (aL (oS N K c N 0)) (aL (pP N K c N)) s (nI (WN N c))) := by
      intro k9 rc
      unfold B_X1_settle_42
      rw [rk_t, hts, if_pos (by rw [nI_leI (by omega) (by omega)]; omega)]
    exact (lo2_s _ _ _ _).trans (key _ _)) N FU 0 lk (by omega) (by rw [FU_eq]; omega) trivial
  refine ⟨wt2, lk2, hW, ?_⟩
  unfold F_X1_settle
  rw [rk_o, C_fill (by omega) (by omega), bs, nm_eq, rk_so, rk_p, C_fill (by omega) (by omega), bs, nm_eq, rk_sp, rk_b, C_fill (by omega) (by omega), bs, nm_eq, rk_sb, ew, bs, C_oweClaims hR hO hW, bs, C_oweBack hR hO hW (OwC_oC hO), bs, C_oweShips hR hO hW, bs, show (aL (fun _ => 0) : Fin 64 → Int64) = aL (pP N K c 0) from aL_eq (fun z _ => by unfold pP; rw [if_neg (Nat.not_lt_zero _)])]
  exact e
end CSE
