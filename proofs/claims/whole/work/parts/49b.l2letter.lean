/-! ===== level 2: letter ===== -/
def L_X4 (S : XS) (x1 x2 : Int32) : Option (Option Int32) :=
  (F_X4_hasShip S x1).bind fun q1 => if q1 = 0 then some none else
  (F_X4_within x2 (0 : Int32) (5 : Int32)).bind fun q2 => if q2 = 0 then some none else
  (rdL (t_names (x_now S)) x1).bind fun v3 => nm (((v3 >>> (((5 : Int32) * x2).toInt64 &&& 63)).toInt32 &&& (31 : Int32)) : Int32) fun v4 =>
  if v4 = 0 then some none else some (some (v4 - (1 : Int32)))
theorem sar64 (x n : Int64) {k : Nat} (hn : (n.toBitVec.smod 64).toNat = k) : (x >>> n).toInt = x.toInt / 2 ^ k := by
  have e : (x >>> n).toInt = (x.toBitVec.sshiftRight' (n.toBitVec.smod 64)).toInt := rfl
  rw [e, BitVec.toInt_sshiftRight', hn, Int.shiftRight_eq_div_pow]
  rfl
theorem lsr_N {a : Nat} (ha : a < 2 ^ 62) {k : Nat} (hk : k < 64) : lN a >>> ((nI k).toInt64 &&& 63) = lN (a / 2 ^ k) := by
  have h2 : a / 2 ^ k ≤ a := Nat.div_le_self _ _
  apply Int64.toInt_inj.mp
  rw [wb_c k hk, sar64 (lN a) (lN k) (k := k) (by rw [wb_tb, wb_sm k hk, BitVec.toNat_ofNat, Nat.mod_eq_of_lt (by omega)])]
  rw [show (lN a).toInt = (a : Int) from lg_ofNat_toInt (by omega), show (lN (a / 2 ^ k)).toInt = ((a / 2 ^ k : Nat) : Int) from lg_ofNat_toInt (by omega)]
  rw [Int.natCast_ediv, Int.natCast_pow]
  rfl
theorem lo_div {l : Nat} {r : List Nat} (h : l ≤ 26) : nLo (l :: r) / 32 = nLo r := by
  show (l + 32 * nLo r) / 32 = nLo r
  omega
theorem lo_mod {l : Nat} {r : List Nat} (h : l ≤ 26) : nLo (l :: r) % 32 = l := by
  show (l + 32 * nLo r) % 32 = l
  omega
theorem lo_dig : ∀ (k : Nat) {ls : List Nat}, Let ls → nLo ls / 2 ^ (5 * k) % 32 = ls.getD k 0
  | 0, [], _ => rfl
  | 0, l :: r, h => by
    rw [Nat.mul_zero, Nat.pow_zero, Nat.div_one]
    exact lo_mod h.head.2
  | k + 1, [], _ => by
    show 0 / _ % 32 = 0
    rw [Nat.zero_div]
  | k + 1, l :: r, h => by
    have e : 2 ^ (5 * (k + 1)) = 32 * 2 ^ (5 * k) := by
      rw [show 5 * (k + 1) = 5 + 5 * k by omega, Nat.pow_add]
    rw [e, ← Nat.div_div_eq_div_mul, lo_div h.head.2, lo_dig k h.tail]
    rfl
theorem gd_get {ls : List Nat} {k : Nat} (h : k < ls.length) : ls.getD k 0 = ls[k] := by simp [h]
theorem gd_in {ls : List Nat} (h : Let ls) : ∀ {k : Nat}, k < ls.length → 1 ≤ ls.getD k 0 ∧ ls.getD k 0 ≤ 26 := by
  intro k hk
  have e : ls.getD k 0 = ls[k] := by simp [hk]
  rw [e]
  exact h _ (List.getElem_mem hk)
theorem gd_out {ls : List Nat} {k : Nat} (hk : ls.length ≤ k) : ls.getD k 0 = 0 := by simp [hk]
theorem lo_drop : ∀ (k : Nat) {ls : List Nat}, Let ls → nLo ls / 32 ^ k = nLo (ls.drop k)
  | 0, ls, _ => by
    rw [Nat.pow_zero, Nat.div_one]
    rfl
  | k + 1, [], _ => Nat.zero_div _
  | k + 1, l :: r, h => by
    rw [Nat.pow_succ, Nat.mul_comm, ← Nat.div_div_eq_div_mul, lo_div h.head.2, lo_drop k h.tail]
    rfl
section LETR
variable {S : XS} {M : MS}
/-- how many letters -/
theorem let_cnt (x1 x2 : Int32) (k9 : MS → Int32 → Option (Int32 × MS)) (Z : MS) : ∀ (rs : List Nat) (j fu : Nat), Let rs → rs.length ≤ 7 → rs.length < fu → lo3 (B_X5_letter_30 x1 x2 k9) fu Z (nI j) (lN (nLo rs)) = k9 Z (nI (j + rs.length))
  | [], j, fu, _, _, hf => by
    obtain ⟨fu, rfl⟩ : ∃ f, fu = f + 1 := ⟨fu - 1, by have := hf; omega⟩
    refine (lo3_s _ _ _ _ _).trans ?_
    unfold B_X5_letter_30
    rw [if_pos ((lg_cmp_le _ _).mpr (by decide))]
    rfl
  | l :: r, j, fu, h, hl, hf => by
    obtain ⟨fu, rfl⟩ : ∃ f, fu = f + 1 := ⟨fu - 1, by omega⟩
    have h1 := nLo_lt h
    have h2 := pw7 hl
    have h3 := h.head
    have h4 : 1 ≤ nLo (l :: r) := by
      show 1 ≤ l + 32 * nLo r
      omega
    have hl' : r.length + 1 ≤ 7 := hl
    have hf' : r.length + 1 < fu + 1 := hf
    have ih := let_cnt x1 x2 k9 Z r (j + 1) fu h.tail (by omega) (by omega)
    have hpos : ¬ lg_cmp (lN (nLo (l :: r))) 0 ≤ 0 := by
      intro q
      have q1 := (lg_cmp_le _ _).mp q
      rw [Int64.le_iff_toInt_le] at q1
      rw [show (lN (nLo (l :: r))).toInt = ((nLo (l :: r) : Nat) : Int) from lg_ofNat_toInt (by omega)] at q1
      have q2 : (0 : Int64).toInt = 0 := rfl
      omega
    refine (lo3_s _ _ _ _ _).trans ?_
    unfold B_X5_letter_30
    rw [if_neg hpos, nm_eq, nI_1, show (32 : Int64) = lN 32 from rfl, dvL_N (by omega) (by omega) (by omega), bs, lo_div h3.2]
    refine ih.trans ?_
    rw [show j + 1 + r.length = j + (l :: r).length by show _ = j + (r.length + 1); omega]
theorem let_at (k : Nat) (hk7 : k ≤ 7) (k9 : MS → Int64 → Option (Int32 × MS)) (Z : MS) : ∀ (d : Nat) (v fu : Nat), d ≤ 7 → d < fu → v < 2 ^ 40 → lo3 (B_X5_letter_84 (nI k) k9) fu Z (lN v) (nI (k + d)) = k9 Z (lN (v / 32 ^ d))
  | 0, v, fu, _, hf, hv => by
    obtain ⟨fu, rfl⟩ : ∃ f, fu = f + 1 := ⟨fu - 1, by omega⟩
    refine (lo3_s _ _ _ _ _).trans ?_
    unfold B_X5_letter_84
    rw [if_pos (show nI (k + 0) ≤ nI k from Int32.le_refl _), Nat.pow_zero, Nat.div_one]
  | d + 1, v, fu, hd, hf, hv => by
    obtain ⟨fu, rfl⟩ : ∃ f, fu = f + 1 := ⟨fu - 1, by omega⟩
    have h1 : v / 32 ≤ v := Nat.div_le_self _ _
    have ih := let_at k hk7 k9 Z d (v / 32) fu (by omega) (by omega) (by omega)
    refine (lo3_s _ _ _ _ _).trans ?_
    unfold B_X5_letter_84
    rw [if_neg (by rw [nI_leI (by omega) (by omega)]; omega), show (32 : Int64) = lN 32 from rfl, dvL_N (by omega) (by omega) (by omega), bs, nm_eq, show k + (d + 1) = k + d + 1 by omega, pk_m1]
    refine ih.trans ?_
    rw [Nat.div_div_eq_div_mul, Nat.pow_succ, Nat.mul_comm]
theorem th_n (M : MS) (v : Int32) : m_names (ms_thrown M v) = m_names M := rfl
theorem th_th (M : MS) (v v2 : Int32) : ms_thrown (ms_thrown M v) v2 = ms_thrown M v2 := rfl
theorem th_rel (h : Rel S M) (v : Int32) : Rel S (ms_thrown M v) := h
theorem A_letter (hr : Rel S M) (x y : Int32) : ∃ r a M2, L_X4 S x y = some r ∧ F_X5_letter M x y = some (a, M2) ∧ Rel S M2 ∧ ((r = none ∧ m_thrown M2 = 1) ∨ (r = some a ∧ m_thrown M2 = 0)) := by
  have his : F_X5_isShip (ms_thrown M 0) x = F_X5_isShip (mB M) x := rfl
  unfold L_X4 F_X5_letter
  rw [nm_eq, his]
  rcases A_ship hr.core x with ⟨e1, e2⟩ | ⟨N, K, c, i, hT, hR, hO, hi, rfl, e1, e2⟩
  · refine ⟨none, 0, ms_thrown M 1, ?_, ?_, th_rel hr 1, Or.inl ⟨rfl, rfl⟩⟩
    · rw [e1, bs, if_pos rfl]
    · rw [e2, bs, if_pos rfl, nm_eq, th_th]
  · have hN := hO.1
    obtain ⟨h0, hc⟩ := core_case hr hT hO
    obtain ⟨ls, l1, l2, l3, l4, l5⟩ := case_names hc hT hO i hi
    have l3 : Let ls := l3
    have hlt := nLo_lt l3
    have hlt2 := nHi_lt l3
    have hp7 := pw7 (n := ls.length) (by omega)
    have hp6 : 32 ^ ls.length ≤ 32 ^ 6 := Nat.pow_le_pow_right (by decide) l2
    have hp6' : (32 : Nat) ^ 6 = 1073741824 := by decide
    have hcnt := fun k9 => let_cnt (nI i) y k9 (ms_thrown M 0) ls.reverse 0 FU l3.rev (by rw [List.length_reverse]; omega) (by rw [List.length_reverse, FU_eq]; omega)
    rw [← nHi_eq, List.length_reverse, Nat.zero_add] at hcnt
    have hcnt' : ∀ k9, lo3 (B_X5_letter_30 (nI i) y k9) FU (ms_thrown M 0) 0 (lN (nHi 0 ls)) = k9 (ms_thrown M 0) (nI ls.length) := hcnt
    have hrn : rdL (m_names M) (nI i) = some (lN (nHi 0 ls)) := by
      rw [rL _ (by omega) (by omega), l5]
    rw [e1, e2, bs, bs, if_neg n10, if_neg n10, th_n, hrn, bs, hcnt', nI_less (by omega), show F_X5_in y.toInt64 0 (nI (ls.length - 1)).toInt64 = F_X4_within y 0 (nI (ls.length - 1)) from M_in y _, rL (t_names (x_now S)) (show i < 4 by omega) (by omega), l4]
    have bigK : ∀ k, ls.length ≤ k → k < 6 → ((lN (nLo ls) >>> (((5 : Int32) * nI k).toInt64 &&& 63)).toInt32 &&& (31 : Int32)) = 0 := by
      intro k hk hk6
      rw [show (5 : Int32) = nI 5 from rfl, pk_mul, lsr_N (by omega) (by omega), lN_i]
      have hdl : nLo ls / 2 ^ (5 * k) ≤ nLo ls := Nat.div_le_self _ _
      rw [pk_andN (by omega) 5 rfl, show (2 : Nat) ^ 5 = 32 from rfl, lo_dig k l3, gd_out hk]
      rfl
    rcases W_cases y (b := ls.length - 1) (by omega) with e | ⟨e, k, hk, rfl⟩
    · refine ⟨none, 0, ms_thrown M 1, ?_, ?_, th_rel hr 1, Or.inl ⟨rfl, rfl⟩⟩
      · rcases W_cases y (b := 5) (by omega) with e5 | ⟨e5, k, hk, rfl⟩
        · have e5' : F_X4_within y 0 5 = some 0 := e5
          rw [e5', bs, if_pos rfl]
        · have e5' : F_X4_within (nI k) 0 5 = some 1 := e5
          have hk2 : ls.length ≤ k := by
            rcases Nat.lt_or_ge k ls.length with q | q
            · exfalso
              unfold F_X4_within at e
              rw [if_neg (nI_pos (by omega)), if_neg (by rw [nI_ltI (by omega) (by omega)]; omega)] at e
              exact absurd (Option.some.inj e) n10
            · exact q
          rw [e5', bs, if_neg n10, bs, nm_eq, bigK k hk2 (by omega), if_pos rfl]
      · rw [e, bs, if_pos rfl, nm_eq, th_th]
    · have hk1 : k < ls.length := by omega
      have e5' : F_X4_within (nI k) 0 5 = some 1 := by
        unfold F_X4_within
        rw [if_neg (nI_pos (by omega)), if_neg (by rw [show (5 : Int32) = nI 5 from rfl, nI_ltI (by omega) (by omega)]; omega)]
      have hg := gd_in l3 hk1
      have hsig : ((lN (nLo ls) >>> (((5 : Int32) * nI k).toInt64 &&& 63)).toInt32 &&& (31 : Int32)) = nI (ls.getD k 0) := by
        rw [show (5 : Int32) = nI 5 from rfl, pk_mul, lsr_N (by omega) (by omega), lN_i]
        have hdl : nLo ls / 2 ^ (5 * k) ≤ nLo ls := Nat.div_le_self _ _
        rw [pk_andN (by omega) 5 rfl, show (2 : Nat) ^ 5 = 32 from rfl, lo_dig k l3]
      have hat := fun k9 => let_at k (by omega) k9 (ms_thrown M 0) (ls.length - 1 - k) (nHi 0 ls) FU (by omega) (by rw [FU_eq]; omega) (by omega)
      rw [show k + (ls.length - 1 - k) = ls.length - 1 by omega] at hat
      have hdiv : nHi 0 ls / 32 ^ (ls.length - 1 - k) ≤ nHi 0 ls := Nat.div_le_self _ _
      have hdig : nHi 0 ls / 32 ^ (ls.length - 1 - k) % 32 = ls.getD k 0 := by
        rw [nHi_eq, show (32 : Nat) ^ (ls.length - 1 - k) = 2 ^ (5 * (ls.length - 1 - k)) by rw [show (32 : Nat) = 2 ^ 5 from rfl, ← Nat.pow_mul], lo_dig _ l3.rev]
        have hlr : ls.length - 1 - k < ls.reverse.length := by rw [List.length_reverse]; omega
        have ea : ls.reverse.getD (ls.length - 1 - k) 0 = ls.reverse[ls.length - 1 - k] := gd_get hlr
        have eb : ls.getD k 0 = ls[k] := by simp [hk1]
        rw [ea, eb, List.getElem_reverse]
        congr 1
        omega
      refine ⟨some (nI (ls.getD k 0) - 1), nI (ls.getD k 0) - 1, ms_thrown M 0, ?_, ?_, th_rel hr 0, Or.inr ⟨rfl, rfl⟩⟩
      · rw [e5', bs, if_neg n10, bs, nm_eq, hsig, if_neg (nI_ne0 (by omega) (by omega))]
      · rw [e, bs, if_neg n10, th_n, hrn, bs, nm_eq, hat, show (32 : Int64) = lN 32 from rfl, rmL_N (by omega) (by omega) (by omega), bs, lN_i, hdig]
end LETR
