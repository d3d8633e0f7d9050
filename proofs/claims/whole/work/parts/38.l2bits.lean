/-! ===== bits (from kit/laws/BITS.to-paste) ===== -/
theorem wb_tb (n : Nat) : (lN n).toBitVec = BitVec.ofNat 64 n := rfl
theorem wb_inj {a b : Int64} (h : a.toBitVec = b.toBitVec) : a = b := Int64.toBitVec_inj.mp h
theorem wb_tn {n : Nat} (h : n < 2 ^ 64) : (lN n).toBitVec.toNat = n := by rw [wb_tb, BitVec.toNat_ofNat, Nat.mod_eq_of_lt h]
theorem wb_of (x : Int64) : ∃ n, n < 2 ^ 64 ∧ x = lN n := ⟨x.toBitVec.toNat, x.toBitVec.isLt, wb_inj (by rw [wb_tb]; simp)⟩
theorem wb_of32 (x : Int32) : ∃ n, n < 2 ^ 32 ∧ x = nI n := ⟨x.toBitVec.toNat, x.toBitVec.isLt, Int32.toBitVec_inj.mp (by show _ = BitVec.ofNat 32 _; simp)⟩
theorem wb_c : ∀ k, k < 64 → ((nI k).toInt64 &&& 63) = lN k := by decide +kernel
theorem wb_cu : ∀ k, k < 64 → ((nI k).toInt64.toUInt64 &&& Int64.toUInt64 63) = UInt64.ofNat k := by decide +kernel
theorem wb_sm : ∀ k, k < 64 → (BitVec.ofNat 64 k).smod 64 = BitVec.ofNat 64 k := by decide +kernel
theorem wb_pw {a b : Nat} (h : a ≤ b) : 2 ^ b = 2 ^ a * 2 ^ (b - a) := by rw [← Nat.pow_add]; congr 1; omega
theorem wb_lt2 {a b : Nat} (h : a < b) : 2 ^ a < 2 ^ b := Nat.pow_lt_pow_right (by decide) h
theorem wb_mod (n : Nat) : lN n = lN (n % 2 ^ 64) := wb_inj (by rw [wb_tb, wb_tb]; apply BitVec.eq_of_toNat_eq; rw [BitVec.toNat_ofNat, BitVec.toNat_ofNat, Nat.mod_mod])
theorem wb_shl (n : Nat) {k : Nat} (hk : k < 64) : lN n <<< ((nI k).toInt64 &&& 63) = lN (n * 2 ^ k) := by
  rw [wb_c k hk]
  apply wb_inj
  rw [Int64.toBitVec_shiftLeft, wb_tb, wb_tb, wb_tb, wb_sm k hk]
  apply BitVec.eq_of_toNat_eq
  rw [BitVec.shiftLeft_eq', BitVec.toNat_shiftLeft, BitVec.toNat_ofNat, BitVec.toNat_ofNat, BitVec.toNat_ofNat, Nat.mod_eq_of_lt (show k < 2 ^ 64 by omega), Nat.shiftLeft_eq, Nat.mul_mod, Nat.mod_mod, ← Nat.mul_mod]
theorem wb_and {a b : Nat} (ha : a < 2 ^ 64) (hb : b < 2 ^ 64) : lN a &&& lN b = lN (a &&& b) := by
  apply wb_inj
  rw [Int64.toBitVec_and, wb_tb, wb_tb, wb_tb]
  apply BitVec.eq_of_toNat_eq
  rw [BitVec.toNat_and, BitVec.toNat_ofNat, BitVec.toNat_ofNat, BitVec.toNat_ofNat, Nat.mod_eq_of_lt ha, Nat.mod_eq_of_lt hb, Nat.mod_eq_of_lt (Nat.and_lt_two_pow _ hb)]
theorem wb_or {a b : Nat} (ha : a < 2 ^ 64) (hb : b < 2 ^ 64) : lN a ||| lN b = lN (a ||| b) := by
  apply wb_inj
  rw [Int64.toBitVec_or, wb_tb, wb_tb, wb_tb]
  apply BitVec.eq_of_toNat_eq
  rw [BitVec.toNat_or, BitVec.toNat_ofNat, BitVec.toNat_ofNat, BitVec.toNat_ofNat, Nat.mod_eq_of_lt ha, Nat.mod_eq_of_lt hb, Nat.mod_eq_of_lt (Nat.or_lt_two_pow ha hb)]
/-! ===== level 2: words as lists of letters; bytes ===== -/
def Let (ls : List Nat) : Prop := ∀ l, l ∈ ls → 1 ≤ l ∧ l ≤ 26
theorem Let.tail {l : Nat} {r : List Nat} (h : Let (l :: r)) : Let r := fun x hx => h x (List.mem_cons_of_mem _ hx)
theorem Let.head {l : Nat} {r : List Nat} (h : Let (l :: r)) : 1 ≤ l ∧ l ≤ 26 := h l List.mem_cons_self
theorem Let.snoc {ls : List Nat} {l : Nat} (h : Let ls) (h1 : 1 ≤ l) (h2 : l ≤ 26) : Let (ls ++ [l]) := by
  intro x hx
  rw [List.mem_append, List.mem_singleton] at hx
  rcases hx with hx | rfl
  · exact h x hx
  · exact ⟨h1, h2⟩
theorem nLo_lt : ∀ {ls : List Nat}, Let ls → nLo ls < 32 ^ ls.length
  | [], _ => by decide
  | l :: r, h => by
    have h1 := nLo_lt h.tail
    have h2 := h.head
    show l + 32 * nLo r < 32 ^ (r.length + 1)
    rw [Nat.pow_succ]
    omega
theorem nLo_snoc : ∀ (ls : List Nat) (l : Nat), nLo (ls ++ [l]) = nLo ls + l * 32 ^ ls.length
  | [], l => by simp [nLo]
  | a :: r, l => by
    show a + 32 * nLo (r ++ [l]) = a + 32 * nLo r + l * 32 ^ (r.length + 1)
    rw [nLo_snoc r l, Nat.pow_succ, Nat.mul_add]
    have : l * (32 ^ r.length * 32) = 32 * (l * 32 ^ r.length) := by
      rw [← Nat.mul_assoc, Nat.mul_comm]
    omega
theorem nHi_snoc (l : Nat) : ∀ (ls : List Nat) (a : Nat), nHi a (ls ++ [l]) = 32 * nHi a ls + l
  | [], a => rfl
  | x :: r, a => nHi_snoc l r (32 * a + x)
theorem nHi_rev : ∀ (ls rs : List Nat), nHi (nLo rs) ls = nLo (ls.reverse ++ rs)
  | [], rs => rfl
  | l :: r, rs => by
    have h := nHi_rev r (l :: rs)
    have e : nLo (l :: rs) = 32 * nLo rs + l := Nat.add_comm _ _
    rw [e] at h
    show nHi (32 * nLo rs + l) r = _
    rw [h, List.reverse_cons, List.append_assoc]
    rfl
theorem nHi_eq (ls : List Nat) : nHi 0 ls = nLo ls.reverse := by
  have h := nHi_rev ls []
  rw [List.append_nil] at h
  exact h
theorem Let.rev {ls : List Nat} (h : Let ls) : Let ls.reverse := fun x hx => h x (List.mem_reverse.mp hx)
theorem nHi_lt {ls : List Nat} (h : Let ls) : nHi 0 ls < 32 ^ ls.length := by
  have := nLo_lt h.rev
  rw [List.length_reverse] at this
  rw [nHi_eq]
  exact this
theorem nLo_inj : ∀ {a b : List Nat}, Let a → Let b → nLo a = nLo b → a = b
  | [], [], _, _, _ => rfl
  | [], l :: r, _, hb, h => by
    have h1 := hb.head
    have h2 : (0 : Nat) = l + 32 * nLo r := h
    omega
  | l :: r, [], ha, _, h => by
    have h1 := ha.head
    have h2 : l + 32 * nLo r = 0 := h
    omega
  | l :: r, x :: y, ha, hb, h => by
    have h1 := ha.head
    have h2 := hb.head
    have h3 : l + 32 * nLo r = x + 32 * nLo y := h
    have h4 : l = x := by omega
    have h5 : nLo r = nLo y := by omega
    rw [h4, nLo_inj ha.tail hb.tail h5]
theorem nHi_inj {a b : List Nat} (ha : Let a) (hb : Let b) (h : nHi 0 a = nHi 0 b) : a = b := by
  rw [nHi_eq, nHi_eq] at h
  have := nLo_inj ha.rev hb.rev h
  exact List.reverse_inj.mp this
theorem pw7 {n : Nat} (h : n ≤ 7) : 32 ^ n ≤ 34359738368 := Nat.pow_le_pow_right (n := 32) (by decide) h
theorem lN_inj {a b : Nat} (ha : a < 2 ^ 62) (hb : b < 2 ^ 62) (h : lN a = lN b) : a = b := by
  have h2 := congrArg (fun x : Int64 => x.toBitVec.toNat) h
  simp only [wb_tn (show a < 2 ^ 64 by omega), wb_tn (show b < 2 ^ 64 by omega)] at h2
  exact h2
theorem lo_eq {a b : List Nat} (ha : Let a) (hb : Let b) (la : a.length ≤ 7) (lb : b.length ≤ 7) : lN (nLo a) = lN (nLo b) ↔ a = b := by
  have h1 := nLo_lt ha
  have h2 := nLo_lt hb
  have h3 := pw7 la
  have h4 := pw7 lb
  exact ⟨fun h => nLo_inj ha hb (lN_inj (by omega) (by omega) h), fun h => by rw [h]⟩
theorem hi_eq {a b : List Nat} (ha : Let a) (hb : Let b) (la : a.length ≤ 7) (lb : b.length ≤ 7) : lN (nHi 0 a) = lN (nHi 0 b) ↔ a = b := by
  have h1 := nHi_lt ha
  have h2 := nHi_lt hb
  have h3 := pw7 la
  have h4 := pw7 lb
  exact ⟨fun h => nHi_inj ha hb (lN_inj (by omega) (by omega) h), fun h => by rw [h]⟩
/-- one letter more -/
theorem lo_more {ls : List Nat} (h : Let ls) (hl : ls.length < 7) {l : Nat} (h2 : l ≤ 26) : lN (nLo ls) ||| ((lN l) <<< (((5 : Int32) * nI ls.length).toInt64 &&& 63)) = lN (nLo (ls ++ [l])) := by
  have h1 := nLo_lt h
  have h3 := pw7 (n := ls.length) (by omega)
  have h4 := pw7 (n := ls.length + 1) (by omega)
  have e5 : 32 ^ ls.length = 2 ^ (5 * ls.length) := by rw [show (32 : Nat) = 2 ^ 5 from rfl, ← Nat.pow_mul]
  rw [Nat.pow_succ] at h4
  have h6 : l * 32 ^ ls.length ≤ 26 * 32 ^ ls.length := Nat.mul_le_mul_right _ h2
  rw [show (5 : Int32) = nI 5 from rfl, pk_mul, wb_shl l (by omega), ← e5, wb_or (by omega) (by omega), nLo_snoc]
  refine congrArg lN ?_
  rw [e5] at h1 ⊢
  rw [Nat.or_comm, Nat.mul_comm l, ← Nat.two_pow_add_eq_or_of_lt h1, Nat.add_comm]
theorem hi_more (ls : List Nat) {l : Nat} (h2 : l ≤ 26) : ((32 : Int64) * lN (nHi 0 ls) + (nI (l + 96)).toInt64) - (96 : Int64) = lN (nHi 0 (ls ++ [l])) := by
  rw [show (32 : Int64) = lN 32 from rfl, lN_mul, nI_l (by omega), lN_add, show (96 : Int64) = lN 96 from rfl, lN_sub (by omega), nHi_snoc]
  exact congrArg lN (by omega)
/-! bytes -/
def BR (b m : Int32) (y : Nat) : Prop := y < 256 ∧ m = nI y ∧ (y < 128 → b = nI y) ∧ (128 ≤ y → b < 0)
theorem BtR.br {b m : Int32} (h : BtR b m) : ∃ y, BR b m y := by
  obtain ⟨v, rfl, rfl⟩ := h
  refine ⟨v.toBitVec.toNat % 2 ^ 8, Nat.mod_lt _ (by decide), pk_and v 8 rfl, ?_, ?_⟩
  · intro hy
    have e1 : v.toInt8.toInt32.toInt = Int.bmod v.toInt (2 ^ 8) := by
      rw [Int8.toInt_toInt32, Int32.toInt_toInt8]
    have e2 : v.toInt = v.toBitVec.toInt := rfl
    have c := BitVec.toInt_eq_toNat_cond v.toBitVec
    have hl := v.toBitVec.isLt
    apply Int32.toInt_inj.mp
    rw [e1, nI_toInt (by omega), Int.bmod_def, e2]
    split at c <;> rw [c] <;> split <;> omega
  · intro hy
    have e1 : v.toInt8.toInt32.toInt = Int.bmod v.toInt (2 ^ 8) := by
      rw [Int8.toInt_toInt32, Int32.toInt_toInt8]
    have e2 : v.toInt = v.toBitVec.toInt := rfl
    have c := BitVec.toInt_eq_toNat_cond v.toBitVec
    have hl := v.toBitVec.isLt
    rw [Int32.lt_iff_toInt_lt, e1, show (0 : Int32).toInt = 0 from rfl, Int.bmod_def, e2]
    split at c <;> rw [c] <;> split <;> omega
section BYTE
variable {b m : Int32} {y : Nat}
theorem BR.eqc (h : BR b m y) {a : Nat} (ha : a < 128) : b = nI a ↔ y = a := by
  obtain ⟨h1, h2, h3, h4⟩ := h
  by_cases q : y < 128
  · rw [h3 q, nI_eq (by omega) (by omega)]
  · have := h4 (by omega)
    refine ⟨fun e => ?_, fun e => by omega⟩
    rw [e] at this
    exact absurd this (nI_pos (by omega))
theorem BR.eqm (h : BR b m y) {a : Nat} (ha : a < 128) : m = nI a ↔ y = a := by
  rw [h.2.1, nI_eq (by have := h.1; omega) (by omega)]
theorem BR.rng (h : BR b m y) {p q : Nat} (hp : p < 128) (hq : q < 128) : (if b < nI p then some (0 : Int32) else if nI q < b then some 0 else some 1) = some (if p ≤ y ∧ y ≤ q then (1 : Int32) else 0) := by
  obtain ⟨h1, h2, h3, h4⟩ := h
  by_cases z : y < 128
  · rw [h3 z]
    by_cases a1 : y < p
    · rw [if_pos ((nI_ltI (by omega) (by omega)).mpr a1), if_neg (by omega)]
    · rw [if_neg (by rw [nI_ltI (by omega) (by omega)]; exact a1)]
      by_cases a2 : q < y
      · rw [if_pos ((nI_ltI (by omega) (by omega)).mpr a2), if_neg (by omega)]
      · rw [if_neg (by rw [nI_ltI (by omega) (by omega)]; exact a2), if_pos (by omega)]
  · have h5 := h4 (by omega)
    have h6 : b < nI p := by
      rw [Int32.lt_iff_toInt_lt] at h5 ⊢
      rw [nI_toInt (by omega)]
      have h0 : (0 : Int32).toInt = 0 := rfl
      omega
    rw [if_pos h6, if_neg (by omega)]
theorem BR.rngm (h : BR b m y) {p q : Nat} (hp : p < 128) (hq : q < 128) : (if m < nI p then some (0 : Int32) else if nI q < m then some 0 else some 1) = some (if p ≤ y ∧ y ≤ q then (1 : Int32) else 0) := by
  obtain ⟨h1, h2, h3, h4⟩ := h
  rw [h2]
  by_cases a1 : y < p
  · rw [if_pos ((nI_ltI (by omega) (by omega)).mpr a1), if_neg (by omega)]
  · rw [if_neg (by rw [nI_ltI (by omega) (by omega)]; exact a1)]
    by_cases a2 : q < y
    · rw [if_pos ((nI_ltI (by omega) (by omega)).mpr a2), if_neg (by omega)]
    · rw [if_neg (by rw [nI_ltI (by omega) (by omega)]; exact a2), if_pos (by omega)]
theorem BR.letC (h : BR b m y) : F_X0_isLetter b = some (if 97 ≤ y ∧ y ≤ 122 then (1 : Int32) else 0) := h.rng (p := 97) (q := 122) (by decide) (by decide)
theorem BR.digC (h : BR b m y) : F_X0_isDigit b = some (if 48 ≤ y ∧ y ≤ 57 then (1 : Int32) else 0) := h.rng (p := 48) (q := 57) (by decide) (by decide)
theorem BR.letM (h : BR b m y) : F_X5_isLetter m = some (if 97 ≤ y ∧ y ≤ 122 then (1 : Int32) else 0) := h.rngm (p := 97) (q := 122) (by decide) (by decide)
theorem BR.digM (h : BR b m y) : F_X5_isDigit m = some (if 48 ≤ y ∧ y ≤ 57 then (1 : Int32) else 0) := h.rngm (p := 48) (q := 57) (by decide) (by decide)
end BYTE
