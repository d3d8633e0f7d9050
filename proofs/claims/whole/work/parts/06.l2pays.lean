/-! ===== level 2: what the model's ships pay, in plain numbers ===== -/
def rN (c : Nat → Nat) (k : Nat) : Nat := if c (34 + 4 * k + 3) ≤ c 8 then 0 else if c (34 + 4 * k + 3) ≤ c 9 then 1 else 2
theorem rdC_eq (c : Nat → Nat) (k : Nat) {rd : Nat} (h : rd < 2) : rdC c k = nI rd ↔ rN c k = rd := by
  unfold rdC rN
  have h2 : ∀ x : Nat, x < 2 → ¬ (-2 : Int32) = nI x := fun x hx q => by
    have := congrArg Int32.toInt q
    rw [nI_toInt (by omega)] at this
    have h3 : (-2 : Int32).toInt = -2 := by decide
    omega
  split
  · rw [show (0 : Int32) = nI 0 from rfl, nI_eq (by omega) (by omega)]
  · split
    · rw [show (1 : Int32) = nI 1 from rfl, nI_eq (by omega) (by omega)]
    · exact ⟨fun q => absurd q (h2 rd h), fun q => by omega⟩
def oPg (N : Nat) (c : Nat → Nat) (i rd k : Nat) : Nat → Nat := fun p => if 4 ≤ p ∧ p < 4 + k ∧ c (34 + 4 * (p - 4)) = 1 ∧ rN c (p - 4) = rd then dN N c i (p - 4) else 0
def oAs (N K : Nat) (c : Nat → Nat) (i rd j : Nat) : Nat → Nat := fun p => if rd = 0 ∧ p < j then lwN N K c i p else 0
def oAg (N K : Nat) (c : Nat → Nat) (i rd : Nat) (v : Nat → Nat) (k : Nat) : Nat → Nat := fun p => if p < 4 then oAs N K c i rd N p else if p < 4 + k ∧ rN c (p - 4) = rd then dN N c i (p - 4) - v p else 0
section MPAY
variable {M : MS} {w : Fin 82 → Int32} {N K : Nat} {c : Nat → Nat} {p : Fin 64 → Int64}
theorem oPg_le (hO : OKc N K c) {i rd : Nat} (hi : i < N) (q : Nat) : oPg N c i rd K q ≤ 200000000 := by
  unfold oPg
  split
  · rename_i h
    have h1 := dN_le hO hi (k := q - 4) (by omega)
    have h2 := (hO.2.2.2.2 (q - 4) (by omega)).2.2.2.1
    omega
  · omega
theorem oAg_le (hO : OKc N K c) {i rd : Nat} (hi : i < N) (v : Nat → Nat) (q : Nat) : oAg N K c i rd v K q ≤ 200000000 := by
  unfold oAg
  split
  · unfold oAs
    split
    · have := lwN_le hO hi (j := q) (by omega)
      omega
    · omega
  · split
    · rename_i h
      have h1 := dN_le hO hi (k := q - 4) (by omega)
      have h2 := (hO.2.2.2.2 (q - 4) (by omega)).2.2.2.1
      omega
    · omega
theorem M_owesPersons (hR : RowR w N K c) (hO : OKc N K c) {i rd : Nat} (hi : i < N) (hrd : rd < 2) (o u : Fin 16 → Int64) : F_X5_owesPersons (sc M w o u p) (nI i) (nI rd) = some (sc M w (aL (oPg N c i rd K)) u p) := by
  have hN := hO.1
  unfold F_X5_owesPersons
  rw [M_clears, bs, nm_eq, sc_so, show (aL (fun _ => 0) : Fin 16 → Int64) = aL (oPg N c i rd 0) from aL_eq (fun k _ => by unfold oPg; rw [if_neg (by omega)])]
  refine loopR (fun fu k (_ : Unit) => lo2 (B_X5_owesPersons_10 (nI i) (nI rd) (fun S10 => some S10)) fu (sc M w (aL (oPg N c i rd k)) u p) (nI k)) _ K (fun _ _ => True) ?_ ?_ K FU 0 () (by omega) (by rw [FU_eq]; omega) trivial
  · intro fu k _ hk _
    refine ⟨(), trivial, ?_⟩
    have hJ : ∀ k9 rc S, J_X5_owesPersons_62 k9 rc S (nI i) (nI rd) (nI k) = rc S (nI (k + 1)) := by
      intro k9 rc S
      unfold J_X5_owesPersons_62
      rw [nm_eq, nI_1]
    have e0 : F_X5_ofClaim w (nI k) 0 = some (nI (c (34 + 4 * k))) := Cl hR hO hk (w := 0) (by decide) (by decide)
    have hc := hO.2.2.2.2 k hk
    have same : ¬ (c (34 + 4 * k) = 1 ∧ rN c k = rd) → (aL (oPg N c i rd k) : Fin 16 → Int64) = aL (oPg N c i rd (k + 1)) := fun h => aL_eq fun q _ => by
      unfold oPg
      by_cases hq : q = 4 + k
      · subst hq
        rw [if_neg (by omega), if_neg (by rw [show 4 + k - 4 = k by omega]; exact fun z => h z.2.2)]
      · by_cases h2 : 4 ≤ q ∧ q < 4 + k ∧ c (34 + 4 * (q - 4)) = 1 ∧ rN c (q - 4) = rd
        · rw [if_pos h2, if_pos ⟨h2.1, by omega, h2.2.2⟩]
        · rw [if_neg h2, if_neg (fun z => h2 ⟨z.1, by omega, z.2.2⟩)]
    have key : ∀ k9 rc, B_X5_owesPersons_10 (nI i) (nI rd) k9 rc (sc M w (aL (oPg N c i rd k)) u p) (nI k) = rc (sc M w (aL (oPg N c i rd (k + 1))) u p) (nI (k + 1)) := by
      intro k9 rc
      unfold B_X5_owesPersons_10
      rw [sc_w, R1 hR, bs, if_neg (by rw [nI_leI (by omega) (by omega)]; omega), e0, bs]
      by_cases h1 : c (34 + 4 * k) = 1
      · rw [if_pos (by rw [h1]; rfl), M_roundOf hR hO hk, bs]
        by_cases h2 : rN c k = rd
        · rw [if_pos ((rdC_eq c k hrd).mpr h2), M_debtOf hR hO hi hk, bs, sc_o, show (4 : Int32) = nI 4 from rfl, nI_add, wL_a _ (by omega) (by omega), bs, nm_eq, sc_so, hJ, aL_eq (n := 16) (u := oPg N c i rd (k + 1)) fun q _ => ?_]
          show (if q = 4 + k then dN N c i k else oPg N c i rd k q) = oPg N c i rd (k + 1) q
          unfold oPg
          by_cases hq : q = 4 + k
          · subst hq
            rw [if_pos rfl, show 4 + k - 4 = k by omega, if_pos ⟨by omega, by omega, h1, h2⟩]
          · rw [if_neg hq]
            by_cases h3 : 4 ≤ q ∧ q < 4 + k ∧ c (34 + 4 * (q - 4)) = 1 ∧ rN c (q - 4) = rd
            · rw [if_pos h3, if_pos ⟨h3.1, by omega, h3.2.2⟩]
            · rw [if_neg h3, if_neg (fun z => h3 ⟨z.1, by omega, z.2.2⟩)]
        · rw [if_neg (fun q => h2 ((rdC_eq c k hrd).mp q)), hJ, same (fun z => h2 z.2)]
      · rw [if_neg (nI_n1 h1 (by omega)), hJ, same (fun z => h1 z.1)]
    exact (lo2_s _ _ _ _).trans (key _ _)
  · intro fu _ _
    have key : ∀ k9 rc, B_X5_owesPersons_10 (nI i) (nI rd) k9 rc (sc M w (aL (oPg N c i rd K)) u p) (nI K) = k9 (sc M w (aL (oPg N c i rd K)) u p) := by
      intro k9 rc
      unfold B_X5_owesPersons_10
      rw [sc_w, R1 hR, bs, if_pos (by rw [nI_leI (by omega) (by omega)]; omega)]
    exact (lo2_s _ _ _ _).trans (key _ _)
theorem M_owesAll (hR : RowR w N K c) (hO : OKc N K c) {i rd : Nat} (hi : i < N) (hrd : rd < 2) (o : Fin 16 → Int64) (v : Nat → Nat) (hv : ∀ k, k < K → rN c k = rd → v (4 + k) ≤ dN N c i k) : F_X5_owesAll (sc M w o (aL v) p) (nI i) (nI rd) = some (sc M w (aL (oAg N K c i rd v K)) (aL v) p) := by
  have hN := hO.1
  -- the claims
  have hcl : J_X5_owesAll_45 (sc M w (aL (oAs N K c i rd N)) (aL v) p) (nI i) (nI rd) = some (sc M w (aL (oAg N K c i rd v K)) (aL v) p) := by
    unfold J_X5_owesAll_45
    rw [show (aL (oAs N K c i rd N) : Fin 16 → Int64) = aL (oAg N K c i rd v 0) from aL_eq (fun k _ => by
      unfold oAg
      split
      · rfl
      · unfold oAs
        rw [if_neg (by omega), if_neg (by omega)])]
    refine loopR (fun fu k (_ : Unit) => lo2 (B_X5_owesAll_47 (nI i) (nI rd) (fun S16 => some S16)) fu (sc M w (aL (oAg N K c i rd v k)) (aL v) p) (nI k)) _ K (fun _ _ => True) ?_ ?_ K FU 0 () (by omega) (by rw [FU_eq]; omega) trivial
    · intro fu k _ hk _
      refine ⟨(), trivial, ?_⟩
      have hJ : ∀ k9 rc S, J_X5_owesAll_95 k9 rc S (nI i) (nI rd) (nI k) = rc S (nI (k + 1)) := by
        intro k9 rc S
        unfold J_X5_owesAll_95
        rw [nm_eq, nI_1]
      have same : ¬ rN c k = rd → (aL (oAg N K c i rd v k) : Fin 16 → Int64) = aL (oAg N K c i rd v (k + 1)) := fun h => aL_eq fun q _ => by
        unfold oAg
        by_cases h4 : q < 4
        · rw [if_pos h4, if_pos h4]
        · rw [if_neg h4, if_neg h4]
          by_cases hq : q = 4 + k
          · subst hq
            rw [if_neg (by omega), if_neg (by rw [show 4 + k - 4 = k by omega]; exact fun z => h z.2)]
          · by_cases h2 : q < 4 + k ∧ rN c (q - 4) = rd
            · rw [if_pos h2, if_pos ⟨by omega, h2.2⟩]
            · rw [if_neg h2, if_neg (fun z => h2 ⟨by omega, z.2⟩)]
      have key : ∀ k9 rc, B_X5_owesAll_47 (nI i) (nI rd) k9 rc (sc M w (aL (oAg N K c i rd v k)) (aL v) p) (nI k) = rc (sc M w (aL (oAg N K c i rd v (k + 1))) (aL v) p) (nI (k + 1)) := by
        intro k9 rc
        unfold B_X5_owesAll_47
        rw [sc_w, R1 hR, bs, if_neg (by rw [nI_leI (by omega) (by omega)]; omega), M_roundOf hR hO hk, bs]
        by_cases h2 : rN c k = rd
        · rw [if_pos ((rdC_eq c k hrd).mpr h2), M_debtOf hR hO hi hk, bs, sc_u, show (4 : Int32) = nI 4 from rfl, nI_add, rL_a v (by omega) (by omega), bs, sc_o, lN_sub (hv k hk h2), wL_a _ (by omega) (by omega), bs, nm_eq, sc_so, hJ, aL_eq (n := 16) (u := oAg N K c i rd v (k + 1)) fun q _ => ?_]
          show (if q = 4 + k then dN N c i k - v (4 + k) else oAg N K c i rd v k q) = oAg N K c i rd v (k + 1) q
          unfold oAg
          by_cases hq : q = 4 + k
          · subst hq
            rw [if_pos rfl, if_neg (by omega), show 4 + k - 4 = k by omega, if_pos ⟨by omega, h2⟩]
          · rw [if_neg hq]
            by_cases h4 : q < 4
            · rw [if_pos h4, if_pos h4]
            · rw [if_neg h4, if_neg h4]
              by_cases h3 : q < 4 + k ∧ rN c (q - 4) = rd
              · rw [if_pos h3, if_pos ⟨by omega, h3.2⟩]
              · rw [if_neg h3, if_neg (fun z => h3 ⟨by omega, z.2⟩)]
        · rw [if_neg (fun q => h2 ((rdC_eq c k hrd).mp q)), hJ, same h2]
      exact (lo2_s _ _ _ _).trans (key _ _)
    · intro fu _ _
      have key : ∀ k9 rc, B_X5_owesAll_47 (nI i) (nI rd) k9 rc (sc M w (aL (oAg N K c i rd v K)) (aL v) p) (nI K) = k9 (sc M w (aL (oAg N K c i rd v K)) (aL v) p) := by
        intro k9 rc
        unfold B_X5_owesAll_47
        rw [sc_w, R1 hR, bs, if_pos (by rw [nI_leI (by omega) (by omega)]; omega)]
      exact (lo2_s _ _ _ _).trans (key _ _)
  unfold F_X5_owesAll
  rw [M_clears, bs, nm_eq, sc_so, show (aL (fun _ => 0) : Fin 16 → Int64) = aL (oAs N K c i rd 0) from aL_eq (fun k _ => by unfold oAs; rw [if_neg (by omega)])]
  by_cases h0 : rd = 0
  · refine loopR (fun fu j (_ : Unit) => lo2 (B_X5_owesAll_10 (nI i) (nI rd) (fun S8 => J_X5_owesAll_45 S8 (nI i) (nI rd))) fu (sc M w (aL (oAs N K c i rd j)) (aL v) p) (nI j)) _ N (fun _ _ => True) ?_ ?_ N FU 0 () (by omega) (by rw [FU_eq]; omega) trivial
    · intro fu j _ hj _
      refine ⟨(), trivial, ?_⟩
      have key : ∀ k9 rc, B_X5_owesAll_10 (nI i) (nI rd) k9 rc (sc M w (aL (oAs N K c i rd j)) (aL v) p) (nI j) = rc (sc M w (aL (oAs N K c i rd (j + 1))) (aL v) p) (nI (j + 1)) := by
        intro k9 rc
        unfold B_X5_owesAll_10
        rw [sc_w, R0 hR, bs, if_neg (by rw [nI_leI (by omega) (by omega)]; omega), if_pos (by rw [h0]; rfl), M_lawOwed hR hO hi hj, bs, sc_o, wL_a _ (by omega) (by omega), bs, nm_eq, sc_so, nm_eq, nI_1, aL_eq (n := 16) (u := oAs N K c i rd (j + 1)) fun q _ => ?_]
        show (if q = j then lwN N K c i j else oAs N K c i rd j q) = oAs N K c i rd (j + 1) q
        unfold oAs
        by_cases hq : q = j
        · subst hq
          rw [if_pos rfl, if_pos ⟨h0, by omega⟩]
        · rw [if_neg hq]
          by_cases h3 : q < j
          · rw [if_pos ⟨h0, h3⟩, if_pos ⟨h0, by omega⟩]
          · rw [if_neg (fun z => h3 z.2), if_neg (fun z => h3 (by omega))]
      exact (lo2_s _ _ _ _).trans (key _ _)
    · intro fu _ _
      have key : ∀ k9 rc, B_X5_owesAll_10 (nI i) (nI rd) k9 rc (sc M w (aL (oAs N K c i rd N)) (aL v) p) (nI N) = k9 (sc M w (aL (oAs N K c i rd N)) (aL v) p) := by
        intro k9 rc
        unfold B_X5_owesAll_10
        rw [sc_w, R0 hR, bs, if_pos (by rw [nI_leI (by omega) (by omega)]; omega)]
      exact ((lo2_s _ _ _ _).trans (key _ _)).trans hcl
  · have key : ∀ k9 rc, B_X5_owesAll_10 (nI i) (nI rd) k9 rc (sc M w (aL (oAs N K c i rd 0)) (aL v) p) (nI 0) = k9 (sc M w (aL (oAs N K c i rd N)) (aL v) p) := by
      intro k9 rc
      unfold B_X5_owesAll_10
      rw [sc_w, R0 hR, bs, if_neg (by rw [nI_leI (by omega) (by omega)]; omega), if_neg (nI_ne0 (by omega) (by omega)), show (aL (oAs N K c i rd 0) : Fin 16 → Int64) = aL (oAs N K c i rd N) from aL_eq (fun k _ => by unfold oAs; rw [if_neg (fun z => h0 z.1), if_neg (fun z => h0 z.1)])]
    exact ((lo2_s _ 999 _ _).trans (key _ _)).trans hcl
def lvU (N K : Nat) (c : Nat → Nat) (i : Nat) : Nat → Nat := fun q => shp (oPg N c i 0 K) (fdN c i 6) q + shp (oPg N c i 1 K) (fdN c i 6 - sN (oPg N c i 0 K) 16) q
theorem M_sharesLives (hR : RowR w N K c) (hO : OKc N K c) {i : Nat} (hi : i < N) (o u : Fin 16 → Int64) : F_X5_sharesLives (sc M w o u p) (nI i) = some (sc M w (aL (oPg N c i 1 K)) (aL (lvU N K c i)) p) := by
  have hf : F_X5_fundOf w (nI i) 6 = some (lN (fdN c i 6)) := M_fundOf hR hO hi (w := 6) (Or.inr rfl)
  have hfl := fdN_le c i 6
  have step : ∀ (rd : Nat) (_ : rd < 2) (k9 : MS → Option MS) rc (o2 : Fin 16 → Int64) (v : Nat → Nat) (g : Nat) (_ : g ≤ 2000000000), B_X5_sharesLives_22 (nI i) k9 rc (sc M w o2 (aL v) p) (lN g) (nI rd) = rc (sc M w (aL (oPg N c i rd K)) (aL (fun q => v q + shp (oPg N c i rd K) g q)) p) (lN (g - sN (oPg N c i rd K) 16)) (nI (rd + 1)) := by
    intro rd hrd k9 rc o2 v g hg
    unfold B_X5_sharesLives_22
    rw [show (2 : Int32) = nI 2 from rfl, if_neg (by rw [nI_leI (by omega) (by omega)]; omega), M_owesPersons hR hO hi hrd, bs, M_shares hg (fun k _ => oPg_le hO hi k), bs, nm_eq, nI_1]
  unfold F_X5_sharesLives
  rw [M_clears, bs, nm_eq, sc_su, sc_w, hf, bs, FU_eq]
  refine ((lo3_s _ 999 _ _ _).trans (step 0 (by omega) _ _ _ _ _ hfl)).trans ?_
  refine ((lo3_s _ 998 _ _ _).trans (step 1 (by omega) _ _ _ _ _ (by omega))).trans ?_
  refine (lo3_s _ 997 _ _ _).trans ?_
  have key : ∀ (k9 : MS → Option MS) rc S x, B_X5_sharesLives_22 (nI i) k9 rc S x (nI (1 + 1)) = k9 S := by
    intro k9 rc S x
    unfold B_X5_sharesLives_22
    rw [if_pos (by decide)]
  rw [key]
  refine congrArg (fun z => some (sc M w (aL (oPg N c i 1 K)) z p)) (aL_eq fun q _ => ?_)
  show 0 + shp (oPg N c i 0 K) (fdN c i 6) q + shp (oPg N c i 1 K) (fdN c i 6 - sN (oPg N c i 0 K) 16) q = _
  rw [Nat.zero_add]
  rfl
theorem lvU_le {i : Nat} (k : Nat) : lvU N K c i (4 + k) ≤ dN N c i k := by
  have h0 : shp (oPg N c i 0 K) (fdN c i 6) (4 + k) ≤ oPg N c i 0 K (4 + k) := shp_le _
  have h1 : shp (oPg N c i 1 K) (fdN c i 6 - sN (oPg N c i 0 K) 16) (4 + k) ≤ oPg N c i 1 K (4 + k) := shp_le _
  have h2 : oPg N c i 0 K (4 + k) + oPg N c i 1 K (4 + k) ≤ dN N c i k := by
    unfold oPg
    rw [show 4 + k - 4 = k by omega]
    by_cases q : rN c k = 0
    · rw [if_neg (c := _ ∧ _ ∧ _ ∧ rN c k = 1) (fun z => by omega)]
      split <;> omega
    · rw [if_neg (c := _ ∧ _ ∧ _ ∧ rN c k = 0) (fun z => q z.2.2.2)]
      split <;> omega
  show _ + _ ≤ _
  omega
def rtU (N K : Nat) (c : Nat → Nat) (i : Nat) : Nat → Nat := fun q => lvU N K c i q + shp (oAg N K c i 0 (lvU N K c i) K) (fdN c i 5) q
def payU (N K : Nat) (c : Nat → Nat) (i : Nat) : Nat → Nat := fun q => rtU N K c i q + shp (oAg N K c i 1 (rtU N K c i) K) (fdN c i 5 - sN (oAg N K c i 0 (lvU N K c i) K) 16) q
theorem rtU_le {i : Nat} (k : Nat) (h : rN c k = 1) : rtU N K c i (4 + k) ≤ dN N c i k := by
  have h0 : shp (oAg N K c i 0 (lvU N K c i) K) (fdN c i 5) (4 + k) ≤ oAg N K c i 0 (lvU N K c i) K (4 + k) := shp_le _
  have h1 : oAg N K c i 0 (lvU N K c i) K (4 + k) = 0 := by
    unfold oAg
    rw [if_neg (by omega), show 4 + k - 4 = k by omega, if_neg (by omega)]
  have h2 := lvU_le (N := N) (K := K) (c := c) (i := i) k
  show _ + _ ≤ _
  omega
def payB (N K : Nat) (c : Nat → Nat) (i : Nat) : Nat → Nat := fun q => if q < 4 then (if q < N then lwN N K c i q else 0) else if q < 4 + K then dN N c i (q - 4) else 0
def payN (N K : Nat) (c : Nat → Nat) (i : Nat) : Nat → Nat := if c (10 + 6 * i + 5) = 1 then payB N K c i else payU N K c i
def pBs (N K : Nat) (c : Nat → Nat) (i j : Nat) : Nat → Nat := fun q => if q < j then lwN N K c i q else 0
def pBc (N K : Nat) (c : Nat → Nat) (i k : Nat) : Nat → Nat := fun q => if q < 4 then (if q < N then lwN N K c i q else 0) else if q < 4 + k then dN N c i (q - 4) else 0
theorem le16' {i : Nat} (h : i < 16) : ¬ (16 : Int32) ≤ nI i := le16 h
/-- what comes out goes to the ship's row -/
theorem M_paysRow (o : Fin 16 → Int64) (v : Nat → Nat) {i : Nat} (hi : i < 4) : ∃ p2 : Fin 64 → Int64, J_X5_paysOne_135 (sc M w o (aL v) p) (nI i) = some (sc M w o (aL v) p2) ∧ (∀ q, q < 16 → exL p2 (16 * i + q) = lN (v q)) ∧ ∀ z, (z < 16 * i ∨ 16 * i + 16 ≤ z) → exL p2 z = exL p z := by
  unfold J_X5_paysOne_135
  obtain ⟨p2, ⟨h1, h2⟩, e⟩ := loopE (fun fu q (s : Fin 64 → Int64) => lo2 (B_X5_paysOne_137 (nI i) (fun S12 => some S12)) fu (sc M w o (aL v) s) (nI q)) (fun s => some (sc M w o (aL v) s)) 16 (fun n s => (∀ q, q < n → exL s (16 * i + q) = lN (v q)) ∧ ∀ z, (z < 16 * i ∨ 16 * i + 16 ≤ z) → exL s z = exL p z) (by
    intro fu q s hq hI
    have key : ∀ k9 rc, B_X5_paysOne_137 (nI i) k9 rc (sc M w o (aL v) s) (nI q) = rc (sc M w o (aL v) (upL s (16 * i + q) (lN (v q)))) (nI (q + 1)) := by
      intro k9 rc
      unfold B_X5_paysOne_137
      rw [if_neg (le16 hq), sc_u, rL_a v hq (by omega), bs, sc_p, show (16 : Int32) = nI 16 from rfl, pk_mul, nI_add, wL s (by omega) (by omega), bs, nm_eq, sc_sp, nm_eq, nI_1]
    refine ⟨upL s (16 * i + q) (lN (v q)), ⟨fun z hz => ?_, fun z hz => ?_⟩, (lo2_s _ _ _ _).trans (key _ _)⟩
    · rw [exL_up s (by omega)]
      by_cases h : z = q
      · subst h
        rw [if_pos rfl]
      · rw [if_neg (by omega)]
        exact hI.1 z (by omega)
    · rw [exL_up s (by omega), if_neg (by omega)]
      exact hI.2 z hz) (by
    intro fu s hI
    have key : ∀ k9 rc, B_X5_paysOne_137 (nI i) k9 rc (sc M w o (aL v) s) (nI 16) = k9 (sc M w o (aL v) s) := by
      intro k9 rc
      unfold B_X5_paysOne_137
      rw [if_pos (by decide)]
    exact (lo2_s _ _ _ _).trans (key _ _)) 16 FU 0 p (by omega) (by rw [FU_eq]; omega) ⟨fun q hq => absurd hq (Nat.not_lt_zero q), fun z _ => rfl⟩
  exact ⟨p2, e, h1, h2⟩
theorem M_paysOne (hR : RowR w N K c) (hO : OKc N K c) {i : Nat} (hi : i < N) (o u : Fin 16 → Int64) : ∃ (o2 u2 : Fin 16 → Int64) (p2 : Fin 64 → Int64), F_X5_paysOne (sc M w o u p) (nI i) = some (sc M w o2 u2 p2) ∧ (∀ q, q < 16 → exL p2 (16 * i + q) = lN (payN N K c i q)) ∧ ∀ z, (z < 16 * i ∨ 16 * i + 16 ≤ z) → exL p2 z = exL p z := by
  have hN := hO.1
  have e5 : F_X5_ofShip w (nI i) 5 = some (nI (c (10 + 6 * i + 5))) := Sh hR hO hi (w := 5) (by decide)
  have hb := (hO.2.2.1 i hi).2.2.2.2.2.2
  unfold F_X5_paysOne
  rw [sc_w, e5, bs]
  by_cases h5 : c (10 + 6 * i + 5) = 1
  · rw [if_pos (by rw [h5]; rfl), M_clears, bs, nm_eq, sc_su]
    have hpay : payN N K c i = payB N K c i := if_pos h5
    rw [hpay]
    obtain ⟨p2, e, h1, h2⟩ := M_paysRow (M := M) (w := w) (p := p) o (payB N K c i) (i := i) (by omega)
    refine ⟨o, aL (payB N K c i), p2, ?_, h1, h2⟩
    have hc2 : lo2 (B_X5_paysOne_56 (nI i) (fun S26 => J_X5_paysOne_135 S26 (nI i))) FU (sc M w o (aL (pBs N K c i N)) p) 0 = some (sc M w o (aL (payB N K c i)) p2) := by
      rw [show (aL (pBs N K c i N) : Fin 16 → Int64) = aL (pBc N K c i 0) from aL_eq (fun k _ => by
        unfold pBs pBc
        by_cases h : k < 4
        · rw [if_pos h]
        · rw [if_neg h, if_neg (by omega), if_neg (by omega)])]
      refine loopR (fun fu k (_ : Unit) => lo2 (B_X5_paysOne_56 (nI i) (fun S26 => J_X5_paysOne_135 S26 (nI i))) fu (sc M w o (aL (pBc N K c i k)) p) (nI k)) _ K (fun _ _ => True) ?_ ?_ K FU 0 () (by omega) (by rw [FU_eq]; omega) trivial
      · intro fu k _ hk _
        have key : ∀ k9 rc, B_X5_paysOne_56 (nI i) k9 rc (sc M w o (aL (pBc N K c i k)) p) (nI k) = rc (sc M w o (aL (pBc N K c i (k + 1))) p) (nI (k + 1)) := by
          intro k9 rc
          unfold B_X5_paysOne_56
          rw [sc_w, R1 hR, bs, if_neg (by rw [nI_leI (by omega) (by omega)]; omega), M_debtOf hR hO hi hk, bs, sc_u, show (4 : Int32) = nI 4 from rfl, nI_add, wL_a _ (by omega) (by omega), bs, nm_eq, sc_su, nm_eq, nI_1, aL_eq (n := 16) (u := pBc N K c i (k + 1)) fun q _ => ?_]
          show (if q = 4 + k then dN N c i k else pBc N K c i k q) = pBc N K c i (k + 1) q
          unfold pBc
          by_cases hq : q = 4 + k
          · subst hq
            rw [if_pos rfl, if_neg (by omega), if_pos (by omega), show 4 + k - 4 = k by omega]
          · rw [if_neg hq]
            by_cases h4 : q < 4
            · rw [if_pos h4, if_pos h4]
            · rw [if_neg h4, if_neg h4]
              by_cases h3 : q < 4 + k
              · rw [if_pos h3, if_pos (by omega)]
              · rw [if_neg h3, if_neg (by omega)]
        exact ⟨(), trivial, (lo2_s _ _ _ _).trans (key _ _)⟩
      · intro fu _ _
        have key : ∀ k9 rc, B_X5_paysOne_56 (nI i) k9 rc (sc M w o (aL (pBc N K c i K)) p) (nI K) = k9 (sc M w o (aL (pBc N K c i K)) p) := by
          intro k9 rc
          unfold B_X5_paysOne_56
          rw [sc_w, R1 hR, bs, if_pos (by rw [nI_leI (by omega) (by omega)]; omega)]
        exact ((lo2_s _ _ _ _).trans (key _ _)).trans e
    rw [show (aL (fun _ => 0) : Fin 16 → Int64) = aL (pBs N K c i 0) from aL_eq (fun k _ => by unfold pBs; rw [if_neg (by omega)])]
    refine loopR (fun fu j (_ : Unit) => lo2 (B_X5_paysOne_23 (nI i) (fun S20 => lo2 (B_X5_paysOne_56 (nI i) (fun S26 => J_X5_paysOne_135 S26 (nI i))) FU S20 0)) fu (sc M w o (aL (pBs N K c i j)) p) (nI j)) _ N (fun _ _ => True) ?_ ?_ N FU 0 () (by omega) (by rw [FU_eq]; omega) trivial
    · intro fu j _ hj _
      have key : ∀ k9 rc, B_X5_paysOne_23 (nI i) k9 rc (sc M w o (aL (pBs N K c i j)) p) (nI j) = rc (sc M w o (aL (pBs N K c i (j + 1))) p) (nI (j + 1)) := by
        intro k9 rc
        unfold B_X5_paysOne_23
        rw [sc_w, R0 hR, bs, if_neg (by rw [nI_leI (by omega) (by omega)]; omega), M_lawOwed hR hO hi hj, bs, sc_u, wL_a _ (by omega) (by omega), bs, nm_eq, sc_su, nm_eq, nI_1, aL_eq (n := 16) (u := pBs N K c i (j + 1)) fun q _ => ?_]
        show (if q = j then lwN N K c i j else pBs N K c i j q) = pBs N K c i (j + 1) q
        unfold pBs
        by_cases hq : q = j
        · subst hq
          rw [if_pos rfl, if_pos (by omega)]
        · rw [if_neg hq]
          by_cases h3 : q < j
          · rw [if_pos h3, if_pos (by omega)]
          · rw [if_neg h3, if_neg (by omega)]
      exact ⟨(), trivial, (lo2_s _ _ _ _).trans (key _ _)⟩
    · intro fu _ _
      have key : ∀ k9 rc, B_X5_paysOne_23 (nI i) k9 rc (sc M w o (aL (pBs N K c i N)) p) (nI N) = k9 (sc M w o (aL (pBs N K c i N)) p) := by
        intro k9 rc
        unfold B_X5_paysOne_23
        rw [sc_w, R0 hR, bs, if_pos (by rw [nI_leI (by omega) (by omega)]; omega)]
      exact ((lo2_s _ _ _ _).trans (key _ _)).trans hc2
  · have hf : F_X5_fundOf w (nI i) 5 = some (lN (fdN c i 5)) := M_fundOf hR hO hi (w := 5) (Or.inl rfl)
    have hfl := fdN_le c i 5
    have hpay : payN N K c i = payU N K c i := if_neg h5
    rw [if_neg (nI_n1 h5 (by omega)), M_sharesLives hR hO hi, bs, sc_w, hf, bs, hpay]
    have step : ∀ (rd : Nat) (_ : rd < 2) (k9 : MS → Option MS) rc (o2 : Fin 16 → Int64) (v : Nat → Nat) (g : Nat) (_ : g ≤ 2000000000) (_ : ∀ k, k < K → rN c k = rd → v (4 + k) ≤ dN N c i k), B_X5_paysOne_110 (nI i) k9 rc (sc M w o2 (aL v) p) (lN g) (nI rd) = rc (sc M w (aL (oAg N K c i rd v K)) (aL (fun q => v q + shp (oAg N K c i rd v K) g q)) p) (lN (g - sN (oAg N K c i rd v K) 16)) (nI (rd + 1)) := by
      intro rd hrd k9 rc o2 v g hg hv
      unfold B_X5_paysOne_110
      rw [show (2 : Int32) = nI 2 from rfl, if_neg (by rw [nI_leI (by omega) (by omega)]; omega), M_owesAll hR hO hi hrd _ v hv, bs, M_shares hg (fun k _ => oAg_le hO hi v k), bs, nm_eq, nI_1]
    obtain ⟨p2, e, h1, h2⟩ := M_paysRow (M := M) (w := w) (p := p) (aL (oAg N K c i 1 (rtU N K c i) K)) (payU N K c i) (i := i) (by omega)
    refine ⟨aL (oAg N K c i 1 (rtU N K c i) K), aL (payU N K c i), p2, ?_, h1, h2⟩
    rw [FU_eq]
    refine ((lo3_s _ 999 _ _ _).trans (step 0 (by omega) _ _ _ (lvU N K c i) _ hfl (fun k _ _ => lvU_le k))).trans ?_
    refine ((lo3_s _ 998 _ _ _).trans (step 1 (by omega) _ _ _ (rtU N K c i) _ (by omega) (fun k _ h => rtU_le k h))).trans ?_
    refine (lo3_s _ 997 _ _ _).trans ?_
    have key : ∀ (k9 : MS → Option MS) rc S x, B_X5_paysOne_110 (nI i) k9 rc S x (nI (1 + 1)) = k9 S := by
      intro k9 rc S x
      unfold B_X5_paysOne_110
      rw [if_pos (by decide)]
    rw [key]
    exact e
theorem M_paysAll (hR : RowR w N K c) (hO : OKc N K c) (o u : Fin 16 → Int64) : ∃ (o2 u2 : Fin 16 → Int64) (p2 : Fin 64 → Int64), F_X5_paysAll (sc M w o u p) = some (sc M w o2 u2 p2) ∧ ∀ i, i < N → ∀ q, q < 16 → exL p2 (16 * i + q) = lN (payN N K c i q) := by
  have hN := hO.1
  unfold F_X5_paysAll
  obtain ⟨⟨o2, u2, p2⟩, h, e⟩ := loopE (fun fu i (s : (Fin 16 → Int64) × (Fin 16 → Int64) × (Fin 64 → Int64)) => lo2 (B_X5_paysAll_2 (fun S4 => some S4)) fu (sc M w s.1 s.2.1 s.2.2) (nI i)) (fun s => some (sc M w s.1 s.2.1 s.2.2)) N (fun n s => ∀ i, i < n → ∀ q, q < 16 → exL s.2.2 (16 * i + q) = lN (payN N K c i q)) (by
    intro fu i s hi hI
    obtain ⟨o1, u1, p1⟩ := s
    obtain ⟨o2, u2, p2, e, h1, h2⟩ := M_paysOne (M := M) (p := p1) hR hO hi o1 u1
    have key : ∀ k9 rc, B_X5_paysAll_2 k9 rc (sc M w o1 u1 p1) (nI i) = rc (sc M w o2 u2 p2) (nI (i + 1)) := by
      intro k9 rc
      unfold B_X5_paysAll_2
      rw [sc_w, R0 hR, bs, if_neg (by rw [nI_leI (by omega) (by omega)]; omega), e, bs, nm_eq, nI_1]
    refine ⟨(o2, u2, p2), fun j hj q hq => ?_, (lo2_s _ _ _ _).trans (key _ _)⟩
    by_cases h : j = i
    · subst h
      exact h1 q hq
    · have := h2 (16 * j + q) (by omega)
      rw [this]
      exact hI j (by omega) q hq) (by
    intro fu s hI
    obtain ⟨o1, u1, p1⟩ := s
    have key : ∀ k9 rc, B_X5_paysAll_2 k9 rc (sc M w o1 u1 p1) (nI N) = k9 (sc M w o1 u1 p1) := by
      intro k9 rc
      unfold B_X5_paysAll_2
      rw [sc_w, R0 hR, bs, if_pos (by rw [nI_leI (by omega) (by omega)]; omega)]
    exact (lo2_s _ _ _ _).trans (key _ _)) N FU 0 (o, u, p) (by omega) (by rw [FU_eq]; omega) (fun i hi => absurd hi (Nat.not_lt_zero i))
  exact ⟨o2, u2, p2, e, h⟩
end MPAY
