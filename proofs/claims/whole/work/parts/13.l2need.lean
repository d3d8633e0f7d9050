/-! ===== level 2: the rate that would do ===== -/
section NEED
variable {T : TS} {N K : Nat} {c : Nat → Nat} {wt : Fin 4 → Int32} {lk : Fin 16 → Int64}
theorem sN_add2 (f g : Nat → Nat) : ∀ n, sN (fun k => f k + g k) n = sN f n + sN g n
  | 0 => rfl
  | n + 1 => by
    rw [sN_s (fun k => f k + g k) n, sN_add2 f g n, sN_s f n, sN_s g n]
    omega
theorem sN_zero {f : Nat → Nat} {n : Nat} (h : ∀ k, k < n → f k = 0) : sN f n = 0 := by
  rw [sN_eq (g := fun _ => 0) h, sN_c, Nat.mul_zero]
theorem sN_ext0 (f : Nat → Nat) (m : Nat) : ∀ n, (∀ k, m ≤ k → k < m + n → f k = 0) → sN f (m + n) = sN f m
  | 0, _ => rfl
  | n + 1, h => by
    rw [show m + (n + 1) = (m + n) + 1 from rfl, sN_s f (m + n), sN_ext0 f m n (fun k h1 h2 => h k h1 (by omega)), h (m + n) (by omega) (by omega)]
    rfl
/-- what is owed together -/
theorem payB_sum (hO : OKc N K c) (i : Nat) : sN (payB N K c i) 16 = sN (fun j => lwN N K c i j) N + sN (fun k => dN N c i k) K := by
  have hN := hO.1
  have h1 : sN (payB N K c i) (4 + K) = sN (payB N K c i) 16 := by
    have := sN_ext0 (payB N K c i) (4 + K) (12 - K) (fun k h1 h2 => by
      unfold payB
      rw [if_neg (by omega), if_neg (by omega)])
    rw [show 4 + K + (12 - K) = 16 by omega] at this
    exact this.symm
  have h2 : sN (payB N K c i) N = sN (payB N K c i) 4 := by
    have := sN_ext0 (payB N K c i) N (4 - N) (fun k h1 h2 => by
      unfold payB
      rw [if_pos (by omega), if_neg (by omega)])
    rw [show N + (4 - N) = 4 by omega] at this
    exact this.symm
  rw [← h1, ← sN_shift (payB N K c i) K, ← h2]
  rw [sN_eq (f := payB N K c i) (g := fun j => lwN N K c i j) (fun j hj => by
    unfold payB
    rw [if_pos (by omega), if_pos hj]), sN_eq (f := fun k => payB N K c i (4 + k)) (g := fun k => dN N c i k) (fun k hk => by
    show payB N K c i (4 + k) = dN N c i k
    unfold payB
    rw [if_neg (by omega), if_pos (by omega), show 4 + k - 4 = k by omega])]
theorem oPg_sum (hO : OKc N K c) (i rd : Nat) : sN (oPg N c i rd K) 16 = sN (fun k => if c (34 + 4 * k) = 1 ∧ rN c k = rd then dN N c i k else 0) K := by
  have hN := hO.1
  have h1 : sN (oPg N c i rd K) (4 + K) = sN (oPg N c i rd K) 16 := by
    have := sN_ext0 (oPg N c i rd K) (4 + K) (12 - K) (fun k h1 h2 => by
      unfold oPg
      rw [if_neg (by omega)])
    rw [show 4 + K + (12 - K) = 16 by omega] at this
    exact this.symm
  have h2 : sN (oPg N c i rd K) 4 = 0 := sN_zero fun k hk => by
    unfold oPg
    rw [if_neg (by omega)]
  rw [← h1, ← sN_shift (oPg N c i rd K) K, h2, Nat.zero_add]
  refine sN_eq fun k hk => ?_
  show oPg N c i rd K (4 + k) = if c (34 + 4 * k) = 1 ∧ rN c k = rd then dN N c i k else 0
  unfold oPg
  rw [show 4 + k - 4 = k by omega]
  by_cases h : c (34 + 4 * k) = 1 ∧ rN c k = rd
  · rw [if_pos h, if_pos ⟨by omega, by omega, h.1, h.2⟩]
  · rw [if_neg h, if_neg (fun z => h z.2.2)]
theorem opN_two (hO : OKc N K c) (i : Nat) : opN N K c i = sN (oPg N c i 0 K) 16 + sN (oPg N c i 1 K) 16 := by
  rw [oPg_sum hO, oPg_sum hO, ← sN_add2]
  refine sN_eq fun k hk => ?_
  show (if c (34 + 4 * k) = 1 then dN N c i k else 0) = (if c (34 + 4 * k) = 1 ∧ rN c k = 0 then dN N c i k else 0) + (if c (34 + 4 * k) = 1 ∧ rN c k = 1 then dN N c i k else 0)
  by_cases h : c (34 + 4 * k) = 1
  · rw [if_pos h]
    by_cases h0 : rN c k = 0
    · rw [if_pos ⟨h, h0⟩, if_neg (fun z => by omega), Nat.add_zero]
    · by_cases h1 : rN c k = 1
      · rw [if_neg (fun z => h0 z.2), if_pos ⟨h, h1⟩, Nat.zero_add]
      · rw [if_neg (fun z => h0 z.2), if_neg (fun z => h1 z.2)]
        have : c 9 < c (34 + 4 * k + 3) := by
          unfold rN at h0 h1
          by_cases q1 : c (34 + 4 * k + 3) ≤ c 8
          · rw [if_pos q1] at h0
            exact absurd rfl h0
          · rw [if_neg q1] at h1
            by_cases q2 : c (34 + 4 * k + 3) ≤ c 9
            · rw [if_pos q2] at h1
              exact absurd rfl h1
            · omega
        unfold dN
        rw [if_pos this]
  · rw [if_neg h, if_neg (fun z => h z.1), if_neg (fun z => h z.1)]
theorem lvU_sum (hO : OKc N K c) (i : Nat) : sN (fun k => lvU N K c i (4 + k)) K = min (opN N K c i) (fdN c i 6) := by
  have hN := hO.1
  have h2 : sN (lvU N K c i) 4 = 0 := sN_zero fun k hk => lvU_lt4 hk
  have h1 : sN (lvU N K c i) (4 + K) = sN (lvU N K c i) 16 := by
    have := sN_ext0 (lvU N K c i) (4 + K) (12 - K) (fun k h1 h2 => by
      have z : ∀ rd, oPg N c i rd K k = 0 := fun rd => by
        unfold oPg
        rw [if_neg (by omega)]
      have g0 : shp (oPg N c i 0 K) (fdN c i 6) k ≤ oPg N c i 0 K k := shp_le _
      have g1 : shp (oPg N c i 1 K) (fdN c i 6 - sN (oPg N c i 0 K) 16) k ≤ oPg N c i 1 K k := shp_le _
      rw [z] at g0 g1
      show _ + _ = 0
      omega)
    rw [show 4 + K + (12 - K) = 16 by omega] at this
    exact this.symm
  have h3 := sN_shift (lvU N K c i) K
  have h4 : sN (lvU N K c i) 16 = sN (shp (oPg N c i 0 K) (fdN c i 6)) 16 + sN (shp (oPg N c i 1 K) (fdN c i 6 - sN (oPg N c i 0 K) 16)) 16 := sN_add2 _ _ 16
  rw [shp_sum, shp_sum] at h4
  rw [opN_two hO]
  omega
def ndN (N K : Nat) (c : Nat → Nat) (i : Nat) : Nat := sN (fun j => lwN N K c i j) N + sN (fun k => dN N c i k - lvU N K c i (4 + k)) K
theorem ndN_eq (hO : OKc N K c) (i : Nat) : ndN N K c i = sN (payB N K c i) 16 - min (opN N K c i) (fdN c i 6) ∧ min (opN N K c i) (fdN c i 6) ≤ sN (payB N K c i) 16 := by
  have h1 : sN (fun k => dN N c i k - lvU N K c i (4 + k)) K + sN (fun k => lvU N K c i (4 + k)) K = sN (fun k => dN N c i k) K := by
    rw [← sN_add2]
    refine sN_eq fun k hk => ?_
    have := lvU_le (N := N) (K := K) (c := c) (i := i) k
    show dN N c i k - lvU N K c i (4 + k) + lvU N K c i (4 + k) = dN N c i k
    omega
  have h2 := lvU_sum hO i
  have h3 := payB_sum hO i
  unfold ndN
  omega
theorem ndN_le (hO : OKc N K c) {i : Nat} (hi : i < N) : ndN N K c i ≤ 3200000000 := by
  have h := (ndN_eq hO i).1
  have h2 : sN (payB N K c i) 16 ≤ 16 * 200000000 := sN_bd fun q hq => by
    unfold payB
    split
    · split
      · rename_i h4 h5
        have := lwN_le hO hi h5
        omega
      · omega
    · split
      · rename_i h4 h5
        have h1 := dN_le hO hi (k := q - 4) (by omega)
        have h2 := (hO.2.2.2.2 (q - 4) (by omega)).2.2.2.1
        omega
      · omega
  omega
def rnN (N K : Nat) (c : Nat → Nat) (i : Nat) : Nat := if c (10 + 6 * i + 5) = 1 then 0 else (ndN N K c i + max (c (10 + 6 * i)) (c 7) - 1) / max (c (10 + 6 * i)) (c 7)
theorem C_rateNeeded (hR : RowT T N K c) (hO : OKc N K c) {i : Nat} (hi : i < N) : F_X1_rateNeeded (stl T wt lk N K c) (nI i) = some (lN (rnN N K c i)) := by
  have e5 : F_X2_ofShip T (nI i) 5 = some (nI (c (10 + 6 * i + 5))) := C_sh hR hO hi (w := 5) (by decide)
  have e6 : F_X2_fundOf T (nI i) 6 = some (lN (fdN c i 6)) := C_fundOf hR hO hi (w := 6) (Or.inr rfl)
  have hfl := fdN_le c i 6
  have hs := hO.2.2.1 i hi
  have hl := hO.2.1
  have hn := ndN_le hO hi
  obtain ⟨hq, hle⟩ := ndN_eq hO i
  have hop : opN N K c i ≤ 3200000000 := by
    have := sN_bd (f := fun k => if c (34 + 4 * k) = 1 then dN N c i k else 0) (c := 9999999) (n := K) (fun k hk => by
      have h1 := dN_le hO hi hk
      have h2 := (hO.2.2.2.2 k hk).2.2.2.1
      show (if c (34 + 4 * k) = 1 then dN N c i k else 0) ≤ 9999999
      split <;> omega)
    have h2 : K * 9999999 ≤ 12 * 9999999 := Nat.mul_le_mul_right _ hO.1.2.2
    unfold opN
    omega
  unfold F_X1_rateNeeded rnN
  rw [stl_t, e5, bs]
  by_cases h5 : c (10 + 6 * i + 5) = 1
  · rw [if_pos (by rw [h5]; rfl), if_pos h5]
    rfl
  · have hmin : (if lN (fdN c i 6) < lN (opN N K c i) then lN (fdN c i 6) else lN (opN N K c i)) = lN (min (opN N K c i) (fdN c i 6)) := by
      rw [Nat.min_def]
      by_cases h : fdN c i 6 < opN N K c i
      · rw [if_pos ((pk_lLT (by omega) (by omega)).mpr h), if_neg (by omega)]
      · rw [if_neg (fun q => h ((pk_lLT (by omega) (by omega)).mp q)), if_pos (by omega)]
    rw [if_neg (nI_n1 h5 (by omega)), if_neg h5, C_owedToPersons hR hO hi, bs, C_owedByShip hO hi, bs, e6, bs, nm_eq, hmin, nm_eq, lN_sub hle, ← hq, C_fundTons hR hO hi, bs, lN_add, show (1 : Int64) = lN 1 from rfl, lN_sub (by omega), C_cut (by omega) (by omega), bs]
end NEED
