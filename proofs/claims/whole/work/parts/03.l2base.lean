/-! ===== level 2: numbers, rows, loops ===== -/
theorem rI {n : Nat} (f : Fin n → Int32) {k : Nat} (h : k < n) (hn : n ≤ 1000) : rdI f (nI k) = some (exI f k) := by
  have h1 : inB (nI k) n = true := by
    simp only [inB, Bool.and_eq_true, decide_eq_true_eq]
    exact ⟨nI_pos' (by omega), by rw [nI_clamp (by omega)]; exact h⟩
  unfold rdI
  rw [if_pos h1, nI_clamp (by omega)]
theorem rL {n : Nat} (f : Fin n → Int64) {k : Nat} (h : k < n) (hn : n ≤ 1000) : rdL f (nI k) = some (exL f k) := by
  have h1 : inB (nI k) n = true := by
    simp only [inB, Bool.and_eq_true, decide_eq_true_eq]
    exact ⟨nI_pos' (by omega), by rw [nI_clamp (by omega)]; exact h⟩
  unfold rdL
  rw [if_pos h1, nI_clamp (by omega)]
theorem wI {n : Nat} (f : Fin n → Int32) {k : Nat} (h : k < n) (hn : n ≤ 1000) (v : Int32) : wrI f (nI k) v = some (upI f k v) := by
  have h1 : inB (nI k) n = true := by
    simp only [inB, Bool.and_eq_true, decide_eq_true_eq]
    exact ⟨nI_pos' (by omega), by rw [nI_clamp (by omega)]; exact h⟩
  unfold wrI
  rw [if_pos h1, nI_clamp (by omega)]
theorem wL {n : Nat} (f : Fin n → Int64) {k : Nat} (h : k < n) (hn : n ≤ 1000) (v : Int64) : wrL f (nI k) v = some (upL f k v) := by
  have h1 : inB (nI k) n = true := by
    simp only [inB, Bool.and_eq_true, decide_eq_true_eq]
    exact ⟨nI_pos' (by omega), by rw [nI_clamp (by omega)]; exact h⟩
  unfold wrL
  rw [if_pos h1, nI_clamp (by omega)]
theorem exI_up {n : Nat} (f : Fin n → Int32) {k : Nat} (h : k < n) (v : Int32) (j : Nat) : exI (upI f k v) j = if j = k then v else exI f j := by
  by_cases hj : j = k
  · subst hj; simp [exI, upI, h]
  · by_cases hn : j < n
    · simp [exI, upI, hn, hj]
    · simp [exI, hn, hj]
theorem exL_up {n : Nat} (f : Fin n → Int64) {k : Nat} (h : k < n) (v : Int64) (j : Nat) : exL (upL f k v) j = if j = k then v else exL f j := by
  by_cases hj : j = k
  · subst hj; simp [exL, upL, h]
  · by_cases hn : j < n
    · simp [exL, upL, hn, hj]
    · simp [exL, hn, hj]
theorem ext_I {n : Nat} {f g : Fin n → Int32} (h : ∀ k, k < n → exI f k = exI g k) : f = g := by
  funext j
  have := h j.1 j.2
  simpa [exI, j.2] using this
theorem ext_L {n : Nat} {f g : Fin n → Int64} (h : ∀ k, k < n → exL f k = exL g k) : f = g := by
  funext j
  have := h j.1 j.2
  simpa [exL, j.2] using this
theorem FU_eq : FU = 999 + 1 := rfl
/-- a loop by its counter: an invariant, and what stands behind it -/
theorem loopE {σ β : Type} (L : Nat → Nat → σ → Option β) (K : σ → Option β) (N : Nat) (I : Nat → σ → Prop)
    (h1 : ∀ fu i s, i < N → I i s → ∃ s', I (i + 1) s' ∧ L (fu + 1) i s = L fu (i + 1) s')
    (h3 : ∀ fu s, I N s → L (fu + 1) N s = K s) : ∀ d fu i s, i + d = N → d < fu → I i s → ∃ s', I N s' ∧ L fu i s = K s' := by
  intro d
  induction d with
  | zero =>
    intro fu i s hi hf hI
    obtain ⟨fu, rfl⟩ : ∃ f, fu = f + 1 := ⟨fu - 1, by omega⟩
    have hi : i = N := by omega
    subst hi
    exact ⟨s, hI, h3 fu s hI⟩
  | succ d ih =>
    intro fu i s hi hf hI
    obtain ⟨fu, rfl⟩ : ∃ f, fu = f + 1 := ⟨fu - 1, by omega⟩
    obtain ⟨s', h', e⟩ := h1 fu i s (by omega) hI
    obtain ⟨s'', h'', e'⟩ := ih fu (i + 1) s' (by omega) (by omega) h'
    exact ⟨s'', h'', e.trans e'⟩
/-- the same where the end's answer is one -/
theorem loopR {σ β : Type} (L : Nat → Nat → σ → Option β) (R : Option β) (N : Nat) (I : Nat → σ → Prop)
    (h1 : ∀ fu i s, i < N → I i s → ∃ s', I (i + 1) s' ∧ L (fu + 1) i s = L fu (i + 1) s')
    (h3 : ∀ fu s, I N s → L (fu + 1) N s = R) (d fu i : Nat) (s : σ) (hi : i + d = N) (hf : d < fu) (hI : I i s) : L fu i s = R := by
  obtain ⟨s', -, e⟩ := loopE L (fun _ => R) N I h1 h3 d fu i s hi hf hI
  exact e
def sN (f : Nat → Nat) : Nat → Nat
  | 0 => 0
  | n + 1 => sN f n + f n
theorem sN_le {f g : Nat → Nat} : ∀ {n : Nat}, (∀ k, k < n → f k ≤ g k) → sN f n ≤ sN g n
  | 0, _ => Nat.le_refl _
  | n + 1, h => Nat.add_le_add (sN_le fun k hk => h k (by omega)) (h n (by omega))
theorem sN_c (c : Nat) : ∀ n, sN (fun _ => c) n = n * c
  | 0 => by simp [sN]
  | n + 1 => by rw [sN, sN_c c n, Nat.succ_mul]
theorem sN_bd {f : Nat → Nat} {c n : Nat} (h : ∀ k, k < n → f k ≤ c) : sN f n ≤ n * c := by
  rw [← sN_c c n]
  exact sN_le h
theorem sN_eq {f g : Nat → Nat} : ∀ {n : Nat}, (∀ k, k < n → f k = g k) → sN f n = sN g n
  | 0, _ => rfl
  | n + 1, h => by rw [sN, sN, sN_eq fun k hk => h k (by omega), h n (by omega)]
theorem sN_mem (f : Nat → Nat) {i : Nat} : ∀ {n : Nat}, i < n → f i ≤ sN f n
  | 0, h => absurd h (Nat.not_lt_zero i)
  | n + 1, h => by
    rcases Nat.lt_or_ge i n with q | q
    · exact Nat.le_trans (sN_mem f q) (Nat.le_add_right _ _)
    · have : i = n := by omega
      subst this
      exact Nat.le_add_left _ _
theorem sN_mem2 (f : Nat → Nat) {i j : Nat} (hij : i ≠ j) : ∀ {n : Nat}, i < n → j < n → f i + f j ≤ sN f n
  | 0, h, _ => absurd h (Nat.not_lt_zero i)
  | n + 1, h, h2 => by
    rcases Nat.lt_or_ge i n with q | q <;> rcases Nat.lt_or_ge j n with q2 | q2
    · exact Nat.le_trans (sN_mem2 f hij q q2) (Nat.le_add_right _ _)
    · have : j = n := by omega
      subst this
      exact Nat.add_le_add (sN_mem f q) (Nat.le_refl _)
    · have : i = n := by omega
      subst this
      rw [Nat.add_comm]
      exact Nat.add_le_add (sN_mem f q2) (Nat.le_refl _)
    · omega
/-! a case in plain numbers: c k is what the model's row holds at k (but for the ship of a claim that isn't for goods) -/
def OKc (N K : Nat) (c : Nat → Nat) : Prop :=
  (2 ≤ N ∧ N ≤ 4 ∧ K ≤ 12) ∧ (c 2 ≤ 1 ∧ c 3 ≤ 1 ∧ c 4 ≤ 1 ∧ c 5 ≤ 99999 ∧ c 6 ≤ 99999 ∧ 1 ≤ c 7 ∧ c 7 ≤ 99999 ∧ c 8 ≤ c 9 ∧ c 9 ≤ 999) ∧
  (∀ i, i < N → 1 ≤ c (10 + 6 * i) ∧ c (10 + 6 * i) ≤ 99999 ∧ c (10 + 6 * i + 1) ≤ 10 ∧ c (10 + 6 * i + 2) ≤ 9999999 ∧ c (10 + 6 * i + 3) ≤ 9999999 ∧ c (10 + 6 * i + 4) ≤ 1 ∧ c (10 + 6 * i + 5) ≤ 1) ∧ sN (fun i => c (10 + 6 * i + 1)) N = 10 ∧
  (∀ k, k < K → c (34 + 4 * k) ≤ 2 ∧ (c (34 + 4 * k) = 0 → c (34 + 4 * k + 1) < N) ∧ 1 ≤ c (34 + 4 * k + 2) ∧ c (34 + 4 * k + 2) ≤ 9999999 ∧ c (34 + 4 * k + 3) ≤ 999)
def onI (c : Nat → Nat) (k : Nat) : Int32 := if c (34 + 4 * k) = 0 then nI (c (34 + 4 * k + 1)) else -2
def RowR (r : Fin 82 → Int32) (N K : Nat) (c : Nat → Nat) : Prop :=
  exI r 0 = nI N ∧ exI r 1 = nI K ∧ (∀ w, 2 ≤ w → w < 10 → exI r w = nI (c w)) ∧ (∀ i, i < N → ∀ w, w < 6 → exI r (10 + 6 * i + w) = nI (c (10 + 6 * i + w))) ∧
  (∀ k, k < K → (∀ w, w < 4 → w ≠ 1 → exI r (34 + 4 * k + w) = nI (c (34 + 4 * k + w))) ∧ exI r (34 + 4 * k + 1) = onI c k)
def RowT (T : TS) (N K : Nat) (c : Nat → Nat) : Prop :=
  t_ships T = nI N ∧ t_claims T = nI K ∧ (∀ w, 2 ≤ w → w < 10 → exI (t_laws T) w = nI (c w)) ∧ (∀ i, i < N → ∀ w, w < 6 → exI (t_shipRows T) (6 * i + w) = nI (c (10 + 6 * i + w))) ∧
  (∀ k, k < K → (∀ w, w < 4 → w ≠ 1 → exI (t_claimRows T) (4 * k + w) = nI (c (34 + 4 * k + w))) ∧ exI (t_claimRows T) (4 * k + 1) = onI c k)
def wN (c : Nat → Nat) (i : Nat) : Nat := if c 2 = 1 then (if 0 < c (10 + 6 * i + 1) then 1 else 0) else c (10 + 6 * i + 1)
def WN (N : Nat) (c : Nat → Nat) : Nat := sN (wN c) N
def pN (N : Nat) (c : Nat → Nat) (i x : Nat) : Nat := x * wN c i / WN N c
def dN (N : Nat) (c : Nat → Nat) (i k : Nat) : Nat :=
  if c 9 < c (34 + 4 * k + 3) then 0 else if c (34 + 4 * k) = 0 ∧ c (34 + 4 * k + 1) = i then 0 else
  if c (34 + 4 * k) ≠ 0 ∨ c 3 = 0 then pN N c i (c (34 + 4 * k + 2)) else c (34 + 4 * k + 2) * wN c i / (WN N c - wN c (c (34 + 4 * k + 1)))
def bN (N : Nat) (c : Nat → Nat) (k j : Nat) : Nat :=
  if c 3 = 0 ∨ c (34 + 4 * k) ≠ 0 ∨ c 9 < c (34 + 4 * k + 3) ∨ c (34 + 4 * k + 1) = j then 0 else dN N c j k - pN N c j (c (34 + 4 * k + 2))
def boN (N K : Nat) (c : Nat → Nat) (i j : Nat) : Nat := sN (fun k => if c (34 + 4 * k) = 0 ∧ c (34 + 4 * k + 1) = i then bN N c k j else 0) K
def cdN (N K : Nat) (c : Nat → Nat) (i j : Nat) : Nat := pN N c i (c (10 + 6 * j + 2)) + boN N K c i j
def lwN (N K : Nat) (c : Nat → Nat) (i j : Nat) : Nat := if i = j then 0 else if c 4 = 1 then cdN N K c i j else cdN N K c i j - min (cdN N K c i j) (cdN N K c j i)
def fdN (c : Nat → Nat) (i w : Nat) : Nat := min (max (c (10 + 6 * i)) (c 7) * c w) 2000000000
/-! bounds -/
theorem wN_le {N K : Nat} {c : Nat → Nat} (h : OKc N K c) {i : Nat} (hi : i < N) : wN c i ≤ 10 := by
  have := (h.2.2.1 i hi).2.2.1
  unfold wN
  split
  · split <;> omega
  · exact this
theorem WN_pos {N K : Nat} {c : Nat → Nat} (h : OKc N K c) : 0 < WN N c := by
  have hs := h.2.2.2.1
  rcases Nat.eq_zero_or_pos (WN N c) with q | q
  · exfalso
    have h0 : ∀ i, i < N → c (10 + 6 * i + 1) ≤ 0 := by
      intro i hi
      have h1 : wN c i ≤ WN N c := sN_mem (wN c) hi
      unfold wN at h1
      split at h1
      · split at h1 <;> omega
      · omega
    have := sN_bd h0
    omega
  · exact q
theorem WN_le {N K : Nat} {c : Nat → Nat} (h : OKc N K c) : WN N c ≤ 40 := by
  have h1 : WN N c ≤ N * 10 := sN_bd (f := wN c) (fun k hk => wN_le h hk)
  have := h.1.2.1
  omega
theorem pN_le {N K : Nat} {c : Nat → Nat} (h : OKc N K c) {i : Nat} (hi : i < N) (x : Nat) : pN N c i x ≤ x := by
  unfold pN
  have h1 : wN c i ≤ WN N c := sN_mem (wN c) hi
  exact Nat.div_le_of_le_mul (by rw [Nat.mul_comm]; exact Nat.mul_le_mul_right x h1)
theorem dN_le {N K : Nat} {c : Nat → Nat} (h : OKc N K c) {i k : Nat} (hi : i < N) (hk : k < K) : dN N c i k ≤ c (34 + 4 * k + 2) := by
  unfold dN
  split
  · omega
  · split
    · omega
    · rename_i h2
      split
      · exact pN_le h hi _
      · rename_i h3
        have h4 : c (34 + 4 * k) = 0 := by omega
        have h5 : c (34 + 4 * k + 1) < N := (h.2.2.2.2 k hk).2.1 h4
        have h6 : wN c i + wN c (c (34 + 4 * k + 1)) ≤ WN N c := sN_mem2 (wN c) (fun e => h2 ⟨h4, e.symm⟩) hi h5
        exact Nat.div_le_of_le_mul (by rw [Nat.mul_comm]; exact Nat.mul_le_mul_right _ (by omega))
theorem dN_ge {N K : Nat} {c : Nat → Nat} (h : OKc N K c) {i k : Nat} (hi : i < N) (hk : k < K) (h3 : ¬ c 3 = 0) (h4 : c (34 + 4 * k) = 0) (h5 : ¬ c 9 < c (34 + 4 * k + 3)) (h6 : ¬ c (34 + 4 * k + 1) = i) : pN N c i (c (34 + 4 * k + 2)) ≤ dN N c i k := by
  unfold dN
  rw [if_neg h5, if_neg (fun q => h6 q.2), if_neg (by omega)]
  have h7 : c (34 + 4 * k + 1) < N := (h.2.2.2.2 k hk).2.1 h4
  have h8 : wN c i + wN c (c (34 + 4 * k + 1)) ≤ WN N c := sN_mem2 (wN c) (fun e => h6 e.symm) hi h7
  unfold pN
  rcases Nat.eq_zero_or_pos (WN N c - wN c (c (34 + 4 * k + 1))) with q | q
  · have : wN c i = 0 := by omega
    rw [this]
    simp
  · exact Nat.div_le_div_left (Nat.sub_le _ _) q
theorem bN_le {N K : Nat} {c : Nat → Nat} (h : OKc N K c) {k j : Nat} (hk : k < K) (hj : j < N) : bN N c k j ≤ 9999999 := by
  have h1 := dN_le h hj hk
  have h2 := (h.2.2.2.2 k hk).2.2.2.1
  unfold bN
  split <;> omega
theorem boN_le {N K : Nat} {c : Nat → Nat} (h : OKc N K c) {i j : Nat} (hj : j < N) : boN N K c i j ≤ 119999988 := by
  have h1 : boN N K c i j ≤ K * 9999999 := sN_bd fun k hk => by
    have := bN_le h hk hj
    split <;> omega
  have := h.1.2.2
  omega
theorem cdN_le {N K : Nat} {c : Nat → Nat} (h : OKc N K c) {i j : Nat} (hi : i < N) (hj : j < N) : cdN N K c i j ≤ 129999987 := by
  have h1 := boN_le h (i := i) hj
  have h2 := pN_le h hi (c (10 + 6 * j + 2))
  have h3 := (h.2.2.1 j hj).2.2.2.1
  unfold cdN
  omega
theorem lwN_le {N K : Nat} {c : Nat → Nat} (h : OKc N K c) {i j : Nat} (hi : i < N) (hj : j < N) : lwN N K c i j ≤ 129999987 := by
  have h1 := cdN_le h hi hj
  unfold lwN
  split
  · omega
  · split <;> omega
theorem fdN_le (c : Nat → Nat) (i w : Nat) : fdN c i w ≤ 2000000000 := Nat.min_le_right _ _
