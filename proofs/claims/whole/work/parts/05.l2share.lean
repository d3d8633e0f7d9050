/-! ===== level 2: a fund shared, in plain numbers ===== -/
def shq (o : Nat → Nat) (f : Nat) (k : Nat) : Nat := o k * f / sN o 16
def shE (o : Nat → Nat) (f : Nat) (k : Nat) : Nat := if shq o f k < o k then 1 else 0
def shL (o : Nat → Nat) (f : Nat) (k : Nat) : Nat := (f - sN (shq o f) 16) - sN (shE o f) k
def shp (o : Nat → Nat) (f : Nat) (k : Nat) : Nat := if sN o 16 ≤ f then o k else shq o f k + (if 0 < shL o f k ∧ shq o f k < o k then 1 else 0)
theorem sN_add (f g : Nat → Nat) : ∀ n, sN (fun k => f k + g k) n = sN f n + sN g n
  | 0 => rfl
  | n + 1 => by rw [sN, sN, sN, sN_add f g n]; omega
theorem sN_mul (a : Nat) (f : Nat → Nat) : ∀ n, sN (fun k => a * f k) n = a * sN f n
  | 0 => by simp [sN]
  | n + 1 => by rw [sN, sN, sN_mul a f n, Nat.mul_add]
theorem sN_mono (f : Nat → Nat) {m n : Nat} (h : m ≤ n) : sN f m ≤ sN f n := by
  induction n with
  | zero => have : m = 0 := by omega
            subst this; exact Nat.le_refl _
  | succ n ih =>
    rcases Nat.lt_or_ge n m with q | q
    · have : m = n + 1 := by omega
      subst this; exact Nat.le_refl _
    · exact Nat.le_trans (ih q) (Nat.le_add_right _ _)
section Shares
variable {o : Nat → Nat} {f : Nat}
theorem shq_le (h : f < sN o 16) (k : Nat) : shq o f k ≤ o k := Nat.div_le_of_le_mul (by rw [Nat.mul_comm]; exact Nat.mul_le_mul_right _ (Nat.le_of_lt h))
theorem shq_lt (h : f < sN o 16) {k : Nat} (hk : 0 < o k) : shq o f k < o k := by
  unfold shq
  refine (Nat.div_lt_iff_lt_mul (by omega)).mpr ?_
  exact Nat.mul_lt_mul_of_pos_left h hk
theorem sh_rem (h : f < sN o 16) (k : Nat) : o k * f ≤ sN o 16 * (shq o f k + shE o f k) := by
  unfold shE
  by_cases hk : 0 < o k
  · rw [if_pos (shq_lt h hk)]
    unfold shq
    have := Nat.lt_mul_div_succ (o k * f) (show 0 < sN o 16 by omega)
    rw [Nat.mul_add, Nat.mul_one]
    rw [Nat.mul_add, Nat.mul_one] at this
    omega
  · have : o k = 0 := by omega
    rw [this]
    simp
theorem sh_sum (h : f < sN o 16) : sN (shq o f) 16 ≤ f := by
  have h1 : sN (fun k => sN o 16 * shq o f k) 16 ≤ sN (fun k => f * o k) 16 := sN_le fun k _ => by
    show sN o 16 * shq o f k ≤ f * o k
    unfold shq
    rw [Nat.mul_comm f]
    exact Nat.mul_div_le _ _
  rw [sN_mul, sN_mul, Nat.mul_comm f] at h1
  exact Nat.le_of_mul_le_mul_left h1 (by omega)
theorem sh_left (h : f < sN o 16) : f - sN (shq o f) 16 ≤ sN (shE o f) 16 := by
  have h1 : sN (fun k => f * o k) 16 ≤ sN (fun k => sN o 16 * (shq o f k + shE o f k)) 16 := sN_le fun k _ => by
    show f * o k ≤ _
    rw [Nat.mul_comm f]
    exact sh_rem h k
  rw [sN_mul, sN_mul, sN_add, Nat.mul_comm f] at h1
  have := Nat.le_of_mul_le_mul_left h1 (by omega)
  omega
theorem shL_end (h : f < sN o 16) : shL o f 16 = 0 := by
  have := sh_left h
  unfold shL
  omega
theorem shL_step (k : Nat) : shL o f (k + 1) = if 0 < shL o f k ∧ shq o f k < o k then shL o f k - 1 else shL o f k := by
  have es : sN (shE o f) (k + 1) = sN (shE o f) k + shE o f k := rfl
  by_cases h : shq o f k < o k
  · have e : shE o f k = 1 := if_pos h
    by_cases h2 : 0 < shL o f k
    · rw [if_pos ⟨h2, h⟩]
      unfold shL at h2 ⊢
      rw [es, e]
      omega
    · rw [if_neg (fun q => h2 q.1)]
      unfold shL at h2 ⊢
      rw [es, e]
      omega
  · have e : shE o f k = 0 := if_neg h
    rw [if_neg (fun q => h q.2)]
    unfold shL
    rw [es, e]
    omega
theorem shp_le (k : Nat) : shp o f k ≤ o k := by
  unfold shp
  split
  · omega
  · rename_i h
    have := shq_le (o := o) (f := f) (by omega) k
    split <;> omega
theorem shp_part (h : f < sN o 16) : ∀ n, n ≤ 16 → sN (shp o f) n = sN (shq o f) n + (shL o f 0 - shL o f n)
  | 0, _ => by simp [sN]
  | n + 1, hn => by
    have ih := shp_part h n (by omega)
    have hs := shL_step (o := o) (f := f) n
    have hm : shL o f n ≤ shL o f 0 := by
      unfold shL
      simp only [sN]
      omega
    rw [sN, sN, ih, hs]
    unfold shp
    rw [if_neg (by omega)]
    by_cases q : 0 < shL o f n ∧ shq o f n < o n
    · rw [if_pos q, if_pos q]
      omega
    · rw [if_neg q, if_neg q]
      omega
theorem shp_sum : sN (shp o f) 16 = min (sN o 16) f := by
  by_cases h : sN o 16 ≤ f
  · have : sN (shp o f) 16 = sN o 16 := sN_eq fun k _ => if_pos h
    omega
  · have h' : f < sN o 16 := by omega
    rw [shp_part h' 16 (by omega), shL_end h']
    have := sh_sum h'
    have e : shL o f 0 = f - sN (shq o f) 16 := by unfold shL; simp [sN]
    omega
end Shares
/-! arrays of plain numbers -/
def aL {n : Nat} (o : Nat → Nat) : Fin n → Int64 := fun j => lN (o j.1)
theorem exL_aL {n : Nat} (o : Nat → Nat) {k : Nat} (h : k < n) : exL (aL (n := n) o) k = lN (o k) := by simp [exL, aL, h]
theorem upL_aL {n : Nat} (o : Nat → Nat) (k v : Nat) : upL (aL (n := n) o) k (lN v) = aL (fun j => if j = k then v else o j) := by
  funext j
  unfold upL aL
  by_cases h : j.1 = k
  · simp [h]
  · simp [h]
theorem aL_eq {n : Nat} {o u : Nat → Nat} (h : ∀ k, k < n → o k = u k) : aL (n := n) o = aL u := by
  funext j
  unfold aL
  rw [h j.1 j.2]
theorem rL_a {n : Nat} (o : Nat → Nat) {k : Nat} (h : k < n) (hn : n ≤ 1000) : rdL (aL (n := n) o) (nI k) = some (lN (o k)) := by rw [rL _ h hn, exL_aL o h]
theorem wL_a {n : Nat} (o : Nat → Nat) {k : Nat} (h : k < n) (hn : n ≤ 1000) (v : Nat) : wrL (aL (n := n) o) (nI k) (lN v) = some (aL (fun j => if j = k then v else o j)) := by rw [wL _ h hn, upL_aL]
/-! the model's scratch: second row, owed, out, paid -/
def sc (M : MS) (w : Fin 82 → Int32) (o u : Fin 16 → Int64) (p : Fin 64 → Int64) : MS := (M.1, M.2.1, M.2.2.1, M.2.2.2.1, M.2.2.2.2.1, M.2.2.2.2.2.1, w, M.2.2.2.2.2.2.2.1, M.2.2.2.2.2.2.2.2.1, M.2.2.2.2.2.2.2.2.2.1, M.2.2.2.2.2.2.2.2.2.2.1, M.2.2.2.2.2.2.2.2.2.2.2.1, M.2.2.2.2.2.2.2.2.2.2.2.2.1, M.2.2.2.2.2.2.2.2.2.2.2.2.2.1, M.2.2.2.2.2.2.2.2.2.2.2.2.2.2.1, M.2.2.2.2.2.2.2.2.2.2.2.2.2.2.2.1, M.2.2.2.2.2.2.2.2.2.2.2.2.2.2.2.2.1, M.2.2.2.2.2.2.2.2.2.2.2.2.2.2.2.2.2.1, M.2.2.2.2.2.2.2.2.2.2.2.2.2.2.2.2.2.2.1, M.2.2.2.2.2.2.2.2.2.2.2.2.2.2.2.2.2.2.2.1, M.2.2.2.2.2.2.2.2.2.2.2.2.2.2.2.2.2.2.2.2.1, M.2.2.2.2.2.2.2.2.2.2.2.2.2.2.2.2.2.2.2.2.2.1, M.2.2.2.2.2.2.2.2.2.2.2.2.2.2.2.2.2.2.2.2.2.2.1, M.2.2.2.2.2.2.2.2.2.2.2.2.2.2.2.2.2.2.2.2.2.2.2.1, M.2.2.2.2.2.2.2.2.2.2.2.2.2.2.2.2.2.2.2.2.2.2.2.2.1, M.2.2.2.2.2.2.2.2.2.2.2.2.2.2.2.2.2.2.2.2.2.2.2.2.2.1, o, u, p, M.2.2.2.2.2.2.2.2.2.2.2.2.2.2.2.2.2.2.2.2.2.2.2.2.2.2.2.2.2)
theorem sc_w (M : MS) (w : Fin 82 → Int32) (o u : Fin 16 → Int64) (p : Fin 64 → Int64) : m_w (sc M w o u p) = w := rfl
theorem sc_o (M : MS) (w : Fin 82 → Int32) (o u : Fin 16 → Int64) (p : Fin 64 → Int64) : m_owed (sc M w o u p) = o := rfl
theorem sc_u (M : MS) (w : Fin 82 → Int32) (o u : Fin 16 → Int64) (p : Fin 64 → Int64) : m_out (sc M w o u p) = u := rfl
theorem sc_p (M : MS) (w : Fin 82 → Int32) (o u : Fin 16 → Int64) (p : Fin 64 → Int64) : m_paid (sc M w o u p) = p := rfl
theorem sc_s (M : MS) (w : Fin 82 → Int32) (o u : Fin 16 → Int64) (p : Fin 64 → Int64) : m_s (sc M w o u p) = m_s M := rfl
theorem sc_sw (M : MS) (w w2 : Fin 82 → Int32) (o u : Fin 16 → Int64) (p : Fin 64 → Int64) : ms_w (sc M w o u p) w2 = sc M w2 o u p := rfl
theorem sc_so (M : MS) (w : Fin 82 → Int32) (o u o2 : Fin 16 → Int64) (p : Fin 64 → Int64) : ms_owed (sc M w o u p) o2 = sc M w o2 u p := rfl
theorem sc_su (M : MS) (w : Fin 82 → Int32) (o u u2 : Fin 16 → Int64) (p : Fin 64 → Int64) : ms_out (sc M w o u p) u2 = sc M w o u2 p := rfl
theorem sc_sp (M : MS) (w : Fin 82 → Int32) (o u : Fin 16 → Int64) (p p2 : Fin 64 → Int64) : ms_paid (sc M w o u p) p2 = sc M w o u p2 := rfl
theorem sc_self (M : MS) : sc M (m_w M) (m_owed M) (m_out M) (m_paid M) = M := rfl
theorem lo1_s {A β : Type} (F : (A → Option β) → A → Option β) (n : Nat) (a : A) : lo1 F (n + 1) a = F (lo1 F n) a := rfl
theorem lo2_s {A B β : Type} (F : (A → B → Option β) → A → B → Option β) (n : Nat) (a : A) (b : B) : lo2 F (n + 1) a b = F (lo2 F n) a b := rfl
theorem lo3_s {A B C β : Type} (F : (A → B → C → Option β) → A → B → C → Option β) (n : Nat) (a : A) (b : B) (c : C) : lo3 F (n + 1) a b c = F (lo3 F n) a b c := rfl
theorem lo4_s {A B C D β : Type} (F : (A → B → C → D → Option β) → A → B → C → D → Option β) (n : Nat) (a : A) (b : B) (c : C) (d : D) : lo4 F (n + 1) a b c d = F (lo4 F n) a b c d := rfl
theorem lo5_s {A B C D E β : Type} (F : (A → B → C → D → E → Option β) → A → B → C → D → E → Option β) (n : Nat) (a : A) (b : B) (c : C) (d : D) (e : E) : lo5 F (n + 1) a b c d e = F (lo5 F n) a b c d e := rfl
theorem sN_s (f : Nat → Nat) (n : Nat) : sN f (n + 1) = sN f n + f n := rfl
theorem le16 {i : Nat} (h : i < 16) : ¬ (16 : Int32) ≤ nI i := by
  rw [show (16 : Int32) = nI 16 from rfl, nI_leI (by omega) (by omega)]
  omega
theorem M_clears (S : Fin 16 → Int64) : F_X5_clears S = some (aL (fun _ => 0)) := by
  unfold F_X5_clears
  refine loopR (fun fu i (s : Fin 16 → Int64) => lo2 (B_X5_clears_2 (fun S4 => some S4)) fu s (nI i)) _ 16 (fun i s => ∀ k, k < i → exL s k = 0) ?_ ?_ 16 FU 0 S (by omega) (by rw [FU_eq]; omega) (fun k hk => absurd hk (Nat.not_lt_zero k))
  · intro fu i s hi e
    refine ⟨upL s i 0, fun k hk => ?_, ?_⟩
    · rw [exL_up s hi]
      by_cases h : k = i
      · rw [if_pos h]
      · rw [if_neg h]
        exact e k (by omega)
    · have key : ∀ k rc, B_X5_clears_2 k rc s (nI i) = rc (upL s i 0) (nI (i + 1)) := by
        intro k rc
        unfold B_X5_clears_2
        rw [if_neg (le16 hi), wL s hi (by omega), bs, nm_eq, nm_eq, nI_1]
      exact (lo2_s _ _ _ _).trans (key _ _)
  · intro fu s e
    have key : ∀ k rc, B_X5_clears_2 k rc s (nI 16) = k s := by
      intro k rc
      unfold B_X5_clears_2
      rw [if_pos (by decide)]
    refine ((lo2_s _ _ _ _).trans (key _ _)).trans (congrArg some (ext_L fun k hk => ?_))
    rw [e k hk, exL_aL _ hk]
    rfl
section MSH
variable {M : MS} {w : Fin 82 → Int32} {o : Nat → Nat} {p : Fin 64 → Int64} {f : Nat}
theorem M_sh1 (u : Nat → Nat) (k : MS → Int64 → Option (Int64 × MS)) : lo3 (B_X5_shares_5 (lN f) k) FU (sc M w (aL o) (aL u) p) 0 0 = k (sc M w (aL o) (aL u) p) (lN (sN o 16)) := by
  refine loopR (fun fu i (s : Int64) => lo3 (B_X5_shares_5 (lN f) k) fu (sc M w (aL o) (aL u) p) s (nI i)) _ 16 (fun i s => s = lN (sN o i)) ?_ ?_ 16 FU 0 0 (by omega) (by rw [FU_eq]; omega) rfl
  · intro fu i s hi e
    subst e
    refine ⟨_, rfl, ?_⟩
    have key : ∀ rc, B_X5_shares_5 (lN f) k rc (sc M w (aL o) (aL u) p) (lN (sN o i)) (nI i) = rc (sc M w (aL o) (aL u) p) (lN (sN o (i + 1))) (nI (i + 1)) := by
      intro rc
      unfold B_X5_shares_5
      rw [if_neg (le16 hi), sc_o, rL_a o hi (by omega), bs, nm_eq, nm_eq, lN_add, nI_1, sN_s o i]
    exact (lo3_s _ _ _ _ _).trans (key _)
  · intro fu s e
    subst e
    have key : ∀ rc, B_X5_shares_5 (lN f) k rc (sc M w (aL o) (aL u) p) (lN (sN o 16)) (nI 16) = k (sc M w (aL o) (aL u) p) (lN (sN o 16)) := by
      intro rc
      unfold B_X5_shares_5
      rw [if_pos (by decide)]
    exact (lo3_s _ _ _ _ _).trans (key _)
theorem sh_dv (hf : f ≤ 2000000000) (ho : ∀ k, k < 16 → o k ≤ 200000000) (hsc : f < sN o 16) (hall : sN o 16 ≤ 3200000000) {k : Nat} (hk : k < 16) : dvL (lN (o k) * lN f) (lN (sN o 16)) = some (lN (shq o f k)) := by
  have h2 : o k * f ≤ 200000000 * 2000000000 := Nat.mul_le_mul (ho k hk) hf
  rw [lN_mul, dvL_N (by omega) (by omega) (by omega)]
  rfl
theorem M_sh2 (hf : f ≤ 2000000000) (ho : ∀ k, k < 16 → o k ≤ 200000000) (hsc : f < sN o 16) (hall : sN o 16 ≤ 3200000000) (u : Nat → Nat) (k : MS → Int64 → Option (Int64 × MS)) : lo3 (B_X5_shares_77 (lN f) (lN (sN o 16)) k) FU (sc M w (aL o) (aL u) p) (lN f) 0 = k (sc M w (aL o) (aL u) p) (lN (shL o f 0)) := by
  have hsum := sh_sum hsc
  refine loopR (fun fu i (s : Int64) => lo3 (B_X5_shares_77 (lN f) (lN (sN o 16)) k) fu (sc M w (aL o) (aL u) p) s (nI i)) _ 16 (fun i s => s = lN (f - sN (shq o f) i)) ?_ ?_ 16 FU 0 _ (by omega) (by rw [FU_eq]; omega) rfl
  · intro fu i s hi e
    subst e
    refine ⟨_, rfl, ?_⟩
    have hm := sN_mono (shq o f) (show i + 1 ≤ 16 by omega)
    rw [sN_s (shq o f) i] at hm
    have key : ∀ rc, B_X5_shares_77 (lN f) (lN (sN o 16)) k rc (sc M w (aL o) (aL u) p) (lN (f - sN (shq o f) i)) (nI i) = rc (sc M w (aL o) (aL u) p) (lN (f - sN (shq o f) (i + 1))) (nI (i + 1)) := by
      intro rc
      unfold B_X5_shares_77
      rw [if_neg (le16 hi), sc_o, rL_a o hi (by omega), bs, sh_dv hf ho hsc hall hi, bs, nm_eq, nm_eq, lN_sub (by omega), nI_1, sN_s (shq o f) i, Nat.sub_sub]
    exact (lo3_s _ _ _ _ _).trans (key _)
  · intro fu s e
    subst e
    have key : ∀ rc, B_X5_shares_77 (lN f) (lN (sN o 16)) k rc (sc M w (aL o) (aL u) p) (lN (f - sN (shq o f) 16)) (nI 16) = k (sc M w (aL o) (aL u) p) (lN (shL o f 0)) := by
      intro rc
      unfold B_X5_shares_77
      rw [if_pos (by decide)]
      rfl
    exact (lo3_s _ _ _ _ _).trans (key _)
theorem M_sh3 (hf : f ≤ 2000000000) (ho : ∀ k, k < 16 → o k ≤ 200000000) (hsc : f < sN o 16) (hall : sN o 16 ≤ 3200000000) (u : Nat → Nat) (k : MS → Int64 → Option (Int64 × MS)) : lo3 (B_X5_shares_109 (lN f) (lN (sN o 16)) k) FU (sc M w (aL o) (aL u) p) (lN (shL o f 0)) 0 = k (sc M w (aL o) (aL (fun k => u k + shp o f k)) p) (lN 0) := by
  refine loopR (fun fu i (s : Nat → Nat) => lo3 (B_X5_shares_109 (lN f) (lN (sN o 16)) k) fu (sc M w (aL o) (aL s) p) (lN (shL o f i)) (nI i)) _ 16 (fun i s => ∀ k, k < 16 → s k = if k < i then u k + shp o f k else u k) ?_ ?_ 16 FU 0 u (by omega) (by rw [FU_eq]; omega) (fun k _ => (if_neg (Nat.not_lt_zero k)).symm)
  · intro fu i s hi e2
    have hst := shL_step (o := o) (f := f) i
    have hlb : shL o f i ≤ f := by unfold shL; omega
    have hob := ho i hi
    have hqb := shq_le hsc i
    have hp : shp o f i = shq o f i + (if 0 < shL o f i ∧ shq o f i < o i then 1 else 0) := if_neg (by omega)
    have hJ : ∀ (rc : MS → Int64 → Int32 → Option (Int64 × MS)) (x5 : Int64) (v : Nat), J_X5_shares_161 k rc (sc M w (aL o) (aL s) p) (lN f) (lN (sN o 16)) x5 (nI i) (lN v) = rc (sc M w (aL o) (aL (fun j => if j = i then s i + v else s j)) p) x5 (nI (i + 1)) := by
      intro rc x5 v
      unfold J_X5_shares_161
      rw [sc_u, rL_a s hi (by omega), bs, lN_add, wL_a s hi (by omega), bs, nm_eq, nm_eq, nI_1, sc_su]
    have key : ∀ rc, B_X5_shares_109 (lN f) (lN (sN o 16)) k rc (sc M w (aL o) (aL s) p) (lN (shL o f i)) (nI i) = rc (sc M w (aL o) (aL (fun j => if j = i then s i + shp o f i else s j)) p) (lN (shL o f (i + 1))) (nI (i + 1)) := by
      intro rc
      unfold B_X5_shares_109
      rw [if_neg (le16 hi), sc_o, rL_a o hi (by omega), bs, sh_dv hf ho hsc hall hi, bs, show (0 : Int64) = lN 0 from rfl]
      by_cases h1 : 0 < shL o f i
      · rw [if_neg (fun q => by have := (pk_lLE (a := shL o f i) (b := 0) (by omega) (by omega)).mp ((lg_cmp_le (lN (shL o f i)) (lN 0)).mp q); omega), bs]
        by_cases h2 : shq o f i < o i
        · rw [if_neg (fun q => by have := (pk_lLE (by omega) (by omega)).mp ((lg_cmp_ge _ _).mp q); omega), nm_eq, nm_eq, show (1 : Int64) = lN 1 from rfl, lN_add, lN_sub (by omega), hJ, hst, hp, if_pos ⟨h1, h2⟩, if_pos ⟨h1, h2⟩]
        · rw [if_pos ((lg_cmp_ge _ _).mpr ((pk_lLE (by omega) (by omega)).mpr (by omega))), hJ, hst, hp, if_neg (fun q => h2 q.2), if_neg (fun q => h2 q.2)]
          rfl
      · rw [if_pos ((lg_cmp_le (lN (shL o f i)) (lN 0)).mpr ((pk_lLE (a := shL o f i) (b := 0) (by omega) (by omega)).mpr (by omega))), hJ, hst, hp, if_neg (fun q => h1 q.1), if_neg (fun q => h1 q.1)]
        rfl
    refine ⟨fun j => if j = i then s i + shp o f i else s j, fun k hk => ?_, (lo3_s _ _ _ _ _).trans (key _)⟩
    show (if k = i then _ else _) = _
    by_cases h : k = i
    · subst h
      rw [if_pos rfl, if_pos (by omega), e2 k hk, if_neg (Nat.lt_irrefl k)]
    · rw [if_neg h, e2 k hk]
      by_cases h' : k < i
      · rw [if_pos h', if_pos (by omega)]
      · rw [if_neg h', if_neg (by omega)]
  · intro fu s e2
    have key : ∀ rc, B_X5_shares_109 (lN f) (lN (sN o 16)) k rc (sc M w (aL o) (aL s) p) (lN (shL o f 16)) (nI 16) = k (sc M w (aL o) (aL s) p) (lN (shL o f 16)) := by
      intro rc
      unfold B_X5_shares_109
      rw [if_pos (by decide)]
    refine ((lo3_s _ _ _ _ _).trans (key _)).trans ?_
    rw [shL_end hsc, aL_eq (n := 16) (o := s) (u := fun k => u k + shp o f k) (fun k hk => by rw [e2 k hk, if_pos hk])]
theorem M_sh4 (hsc : ¬ f < sN o 16) (u : Nat → Nat) (k : MS → Option (Int64 × MS)) : lo2 (B_X5_shares_37 (lN f) (lN (sN o 16)) k) FU (sc M w (aL o) (aL u) p) 0 = k (sc M w (aL o) (aL (fun k => u k + shp o f k)) p) := by
  refine loopR (fun fu i (s : Nat → Nat) => lo2 (B_X5_shares_37 (lN f) (lN (sN o 16)) k) fu (sc M w (aL o) (aL s) p) (nI i)) _ 16 (fun i s => ∀ k, k < 16 → s k = if k < i then u k + o k else u k) ?_ ?_ 16 FU 0 u (by omega) (by rw [FU_eq]; omega) (fun k _ => (if_neg (Nat.not_lt_zero k)).symm)
  · intro fu i s hi e
    have key : ∀ rc, B_X5_shares_37 (lN f) (lN (sN o 16)) k rc (sc M w (aL o) (aL s) p) (nI i) = rc (sc M w (aL o) (aL (fun j => if j = i then s i + o i else s j)) p) (nI (i + 1)) := by
      intro rc
      unfold B_X5_shares_37
      rw [if_neg (le16 hi), sc_u, sc_o, rL_a s hi (by omega), bs, rL_a o hi (by omega), bs, lN_add, wL_a s hi (by omega), bs, nm_eq, nm_eq, nI_1, sc_su]
    refine ⟨fun j => if j = i then s i + o i else s j, fun k hk => ?_, (lo2_s _ _ _ _).trans (key _)⟩
    show (if k = i then _ else _) = _
    by_cases h : k = i
    · subst h
      rw [if_pos rfl, if_pos (by omega), e k hk, if_neg (Nat.lt_irrefl k)]
    · rw [if_neg h, e k hk]
      by_cases h' : k < i
      · rw [if_pos h', if_pos (by omega)]
      · rw [if_neg h', if_neg (by omega)]
  · intro fu s e
    have key : ∀ rc, B_X5_shares_37 (lN f) (lN (sN o 16)) k rc (sc M w (aL o) (aL s) p) (nI 16) = k (sc M w (aL o) (aL s) p) := by
      intro rc
      unfold B_X5_shares_37
      rw [if_pos (by decide)]
    refine ((lo2_s _ _ _ _).trans (key _)).trans ?_
    rw [aL_eq (n := 16) (o := s) (u := fun k => u k + shp o f k) (fun k hk => by rw [e k hk, if_pos hk, show shp o f k = o k from if_pos (by omega)])]
theorem M_shares (hf : f ≤ 2000000000) (ho : ∀ k, k < 16 → o k ≤ 200000000) (u : Nat → Nat) :
    F_X5_shares (sc M w (aL o) (aL u) p) (lN f) = some (lN (f - sN o 16), sc M w (aL o) (aL (fun k => u k + shp o f k)) p) := by
  have hall : sN o 16 ≤ 3200000000 := by
    have := sN_bd (f := o) (c := 200000000) (n := 16) ho
    omega
  unfold F_X5_shares
  rw [M_sh1]
  by_cases hsc : f < sN o 16
  · rw [if_pos ((lg_cmp_gt _ _).mpr ((pk_lLT (by omega) (by omega)).mpr hsc)), M_sh2 hf ho hsc hall, M_sh3 hf ho hsc hall, show f - sN o 16 = 0 by omega]
  · rw [if_neg (fun q => hsc ((pk_lLT (by omega) (by omega)).mp ((lg_cmp_gt _ _).mp q))), M_sh4 hsc, lN_sub (by omega)]
end MSH
