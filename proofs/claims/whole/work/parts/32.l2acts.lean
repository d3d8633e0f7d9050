/-! ===== level 2: the acts: what is kept of earlier cases; the relation of both sides ===== -/
def ma (M : MS) (s : Fin 82 → Int32) (p : Fin 820 → Int32) (a : Int32) : MS := (M.1, M.2.1, M.2.2.1, M.2.2.2.1, M.2.2.2.2.1, s, M.2.2.2.2.2.2.1, M.2.2.2.2.2.2.2.1, p, a, M.2.2.2.2.2.2.2.2.2.2.1, M.2.2.2.2.2.2.2.2.2.2.2.1, M.2.2.2.2.2.2.2.2.2.2.2.2.1, M.2.2.2.2.2.2.2.2.2.2.2.2.2.1, M.2.2.2.2.2.2.2.2.2.2.2.2.2.2.1, M.2.2.2.2.2.2.2.2.2.2.2.2.2.2.2.1, M.2.2.2.2.2.2.2.2.2.2.2.2.2.2.2.2.1, M.2.2.2.2.2.2.2.2.2.2.2.2.2.2.2.2.2.1, M.2.2.2.2.2.2.2.2.2.2.2.2.2.2.2.2.2.2.1, M.2.2.2.2.2.2.2.2.2.2.2.2.2.2.2.2.2.2.2.1, M.2.2.2.2.2.2.2.2.2.2.2.2.2.2.2.2.2.2.2.2.1, M.2.2.2.2.2.2.2.2.2.2.2.2.2.2.2.2.2.2.2.2.2.1, M.2.2.2.2.2.2.2.2.2.2.2.2.2.2.2.2.2.2.2.2.2.2.1, M.2.2.2.2.2.2.2.2.2.2.2.2.2.2.2.2.2.2.2.2.2.2.2.1, M.2.2.2.2.2.2.2.2.2.2.2.2.2.2.2.2.2.2.2.2.2.2.2.2.1, M.2.2.2.2.2.2.2.2.2.2.2.2.2.2.2.2.2.2.2.2.2.2.2.2.2.1, M.2.2.2.2.2.2.2.2.2.2.2.2.2.2.2.2.2.2.2.2.2.2.2.2.2.2.1, M.2.2.2.2.2.2.2.2.2.2.2.2.2.2.2.2.2.2.2.2.2.2.2.2.2.2.2.1, M.2.2.2.2.2.2.2.2.2.2.2.2.2.2.2.2.2.2.2.2.2.2.2.2.2.2.2.2.1, M.2.2.2.2.2.2.2.2.2.2.2.2.2.2.2.2.2.2.2.2.2.2.2.2.2.2.2.2.2)
def mk4 (M : MS) (s : Fin 82 → Int32) (a : Int32) (k : Fin 164 → Int32) (b : Fin 2 → Int32) : MS := (M.1, M.2.1, M.2.2.1, M.2.2.2.1, M.2.2.2.2.1, s, M.2.2.2.2.2.2.1, M.2.2.2.2.2.2.2.1, M.2.2.2.2.2.2.2.2.1, a, k, b, M.2.2.2.2.2.2.2.2.2.2.2.2.1, M.2.2.2.2.2.2.2.2.2.2.2.2.2.1, M.2.2.2.2.2.2.2.2.2.2.2.2.2.2.1, M.2.2.2.2.2.2.2.2.2.2.2.2.2.2.2.1, M.2.2.2.2.2.2.2.2.2.2.2.2.2.2.2.2.1, M.2.2.2.2.2.2.2.2.2.2.2.2.2.2.2.2.2.1, M.2.2.2.2.2.2.2.2.2.2.2.2.2.2.2.2.2.2.1, M.2.2.2.2.2.2.2.2.2.2.2.2.2.2.2.2.2.2.2.1, M.2.2.2.2.2.2.2.2.2.2.2.2.2.2.2.2.2.2.2.2.1, M.2.2.2.2.2.2.2.2.2.2.2.2.2.2.2.2.2.2.2.2.2.1, M.2.2.2.2.2.2.2.2.2.2.2.2.2.2.2.2.2.2.2.2.2.2.1, M.2.2.2.2.2.2.2.2.2.2.2.2.2.2.2.2.2.2.2.2.2.2.2.1, M.2.2.2.2.2.2.2.2.2.2.2.2.2.2.2.2.2.2.2.2.2.2.2.2.1, M.2.2.2.2.2.2.2.2.2.2.2.2.2.2.2.2.2.2.2.2.2.2.2.2.2.1, M.2.2.2.2.2.2.2.2.2.2.2.2.2.2.2.2.2.2.2.2.2.2.2.2.2.2.1, M.2.2.2.2.2.2.2.2.2.2.2.2.2.2.2.2.2.2.2.2.2.2.2.2.2.2.2.1, M.2.2.2.2.2.2.2.2.2.2.2.2.2.2.2.2.2.2.2.2.2.2.2.2.2.2.2.2.1, M.2.2.2.2.2.2.2.2.2.2.2.2.2.2.2.2.2.2.2.2.2.2.2.2.2.2.2.2.2)
def xa (S : XS) (T : TS) (E : Fin 10 → TS) (u n : Int32) : XS := (S.1, T, S.2.2.1, E, S.2.2.2.2.1, S.2.2.2.2.2.1, S.2.2.2.2.2.2.1, u, n, S.2.2.2.2.2.2.2.2.2.1, S.2.2.2.2.2.2.2.2.2.2.1, S.2.2.2.2.2.2.2.2.2.2.2)
section MAS
variable (M : MS) (s s2 : Fin 82 → Int32) (p p2 : Fin 820 → Int32) (a a2 : Int32)
theorem ma_s : m_s (ma M s p a) = s := rfl
theorem ma_p : m_past (ma M s p a) = p := rfl
theorem ma_a : m_acts (ma M s p a) = a := rfl
theorem ma_ss : ms_s (ma M s p a) s2 = ma M s2 p a := rfl
theorem ma_sp : ms_past (ma M s p a) p2 = ma M s p2 a := rfl
theorem ma_sa : ms_acts (ma M s p a) a2 = ma M s p a2 := rfl
theorem ma_self : ma M (m_s M) (m_past M) (m_acts M) = M := rfl
end MAS
section MKS
variable (M : MS) (s s2 : Fin 82 → Int32) (a a2 : Int32) (k k2 : Fin 164 → Int32) (b b2 : Fin 2 → Int32)
theorem mk_s : m_s (mk4 M s a k b) = s := rfl
theorem mk_k : m_kept (mk4 M s a k b) = k := rfl
theorem mk_b : m_isKept (mk4 M s a k b) = b := rfl
theorem mk_ss : ms_s (mk4 M s a k b) s2 = mk4 M s2 a k b := rfl
theorem mk_sk : ms_kept (mk4 M s a k b) k2 = mk4 M s a k2 b := rfl
theorem mk_sb : ms_isKept (mk4 M s a k b) b2 = mk4 M s a k b2 := rfl
theorem mk_sa : ms_acts (mk4 M s a k b) a2 = mk4 M s a2 k b := rfl
theorem mk_self : mk4 M (m_s M) (m_acts M) (m_kept M) (m_isKept M) = M := rfl
end MKS
section XAS
variable (S : XS) (T T2 : TS) (E E2 : Fin 10 → TS) (u u2 n n2 : Int32)
theorem xa_t : x_now (xa S T E u n) = T := rfl
theorem xa_e : x_earlier (xa S T E u n) = E := rfl
theorem xa_u : x_undoable (xa S T E u n) = u := rfl
theorem xa_n : x_nextAct (xa S T E u n) = n := rfl
theorem xa_st : xs_now (xa S T E u n) T2 = xa S T2 E u n := rfl
theorem xa_se : xs_earlier (xa S T E u n) E2 = xa S T E2 u n := rfl
theorem xa_su : xs_undoable (xa S T E u n) u2 = xa S T E u2 n := rfl
theorem xa_sn : xs_nextAct (xa S T E u n) n2 = xa S T E u n2 := rfl
theorem xa_xa : xa (xa S T E u n) T2 E2 u2 n2 = xa S T2 E2 u2 n2 := rfl
theorem xa_self : xa S (x_now S) (x_earlier S) (x_undoable S) (x_nextAct S) = S := rfl
end XAS
def rowP (p : Fin 820 → Int32) (q : Nat) : Fin 82 → Int32 := fun k => exI p (82 * q + k.1)
def rowK (p : Fin 164 → Int32) (q : Nat) : Fin 82 → Int32 := fun k => exI p (82 * q + k.1)
/-- a byte of the class, of the model -/
def BtR (b m : Int32) : Prop := ∃ v : Int32, b = v.toInt8.toInt32 ∧ m = v &&& 255
/-- a name: letters 1 .. 26, at most seven: the class has the first lowest, the model the last -/
def nLo : List Nat → Nat
  | [] => 0
  | l :: r => l + 32 * nLo r
def nHi (a : Nat) : List Nat → Nat
  | [] => a
  | l :: r => nHi (32 * a + l) r
def NmR (x y : Int64) : Prop := ∃ ls : List Nat, 0 < ls.length ∧ ls.length ≤ 6 ∧ (∀ l, l ∈ ls → 1 ≤ l ∧ l ≤ 26) ∧ x = lN (nLo ls) ∧ y = lN (nHi 0 ls)
def CaseR (T : TS) (r : Fin 82 → Int32) (mn : Fin 4 → Int64) : Prop := ∃ N K c, RowT T N K c ∧ RowR r N K c ∧ OKc N K c ∧ ∀ i, i < N → NmR (exL (t_names T) i) (exL mn i)
def NowR (T : TS) (to : Int32) (r : Fin 82 → Int32) (mn : Fin 4 → Int64) : Prop := (to = 0 ∧ t_ships T = 0 ∧ t_claims T = 0) ∨ (to ≠ 0 ∧ CaseR T r mn)
theorem NowR.core {T : TS} {to : Int32} {r : Fin 82 → Int32} {mn : Fin 4 → Int64} (h : NowR T to r mn) : Core T to r := by
  rcases h with h | ⟨h0, N, K, c, h1, h2, h3, -⟩
  · exact Or.inl h
  · exact Or.inr ⟨h0, N, K, c, h1, h2, h3⟩
def RingR (E : Fin 10 → TS) (P A : Nat) (p : Fin 820 → Int32) (mn : Fin 4 → Int64) : Prop := A ≤ 10 ∧ P < 10 ∧ ∀ q, q < A → CaseR (E ⟨(P + 10 - A + q) % 10, Nat.mod_lt _ (by decide)⟩) (rowP p q) mn
def ActR (S : XS) (M : MS) : Prop := ∃ A P, x_undoable S = nI A ∧ m_acts M = nI A ∧ x_nextAct S = nI P ∧ RingR (x_earlier S) P A (m_past M) (m_names M)
def TapR (S : XS) (M : MS) : Prop := ∃ t, t ≤ 600 ∧ x_tapeLength S = nI t ∧ m_taped M = nI t ∧ ∀ k, k < t → BtR (exI (d_bytes (x_reader S)) k) (exI (m_tape M) k)
def ImgR (S : XS) (M : MS) : Prop := ∀ m (hm : m < 2), exI (x_kept S) m = exI (m_isKept M) m ∧ (exI (x_kept S) m ≠ 0 → m_told M ≠ 0 ∧ CaseR (x_images S ⟨m, hm⟩) (rowK (m_kept M) m) (m_names M))
def Rel (S : XS) (M : MS) : Prop := (x_latestTrouble S = m_trouble M ∧ x_latestPlace S = m_place M ∧ x_latestFault S = m_fault M) ∧ TapR S M ∧ NowR (x_now S) (m_told M) (m_s M) (m_names M) ∧ ActR S M ∧ ImgR S M
theorem Rel.core {S : XS} {M : MS} (h : Rel S M) : Core (x_now S) (m_told M) (m_s M) := h.2.2.1.core
theorem Rel.undo {S : XS} {M : MS} (h : Rel S M) : x_undoable S = m_acts M := by
  obtain ⟨A, P, h1, h2, -⟩ := h.2.2.2.1
  rw [h1, h2]
/-- both sides answer alike and stay related -/
def StepR {α : Type} (f : Option (α × XS)) (g : Option (α × MS)) : Prop := ∃ a S2 M2, f = some (a, S2) ∧ g = some (a, M2) ∧ Rel S2 M2
theorem AskR.step {α : Type} {S : XS} {M : MS} {f : Option (α × XS)} {g : Option (α × MS)} (h : AskR S M f g) (hr : Rel S M) : StepR f g := by
  obtain ⟨a, S2, M2, e1, e2, hx, hm, ht, hp⟩ := h
  refine ⟨a, S2, M2, e1, e2, ?_⟩
  simp only [xv, mv, Prod.mk.injEq] at hx hm
  obtain ⟨x1, x2, x3, x4, x5, x6, x7, x8, x9⟩ := hx
  obtain ⟨m1, m2, m3, m4, m5, m6, m7, m8, m9, m10⟩ := hm
  unfold Rel TapR ActR ImgR at *
  rw [x1, x2, x3, x4, x5, x6, x7, x8, x9, m1, m2, m3, m4, m5, m6, m7, m8, m9, m10]
  exact ⟨⟨ht, hp, hr.1.2.2⟩, hr.2⟩
/-- a loop that copies a row -/
theorem copyL {β σ : Type} {n : Nat} (B : (σ → Int32 → Option β) → σ → Int32 → Option β) (mk : (Fin n → Int32) → σ) (k9 : σ → Option β) (b d m : Nat) (src : Nat → Int32) (hd : d + m ≤ n) (hm : m < 900) (f0 : Fin n → Int32)
    (h1 : ∀ rc f i, i < m → (∀ z, z < n → exI f z = if d ≤ z ∧ z < d + i then src (z - d) else exI f0 z) → B rc (mk f) (nI (b + i)) = rc (mk (upI f (d + i) (src i))) (nI (b + i + 1)))
    (h3 : ∀ rc f, (∀ z, z < n → exI f z = if d ≤ z ∧ z < d + m then src (z - d) else exI f0 z) → B rc (mk f) (nI (b + m)) = k9 (mk f)) :
    ∃ f2, (∀ z, z < n → exI f2 z = if d ≤ z ∧ z < d + m then src (z - d) else exI f0 z) ∧ lo2 B FU (mk f0) (nI b) = k9 (mk f2) := by
  refine loopE (fun fu i (f : Fin n → Int32) => lo2 B fu (mk f) (nI (b + i))) (fun f => k9 (mk f)) m (fun i f => ∀ z, z < n → exI f z = if d ≤ z ∧ z < d + i then src (z - d) else exI f0 z) ?_ ?_ m FU 0 f0 (by omega) (by rw [FU_eq]; omega) ?_
  · intro fu i f hi hI
    refine ⟨upI f (d + i) (src i), fun z hz => ?_, (lo2_s _ _ _ _).trans (h1 _ f i hi hI)⟩
    rw [exI_up _ (by omega), hI z hz]
    by_cases q : z = d + i
    · subst q
      rw [if_pos rfl, if_pos (by omega), show d + i - d = i by omega]
    · rw [if_neg q]
      by_cases q2 : d ≤ z ∧ z < d + i
      · rw [if_pos q2, if_pos (by omega)]
      · rw [if_neg q2, if_neg (by omega)]
  · intro fu f hI
    exact (lo2_s _ _ _ _).trans (h3 _ f hI)
  · intro z hz
    rw [if_neg (by omega)]
theorem ix_N {k n : Nat} (h : k < n) (hn : n ≤ 1000) : ixB (nI k) n = some ⟨k, h⟩ := by
  have h1 : inB (nI k) n = true := by
    simp only [inB, Bool.and_eq_true, decide_eq_true_eq]
    exact ⟨nI_pos' (by omega), by rw [nI_clamp (by omega)]; exact h⟩
  unfold ixB
  rw [dif_pos h1]
  exact congrArg some (Fin.ext (nI_clamp (by omega)))
theorem rmI_N {a d : Nat} (ha : a < 2 ^ 31) (h0 : 0 < d) (hd : d < 2 ^ 31) : rmI (nI a) (nI d) = some (nI (a % d)) := by
  unfold rmI
  rw [if_neg (nI_ne0 h0 hd), pk_rem ha h0 hd]
theorem X_beginAct (S : XS) {A P : Nat} (hu : x_undoable S = nI A) (hA : A ≤ 10) (hn : x_nextAct S = nI P) (hP : P < 10) : F_X4_beginAct S = some (xa (xT S 0) (x_now S) (upT (x_earlier S) ⟨P, hP⟩ (x_now S)) (nI (min (A + 1) 10)) (nI ((P + 1) % 10))) := by
  have hu2 : x_undoable (xT S 0) = nI A := hu
  have hn2 : x_nextAct (xT S 0) = nI P := hn
  have he : x_earlier (xT S 0) = x_earlier S := rfl
  unfold F_X4_beginAct
  rw [X_accept, bs, hn2, ix_N hP (by omega), bs, C_copy, bs, nm_eq, ← xa_self (xT S 0), xa_se, xa_n, hn2, nI_1, show (10 : Int32) = nI 10 from rfl, rmI_N (by omega) (by omega) (by omega), bs, nm_eq, xa_sn, nm_eq, xa_u, hu2, nI_1, nm_eq, xa_su, he, xT_now, xa_xa, xa_e, xa_t]
  by_cases h : 10 < A + 1
  · rw [if_pos ((nI_ltI (by omega) (by omega)).mpr h), show min (A + 1) 10 = 10 by omega]
  · rw [if_neg (fun q => h ((nI_ltI (by omega) (by omega)).mp q)), show min (A + 1) 10 = A + 1 by omega]
/-- the rows that the model keeps -/
def kpP (p : Nat → Int32) (s : Nat → Int32) (A : Nat) (z : Nat) : Int32 := if A = 10 then (if 738 ≤ z ∧ z < 820 then s (z - 738) else p (z + 82)) else (if 82 * A ≤ z ∧ z < 82 * A + 82 then s (z - 82 * A) else p z)
theorem M_keep2 (M : MS) (s : Fin 82 → Int32) (p : Fin 820 → Int32) {A : Nat} (hA : A < 10) : ∃ p2, (∀ z, z < 820 → exI p2 z = if 82 * A ≤ z ∧ z < 82 * A + 82 then exI s (z - 82 * A) else exI p z) ∧ J_X5_keeps_49 (ma M s p (nI A)) = some (ma M s p2 (nI (A + 1))) := by
  obtain ⟨p2, h, e⟩ := copyL (B_X5_keeps_51 (fun S5 => nm (ms_acts S5 ((m_acts S5) + (1 : Int32)) : MS) fun S6 => some S6)) (fun f => ma M s f (nI A)) (fun S5 => nm (ms_acts S5 ((m_acts S5) + (1 : Int32)) : MS) fun S6 => some S6) 0 (82 * A) 82 (exI s) (by omega) (by omega) p (by
    intro rc f i hi hI
    unfold B_X5_keeps_51
    rw [show (82 : Int32) = nI 82 from rfl, if_neg (by rw [nI_leI (by omega) (by omega)]; omega), ma_s, rI _ (by omega) (by omega), bs, ma_p, ma_a, pk_mul, nI_add, show 82 * A + (0 + i) = 82 * A + i by omega, show 0 + i = i by omega, wI _ (by omega) (by omega), bs, nm_eq, ma_sp, nm_eq, nI_1]) (by
    intro rc f hI
    unfold B_X5_keeps_51
    rw [if_pos (by decide)])
  refine ⟨p2, h, ?_⟩
  unfold J_X5_keeps_49
  refine (show lo2 _ FU (ma M s p (nI A)) (0 : Int32) = _ from e).trans ?_
  rw [nm_eq, ma_a, nI_1, ma_sa]
theorem M_keeps (M : MS) (s : Fin 82 → Int32) (p : Fin 820 → Int32) {A : Nat} (hA : A ≤ 10) : ∃ p2, (∀ z, z < 820 → exI p2 z = kpP (exI p) (exI s) A z) ∧ F_X5_keeps (ma M s p (nI A)) = some (ma M s p2 (nI (min (A + 1) 10))) := by
  unfold F_X5_keeps
  by_cases h : A = 10
  · subst h
    obtain ⟨p1, h1, e1⟩ := copyL (B_X5_keeps_11 (fun S11 => nm (ms_acts S11 ((m_acts S11) - (1 : Int32)) : MS) fun S12 => J_X5_keeps_49 S12)) (fun f => ma M s f (nI 10)) (fun S11 => nm (ms_acts S11 ((m_acts S11) - (1 : Int32)) : MS) fun S12 => J_X5_keeps_49 S12) 0 0 738 (fun k => exI p (k + 82)) (by omega) (by omega) p (by
      intro rc f i hi hI
      have hz := hI (i + 82) (by omega)
      rw [if_neg (by omega)] at hz
      unfold B_X5_keeps_11
      rw [show (738 : Int32) = nI 738 from rfl, if_neg (by rw [nI_leI (by omega) (by omega)]; omega), ma_p, show (82 : Int32) = nI 82 from rfl, nI_add, show 0 + i = i by omega, rI _ (by omega) (by omega), bs, hz, wI _ (by omega) (by omega), bs, nm_eq, ma_sp, nm_eq, nI_1]) (by
      intro rc f hI
      unfold B_X5_keeps_11
      rw [if_pos (by decide)])
    obtain ⟨p2, h2, e2⟩ := M_keep2 M s p1 (A := 9) (by omega)
    refine ⟨p2, fun z hz => ?_, ?_⟩
    · unfold kpP
      rw [if_pos rfl, h2 z hz, h1 z hz]
      by_cases q : 738 ≤ z ∧ z < 820
      · rw [if_pos (by omega), if_pos q]
      · rw [if_neg (by omega), if_neg q, if_pos (by omega), show z - 0 = z by omega]
    · rw [ma_a, if_pos (show nI 10 = (10 : Int32) from rfl)]
      refine (show lo2 _ FU (ma M s p (nI 10)) (0 : Int32) = _ from e1).trans ?_
      rw [nm_eq, ma_a, nI_less (by omega), ma_sa]
      exact e2
  · obtain ⟨p2, h2, e2⟩ := M_keep2 M s p (A := A) (by omega)
    refine ⟨p2, fun z hz => ?_, ?_⟩
    · unfold kpP
      rw [if_neg h, h2 z hz]
    · rw [ma_a, if_neg (show ¬ nI A = (10 : Int32) from fun q => h ((nI_eq (b := 10) (by omega) (by omega)).mp q)), e2, show min (A + 1) 10 = A + 1 by omega]
