/-! ===== level 2: reading, piece by piece ===== -/
def Pr (B : Fin 600 → Int32) (M : MS) (n : Nat) (T : TS) (lt : Fin 10 → Int32) (o : Int32) (rd : Fin 82 → Int32) (rn : Fin 4 → Int64) (x0 : Nat) (D : DS) (M2 : MS) : Prop := ∃ x s t L wl v Lm vm wm, x0 ≤ x ∧ x ≤ n ∧ s ≤ n ∧ TokW t L wl v Lm vm wm ∧ D = dq B (nI n) T lt (nI x) 0 (nI s) (nI t) L wl v ∧ M2 = mr M (nI x) (nI s) (nI t) Lm vm wm 0 (-1) o rd rn
def Fl (M : MS) (g s : Nat) (o : Int32) (rd : Fin 82 → Int32) (rn : Fin 4 → Int64) (M2 : MS) : Prop := 0 < g ∧ g < 8 ∧ s ≤ 600 ∧ ∃ x f t L v w, M2 = mr M x f t L v w (nI g) (nI s) o rd rn
def Ff (M : MS) (o : Int32) (rd : Fin 82 → Int32) (rn : Fin 4 → Int64) (D : DS) (M2 : MS) : Prop := ∃ g s, d_found D = nI g ∧ d_start D = nI s ∧ Fl M g s o rd rn M2
section FLS
variable {M : MS} {g s : Nat} {o : Int32} {rd : Fin 82 → Int32} {rn : Fin 4 → Int64} {M2 : MS}
theorem Fl.w (h : Fl M g s o rd rn M2) : ¬ m_wrong M2 = 0 := by
  obtain ⟨h1, h2, h3, x, f, t, L, v, w, rfl⟩ := h
  exact nI_ne0 h1 (by omega)
theorem Fl.fails (h : Fl M g s o rd rn M2) (a : Int32) : F_X5_fails M2 a = some M2 := by
  unfold F_X5_fails
  rw [if_neg h.w]
theorem Fl.goes (h : Fl M g s o rd rn M2) : F_X5_goesOn M2 = some M2 := by
  unfold F_X5_goesOn
  rw [if_neg h.w]
theorem Fl.isW (h : Fl M g s o rd rn M2) (w : Int64) : F_X5_isWord M2 w = some 0 := by
  unfold F_X5_isWord
  rw [if_neg h.w]
theorem Fl.isN (h : Fl M g s o rd rn M2) : F_X5_isName M2 = some 0 := by
  unfold F_X5_isName
  rw [if_neg h.w]
theorem Fl.takes (h : Fl M g s o rd rn M2) (w : Int64) : F_X5_takes M2 w = some M2 := by
  unfold F_X5_takes J_X5_takes_13
  rw [h.isW, bs, if_pos rfl, h.fails, bs, h.goes, bs]
theorem Fl.whole (h : Fl M g s o rd rn M2) (a b : Int32) : F_X5_whole M2 a b = some (m_number M2, M2) := by
  unfold F_X5_whole J_X5_whole_36
  by_cases q : m_sort M2 = 2
  · rw [if_pos q, M_in2]
    rcases W_any (m_number M2) a b with e | e
    · rw [e, bs, if_pos rfl, h.fails, bs, nm_eq, h.goes, bs]
    · rw [e, bs, if_neg n10, nm_eq, h.goes, bs]
  · rw [if_neg q, h.fails, bs, nm_eq, h.goes, bs]
theorem Fl.read (h : Fl M g s o rd rn M2) (r2 : Fin 82 → Int32) : Fl M g s o r2 rn (ms_read M2 r2) := by
  obtain ⟨h1, h2, h3, x, f, t, L, v, w, rfl⟩ := h
  exact ⟨h1, h2, h3, x, f, t, L, v, w, um_read ..⟩
theorem Fl.once (h : Fl M g s o rd rn M2) (o2 : Int32) : Fl M g s o2 rd rn (ms_toldOnce M2 o2) := by
  obtain ⟨h1, h2, h3, x, f, t, L, v, w, rfl⟩ := h
  exact ⟨h1, h2, h3, x, f, t, L, v, w, um_toldOnce ..⟩
theorem Fl.gR (h : Fl M g s o rd rn M2) : m_read M2 = rd := by
  obtain ⟨h1, h2, h3, x, f, t, L, v, w, rfl⟩ := h
  rfl
end FLS
section PRS
variable {B : Fin 600 → Int32} {M : MS} {n : Nat} {T : TS} {lt : Fin 10 → Int32} {o : Int32} {rd : Fin 82 → Int32} {rn : Fin 4 → Int64} {x0 : Nat} {D : DS} {M2 : MS}
theorem Pr.told (h : Pr B M n T lt o rd rn x0 D M2) (T2 : TS) : Pr B M n T2 lt o rd rn x0 (ds_told D T2) M2 := by
  obtain ⟨x, s, t, L, wl, v, Lm, vm, wm, h1, h2, h3, h4, rfl, rfl⟩ := h
  exact ⟨x, s, t, L, wl, v, Lm, vm, wm, h1, h2, h3, h4, ud_told .., rfl⟩
theorem Pr.law (h : Pr B M n T lt o rd rn x0 D M2) (lt2 : Fin 10 → Int32) : Pr B M n T lt2 o rd rn x0 (ds_lawTold D lt2) M2 := by
  obtain ⟨x, s, t, L, wl, v, Lm, vm, wm, h1, h2, h3, h4, rfl, rfl⟩ := h
  exact ⟨x, s, t, L, wl, v, Lm, vm, wm, h1, h2, h3, h4, ud_lawTold .., rfl⟩
theorem Pr.read (h : Pr B M n T lt o rd rn x0 D M2) (r2 : Fin 82 → Int32) : Pr B M n T lt o r2 rn x0 D (ms_read M2 r2) := by
  obtain ⟨x, s, t, L, wl, v, Lm, vm, wm, h1, h2, h3, h4, rfl, rfl⟩ := h
  exact ⟨x, s, t, L, wl, v, Lm, vm, wm, h1, h2, h3, h4, rfl, um_read ..⟩
theorem Pr.names (h : Pr B M n T lt o rd rn x0 D M2) (r2 : Fin 4 → Int64) : Pr B M n T lt o rd r2 x0 D (ms_readNames M2 r2) := by
  obtain ⟨x, s, t, L, wl, v, Lm, vm, wm, h1, h2, h3, h4, rfl, rfl⟩ := h
  exact ⟨x, s, t, L, wl, v, Lm, vm, wm, h1, h2, h3, h4, rfl, um_readNames ..⟩
theorem Pr.once (h : Pr B M n T lt o rd rn x0 D M2) (o2 : Int32) : Pr B M n T lt o2 rd rn x0 D (ms_toldOnce M2 o2) := by
  obtain ⟨x, s, t, L, wl, v, Lm, vm, wm, h1, h2, h3, h4, rfl, rfl⟩ := h
  exact ⟨x, s, t, L, wl, v, Lm, vm, wm, h1, h2, h3, h4, rfl, um_toldOnce ..⟩
theorem Pr.gT (h : Pr B M n T lt o rd rn x0 D M2) : d_told D = T := by
  obtain ⟨x, s, t, L, wl, v, Lm, vm, wm, h1, h2, h3, h4, rfl, rfl⟩ := h
  rfl
theorem Pr.gL (h : Pr B M n T lt o rd rn x0 D M2) : d_lawTold D = lt := by
  obtain ⟨x, s, t, L, wl, v, Lm, vm, wm, h1, h2, h3, h4, rfl, rfl⟩ := h
  rfl
theorem Pr.gR (h : Pr B M n T lt o rd rn x0 D M2) : m_read M2 = rd := by
  obtain ⟨x, s, t, L, wl, v, Lm, vm, wm, h1, h2, h3, h4, rfl, rfl⟩ := h
  rfl
theorem Pr.gN (h : Pr B M n T lt o rd rn x0 D M2) : m_readNames M2 = rn := by
  obtain ⟨x, s, t, L, wl, v, Lm, vm, wm, h1, h2, h3, h4, rfl, rfl⟩ := h
  rfl
theorem Pr.gO (h : Pr B M n T lt o rd rn x0 D M2) : m_toldOnce M2 = o := by
  obtain ⟨x, s, t, L, wl, v, Lm, vm, wm, h1, h2, h3, h4, rfl, rfl⟩ := h
  rfl
theorem Pr.w0 (h : Pr B M n T lt o rd rn x0 D M2) : m_wrong M2 = 0 := by
  obtain ⟨x, s, t, L, wl, v, Lm, vm, wm, h1, h2, h3, h4, rfl, rfl⟩ := h
  rfl
theorem Pr.goes (h : Pr B M n T lt o rd rn x0 D M2) : F_X5_goesOn M2 = (F_X5_token M2).bind fun q1 => some q1 := by
  unfold F_X5_goesOn
  rw [if_pos h.w0]
/-- both sides fail alike -/
theorem Pr.fail (h : Pr B M n T lt o rd rn x0 D M2) (hn : n ≤ 600) {g : Nat} (h0 : 0 < g) (h8 : g < 8) : ∃ D' M2', F_X0_fail D (nI g) = some (0, D') ∧ F_X5_fails M2 (nI g) = some M2' ∧ Ff M o rd rn D' M2' := by
  obtain ⟨x, s, t, L, wl, v, Lm, vm, wm, h1, h2, h3, h4, rfl, rfl⟩ := h
  refine ⟨dq B (nI n) T lt (nI x) (nI g) (nI s) (nI t) L wl v, mr M (nI x) (nI s) (nI t) Lm vm wm (nI g) (nI s) o rd rn, ?_, ?_, g, s, rfl, rfl, h0, h8, by omega, _, _, _, _, _, _, rfl⟩
  · unfold F_X0_fail
    rw [nm_eq, ud_found]
  · unfold F_X5_fails
    rw [gm_wrong, if_pos rfl, nm_eq, um_wrong, nm_eq, gm_from, um_wrongAt]
variable {Y : Nat → Nat} (hl : m_length M = nI n) (hn : n ≤ 600) (hB : ∀ k, k < n → BR (exI B k) (exI (m_tape M) k) (Y k))
theorem p_step (hl : m_length M = nI n) (hn : n ≤ 600) (hB : ∀ k, k < n → BR (exI B k) (exI (m_tape M) k) (Y k)) (h : Pr B M n T lt o rd rn x0 D M2) : ∃ D' M2', F_X0_step D = some D' ∧ F_X5_token M2 = some M2' ∧ Pr B M n T lt o rd rn x0 D' M2' := by
  obtain ⟨x, s, t, L, wl, v, Lm, vm, wm, h1, h2, h3, h4, rfl, rfl⟩ := h
  obtain ⟨x', s', t', L', wl', v', Lm', vm', wm', g1, g2, g3, g4, g5, g6, g7⟩ := tok_step hl hn hB h2 (nI s) (nI t) L wl v (nI s) (nI t) Lm vm wm
  exact ⟨_, _, g6 T lt 0, g7 0 (-1) o rd rn, x', s', t', L', wl', v', Lm', vm', wm', by omega, g2, g3, g5, rfl, rfl⟩
/-- one step that isn't the end goes on -/
theorem p_step1 (hl : m_length M = nI n) (hn : n ≤ 600) (hB : ∀ k, k < n → BR (exI B k) (exI (m_tape M) k) (Y k)) (h : Pr B M n T lt o rd rn x0 D M2) : ∃ D' M2', F_X0_step D = some D' ∧ F_X5_token M2 = some M2' ∧ Pr B M n T lt o rd rn x0 D' M2' ∧ (¬ d_token D' = 0 → Pr B M n T lt o rd rn (x0 + 1) D' M2') := by
  obtain ⟨x, s, t, L, wl, v, Lm, vm, wm, h1, h2, h3, h4, rfl, rfl⟩ := h
  obtain ⟨x', s', t', L', wl', v', Lm', vm', wm', g1, g2, g3, g4, g5, g6, g7⟩ := tok_step hl hn hB h2 (nI s) (nI t) L wl v (nI s) (nI t) Lm vm wm
  refine ⟨_, _, g6 T lt 0, g7 0 (-1) o rd rn, ⟨x', s', t', L', wl', v', Lm', vm', wm', by omega, g2, g3, g5, rfl, rfl⟩, fun hz => ?_⟩
  have ht : t' ≠ 0 := fun q => hz (by rw [q]; rfl)
  have := g4 ht
  exact ⟨x', s', t', L', wl', v', Lm', vm', wm', by omega, g2, g3, g5, rfl, rfl⟩
/-- a fixed word, and a step beyond it -/
def readWd (S : DS) (x1 : Nat) : Option (Int32 × DS) :=
  (F_X0_fixedWord S).bind fun q1 =>
  Option.elim q1
  ((F_X0_fail S (1 : Int32)).bind fun q3 =>
  zz q3.1 <|
  some (q3.1, q3.2))
  (fun w2 => (ltW w2 x1).bind fun u4 =>
  if w2 = x1 then
  ((F_X0_step S).bind fun q5 =>
  some ((1 : Int32), q5))
  else
  ((F_X0_fail S (1 : Int32)).bind fun q6 =>
  zz q6.1 <|
  some (q6.1, q6.2)))
theorem fail_bad (S : DS) (k : DS → Option (Int32 × DS)) : ((F_X0_fail S (1 : Int32)).bind fun q4 => zz q4.1 <| some (q4.1, q4.2)) = (((F_X0_fail S (1 : Int32)).bind fun q3 => zz q3.1 <| some (q3.1, q3.2)).bind fun q2 => if q2.1 = 0 then some ((0 : Int32), q2.2) else k q2.2) := by
  have hf : F_X0_fail S (1 : Int32) = some ((0 : Int32), ds_found S 1) := rfl
  have hz : ∀ D : DS, zz (0 : Int32) (some ((0 : Int32), D)) = some ((0 : Int32), D) := fun D => if_pos (Or.inl rfl)
  rw [hf, bs, hz, bs, if_pos rfl]
/-- a fixed word in a method's midst, with what follows -/
theorem wd_then (S : DS) (w : Nat) (k : DS → Option (Int32 × DS)) : ((F_X0_fixedWord S).bind fun q2 => Option.elim q2 ((F_X0_fail S (1 : Int32)).bind fun q4 => zz q4.1 <| some (q4.1, q4.2)) (fun w3 => (ltW w3 w).bind fun _ => if w3 = w then ((F_X0_step S).bind k) else ((F_X0_fail S (1 : Int32)).bind fun q13 => zz q13.1 <| some (q13.1, q13.2)))) = ((readWd S w).bind fun q2 => if q2.1 = 0 then some ((0 : Int32), q2.2) else k q2.2) := by
  unfold readWd
  cases F_X0_fixedWord S with
  | none => rfl
  | some q =>
    rw [bs, bs]
    cases q with
    | none => exact fail_bad S k
    | some u =>
      show (ltW u w).bind _ = ((ltW u w).bind _).bind _
      cases ltW u w with
      | none => rfl
      | some z =>
        rw [bs, bs]
        by_cases h : u = w
        · rw [if_pos h, if_pos h]
          cases F_X0_step S with
          | none => rfl
          | some D => rw [bs, bs, bs, if_neg n10]
        · rw [if_neg h, if_neg h]
          exact fail_bad S k
theorem p_word (hl : m_length M = nI n) (hn : n ≤ 600) (hB : ∀ k, k < n → BR (exI B k) (exI (m_tape M) k) (Y k)) (h : Pr B M n T lt o rd rn x0 D M2) {w : Nat} (hw : w < 19) : ∃ D' M2', F_X5_takes M2 (lN (nHi 0 (wdN w))) = some M2' ∧ ((readWd D w = some (1, D') ∧ Pr B M n T lt o rd rn x0 D' M2') ∨ (readWd D w = some (0, D') ∧ Ff M o rd rn D' M2')) := by
  have hp := h
  have hf := h.fail hn (g := 1) (by omega) (by omega)
  have hs := p_step hl hn hB h
  have hg := h.goes
  obtain ⟨x, s, t, L, wl, v, Lm, vm, wm, h1, h2, h3, h4, rfl, rfl⟩ := h
  obtain ⟨R, hR⟩ := h4.rec
  unfold F_X5_takes J_X5_takes_13 readWd
  rw [hR.is h4.1 hw, hR.fixed h4.1, bs]
  obtain ⟨D1, M1, e1, e2, e3⟩ := hf
  have e1' : F_X0_fail (dq B (nI n) T lt (nI x) 0 (nI s) (nI t) L wl v) 1 = some (0, D1) := e1
  have e2' : F_X5_fails (mr M (nI x) (nI s) (nI t) Lm vm wm 0 (-1) o rd rn) 1 = some M1 := e2
  have hgo : F_X5_goesOn M1 = some M1 := by
    obtain ⟨g, s1, -, -, q⟩ := e3
    exact q.goes
  by_cases q : R = some w
  · obtain ⟨D2, M3, f1, f2, f3⟩ := hs
    refine ⟨D2, M3, ?_, Or.inl ⟨?_, f3⟩⟩
    · rw [if_pos q, if_neg n10, hg, f2, bs, bs]
    · rw [q, bs]
      show (ltW w w).bind _ = _
      rw [show ltW w w = some () from if_pos ⟨hw, hw⟩, bs, if_pos rfl, f1, bs]
  · refine ⟨D1, M1, ?_, Or.inr ⟨?_, e3⟩⟩
    · rw [if_neg q, if_pos rfl, e2', bs, hgo, bs]
    · rw [bs]
      cases hr : R with
      | none =>
        show (F_X0_fail _ 1).bind _ = _
        rw [e1', bs]
      | some u =>
        have hu := (hR.1 u hr).1
        show (ltW u w).bind _ = _
        rw [show ltW u w = some () from if_pos ⟨hu, hw⟩, bs, if_neg (fun e => q (by rw [hr, e])), e1', bs]
        rfl
theorem p_whole (hl : m_length M = nI n) (hn : n ≤ 600) (hB : ∀ k, k < n → BR (exI B k) (exI (m_tape M) k) (Y k)) (h : Pr B M n T lt o rd rn x0 D M2) {a b : Nat} (ha : a < 2 ^ 31) (hb : b < 2 ^ 31) :
    (∃ v M2', a ≤ v ∧ v ≤ b ∧ d_number D = nI v ∧ F_X0_isWholeWithin D (nI a) (nI b) = some (1, D) ∧ F_X5_whole M2 (nI a) (nI b) = some (nI v, M2') ∧ ∀ T2, ∃ D', F_X0_step (ds_told D T2) = some D' ∧ Pr B M n T2 lt o rd rn x0 D' M2') ∨
    (∃ D' M2' v, F_X0_isWholeWithin D (nI a) (nI b) = some (0, D') ∧ F_X5_whole M2 (nI a) (nI b) = some (v, M2') ∧ Ff M o rd rn D' M2') := by
  have hp := h
  obtain ⟨D1, M1, e1, e2, e3⟩ := h.fail hn (g := 1) (by omega) (by omega)
  obtain ⟨D3, M3, c1, c2, c3⟩ := h.fail hn (g := 2) (by omega) (by omega)
  have hg := h.goes
  obtain ⟨x, s, t, L, wl, v, Lm, vm, wm, h1, h2, h3, h4, rfl, rfl⟩ := h
  have e1' : F_X0_fail (dq B (nI n) T lt (nI x) 0 (nI s) (nI t) L wl v) 1 = some (0, D1) := e1
  have e2' : F_X5_fails (mr M (nI x) (nI s) (nI t) Lm vm wm 0 (-1) o rd rn) 1 = some M1 := e2
  have c1' : F_X0_fail (dq B (nI n) T lt (nI x) 0 (nI s) (nI t) L wl v) 2 = some (0, D3) := c1
  have c2' : F_X5_fails (mr M (nI x) (nI s) (nI t) Lm vm wm 0 (-1) o rd rn) 2 = some M3 := c2
  unfold F_X0_isWholeWithin F_X5_whole J_X5_whole_36
  rw [gd_token, gm_sort, gd_number, gm_number, M_in2]
  by_cases ht : t = 2
  · obtain ⟨k, k1, rfl, rfl⟩ := h4.2.2 ht
    have ht' : nI t = 2 := by rw [ht]; rfl
    rw [if_pos ht', if_pos ht']
    rcases W_casesL (nI k) ha hb with e | ⟨e, z, z1, z2, z3⟩
    · right
      have hgo : F_X5_goesOn M3 = some M3 := by
        obtain ⟨g, s1, -, -, q⟩ := c3
        exact q.goes
      refine ⟨D3, M3, m_number M3, ?_, ?_, c3⟩
      · rw [e, bs, if_pos rfl, c1', bs, if_pos rfl]
      · rw [e, bs, if_pos rfl, c2', bs, nm_eq, hgo, bs]
    · left
      have hz : k = z := (nI_eq (by omega) (by omega)).mp z3
      subst hz
      obtain ⟨x', s', t', L', wl', v', Lm', vm', wm', g1, g2, g3, g4, g5, g6, g7⟩ := tok_step hl hn hB h2 (nI s) (nI t) L wl (nI k) (nI s) (nI t) Lm (nI k) wm
      refine ⟨k, _, z1, z2, rfl, ?_, ?_, fun T2 => ⟨_, g6 T2 lt 0, x', s', t', L', wl', v', Lm', vm', wm', by omega, g2, g3, g5, rfl, rfl⟩⟩
      · rw [e, bs, if_neg n10]
        rfl
      · rw [e, bs, if_neg n10, nm_eq, hg, g7 0 (-1) o rd rn, bs, bs]
  · right
    have ht' : ¬ nI t = 2 := fun q => ht ((nI_eq (b := 2) (by have := h4.1; omega) (by omega)).mp q)
    have hgo : F_X5_goesOn M1 = some M1 := by
      obtain ⟨g, s1, -, -, q⟩ := e3
      exact q.goes
    refine ⟨D1, M1, m_number M1, ?_, ?_, e3⟩
    · rw [if_neg ht', e1', bs]
      rfl
    · rw [if_neg ht', e2', bs, nm_eq, hgo, bs]
end PRS
