/-! ===== level 2: the words of a text ===== -/
def wdL : List (List Nat) := [[19, 8, 9, 16], [20, 15, 14, 19], [6, 1, 21, 12, 20], [8, 21, 12, 12], [22, 1, 12, 21, 5], [3, 12, 1, 21, 19, 5], [2, 1, 18, 18, 5, 4], [4, 1, 25], [7, 15, 15, 4, 19], [16, 5, 18, 19, 15, 14, 19], [15, 20, 8, 5, 18, 19], [5, 17, 21, 1, 12], [23, 8, 15, 12, 5], [3, 18, 15, 19, 19], [18, 1, 20, 5], [12, 9, 22, 5, 19], [12, 5, 1, 19, 20], [4, 21, 5], [12, 1, 19, 20]]
def wdN (w : Nat) : List Nat := wdL.getD w []
def fwN (ls : List Nat) : Nat → Option Nat
  | 0 => none
  | d + 1 => if wdN (18 - d) = ls then some (18 - d) else fwN ls d
theorem wd_good : ∀ w, w < 19 → (wdN w).length ≤ 7 ∧ (∀ l, l ∈ wdN w → 1 ≤ l ∧ l ≤ 26) := by decide +kernel
theorem wd_Let {w : Nat} (h : w < 19) : Let (wdN w) := (wd_good w h).2
theorem wd_len {w : Nat} (h : w < 19) : (wdN w).length ≤ 7 := (wd_good w h).1
theorem wd_letN : ∀ w, w < 19 → wd_let[w]? = some (lN (nLo (wdN w))) := by decide +kernel
theorem wd_inj : ∀ w, w < 19 → ∀ u, u < 19 → wdN w = wdN u → w = u := by decide +kernel
theorem wd_long : ∀ w, w < 19 → (wdN w).length ≤ 6 → w ≠ 9 := by decide +kernel
theorem fw_some {ls : List Nat} {w : Nat} : ∀ {d : Nat}, d ≤ 19 → fwN ls d = some w → w < 19 ∧ wdN w = ls
  | 0, _, h => by cases h
  | d + 1, hd, h => by
    unfold fwN at h
    by_cases q : wdN (18 - d) = ls
    · rw [if_pos q] at h
      cases h
      exact ⟨by omega, q⟩
    · rw [if_neg q] at h
      exact fw_some (by omega) h
theorem fw_none {ls : List Nat} : ∀ {d : Nat}, d ≤ 19 → fwN ls d = none → ∀ w, 19 - d ≤ w → w < 19 → wdN w ≠ ls
  | 0, _, _, w, h1, h2 => by omega
  | d + 1, hd, h, w, h1, h2 => by
    unfold fwN at h
    by_cases q : wdN (18 - d) = ls
    · rw [if_pos q] at h
      cases h
    · rw [if_neg q] at h
      by_cases e : w = 18 - d
      · rw [e]
        exact q
      · exact fw_none (by omega) h w (by omega) h2
theorem fw_iff (ls : List Nat) {w : Nat} (hw : w < 19) : fwN ls 19 = some w ↔ ls = wdN w := by
  constructor
  · intro h
    exact (fw_some (Nat.le_refl _) h).2.symm
  · intro h
    cases e : fwN ls 19 with
    | none => exact absurd h.symm (fw_none (Nat.le_refl _) e w (by omega) hw)
    | some u =>
      have h2 := fw_some (Nat.le_refl _) e
      rw [wd_inj w hw u h2.1 (h.symm.trans h2.2.symm)]
theorem lg0 (x y : Int64) : lg_cmp x y = 0 ↔ x = y := lg_cmp_eq x y
theorem fixW {ls : List Nat} (hL : Let ls) (hl : ls.length ≤ 7) (S : DS) (hS : d_letters S = lN (nLo ls)) : ∀ d i fu, i + d = 19 → d < fu → lo1 (B_X0_fixedWord_12 S (fun _u => some none)) fu (nI i) = some (fwN ls d) := by
  intro d
  induction d with
  | zero =>
    intro i fu hi hf
    obtain ⟨fu, rfl⟩ : ∃ f, fu = f + 1 := ⟨fu - 1, by omega⟩
    have hi : i = 19 := by omega
    subst hi
    refine (lo1_s _ _ _).trans ?_
    unfold B_X0_fixedWord_12
    rw [if_pos (by decide)]
    rfl
  | succ d ih =>
    intro i fu hi hf
    obtain ⟨fu, rfl⟩ : ∃ f, fu = f + 1 := ⟨fu - 1, by omega⟩
    have h := ih (i + 1) fu (by omega) (by omega)
    have key : ∀ (k9 : Unit → Option (Option Nat)) rc, B_X0_fixedWord_12 S k9 rc (nI i) = if wdN i = ls then some (some i) else rc (nI (i + 1)) := by
      intro k9 rc
      unfold B_X0_fixedWord_12
      rw [show (19 : Int32) = nI 19 from rfl, if_neg (by rw [nI_leI (by omega) (by omega)]; omega), ix_N (by omega) (by omega), bs, wd_letN i (by omega), bs, hS]
      by_cases q : wdN i = ls
      · rw [if_pos ((lg0 _ _).mpr (by rw [q])), if_pos q, bs]
      · rw [if_neg (fun e => q ((lo_eq (wd_Let (by omega)) hL (wd_len (by omega)) hl).mp ((lg0 _ _).mp e))), if_neg q, nm_eq, nI_1]
    refine (lo1_s _ _ _).trans ((key _ _).trans ?_)
    unfold fwN
    rw [show 18 - d = i by omega]
    by_cases q : wdN i = ls
    · rw [if_pos q, if_pos q]
    · rw [if_neg q, if_neg q]
      exact h

theorem w_ship : F_X5_shipWord = some (lN (nHi 0 (wdN 0))) := by decide +kernel
theorem w_tons : F_X5_tonsWord = some (lN (nHi 0 (wdN 1))) := by decide +kernel
theorem w_fault : F_X5_faultWord = some (lN (nHi 0 (wdN 2))) := by decide +kernel
theorem w_hull : F_X5_hullWord = some (lN (nHi 0 (wdN 3))) := by decide +kernel
theorem w_value : F_X5_valueWord = some (lN (nHi 0 (wdN 4))) := by decide +kernel
theorem w_clause : F_X5_clauseWord = some (lN (nHi 0 (wdN 5))) := by decide +kernel
theorem w_barred : F_X5_barredWord = some (lN (nHi 0 (wdN 6))) := by decide +kernel
theorem w_day : F_X5_dayWord = some (lN (nHi 0 (wdN 7))) := by decide +kernel
theorem w_goods : F_X5_goodsWord = some (lN (nHi 0 (wdN 8))) := by decide +kernel
theorem w_persons : F_X5_personsWord = some (lN (nHi 0 (wdN 9))) := by decide +kernel
theorem w_others : F_X5_othersWord = some (lN (nHi 0 (wdN 10))) := by decide +kernel
theorem w_about : ∀ k, k < 10 → 2 ≤ k → F_X5_aboutWord (nI k) = some (lN (nHi 0 (wdN (k + 9)))) := by decide +kernel
/-- the word that a token is, on both sides -/
def RecR (t : Nat) (R : Option Nat) (L : Int32) (wl : Int64) (Lm : Int32) (wm : Int64) : Prop := (∀ w, R = some w → w < 19 ∧ t = 1) ∧ (t = 1 → ∃ ls : List Nat, 0 < ls.length ∧ ls.length ≤ 7 ∧ Let ls ∧ L = nI ls.length ∧ Lm = nI ls.length ∧ wl = lN (nLo ls) ∧ wm = lN (nHi 0 ls) ∧ R = fwN ls 19)
theorem TokW.rec {t : Nat} {L : Int32} {wl : Int64} {v Lm vm : Int32} {wm : Int64} (h : TokW t L wl v Lm vm wm) : ∃ R, RecR t R L wl Lm wm := by
  by_cases ht : t = 1
  · obtain ⟨ls, h1, h2, h3, h4, h5, h6, h7⟩ := h.2.1 ht
    exact ⟨fwN ls 19, fun w hw => ⟨(fw_some (Nat.le_refl _) hw).1, ht⟩, fun _ => ⟨ls, h1, h2, h3, h4, h5, h6, h7, rfl⟩⟩
  · refine ⟨none, ?_, fun q => absurd q ht⟩
    intro w hw
    cases hw
section WRD
variable {t : Nat} {R : Option Nat} {L : Int32} {wl : Int64} {Lm : Int32} {wm : Int64}
theorem RecR.fixed (h : RecR t R L wl Lm wm) (ht : t ≤ 4) (B : Fin 600 → Int32) (e : Int32) (T : TS) (lt : Fin 10 → Int32) (x fo s v : Int32) : F_X0_fixedWord (dq B e T lt x fo s (nI t) L wl v) = some R := by
  unfold F_X0_fixedWord
  by_cases q : t = 1
  · obtain ⟨ls, h1, h2, h3, h4, h5, h6, h7, h8⟩ := h.2 q
    rw [gd_token, if_pos (by rw [q]; rfl), h8]
    exact fixW h3 h2 (dq B e T lt x fo s (nI t) L wl v) h6 19 0 FU (by omega) (by rw [FU_eq]; omega)
  · rw [gd_token, if_neg (nI_n1 q (by omega))]
    cases hR : R with
    | none => rfl
    | some w => exact absurd (h.1 w hR).2 q
theorem RecR.is (h : RecR t R L wl Lm wm) (ht : t ≤ 4) {w : Nat} (hw : w < 19) (M : MS) (x f v ga o : Int32) (rd : Fin 82 → Int32) (rn : Fin 4 → Int64) : F_X5_isWord (mr M x f (nI t) Lm v wm 0 ga o rd rn) (lN (nHi 0 (wdN w))) = some (if R = some w then 1 else 0) := by
  unfold F_X5_isWord
  rw [gm_wrong, if_pos rfl, gm_sort, gm_word]
  by_cases q : t = 1
  · obtain ⟨ls, h1, h2, h3, h4, h5, h6, h7, h8⟩ := h.2 q
    rw [if_pos (by rw [q]; rfl), h7, h8]
    by_cases e : ls = wdN w
    · rw [if_pos ((lg0 _ _).mpr (by rw [e])), if_pos ((fw_iff ls hw).mpr e)]
    · rw [if_neg (fun z => e ((hi_eq h3 (wd_Let hw) h2 (wd_len hw)).mp ((lg0 _ _).mp z))), if_neg (fun z => e ((fw_iff ls hw).mp z))]
  · rw [if_neg (nI_n1 q (by omega)), if_neg (fun z => q (h.1 w z).2)]
def aboR (R : Option Nat) : Int32 := match R with
  | none => -1
  | some w => if 11 ≤ w then nI (w - 9) else -1
theorem RecR.abo (h : RecR t R L wl Lm wm) (ht : t ≤ 4) (M : MS) (x f v ga o : Int32) (rd : Fin 82 → Int32) (rn : Fin 4 → Int64) : F_X5_aboutHere (mr M x f (nI t) Lm v wm 0 ga o rd rn) = some (aboR R) := by
  have key : ∀ d k fu, k + d = 10 → d < fu → 2 ≤ k → (∀ w, R = some w → 11 ≤ w → k + 9 ≤ w) → lo1 (B_X5_aboutHere_2 (mr M x f (nI t) Lm v wm 0 ga o rd rn) (fun _u => some (-1 : Int32))) fu (nI k) = some (aboR R) := by
    intro d
    induction d with
    | zero =>
      intro k fu hk hf h2 hR
      obtain ⟨fu, rfl⟩ : ∃ f, fu = f + 1 := ⟨fu - 1, by omega⟩
      have hk : k = 10 := by omega
      subst hk
      refine (lo1_s _ _ _).trans ?_
      unfold B_X5_aboutHere_2
      rw [if_pos (by decide)]
      cases hr : R with
      | none => rfl
      | some w =>
        unfold aboR
        have h1 := (h.1 w hr).1
        by_cases q : 11 ≤ w
        · have := hR w hr q
          omega
        · simp only [if_neg q]
    | succ d ih =>
      intro k fu hk hf h2 hR
      obtain ⟨fu, rfl⟩ : ∃ f, fu = f + 1 := ⟨fu - 1, by omega⟩
      refine (lo1_s _ _ _).trans ?_
      unfold B_X5_aboutHere_2
      rw [show (9 : Int32) = nI 9 from rfl, if_neg (by rw [nI_ltI (by omega) (by omega)]; omega), w_about k (by omega) h2, bs, h.is ht (by omega), bs]
      by_cases q : R = some (k + 9)
      · rw [if_pos q, if_neg n10, q]
        unfold aboR
        simp only [if_pos (show 11 ≤ k + 9 by omega), show k + 9 - 9 = k by omega]
      · rw [if_neg q, if_pos rfl, nm_eq, nI_1]
        refine ih (k + 1) fu (by omega) (by omega) (by omega) (fun w hw h11 => ?_)
        have h3 := hR w hw h11
        have h4 : w ≠ k + 9 := fun e => q (by rw [hw, e])
        omega
  exact key 8 2 FU (by omega) (by rw [FU_eq]; omega) (by omega) (fun w _ h => by omega)
/-- is it a name -/
def isNm (t : Nat) (R : Option Nat) (L : Int32) : Prop := t = 1 ∧ R = none ∧ ¬ (6 : Int32) < L
theorem isNm_em (t : Nat) (R : Option Nat) (L : Int32) : isNm t R L ∨ ¬ isNm t R L := Classical.em _
theorem RecR.nameC (h : RecR t R L wl Lm wm) (ht : t ≤ 4) (B : Fin 600 → Int32) (e : Int32) (T : TS) (lt : Fin 10 → Int32) (x fo s v : Int32) : (isNm t R L → F_X0_isName (dq B e T lt x fo s (nI t) L wl v) = some 1) ∧ (¬ isNm t R L → F_X0_isName (dq B e T lt x fo s (nI t) L wl v) = some 0) := by
  unfold F_X0_isName
  rw [gd_token, gd_length, h.fixed ht, bs]
  constructor
  · rintro ⟨q1, q2, q3⟩
    rw [if_pos (by rw [q1]; rfl), if_neg q3, q2]
    rfl
  · intro q
    by_cases q1 : t = 1
    · rw [if_pos (by rw [q1]; rfl)]
      by_cases q3 : (6 : Int32) < L
      · rw [if_pos q3]
      · rw [if_neg q3]
        cases hr : R with
        | none => exact absurd ⟨q1, hr, q3⟩ q
        | some w => rfl
    · rw [if_neg (nI_n1 q1 (by omega))]
theorem RecR.nameM (h : RecR t R L wl Lm wm) (ht : t ≤ 4) (M : MS) (x f v ga o : Int32) (rd : Fin 82 → Int32) (rn : Fin 4 → Int64) : (isNm t R L → F_X5_isName (mr M x f (nI t) Lm v wm 0 ga o rd rn) = some 1) ∧ (¬ isNm t R L → F_X5_isName (mr M x f (nI t) Lm v wm 0 ga o rd rn) = some 0) := by
  unfold F_X5_isName
  rw [gm_wrong, if_pos rfl, gm_sort, gm_many, h.abo ht, bs]
  rw [w_ship, w_tons, w_fault, w_hull, w_value, w_clause, w_barred, w_goods, w_others, w_day]
  simp only [bs, h.is ht (w := 0) (by decide), h.is ht (w := 1) (by decide), h.is ht (w := 2) (by decide), h.is ht (w := 3) (by decide), h.is ht (w := 4) (by decide), h.is ht (w := 5) (by decide), h.is ht (w := 6) (by decide), h.is ht (w := 7) (by decide), h.is ht (w := 8) (by decide), h.is ht (w := 10) (by decide)]
  constructor
  · rintro ⟨q1, q2, q3⟩
    obtain ⟨ls, h1, h2, h3, h4, h5, h6, h7, h8⟩ := h.2 q1
    have q3' : ¬ (6 : Int32) < Lm := by rw [h5, ← h4]; exact q3
    rw [if_pos (by rw [q1]; rfl), if_neg q3', q2]
    rfl
  · intro q
    by_cases q1 : t = 1
    · obtain ⟨ls, h1, h2, h3, h4, h5, h6, h7, h8⟩ := h.2 q1
      rw [if_pos (by rw [q1]; rfl)]
      by_cases q3 : (6 : Int32) < Lm
      · rw [if_pos q3]
      · rw [if_neg q3]
        cases hr : R with
        | none => exact absurd ⟨q1, hr, by rw [h4, ← h5]; exact q3⟩ q
        | some w =>
          have hw := (h.1 w hr).1
          have hls : ls = wdN w := (fw_iff ls hw).mp (by rw [← h8]; exact hr)
          have h9 : w ≠ 9 := wd_long w hw (by
            rw [← hls]
            rw [h5, show (6 : Int32) = nI 6 from rfl, nI_ltI (by omega) (by omega)] at q3
            omega)
          have hz : ∀ z : Nat, z < 19 → z ≠ 9 → (if aboR (some z) = (-1 : Int32) then (if (if (some z : Option Nat) = some 0 then (1 : Int32) else 0) = 0 then (if (if (some z : Option Nat) = some 1 then (1 : Int32) else 0) = 0 then (if (if (some z : Option Nat) = some 2 then (1 : Int32) else 0) = 0 then (if (if (some z : Option Nat) = some 3 then (1 : Int32) else 0) = 0 then (if (if (some z : Option Nat) = some 4 then (1 : Int32) else 0) = 0 then (if (if (some z : Option Nat) = some 5 then (1 : Int32) else 0) = 0 then (if (if (some z : Option Nat) = some 6 then (1 : Int32) else 0) = 0 then (if (if (some z : Option Nat) = some 8 then (1 : Int32) else 0) = 0 then (if (if (some z : Option Nat) = some 10 then (1 : Int32) else 0) = 0 then (if (if (some z : Option Nat) = some 7 then (1 : Int32) else 0) = 0 then some (1 : Int32) else some 0) else some 0) else some 0) else some 0) else some 0) else some 0) else some 0) else some 0) else some 0) else some 0) else some 0) = some 0 := by decide +kernel
          exact hz w hw h9
    · rw [if_neg (nI_n1 q1 (by omega))]
end WRD
/-! names told -/
section NMD
variable {N : Nat} {T : TS} {M : MS}
theorem NmR.eqs {x y : Int64} (h : NmR x y) {ls : List Nat} (hl : ls.length ≤ 7) (hL : Let ls) : (x = lN (nLo ls) ↔ y = lN (nHi 0 ls)) := by
  obtain ⟨ks, h1, h2, h3, rfl, rfl⟩ := h
  rw [lo_eq h3 hL (by omega) hl, hi_eq h3 hL (by omega) hl]
theorem named (hN : N ≤ 4) (hT : t_ships T = nI N) {ls : List Nat} (hl : ls.length ≤ 7) (hL : Let ls) (x f t L v g ga o : Int32) (rd : Fin 82 → Int32) (rn : Fin 4 → Int64) (h0 : exI rd 0 = nI N) (hn : ∀ i, i < N → NmR (exL (t_names T) i) (exL rn i)) : ∃ r, F_X2_shipNamed T (lN (nLo ls)) = some r ∧ F_X5_shipNamed (mr M x f t L v (lN (nHi 0 ls)) g ga o rd rn) = some r ∧ (r = -1 ∨ ∃ i, i < N ∧ r = nI i) := by
  have hr0 : rdI rd 0 = some (nI N) := by
    rw [show (0 : Int32) = nI 0 from rfl, rI _ (by omega) (by omega), h0]
  have key : ∀ d i fu, i + d = N → d < fu → ∃ r, lo1 (B_X2_shipNamed_2 T (lN (nLo ls)) (fun _u => some (-1 : Int32))) fu (nI i) = some r ∧ lo1 (B_X5_shipNamed_2 (mr M x f t L v (lN (nHi 0 ls)) g ga o rd rn) (fun _u => some (-1 : Int32))) fu (nI i) = some r ∧ (r = -1 ∨ ∃ i, i < N ∧ r = nI i) := by
    intro d
    induction d with
    | zero =>
      intro i fu hi hf
      obtain ⟨fu, rfl⟩ : ∃ f, fu = f + 1 := ⟨fu - 1, by omega⟩
      refine ⟨-1, (lo1_s _ _ _).trans ?_, (lo1_s _ _ _).trans ?_, Or.inl rfl⟩
      · unfold B_X2_shipNamed_2
        rw [hT, if_pos (by rw [nI_leI (by omega) (by omega)]; omega)]
      · unfold B_X5_shipNamed_2
        rw [gm_read, hr0, bs, if_pos (by rw [nI_leI (by omega) (by omega)]; omega)]
    | succ d ih =>
      intro i fu hi hf
      obtain ⟨fu, rfl⟩ : ∃ f, fu = f + 1 := ⟨fu - 1, by omega⟩
      have he := (hn i (by omega)).eqs hl hL
      have hle : ¬ nI N ≤ nI i := by
        rw [nI_leI (by omega) (by omega)]
        omega
      by_cases q : exL (t_names T) i = lN (nLo ls)
      · refine ⟨nI i, (lo1_s _ _ _).trans ?_, (lo1_s _ _ _).trans ?_, Or.inr ⟨i, by omega, rfl⟩⟩
        · unfold B_X2_shipNamed_2
          rw [hT, if_neg hle, rL _ (by omega) (by omega), bs, if_pos ((lg0 _ _).mpr q)]
        · unfold B_X5_shipNamed_2
          rw [gm_read, hr0, bs, if_neg hle, gm_readNames, rL _ (by omega) (by omega), bs, gm_word, if_pos ((lg0 _ _).mpr (he.mp q))]
      · obtain ⟨r, e1, e2, e3⟩ := ih (i + 1) fu (by omega) (by omega)
        refine ⟨r, (lo1_s _ _ _).trans (Eq.trans ?_ e1), (lo1_s _ _ _).trans (Eq.trans ?_ e2), e3⟩
        · unfold B_X2_shipNamed_2
          rw [hT, if_neg hle, rL _ (by omega) (by omega), bs, if_neg (fun z => q ((lg0 _ _).mp z)), nm_eq, nI_1]
        · unfold B_X5_shipNamed_2
          rw [gm_read, hr0, bs, if_neg hle, gm_readNames, rL _ (by omega) (by omega), bs, gm_word, if_neg (fun z => q (he.mpr ((lg0 _ _).mp z))), nm_eq, nI_1]
  exact key N 0 FU (by omega) (by rw [FU_eq]; omega)
theorem named_any (hN : N ≤ 4) (x f t L v : Int32) (w : Int64) (g ga o : Int32) (rd : Fin 82 → Int32) (rn : Fin 4 → Int64) (h0 : exI rd 0 = nI N) : ∃ r, F_X5_shipNamed (mr M x f t L v w g ga o rd rn) = some r := by
  have hr0 : rdI rd 0 = some (nI N) := by
    rw [show (0 : Int32) = nI 0 from rfl, rI _ (by omega) (by omega), h0]
  have key : ∀ d i fu, i + d = N → d < fu → ∃ r, lo1 (B_X5_shipNamed_2 (mr M x f t L v w g ga o rd rn) (fun _u => some (-1 : Int32))) fu (nI i) = some r := by
    intro d
    induction d with
    | zero =>
      intro i fu hi hf
      obtain ⟨fu, rfl⟩ : ∃ f, fu = f + 1 := ⟨fu - 1, by omega⟩
      refine ⟨-1, (lo1_s _ _ _).trans ?_⟩
      unfold B_X5_shipNamed_2
      rw [gm_read, hr0, bs, if_pos (by rw [nI_leI (by omega) (by omega)]; omega)]
    | succ d ih =>
      intro i fu hi hf
      obtain ⟨fu, rfl⟩ : ∃ f, fu = f + 1 := ⟨fu - 1, by omega⟩
      have hle : ¬ nI N ≤ nI i := by
        rw [nI_leI (by omega) (by omega)]
        omega
      by_cases q : exL rn i = w
      · refine ⟨nI i, (lo1_s _ _ _).trans ?_⟩
        unfold B_X5_shipNamed_2
        rw [gm_read, hr0, bs, if_neg hle, gm_readNames, rL _ (by omega) (by omega), bs, gm_word, if_pos ((lg0 _ _).mpr q)]
      · obtain ⟨r, e2⟩ := ih (i + 1) fu (by omega) (by omega)
        refine ⟨r, (lo1_s _ _ _).trans (Eq.trans ?_ e2)⟩
        unfold B_X5_shipNamed_2
        rw [gm_read, hr0, bs, if_neg hle, gm_readNames, rL _ (by omega) (by omega), bs, gm_word, if_neg (fun z => q ((lg0 _ _).mp z)), nm_eq, nI_1]
  exact key N 0 FU (by omega) (by rw [FU_eq]; omega)
end NMD
