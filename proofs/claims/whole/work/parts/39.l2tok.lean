/-! ===== level 2: the states while a text is read ===== -/
def mr (M : MS) (x f t L v : Int32) (w : Int64) (g ga o : Int32) (rd : Fin 82 → Int32) (rn : Fin 4 → Int64) : MS := (M.1, M.2.1, M.2.2.1, M.2.2.2.1, M.2.2.2.2.1, M.2.2.2.2.2.1, M.2.2.2.2.2.2.1, rd, M.2.2.2.2.2.2.2.2.1, M.2.2.2.2.2.2.2.2.2.1, M.2.2.2.2.2.2.2.2.2.2.1, M.2.2.2.2.2.2.2.2.2.2.2.1, M.2.2.2.2.2.2.2.2.2.2.2.2.1, rn, M.2.2.2.2.2.2.2.2.2.2.2.2.2.2.1, M.2.2.2.2.2.2.2.2.2.2.2.2.2.2.2.1, M.2.2.2.2.2.2.2.2.2.2.2.2.2.2.2.2.1, x, f, t, L, v, w, g, ga, o, M.2.2.2.2.2.2.2.2.2.2.2.2.2.2.2.2.2.2.2.2.2.2.2.2.2.2.1, M.2.2.2.2.2.2.2.2.2.2.2.2.2.2.2.2.2.2.2.2.2.2.2.2.2.2.2.1, M.2.2.2.2.2.2.2.2.2.2.2.2.2.2.2.2.2.2.2.2.2.2.2.2.2.2.2.2.1, M.2.2.2.2.2.2.2.2.2.2.2.2.2.2.2.2.2.2.2.2.2.2.2.2.2.2.2.2.2)
def dq (B : Fin 600 → Int32) (e : Int32) (T : TS) (lt : Fin 10 → Int32) (x fo s t L : Int32) (wl : Int64) (v : Int32) : DS := (B, T, lt, e, x, fo, s, t, L, wl, v)
section STS
variable (M : MS) (x f t L v : Int32) (w : Int64) (g ga o : Int32) (rd : Fin 82 → Int32) (rn : Fin 4 → Int64) (y : Int32) (y64 : Int64) (r2 : Fin 82 → Int32) (n2 : Fin 4 → Int64)
theorem gm_next : m_next (mr M x f t L v w g ga o rd rn) = x := rfl
theorem um_next : ms_next (mr M x f t L v w g ga o rd rn) y = mr M y f t L v w g ga o rd rn := rfl
theorem gm_from : m_from (mr M x f t L v w g ga o rd rn) = f := rfl
theorem um_from : ms_from (mr M x f t L v w g ga o rd rn) y = mr M x y t L v w g ga o rd rn := rfl
theorem gm_sort : m_sort (mr M x f t L v w g ga o rd rn) = t := rfl
theorem um_sort : ms_sort (mr M x f t L v w g ga o rd rn) y = mr M x f y L v w g ga o rd rn := rfl
theorem gm_many : m_many (mr M x f t L v w g ga o rd rn) = L := rfl
theorem um_many : ms_many (mr M x f t L v w g ga o rd rn) y = mr M x f t y v w g ga o rd rn := rfl
theorem gm_number : m_number (mr M x f t L v w g ga o rd rn) = v := rfl
theorem um_number : ms_number (mr M x f t L v w g ga o rd rn) y = mr M x f t L y w g ga o rd rn := rfl
theorem gm_word : m_word (mr M x f t L v w g ga o rd rn) = w := rfl
theorem um_word : ms_word (mr M x f t L v w g ga o rd rn) y64 = mr M x f t L v y64 g ga o rd rn := rfl
theorem gm_wrong : m_wrong (mr M x f t L v w g ga o rd rn) = g := rfl
theorem um_wrong : ms_wrong (mr M x f t L v w g ga o rd rn) y = mr M x f t L v w y ga o rd rn := rfl
theorem gm_wrongAt : m_wrongAt (mr M x f t L v w g ga o rd rn) = ga := rfl
theorem um_wrongAt : ms_wrongAt (mr M x f t L v w g ga o rd rn) y = mr M x f t L v w g y o rd rn := rfl
theorem gm_toldOnce : m_toldOnce (mr M x f t L v w g ga o rd rn) = o := rfl
theorem um_toldOnce : ms_toldOnce (mr M x f t L v w g ga o rd rn) y = mr M x f t L v w g ga y rd rn := rfl
theorem gm_read : m_read (mr M x f t L v w g ga o rd rn) = rd := rfl
theorem um_read : ms_read (mr M x f t L v w g ga o rd rn) r2 = mr M x f t L v w g ga o r2 rn := rfl
theorem gm_readNames : m_readNames (mr M x f t L v w g ga o rd rn) = rn := rfl
theorem um_readNames : ms_readNames (mr M x f t L v w g ga o rd rn) n2 = mr M x f t L v w g ga o rd n2 := rfl
theorem gm_tape : m_tape (mr M x f t L v w g ga o rd rn) = m_tape M := rfl
theorem gm_length : m_length (mr M x f t L v w g ga o rd rn) = m_length M := rfl
theorem mr_v : mv (mr M x f t L v w g ga o rd rn) = mv M := rfl
theorem mr_self : mr M (m_next M) (m_from M) (m_sort M) (m_many M) (m_number M) (m_word M) (m_wrong M) (m_wrongAt M) (m_toldOnce M) (m_read M) (m_readNames M) = M := rfl
end STS
section DTS
variable (B : Fin 600 → Int32) (e : Int32) (T T2 : TS) (lt lt2 : Fin 10 → Int32) (x fo s t L : Int32) (wl wl2 : Int64) (v y : Int32)
theorem gd_bytes : d_bytes (dq B e T lt x fo s t L wl v) = B := rfl
theorem gd_end : d_end (dq B e T lt x fo s t L wl v) = e := rfl
theorem ud_end : ds_end (dq B e T lt x fo s t L wl v) y = dq B y T lt x fo s t L wl v := rfl
theorem gd_told : d_told (dq B e T lt x fo s t L wl v) = T := rfl
theorem ud_told : ds_told (dq B e T lt x fo s t L wl v) T2 = dq B e T2 lt x fo s t L wl v := rfl
theorem gd_lawTold : d_lawTold (dq B e T lt x fo s t L wl v) = lt := rfl
theorem ud_lawTold : ds_lawTold (dq B e T lt x fo s t L wl v) lt2 = dq B e T lt2 x fo s t L wl v := rfl
theorem gd_next : d_next (dq B e T lt x fo s t L wl v) = x := rfl
theorem ud_next : ds_next (dq B e T lt x fo s t L wl v) y = dq B e T lt y fo s t L wl v := rfl
theorem gd_found : d_found (dq B e T lt x fo s t L wl v) = fo := rfl
theorem ud_found : ds_found (dq B e T lt x fo s t L wl v) y = dq B e T lt x y s t L wl v := rfl
theorem gd_start : d_start (dq B e T lt x fo s t L wl v) = s := rfl
theorem ud_start : ds_start (dq B e T lt x fo s t L wl v) y = dq B e T lt x fo y t L wl v := rfl
theorem gd_token : d_token (dq B e T lt x fo s t L wl v) = t := rfl
theorem ud_token : ds_token (dq B e T lt x fo s t L wl v) y = dq B e T lt x fo s y L wl v := rfl
theorem gd_length : d_length (dq B e T lt x fo s t L wl v) = L := rfl
theorem ud_length : ds_length (dq B e T lt x fo s t L wl v) y = dq B e T lt x fo s t y wl v := rfl
theorem gd_letters : d_letters (dq B e T lt x fo s t L wl v) = wl := rfl
theorem ud_letters : ds_letters (dq B e T lt x fo s t L wl v) wl2 = dq B e T lt x fo s t L wl2 v := rfl
theorem gd_number : d_number (dq B e T lt x fo s t L wl v) = v := rfl
theorem ud_number : ds_number (dq B e T lt x fo s t L wl v) y = dq B e T lt x fo s t L wl y := rfl
theorem dq_self (R : DS) : dq (d_bytes R) (d_end R) (d_told R) (d_lawTold R) (d_next R) (d_found R) (d_start R) (d_token R) (d_length R) (d_letters R) (d_number R) = R := rfl
end DTS
/-- a token's letters, its number, on both sides -/
def PW (L : Nat) (wl wm : Int64) : Prop := L ≤ 7 → ∃ ls : List Nat, ls.length = L ∧ Let ls ∧ wl = lN (nLo ls) ∧ wm = lN (nHi 0 ls)
def PV (L : Nat) (v vm : Int32) : Prop := L ≤ 7 → ∃ k, k < 10 ^ L ∧ v = nI k ∧ vm = nI k
def TokW (t : Nat) (L : Int32) (wl : Int64) (v Lm vm : Int32) (wm : Int64) : Prop := t ≤ 4 ∧ (t = 1 → ∃ ls : List Nat, 0 < ls.length ∧ ls.length ≤ 7 ∧ Let ls ∧ L = nI ls.length ∧ Lm = nI ls.length ∧ wl = lN (nLo ls) ∧ wm = lN (nHi 0 ls)) ∧ (t = 2 → ∃ k, k ≤ 9999999 ∧ v = nI k ∧ vm = nI k)
section TOK
variable {B : Fin 600 → Int32} {M : MS} {n : Nat} {Y : Nat → Nat}
theorem see_in (hl : m_length M = nI n) (hn : n ≤ 600) {z : Nat} (hz : z < n) (x f t L v : Int32) (w : Int64) (g ga o : Int32) (rd : Fin 82 → Int32) (rn : Fin 4 → Int64) : F_X5_seen (mr M x f t L v w g ga o rd rn) (nI z) = some (exI (m_tape M) z) := by
  unfold F_X5_seen
  rw [gm_length, hl, if_neg (by rw [nI_leI (by omega) (by omega)]; omega), gm_tape, rI _ (by omega) (by omega), bs]
theorem see_out (hl : m_length M = nI n) (x f t L v : Int32) (w : Int64) (g ga o : Int32) (rd : Fin 82 → Int32) (rn : Fin 4 → Int64) : F_X5_seen (mr M x f t L v w g ga o rd rn) (nI n) = some (-1) := by
  unfold F_X5_seen
  rw [gm_length, hl, if_pos (Int32.le_refl _)]
theorem blankW (hl : m_length M = nI n) (hn : n ≤ 600) (hB : ∀ k, k < n → BR (exI B k) (exI (m_tape M) k) (Y k)) : ∀ (d x fu fu2 : Nat), x + d = n → d < fu → d < fu2 → ∃ x', x ≤ x' ∧ x' ≤ n ∧
    (∀ k9 T lt fo s t L wl v, lo1 (B_X0_step_0 k9) fu (dq B (nI n) T lt (nI x) fo s t L wl v) = k9 (dq B (nI n) T lt (nI x') fo s t L wl v)) ∧
    (∀ k9 f t L v w g ga o rd rn, lo1 (B_X5_token_0 k9) fu2 (mr M (nI x) f t L v w g ga o rd rn) = k9 (mr M (nI x') f t L v w g ga o rd rn)) := by
  intro d
  induction d with
  | zero =>
    intro x fu fu2 hx hf hf2
    obtain ⟨fu, rfl⟩ : ∃ f, fu = f + 1 := ⟨fu - 1, by omega⟩
    obtain ⟨fu2, rfl⟩ : ∃ f, fu2 = f + 1 := ⟨fu2 - 1, by omega⟩
    have hx : x = n := by omega
    subst hx
    refine ⟨x, Nat.le_refl _, Nat.le_refl _, ?_, ?_⟩
    · intro k9 T lt fo s t L wl v
      refine (lo1_s _ _ _).trans ?_
      unfold B_X0_step_0
      rw [gd_end, gd_next, if_pos (Int32.le_refl _)]
    · intro k9 f t L v w g ga o rd rn
      refine (lo1_s _ _ _).trans ?_
      unfold B_X5_token_0
      rw [gm_next, see_out hl, bs, if_neg (by decide)]
  | succ d ih =>
    intro x fu fu2 hx hf hf2
    obtain ⟨fu, rfl⟩ : ∃ f, fu = f + 1 := ⟨fu - 1, by omega⟩
    obtain ⟨fu2, rfl⟩ : ∃ f, fu2 = f + 1 := ⟨fu2 - 1, by omega⟩
    have hb := hB x (by omega)
    have hle : ¬ nI n ≤ nI x := by
      rw [nI_leI (by omega) (by omega)]
      omega
    by_cases q : Y x = 32
    · obtain ⟨x', h1, h2, h3, h4⟩ := ih (x + 1) fu fu2 (by omega) (by omega) (by omega)
      refine ⟨x', by omega, h2, ?_, ?_⟩
      · intro k9 T lt fo s t L wl v
        refine (lo1_s _ _ _).trans (Eq.trans ?_ (h3 k9 T lt fo s t L wl v))
        unfold B_X0_step_0
        rw [gd_end, gd_next, if_neg hle, gd_bytes, rI _ (by omega) (by omega), bs, if_pos ((show exI B x = (32 : Int32) ↔ Y x = 32 from hb.eqc (a := 32) (by decide)).mpr q), nm_eq, nI_1, ud_next]
      · intro k9 f t L v w g ga o rd rn
        refine (lo1_s _ _ _).trans (Eq.trans ?_ (h4 k9 f t L v w g ga o rd rn))
        unfold B_X5_token_0
        rw [gm_next, see_in hl hn (by omega), bs, if_pos ((show exI (m_tape M) x = (32 : Int32) ↔ Y x = 32 from hb.eqm (a := 32) (by decide)).mpr q), nm_eq, nI_1, um_next]
    · refine ⟨x, Nat.le_refl _, by omega, ?_, ?_⟩
      · intro k9 T lt fo s t L wl v
        refine (lo1_s _ _ _).trans ?_
        unfold B_X0_step_0
        rw [gd_end, gd_next, if_neg hle, gd_bytes, rI _ (by omega) (by omega), bs, if_neg (fun e => q ((show exI B x = (32 : Int32) ↔ Y x = 32 from hb.eqc (a := 32) (by decide)).mp e))]
      · intro k9 f t L v w g ga o rd rn
        refine (lo1_s _ _ _).trans ?_
        unfold B_X5_token_0
        rw [gm_next, see_in hl hn (by omega), bs, if_neg (fun e => q ((show exI (m_tape M) x = (32 : Int32) ↔ Y x = 32 from hb.eqm (a := 32) (by decide)).mp e))]
theorem letW (hl : m_length M = nI n) (hn : n ≤ 600) (hB : ∀ k, k < n → BR (exI B k) (exI (m_tape M) k) (Y k)) : ∀ (d x L fu fu2 : Nat) (wl wm : Int64), x + d = n → d < fu → d < fu2 → L ≤ x → PW L wl wm → ∃ x' L' wl' wm', x ≤ x' ∧ x' ≤ n ∧ L' + x = L + x' ∧ PW L' wl' wm' ∧ (x < n → 97 ≤ Y x ∧ Y x ≤ 122 → x < x') ∧
    (∀ k9 T lt fo s t v, lo1 (B_X0_stepLetters_10 k9) fu (dq B (nI n) T lt (nI x) fo s t (nI L) wl v) = k9 (dq B (nI n) T lt (nI x') fo s t (nI L') wl' v)) ∧
    (∀ k9 f t v g ga o rd rn, lo1 (B_X5_token_73 k9) fu2 (mr M (nI x) f t (nI L) v wm g ga o rd rn) = k9 (mr M (nI x') f t (nI L') v wm' g ga o rd rn)) := by
  intro d
  induction d with
  | zero =>
    intro x L fu fu2 wl wm hx hf hf2 hL hP
    obtain ⟨fu, rfl⟩ : ∃ f, fu = f + 1 := ⟨fu - 1, by omega⟩
    obtain ⟨fu2, rfl⟩ : ∃ f, fu2 = f + 1 := ⟨fu2 - 1, by omega⟩
    have hx : x = n := by omega
    subst hx
    refine ⟨x, L, wl, wm, Nat.le_refl _, Nat.le_refl _, rfl, hP, fun h => absurd h (Nat.lt_irrefl _), ?_, ?_⟩
    · intro k9 T lt fo s t v
      refine (lo1_s _ _ _).trans ?_
      unfold B_X0_stepLetters_10
      rw [gd_end, gd_next, if_pos (Int32.le_refl _)]
    · intro k9 f t v g ga o rd rn
      refine (lo1_s _ _ _).trans ?_
      unfold B_X5_token_73
      rw [gm_next, see_out hl, bs, show F_X5_isLetter (-1) = some 0 from rfl, bs, if_pos rfl]
  | succ d ih =>
    intro x L fu fu2 wl wm hx hf hf2 hL hP
    obtain ⟨fu, rfl⟩ : ∃ f, fu = f + 1 := ⟨fu - 1, by omega⟩
    obtain ⟨fu2, rfl⟩ : ∃ f, fu2 = f + 1 := ⟨fu2 - 1, by omega⟩
    have hb := hB x (by omega)
    have hle : ¬ nI n ≤ nI x := by
      rw [nI_leI (by omega) (by omega)]
      omega
    by_cases q : 97 ≤ Y x ∧ Y x ≤ 122
    · have hc := hb.letC
      have hm := hb.letM
      rw [if_pos q] at hc hm
      by_cases h7 : 7 ≤ L
      · have h7c : (7 : Int32) ≤ nI L := (nI_leI (a := 7) (by omega) (by omega)).mpr h7
        obtain ⟨x', L', wl', wm', h1, h2, h3, h4, -, h6, h8⟩ := ih (x + 1) (L + 1) fu fu2 wl 0 (by omega) (by omega) (by omega) (by omega) (fun q => by omega)
        refine ⟨x', L', wl', wm', by omega, h2, by omega, h4, fun _ _ => by omega, ?_, ?_⟩
        · intro k9 T lt fo s t v
          refine (lo1_s _ _ _).trans (Eq.trans ?_ (h6 k9 T lt fo s t v))
          unfold B_X0_stepLetters_10 J_X0_stepLetters_76
          rw [gd_end, gd_next, if_neg hle, gd_bytes, rI _ (by omega) (by omega), bs, hc, bs, if_neg n10, gd_length, if_pos h7c, nm_eq, nI_1, ud_length, nm_eq, gd_next, nI_1, ud_next]
        · intro k9 f t v g ga o rd rn
          refine (lo1_s _ _ _).trans (Eq.trans ?_ (h8 k9 f t v g ga o rd rn))
          unfold B_X5_token_73 J_X5_token_123
          rw [gm_next, see_in hl hn (by omega), bs, hm, bs, if_neg n10, gm_many, if_pos h7c, nm_eq, um_word, nm_eq, gm_next, nI_1, um_next, nm_eq, gm_many, nI_1, um_many]
      · have h7c : ¬ (7 : Int32) ≤ nI L := by
          rw [show (7 : Int32) = nI 7 from rfl, nI_leI (by omega) (by omega)]
          exact h7
        obtain ⟨ls, e1, e2, rfl, rfl⟩ := hP (by omega)
        subst e1
        obtain ⟨x', L', wl', wm', h1, h2, h3, h4, -, h6, h8⟩ := ih (x + 1) (ls.length + 1) fu fu2 (lN (nLo (ls ++ [Y x - 96]))) (lN (nHi 0 (ls ++ [Y x - 96]))) (by omega) (by omega) (by omega) (by omega) (fun _ => ⟨ls ++ [Y x - 96], by rw [List.length_append]; rfl, e2.snoc (by omega) (by omega), rfl, rfl⟩)
        have hlo := lo_more e2 (by omega) (l := Y x - 96) (by omega)
        have hhi := hi_more ls (l := Y x - 96) (by omega)
        rw [show Y x - 96 + 96 = Y x by omega] at hhi
        have hbv : exI B x = nI (Y x) := hb.2.2.1 (by omega)
        have hv : (nI (Y x) - (97 : Int32) + (1 : Int32)).toInt64 = lN (Y x - 96) := by
          rw [show (97 : Int32) = nI 97 from rfl, nI_subI (by omega), nI_1, nI_l (by omega)]
          exact congrArg lN (by omega)
        refine ⟨x', L', wl', wm', by omega, h2, by omega, h4, fun _ _ => by omega, ?_, ?_⟩
        · intro k9 T lt fo s t v
          refine (lo1_s _ _ _).trans (Eq.trans ?_ (h6 k9 T lt fo s t v))
          unfold B_X0_stepLetters_10 J_X0_stepLetters_76
          rw [gd_end, gd_next, if_neg hle, gd_bytes, rI _ (by omega) (by omega), bs, hc, bs, if_neg n10, gd_length, if_neg h7c, bs, nm_eq, gd_letters, hbv, hv, hlo, ud_letters, nm_eq, gd_length, nI_1, ud_length, nm_eq, gd_next, nI_1, ud_next]
        · intro k9 f t v g ga o rd rn
          refine (lo1_s _ _ _).trans (Eq.trans ?_ (h8 k9 f t v g ga o rd rn))
          unfold B_X5_token_73 J_X5_token_123
          rw [gm_next, see_in hl hn (by omega), bs, hm, bs, if_neg n10, gm_many, if_neg h7c, bs, nm_eq, gm_word, hb.2.1, hhi, um_word, nm_eq, gm_next, nI_1, um_next, nm_eq, gm_many, nI_1, um_many]
    · have hc := hb.letC
      have hm := hb.letM
      rw [if_neg q] at hc hm
      refine ⟨x, L, wl, wm, Nat.le_refl _, by omega, rfl, hP, fun _ h => absurd h q, ?_, ?_⟩
      · intro k9 T lt fo s t v
        refine (lo1_s _ _ _).trans ?_
        unfold B_X0_stepLetters_10
        rw [gd_end, gd_next, if_neg hle, gd_bytes, rI _ (by omega) (by omega), bs, hc, bs, if_pos rfl]
      · intro k9 f t v g ga o rd rn
        refine (lo1_s _ _ _).trans ?_
        unfold B_X5_token_73
        rw [gm_next, see_in hl hn (by omega), bs, hm, bs, if_pos rfl]
theorem digW (hl : m_length M = nI n) (hn : n ≤ 600) (hB : ∀ k, k < n → BR (exI B k) (exI (m_tape M) k) (Y k)) : ∀ (d x L fu fu2 : Nat) (v vm : Int32), x + d = n → d < fu → d < fu2 → L ≤ x → PV L v vm → ∃ x' L' v' vm', x ≤ x' ∧ x' ≤ n ∧ L' + x = L + x' ∧ PV L' v' vm' ∧ (x < n → 48 ≤ Y x ∧ Y x ≤ 57 → x < x') ∧
    (∀ k9 T lt fo s t wl, lo1 (B_X0_stepDigits_10 k9) fu (dq B (nI n) T lt (nI x) fo s t (nI L) wl v) = k9 (dq B (nI n) T lt (nI x') fo s t (nI L') wl v')) ∧
    (∀ k9 f t w g ga o rd rn, lo1 (B_X5_token_182 k9) fu2 (mr M (nI x) f t (nI L) vm w g ga o rd rn) = k9 (mr M (nI x') f t (nI L') vm' w g ga o rd rn)) := by
  intro d
  induction d with
  | zero =>
    intro x L fu fu2 v vm hx hf hf2 hL hP
    obtain ⟨fu, rfl⟩ : ∃ f, fu = f + 1 := ⟨fu - 1, by omega⟩
    obtain ⟨fu2, rfl⟩ : ∃ f, fu2 = f + 1 := ⟨fu2 - 1, by omega⟩
    have hx : x = n := by omega
    subst hx
    refine ⟨x, L, v, vm, Nat.le_refl _, Nat.le_refl _, rfl, hP, fun h => absurd h (Nat.lt_irrefl _), ?_, ?_⟩
    · intro k9 T lt fo s t wl
      refine (lo1_s _ _ _).trans ?_
      unfold B_X0_stepDigits_10
      rw [gd_end, gd_next, if_pos (Int32.le_refl _)]
    · intro k9 f t w g ga o rd rn
      refine (lo1_s _ _ _).trans ?_
      unfold B_X5_token_182
      rw [gm_next, see_out hl, bs, show F_X5_isDigit (-1) = some 0 from rfl, bs, if_pos rfl]
  | succ d ih =>
    intro x L fu fu2 v vm hx hf hf2 hL hP
    obtain ⟨fu, rfl⟩ : ∃ f, fu = f + 1 := ⟨fu - 1, by omega⟩
    obtain ⟨fu2, rfl⟩ : ∃ f, fu2 = f + 1 := ⟨fu2 - 1, by omega⟩
    have hb := hB x (by omega)
    have hle : ¬ nI n ≤ nI x := by
      rw [nI_leI (by omega) (by omega)]
      omega
    by_cases q : 48 ≤ Y x ∧ Y x ≤ 57
    · have hc := hb.digC
      have hm := hb.digM
      rw [if_pos q] at hc hm
      by_cases h7 : 7 ≤ L
      · have h7c : (7 : Int32) ≤ nI L := (nI_leI (a := 7) (by omega) (by omega)).mpr h7
        obtain ⟨x', L', v', vm', h1, h2, h3, h4, -, h6, h8⟩ := ih (x + 1) (L + 1) fu fu2 v 0 (by omega) (by omega) (by omega) (by omega) (fun q => by omega)
        refine ⟨x', L', v', vm', by omega, h2, by omega, h4, fun _ _ => by omega, ?_, ?_⟩
        · intro k9 T lt fo s t wl
          refine (lo1_s _ _ _).trans (Eq.trans ?_ (h6 k9 T lt fo s t wl))
          unfold B_X0_stepDigits_10 J_X0_stepDigits_69
          rw [gd_end, gd_next, if_neg hle, gd_bytes, rI _ (by omega) (by omega), bs, hc, bs, if_neg n10, gd_length, if_pos h7c, nm_eq, nI_1, ud_length, nm_eq, gd_next, nI_1, ud_next]
        · intro k9 f t w g ga o rd rn
          refine (lo1_s _ _ _).trans (Eq.trans ?_ (h8 k9 f t w g ga o rd rn))
          unfold B_X5_token_182 J_X5_token_229
          rw [gm_next, see_in hl hn (by omega), bs, hm, bs, if_neg n10, gm_many, if_pos h7c, nm_eq, um_number, nm_eq, gm_next, nI_1, um_next, nm_eq, gm_many, nI_1, um_many]
      · have h7c : ¬ (7 : Int32) ≤ nI L := by
          rw [show (7 : Int32) = nI 7 from rfl, nI_leI (by omega) (by omega)]
          exact h7
        obtain ⟨k, e1, rfl, rfl⟩ := hP (by omega)
        have hp : 10 ^ L ≤ 1000000 := Nat.pow_le_pow_right (n := 10) (j := 6) (by decide) (by omega)
        have e3 : 10 * k + Y x - 48 < 10 ^ (L + 1) := by
          rw [Nat.pow_succ]
          omega
        obtain ⟨x', L', v', vm', h1, h2, h3, h4, -, h6, h8⟩ := ih (x + 1) (L + 1) fu fu2 (nI (10 * k + Y x - 48)) (nI (10 * k + Y x - 48)) (by omega) (by omega) (by omega) (by omega) (fun _ => ⟨_, e3, rfl, rfl⟩)
        have hbv : exI B x = nI (Y x) := hb.2.2.1 (by omega)
        have hv : nI k * (10 : Int32) + nI (Y x) - (48 : Int32) = nI (10 * k + Y x - 48) := by
          rw [show (10 : Int32) = nI 10 from rfl, pk_mul, nI_add, show (48 : Int32) = nI 48 from rfl, nI_subI (by omega)]
          exact congrArg nI (by omega)
        have hv2 : (10 : Int32) * nI k + nI (Y x) - (48 : Int32) = nI (10 * k + Y x - 48) := by
          rw [show (10 : Int32) = nI 10 from rfl, pk_mul, nI_add, show (48 : Int32) = nI 48 from rfl, nI_subI (by omega)]
        refine ⟨x', L', v', vm', by omega, h2, by omega, h4, fun _ _ => by omega, ?_, ?_⟩
        · intro k9 T lt fo s t wl
          refine (lo1_s _ _ _).trans (Eq.trans ?_ (h6 k9 T lt fo s t wl))
          unfold B_X0_stepDigits_10 J_X0_stepDigits_69
          rw [gd_end, gd_next, if_neg hle, gd_bytes, rI _ (by omega) (by omega), bs, hc, bs, if_neg n10, gd_length, if_neg h7c, bs, nm_eq, gd_number, hbv, hv, ud_number, nm_eq, gd_length, nI_1, ud_length, nm_eq, gd_next, nI_1, ud_next]
        · intro k9 f t w g ga o rd rn
          refine (lo1_s _ _ _).trans (Eq.trans ?_ (h8 k9 f t w g ga o rd rn))
          unfold B_X5_token_182 J_X5_token_229
          rw [gm_next, see_in hl hn (by omega), bs, hm, bs, if_neg n10, gm_many, if_neg h7c, bs, nm_eq, gm_number, hb.2.1, hv2, um_number, nm_eq, gm_next, nI_1, um_next, nm_eq, gm_many, nI_1, um_many]
    · have hc := hb.digC
      have hm := hb.digM
      rw [if_neg q] at hc hm
      refine ⟨x, L, v, vm, Nat.le_refl _, by omega, rfl, hP, fun _ h => absurd h q, ?_, ?_⟩
      · intro k9 T lt fo s t wl
        refine (lo1_s _ _ _).trans ?_
        unfold B_X0_stepDigits_10
        rw [gd_end, gd_next, if_neg hle, gd_bytes, rI _ (by omega) (by omega), bs, hc, bs, if_pos rfl]
      · intro k9 f t w g ga o rd rn
        refine (lo1_s _ _ _).trans ?_
        unfold B_X5_token_182
        rw [gm_next, see_in hl hn (by omega), bs, hm, bs, if_pos rfl]
theorem tok_step (hl : m_length M = nI n) (hn : n ≤ 600) (hB : ∀ k, k < n → BR (exI B k) (exI (m_tape M) k) (Y k)) {x : Nat} (hx : x ≤ n) (s0 t0 L0 : Int32) (wl0 : Int64) (v0 f1 t1 L1 v1 : Int32) (w1 : Int64) : ∃ x' s t L wl v Lm vm wm, x ≤ x' ∧ x' ≤ n ∧ s ≤ n ∧ (t ≠ 0 → x < x') ∧ TokW t L wl v Lm vm wm ∧
    (∀ T lt fo, F_X0_step (dq B (nI n) T lt (nI x) fo s0 t0 L0 wl0 v0) = some (dq B (nI n) T lt (nI x') fo (nI s) (nI t) L wl v)) ∧
    (∀ g ga o rd rn, F_X5_token (mr M (nI x) f1 t1 L1 v1 w1 g ga o rd rn) = some (mr M (nI x') (nI s) (nI t) Lm vm wm g ga o rd rn)) := by
  obtain ⟨z, z1, z2, hC, hM⟩ := blankW hl hn hB (n - x) x FU FU (by omega) (by rw [FU_eq]; omega) (by rw [FU_eq]; omega)
  by_cases hz : z = n
  · refine ⟨z, z, 0, L0, wl0, v0, 0, v1, w1, z1, z2, z2, fun h => absurd rfl h, ⟨by omega, fun h => by omega, fun h => by omega⟩, ?_, ?_⟩
    · intro T lt fo
      unfold F_X0_step
      rw [hC]
      unfold J_X0_step_38
      rw [nm_eq, gd_next, ud_start, gd_next, gd_end, if_neg (by rw [hz]; exact Int32.lt_irrefl), nm_eq, ud_token]
      rfl
    · intro g ga o rd rn
      unfold F_X5_token
      rw [hM, nm_eq, gm_next, um_from, nm_eq, um_many, gm_next, hz, see_out hl, bs, if_pos rfl, nm_eq, um_sort]
      rfl
  · have hb := hB z (by omega)
    have hlt : nI z < nI n := (nI_ltI (by omega) (by omega)).mpr (by omega)
    have hm1 : ¬ exI (m_tape M) z = -1 := by
      rw [hb.2.1]
      intro e
      have h1 := hb.1
      have h2 := congrArg Int32.toInt e
      rw [nI_toInt (by omega)] at h2
      have h3 : (-1 : Int32).toInt = -1 := by decide
      omega
    have hlc := hb.letC
    have hlm := hb.letM
    by_cases ql : 97 ≤ Y z ∧ Y z ≤ 122
    · rw [if_pos ql] at hlc hlm
      obtain ⟨x', L', wl', wm', h1, h2, h3, h4, h5, h6, h8⟩ := letW hl hn hB (n - z) z 0 FU FU 0 0 (by omega) (by rw [FU_eq]; omega) (by rw [FU_eq]; omega) (by omega) (fun _ => ⟨[], rfl, fun l hl => absurd hl List.not_mem_nil, rfl, rfl⟩)
      have h5' := h5 (by omega) ql
      refine ⟨x', z, if L' ≤ 7 then 1 else 4, nI L', wl', v0, nI L', v1, wm', by omega, h2, z2, fun _ => by omega, ⟨by split <;> omega, fun ht => ?_, fun ht => ?_⟩, ?_, ?_⟩
      · by_cases q7 : L' ≤ 7
        · obtain ⟨ls, e1, e2, e3, e4⟩ := h4 q7
          exact ⟨ls, by omega, by omega, e2, by rw [e1], by rw [e1], e3, e4⟩
        · rw [if_neg q7] at ht
          omega
      · split at ht <;> omega
      · intro T lt fo
        unfold F_X0_step
        rw [hC]
        unfold J_X0_step_38
        rw [nm_eq, gd_next, ud_start, gd_next, gd_end, if_pos hlt, gd_bytes, rI _ (by omega) (by omega), bs, hlc, bs, if_neg n10]
        unfold F_X0_stepLetters
        rw [nm_eq, ud_letters, nm_eq, ud_length, show (0 : Int32) = nI 0 from rfl, h6]
        unfold J_X0_stepLetters_99 J_X0_stepLetters_114
        rw [gd_length, show (7 : Int32) = nI 7 from rfl]
        by_cases q7 : L' ≤ 7
        · rw [if_neg (by rw [nI_ltI (by omega) (by omega)]; omega), if_pos q7, nm_eq, ud_token, bs]
          rfl
        · rw [if_pos (by rw [nI_ltI (by omega) (by omega)]; omega), if_neg q7, nm_eq, ud_token, bs]
          rfl
      · intro g ga o rd rn
        unfold F_X5_token
        rw [hM, nm_eq, gm_next, um_from, nm_eq, um_many, gm_next, see_in hl hn (by omega), bs, if_neg hm1, hlm, bs, if_neg n10, nm_eq, um_word, show (0 : Int32) = nI 0 from rfl, h8]
        unfold J_X5_token_164
        rw [gm_many, show (7 : Int32) = nI 7 from rfl]
        by_cases q7 : L' ≤ 7
        · rw [if_pos (by rw [nI_leI (by omega) (by omega)]; omega), if_pos q7, nm_eq, um_sort]
          rfl
        · rw [if_neg (by rw [nI_leI (by omega) (by omega)]; omega), if_neg q7, nm_eq, um_sort]
          rfl
    · rw [if_neg ql] at hlc hlm
      have hdc := hb.digC
      have hdm := hb.digM
      by_cases qd : 48 ≤ Y z ∧ Y z ≤ 57
      · rw [if_pos qd] at hdc hdm
        obtain ⟨x', L', v', vm', h1, h2, h3, h4, h5, h6, h8⟩ := digW hl hn hB (n - z) z 0 FU FU 0 0 (by omega) (by rw [FU_eq]; omega) (by rw [FU_eq]; omega) (by omega) (fun _ => ⟨0, by decide, rfl, rfl⟩)
        have h5' := h5 (by omega) qd
        refine ⟨x', z, if L' ≤ 7 then 2 else 4, nI L', wl0, v', nI L', vm', w1, by omega, h2, z2, fun _ => by omega, ⟨by split <;> omega, fun ht => ?_, fun ht => ?_⟩, ?_, ?_⟩
        · split at ht <;> omega
        · by_cases q7 : L' ≤ 7
          · obtain ⟨k, e1, e2, e3⟩ := h4 q7
            have hp : 10 ^ L' ≤ 10000000 := Nat.pow_le_pow_right (n := 10) (j := 7) (by decide) (by omega)
            exact ⟨k, by omega, e2, e3⟩
          · rw [if_neg q7] at ht
            omega
        · intro T lt fo
          unfold F_X0_step
          rw [hC]
          unfold J_X0_step_38
          rw [nm_eq, gd_next, ud_start, gd_next, gd_end, if_pos hlt, gd_bytes, rI _ (by omega) (by omega), bs, hlc, bs, if_pos rfl, bs, hdc, bs, if_neg n10]
          unfold F_X0_stepDigits
          rw [nm_eq, ud_number, nm_eq, ud_length]
          refine (congrArg (fun q => Option.bind q (fun q12 => some q12)) (h6 _ T lt fo (nI z) t0 wl0)).trans ?_
          unfold J_X0_stepDigits_92 J_X0_stepDigits_107
          rw [gd_length, show (7 : Int32) = nI 7 from rfl]
          by_cases q7 : L' ≤ 7
          · rw [if_neg (by rw [nI_ltI (by omega) (by omega)]; omega), if_pos q7, nm_eq, ud_token, bs]
            rfl
          · rw [if_pos (by rw [nI_ltI (by omega) (by omega)]; omega), if_neg q7, nm_eq, ud_token, bs]
            rfl
        · intro g ga o rd rn
          unfold F_X5_token
          rw [hM, nm_eq, gm_next, um_from, nm_eq, um_many, gm_next, see_in hl hn (by omega), bs, if_neg hm1, hlm, bs, if_pos rfl, hdm, bs, if_neg n10, nm_eq, um_number]
          refine (h8 _ (nI z) t1 w1 g ga o rd rn).trans ?_
          unfold J_X5_token_270
          rw [gm_many, show (7 : Int32) = nI 7 from rfl]
          by_cases q7 : L' ≤ 7
          · rw [if_pos (by rw [nI_leI (by omega) (by omega)]; omega), if_pos q7, nm_eq, um_sort]
            rfl
          · rw [if_neg (by rw [nI_leI (by omega) (by omega)]; omega), if_neg q7, nm_eq, um_sort]
            rfl
      · rw [if_neg qd] at hdc hdm
        refine ⟨z + 1, z, if Y z = 59 then 3 else 4, L0, wl0, v0, 0, v1, w1, by omega, by omega, z2, fun _ => by omega, ⟨by split <;> omega, fun ht => ?_, fun ht => ?_⟩, ?_, ?_⟩
        · split at ht <;> omega
        · split at ht <;> omega
        · intro T lt fo
          unfold F_X0_step
          rw [hC]
          unfold J_X0_step_38 J_X0_step_129
          rw [nm_eq, gd_next, ud_start, gd_next, gd_end, if_pos hlt, gd_bytes, rI _ (by omega) (by omega), bs, hlc, bs, if_pos rfl, bs, hdc, bs, if_pos rfl, bs]
          by_cases q : Y z = 59
          · rw [if_pos ((show exI B z = (59 : Int32) ↔ Y z = 59 from hb.eqc (a := 59) (by decide)).mpr q), if_pos q, nm_eq, ud_token, nm_eq, gd_next, nI_1, ud_next]
            rfl
          · rw [if_neg (fun e => q ((show exI B z = (59 : Int32) ↔ Y z = 59 from hb.eqc (a := 59) (by decide)).mp e)), if_neg q, nm_eq, ud_token, nm_eq, gd_next, nI_1, ud_next]
            rfl
        · intro g ga o rd rn
          unfold F_X5_token J_X5_token_288
          rw [hM, nm_eq, gm_next, um_from, nm_eq, um_many, gm_next, see_in hl hn (by omega), bs, if_neg hm1, hlm, bs, if_pos rfl, hdm, bs, if_pos rfl]
          by_cases q : Y z = 59
          · rw [if_pos ((show exI (m_tape M) z = (59 : Int32) ↔ Y z = 59 from hb.eqm (a := 59) (by decide)).mpr q), if_pos q, nm_eq, um_sort, nm_eq, gm_next, nI_1, um_next]
            rfl
          · rw [if_neg (fun e => q ((show exI (m_tape M) z = (59 : Int32) ↔ Y z = 59 from hb.eqm (a := 59) (by decide)).mp e)), if_neg q, nm_eq, um_sort, nm_eq, gm_next, nI_1, um_next]
            rfl
end TOK
