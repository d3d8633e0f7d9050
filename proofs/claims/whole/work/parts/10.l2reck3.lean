/-! ===== level 2: what the class's ships pay ===== -/
theorem loopX {σ β : Type} (L : Nat → Nat → σ → Option β) (R : Option β) (N : Nat) (I : Nat → σ → Prop)
    (h1 : ∀ fu i s, i < N → I i s → L (fu + 1) i s = R ∨ ∃ s', I (i + 1) s' ∧ L (fu + 1) i s = L fu (i + 1) s')
    (h3 : ∀ fu s, I N s → L (fu + 1) N s = R) : ∀ d fu i s, i + d = N → d < fu → I i s → L fu i s = R := by
  intro d
  induction d with
  | zero =>
    intro fu i s hi hf hI
    obtain ⟨fu, rfl⟩ : ∃ f, fu = f + 1 := ⟨fu - 1, by omega⟩
    have hi : i = N := by omega
    subst hi
    exact h3 fu s hI
  | succ d ih =>
    intro fu i s hi hf hI
    obtain ⟨fu, rfl⟩ : ∃ f, fu = f + 1 := ⟨fu - 1, by omega⟩
    rcases h1 fu i s (by omega) hI with e | ⟨s', h', e⟩
    · exact e
    · exact e.trans (ih fu (i + 1) s' (by omega) (by omega) h')
def tkP (N K : Nat) (c : Nat → Nat) (which rd p : Nat) : Prop := (p < 4 ∧ p < N ∧ which = 5 ∧ rd = 0) ∨ (4 ≤ p ∧ p - 4 < K ∧ rN c (p - 4) = rd ∧ (which = 5 ∨ c (34 + 4 * (p - 4)) = 1))
theorem tkP_dec (N K : Nat) (c : Nat → Nat) (which rd p : Nat) : tkP N K c which rd p ∨ ¬ tkP N K c which rd p := Classical.em _
def addRow (i : Nat) (v P : Nat → Nat) : Nat → Nat := fun z => if z / 16 = i then P z + v (z % 16) else P z
section CR3
variable {T : TS} {N K : Nat} {c : Nat → Nat} {wt : Fin 4 → Int32} {bk : Fin 16 → Int64} {ow : Fin 64 → Int64}
theorem C_takesPart (hR : RowT T N K c) (hO : OKc N K c) {which rd p : Nat} (hw : which = 5 ∨ which = 6) (hrd : rd < 2) (hp : p < 16) (ow pd : Fin 64 → Int64) (lk : Fin 16 → Int64) (ws : Int32) : ∃ b : Int32, F_X1_takesPart (rk T wt bk ow pd lk ws) (nI p) (nI which) (nI rd) = some b ∧ (b = 0 ↔ ¬ tkP N K c which rd p) := by
  have hN := hO.1
  unfold F_X1_takesPart tkP
  rw [show (4 : Int32) = nI 4 from rfl, show (5 : Int32) = nI 5 from rfl]
  by_cases h4 : 4 ≤ p
  · rw [if_pos ((nI_leI (by omega) (by omega)).mpr h4), nm_eq, pk_sub h4, rk_t, hR.2.1]
    by_cases hk : K ≤ p - 4
    · rw [if_pos ((nI_leI (by omega) (by omega)).mpr hk)]
      exact ⟨0, rfl, fun _ => by omega, fun _ => rfl⟩
    · have hk' : p - 4 < K := by omega
      have e0 : F_X2_ofClaim T (nI (p - 4)) 0 = some (nI (c (34 + 4 * (p - 4)))) := C_cl hR hO hk' (w := 0) (by decide) (by decide)
      have hc := hO.2.2.2.2 (p - 4) hk'
      rw [if_neg (fun q => hk ((nI_leI (by omega) (by omega)).mp q)), C_roundOf hR hO hk', bs]
      by_cases hr : rN c (p - 4) = rd
      · rw [if_pos ((rdC_eq c (p - 4) hrd).mpr hr)]
        by_cases hw5 : which = 5
        · rw [if_pos (by rw [hw5])]
          exact ⟨1, rfl, fun q => absurd q (by decide), fun q => absurd (Or.inr ⟨h4, hk', hr, Or.inl hw5⟩) q⟩
        · rw [if_neg (fun q => hw5 ((nI_eq (by omega) (by omega)).mp q)), e0, bs]
          by_cases h1 : c (34 + 4 * (p - 4)) = 1
          · rw [if_pos (by rw [h1]; rfl)]
            exact ⟨1, rfl, fun q => absurd q (by decide), fun q => absurd (Or.inr ⟨h4, hk', hr, Or.inr h1⟩) q⟩
          · rw [if_neg (nI_n1 h1 (by omega))]
            exact ⟨0, rfl, fun _ => by omega, fun _ => rfl⟩
      · rw [if_neg (fun q => hr ((rdC_eq c (p - 4) hrd).mp q))]
        exact ⟨0, rfl, fun _ => by omega, fun _ => rfl⟩
  · rw [if_neg (fun q => h4 ((nI_leI (by omega) (by omega)).mp q)), rk_t, hR.1]
    by_cases hn : N ≤ p
    · rw [if_pos ((nI_leI (by omega) (by omega)).mpr hn)]
      exact ⟨0, rfl, fun _ => by omega, fun _ => rfl⟩
    · rw [if_neg (fun q => hn ((nI_leI (by omega) (by omega)).mp q))]
      by_cases hw5 : which = 5
      · rw [if_pos (by rw [hw5])]
        by_cases h0 : rd = 0
        · rw [if_pos (by rw [h0]; rfl)]
          exact ⟨1, rfl, fun q => absurd q (by decide), fun q => absurd (Or.inl ⟨by omega, by omega, hw5, h0⟩) q⟩
        · rw [if_neg (nI_ne0 (by omega) (by omega))]
          exact ⟨0, rfl, fun _ => by omega, fun _ => rfl⟩
      · rw [if_neg (fun q => hw5 ((nI_eq (by omega) (by omega)).mp q))]
        exact ⟨0, rfl, fun _ => by omega, fun _ => rfl⟩
/-- what is lacked: given by a function that fits -/
theorem C_findLacks (hR : RowT T N K c) (hO : OKc N K c) {which rd i : Nat} (hw : which = 5 ∨ which = 6) (hrd : rd < 2) (hi : i < N) (O P l : Nat → Nat) (hl : ∀ q, q < 16 → (tkP N K c which rd q → P (16 * i + q) ≤ O (16 * i + q) ∧ l q = O (16 * i + q) - P (16 * i + q)) ∧ (¬ tkP N K c which rd q → l q = 0)) (lk : Fin 16 → Int64) (ws : Int32) :
    F_X1_findLacks (rk T wt bk (aL O) (aL P) lk ws) (nI i) (nI which) (nI rd) = some (lN (sN l 16), rk T wt bk (aL O) (aL P) (aL l) ws) := by
  have hN := hO.1
  unfold F_X1_findLacks
  refine loopR (fun fu q (s : Fin 16 → Int64) => lo3 (B_X1_findLacks_6 (nI i) (nI which) (nI rd) (fun S11 z12 => some (z12, S11))) fu (rk T wt bk (aL O) (aL P) s ws) (lN (sN l q)) (nI q)) _ 16 (fun n s => ∀ q, q < n → exL s q = lN (l q)) ?_ ?_ 16 FU 0 lk (by omega) (by rw [FU_eq]; omega) (fun q hq => absurd hq (Nat.not_lt_zero q))
  · intro fu q s hq hI
    have hJ : ∀ k9 rc S x, J_X1_findLacks_76 k9 rc S (nI i) (nI which) (nI rd) x (nI q) = rc S x (nI (q + 1)) := by
      intro k9 rc S x
      unfold J_X1_findLacks_76
      rw [nm_eq, nI_1]
    have key : ∀ k9 rc, ∃ s2, (∀ z, z < q + 1 → exL s2 z = lN (l z)) ∧ B_X1_findLacks_6 (nI i) (nI which) (nI rd) k9 rc (rk T wt bk (aL O) (aL P) s ws) (lN (sN l q)) (nI q) = rc (rk T wt bk (aL O) (aL P) s2 ws) (lN (sN l (q + 1))) (nI (q + 1)) := by
      intro k9 rc
      unfold B_X1_findLacks_6
      rw [if_neg (le16 hq), rk_l, wL s hq (by omega), bs, nm_eq, rk_sl]
      obtain ⟨b, e, hb⟩ := C_takesPart (wt := wt) (bk := bk) hR hO hw hrd hq (aL O) (aL P) (upL s q 0) ws
      rw [e, bs]
      by_cases ht : tkP N K c which rd q
      · obtain ⟨hle, hv⟩ := (hl q hq).1 ht
        refine ⟨upL (upL s q 0) q (lN (l q)), fun z hz => ?_, ?_⟩
        · rw [exL_up _ hq, exL_up _ hq]
          by_cases h : z = q
          · rw [if_pos h, h]
          · rw [if_neg h, if_neg h]
            exact hI z (by omega)
        · rw [if_neg (fun q9 => hb.mp q9 ht), rk_o, rk_p, show (16 : Int32) = nI 16 from rfl, pk_mul, nI_add, show i * 16 + q = 16 * i + q by omega, rL_a O (by omega) (by omega), bs, rL_a P (by omega) (by omega), bs, lN_sub hle, ← hv, rk_l, wL _ hq (by omega), bs, nm_eq, rk_sl, rk_l, rL _ hq (by omega), exL_up _ hq, if_pos rfl, bs, nm_eq, lN_add, hJ, sN_s]
      · have hv := (hl q hq).2 ht
        refine ⟨upL s q 0, fun z hz => ?_, ?_⟩
        · rw [exL_up _ hq]
          by_cases h : z = q
          · rw [if_pos h, h, hv]
            rfl
          · rw [if_neg h]
            exact hI z (by omega)
        · have e0 : sN l (q + 1) = sN l q := by rw [sN_s, hv, Nat.add_zero]
          rw [if_pos (hb.mpr ht), hJ, e0]
    obtain ⟨s2, h2, e⟩ := key (fun S11 z12 => some (z12, S11)) (lo3 (B_X1_findLacks_6 (nI i) (nI which) (nI rd) (fun S11 z12 => some (z12, S11))) fu)
    exact ⟨s2, h2, (lo3_s _ _ _ _ _).trans e⟩
  · intro fu s hI
    have key : ∀ k9 rc, B_X1_findLacks_6 (nI i) (nI which) (nI rd) k9 rc (rk T wt bk (aL O) (aL P) s ws) (lN (sN l 16)) (nI 16) = k9 (rk T wt bk (aL O) (aL P) s ws) (lN (sN l 16)) := by
      intro k9 rc
      unfold B_X1_findLacks_6
      rw [if_pos (by decide)]
    refine ((lo3_s _ _ _ _ _).trans (key _ _)).trans ?_
    rw [show s = aL l from ext_L fun k hk => by rw [hI k hk, exL_aL _ hk]]
theorem cg2 {α β γ : Type} (g : α → β → γ) {a b : α} {c d : β} (h : a = b) (k : c = d) : g a c = g b d := by
  cases h
  cases k
  rfl
def lkN (l : Nat → Nat) (n : Nat) : Nat → Nat := fun q => if q < n then l q else 0
theorem C_payLacks {i : Nat} (hi : i < 4) (O P l : Nat → Nat) (ws : Int32) : F_X1_payLacks (rk T wt bk (aL O) (aL P) (aL l) ws) (nI i) = some (rk T wt bk (aL O) (aL (addRow i l P)) (aL l) ws) := by
  unfold F_X1_payLacks
  rw [show (aL P : Fin 64 → Int64) = aL (addRow i (lkN l 0) P) from aL_eq (fun z _ => by
    unfold addRow lkN
    split
    · rfl
    · rfl)]
  refine loopR (fun fu q (_ : Unit) => lo2 (B_X1_payLacks_2 (nI i) (fun S7 => some S7)) fu (rk T wt bk (aL O) (aL (addRow i (lkN l q) P)) (aL l) ws) (nI q)) _ 16 (fun _ _ => True) ?_ ?_ 16 FU 0 () (by omega) (by rw [FU_eq]; omega) trivial
  · intro fu q _ hq _
    have key : ∀ k9 rc, B_X1_payLacks_2 (nI i) k9 rc (rk T wt bk (aL O) (aL (addRow i (lkN l q) P)) (aL l) ws) (nI q) = rc (rk T wt bk (aL O) (aL (addRow i (lkN l (q + 1)) P)) (aL l) ws) (nI (q + 1)) := by
      intro k9 rc
      unfold B_X1_payLacks_2
      rw [if_neg (le16 hq), nm_eq, show (16 : Int32) = nI 16 from rfl, pk_mul, nI_add, rk_p, rL_a _ (by omega) (by omega), bs, rk_l, rL_a l hq (by omega), bs, lN_add, wL_a _ (by omega) (by omega), bs, nm_eq, rk_sp, nm_eq, nI_1]
      refine congrArg (fun z => rc (rk T wt bk (aL O) z (aL l) ws) (nI (q + 1))) (aL_eq fun z hz => ?_)
      show (if z = i * 16 + q then addRow i (lkN l q) P (i * 16 + q) + l q else addRow i (lkN l q) P z) = addRow i (lkN l (q + 1)) P z
      unfold addRow lkN
      by_cases h : z = i * 16 + q
      · rw [if_pos h, ← h, if_pos (show z / 16 = i by omega), if_pos (show z / 16 = i by omega), show z % 16 = q by omega, if_neg (Nat.lt_irrefl q), if_pos (show q < q + 1 by omega), Nat.add_zero]
      · rw [if_neg h]
        by_cases h1 : z / 16 = i
        · rw [if_pos h1, if_pos h1]
          by_cases h2 : z % 16 < q
          · rw [if_pos h2, if_pos (show z % 16 < q + 1 by omega)]
          · rw [if_neg h2, if_neg (show ¬ z % 16 < q + 1 by omega)]
        · rw [if_neg h1, if_neg h1]
    exact ⟨(), trivial, (lo2_s _ _ _ _).trans (key _ _)⟩
  · intro fu _ _
    have key : ∀ k9 rc, B_X1_payLacks_2 (nI i) k9 rc (rk T wt bk (aL O) (aL (addRow i (lkN l 16) P)) (aL l) ws) (nI 16) = k9 (rk T wt bk (aL O) (aL (addRow i (lkN l 16) P)) (aL l) ws) := by
      intro k9 rc
      unfold B_X1_payLacks_2
      rw [if_pos (by decide)]
    refine ((lo2_s _ _ _ _).trans (key _ _)).trans ?_
    refine congrArg (fun z => some (rk T wt bk (aL O) z (aL l) ws)) (aL_eq fun z hz => ?_)
    unfold addRow lkN
    by_cases h1 : z / 16 = i
    · rw [if_pos h1, if_pos h1, if_pos (show z % 16 < 16 by omega)]
    · rw [if_neg h1, if_neg h1]
theorem shL_mono {o : Nat → Nat} {f : Nat} {m n : Nat} (h : m ≤ n) : shL o f n ≤ shL o f m := by
  have := sN_mono (shE o f) h
  unfold shL
  omega
/-- a scarce fund: the shares, then the odd ones -/
def sc1 (l : Nat → Nat) (f n : Nat) : Nat → Nat := fun q => if q < n then shq l f q else 0
def sc2 (l : Nat → Nat) (f n : Nat) : Nat → Nat := fun q => shq l f q + (if q < n ∧ 0 < shL l f q ∧ shq l f q < l q then 1 else 0)
theorem C_shareScarce {i f : Nat} (hi : i < 4) (O P l : Nat → Nat) (hf : f ≤ 2000000000) (ho : ∀ k, k < 16 → l k ≤ 200000000) (hsc : f < sN l 16) (ws : Int32) : ∃ lk2, F_X1_shareScarce (rk T wt bk (aL O) (aL P) (aL l) ws) (nI i) (lN f) (lN (sN l 16)) = some (rk T wt bk (aL O) (aL (addRow i (shp l f) P)) lk2 ws) := by
  have hall : sN l 16 ≤ 3200000000 := by
    have := sN_bd (f := l) (c := 200000000) (n := 16) ho
    omega
  have hsum := sh_sum hsc
  refine ⟨aL (fun q => l q - shq l f q), ?_⟩
  -- the second loop
  have second : lo3 (B_X1_shareScarce_74 (nI i) (fun S21 => some S21)) FU (rk T wt bk (aL O) (aL (addRow i (sc2 l f 0) P)) (aL (fun q => l q - shq l f q)) ws) (lN (shL l f 0)) 0 = some (rk T wt bk (aL O) (aL (addRow i (shp l f) P)) (aL (fun q => l q - shq l f q)) ws) := by
    have fin : ∀ n, n ≤ 16 → shL l f n = 0 → (aL (addRow i (sc2 l f n) P) : Fin 64 → Int64) = aL (addRow i (shp l f) P) := fun n hn h0 => aL_eq fun z hz => by
      unfold addRow
      by_cases h1 : z / 16 = i
      · rw [if_pos h1, if_pos h1]
        unfold sc2 shp
        rw [if_neg (show ¬ sN l 16 ≤ f by omega)]
        by_cases h2 : 0 < shL l f (z % 16) ∧ shq l f (z % 16) < l (z % 16)
        · have h3 : z % 16 < n := by
            rcases Nat.lt_or_ge (z % 16) n with q | q
            · exact q
            · have := shL_mono (o := l) (f := f) q
              omega
          rw [if_pos h2, if_pos ⟨h3, h2⟩]
        · rw [if_neg h2, if_neg (fun q => h2 q.2)]
      · rw [if_neg h1, if_neg h1]
    refine loopX (fun fu q (_ : Unit) => lo3 (B_X1_shareScarce_74 (nI i) (fun S21 => some S21)) fu (rk T wt bk (aL O) (aL (addRow i (sc2 l f q) P)) (aL (fun q => l q - shq l f q)) ws) (lN (shL l f q)) (nI q)) _ 16 (fun _ _ => True) ?_ ?_ 16 FU 0 () (by omega) (by rw [FU_eq]; omega) trivial
    · intro fu q _ hq _
      have hlb : shL l f q ≤ f := by unfold shL; omega
      have hst := shL_step (o := l) (f := f) q
      have hob := ho q hq
      have hqb := shq_le hsc q
      by_cases h0 : shL l f q = 0
      · refine Or.inl ?_
        have key : ∀ k9 rc, B_X1_shareScarce_74 (nI i) k9 rc (rk T wt bk (aL O) (aL (addRow i (sc2 l f q) P)) (aL (fun q => l q - shq l f q)) ws) (lN (shL l f q)) (nI q) = k9 (rk T wt bk (aL O) (aL (addRow i (sc2 l f q) P)) (aL (fun q => l q - shq l f q)) ws) := by
          intro k9 rc
          unfold B_X1_shareScarce_74
          rw [if_neg (le16 hq), h0, show (0 : Int64) = lN 0 from rfl, if_pos ((lg_cmp_le _ _).mpr ((pk_lLE (by omega) (by omega)).mpr (Nat.le_refl 0)))]
        refine ((lo3_s _ _ _ _ _).trans (key _ _)).trans ?_
        rw [fin q (by omega) h0]
      · refine Or.inr ⟨(), trivial, ?_⟩
        have hJ : ∀ k9 rc S x, J_X1_shareScarce_122 k9 rc S (nI i) x (nI q) = rc S x (nI (q + 1)) := by
          intro k9 rc S x
          unfold J_X1_shareScarce_122
          rw [nm_eq, nI_1]
        have key : ∀ k9 rc, B_X1_shareScarce_74 (nI i) k9 rc (rk T wt bk (aL O) (aL (addRow i (sc2 l f q) P)) (aL (fun q => l q - shq l f q)) ws) (lN (shL l f q)) (nI q) = rc (rk T wt bk (aL O) (aL (addRow i (sc2 l f (q + 1)) P)) (aL (fun q => l q - shq l f q)) ws) (lN (shL l f (q + 1))) (nI (q + 1)) := by
          intro k9 rc
          unfold B_X1_shareScarce_74
          rw [if_neg (le16 hq), show (0 : Int64) = lN 0 from rfl, if_neg (fun z => by have := (pk_lLE (by omega) (by omega)).mp ((lg_cmp_le _ _).mp z); omega), rk_l, rL_a _ hq (by omega), bs]
          by_cases h2 : shq l f q < l q
          · rw [if_neg (fun z => by have := (pk_lLE (a := l q - shq l f q) (by omega) (by omega)).mp ((lg_cmp_le _ _).mp z); omega), nm_eq, show (16 : Int32) = nI 16 from rfl, pk_mul, nI_add, rk_p, rL_a _ (by omega) (by omega), bs, show (1 : Int64) = lN 1 from rfl, lN_add, wL_a _ (by omega) (by omega), bs, nm_eq, rk_sp, nm_eq, lN_sub (by omega), hJ, hst, if_pos ⟨by omega, h2⟩]
            refine congrArg (fun z => rc (rk T wt bk (aL O) z (aL (fun q => l q - shq l f q)) ws) (lN (shL l f q - 1)) (nI (q + 1))) (aL_eq fun z hz => ?_)
            show (if z = i * 16 + q then addRow i (sc2 l f q) P (i * 16 + q) + 1 else addRow i (sc2 l f q) P z) = addRow i (sc2 l f (q + 1)) P z
            unfold addRow
            by_cases h : z = i * 16 + q
            · rw [if_pos h, ← h, if_pos (show z / 16 = i by omega), if_pos (show z / 16 = i by omega), show z % 16 = q by omega]
              unfold sc2
              rw [if_neg (fun z9 => Nat.lt_irrefl q z9.1), if_pos ⟨by omega, by omega, h2⟩]
              omega
            · rw [if_neg h]
              by_cases h1 : z / 16 = i
              · rw [if_pos h1, if_pos h1]
                unfold sc2
                by_cases h3 : z % 16 < q ∧ 0 < shL l f (z % 16) ∧ shq l f (z % 16) < l (z % 16)
                · rw [if_pos h3, if_pos ⟨by omega, h3.2⟩]
                · rw [if_neg h3, if_neg (fun z9 => h3 ⟨by omega, z9.2⟩)]
              · rw [if_neg h1, if_neg h1]
          · rw [if_pos ((lg_cmp_le _ _).mpr ((pk_lLE (a := l q - shq l f q) (by omega) (by omega)).mpr (by omega))), hJ, hst, if_neg (fun z => h2 z.2)]
            refine congrArg (fun z => rc (rk T wt bk (aL O) z (aL (fun q => l q - shq l f q)) ws) (lN (shL l f q)) (nI (q + 1))) (aL_eq fun z hz => ?_)
            unfold addRow
            by_cases h1 : z / 16 = i
            · rw [if_pos h1, if_pos h1]
              unfold sc2
              by_cases h3 : z % 16 < q ∧ 0 < shL l f (z % 16) ∧ shq l f (z % 16) < l (z % 16)
              · rw [if_pos h3, if_pos ⟨by omega, h3.2⟩]
              · rw [if_neg h3, if_neg (fun z9 => h3 ⟨by
                  rcases Nat.lt_or_ge (z % 16) q with w9 | w9
                  · exact w9
                  · have e9 : z % 16 = q := by omega
                    rw [e9] at z9
                    exact absurd z9.2.2 h2, z9.2⟩)]
            · rw [if_neg h1, if_neg h1]
        exact (lo3_s _ _ _ _ _).trans (key _ _)
    · intro fu _ _
      have key : ∀ k9 rc, B_X1_shareScarce_74 (nI i) k9 rc (rk T wt bk (aL O) (aL (addRow i (sc2 l f 16) P)) (aL (fun q => l q - shq l f q)) ws) (lN (shL l f 16)) (nI 16) = k9 (rk T wt bk (aL O) (aL (addRow i (sc2 l f 16) P)) (aL (fun q => l q - shq l f q)) ws) := by
        intro k9 rc
        unfold B_X1_shareScarce_74
        rw [if_pos (by decide)]
      refine ((lo3_s _ _ _ _ _).trans (key _ _)).trans ?_
      rw [fin 16 (by omega) (shL_end hsc)]
  unfold F_X1_shareScarce
  rw [show (aL P : Fin 64 → Int64) = aL (addRow i (sc1 l f 0) P) from aL_eq (fun z _ => by
    unfold addRow sc1
    split <;> rfl), show (aL l : Fin 16 → Int64) = aL (fun q => if q < 0 then l q - shq l f q else l q) from aL_eq (fun z _ => rfl)]
  refine loopR (fun fu q (_ : Unit) => lo3 (B_X1_shareScarce_6 (nI i) (lN f) (lN (sN l 16)) (fun S12 z13 => lo3 (B_X1_shareScarce_74 (nI i) (fun S21 => some S21)) FU S12 z13 0)) fu (rk T wt bk (aL O) (aL (addRow i (sc1 l f q) P)) (aL (fun z => if z < q then l z - shq l f z else l z)) ws) (lN (f - sN (shq l f) q)) (nI q)) _ 16 (fun _ _ => True) ?_ ?_ 16 FU 0 () (by omega) (by rw [FU_eq]; omega) trivial
  · intro fu q _ hq _
    have hm := sN_mono (shq l f) (show q + 1 ≤ 16 by omega)
    rw [sN_s (shq l f) q] at hm
    have hqb := shq_le hsc q
    have h2 : l q * f ≤ 200000000 * 2000000000 := Nat.mul_le_mul (ho q hq) hf
    have key : ∀ k9 rc, B_X1_shareScarce_6 (nI i) (lN f) (lN (sN l 16)) k9 rc (rk T wt bk (aL O) (aL (addRow i (sc1 l f q) P)) (aL (fun z => if z < q then l z - shq l f z else l z)) ws) (lN (f - sN (shq l f) q)) (nI q) = rc (rk T wt bk (aL O) (aL (addRow i (sc1 l f (q + 1)) P)) (aL (fun z => if z < q + 1 then l z - shq l f z else l z)) ws) (lN (f - sN (shq l f) (q + 1))) (nI (q + 1)) := by
      intro k9 rc
      unfold B_X1_shareScarce_6
      rw [if_neg (le16 hq), rk_l, rL_a _ hq (by omega), bs, if_neg (Nat.lt_irrefl q), lN_mul, C_cut (by omega) (by omega), bs, show l q * f / sN l 16 = shq l f q from rfl, nm_eq, show (16 : Int32) = nI 16 from rfl, pk_mul, nI_add, rk_p, rL_a _ (by omega) (by omega), bs, lN_add, wL_a _ (by omega) (by omega), bs, nm_eq, rk_sp, rk_l, rL_a _ hq (by omega), bs, if_neg (Nat.lt_irrefl q), lN_sub hqb, wL_a _ hq (by omega), bs, nm_eq, rk_sl, nm_eq, lN_sub (by omega), nm_eq, nI_1, Nat.sub_sub, ← sN_s (shq l f) q]
      refine cg2 (fun z9 y9 => rc (rk T wt bk (aL O) z9 y9 ws) (lN (f - (sN (shq l f) (q + 1)))) (nI (q + 1))) (aL_eq fun z hz => ?_) (aL_eq fun z hz => ?_)
      rotate_left
      · show (if z = q then l q - shq l f q else if z < q then l z - shq l f z else l z) = _
        by_cases h : z = q
        · rw [if_pos h, h, if_pos (show q < q + 1 by omega)]
        · rw [if_neg h]
          by_cases h' : z < q
          · rw [if_pos h', if_pos (show z < q + 1 by omega)]
          · rw [if_neg h', if_neg (show ¬ z < q + 1 by omega)]
      · show (if z = i * 16 + q then addRow i (sc1 l f q) P (i * 16 + q) + shq l f q else addRow i (sc1 l f q) P z) = addRow i (sc1 l f (q + 1)) P z
        unfold addRow sc1
        by_cases h : z = i * 16 + q
        · rw [if_pos h, ← h, if_pos (show z / 16 = i by omega), if_pos (show z / 16 = i by omega), show z % 16 = q by omega, if_neg (Nat.lt_irrefl q), if_pos (show q < q + 1 by omega), Nat.add_zero]
        · rw [if_neg h]
          by_cases h1 : z / 16 = i
          · rw [if_pos h1, if_pos h1]
            by_cases h3 : z % 16 < q
            · rw [if_pos h3, if_pos (show z % 16 < q + 1 by omega)]
            · rw [if_neg h3, if_neg (show ¬ z % 16 < q + 1 by omega)]
          · rw [if_neg h1, if_neg h1]
    exact ⟨(), trivial, (lo3_s _ _ _ _ _).trans (key _ _)⟩
  · intro fu _ _
    have key : ∀ k9 rc, B_X1_shareScarce_6 (nI i) (lN f) (lN (sN l 16)) k9 rc (rk T wt bk (aL O) (aL (addRow i (sc1 l f 16) P)) (aL (fun z => if z < 16 then l z - shq l f z else l z)) ws) (lN (f - sN (shq l f) 16)) (nI 16) = k9 (rk T wt bk (aL O) (aL (addRow i (sc2 l f 0) P)) (aL (fun q => l q - shq l f q)) ws) (lN (shL l f 0)) := by
      intro k9 rc
      unfold B_X1_shareScarce_6
      rw [if_pos (by decide)]
      refine cg2 (fun z9 y9 => k9 (rk T wt bk (aL O) z9 y9 ws) (lN (f - sN (shq l f) 16))) (aL_eq fun z hz => ?_) (aL_eq fun z hz => if_pos hz)
      · unfold addRow sc1 sc2
        by_cases h1 : z / 16 = i
        · rw [if_pos h1, if_pos h1, if_pos (show z % 16 < 16 by omega), if_neg (fun z9 => Nat.not_lt_zero _ z9.1), Nat.add_zero]
        · rw [if_neg h1, if_neg h1]
    exact ((lo3_s _ _ _ _ _).trans (key _ _)).trans second
end CR3
