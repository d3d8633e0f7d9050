/-! ===== level 2: worse ===== -/
section WORSE
variable {S : XS} {M : MS} {N K : Nat} {c : Nat → Nat}
theorem xK_self (S : XS) : xs_reckoning S (x_reckoning S) = S := rfl
theorem M_in2 (x l y : Int32) : F_X5_in x.toInt64 l.toInt64 y.toInt64 = F_X4_within x l y := by
  have e1 : lg_cmp x.toInt64 l.toInt64 < 0 ↔ x < l := (lg_cmp_lt _ _).trans (Int32.toInt64_lt (a := x) (b := l))
  have e2 : 0 < lg_cmp x.toInt64 y.toInt64 ↔ y < x := (lg_cmp_gt _ _).trans (Int32.toInt64_lt (a := y) (b := x))
  unfold F_X5_in F_X4_within
  by_cases h : x < l
  · rw [if_pos (e1.mpr h), if_pos h]
  · rw [if_neg (fun q => h (e1.mp q)), if_neg h]
    by_cases h2 : y < x
    · rw [if_pos (e2.mpr h2), if_pos h2]
    · rw [if_neg (fun q => h2 (e2.mp q)), if_neg h2]
theorem W_any (x l y : Int32) : F_X4_within x l y = some 0 ∨ F_X4_within x l y = some 1 := by
  unfold F_X4_within
  split
  · exact Or.inl rfl
  · split
    · exact Or.inl rfl
    · exact Or.inr rfl
theorem X_netWithTenths2 (hT : RowT (x_now S) N K c) (hO : OKc N K c) {i j a : Nat} (hi : i < N) (hj : j < N) (hij : i ≠ j) (ha : a ≤ c (10 + 6 * i + 1) + c (10 + 6 * j + 1)) (R : RS) : ∃ R2, F_X4_netWithTenths (xs_reckoning S R) (nI i) (nI j) (nI a) = some (ntL N K (cT c i j a (c (10 + 6 * i + 1) + c (10 + 6 * j + 1) - a)) i, xs_reckoning S R2) := by
  have hT2 : RowT (x_now (xs_reckoning S R)) N K c := hT
  obtain ⟨R2, e⟩ := X_netWithTenths hT2 hO hi hj hij ha
  exact ⟨R2, e.trans (by rw [xK_two])⟩
theorem worse_loop (hT : RowT (x_now S) N K c) (hR : RowR (m_s M) N K c) (hO : OKc N K c) {i j : Nat} (hi : i < N) (hj : j < N) (hij : i ≠ j) (y : Int32) {s : Nat} (hs : s = c (10 + 6 * i + 1) + c (10 + 6 * j + 1)) (hs2 : s ≤ 20) : ∀ (n t fu : Nat), t + n = s + 1 → n < fu → ∀ (R : RS) (w : Fin 82 → Int32) (o u : Fin 16 → Int64) (p : Fin 64 → Int64), ∃ z R2 w2 o2 u2 p2,
    lo2 (B_X4_worse_65 (nI i) (nI j) y (nI s) (fun S9 => some ((-2 : Int32), S9))) fu (xs_reckoning (xT S 0) R) (nI t) = some (z, xs_reckoning (xT S 0) R2) ∧
    lo2 (B_X5_worse_104 (nI i) (nI j) y (nI s) (fun S12 => some ((-2 : Int32), S12))) fu (sc (mB M) w o u p) (nI t) = some (z, sc (mB M) w2 o2 u2 p2) := by
  intro n
  induction n with
  | zero =>
    intro t fu ht hf R w o u p
    obtain ⟨fu, rfl⟩ : ∃ f, fu = f + 1 := ⟨fu - 1, by omega⟩
    have hlt : nI s < nI t := by
      rw [nI_ltI (by omega) (by omega)]
      omega
    have k1 : ∀ (k9 : XS → Option (Int32 × XS)) rc S2, B_X4_worse_65 (nI i) (nI j) y (nI s) k9 rc S2 (nI t) = k9 S2 := by
      intro k9 rc S2
      unfold B_X4_worse_65
      rw [if_pos hlt]
    have k2 : ∀ (k9 : MS → Option (Int32 × MS)) rc S2, B_X5_worse_104 (nI i) (nI j) y (nI s) k9 rc S2 (nI t) = k9 S2 := by
      intro k9 rc S2
      unfold B_X5_worse_104
      rw [if_pos hlt]
    exact ⟨-2, R, w, o, u, p, (lo2_s _ _ _ _).trans (k1 _ _ _), (lo2_s _ _ _ _).trans (k2 _ _ _)⟩
  | succ n ih =>
    intro t fu ht hf R w o u p
    obtain ⟨fu, rfl⟩ : ∃ f, fu = f + 1 := ⟨fu - 1, by omega⟩
    have hlt : ¬ nI s < nI t := by
      rw [nI_ltI (by omega) (by omega)]
      omega
    have hTx : RowT (x_now (xT S 0)) N K c := hT
    obtain ⟨R2, e1⟩ := X_netWithTenths2 (S := xT S 0) hTx hO hi hj hij (show t ≤ c (10 + 6 * i + 1) + c (10 + 6 * j + 1) by omega) R
    obtain ⟨w2, o2, u2, p2, e2⟩ := M_netShifted (M := M) hR hO hi hj hij (show t ≤ c (10 + 6 * i + 1) + c (10 + 6 * j + 1) by omega) w o u p
    by_cases hc : 0 ≤ lg_cmp (ntL N K (cT c i j t (c (10 + 6 * i + 1) + c (10 + 6 * j + 1) - t)) i) y.toInt64
    · obtain ⟨z, R3, w3, o3, u3, p3, f1, f2⟩ := ih (t + 1) fu (by omega) (by omega) R2 w2 o2 u2 p2
      have k1 : ∀ (k9 : XS → Option (Int32 × XS)) rc, B_X4_worse_65 (nI i) (nI j) y (nI s) k9 rc (xs_reckoning (xT S 0) R) (nI t) = rc (xs_reckoning (xT S 0) R2) (nI (t + 1)) := by
        intro k9 rc
        unfold B_X4_worse_65
        rw [if_neg hlt, e1, bs, if_pos hc, nm_eq, nI_1]
      have k2 : ∀ (k9 : MS → Option (Int32 × MS)) rc, B_X5_worse_104 (nI i) (nI j) y (nI s) k9 rc (sc (mB M) w o u p) (nI t) = rc (sc (mB M) w2 o2 u2 p2) (nI (t + 1)) := by
        intro k9 rc
        unfold B_X5_worse_104
        rw [if_neg hlt, e2, bs, if_pos hc, nm_eq, nI_1]
      exact ⟨z, R3, w3, o3, u3, p3, ((lo2_s _ _ _ _).trans (k1 _ _)).trans f1, ((lo2_s _ _ _ _).trans (k2 _ _)).trans f2⟩
    · have k1 : ∀ (k9 : XS → Option (Int32 × XS)) rc, B_X4_worse_65 (nI i) (nI j) y (nI s) k9 rc (xs_reckoning (xT S 0) R) (nI t) = some (nI t, xs_reckoning (xT S 0) R2) := by
        intro k9 rc
        unfold B_X4_worse_65
        rw [if_neg hlt, e1, bs, if_neg hc]
      have k2 : ∀ (k9 : MS → Option (Int32 × MS)) rc, B_X5_worse_104 (nI i) (nI j) y (nI s) k9 rc (sc (mB M) w o u p) (nI t) = some (nI t, sc (mB M) w2 o2 u2 p2) := by
        intro k9 rc
        unfold B_X5_worse_104
        rw [if_neg hlt, e2, bs, if_neg hc]
      exact ⟨nI t, R2, w2, o2, u2, p2, (lo2_s _ _ _ _).trans (k1 _ _), (lo2_s _ _ _ _).trans (k2 _ _)⟩
end WORSE
