/-! ===== 83.start: what holds at the law's entry ===== -/
def FL : List Cond := flatC (Jvm.Cond.and given_1 narrow_1)
section START
variable {args : Array Value} {s : State}
theorem st_arr (ty : FieldType) (h : (Cond.arrayClass ty).before args s = true) : ∃ c : ClassId, ArrOfT s c ty ∧ s.vm.findClass ("[" ++ ty.toString) = some c := by
  obtain ⟨c, k, comp, f1, f2, f3⟩ := Cond.arrayClass_spec h
  exact ⟨c, fun N z => ⟨fun k h => (by cases h), k, f2, comp, f3⟩, f1⟩
set_option maxRecDepth 100000 in
theorem st_K (hts : ∀ w ∈ lw_tbl, w.before args s = true) : ∃ (D : va_G) (t : Nat → ClassId), ∀ G : GT, G.1 = D → G.2.1 = t → va_K G.1 vwCl (tysG G) s := by
  have hg : ∀ w ∈ GW, w.before args s = true := fun w h => hts w (List.mem_filter.mp h).1
  obtain ⟨c0, i0, k0⟩ := u_known (C := RX0) (T := TX0) (N := 11) (n := 11) hg inGX0 (hts (.instantiable RX0 11) (List.mem_of_getElem? (i := 146) (by decide +kernel)))
  obtain ⟨c1, i1, k1⟩ := u_known (C := RX1) (T := TX1) (N := 7) (n := 7) hg inGX1 (hts (.instantiable RX1 7) (List.mem_of_getElem? (i := 229) (by decide +kernel)))
  obtain ⟨c2, i2, k2⟩ := u_known (C := RX2) (T := TX2) (N := 6) (n := 6) hg inGX2 (hts (.instantiable RX2 6) (List.mem_of_getElem? (i := 152) (by decide +kernel)))
  obtain ⟨c3, i3, k3⟩ := u_known (C := RX4) (T := TX4) (N := 12) (n := 12) hg inGX4 (hts (.instantiable RX4 12) (List.mem_of_getElem? (i := 138) (by decide +kernel)))
  obtain ⟨c4, i4, k4⟩ := u_known (C := RX5) (T := TX5) (N := 30) (n := 30) hg inGX5 (hts (.instantiable RX5 30) (List.mem_of_getElem? (i := 943) (by decide +kernel)))
  obtain ⟨a0, b0, d0⟩ := st_arr .int (hts (.arrayClass .int) (List.mem_of_getElem? (i := 187) (by decide +kernel)))
  obtain ⟨a1, b1, d1⟩ := st_arr .long (hts (.arrayClass .long) (List.mem_of_getElem? (i := 186) (by decide +kernel)))
  obtain ⟨a2, b2, d2⟩ := st_arr .byte (hts (.arrayClass .byte) (List.mem_of_getElem? (i := 185) (by decide +kernel)))
  obtain ⟨a3, b3, d3⟩ := st_arr .boolean (hts (.arrayClass .boolean) (List.mem_of_getElem? (i := 225) (by decide +kernel)))
  obtain ⟨comp, a4, kA, h1, h2, h3, h4, h5⟩ := Cond.arrayOver_spec (hts (.arrayOver (.object "BothToBlame$Told")) (List.mem_of_getElem? (i := 259) (by decide +kernel)))
  have b4 : ArrOfT s a4 (.object "BothToBlame$Told") := fun N z => ⟨fun k h => (by cases h), kA, h3, comp, h4⟩
  refine ⟨(fun k => match k with | 0 => c0 | 1 => c1 | 2 => c2 | 3 => c3 | _ => c4, fun k => match k with | 0 => i0 | 1 => i1 | 2 => i2 | 3 => i3 | _ => i4), (fun k => match k with | 0 => a0 | 1 => a1 | 2 => a2 | 3 => a3 | _ => a4), ?_⟩
  intro G e1 e2
  obtain ⟨D, t, r⟩ := G
  cases e1
  cases e2
  refine ⟨fun k q hq => ?_, fun k q hq => ?_⟩
  · match k, hq with
    | 0, hq => cases hq; exact k0
    | 1, hq => cases hq; exact k1
    | 2, hq => cases hq; exact k2
    | 3, hq => cases hq; exact k3
    | 4, hq => cases hq; exact k4
    | k + 5, hq => simp [vwCl] at hq
  · match k, hq with
    | 0, hq => cases hq; exact ⟨b0, d0⟩
    | 1, hq => cases hq; exact ⟨b1, d1⟩
    | 2, hq => cases hq; exact ⟨b2, d2⟩
    | 3, hq => cases hq; exact ⟨b3, d3⟩
    | 4, hq => cases hq; exact ⟨b4, kA, comp, h3, h4, h1, h5⟩
    | k + 5, hq => simp [tysG] at hq
theorem st_NW (hts : ∀ w ∈ lw_tbl, w.before args s = true) : ∀ w ∈ NW, va_Nw w s := by
  intro w hw
  have hb := hts w (List.mem_filter.mp hw).1
  have hn := (List.mem_filter.mp hw).2
  cases w with
  | fieldLinkNest a i b n d h9 => exact va_Nw.of rfl hb
  | methodLinkNest a i x h9 => exact va_Nw.of rfl hb
  | _ => cases hn
theorem fl_arr : ∀ k, k < 5 → Cond.arrayOf (.static "BothToBlame" (sA_n k) "[I") .int ∈ FL := by decide +kernel
theorem fl_len : ∀ k, k < 5 → Cond.eq (.length (.static "BothToBlame" (sA_n k) "[I")) (.int (Int32.ofNat (sA_v k).length)) ∈ FL := by decide +kernel
theorem fl_el : ∀ k, k < 5 → ∀ j, j < (sA_v k).length → Cond.eq (.elem (.static "BothToBlame" (sA_n k) "[I") (.int (Int32.ofNat j))) (.int ((sA_v k).getD j 0)) ∈ FL := by decide +kernel
theorem fl_ls : ∀ k, k < 5 → Cond.laysStatic "BothToBlame" (sA_n k) "[I" ∈ lw_tbl := by decide +kernel
theorem fl_warr : Cond.arrayOf (.static "BothToBlame$Reader" "WORDS" "[LBothToBlame$Word;") (.object "BothToBlame$Word") ∈ FL := by decide +kernel
theorem fl_wlen : Cond.eq (.length (.static "BothToBlame$Reader" "WORDS" "[LBothToBlame$Word;")) (.int (Int32.ofNat 19)) ∈ FL := by decide +kernel
theorem fl_wel : ∀ j, j < 19 → Cond.eq (.elem (.static "BothToBlame$Reader" "WORDS" "[LBothToBlame$Word;") (.int (Int32.ofNat j))) (.static "BothToBlame$Word" (wd_n.getD j "") "LBothToBlame$Word;") ∈ FL := by decide +kernel
theorem fl_wls : ∀ i, i < wd_n.length → Cond.laysStatic "BothToBlame$Word" (wd_n.getD i "") "LBothToBlame$Word;" ∈ lw_tbl := by decide +kernel
theorem fl_wex : ∀ i, i < wd_n.length → Cond.exactly (.static "BothToBlame$Word" (wd_n.getD i "") "LBothToBlame$Word;") "BothToBlame$Word" ∈ FL := by decide +kernel
theorem fl_wf : ∀ q ∈ wd_F, ∀ i, i < wd_n.length → Cond.eq (.field (.static "BothToBlame$Word" (wd_n.getD i "") "LBothToBlame$Word;") q.1 q.2.1 q.2.2.1) (.int (q.2.2.2.getD i 0)) ∈ FL := by decide +kernel
theorem fl_wl : ∀ i, i < 19 → Cond.eq (.field (.static "BothToBlame$Word" (wd_n.getD i "") "LBothToBlame$Word;") "BothToBlame$Word" "letters" "J") (.long (wd_let.getD i 0)) ∈ FL := by decide +kernel
def isNP : Cond → Bool
  | .not (.eq (.static a _ _) (.static b _ _)) => a == "BothToBlame$Word" && b == "BothToBlame$Word"
  | _ => false
def npPi (k : Nat) : Nat := if k < 7 then k + 1 else if k = 7 then 0 else k
def npPos (k : Nat) : Nat := if k = 0 then 7 else if k < 8 then k - 1 else k
def npC (i j : Nat) : Cond := Cond.not (.eq (.static "BothToBlame$Word" (wd_n.getD i "") "LBothToBlame$Word;") (.static "BothToBlame$Word" (wd_n.getD j "") "LBothToBlame$Word;"))
def npL : List Cond := (List.range 19).flatMap (fun k => (List.range k).map (fun m => npC (npPi m) (npPi k)))
theorem np_eq : FL.filter isNP = npL := by decide +kernel
theorem np_in {m k : Nat} (hk : k < 19) (hm : m < k) : npC (npPi m) (npPi k) ∈ FL := by
  have h : npC (npPi m) (npPi k) ∈ npL := List.mem_flatMap.mpr ⟨k, List.mem_range.mpr hk, List.mem_map.mpr ⟨m, List.mem_range.mpr hm, rfl⟩⟩
  rw [← np_eq] at h
  exact (List.mem_filter.mp h).1
theorem np_pos : ∀ i, i < 19 → npPi (npPos i) = i ∧ npPos i < 19 := by decide
theorem fl_wd : ∀ i, i < wd_n.length → ∀ j, j < wd_n.length → i ≠ j → Cond.not (.eq (.static "BothToBlame$Word" (wd_n.getD i "") "LBothToBlame$Word;") (.static "BothToBlame$Word" (wd_n.getD j "") "LBothToBlame$Word;")) ∈ FL ∨ Cond.not (.eq (.static "BothToBlame$Word" (wd_n.getD j "") "LBothToBlame$Word;") (.static "BothToBlame$Word" (wd_n.getD i "") "LBothToBlame$Word;")) ∈ FL := by
  intro i hi j hj hij
  obtain ⟨a1, a2⟩ := np_pos i hi
  obtain ⟨b1, b2⟩ := np_pos j hj
  rcases Nat.lt_trichotomy (npPos i) (npPos j) with h | h | h
  · have := np_in b2 h
    rw [a1, b1] at this
    exact Or.inl this
  · rw [h] at a1
    exact absurd (a1.symm.trans b1) hij
  · have := np_in a2 h
    rw [a1, b1] at this
    exact Or.inr this
theorem st_SF (hts : ∀ w ∈ lw_tbl, w.before args s = true) (hgv : (Jvm.Cond.and given_1 narrow_1).before args s = true) : ∃ (t : Nat → Nat) (ad : Nat → Nat), ∀ G : GT, G.2.2.1 = t → G.2.2.2 = ad → SF G (fun q : Nat => s.heap.size ≤ q) s s.heap := by
  have hf : ∀ c ∈ FL, c.before args s = true := flat_of_before _ hgv
  have hA : ∀ a : Nat, a < s.heap.size → ¬ (fun q : Nat => s.heap.size ≤ q) a := fun a h => Nat.not_le.mpr h
  have i4 : (Cond.initialized "BothToBlame").before args s = true := hts _ (by decide +kernel)
  have i0 : (Cond.initialized "BothToBlame$Reader").before args s = true := hts _ (by decide +kernel)
  have i3 : (Cond.initialized "BothToBlame$Word").before args s = true := hts _ (by decide +kernel)
  have h0 : ∀ k : Nat, ∃ t : Nat, k < 5 → (Term.static "BothToBlame" (sA_n k) "[I").eval args s none [] s = some (.ref t) ∧ va_T .int t (sA_v k).length (fun j => .int ((sA_v k).getD j 0)) (fun q : Nat => s.heap.size ≤ q) s s.heap := by
    intro k
    by_cases hk : k < 5
    · have hN : (sA_v k).length < 2 ^ 31 := by
        have : ∀ k, k < 5 → (sA_v k).length < 2 ^ 31 := by decide +kernel
        exact this k hk
      obtain ⟨t, h1, h2⟩ := va_Tof (args := args) (s := s) (tm := .static "BothToBlame" (sA_n k) "[I") (ty := .int) (N := (sA_v k).length) (f := fun j => .int ((sA_v k).getD j 0)) hN (hf _ (fl_arr k hk)) (va_eqt (hf _ (fl_len k hk))) (fun j hj => va_eqt (hf _ (fl_el k hk j hj))) hA
      exact ⟨t, fun _ => ⟨h1, h2⟩⟩
    · exact ⟨0, fun h => absurd h hk⟩
  obtain ⟨t0, ht0⟩ := Classical.axiomOfChoice h0
  obtain ⟨ad, hEn, had⟩ := va_Enof2 (args := args) (s := s) (E := "BothToBlame$Word") (d := "LBothToBlame$Word;") (nm := wd_n) (F := wd_F) (fun i hi => hts _ (fl_wls i hi)) i3 (fun i hi => hf _ (fl_wex i hi)) (fun q hq i hi => hf _ (fl_wf q hq i hi)) (fun i j hi hj hij => (fl_wd i hi j hj hij).imp (hf _) (hf _)) hA
  have hEf := va_Efof (args := args) (s := s) (N := 19) (E := "BothToBlame$Word") (d0 := "LBothToBlame$Word;") (o := "BothToBlame$Word") (n := "letters") (d := "J") (nm := wd_n) (v := fun i => .long (wd_let.getD i 0)) (tm := fun i => .long (wd_let.getD i 0)) (ad := ad) (fun i hi => had i hi) (fun i hi => hf _ (fl_wl i hi)) (fun i hi => rfl) hA
  obtain ⟨t5, h51, h52⟩ := va_Tof (args := args) (s := s) (tm := .static "BothToBlame$Reader" "WORDS" "[LBothToBlame$Word;") (ty := .object "BothToBlame$Word") (N := 19) (f := fun j => .ref (ad j)) (by decide) (hf _ fl_warr) (va_eqt (hf _ fl_wlen)) (fun j hj => va_eqv (hf _ (fl_wel j hj)) (had j hj)) hA
  refine ⟨fun k => if k < 5 then t0 k else t5, ad, ?_⟩
  intro G e1 e2
  obtain ⟨D, t, r1, r2⟩ := G
  cases e1
  cases e2
  refine ⟨fun k hk => ?_, ?_, ?_, hEn, hEf⟩
  · have e : (if k < 5 then t0 k else t5) = t0 k := if_pos hk
    show va_Z "BothToBlame" (sA_n k) "[I" (.ref (if k < 5 then t0 k else t5)) _ s s.heap ∧ va_T .int (if k < 5 then t0 k else t5) _ _ _ s s.heap
    rw [e]
    exact ⟨va_Zref (hts _ (fl_ls k hk)) i4 (ht0 k hk).1 hA, (ht0 k hk).2⟩
  · exact va_Zref (hts _ (by decide +kernel)) i0 h51 hA
  · exact h52
theorem start_ev (hts : ∀ w ∈ lw_tbl, w.before args s = true) (hgv : (Jvm.Cond.and given_1 narrow_1).before args s = true) : ∃ G : GT, EV G (fun q : Nat => s.heap.size ≤ q) s s.heap := by
  obtain ⟨D, t, hK⟩ := st_K hts
  obtain ⟨r, ad, hS⟩ := st_SF hts hgv
  exact ⟨(D, t, r, ad), hK _ rfl rfl, st_NW hts, hS _ rfl rfl⟩
end START
