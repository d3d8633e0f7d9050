/-! ===== 87.end: the loop, the start, the claim ===== -/
/-! THE CLAIM OUT OF ONE WALK OF THE LAW'S BODY. Your part is whole_start (and what it stands on); all else here is the same for every law, but numbers. -/
def R_law : String := "BothToBlameLaw"
def lw_P (b : Addr) (xs : List Int32) (args : Array Value) (s : State) : Prop := args = #[.ref b] ∧ s.IntsAt b xs ∧ xs.length ≤ 3072 ∧ (Jvm.Cond.and given_1 narrow_1).before args s = true
def lw_Q (_ : Array Value) (s : State) (o : Outcome) (t : State) : Prop := o = .returned (some (.int 1)) ∧ Framed s o t [] 601024 7293034
def lw_Z (below : List Frame) (a : Array Value) (s : State) : State → Prop := fun t => ∃ o, t.status = .running ∧ Ended t below o ∧ lw_Q a s o t
/-- the law's own end, with 1 on the stack, nothing written that was there before, its room as the claim has it -/
theorem lw_ret {p : Program} {l : Launch} {e : Env} {s : State} {m : MethodId} {below : List Frame} {meth : Method} {c : Code} {b : Nat} (hx : p.tables.exec = Jvm.exec) (hb : c.code = code) (hr : meth.sig.returnType = ret) (hlocks : meth.locks = false) {pc : Nat} {H : Heap} {ls : Array Slot} (hdg : decode code pc = .ok (.ireturn, 1)) : W p l e room_1 s m #[Value.ref b] below meth c H [] 601024 7293034 (lw_Z below #[Value.ref b] s) (F0 m pc ls [.int 1]) := by
  intro T hT X
  obtain ⟨fs, hret, hrun, hended, hW, hframe⟩ := X.leave (v := some (.int 1)) (hlocks := hlocks) (fun h => by rw [hr] at h; cases h)
  have hmeth' : T.vm.method? m = some meth := X.method'
  refine ⟨T.setFrames fs, ?_, .returned (some (.int 1)), hrun, hended, rfl, ⟨_, rfl⟩, hW, hframe⟩
  jvm_step X.here [X.here.top, hx, hb, hdg, hmeth', hr, ret, narrow_b1]
  (try refine ⟨rfl, ?_⟩); (try refine ⟨rfl, ?_⟩)
  first | (intro acts; rw [hret _ acts rfl rfl rfl]) | rw [hret _ _ rfl rfl rfl]
  exact Steps.refl _
/-- what holds at the law's entry: the machine, the code, the tables' words (any of lw_tbl by 'hts w (by decide +kernel)'), the script of L ints xs at the cell b, what the Statement gives of the start (any of its parts by flat_of_before) -/
def lw_At (p : Program) (s : State) (m : MethodId) (meth : Method) (c : Code) (b L : Nat) (xs : Nat → Int32) : Prop :=
  p.tables.exec = Jvm.exec ∧ c.code = code ∧ meth.sig.returnType = ret ∧ c.maxLocals = 7 ∧ s.vm.findClass R_law = some m.cls ∧ (∀ w ∈ lw_tbl, w.before #[Value.ref b] s = true) ∧ va_X b L xs s s.heap ∧ b < s.heap.size ∧ meth.locks = false ∧ (Jvm.Cond.and given_1 narrow_1).before #[Value.ref b] s = true
theorem rel0 : Rel X00 M00 := by
  refine ⟨⟨rfl, rfl, rfl⟩, ⟨0, by decide, rfl, rfl, fun k h => absurd h (Nat.not_lt_zero k)⟩, Or.inl ⟨rfl, rfl, rfl⟩, ⟨0, 0, rfl, rfl, rfl, by decide, by decide, fun q h => absurd h (Nat.not_lt_zero q)⟩, fun m hm => ⟨rfl, fun h => absurd (congrFun (exI0 2) m) h⟩⟩
theorem gcl8 : Cond.classLink RL 8 RX4 ∈ GW := gw_in (List.mem_of_getElem? (i := 137) (by decide +kernel)) (by decide +kernel)
theorem gcl16 : Cond.classLink RL 16 RX5 ∈ GW := gw_in (List.mem_of_getElem? (i := 942) (by decide +kernel)) (by decide +kernel)
theorem gin4 : Cond.instantiable RX4 12 ∈ GW := gw_in (List.mem_of_getElem? (i := 138) (by decide +kernel)) (by decide +kernel)
theorem gin5 : Cond.instantiable RX5 30 ∈ GW := gw_in (List.mem_of_getElem? (i := 943) (by decide +kernel)) (by decide +kernel)
theorem gaJ : Cond.arrayClass .long ∈ GW := gw_in (List.mem_of_getElem? (i := 186) (by decide +kernel)) (by decide +kernel)
theorem vj_15 : VJ RL 15 yX4_init cX4_init 2 := ⟨gw_in (List.mem_of_getElem? (i := 139) (by decide +kernel)) (by decide +kernel), gw_in (List.mem_of_getElem? (i := 140) (by decide +kernel)) (by decide +kernel), gi_X4, gw_in (List.mem_of_getElem? (i := 141) (by decide +kernel)) (by decide +kernel), by decide +kernel, rfl⟩
theorem vj_18 : VJ RL 18 yX5_init cX5_init 1 := ⟨gw_in (List.mem_of_getElem? (i := 944) (by decide +kernel)) (by decide +kernel), gw_in (List.mem_of_getElem? (i := 945) (by decide +kernel)) (by decide +kernel), gi_X5, gw_in (List.mem_of_getElem? (i := 946) (by decide +kernel)) (by decide +kernel), by decide +kernel, rfl⟩
theorem nI_sub6 {L : Nat} (hL : L ≤ 3072) : (Int32.ofNat L - 6).toInt = (L : Int) - 6 := by
  have h1 : (Int32.ofNat L).toInt = (L : Int) := nI_toInt (n := L) (by omega)
  have h6 : (6 : Int32).toInt = 6 := by decide
  rw [Int32.toInt_sub, h1, h6]
  exact Int.bmod_eq_of_le (by omega) (by omega)
theorem le6 {i L : Nat} (hL : L ≤ 3072) (hi : i ≤ 3078) (h : ¬ Int32.ofNat L - 6 < nI i) : i + 6 ≤ L := by
  rw [Int32.lt_iff_toInt_lt, nI_sub6 hL, nI_toInt (by omega)] at h
  omega
theorem fs5 : ∀ j, j < 30 → defaultValue (tyX5 j) = vp_V [.int 0, .int 0, .int 0, .int 0, .int 0, .null, .null, .null, .null, .int 0, .null, .null, .null, .null, .null, .int 0, .int 0, .int 0, .int 0, .int 0, .int 0, .int 0, .long 0, .int 0, .int 0, .int 0, .null, .null, .null, .long 0] j := by
  intro j hj
  rcases (show j = 0 ∨ j = 1 ∨ j = 2 ∨ j = 3 ∨ j = 4 ∨ j = 5 ∨ j = 6 ∨ j = 7 ∨ j = 8 ∨ j = 9 ∨ j = 10 ∨ j = 11 ∨ j = 12 ∨ j = 13 ∨ j = 14 ∨ j = 15 ∨ j = 16 ∨ j = 17 ∨ j = 18 ∨ j = 19 ∨ j = 20 ∨ j = 21 ∨ j = 22 ∨ j = 23 ∨ j = 24 ∨ j = 25 ∨ j = 26 ∨ j = 27 ∨ j = 28 ∨ j = 29 by omega) with rfl | rfl | rfl | rfl | rfl | rfl | rfl | rfl | rfl | rfl | rfl | rfl | rfl | rfl | rfl | rfl | rfl | rfl | rfl | rfl | rfl | rfl | rfl | rfl | rfl | rfl | rfl | rfl | rfl | rfl <;> rfl
theorem pw3 (x m o : va_W) : ((x ++ m) ++ o).Perm (m ++ (o ++ x)) := by
  rw [List.append_assoc]
  exact (List.perm_append_comm).trans (List.Perm.of_eq (List.append_assoc m o x))
set_option maxHeartbeats 4000000 in
set_option maxRecDepth 100000 in
theorem law_loop {p : Program} {l : Launch} {e : Env} {s : State} {m : MethodId} {below : List Frame} {meth : Method} {c : Code} {G : GT} {b L : Nat} {xs : Nat → Int32} {a a2 : Nat → Nat} {o : Nat} (hL : L ≤ 3072) (C0 : lw_At p s m meth c b L xs) (K : LAWK p l s m c b L xs G (fun q : Nat => s.heap.size ≤ q)) :
    ∀ (n i : Nat), L + 1 ≤ i + n → i ≤ 3078 → ∀ (S : XS) (M : MS) (f : Fin 1 → Int64) (H : Heap) (locs : List Loc) (ls : Array Slot), Rel S M → SI G (fun q : Nat => s.heap.size ≤ q) s H locs (WW G a a2 o S M f) → lv_has ls 7 (LVs b a a2 o i) → W p l e room_1 s m #[Value.ref b] below meth c H locs (200 + i) (5000 + 6 * i) (lw_Z below #[Value.ref b] s) (F0 m 23 ls []) := by
  obtain ⟨-, -, hrt, -, -, -, -, -, hlocks, -⟩ := C0
  obtain ⟨hx, hb, hml, hown, hts, hE, hZ, hA, hX, hbl, hbA, hfl⟩ := id K
  intro n
  induction n with
  | zero =>
    intro i h1 h3 S M f H locs ls hr hs hl
    refine lv_iload hx hb dL_law_23 (lv_at hl 4 rfl) ?_
    refine lv_aload_n hx hb dL_law_25 rfl (lv_at hl 0 rfl) ?_
    refine va_slen hx hb hX hbl hbA hs.2.2 dL_law_26 ?_
    refine lv_bipush (v := (6 : Int32)) hx hb dL_law_27 (by decide) ?_
    refine lv_isub hx hb dL_law_29 ?_
    refine lv_icmp_gt (tgt := 1519) hx hb dL_law_30 (by decide) (fun hc9 => ?_) (fun hc9 => ?_)
    · refine lv_iconst (v := 1) hx hb dL_law_1519 (by decide) ?_
      refine va_forget (fun q hq => hs.2.2.2.2 q hq) ?_
      refine W.widen (k := 601024) (n := 7293034) (by omega) (by omega) ?_
      exact lw_ret hx hb hrt hlocks dL_law_1520
    · exact absurd (le6 hL h3 hc9) (by omega)
  | succ n ih =>
    intro i h1 h3 S M f H locs ls hr hs hl
    refine lv_iload hx hb dL_law_23 (lv_at hl 4 rfl) ?_
    refine lv_aload_n hx hb dL_law_25 rfl (lv_at hl 0 rfl) ?_
    refine va_slen hx hb hX hbl hbA hs.2.2 dL_law_26 ?_
    refine lv_bipush (v := (6 : Int32)) hx hb dL_law_27 (by decide) ?_
    refine lv_isub hx hb dL_law_29 ?_
    refine lv_icmp_gt (tgt := 1519) hx hb dL_law_30 (by decide) (fun hc9 => ?_) (fun hc9 => ?_)
    · refine lv_iconst (v := 1) hx hb dL_law_1519 (by decide) ?_
      refine va_forget (fun q hq => hs.2.2.2.2 q hq) ?_
      refine W.widen (k := 601024) (n := 7293034) (by omega) (by omega) ?_
      exact lw_ret hx hb hrt hlocks dL_law_1520
    have h6 : i + 6 ≤ L := le6 hL h3 hc9
    have kont : ∀ (S' : XS) (M' : MS) (f' : Fin 1 → Int64) (H : Heap) (locs : List Loc) (ls : Array Slot), Rel S' M' → SI G (fun q : Nat => s.heap.size ≤ q) s H locs (WW G a a2 o S' M' f') → lv_has ls 7 (LVs b a a2 o i) → W p l e room_1 s m #[Value.ref b] below meth c H locs (200 + i + 1) (5000 + 6 * i + 6) (lw_Z below #[Value.ref b] s) (F0 m 1513 ls []) := by
      intro S' M' f' H locs ls hr hs hl
      refine lv_iinc (v := nI (i + 6)) (lv' := [(4, .int (nI (i + 6))), (0, .ref b), (1, .ref (a 0)), (2, .ref (a2 0)), (3, .ref o)]) hx hb dL_law_1513 hl (k := 4) rfl (nI_add i 6) (by decide) rfl (fun ls hl => ?_)
      refine lv_goto (tgt := 23) hx hb dL_law_1516 (by decide) ?_
      refine W.widen (k := 200 + (i + 6)) (n := 5000 + 6 * (i + 6)) (by omega) (by omega) ?_
      exact ih (i + 6) (by omega) (by omega) S' M' f' H locs ls hr hs (lv_sub hl [1, 2, 3, 4, 0] rfl)
    refine lv_aload_n hx hb dL_law_33 rfl (lv_at hl 0 rfl) ?_
    refine lv_iload hx hb dL_law_34 (lv_at hl 4 rfl) ?_
    refine va_sld hx hb hX hbl hbA hs.2.2 (vp_in_nI (by omega) (by omega)) dL_law_36 ?_
    refine lv_bipush (v := (63 : Int32)) hx hb dL_law_37 (by decide) ?_
    refine lv_iand hx hb dL_law_39 ?_
    generalize (xs (nI i).toNatClampNeg &&& (63 : Int32)) = x
    by_cases h9 : x.toInt < 0 ∨ 37 < x.toInt
    · refine lv_tableOut (tgt := 1513) hx hb dL_law_40 h9 (by decide) ?_
      exact W.widen (Nat.le_add_right _ 1) (Nat.le_add_right _ 6) (kont S M f H locs ls hr hs hl)
    · have h90 : ¬ x.toInt < 0 := fun h => h9 (Or.inl h)
      have h91 : ¬ 37 < x.toInt := fun h => h9 (Or.inr h)
      obtain ⟨k, hk⟩ : ∃ k : Nat, x.toInt = (k : Int) := ⟨x.toInt.toNat, by omega⟩
      have hk37 : k ≤ 37 := by omega
      match k, hk, hk37 with
      | 0, hk, _ => exact lv_tableIn (tgt := 208) hx hb dL_law_40 (by rw [hk]; decide) (by rw [hk]; decide) (by rw [hk]; rfl) (by decide) (k_0 K h6 hL hr hs hl (by omega) (by omega) kont)
      | 1, hk, _ => exact lv_tableIn (tgt := 281) hx hb dL_law_40 (by rw [hk]; decide) (by rw [hk]; decide) (by rw [hk]; rfl) (by decide) (k_1 K h6 hL hr hs hl (by omega) (by omega) kont)
      | 2, hk, _ => exact lv_tableIn (tgt := 306) hx hb dL_law_40 (by rw [hk]; decide) (by rw [hk]; decide) (by rw [hk]; rfl) (by decide) (k_2 K h6 hL hr hs hl (by omega) (by omega) kont)
      | 3, hk, _ => exact lv_tableIn (tgt := 319) hx hb dL_law_40 (by rw [hk]; decide) (by rw [hk]; decide) (by rw [hk]; rfl) (by decide) (k_3 K h6 hL hr hs hl (by omega) (by omega) kont)
      | 4, hk, _ => exact lv_tableIn (tgt := 332) hx hb dL_law_40 (by rw [hk]; decide) (by rw [hk]; decide) (by rw [hk]; rfl) (by decide) (k_4 K h6 hL hr hs hl (by omega) (by omega) kont)
      | 5, hk, _ => exact lv_tableIn (tgt := 357) hx hb dL_law_40 (by rw [hk]; decide) (by rw [hk]; decide) (by rw [hk]; rfl) (by decide) (k_5 K h6 hL hr hs hl (by omega) (by omega) kont)
      | 6, hk, _ => exact lv_tableIn (tgt := 394) hx hb dL_law_40 (by rw [hk]; decide) (by rw [hk]; decide) (by rw [hk]; rfl) (by decide) (k_6 K h6 hL hr hs hl (by omega) (by omega) kont)
      | 7, hk, _ => exact lv_tableIn (tgt := 431) hx hb dL_law_40 (by rw [hk]; decide) (by rw [hk]; decide) (by rw [hk]; rfl) (by decide) (k_7 K h6 hL hr hs hl (by omega) (by omega) kont)
      | 8, hk, _ => exact lv_tableIn (tgt := 468) hx hb dL_law_40 (by rw [hk]; decide) (by rw [hk]; decide) (by rw [hk]; rfl) (by decide) (k_8 K h6 hL hr hs hl (by omega) (by omega) kont)
      | 9, hk, _ => exact lv_tableIn (tgt := 505) hx hb dL_law_40 (by rw [hk]; decide) (by rw [hk]; decide) (by rw [hk]; rfl) (by decide) (k_9 K h6 hL hr hs hl (by omega) (by omega) kont)
      | 10, hk, _ => exact lv_tableIn (tgt := 555) hx hb dL_law_40 (by rw [hk]; decide) (by rw [hk]; decide) (by rw [hk]; rfl) (by decide) (k_10 K h6 hL hr hs hl (by omega) (by omega) kont)
      | 11, hk, _ => exact lv_tableIn (tgt := 581) hx hb dL_law_40 (by rw [hk]; decide) (by rw [hk]; decide) (by rw [hk]; rfl) (by decide) (k_11 K h6 hL hr hs hl (by omega) (by omega) kont)
      | 12, hk, _ => exact lv_tableIn (tgt := 618) hx hb dL_law_40 (by rw [hk]; decide) (by rw [hk]; decide) (by rw [hk]; rfl) (by decide) (k_12 K h6 hL hr hs hl (by omega) (by omega) kont)
      | 13, hk, _ => exact lv_tableIn (tgt := 655) hx hb dL_law_40 (by rw [hk]; decide) (by rw [hk]; decide) (by rw [hk]; rfl) (by decide) (k_13 K h6 hL hr hs hl (by omega) (by omega) kont)
      | 14, hk, _ => exact lv_tableIn (tgt := 693) hx hb dL_law_40 (by rw [hk]; decide) (by rw [hk]; decide) (by rw [hk]; rfl) (by decide) (k_14 K h6 hL hr hs hl (by omega) (by omega) kont)
      | 15, hk, _ => exact lv_tableIn (tgt := 731) hx hb dL_law_40 (by rw [hk]; decide) (by rw [hk]; decide) (by rw [hk]; rfl) (by decide) (k_15 K h6 hL hr hs hl (by omega) (by omega) kont)
      | 16, hk, _ => exact lv_tableIn (tgt := 756) hx hb dL_law_40 (by rw [hk]; decide) (by rw [hk]; decide) (by rw [hk]; rfl) (by decide) (k_16 K h6 hL hr hs hl (by omega) (by omega) kont)
      | 17, hk, _ => exact lv_tableIn (tgt := 794) hx hb dL_law_40 (by rw [hk]; decide) (by rw [hk]; decide) (by rw [hk]; rfl) (by decide) (k_17 K h6 hL hr hs hl (by omega) (by omega) kont)
      | 18, hk, _ => exact lv_tableIn (tgt := 832) hx hb dL_law_40 (by rw [hk]; decide) (by rw [hk]; decide) (by rw [hk]; rfl) (by decide) (k_18 K h6 hL hr hs hl (by omega) (by omega) kont)
      | 19, hk, _ => exact lv_tableIn (tgt := 858) hx hb dL_law_40 (by rw [hk]; decide) (by rw [hk]; decide) (by rw [hk]; rfl) (by decide) (k_19 K h6 hL hr hs hl (by omega) (by omega) kont)
      | 20, hk, _ => exact lv_tableIn (tgt := 896) hx hb dL_law_40 (by rw [hk]; decide) (by rw [hk]; decide) (by rw [hk]; rfl) (by decide) (k_20 K h6 hL hr hs hl (by omega) (by omega) kont)
      | 21, hk, _ => exact lv_tableIn (tgt := 921) hx hb dL_law_40 (by rw [hk]; decide) (by rw [hk]; decide) (by rw [hk]; rfl) (by decide) (k_21 K h6 hL hr hs hl (by omega) (by omega) kont)
      | 22, hk, _ => exact lv_tableIn (tgt := 947) hx hb dL_law_40 (by rw [hk]; decide) (by rw [hk]; decide) (by rw [hk]; rfl) (by decide) (k_22 K h6 hL hr hs hl (by omega) (by omega) kont)
      | 23, hk, _ => exact lv_tableIn (tgt := 960) hx hb dL_law_40 (by rw [hk]; decide) (by rw [hk]; decide) (by rw [hk]; rfl) (by decide) (k_23 K h6 hL hr hs hl (by omega) (by omega) kont)
      | 24, hk, _ => exact lv_tableIn (tgt := 1010) hx hb dL_law_40 (by rw [hk]; decide) (by rw [hk]; decide) (by rw [hk]; rfl) (by decide) (k_24 K h6 hL hr hs hl (by omega) (by omega) kont)
      | 25, hk, _ => exact lv_tableIn (tgt := 1059) hx hb dL_law_40 (by rw [hk]; decide) (by rw [hk]; decide) (by rw [hk]; rfl) (by decide) (k_25 K h6 hL hr hs hl (by omega) (by omega) kont)
      | 26, hk, _ => exact lv_tableIn (tgt := 1121) hx hb dL_law_40 (by rw [hk]; decide) (by rw [hk]; decide) (by rw [hk]; rfl) (by decide) (k_26 K h6 hL hr hs hl (by omega) (by omega) kont)
      | 27, hk, _ => exact lv_tableIn (tgt := 1135) hx hb dL_law_40 (by rw [hk]; decide) (by rw [hk]; decide) (by rw [hk]; rfl) (by decide) (k_27 K h6 hL hr hs hl (by omega) (by omega) kont)
      | 28, hk, _ => exact lv_tableIn (tgt := 1184) hx hb dL_law_40 (by rw [hk]; decide) (by rw [hk]; decide) (by rw [hk]; rfl) (by decide) (k_28 K h6 hL hr hs hl (by omega) (by omega) kont)
      | 29, hk, _ => exact lv_tableIn (tgt := 1245) hx hb dL_law_40 (by rw [hk]; decide) (by rw [hk]; decide) (by rw [hk]; rfl) (by decide) (k_29 K h6 hL hr hs hl (by omega) (by omega) kont)
      | 30, hk, _ => exact lv_tableIn (tgt := 1270) hx hb dL_law_40 (by rw [hk]; decide) (by rw [hk]; decide) (by rw [hk]; rfl) (by decide) (k_30 K h6 hL hr hs hl (by omega) (by omega) kont)
      | 31, hk, _ => exact lv_tableIn (tgt := 1319) hx hb dL_law_40 (by rw [hk]; decide) (by rw [hk]; decide) (by rw [hk]; rfl) (by decide) (k_31 K h6 hL hr hs hl (by omega) (by omega) kont)
      | 32, hk, _ => exact lv_tableIn (tgt := 1356) hx hb dL_law_40 (by rw [hk]; decide) (by rw [hk]; decide) (by rw [hk]; rfl) (by decide) (k_32 K h6 hL hr hs hl (by omega) (by omega) kont)
      | 33, hk, _ => exact lv_tableIn (tgt := 1369) hx hb dL_law_40 (by rw [hk]; decide) (by rw [hk]; decide) (by rw [hk]; rfl) (by decide) (k_33 K h6 hL hr hs hl (by omega) (by omega) kont)
      | 34, hk, _ => exact lv_tableIn (tgt := 1394) hx hb dL_law_40 (by rw [hk]; decide) (by rw [hk]; decide) (by rw [hk]; rfl) (by decide) (k_34 K h6 hL hr hs hl (by omega) (by omega) kont)
      | 35, hk, _ => exact lv_tableIn (tgt := 1419) hx hb dL_law_40 (by rw [hk]; decide) (by rw [hk]; decide) (by rw [hk]; rfl) (by decide) (k_35 K h6 hL hr hs hl (by omega) (by omega) kont)
      | 36, hk, _ => exact lv_tableIn (tgt := 1487) hx hb dL_law_40 (by rw [hk]; decide) (by rw [hk]; decide) (by rw [hk]; rfl) (by decide) (k_36 K h6 hL hr hs hl (by omega) (by omega) kont)
      | 37, hk, _ => exact lv_tableIn (tgt := 1500) hx hb dL_law_40 (by rw [hk]; decide) (by rw [hk]; decide) (by rw [hk]; rfl) (by decide) (k_37 K h6 hL hr hs hl (by omega) (by omega) kont)
      | k + 38, _, h => exact absurd h (by omega)
set_option maxHeartbeats 4000000 in
set_option maxRecDepth 100000 in
theorem whole_start {p : Program} {e : Env} {s : State} {m : MethodId} {below : List Frame} {meth : Method} {c : Code} (l : Launch) (hflags : l.flags = flags0) {b L : Nat} {xs : Nat → Int32} (hL : L ≤ 3072) (C0 : lw_At p s m meth c b L xs) : W p l e room_1 s m #[Value.ref b] below meth c s.heap [] 0 0 (lw_Z below #[Value.ref b] s) (entryFrame m ([Value.ref b] : List Value).toArray 7) := by
  obtain ⟨hx, hb, hrt, hml, hown, htt, hX, hbl, hlocks, hgv⟩ := id C0
  obtain ⟨G, hE⟩ := start_ev htt hgv
  have hA : ∀ q : Nat, s.heap.size ≤ q → (fun q : Nat => s.heap.size ≤ q) q := fun _ h => h
  have hbA : ¬ (fun q : Nat => s.heap.size ≤ q) b := Nat.not_le.mpr hbl
  have hA0 : ∀ q : Nat, q < s.heap.size → ¬ (fun q : Nat => s.heap.size ≤ q) q := fun q h => Nat.not_le.mpr h
  have hts : ∀ w ∈ GW, w.before #[Value.ref b] s = true := fun w h => htt w (List.mem_filter.mp h).1
  have hown : s.vm.findClass RL = some m.cls := hown
  have hf : ∀ w ∈ FL, w.before #[Value.ref b] s = true := flat_of_before _ hgv
  have hfl : l.stackTraces = false := by unfold Launch.stackTraces; rw [hflags]; decide
  have hAO : va_AO "BothToBlame$Told" s := va_AO.of (htt (.arrayOver (.object "BothToBlame$Told")) (List.mem_of_getElem? (i := 259) (by decide +kernel)))
  have hZ : ZX (fun q : Nat => s.heap.size ≤ q) s s.heap := ⟨vx_Zqof (htt _ (List.mem_of_getElem? (i := 908) (by decide +kernel))) (htt _ (by decide +kernel)) (hf _ (by decide +kernel)) hA0, vx_Zqof (htt _ (List.mem_of_getElem? (i := 910) (by decide +kernel))) (htt _ (by decide +kernel)) (hf _ (by decide +kernel)) hA0, fun w hw => va_Nw.of (bw_o w hw) (htt w (bw_t w hw))⟩
  have K : LAWK p l s m c b L xs G (fun q : Nat => s.heap.size ≤ q) := ⟨hx, hb, hml, hown, hts, hE, hZ, hA, hX, hbl, hbA, hfl⟩
  have hs : SI G (fun q : Nat => s.heap.size ≤ q) s s.heap [] [] := ⟨fun k q h => by simp at h, ⟨fun i j p q h => by simp at h, fun k q h => by simp at h⟩, va_S.rf⟩
  have hl := lv_entry ([.ref b]) (n := 7) (Nat.le_of_ble_eq_true rfl)
  rw [lg_entry_eq]
  generalize (lg_sl ([.ref b]) ++ List.replicate (7 - (lg_sl ([.ref b])).length) Slot.unset).toArray = ls at hl ⊢
  have hl : lv_has ls 7 [(0, .ref b)] := hl
  refine sx_new (ci := 3) (fs := [.null, .null, .null, .null, .null, .null, .int 0, .int 0, .int 0, .int 0, .int 0, .int 0]) (C := RX4) (T := TX4) (N := 12) hx hb inGX4 tyX4 tyX4_ok hown gcl8 gin4 gi_X4 hts hE hs hA rfl (fun j hj => by rcases (show j = 0 ∨ j = 1 ∨ j = 2 ∨ j = 3 ∨ j = 4 ∨ j = 5 ∨ j = 6 ∨ j = 7 ∨ j = 8 ∨ j = 9 ∨ j = 10 ∨ j = 11 by omega) with rfl | rfl | rfl | rfl | rfl | rfl | rfl | rfl | rfl | rfl | rfl | rfl <;> rfl) (Nat.le_of_ble_eq_true rfl) (Nat.le_of_ble_eq_true rfl) dL_law_0 (fun q H hs => ?_)
  refine lv_dup hx hb dL_law_3 rfl ?_
  refine sx_IJ (wr := ([] : va_W)) (rest := [.ref q]) (c_X4_init G l q) vj_15 ⟨(Nat.le_of_ble_eq_true rfl), (Nat.le_of_ble_eq_true rfl)⟩ hx hb hml hown hts hE hAO hA hs ⟨(Nat.le_of_ble_eq_true rfl), (Nat.le_of_ble_eq_true rfl)⟩ rfl hl.1 (Nat.le_of_ble_eq_true rfl) dL_law_4 (List.Perm.refl _) (fun w1 H locs hw hs2 => ?_)
  obtain ⟨a, ea, rfl⟩ := hw
  subst ea
  have hs : SI G (fun q : Nat => s.heap.size ≤ q) s H locs (WX G a X00) := hs2
  refine lv_astore_n (lv' := [(1, .ref (a 0)), (0, .ref b)]) hx hb dL_law_7 rfl hl (by decide) rfl (fun ls hl => ?_)
  refine sx_new (ci := 4) (fs := [.int 0, .int 0, .int 0, .int 0, .int 0, .null, .null, .null, .null, .int 0, .null, .null, .null, .null, .null, .int 0, .int 0, .int 0, .int 0, .int 0, .int 0, .int 0, .long 0, .int 0, .int 0, .int 0, .null, .null, .null, .long 0]) (C := RX5) (T := TX5) (N := 30) hx hb inGX5 tyX5 tyX5_ok hown gcl16 gin5 gi_X5 hts hE hs hA rfl (fun j hj => fs5 j hj) (Nat.le_of_ble_eq_true rfl) (Nat.le_of_ble_eq_true rfl) dL_law_8 (fun q H hs => ?_)
  refine lv_dup hx hb dL_law_11 rfl ?_
  refine sx_IJ (wr := WX G a X00) (rest := [.ref q]) (c_X5_init G l q) vj_18 ⟨(Nat.le_of_ble_eq_true rfl), (Nat.le_of_ble_eq_true rfl)⟩ hx hb hml hown hts hE hAO hA hs ⟨(Nat.le_of_ble_eq_true rfl), (Nat.le_of_ble_eq_true rfl)⟩ rfl hl.1 (Nat.le_of_ble_eq_true rfl) dL_law_12 List.perm_append_comm (fun w1 H locs hw hs2 => ?_)
  obtain ⟨a2, ea, rfl⟩ := hw
  subst ea
  have hs : SI G (fun q : Nat => s.heap.size ≤ q) s H locs (WX G a X00 ++ WM G a2 M00) := hs2
  refine lv_astore_n (lv' := [(2, .ref (a2 0)), (1, .ref (a 0)), (0, .ref b)]) hx hb dL_law_15 rfl hl (by decide) rfl (fun ls hl => ?_)
  refine lv_iconst (v := (1 : Int32)) hx hb dL_law_16 (by decide) ?_
  refine sx_newJ (N := 1) hx hb hts hE hs hA gaJ (by decide) rfl (Nat.le_of_ble_eq_true rfl) (Nat.le_of_ble_eq_true rfl) (Nat.le_of_ble_eq_true rfl) dL_law_17 (fun o H hs => ?_)
  have hs : SI G (fun q : Nat => s.heap.size ≤ q) s H locs (WW G a a2 o X00 M00 (fun _ => 0)) := sx_perm hs (pw3 _ _ _)
  refine lv_astore_n (lv' := [(3, .ref o), (2, .ref (a2 0)), (1, .ref (a 0)), (0, .ref b)]) hx hb dL_law_19 rfl hl (by decide) rfl (fun ls hl => ?_)
  refine lv_iconst (v := (0 : Int32)) hx hb dL_law_20 (by decide) ?_
  refine lv_istore (lv' := [(4, .int (0 : Int32)), (3, .ref o), (2, .ref (a2 0)), (1, .ref (a 0)), (0, .ref b)]) hx hb dL_law_21 hl (by decide) rfl (fun ls hl => ?_)
  refine W.widen (k := 200 + 0) (n := 5000 + 6 * 0) (Nat.le_of_ble_eq_true rfl) (Nat.le_of_ble_eq_true rfl) ?_
  exact law_loop hL C0 K (L + 1) 0 (by omega) (by omega) X00 M00 (fun _ => 0) H locs ls rel0 hs (lv_sub hl [4, 3, 2, 1, 0] rfl)
-- ===== YOUR PART ENDS =====
set_option maxHeartbeats 4000000 in
theorem lw_walk (l : Launch) (hflags : l.flags = flags0) (b : Addr) (xs : List Int32) : MetFree l x (headSpec (Jvm.Cond.code x code maxLocals ret :: tables_1) room_1) (lw_P b xs) (fun _ _ _ _ _ => True) lw_Q := by
  refine MetFree.of_bodyS (code := code) (maxLocals := maxLocals) (ret := ret) (by decide) ?_ ?_
  · intro args s m h hn
    obtain ⟨meth, c, h1, h2, h3, h4, h5, h6, -, -⟩ := Cond.code_spec hn (atoms_spec (ws := Jvm.Cond.code x code maxLocals ret :: tables_1) h _ List.mem_cons_self)
    exact ⟨meth, c, h1, h2, h3, h4, h5, h6⟩
  · intro p e s m args below meth c s₁ B hml0 hP _
    obtain ⟨rfl, hx, hbd, hgv⟩ := hP
    obtain ⟨scr, harrAt, hlist, hof, hsmall⟩ := hx
    obtain ⟨hcb, hkn, -, -⟩ := State.arrayAt?_spec harrAt
    have hown : s.vm.findClass R_law = some m.cls := findClass_of_methodNamed B.named
    have hts0 : ∀ c ∈ (Jvm.Cond.code x code maxLocals ret :: tables_1), c.before #[Value.ref b] s = true := atoms_spec (ws := Jvm.Cond.code x code maxLocals ret :: tables_1) B.pre
    have hts : ∀ w ∈ lw_tbl, w.before #[Value.ref b] s = true := k2_hts_sels lw_privs (fun w hw => hts0 w (List.mem_cons_of_mem _ hw)) lw_privs_ok
    have hml : c.maxLocals = 7 := B.maxLocals_eq (hts0 _ List.mem_cons_self)
    have X₀ : Stand p l e room_1 s m #[Value.ref b] below meth c s₁ [] 0 0 := Stand.of_body B
    have hh0 : s₁.heap = s.heap := by rw [B.state]; rfl
    have hsz : scr.slots.size = xs.length := by rw [← Array.length_toList, hlist, List.length_map]
    have hval : ∀ j : Nat, j < xs.length → scr.slots[j]? = some (.int (xs.getD j 0)) := fun j hj => by
      rw [← Array.getElem?_toList, hlist]
      simp [hj]
    have hbl : b < s.heap.size := (Array.getElem?_eq_some_iff.mp hcb).1
    have hX : va_X b xs.length (fun j => xs.getD j 0) s s.heap := ⟨scr, hcb, hof, hkn, hsz, hval⟩
    have K : W p l e room_1 s m #[Value.ref b] below meth c s₁.heap [] 0 0 (lw_Z below #[Value.ref b] s) (entryFrame m ([Value.ref b] : List Value).toArray 7) := by
      rw [hh0]
      exact whole_start l hflags hbd ⟨B.exec, B.bytes, B.returns, hml, hown, hts, hX, hbl, B.notSynchronized, hgv⟩
    obtain ⟨t, a1, o, b1, b2, b3⟩ := K s₁ rfl X₀
    exact ⟨t, o, a1, b1, b2, b3⟩
theorem lw_pre_spec {args : Array Value} {s : State} (h : (Jvm.Cond.and given_1 narrow_1).before args s = true) (hr : rest_1_c.before args s = true) : ∃ (b : Addr) (xs : List Int32), lw_P b xs args s := by
  have hs := flat_of_before _ h
  have hq := flat_of_before _ hr
  have hc : (Cond.count 1).before args s = true := hs _ (by decide +kernel)
  have harr : (Cond.arrayOf (.arg 0) .int).before args s = true := hs _ (by decide +kernel)
  have hle : (Cond.le (.length (.arg 0)) (.int 3072)).before args s = true := hs _ (by decide +kernel)
  have hlen : (Cond.isInt (.length (.arg 0))).before args s = true := hq _ (by decide +kernel)
  have hall : (Cond.all (.arg 0) (.isInt (.elem (.arg 0) (.index 0)))).before args s = true := hq _ (by decide +kernel)
  obtain ⟨b, xs, hb, hx⟩ := State.ints_of_pre rfl harr hlen hall
  have hsm : xs.length < 2 ^ 31 := hx.choose_spec.2.2.2
  have hev : (Term.length (.arg 0)).eval args s none [] s = some (.int xs.length.toInt32) := hx.length_eval hb
  have hv := Cond.le_ints hev (show (Term.int 3072).eval args s none [] s = some (.int 3072) from rfl)
  have hd : xs.length.toInt32 ≤ 3072 := by
    simpa [Cond.before, Cond.holds, hv] using hle
  have hN : xs.length ≤ 3072 := (Int32.ofNat_le_ofNat hsm (by decide)).mp (show Int32.ofNat xs.length ≤ Int32.ofNat 3072 from hd)
  exact ⟨b, xs, Cond.one_arg hc (show args[0]? = some (.ref b) from hb), hx, hN, h⟩
theorem lw_comes (l : Launch) (hflags : l.flags = flags0) : Comes l x (Jvm.Cond.code x code maxLocals ret :: tables_1) room_1 (fun tb e args s => Calls_1 tb e args s ∧ rest_1 tb e args s ∧ Pre_1 tb e args s)
    (fun _ _ args s o t => lw_Q args s o t) := by
  intro p e ha hc hk s m args below hf hfit hheap happ hpre
  obtain ⟨b, xs, hP⟩ := lw_pre_spec hpre.2.2 hpre.2.1
  obtain ⟨k, o, h1, h2, h3, hQ⟩ := lw_walk l hflags b xs p e ha hc hk s m args below hf ((Spec.applies_iff_loose hf).mp happ).1 hP trivial
  exact ⟨k, o, h1, h2, h3, hQ⟩
theorem lw_frame {s t : State} {o : Outcome} {args : Array Value} (h : Framed s o t [] 601024 7293034) :
    Framed s o t (fieldLocs frame_1_writes args s ++ arrayLocs frame_1_arrays args s ++ staticLocs frame_1_statics s) 601024 7293034 := h
theorem lw_limb (L : Cond) (hL : ∀ (args : Array Value) (s t : State), L.after args s (.returned (some (.int 1))) t = true) :
    ArmFor flags0 classFile x code maxLocals ret World_1 tables_1 room_1 Calls_1 rest_1 Pre_1
      (fun tb e a s o t => postC L tb e a s o t ∧ Framed s o t (fieldLocs frame_1_writes a s ++ arrayLocs frame_1_arrays a s ++ staticLocs frame_1_statics s) 601024 7293034) := by
  intro l hflags _ _ p e ha hc hk s m args below hf hfit hheap happ hpre
  obtain ⟨k, o, h1, h2, h3, rfl, hF⟩ := lw_comes l hflags p e ha hc hk s m args below hf hfit hheap happ hpre
  exact ⟨k, _, h1, h2, h3, hL args s _, lw_frame hF⟩
theorem i_vc : Claimed_1_1 ∧ Claimed_1_2 := ⟨lw_limb limb_1_1 (fun args s t => by simp [limb_1_1, Cond.after, Cond.holds, Cond.value]), lw_limb limb_1_2 (fun args s t => Cond.after_iff.mpr (by
  first | (rw [show limb_1_2 = Cond.eq .result (.int 1) from rfl, Cond.eq_ints (x := 1) (y := 1) rfl rfl]; simp; done) | (simp [limb_1_2, Cond.value, Term.eval]; done)))⟩
