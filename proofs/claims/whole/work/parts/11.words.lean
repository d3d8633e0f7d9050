/-! ===== words out of the tables; rows for fields; words of calls ===== -/
theorem inGX0 : ∀ w ∈ wsX00, w ∈ GW := by decide +kernel
theorem inGX1 : ∀ w ∈ wsX10, w ∈ GW := by decide +kernel
theorem inGX2 : ∀ w ∈ wsX20, w ∈ GW := by decide +kernel
theorem inGX4 : ∀ w ∈ wsX40, w ∈ GW := by decide +kernel
theorem inGX5 : ∀ w ∈ wsX50, w ∈ GW := by decide +kernel
def sAf (k : Nat) : Fin (sA_v k).length → Int32 := fun j => (sA_v k).getD j.1 0
theorem sx_sald {p : Program} {l : Launch} {e : Env} {R : Room} {s : State} {m : MethodId} {args : Array Value} {below : List Frame} {meth : Method} {c : Code} {H : Heap} {locs : List Loc} {cells slots : Nat} {Q : State → Prop} {cc : ByteArray} {pc : Nat} {ls : Array Slot} {rest : List Value} {A : Nat → Prop} {G : GT} {ws : va_W} (hx : p.tables.exec = Jvm.exec) (hb : c.code = cc) (hE : EV G A s s.heap) (hs : SI G A s H locs ws) (k : Nat) (hk : k < 5) {i v : Int32} (hv : rdI (sAf k) i = some v) (hdg : decode cc pc = .ok (.iaload, 1))
    (kk : W p l e R s m args below meth c H locs cells slots Q (F0 m (pc + 1) ls (.int v :: rest))) : W p l e R s m args below meth c H locs cells slots Q (F0 m pc ls (.int i :: .ref (G.2.2.1 k) :: rest)) := by
  obtain ⟨h1, h2⟩ := rdI_some hv
  refine va_ti hx hb (hE.2.2.1 k hk).2 hs.2.2 h1 (v := .int v) ?_ hdg kk
  show Value.int _ = Value.int v
  rw [← h2]
  have h3 : i.toNatClampNeg < (sA_v k).length := Nat.not_le.mp fun q => h1 (Or.inr q)
  simp [exI, sAf, h3]
theorem sx_copyi {p : Program} {l : Launch} {e : Env} {R : Room} {s : State} {m : MethodId} {args : Array Value} {below : List Frame} {meth : Method} {c : Code} {H : Heap} {locs : List Loc} {cells slots : Nat} {Q : State → Prop} {cc : ByteArray} {pc : Nat} {ls : Array Slot} {rest : List Value} {A : Nat → Prop} {G : GT} {ws ws' : va_W} {a a0 n0 n1 : Nat} (hx : p.tables.exec = Jvm.exec) (hb : c.code = cc) (hml : c.maxLocals = ls.size) {own : String} {index : Nat} (hown : s.vm.findClass own = some m.cls) (hlink : (Cond.methodLink own index arraycopyName).before args s = true) (hnat : (Cond.native arraycopyName).before args s = true) (hstat : (Cond.static arraycopyName).before args s = true) (hini : (Cond.initialized "java/lang/System").before args s = true) (hE : EV G A s s.heap) (hs : SI G A s H locs ws) (q0 q1 : Nat) {f : Fin n0 → Int32} {g g2 : Fin n1 → Int32} (ha0 : ws[q0]? = some (a0, .inl (G.2.1 0, n0, .inl (exI f)))) (ha1 : ws[q1]? = some (a, .inl (G.2.1 0, n1, .inl (exI g)))) {sp dp n : Int32} (hc : cpI (n0 := n0) (exI f) g sp dp n = some g2) (hw : ws.set q1 (a, .inl (G.2.1 0, n1, .inl (exI g2))) = ws') (hframes : 1 ≤ R.frames) (hlocals : (rest.map fun v => v.category).sum + (nativeFrameWords "java/lang/System" "arraycopy" 5 + 11) ≤ R.locals) (hdg : decode cc pc = .ok (.invokestatic index, 3))
    (kk : ∀ (H1 : Heap) (locs1 : List Loc), SI G A s H1 locs1 ws' → W p l e R s m args below meth c H1 locs1 cells slots Q (F0 m (pc + 3) ls rest)) : W p l e R s m args below meth c H locs cells slots Q (F0 m pc ls (.int n :: .int dp :: .ref a :: .int sp :: .ref a0 :: rest)) := by
  obtain ⟨h1, h2⟩ := cpI_some hc
  obtain ⟨k1, k2, k3, k4, k5⟩ := cpOK_in h1
  subst hw
  refine va_copyi hx hb hml hown hlink hnat hstat hini hE.1 hs.1 hs.2.1 hs.2.2 q0 q1 0 0 ha0 ha1 rfl rfl rfl k1 k2 k3 k4 k5 (fun i _ => rfl) hframes hlocals hdg (fun H1 locs1 hP hD hS => ?_)
  rw [h2] at hP hD
  exact kk H1 locs1 ⟨hP, hD, hS⟩
theorem sx_copyl {p : Program} {l : Launch} {e : Env} {R : Room} {s : State} {m : MethodId} {args : Array Value} {below : List Frame} {meth : Method} {c : Code} {H : Heap} {locs : List Loc} {cells slots : Nat} {Q : State → Prop} {cc : ByteArray} {pc : Nat} {ls : Array Slot} {rest : List Value} {A : Nat → Prop} {G : GT} {ws ws' : va_W} {a a0 n0 n1 : Nat} (hx : p.tables.exec = Jvm.exec) (hb : c.code = cc) (hml : c.maxLocals = ls.size) {own : String} {index : Nat} (hown : s.vm.findClass own = some m.cls) (hlink : (Cond.methodLink own index arraycopyName).before args s = true) (hnat : (Cond.native arraycopyName).before args s = true) (hstat : (Cond.static arraycopyName).before args s = true) (hini : (Cond.initialized "java/lang/System").before args s = true) (hE : EV G A s s.heap) (hs : SI G A s H locs ws) (q0 q1 : Nat) {f : Fin n0 → Int64} {g g2 : Fin n1 → Int64} (ha0 : ws[q0]? = some (a0, .inl (G.2.1 1, n0, .inr (.inl (exL f))))) (ha1 : ws[q1]? = some (a, .inl (G.2.1 1, n1, .inr (.inl (exL g))))) {sp dp n : Int32} (hc : cpL (n0 := n0) (exL f) g sp dp n = some g2) (hw : ws.set q1 (a, .inl (G.2.1 1, n1, .inr (.inl (exL g2)))) = ws') (hframes : 1 ≤ R.frames) (hlocals : (rest.map fun v => v.category).sum + (nativeFrameWords "java/lang/System" "arraycopy" 5 + 11) ≤ R.locals) (hdg : decode cc pc = .ok (.invokestatic index, 3))
    (kk : ∀ (H1 : Heap) (locs1 : List Loc), SI G A s H1 locs1 ws' → W p l e R s m args below meth c H1 locs1 cells slots Q (F0 m (pc + 3) ls rest)) : W p l e R s m args below meth c H locs cells slots Q (F0 m pc ls (.int n :: .int dp :: .ref a :: .int sp :: .ref a0 :: rest)) := by
  obtain ⟨h1, h2⟩ := cpL_some hc
  obtain ⟨k1, k2, k3, k4, k5⟩ := cpOK_in h1
  subst hw
  refine va_copyl hx hb hml hown hlink hnat hstat hini hE.1 hs.1 hs.2.1 hs.2.2 q0 q1 1 1 ha0 ha1 rfl rfl rfl k1 k2 k3 k4 k5 (fun i _ => rfl) hframes hlocals hdg (fun H1 locs1 hP hD hS => ?_)
  rw [h2] at hP hD
  exact kk H1 locs1 ⟨hP, hD, hS⟩
theorem sx_copyt {p : Program} {l : Launch} {e : Env} {R : Room} {s : State} {m : MethodId} {args : Array Value} {below : List Frame} {meth : Method} {c : Code} {H : Heap} {locs : List Loc} {cells slots : Nat} {Q : State → Prop} {cc : ByteArray} {pc : Nat} {ls : Array Slot} {rest : List Value} {A : Nat → Prop} {G : GT} {ws ws' : va_W} {a n1 : Nat} (hx : p.tables.exec = Jvm.exec) (hb : c.code = cc) (hml : c.maxLocals = ls.size) {own : String} {index : Nat} (hown : s.vm.findClass own = some m.cls) (hlink : (Cond.methodLink own index arraycopyName).before args s = true) (hnat : (Cond.native arraycopyName).before args s = true) (hstat : (Cond.static arraycopyName).before args s = true) (hini : (Cond.initialized "java/lang/System").before args s = true) (hE : EV G A s s.heap) (hs : SI G A s H locs ws) (k : Nat) (hk : k < 5) {n0 : Nat} (hn0 : (sA_v k).length = n0) (q1 : Nat) {g g2 : Fin n1 → Int32} (ha1 : ws[q1]? = some (a, .inl (G.2.1 0, n1, .inl (exI g)))) {sp dp n : Int32} (hc : cpI (n0 := n0) (exI (sAf k)) g sp dp n = some g2) (hw : ws.set q1 (a, .inl (G.2.1 0, n1, .inl (exI g2))) = ws') (hframes : 1 ≤ R.frames) (hlocals : (rest.map fun v => v.category).sum + (nativeFrameWords "java/lang/System" "arraycopy" 5 + 11) ≤ R.locals) (hdg : decode cc pc = .ok (.invokestatic index, 3))
    (kk : ∀ (H1 : Heap) (locs1 : List Loc), SI G A s H1 locs1 ws' → W p l e R s m args below meth c H1 locs1 cells slots Q (F0 m (pc + 3) ls rest)) : W p l e R s m args below meth c H locs cells slots Q (F0 m pc ls (.int n :: .int dp :: .ref a :: .int sp :: .ref (G.2.2.1 k) :: rest)) := by
  obtain ⟨h01, h02⟩ := cpI_some hc
  obtain ⟨h1, h2, h3, h4, h5⟩ := cpOK_in h01
  subst hw
  subst hn0
  obtain ⟨hP, hD, hS⟩ := hs
  have nn : ∀ z : Int32, ¬ z < 0 → z.toInt = (z.toNatClampNeg : Int) := by
    intro z hz
    have hz0 : (0 : Int) ≤ z.toInt := by
      have := Int32.not_lt.mp hz
      simpa using Int32.le_iff_toInt_le.mp this
    show z.toInt = ((z.toInt.toNat : Nat) : Int)
    omega
  intro T hT X
  obtain ⟨scr, hs1, hs2, hs3, hs4, -, hs5, hs7⟩ := (hE.2.2.1 k hk).2
  have hs5 : ∀ j : Nat, j < (sA_v k).length → scr.slots[j]? = some (.int (exI (sAf k) j)) := fun j hj => by
    rw [hs5 j hj]
    simp [exI, sAf, hj]
  have hc0 : H[G.2.2.1 k]? = some scr := by rw [hS.2.1 _ (Array.getElem?_eq_some_iff.mp hs1).1 hs7]; exact hs1
  have hc1 : H[a]? = some (vp_cell (G.2.1 0) (n1, .inl (exI g))) := hP q1 _ ha1
  obtain ⟨hs6, k0, hk0, cm0, hkk0⟩ := hs2
  obtain ⟨-, k1, hk1, cm1, hkk1⟩ := (hE.1.2 0 _ rfl).1 n1 (fun j => .int (exI g j))
  obtain ⟨vm', X', step⟩ := X.arraycopy hx hown hlink hnat hstat hini (src := G.2.2.1 k) (dst := a) (cs := scr) (cd := vp_cell (G.2.1 0) (n1, .inl (exI g))) (srcPos := sp) (destPos := dp) (n := n) (by rw [hT]; exact hc0) (by rw [hT]; exact hc1)
    hs6 (fun _ h => by cases h) hs3 (fun h => by cases h) hk0 hk1 hkk0 hkk1 (by simp [refKind]) h1 h2 h3
    (by rw [nn sp h1, nn n h3]; omega)
    (by rw [nn dp h2, nn n h3]; show ¬ _ > ((arrV (G.2.1 0) n1 (fun j => .int (exI g j))).slots.size : Int); rw [arrV_size]; omega)
    (fun vm₁ _ i hi => by
      have e : scr.slots.getD (sp.toNatClampNeg + i) .null = .int (exI (sAf k) (sp.toNatClampNeg + i)) := by
        rw [Array.getD_eq_getD_getElem?, hs5 _ (by omega)]
        rfl
      refine ⟨?_, ?_⟩
      · rw [e]
        rfl
      · rw [e]
        exact trivial)
    (g := F0 m pc ls (.int n :: .int dp :: .ref a :: .int sp :: .ref (G.2.2.1 k) :: rest)) rfl (by rw [hml]) (rest := rest) rfl (by rw [hb]; exact hdg) hframes (by show 2 * 0 + _ + _ ≤ _; omega)
  have e1 : copied scr (vp_cell (G.2.1 0) (n1, .inl (exI g))) sp dp n = vp_cell (G.2.1 0) (n1, .inl (exI g2)) := by
    rw [← h02]
    exact va_copiedX (fun z => .int z) scr (G.2.1 0) (exI (sAf k)) (exI g) hs5 h4
  rw [e1] at X' step
  have hl : a < H.size := (Array.getElem?_eq_some_iff.mp hc1).1
  have hheap : ((T.setVm vm').setCell a (vp_cell (G.2.1 0) (n1, .inl (exI g2)))).heap = H.setIfInBounds a (vp_cell (G.2.1 0) (n1, .inl (exI g2))) := by rw [← hT]; rfl
  have oq : ∀ q : Nat, q ≠ a → (H.setIfInBounds a (vp_cell (G.2.1 0) (n1, .inl (exI g2))))[q]? = H[q]? := fun q hq => by simp [Array.getElem?_setIfInBounds, Ne.symm hq]
  obtain ⟨t, a1, b1⟩ := kk _ _ ⟨hP.set hD ha1 (show (H.setIfInBounds a _)[a]? = some _ by simp [Array.getElem?_setIfInBounds, hl]) oq, hD.set ha1, by simp; exact hS.1, fun q g1 g2 => by
      rw [oq q (fun e => g2 (by rw [e]; exact hD.2 q1 _ ha1))]
      exact hS.2.1 q g1 g2, fun q hq => by
      rcases List.mem_append.mp hq with h | h
      · exact hS.2.2 q h
      · obtain ⟨z, -, hz⟩ := List.mem_map.mp h
        rw [← hz]
        exact hD.2 q1 _ ha1⟩ _ hheap X'
  exact ⟨t, step t a1, b1⟩
theorem sw_out {x : Int32} {lo hi : Int} (h : ∀ z : Int, lo ≤ z → z ≤ hi → x.toInt ≠ z) : x.toInt < lo ∨ hi < x.toInt := by
  by_cases h1 : x.toInt < lo
  · exact Or.inl h1
  · by_cases h2 : hi < x.toInt
    · exact Or.inr h2
    · exact absurd rfl (h x.toInt (by omega) (by omega))

theorem g16 : Cond.selects RX2 yX2_setShip yX2_setShip ∈ GW := gw_in (List.mem_of_getElem? (i := 16) (by decide +kernel)) (by decide +kernel)
theorem g26 : Cond.selects RX2 yX2_ofShip yX2_ofShip ∈ GW := gw_in (List.mem_of_getElem? (i := 26) (by decide +kernel)) (by decide +kernel)
theorem g28 : Cond.selects RX2 yX2_copyFrom yX2_copyFrom ∈ GW := gw_in (List.mem_of_getElem? (i := 28) (by decide +kernel)) (by decide +kernel)
theorem g32 : Cond.selects RX2 yX2_weightOf yX2_weightOf ∈ GW := gw_in (List.mem_of_getElem? (i := 32) (by decide +kernel)) (by decide +kernel)
theorem g33 : Cond.selects RX2 yX2_holds yX2_holds ∈ GW := gw_in (List.mem_of_getElem? (i := 33) (by decide +kernel)) (by decide +kernel)
theorem g35 : Cond.selects RX2 yX2_roundOf yX2_roundOf ∈ GW := gw_in (List.mem_of_getElem? (i := 35) (by decide +kernel)) (by decide +kernel)
theorem g36 : Cond.selects RX2 yX2_ofClaim yX2_ofClaim ∈ GW := gw_in (List.mem_of_getElem? (i := 36) (by decide +kernel)) (by decide +kernel)
theorem g40 : Cond.selects RX1 yX1_weigh yX1_weigh ∈ GW := gw_in (List.mem_of_getElem? (i := 40) (by decide +kernel)) (by decide +kernel)
theorem g41 : Cond.selects RX1 yX1_oweClaims yX1_oweClaims ∈ GW := gw_in (List.mem_of_getElem? (i := 41) (by decide +kernel)) (by decide +kernel)
theorem g42 : Cond.selects RX1 yX1_debt yX1_debt ∈ GW := gw_in (List.mem_of_getElem? (i := 42) (by decide +kernel)) (by decide +kernel)
theorem g43 : Cond.selects RX2 yX2_isGoods yX2_isGoods ∈ GW := gw_in (List.mem_of_getElem? (i := 43) (by decide +kernel)) (by decide +kernel)
theorem g44 : Cond.selects RX1 yX1_partOf yX1_partOf ∈ GW := gw_in (List.mem_of_getElem? (i := 44) (by decide +kernel)) (by decide +kernel)
theorem g45 : Cond.selects RX1 yX1_oweBack yX1_oweBack ∈ GW := gw_in (List.mem_of_getElem? (i := 45) (by decide +kernel)) (by decide +kernel)
theorem g46 : Cond.selects RX1 yX1_backFor yX1_backFor ∈ GW := gw_in (List.mem_of_getElem? (i := 46) (by decide +kernel)) (by decide +kernel)
theorem g47 : Cond.selects RX1 yX1_owedToClaim yX1_owedToClaim ∈ GW := gw_in (List.mem_of_getElem? (i := 47) (by decide +kernel)) (by decide +kernel)
theorem g48 : Cond.selects RX1 yX1_oweShips yX1_oweShips ∈ GW := gw_in (List.mem_of_getElem? (i := 48) (by decide +kernel)) (by decide +kernel)
theorem g49 : Cond.selects RX1 yX1_crossDebt yX1_crossDebt ∈ GW := gw_in (List.mem_of_getElem? (i := 49) (by decide +kernel)) (by decide +kernel)
theorem g50 : Cond.selects RX1 yX1_hullDebt yX1_hullDebt ∈ GW := gw_in (List.mem_of_getElem? (i := 50) (by decide +kernel)) (by decide +kernel)
theorem g51 : Cond.selects RX1 yX1_backTo yX1_backTo ∈ GW := gw_in (List.mem_of_getElem? (i := 51) (by decide +kernel)) (by decide +kernel)
theorem g52 : Cond.selects RX1 yX1_pay yX1_pay ∈ GW := gw_in (List.mem_of_getElem? (i := 52) (by decide +kernel)) (by decide +kernel)
theorem g53 : Cond.selects RX1 yX1_payOutOf yX1_payOutOf ∈ GW := gw_in (List.mem_of_getElem? (i := 53) (by decide +kernel)) (by decide +kernel)
theorem g54 : Cond.selects RX2 yX2_fundOf yX2_fundOf ∈ GW := gw_in (List.mem_of_getElem? (i := 54) (by decide +kernel)) (by decide +kernel)
theorem g55 : Cond.selects RX2 yX2_fundTons yX2_fundTons ∈ GW := gw_in (List.mem_of_getElem? (i := 55) (by decide +kernel)) (by decide +kernel)
theorem g56 : Cond.selects RX1 yX1_findLacks yX1_findLacks ∈ GW := gw_in (List.mem_of_getElem? (i := 56) (by decide +kernel)) (by decide +kernel)
theorem g57 : Cond.selects RX1 yX1_takesPart yX1_takesPart ∈ GW := gw_in (List.mem_of_getElem? (i := 57) (by decide +kernel)) (by decide +kernel)
theorem g58 : Cond.selects RX1 yX1_shareScarce yX1_shareScarce ∈ GW := gw_in (List.mem_of_getElem? (i := 58) (by decide +kernel)) (by decide +kernel)
theorem g59 : Cond.selects RX1 yX1_payLacks yX1_payLacks ∈ GW := gw_in (List.mem_of_getElem? (i := 59) (by decide +kernel)) (by decide +kernel)
theorem g61 : Cond.selects RX1 yX1_backForClaim yX1_backForClaim ∈ GW := gw_in (List.mem_of_getElem? (i := 61) (by decide +kernel)) (by decide +kernel)
theorem g62 : Cond.selects RX1 yX1_paidToClaim yX1_paidToClaim ∈ GW := gw_in (List.mem_of_getElem? (i := 62) (by decide +kernel)) (by decide +kernel)
theorem g63 : Cond.selects RX1 yX1_paidToShip yX1_paidToShip ∈ GW := gw_in (List.mem_of_getElem? (i := 63) (by decide +kernel)) (by decide +kernel)
theorem g64 : Cond.selects RX1 yX1_owedByShip yX1_owedByShip ∈ GW := gw_in (List.mem_of_getElem? (i := 64) (by decide +kernel)) (by decide +kernel)
theorem g65 : Cond.selects RX1 yX1_paidByShip yX1_paidByShip ∈ GW := gw_in (List.mem_of_getElem? (i := 65) (by decide +kernel)) (by decide +kernel)
theorem g67 : Cond.selects RX1 yX1_paidToClaimByAll yX1_paidToClaimByAll ∈ GW := gw_in (List.mem_of_getElem? (i := 67) (by decide +kernel)) (by decide +kernel)
theorem g68 : Cond.selects RX1 yX1_givenBack yX1_givenBack ∈ GW := gw_in (List.mem_of_getElem? (i := 68) (by decide +kernel)) (by decide +kernel)
theorem g70 : Cond.selects RX1 yX1_paidToPersons yX1_paidToPersons ∈ GW := gw_in (List.mem_of_getElem? (i := 70) (by decide +kernel)) (by decide +kernel)
theorem g75 : Cond.selects RX1 yX1_owedToPersons yX1_owedToPersons ∈ GW := gw_in (List.mem_of_getElem? (i := 75) (by decide +kernel)) (by decide +kernel)
theorem g82 : Cond.selects RX5 yX5_begins yX5_begins ∈ GW := gw_in (List.mem_of_getElem? (i := 82) (by decide +kernel)) (by decide +kernel)
theorem g83 : Cond.selects RX5 yX5_refuse yX5_refuse ∈ GW := gw_in (List.mem_of_getElem? (i := 83) (by decide +kernel)) (by decide +kernel)
theorem g84 : Cond.selects RX5 yX5_reads yX5_reads ∈ GW := gw_in (List.mem_of_getElem? (i := 84) (by decide +kernel)) (by decide +kernel)
theorem g85 : Cond.selects RX5 yX5_plain yX5_plain ∈ GW := gw_in (List.mem_of_getElem? (i := 85) (by decide +kernel)) (by decide +kernel)
theorem g86 : Cond.selects RX5 yX5_token yX5_token ∈ GW := gw_in (List.mem_of_getElem? (i := 86) (by decide +kernel)) (by decide +kernel)
theorem g87 : Cond.selects RX5 yX5_seen yX5_seen ∈ GW := gw_in (List.mem_of_getElem? (i := 87) (by decide +kernel)) (by decide +kernel)
theorem g88 : Cond.selects RX5 yX5_line yX5_line ∈ GW := gw_in (List.mem_of_getElem? (i := 88) (by decide +kernel)) (by decide +kernel)
theorem g89 : Cond.selects RX5 yX5_aboutHere yX5_aboutHere ∈ GW := gw_in (List.mem_of_getElem? (i := 89) (by decide +kernel)) (by decide +kernel)
theorem g90 : Cond.selects RX5 yX5_isWord yX5_isWord ∈ GW := gw_in (List.mem_of_getElem? (i := 90) (by decide +kernel)) (by decide +kernel)
theorem g91 : Cond.selects RX5 yX5_shipLine yX5_shipLine ∈ GW := gw_in (List.mem_of_getElem? (i := 91) (by decide +kernel)) (by decide +kernel)
theorem g92 : Cond.selects RX5 yX5_fails yX5_fails ∈ GW := gw_in (List.mem_of_getElem? (i := 92) (by decide +kernel)) (by decide +kernel)
theorem g93 : Cond.selects RX5 yX5_goesOn yX5_goesOn ∈ GW := gw_in (List.mem_of_getElem? (i := 93) (by decide +kernel)) (by decide +kernel)
theorem g94 : Cond.selects RX5 yX5_isName yX5_isName ∈ GW := gw_in (List.mem_of_getElem? (i := 94) (by decide +kernel)) (by decide +kernel)
theorem g95 : Cond.selects RX5 yX5_shipNamed yX5_shipNamed ∈ GW := gw_in (List.mem_of_getElem? (i := 95) (by decide +kernel)) (by decide +kernel)
theorem g96 : Cond.selects RX5 yX5_takes yX5_takes ∈ GW := gw_in (List.mem_of_getElem? (i := 96) (by decide +kernel)) (by decide +kernel)
theorem g97 : Cond.selects RX5 yX5_whole yX5_whole ∈ GW := gw_in (List.mem_of_getElem? (i := 97) (by decide +kernel)) (by decide +kernel)
theorem g98 : Cond.selects RX5 yX5_claimLine yX5_claimLine ∈ GW := gw_in (List.mem_of_getElem? (i := 98) (by decide +kernel)) (by decide +kernel)
theorem g99 : Cond.selects RX5 yX5_aboutLine yX5_aboutLine ∈ GW := gw_in (List.mem_of_getElem? (i := 99) (by decide +kernel)) (by decide +kernel)
theorem g100 : Cond.selects RX5 yX5_tenths yX5_tenths ∈ GW := gw_in (List.mem_of_getElem? (i := 100) (by decide +kernel)) (by decide +kernel)
theorem g101 : Cond.selects RX5 yX5_isShip yX5_isShip ∈ GW := gw_in (List.mem_of_getElem? (i := 101) (by decide +kernel)) (by decide +kernel)
theorem g102 : Cond.selects RX5 yX5_isClaim yX5_isClaim ∈ GW := gw_in (List.mem_of_getElem? (i := 102) (by decide +kernel)) (by decide +kernel)
theorem g103 : Cond.selects RX5 yX5_laysPaid yX5_laysPaid ∈ GW := gw_in (List.mem_of_getElem? (i := 103) (by decide +kernel)) (by decide +kernel)
theorem g104 : Cond.selects RX5 yX5_lays yX5_lays ∈ GW := gw_in (List.mem_of_getElem? (i := 104) (by decide +kernel)) (by decide +kernel)
theorem g105 : Cond.selects RX5 yX5_paysAll yX5_paysAll ∈ GW := gw_in (List.mem_of_getElem? (i := 105) (by decide +kernel)) (by decide +kernel)
theorem g106 : Cond.selects RX5 yX5_paysOne yX5_paysOne ∈ GW := gw_in (List.mem_of_getElem? (i := 106) (by decide +kernel)) (by decide +kernel)
theorem g107 : Cond.selects RX5 yX5_clears yX5_clears ∈ GW := gw_in (List.mem_of_getElem? (i := 107) (by decide +kernel)) (by decide +kernel)
theorem g108 : Cond.selects RX5 yX5_sharesLives yX5_sharesLives ∈ GW := gw_in (List.mem_of_getElem? (i := 108) (by decide +kernel)) (by decide +kernel)
theorem g109 : Cond.selects RX5 yX5_owesPersons yX5_owesPersons ∈ GW := gw_in (List.mem_of_getElem? (i := 109) (by decide +kernel)) (by decide +kernel)
theorem g110 : Cond.selects RX5 yX5_shares yX5_shares ∈ GW := gw_in (List.mem_of_getElem? (i := 110) (by decide +kernel)) (by decide +kernel)
theorem g111 : Cond.selects RX5 yX5_owesAll yX5_owesAll ∈ GW := gw_in (List.mem_of_getElem? (i := 111) (by decide +kernel)) (by decide +kernel)
theorem g112 : Cond.selects RX5 yX5_owedBy yX5_owedBy ∈ GW := gw_in (List.mem_of_getElem? (i := 112) (by decide +kernel)) (by decide +kernel)
theorem g113 : Cond.selects RX5 yX5_paidBy yX5_paidBy ∈ GW := gw_in (List.mem_of_getElem? (i := 113) (by decide +kernel)) (by decide +kernel)
theorem g114 : Cond.selects RX5 yX5_paidTo yX5_paidTo ∈ GW := gw_in (List.mem_of_getElem? (i := 114) (by decide +kernel)) (by decide +kernel)
theorem g115 : Cond.selects RX5 yX5_givenOf yX5_givenOf ∈ GW := gw_in (List.mem_of_getElem? (i := 115) (by decide +kernel)) (by decide +kernel)
theorem g116 : Cond.selects RX5 yX5_netOf yX5_netOf ∈ GW := gw_in (List.mem_of_getElem? (i := 116) (by decide +kernel)) (by decide +kernel)
theorem g117 : Cond.selects RX5 yX5_netWith yX5_netWith ∈ GW := gw_in (List.mem_of_getElem? (i := 117) (by decide +kernel)) (by decide +kernel)
theorem g118 : Cond.selects RX5 yX5_neededOf yX5_neededOf ∈ GW := gw_in (List.mem_of_getElem? (i := 118) (by decide +kernel)) (by decide +kernel)
theorem g119 : Cond.selects RX5 yX5_netShifted yX5_netShifted ∈ GW := gw_in (List.mem_of_getElem? (i := 119) (by decide +kernel)) (by decide +kernel)
theorem g120 : Cond.selects RX5 yX5_netJudged yX5_netJudged ∈ GW := gw_in (List.mem_of_getElem? (i := 120) (by decide +kernel)) (by decide +kernel)
theorem g121 : Cond.selects RX5 yX5_draw yX5_draw ∈ GW := gw_in (List.mem_of_getElem? (i := 121) (by decide +kernel)) (by decide +kernel)
theorem g122 : Cond.selects RX5 yX5_keeps yX5_keeps ∈ GW := gw_in (List.mem_of_getElem? (i := 122) (by decide +kernel)) (by decide +kernel)
theorem g126 : Cond.initialized RX2 ∈ GW := gw_in (List.mem_of_getElem? (i := 126) (by decide +kernel)) (by decide +kernel)
theorem g127 : Cond.initialized RX1 ∈ GW := gw_in (List.mem_of_getElem? (i := 127) (by decide +kernel)) (by decide +kernel)
theorem g128 : Cond.initialized RX5 ∈ GW := gw_in (List.mem_of_getElem? (i := 128) (by decide +kernel)) (by decide +kernel)
theorem g129 : Cond.initialized "java/lang/System" ∈ GW := gw_in (List.mem_of_getElem? (i := 129) (by decide +kernel)) (by decide +kernel)
theorem g132 : Cond.initialized RJ9 ∈ GW := gw_in (List.mem_of_getElem? (i := 132) (by decide +kernel)) (by decide +kernel)
theorem g133 : Cond.initialized RJ7 ∈ GW := gw_in (List.mem_of_getElem? (i := 133) (by decide +kernel)) (by decide +kernel)
theorem g158 : Cond.fieldLink RX2 9 "BothToBlame$Told" "ships" "I" ∈ GW := gw_in (List.mem_of_getElem? (i := 158) (by decide +kernel)) (by decide +kernel)
theorem g159 : Cond.fieldLinkNest RX1 61 "BothToBlame$Told" "ships" "I" "BothToBlame" ∈ NW := nw_in (List.mem_of_getElem? (i := 159) (by decide +kernel)) (by decide +kernel)
theorem g162 : Cond.fieldLink RX2 15 "BothToBlame$Told" "claims" "I" ∈ GW := gw_in (List.mem_of_getElem? (i := 162) (by decide +kernel)) (by decide +kernel)
theorem g164 : Cond.fieldLinkNest RX1 76 "BothToBlame$Told" "claims" "I" "BothToBlame" ∈ NW := nw_in (List.mem_of_getElem? (i := 164) (by decide +kernel)) (by decide +kernel)
theorem g166 : Cond.fieldLink RX2 18 "BothToBlame$Told" "names" "[J" ∈ GW := gw_in (List.mem_of_getElem? (i := 166) (by decide +kernel)) (by decide +kernel)
theorem g168 : Cond.fieldLink RX2 22 "BothToBlame$Told" "shipRows" "[I" ∈ GW := gw_in (List.mem_of_getElem? (i := 168) (by decide +kernel)) (by decide +kernel)
theorem g169 : Cond.fieldLink RX2 26 "BothToBlame$Told" "claimRows" "[I" ∈ GW := gw_in (List.mem_of_getElem? (i := 169) (by decide +kernel)) (by decide +kernel)
theorem g170 : Cond.fieldLink RX2 29 "BothToBlame$Told" "laws" "[I" ∈ GW := gw_in (List.mem_of_getElem? (i := 170) (by decide +kernel)) (by decide +kernel)
theorem g237 : Cond.fieldLink RX1 12 "BothToBlame$Reckoning" "told" "LBothToBlame$Told;" ∈ GW := gw_in (List.mem_of_getElem? (i := 237) (by decide +kernel)) (by decide +kernel)
theorem g239 : Cond.fieldLink RX1 18 "BothToBlame$Reckoning" "weight" "[I" ∈ GW := gw_in (List.mem_of_getElem? (i := 239) (by decide +kernel)) (by decide +kernel)
theorem g240 : Cond.fieldLink RX1 22 "BothToBlame$Reckoning" "backs" "[J" ∈ GW := gw_in (List.mem_of_getElem? (i := 240) (by decide +kernel)) (by decide +kernel)
theorem g241 : Cond.fieldLink RX1 26 "BothToBlame$Reckoning" "owed" "[J" ∈ GW := gw_in (List.mem_of_getElem? (i := 241) (by decide +kernel)) (by decide +kernel)
theorem g242 : Cond.fieldLink RX1 29 "BothToBlame$Reckoning" "paid" "[J" ∈ GW := gw_in (List.mem_of_getElem? (i := 242) (by decide +kernel)) (by decide +kernel)
theorem g243 : Cond.fieldLink RX1 32 "BothToBlame$Reckoning" "lacked" "[J" ∈ GW := gw_in (List.mem_of_getElem? (i := 243) (by decide +kernel)) (by decide +kernel)
theorem g244 : Cond.fieldLink RX1 35 "BothToBlame$Reckoning" "weights" "I" ∈ GW := gw_in (List.mem_of_getElem? (i := 244) (by decide +kernel)) (by decide +kernel)
theorem g329 : Cond.fieldLinkNest RX2 32 "BothToBlame" "LAW_UNTOLD" "[I" "BothToBlame" ∈ NW := nw_in (List.mem_of_getElem? (i := 329) (by decide +kernel)) (by decide +kernel)
theorem g331 : Cond.methodLink RX2 35 arraycopyName ∈ GW := gw_in (List.mem_of_getElem? (i := 331) (by decide +kernel)) (by decide +kernel)
theorem g332 : Cond.static arraycopyName ∈ GW := gw_in (List.mem_of_getElem? (i := 332) (by decide +kernel)) (by decide +kernel)
theorem g333 : Cond.native arraycopyName ∈ GW := gw_in (List.mem_of_getElem? (i := 333) (by decide +kernel)) (by decide +kernel)
theorem g386 : Cond.methodLink RX2 45 yX2_setShip ∈ GW := gw_in (List.mem_of_getElem? (i := 386) (by decide +kernel)) (by decide +kernel)
theorem g388 : Cond.instanceMethod yX2_setShip ∈ GW := gw_in (List.mem_of_getElem? (i := 388) (by decide +kernel)) (by decide +kernel)
theorem g389 : Cond.code yX2_setShip cX2_setShip 4 (none) ∈ GW := gw_in (List.mem_of_getElem? (i := 389) (by decide +kernel)) (by decide +kernel)
theorem g451 : Cond.methodLink RX2 49 yX2_ofShip ∈ GW := gw_in (List.mem_of_getElem? (i := 451) (by decide +kernel)) (by decide +kernel)
theorem g453 : Cond.instanceMethod yX2_ofShip ∈ GW := gw_in (List.mem_of_getElem? (i := 453) (by decide +kernel)) (by decide +kernel)
theorem g454 : Cond.code yX2_ofShip cX2_ofShip 3 (some .int) ∈ GW := gw_in (List.mem_of_getElem? (i := 454) (by decide +kernel)) (by decide +kernel)
theorem g461 : Cond.instanceMethod yX2_copyFrom ∈ GW := gw_in (List.mem_of_getElem? (i := 461) (by decide +kernel)) (by decide +kernel)
theorem g462 : Cond.code yX2_copyFrom cX2_copyFrom 2 (none) ∈ GW := gw_in (List.mem_of_getElem? (i := 462) (by decide +kernel)) (by decide +kernel)
theorem g493 : Cond.instanceMethod yX2_weightOf ∈ GW := gw_in (List.mem_of_getElem? (i := 493) (by decide +kernel)) (by decide +kernel)
theorem g494 : Cond.code yX2_weightOf cX2_weightOf 3 (some .int) ∈ GW := gw_in (List.mem_of_getElem? (i := 494) (by decide +kernel)) (by decide +kernel)
theorem g495 : Cond.methodLink RX2 52 yX2_holds ∈ GW := gw_in (List.mem_of_getElem? (i := 495) (by decide +kernel)) (by decide +kernel)
theorem g497 : Cond.instanceMethod yX2_holds ∈ GW := gw_in (List.mem_of_getElem? (i := 497) (by decide +kernel)) (by decide +kernel)
theorem g498 : Cond.code yX2_holds cX2_holds 2 (some .boolean) ∈ GW := gw_in (List.mem_of_getElem? (i := 498) (by decide +kernel)) (by decide +kernel)
theorem g499 : Cond.methodLink RX2 56 Lib.Math.min.name ∈ GW := gw_in (List.mem_of_getElem? (i := 499) (by decide +kernel)) (by decide +kernel)
theorem g500 : Cond.static Lib.Math.min.name ∈ GW := gw_in (List.mem_of_getElem? (i := 500) (by decide +kernel)) (by decide +kernel)
theorem g501 : Cond.code Lib.Math.min.name Lib.Math.min.code 2 (some .int) ∈ GW := gw_in (List.mem_of_getElem? (i := 501) (by decide +kernel)) (by decide +kernel)
theorem g513 : Cond.instanceMethod yX2_roundOf ∈ GW := gw_in (List.mem_of_getElem? (i := 513) (by decide +kernel)) (by decide +kernel)
theorem g514 : Cond.code yX2_roundOf cX2_roundOf 3 (some .int) ∈ GW := gw_in (List.mem_of_getElem? (i := 514) (by decide +kernel)) (by decide +kernel)
theorem g515 : Cond.methodLink RX2 41 yX2_ofClaim ∈ GW := gw_in (List.mem_of_getElem? (i := 515) (by decide +kernel)) (by decide +kernel)
theorem g517 : Cond.instanceMethod yX2_ofClaim ∈ GW := gw_in (List.mem_of_getElem? (i := 517) (by decide +kernel)) (by decide +kernel)
theorem g518 : Cond.code yX2_ofClaim cX2_ofClaim 3 (some .int) ∈ GW := gw_in (List.mem_of_getElem? (i := 518) (by decide +kernel)) (by decide +kernel)
theorem g533 : Cond.methodLinkNest RX1 39 yX2_copyFrom "BothToBlame" ∈ NW := nw_in (List.mem_of_getElem? (i := 533) (by decide +kernel)) (by decide +kernel)
theorem g538 : Cond.methodLink RX1 43 yJ7_fill_d0a16 ∈ GW := gw_in (List.mem_of_getElem? (i := 538) (by decide +kernel)) (by decide +kernel)
theorem g539 : Cond.static yJ7_fill_d0a16 ∈ GW := gw_in (List.mem_of_getElem? (i := 539) (by decide +kernel)) (by decide +kernel)
theorem g540 : Cond.code yJ7_fill_d0a16 cJ7_fill_d0a16 5 (none) ∈ GW := gw_in (List.mem_of_getElem? (i := 540) (by decide +kernel)) (by decide +kernel)
theorem g541 : Cond.methodLink RX1 49 yX1_weigh ∈ GW := gw_in (List.mem_of_getElem? (i := 541) (by decide +kernel)) (by decide +kernel)
theorem g543 : Cond.instanceMethod yX1_weigh ∈ GW := gw_in (List.mem_of_getElem? (i := 543) (by decide +kernel)) (by decide +kernel)
theorem g544 : Cond.code yX1_weigh cX1_weigh 2 (none) ∈ GW := gw_in (List.mem_of_getElem? (i := 544) (by decide +kernel)) (by decide +kernel)
theorem g545 : Cond.methodLinkNest RX1 68 yX2_weightOf "BothToBlame" ∈ NW := nw_in (List.mem_of_getElem? (i := 545) (by decide +kernel)) (by decide +kernel)
theorem g546 : Cond.methodLink RX1 52 yX1_oweClaims ∈ GW := gw_in (List.mem_of_getElem? (i := 546) (by decide +kernel)) (by decide +kernel)
theorem g548 : Cond.instanceMethod yX1_oweClaims ∈ GW := gw_in (List.mem_of_getElem? (i := 548) (by decide +kernel)) (by decide +kernel)
theorem g549 : Cond.code yX1_oweClaims cX1_oweClaims 3 (none) ∈ GW := gw_in (List.mem_of_getElem? (i := 549) (by decide +kernel)) (by decide +kernel)
theorem g550 : Cond.methodLink RX1 79 yX1_debt ∈ GW := gw_in (List.mem_of_getElem? (i := 550) (by decide +kernel)) (by decide +kernel)
theorem g552 : Cond.instanceMethod yX1_debt ∈ GW := gw_in (List.mem_of_getElem? (i := 552) (by decide +kernel)) (by decide +kernel)
theorem g553 : Cond.code yX1_debt cX1_debt 6 (some .long) ∈ GW := gw_in (List.mem_of_getElem? (i := 553) (by decide +kernel)) (by decide +kernel)
theorem g554 : Cond.methodLinkNest RX1 83 yX2_roundOf "BothToBlame" ∈ NW := nw_in (List.mem_of_getElem? (i := 554) (by decide +kernel)) (by decide +kernel)
theorem g555 : Cond.methodLinkNest RX1 86 yX2_ofClaim "BothToBlame" ∈ NW := nw_in (List.mem_of_getElem? (i := 555) (by decide +kernel)) (by decide +kernel)
theorem g556 : Cond.methodLinkNest RX1 90 yX2_isGoods "BothToBlame" ∈ NW := nw_in (List.mem_of_getElem? (i := 556) (by decide +kernel)) (by decide +kernel)
theorem g558 : Cond.instanceMethod yX2_isGoods ∈ GW := gw_in (List.mem_of_getElem? (i := 558) (by decide +kernel)) (by decide +kernel)
theorem g559 : Cond.code yX2_isGoods cX2_isGoods 2 (some .boolean) ∈ GW := gw_in (List.mem_of_getElem? (i := 559) (by decide +kernel)) (by decide +kernel)
theorem g560 : Cond.methodLink RX1 94 yX1_partOf ∈ GW := gw_in (List.mem_of_getElem? (i := 560) (by decide +kernel)) (by decide +kernel)
theorem g562 : Cond.instanceMethod yX1_partOf ∈ GW := gw_in (List.mem_of_getElem? (i := 562) (by decide +kernel)) (by decide +kernel)
theorem g563 : Cond.code yX1_partOf cX1_partOf 4 (some .long) ∈ GW := gw_in (List.mem_of_getElem? (i := 563) (by decide +kernel)) (by decide +kernel)
theorem g564 : Cond.methodLink RX1 72 yX1_cut ∈ GW := gw_in (List.mem_of_getElem? (i := 564) (by decide +kernel)) (by decide +kernel)
theorem g565 : Cond.static yX1_cut ∈ GW := gw_in (List.mem_of_getElem? (i := 565) (by decide +kernel)) (by decide +kernel)
theorem g566 : Cond.code yX1_cut cX1_cut 4 (some .long) ∈ GW := gw_in (List.mem_of_getElem? (i := 566) (by decide +kernel)) (by decide +kernel)
theorem g567 : Cond.methodLinkNest RX1 98 yX2_holds "BothToBlame" ∈ NW := nw_in (List.mem_of_getElem? (i := 567) (by decide +kernel)) (by decide +kernel)
theorem g568 : Cond.methodLink RX1 55 yX1_oweBack ∈ GW := gw_in (List.mem_of_getElem? (i := 568) (by decide +kernel)) (by decide +kernel)
theorem g570 : Cond.instanceMethod yX1_oweBack ∈ GW := gw_in (List.mem_of_getElem? (i := 570) (by decide +kernel)) (by decide +kernel)
theorem g571 : Cond.code yX1_oweBack cX1_oweBack 3 (none) ∈ GW := gw_in (List.mem_of_getElem? (i := 571) (by decide +kernel)) (by decide +kernel)
theorem g572 : Cond.methodLink RX1 104 yX1_backFor ∈ GW := gw_in (List.mem_of_getElem? (i := 572) (by decide +kernel)) (by decide +kernel)
theorem g574 : Cond.instanceMethod yX1_backFor ∈ GW := gw_in (List.mem_of_getElem? (i := 574) (by decide +kernel)) (by decide +kernel)
theorem g575 : Cond.code yX1_backFor cX1_backFor 4 (some .long) ∈ GW := gw_in (List.mem_of_getElem? (i := 575) (by decide +kernel)) (by decide +kernel)
theorem g576 : Cond.methodLink RX1 101 yX1_owedToClaim ∈ GW := gw_in (List.mem_of_getElem? (i := 576) (by decide +kernel)) (by decide +kernel)
theorem g578 : Cond.instanceMethod yX1_owedToClaim ∈ GW := gw_in (List.mem_of_getElem? (i := 578) (by decide +kernel)) (by decide +kernel)
theorem g579 : Cond.code yX1_owedToClaim cX1_owedToClaim 3 (some .long) ∈ GW := gw_in (List.mem_of_getElem? (i := 579) (by decide +kernel)) (by decide +kernel)
theorem g580 : Cond.methodLink RX1 58 yX1_oweShips ∈ GW := gw_in (List.mem_of_getElem? (i := 580) (by decide +kernel)) (by decide +kernel)
theorem g582 : Cond.instanceMethod yX1_oweShips ∈ GW := gw_in (List.mem_of_getElem? (i := 582) (by decide +kernel)) (by decide +kernel)
theorem g583 : Cond.code yX1_oweShips cX1_oweShips 7 (none) ∈ GW := gw_in (List.mem_of_getElem? (i := 583) (by decide +kernel)) (by decide +kernel)
theorem g584 : Cond.methodLink RX1 107 yX1_crossDebt ∈ GW := gw_in (List.mem_of_getElem? (i := 584) (by decide +kernel)) (by decide +kernel)
theorem g586 : Cond.instanceMethod yX1_crossDebt ∈ GW := gw_in (List.mem_of_getElem? (i := 586) (by decide +kernel)) (by decide +kernel)
theorem g587 : Cond.code yX1_crossDebt cX1_crossDebt 3 (some .long) ∈ GW := gw_in (List.mem_of_getElem? (i := 587) (by decide +kernel)) (by decide +kernel)
theorem g588 : Cond.methodLink RX1 118 yX1_hullDebt ∈ GW := gw_in (List.mem_of_getElem? (i := 588) (by decide +kernel)) (by decide +kernel)
theorem g590 : Cond.instanceMethod yX1_hullDebt ∈ GW := gw_in (List.mem_of_getElem? (i := 590) (by decide +kernel)) (by decide +kernel)
theorem g591 : Cond.code yX1_hullDebt cX1_hullDebt 3 (some .long) ∈ GW := gw_in (List.mem_of_getElem? (i := 591) (by decide +kernel)) (by decide +kernel)
theorem g592 : Cond.methodLinkNest RX1 115 yX2_ofShip "BothToBlame" ∈ NW := nw_in (List.mem_of_getElem? (i := 592) (by decide +kernel)) (by decide +kernel)
theorem g593 : Cond.methodLink RX1 121 yX1_backTo ∈ GW := gw_in (List.mem_of_getElem? (i := 593) (by decide +kernel)) (by decide +kernel)
theorem g595 : Cond.instanceMethod yX1_backTo ∈ GW := gw_in (List.mem_of_getElem? (i := 595) (by decide +kernel)) (by decide +kernel)
theorem g596 : Cond.code yX1_backTo cX1_backTo 3 (some .long) ∈ GW := gw_in (List.mem_of_getElem? (i := 596) (by decide +kernel)) (by decide +kernel)
theorem g597 : Cond.methodLink RX1 110 Lib.MathLoose.min_long.x ∈ GW := gw_in (List.mem_of_getElem? (i := 597) (by decide +kernel)) (by decide +kernel)
theorem g598 : Cond.static Lib.MathLoose.min_long.x ∈ GW := gw_in (List.mem_of_getElem? (i := 598) (by decide +kernel)) (by decide +kernel)
theorem g599 : Cond.code Lib.MathLoose.min_long.x Lib.MathLoose.min_long.code 4 (some .long) ∈ GW := gw_in (List.mem_of_getElem? (i := 599) (by decide +kernel)) (by decide +kernel)
theorem g600 : Cond.methodLink RX1 64 yX1_pay ∈ GW := gw_in (List.mem_of_getElem? (i := 600) (by decide +kernel)) (by decide +kernel)
theorem g602 : Cond.instanceMethod yX1_pay ∈ GW := gw_in (List.mem_of_getElem? (i := 602) (by decide +kernel)) (by decide +kernel)
theorem g603 : Cond.code yX1_pay cX1_pay 2 (none) ∈ GW := gw_in (List.mem_of_getElem? (i := 603) (by decide +kernel)) (by decide +kernel)
theorem g604 : Cond.methodLink RX1 124 arraycopyName ∈ GW := gw_in (List.mem_of_getElem? (i := 604) (by decide +kernel)) (by decide +kernel)
theorem g605 : Cond.methodLink RX1 130 yX1_payOutOf ∈ GW := gw_in (List.mem_of_getElem? (i := 605) (by decide +kernel)) (by decide +kernel)
theorem g607 : Cond.instanceMethod yX1_payOutOf ∈ GW := gw_in (List.mem_of_getElem? (i := 607) (by decide +kernel)) (by decide +kernel)
theorem g608 : Cond.code yX1_payOutOf cX1_payOutOf 8 (none) ∈ GW := gw_in (List.mem_of_getElem? (i := 608) (by decide +kernel)) (by decide +kernel)
theorem g609 : Cond.methodLinkNest RX1 134 yX2_fundOf "BothToBlame" ∈ NW := nw_in (List.mem_of_getElem? (i := 609) (by decide +kernel)) (by decide +kernel)
theorem g611 : Cond.instanceMethod yX2_fundOf ∈ GW := gw_in (List.mem_of_getElem? (i := 611) (by decide +kernel)) (by decide +kernel)
theorem g612 : Cond.code yX2_fundOf cX2_fundOf 3 (some .long) ∈ GW := gw_in (List.mem_of_getElem? (i := 612) (by decide +kernel)) (by decide +kernel)
theorem g613 : Cond.methodLink RX2 64 yX2_fundTons ∈ GW := gw_in (List.mem_of_getElem? (i := 613) (by decide +kernel)) (by decide +kernel)
theorem g615 : Cond.instanceMethod yX2_fundTons ∈ GW := gw_in (List.mem_of_getElem? (i := 615) (by decide +kernel)) (by decide +kernel)
theorem g616 : Cond.code yX2_fundTons cX2_fundTons 2 (some .long) ∈ GW := gw_in (List.mem_of_getElem? (i := 616) (by decide +kernel)) (by decide +kernel)
theorem g617 : Cond.methodLink RX2 61 Lib.Math.max.name ∈ GW := gw_in (List.mem_of_getElem? (i := 617) (by decide +kernel)) (by decide +kernel)
theorem g618 : Cond.static Lib.Math.max.name ∈ GW := gw_in (List.mem_of_getElem? (i := 618) (by decide +kernel)) (by decide +kernel)
theorem g619 : Cond.code Lib.Math.max.name Lib.Math.max.code 2 (some .int) ∈ GW := gw_in (List.mem_of_getElem? (i := 619) (by decide +kernel)) (by decide +kernel)
theorem g620 : Cond.constantLong RX2 68 (2000000000) ∈ GW := gw_in (List.mem_of_getElem? (i := 620) (by decide +kernel)) (by decide +kernel)
theorem g621 : Cond.methodLink RX2 70 Lib.MathLoose.min_long.x ∈ GW := gw_in (List.mem_of_getElem? (i := 621) (by decide +kernel)) (by decide +kernel)
theorem g622 : Cond.methodLink RX1 137 yX1_findLacks ∈ GW := gw_in (List.mem_of_getElem? (i := 622) (by decide +kernel)) (by decide +kernel)
theorem g624 : Cond.instanceMethod yX1_findLacks ∈ GW := gw_in (List.mem_of_getElem? (i := 624) (by decide +kernel)) (by decide +kernel)
theorem g625 : Cond.code yX1_findLacks cX1_findLacks 7 (some .long) ∈ GW := gw_in (List.mem_of_getElem? (i := 625) (by decide +kernel)) (by decide +kernel)
theorem g626 : Cond.methodLink RX1 148 yX1_takesPart ∈ GW := gw_in (List.mem_of_getElem? (i := 626) (by decide +kernel)) (by decide +kernel)
theorem g628 : Cond.instanceMethod yX1_takesPart ∈ GW := gw_in (List.mem_of_getElem? (i := 628) (by decide +kernel)) (by decide +kernel)
theorem g629 : Cond.code yX1_takesPart cX1_takesPart 5 (some .boolean) ∈ GW := gw_in (List.mem_of_getElem? (i := 629) (by decide +kernel)) (by decide +kernel)
theorem g630 : Cond.methodLink RX1 141 yX1_shareScarce ∈ GW := gw_in (List.mem_of_getElem? (i := 630) (by decide +kernel)) (by decide +kernel)
theorem g632 : Cond.instanceMethod yX1_shareScarce ∈ GW := gw_in (List.mem_of_getElem? (i := 632) (by decide +kernel)) (by decide +kernel)
theorem g633 : Cond.code yX1_shareScarce cX1_shareScarce 11 (none) ∈ GW := gw_in (List.mem_of_getElem? (i := 633) (by decide +kernel)) (by decide +kernel)
theorem g634 : Cond.methodLink RX1 145 yX1_payLacks ∈ GW := gw_in (List.mem_of_getElem? (i := 634) (by decide +kernel)) (by decide +kernel)
theorem g636 : Cond.instanceMethod yX1_payLacks ∈ GW := gw_in (List.mem_of_getElem? (i := 636) (by decide +kernel)) (by decide +kernel)
theorem g637 : Cond.code yX1_payLacks cX1_payLacks 3 (none) ∈ GW := gw_in (List.mem_of_getElem? (i := 637) (by decide +kernel)) (by decide +kernel)
theorem g661 : Cond.instanceMethod yX1_backForClaim ∈ GW := gw_in (List.mem_of_getElem? (i := 661) (by decide +kernel)) (by decide +kernel)
theorem g662 : Cond.code yX1_backForClaim cX1_backForClaim 5 (some .long) ∈ GW := gw_in (List.mem_of_getElem? (i := 662) (by decide +kernel)) (by decide +kernel)
theorem g674 : Cond.instanceMethod yX1_paidToClaim ∈ GW := gw_in (List.mem_of_getElem? (i := 674) (by decide +kernel)) (by decide +kernel)
theorem g675 : Cond.code yX1_paidToClaim cX1_paidToClaim 3 (some .long) ∈ GW := gw_in (List.mem_of_getElem? (i := 675) (by decide +kernel)) (by decide +kernel)
theorem g682 : Cond.instanceMethod yX1_paidToShip ∈ GW := gw_in (List.mem_of_getElem? (i := 682) (by decide +kernel)) (by decide +kernel)
theorem g683 : Cond.code yX1_paidToShip cX1_paidToShip 3 (some .long) ∈ GW := gw_in (List.mem_of_getElem? (i := 683) (by decide +kernel)) (by decide +kernel)
theorem g690 : Cond.instanceMethod yX1_owedByShip ∈ GW := gw_in (List.mem_of_getElem? (i := 690) (by decide +kernel)) (by decide +kernel)
theorem g691 : Cond.code yX1_owedByShip cX1_owedByShip 2 (some .long) ∈ GW := gw_in (List.mem_of_getElem? (i := 691) (by decide +kernel)) (by decide +kernel)
theorem g692 : Cond.methodLink RX1 152 yX1_rowTogether ∈ GW := gw_in (List.mem_of_getElem? (i := 692) (by decide +kernel)) (by decide +kernel)
theorem g693 : Cond.static yX1_rowTogether ∈ GW := gw_in (List.mem_of_getElem? (i := 693) (by decide +kernel)) (by decide +kernel)
theorem g694 : Cond.code yX1_rowTogether cX1_rowTogether 5 (some .long) ∈ GW := gw_in (List.mem_of_getElem? (i := 694) (by decide +kernel)) (by decide +kernel)
theorem g697 : Cond.instanceMethod yX1_paidByShip ∈ GW := gw_in (List.mem_of_getElem? (i := 697) (by decide +kernel)) (by decide +kernel)
theorem g698 : Cond.code yX1_paidByShip cX1_paidByShip 2 (some .long) ∈ GW := gw_in (List.mem_of_getElem? (i := 698) (by decide +kernel)) (by decide +kernel)
theorem g711 : Cond.methodLink RX1 163 yX1_paidToClaimByAll ∈ GW := gw_in (List.mem_of_getElem? (i := 711) (by decide +kernel)) (by decide +kernel)
theorem g713 : Cond.instanceMethod yX1_paidToClaimByAll ∈ GW := gw_in (List.mem_of_getElem? (i := 713) (by decide +kernel)) (by decide +kernel)
theorem g714 : Cond.code yX1_paidToClaimByAll cX1_paidToClaimByAll 5 (some .long) ∈ GW := gw_in (List.mem_of_getElem? (i := 714) (by decide +kernel)) (by decide +kernel)
theorem g715 : Cond.methodLink RX1 156 yX1_paidToClaim ∈ GW := gw_in (List.mem_of_getElem? (i := 715) (by decide +kernel)) (by decide +kernel)
theorem g716 : Cond.methodLink RX1 166 yX1_givenBack ∈ GW := gw_in (List.mem_of_getElem? (i := 716) (by decide +kernel)) (by decide +kernel)
theorem g718 : Cond.instanceMethod yX1_givenBack ∈ GW := gw_in (List.mem_of_getElem? (i := 718) (by decide +kernel)) (by decide +kernel)
theorem g719 : Cond.code yX1_givenBack cX1_givenBack 2 (some .long) ∈ GW := gw_in (List.mem_of_getElem? (i := 719) (by decide +kernel)) (by decide +kernel)
theorem g720 : Cond.methodLink RX1 159 yX1_backForClaim ∈ GW := gw_in (List.mem_of_getElem? (i := 720) (by decide +kernel)) (by decide +kernel)
theorem g731 : Cond.methodLink RX1 169 yX1_paidByShip ∈ GW := gw_in (List.mem_of_getElem? (i := 731) (by decide +kernel)) (by decide +kernel)
theorem g732 : Cond.methodLink RX1 179 yX1_paidToPersons ∈ GW := gw_in (List.mem_of_getElem? (i := 732) (by decide +kernel)) (by decide +kernel)
theorem g734 : Cond.instanceMethod yX1_paidToPersons ∈ GW := gw_in (List.mem_of_getElem? (i := 734) (by decide +kernel)) (by decide +kernel)
theorem g735 : Cond.code yX1_paidToPersons cX1_paidToPersons 5 (some .long) ∈ GW := gw_in (List.mem_of_getElem? (i := 735) (by decide +kernel)) (by decide +kernel)
theorem g736 : Cond.methodLink RX1 182 yX1_threeQuarters ∈ GW := gw_in (List.mem_of_getElem? (i := 736) (by decide +kernel)) (by decide +kernel)
theorem g737 : Cond.static yX1_threeQuarters ∈ GW := gw_in (List.mem_of_getElem? (i := 737) (by decide +kernel)) (by decide +kernel)
theorem g738 : Cond.code yX1_threeQuarters cX1_threeQuarters 2 (some .long) ∈ GW := gw_in (List.mem_of_getElem? (i := 738) (by decide +kernel)) (by decide +kernel)
theorem g739 : Cond.constantLong RX1 175 (3) ∈ GW := gw_in (List.mem_of_getElem? (i := 739) (by decide +kernel)) (by decide +kernel)
theorem g740 : Cond.constantLong RX1 177 (4) ∈ GW := gw_in (List.mem_of_getElem? (i := 740) (by decide +kernel)) (by decide +kernel)
theorem g754 : Cond.methodLink RX1 172 yX1_paidToShip ∈ GW := gw_in (List.mem_of_getElem? (i := 754) (by decide +kernel)) (by decide +kernel)
theorem g779 : Cond.methodLink RX1 186 yX1_owedToPersons ∈ GW := gw_in (List.mem_of_getElem? (i := 779) (by decide +kernel)) (by decide +kernel)
theorem g781 : Cond.instanceMethod yX1_owedToPersons ∈ GW := gw_in (List.mem_of_getElem? (i := 781) (by decide +kernel)) (by decide +kernel)
theorem g782 : Cond.code yX1_owedToPersons cX1_owedToPersons 5 (some .long) ∈ GW := gw_in (List.mem_of_getElem? (i := 782) (by decide +kernel)) (by decide +kernel)
theorem g783 : Cond.methodLink RX1 189 yX1_owedByShip ∈ GW := gw_in (List.mem_of_getElem? (i := 783) (by decide +kernel)) (by decide +kernel)
theorem g784 : Cond.methodLinkNest RX1 192 yX2_fundTons "BothToBlame" ∈ NW := nw_in (List.mem_of_getElem? (i := 784) (by decide +kernel)) (by decide +kernel)
theorem g817 : Cond.constantLong RX2 73 (48271) ∈ GW := gw_in (List.mem_of_getElem? (i := 817) (by decide +kernel)) (by decide +kernel)
theorem g818 : Cond.constantLong RX2 75 (2147483647) ∈ GW := gw_in (List.mem_of_getElem? (i := 818) (by decide +kernel)) (by decide +kernel)
theorem g953 : Cond.fieldLink RX5 52 "BothToBlameModel" "thrown" "I" ∈ GW := gw_in (List.mem_of_getElem? (i := 953) (by decide +kernel)) (by decide +kernel)
theorem g954 : Cond.fieldLink RX5 55 "BothToBlameModel" "trouble" "I" ∈ GW := gw_in (List.mem_of_getElem? (i := 954) (by decide +kernel)) (by decide +kernel)
theorem g955 : Cond.fieldLink RX5 9 "BothToBlameModel" "place" "I" ∈ GW := gw_in (List.mem_of_getElem? (i := 955) (by decide +kernel)) (by decide +kernel)
theorem g956 : Cond.fieldLink RX5 222 "BothToBlameModel" "fault" "I" ∈ GW := gw_in (List.mem_of_getElem? (i := 956) (by decide +kernel)) (by decide +kernel)
theorem g957 : Cond.fieldLink RX5 225 "BothToBlameModel" "told" "Z" ∈ GW := gw_in (List.mem_of_getElem? (i := 957) (by decide +kernel)) (by decide +kernel)
theorem g958 : Cond.fieldLink RX5 13 "BothToBlameModel" "s" "[I" ∈ GW := gw_in (List.mem_of_getElem? (i := 958) (by decide +kernel)) (by decide +kernel)
theorem g959 : Cond.fieldLink RX5 17 "BothToBlameModel" "w" "[I" ∈ GW := gw_in (List.mem_of_getElem? (i := 959) (by decide +kernel)) (by decide +kernel)
theorem g960 : Cond.fieldLink RX5 20 "BothToBlameModel" "read" "[I" ∈ GW := gw_in (List.mem_of_getElem? (i := 960) (by decide +kernel)) (by decide +kernel)
theorem g961 : Cond.fieldLink RX5 23 "BothToBlameModel" "past" "[I" ∈ GW := gw_in (List.mem_of_getElem? (i := 961) (by decide +kernel)) (by decide +kernel)
theorem g962 : Cond.fieldLink RX5 229 "BothToBlameModel" "acts" "I" ∈ GW := gw_in (List.mem_of_getElem? (i := 962) (by decide +kernel)) (by decide +kernel)
theorem g963 : Cond.fieldLink RX5 26 "BothToBlameModel" "kept" "[I" ∈ GW := gw_in (List.mem_of_getElem? (i := 963) (by decide +kernel)) (by decide +kernel)
theorem g964 : Cond.fieldLink RX5 29 "BothToBlameModel" "isKept" "[Z" ∈ GW := gw_in (List.mem_of_getElem? (i := 964) (by decide +kernel)) (by decide +kernel)
theorem g965 : Cond.fieldLink RX5 33 "BothToBlameModel" "names" "[J" ∈ GW := gw_in (List.mem_of_getElem? (i := 965) (by decide +kernel)) (by decide +kernel)
theorem g966 : Cond.fieldLink RX5 37 "BothToBlameModel" "readNames" "[J" ∈ GW := gw_in (List.mem_of_getElem? (i := 966) (by decide +kernel)) (by decide +kernel)
theorem g967 : Cond.fieldLink RX5 40 "BothToBlameModel" "tape" "[I" ∈ GW := gw_in (List.mem_of_getElem? (i := 967) (by decide +kernel)) (by decide +kernel)
theorem g968 : Cond.fieldLink RX5 58 "BothToBlameModel" "taped" "I" ∈ GW := gw_in (List.mem_of_getElem? (i := 968) (by decide +kernel)) (by decide +kernel)
theorem g969 : Cond.fieldLink RX5 61 "BothToBlameModel" "length" "I" ∈ GW := gw_in (List.mem_of_getElem? (i := 969) (by decide +kernel)) (by decide +kernel)
theorem g970 : Cond.fieldLink RX5 64 "BothToBlameModel" "next" "I" ∈ GW := gw_in (List.mem_of_getElem? (i := 970) (by decide +kernel)) (by decide +kernel)
theorem g971 : Cond.fieldLink RX5 71 "BothToBlameModel" "from" "I" ∈ GW := gw_in (List.mem_of_getElem? (i := 971) (by decide +kernel)) (by decide +kernel)
theorem g972 : Cond.fieldLink RX5 77 "BothToBlameModel" "sort" "I" ∈ GW := gw_in (List.mem_of_getElem? (i := 972) (by decide +kernel)) (by decide +kernel)
theorem g973 : Cond.fieldLink RX5 74 "BothToBlameModel" "many" "I" ∈ GW := gw_in (List.mem_of_getElem? (i := 973) (by decide +kernel)) (by decide +kernel)
theorem g974 : Cond.fieldLink RX5 95 "BothToBlameModel" "number" "I" ∈ GW := gw_in (List.mem_of_getElem? (i := 974) (by decide +kernel)) (by decide +kernel)
theorem g975 : Cond.fieldLink RX5 84 "BothToBlameModel" "word" "J" ∈ GW := gw_in (List.mem_of_getElem? (i := 975) (by decide +kernel)) (by decide +kernel)
theorem g976 : Cond.fieldLink RX5 98 "BothToBlameModel" "wrong" "I" ∈ GW := gw_in (List.mem_of_getElem? (i := 976) (by decide +kernel)) (by decide +kernel)
theorem g977 : Cond.fieldLink RX5 101 "BothToBlameModel" "wrongAt" "I" ∈ GW := gw_in (List.mem_of_getElem? (i := 977) (by decide +kernel)) (by decide +kernel)
theorem g978 : Cond.fieldLink RX5 182 "BothToBlameModel" "toldOnce" "I" ∈ GW := gw_in (List.mem_of_getElem? (i := 978) (by decide +kernel)) (by decide +kernel)
theorem g979 : Cond.fieldLink RX5 43 "BothToBlameModel" "owed" "[J" ∈ GW := gw_in (List.mem_of_getElem? (i := 979) (by decide +kernel)) (by decide +kernel)
theorem g980 : Cond.fieldLink RX5 46 "BothToBlameModel" "out" "[J" ∈ GW := gw_in (List.mem_of_getElem? (i := 980) (by decide +kernel)) (by decide +kernel)
theorem g981 : Cond.fieldLink RX5 49 "BothToBlameModel" "paid" "[J" ∈ GW := gw_in (List.mem_of_getElem? (i := 981) (by decide +kernel)) (by decide +kernel)
theorem g982 : Cond.fieldLink RX5 375 "BothToBlameModel" "drawn" "J" ∈ GW := gw_in (List.mem_of_getElem? (i := 982) (by decide +kernel)) (by decide +kernel)
theorem g1060 : Cond.methodLink RX5 212 yX5_begins ∈ GW := gw_in (List.mem_of_getElem? (i := 1060) (by decide +kernel)) (by decide +kernel)
theorem g1062 : Cond.instanceMethod yX5_begins ∈ GW := gw_in (List.mem_of_getElem? (i := 1062) (by decide +kernel)) (by decide +kernel)
theorem g1063 : Cond.code yX5_begins cX5_begins 1 (none) ∈ GW := gw_in (List.mem_of_getElem? (i := 1063) (by decide +kernel)) (by decide +kernel)
theorem g1064 : Cond.methodLink RX5 161 yX5_in ∈ GW := gw_in (List.mem_of_getElem? (i := 1064) (by decide +kernel)) (by decide +kernel)
theorem g1065 : Cond.static yX5_in ∈ GW := gw_in (List.mem_of_getElem? (i := 1065) (by decide +kernel)) (by decide +kernel)
theorem g1066 : Cond.code yX5_in cX5_in 6 (some .boolean) ∈ GW := gw_in (List.mem_of_getElem? (i := 1066) (by decide +kernel)) (by decide +kernel)
theorem g1067 : Cond.methodLink RX5 215 yX5_refuse ∈ GW := gw_in (List.mem_of_getElem? (i := 1067) (by decide +kernel)) (by decide +kernel)
theorem g1069 : Cond.instanceMethod yX5_refuse ∈ GW := gw_in (List.mem_of_getElem? (i := 1069) (by decide +kernel)) (by decide +kernel)
theorem g1070 : Cond.code yX5_refuse cX5_refuse 3 (some .boolean) ∈ GW := gw_in (List.mem_of_getElem? (i := 1070) (by decide +kernel)) (by decide +kernel)
theorem g1071 : Cond.methodLink RX5 219 yX5_reads ∈ GW := gw_in (List.mem_of_getElem? (i := 1071) (by decide +kernel)) (by decide +kernel)
theorem g1073 : Cond.instanceMethod yX5_reads ∈ GW := gw_in (List.mem_of_getElem? (i := 1073) (by decide +kernel)) (by decide +kernel)
theorem g1074 : Cond.code yX5_reads cX5_reads 3 (none) ∈ GW := gw_in (List.mem_of_getElem? (i := 1074) (by decide +kernel)) (by decide +kernel)
theorem g1075 : Cond.methodLink RX5 203 yX5_plain ∈ GW := gw_in (List.mem_of_getElem? (i := 1075) (by decide +kernel)) (by decide +kernel)
theorem g1077 : Cond.instanceMethod yX5_plain ∈ GW := gw_in (List.mem_of_getElem? (i := 1077) (by decide +kernel)) (by decide +kernel)
theorem g1078 : Cond.code yX5_plain cX5_plain 2 (none) ∈ GW := gw_in (List.mem_of_getElem? (i := 1078) (by decide +kernel)) (by decide +kernel)
theorem g1079 : Cond.methodLink RX5 104 yX5_token ∈ GW := gw_in (List.mem_of_getElem? (i := 1079) (by decide +kernel)) (by decide +kernel)
theorem g1081 : Cond.instanceMethod yX5_token ∈ GW := gw_in (List.mem_of_getElem? (i := 1081) (by decide +kernel)) (by decide +kernel)
theorem g1082 : Cond.code yX5_token cX5_token 2 (none) ∈ GW := gw_in (List.mem_of_getElem? (i := 1082) (by decide +kernel)) (by decide +kernel)
theorem g1083 : Cond.methodLink RX5 67 yX5_seen ∈ GW := gw_in (List.mem_of_getElem? (i := 1083) (by decide +kernel)) (by decide +kernel)
theorem g1085 : Cond.instanceMethod yX5_seen ∈ GW := gw_in (List.mem_of_getElem? (i := 1085) (by decide +kernel)) (by decide +kernel)
theorem g1086 : Cond.code yX5_seen cX5_seen 2 (some .int) ∈ GW := gw_in (List.mem_of_getElem? (i := 1086) (by decide +kernel)) (by decide +kernel)
theorem g1087 : Cond.methodLink RX5 80 yX5_isLetter ∈ GW := gw_in (List.mem_of_getElem? (i := 1087) (by decide +kernel)) (by decide +kernel)
theorem g1088 : Cond.static yX5_isLetter ∈ GW := gw_in (List.mem_of_getElem? (i := 1088) (by decide +kernel)) (by decide +kernel)
theorem g1089 : Cond.code yX5_isLetter cX5_isLetter 1 (some .boolean) ∈ GW := gw_in (List.mem_of_getElem? (i := 1089) (by decide +kernel)) (by decide +kernel)
theorem g1090 : Cond.constantLong RX5 88 (32) ∈ GW := gw_in (List.mem_of_getElem? (i := 1090) (by decide +kernel)) (by decide +kernel)
theorem g1091 : Cond.constantLong RX5 90 (96) ∈ GW := gw_in (List.mem_of_getElem? (i := 1091) (by decide +kernel)) (by decide +kernel)
theorem g1092 : Cond.methodLink RX5 92 yX5_isDigit ∈ GW := gw_in (List.mem_of_getElem? (i := 1092) (by decide +kernel)) (by decide +kernel)
theorem g1093 : Cond.static yX5_isDigit ∈ GW := gw_in (List.mem_of_getElem? (i := 1093) (by decide +kernel)) (by decide +kernel)
theorem g1094 : Cond.code yX5_isDigit cX5_isDigit 1 (some .boolean) ∈ GW := gw_in (List.mem_of_getElem? (i := 1094) (by decide +kernel)) (by decide +kernel)
theorem g1095 : Cond.methodLink RX5 206 yX5_line ∈ GW := gw_in (List.mem_of_getElem? (i := 1095) (by decide +kernel)) (by decide +kernel)
theorem g1097 : Cond.instanceMethod yX5_line ∈ GW := gw_in (List.mem_of_getElem? (i := 1097) (by decide +kernel)) (by decide +kernel)
theorem g1098 : Cond.code yX5_line cX5_line 2 (none) ∈ GW := gw_in (List.mem_of_getElem? (i := 1098) (by decide +kernel)) (by decide +kernel)
theorem g1099 : Cond.methodLink RX5 119 yX5_aboutHere ∈ GW := gw_in (List.mem_of_getElem? (i := 1099) (by decide +kernel)) (by decide +kernel)
theorem g1101 : Cond.instanceMethod yX5_aboutHere ∈ GW := gw_in (List.mem_of_getElem? (i := 1101) (by decide +kernel)) (by decide +kernel)
theorem g1102 : Cond.code yX5_aboutHere cX5_aboutHere 2 (some .int) ∈ GW := gw_in (List.mem_of_getElem? (i := 1102) (by decide +kernel)) (by decide +kernel)
theorem g1103 : Cond.methodLink RX5 111 yX5_aboutWord ∈ GW := gw_in (List.mem_of_getElem? (i := 1103) (by decide +kernel)) (by decide +kernel)
theorem g1104 : Cond.static yX5_aboutWord ∈ GW := gw_in (List.mem_of_getElem? (i := 1104) (by decide +kernel)) (by decide +kernel)
theorem g1105 : Cond.code yX5_aboutWord cX5_aboutWord 1 (some .long) ∈ GW := gw_in (List.mem_of_getElem? (i := 1105) (by decide +kernel)) (by decide +kernel)
theorem g1106 : Cond.methodLink RX5 107 yX5_spelled ∈ GW := gw_in (List.mem_of_getElem? (i := 1106) (by decide +kernel)) (by decide +kernel)
theorem g1107 : Cond.static yX5_spelled ∈ GW := gw_in (List.mem_of_getElem? (i := 1107) (by decide +kernel)) (by decide +kernel)
theorem g1108 : Cond.code yX5_spelled cX5_spelled 9 (some .long) ∈ GW := gw_in (List.mem_of_getElem? (i := 1108) (by decide +kernel)) (by decide +kernel)
theorem g1109 : Cond.methodLink RX5 115 yX5_isWord ∈ GW := gw_in (List.mem_of_getElem? (i := 1109) (by decide +kernel)) (by decide +kernel)
theorem g1111 : Cond.instanceMethod yX5_isWord ∈ GW := gw_in (List.mem_of_getElem? (i := 1111) (by decide +kernel)) (by decide +kernel)
theorem g1112 : Cond.code yX5_isWord cX5_isWord 3 (some .boolean) ∈ GW := gw_in (List.mem_of_getElem? (i := 1112) (by decide +kernel)) (by decide +kernel)
theorem g1113 : Cond.methodLink RX5 123 yX5_shipWord ∈ GW := gw_in (List.mem_of_getElem? (i := 1113) (by decide +kernel)) (by decide +kernel)
theorem g1114 : Cond.static yX5_shipWord ∈ GW := gw_in (List.mem_of_getElem? (i := 1114) (by decide +kernel)) (by decide +kernel)
theorem g1115 : Cond.code yX5_shipWord cX5_shipWord 0 (some .long) ∈ GW := gw_in (List.mem_of_getElem? (i := 1115) (by decide +kernel)) (by decide +kernel)
theorem g1116 : Cond.methodLink RX5 191 yX5_shipLine ∈ GW := gw_in (List.mem_of_getElem? (i := 1116) (by decide +kernel)) (by decide +kernel)
theorem g1118 : Cond.instanceMethod yX5_shipLine ∈ GW := gw_in (List.mem_of_getElem? (i := 1118) (by decide +kernel)) (by decide +kernel)
theorem g1119 : Cond.code yX5_shipLine cX5_shipLine 3 (none) ∈ GW := gw_in (List.mem_of_getElem? (i := 1119) (by decide +kernel)) (by decide +kernel)
theorem g1120 : Cond.methodLink RX5 154 yX5_fails ∈ GW := gw_in (List.mem_of_getElem? (i := 1120) (by decide +kernel)) (by decide +kernel)
theorem g1122 : Cond.instanceMethod yX5_fails ∈ GW := gw_in (List.mem_of_getElem? (i := 1122) (by decide +kernel)) (by decide +kernel)
theorem g1123 : Cond.code yX5_fails cX5_fails 2 (none) ∈ GW := gw_in (List.mem_of_getElem? (i := 1123) (by decide +kernel)) (by decide +kernel)
theorem g1124 : Cond.methodLink RX5 158 yX5_goesOn ∈ GW := gw_in (List.mem_of_getElem? (i := 1124) (by decide +kernel)) (by decide +kernel)
theorem g1126 : Cond.instanceMethod yX5_goesOn ∈ GW := gw_in (List.mem_of_getElem? (i := 1126) (by decide +kernel)) (by decide +kernel)
theorem g1127 : Cond.code yX5_goesOn cX5_goesOn 1 (none) ∈ GW := gw_in (List.mem_of_getElem? (i := 1127) (by decide +kernel)) (by decide +kernel)
theorem g1128 : Cond.methodLink RX5 165 yX5_isName ∈ GW := gw_in (List.mem_of_getElem? (i := 1128) (by decide +kernel)) (by decide +kernel)
theorem g1130 : Cond.instanceMethod yX5_isName ∈ GW := gw_in (List.mem_of_getElem? (i := 1130) (by decide +kernel)) (by decide +kernel)
theorem g1131 : Cond.code yX5_isName cX5_isName 1 (some .boolean) ∈ GW := gw_in (List.mem_of_getElem? (i := 1131) (by decide +kernel)) (by decide +kernel)
theorem g1132 : Cond.methodLink RX5 127 yX5_tonsWord ∈ GW := gw_in (List.mem_of_getElem? (i := 1132) (by decide +kernel)) (by decide +kernel)
theorem g1133 : Cond.static yX5_tonsWord ∈ GW := gw_in (List.mem_of_getElem? (i := 1133) (by decide +kernel)) (by decide +kernel)
theorem g1134 : Cond.code yX5_tonsWord cX5_tonsWord 0 (some .long) ∈ GW := gw_in (List.mem_of_getElem? (i := 1134) (by decide +kernel)) (by decide +kernel)
theorem g1135 : Cond.methodLink RX5 130 yX5_faultWord ∈ GW := gw_in (List.mem_of_getElem? (i := 1135) (by decide +kernel)) (by decide +kernel)
theorem g1136 : Cond.static yX5_faultWord ∈ GW := gw_in (List.mem_of_getElem? (i := 1136) (by decide +kernel)) (by decide +kernel)
theorem g1137 : Cond.code yX5_faultWord cX5_faultWord 0 (some .long) ∈ GW := gw_in (List.mem_of_getElem? (i := 1137) (by decide +kernel)) (by decide +kernel)
theorem g1138 : Cond.methodLink RX5 133 yX5_hullWord ∈ GW := gw_in (List.mem_of_getElem? (i := 1138) (by decide +kernel)) (by decide +kernel)
theorem g1139 : Cond.static yX5_hullWord ∈ GW := gw_in (List.mem_of_getElem? (i := 1139) (by decide +kernel)) (by decide +kernel)
theorem g1140 : Cond.code yX5_hullWord cX5_hullWord 0 (some .long) ∈ GW := gw_in (List.mem_of_getElem? (i := 1140) (by decide +kernel)) (by decide +kernel)
theorem g1141 : Cond.methodLink RX5 136 yX5_valueWord ∈ GW := gw_in (List.mem_of_getElem? (i := 1141) (by decide +kernel)) (by decide +kernel)
theorem g1142 : Cond.static yX5_valueWord ∈ GW := gw_in (List.mem_of_getElem? (i := 1142) (by decide +kernel)) (by decide +kernel)
theorem g1143 : Cond.code yX5_valueWord cX5_valueWord 0 (some .long) ∈ GW := gw_in (List.mem_of_getElem? (i := 1143) (by decide +kernel)) (by decide +kernel)
theorem g1144 : Cond.methodLink RX5 139 yX5_clauseWord ∈ GW := gw_in (List.mem_of_getElem? (i := 1144) (by decide +kernel)) (by decide +kernel)
theorem g1145 : Cond.static yX5_clauseWord ∈ GW := gw_in (List.mem_of_getElem? (i := 1145) (by decide +kernel)) (by decide +kernel)
theorem g1146 : Cond.code yX5_clauseWord cX5_clauseWord 0 (some .long) ∈ GW := gw_in (List.mem_of_getElem? (i := 1146) (by decide +kernel)) (by decide +kernel)
theorem g1147 : Cond.methodLink RX5 142 yX5_barredWord ∈ GW := gw_in (List.mem_of_getElem? (i := 1147) (by decide +kernel)) (by decide +kernel)
theorem g1148 : Cond.static yX5_barredWord ∈ GW := gw_in (List.mem_of_getElem? (i := 1148) (by decide +kernel)) (by decide +kernel)
theorem g1149 : Cond.code yX5_barredWord cX5_barredWord 0 (some .long) ∈ GW := gw_in (List.mem_of_getElem? (i := 1149) (by decide +kernel)) (by decide +kernel)
theorem g1150 : Cond.methodLink RX5 145 yX5_goodsWord ∈ GW := gw_in (List.mem_of_getElem? (i := 1150) (by decide +kernel)) (by decide +kernel)
theorem g1151 : Cond.static yX5_goodsWord ∈ GW := gw_in (List.mem_of_getElem? (i := 1151) (by decide +kernel)) (by decide +kernel)
theorem g1152 : Cond.code yX5_goodsWord cX5_goodsWord 0 (some .long) ∈ GW := gw_in (List.mem_of_getElem? (i := 1152) (by decide +kernel)) (by decide +kernel)
theorem g1153 : Cond.methodLink RX5 148 yX5_othersWord ∈ GW := gw_in (List.mem_of_getElem? (i := 1153) (by decide +kernel)) (by decide +kernel)
theorem g1154 : Cond.static yX5_othersWord ∈ GW := gw_in (List.mem_of_getElem? (i := 1154) (by decide +kernel)) (by decide +kernel)
theorem g1155 : Cond.code yX5_othersWord cX5_othersWord 0 (some .long) ∈ GW := gw_in (List.mem_of_getElem? (i := 1155) (by decide +kernel)) (by decide +kernel)
theorem g1156 : Cond.methodLink RX5 151 yX5_dayWord ∈ GW := gw_in (List.mem_of_getElem? (i := 1156) (by decide +kernel)) (by decide +kernel)
theorem g1157 : Cond.static yX5_dayWord ∈ GW := gw_in (List.mem_of_getElem? (i := 1157) (by decide +kernel)) (by decide +kernel)
theorem g1158 : Cond.code yX5_dayWord cX5_dayWord 0 (some .long) ∈ GW := gw_in (List.mem_of_getElem? (i := 1158) (by decide +kernel)) (by decide +kernel)
theorem g1159 : Cond.methodLink RX5 169 yX5_shipNamed ∈ GW := gw_in (List.mem_of_getElem? (i := 1159) (by decide +kernel)) (by decide +kernel)
theorem g1161 : Cond.instanceMethod yX5_shipNamed ∈ GW := gw_in (List.mem_of_getElem? (i := 1161) (by decide +kernel)) (by decide +kernel)
theorem g1162 : Cond.code yX5_shipNamed cX5_shipNamed 2 (some .int) ∈ GW := gw_in (List.mem_of_getElem? (i := 1162) (by decide +kernel)) (by decide +kernel)
theorem g1163 : Cond.methodLink RX5 172 yX5_takes ∈ GW := gw_in (List.mem_of_getElem? (i := 1163) (by decide +kernel)) (by decide +kernel)
theorem g1165 : Cond.instanceMethod yX5_takes ∈ GW := gw_in (List.mem_of_getElem? (i := 1165) (by decide +kernel)) (by decide +kernel)
theorem g1166 : Cond.code yX5_takes cX5_takes 3 (none) ∈ GW := gw_in (List.mem_of_getElem? (i := 1166) (by decide +kernel)) (by decide +kernel)
theorem g1167 : Cond.constant RX5 176 (99999) ∈ GW := gw_in (List.mem_of_getElem? (i := 1167) (by decide +kernel)) (by decide +kernel)
theorem g1168 : Cond.methodLink RX5 177 yX5_whole ∈ GW := gw_in (List.mem_of_getElem? (i := 1168) (by decide +kernel)) (by decide +kernel)
theorem g1170 : Cond.instanceMethod yX5_whole ∈ GW := gw_in (List.mem_of_getElem? (i := 1170) (by decide +kernel)) (by decide +kernel)
theorem g1171 : Cond.code yX5_whole cX5_whole 4 (some .int) ∈ GW := gw_in (List.mem_of_getElem? (i := 1171) (by decide +kernel)) (by decide +kernel)
theorem g1172 : Cond.constant RX5 181 (9999999) ∈ GW := gw_in (List.mem_of_getElem? (i := 1172) (by decide +kernel)) (by decide +kernel)
theorem g1173 : Cond.methodLink RX5 194 yX5_claimLine ∈ GW := gw_in (List.mem_of_getElem? (i := 1173) (by decide +kernel)) (by decide +kernel)
theorem g1175 : Cond.instanceMethod yX5_claimLine ∈ GW := gw_in (List.mem_of_getElem? (i := 1175) (by decide +kernel)) (by decide +kernel)
theorem g1176 : Cond.code yX5_claimLine cX5_claimLine 4 (none) ∈ GW := gw_in (List.mem_of_getElem? (i := 1176) (by decide +kernel)) (by decide +kernel)
theorem g1177 : Cond.methodLink RX5 197 yX5_personsWord ∈ GW := gw_in (List.mem_of_getElem? (i := 1177) (by decide +kernel)) (by decide +kernel)
theorem g1178 : Cond.static yX5_personsWord ∈ GW := gw_in (List.mem_of_getElem? (i := 1178) (by decide +kernel)) (by decide +kernel)
theorem g1179 : Cond.code yX5_personsWord cX5_personsWord 0 (some .long) ∈ GW := gw_in (List.mem_of_getElem? (i := 1179) (by decide +kernel)) (by decide +kernel)
theorem g1180 : Cond.methodLink RX5 200 yX5_aboutLine ∈ GW := gw_in (List.mem_of_getElem? (i := 1180) (by decide +kernel)) (by decide +kernel)
theorem g1182 : Cond.instanceMethod yX5_aboutLine ∈ GW := gw_in (List.mem_of_getElem? (i := 1182) (by decide +kernel)) (by decide +kernel)
theorem g1183 : Cond.code yX5_aboutLine cX5_aboutLine 2 (none) ∈ GW := gw_in (List.mem_of_getElem? (i := 1183) (by decide +kernel)) (by decide +kernel)
theorem g1184 : Cond.methodLink RX5 185 yX5_lowOf ∈ GW := gw_in (List.mem_of_getElem? (i := 1184) (by decide +kernel)) (by decide +kernel)
theorem g1185 : Cond.static yX5_lowOf ∈ GW := gw_in (List.mem_of_getElem? (i := 1185) (by decide +kernel)) (by decide +kernel)
theorem g1186 : Cond.code yX5_lowOf cX5_lowOf 1 (some .int) ∈ GW := gw_in (List.mem_of_getElem? (i := 1186) (by decide +kernel)) (by decide +kernel)
theorem g1187 : Cond.methodLink RX5 188 yX5_highOf ∈ GW := gw_in (List.mem_of_getElem? (i := 1187) (by decide +kernel)) (by decide +kernel)
theorem g1188 : Cond.static yX5_highOf ∈ GW := gw_in (List.mem_of_getElem? (i := 1188) (by decide +kernel)) (by decide +kernel)
theorem g1189 : Cond.code yX5_highOf cX5_highOf 1 (some .int) ∈ GW := gw_in (List.mem_of_getElem? (i := 1189) (by decide +kernel)) (by decide +kernel)
theorem g1190 : Cond.methodLink RX5 209 yX5_tenths ∈ GW := gw_in (List.mem_of_getElem? (i := 1190) (by decide +kernel)) (by decide +kernel)
theorem g1192 : Cond.instanceMethod yX5_tenths ∈ GW := gw_in (List.mem_of_getElem? (i := 1192) (by decide +kernel)) (by decide +kernel)
theorem g1193 : Cond.code yX5_tenths cX5_tenths 3 (some .int) ∈ GW := gw_in (List.mem_of_getElem? (i := 1193) (by decide +kernel)) (by decide +kernel)
theorem g1210 : Cond.constantLong RX5 232 (10) ∈ GW := gw_in (List.mem_of_getElem? (i := 1210) (by decide +kernel)) (by decide +kernel)
theorem g1215 : Cond.methodLink RX5 234 yX5_isShip ∈ GW := gw_in (List.mem_of_getElem? (i := 1215) (by decide +kernel)) (by decide +kernel)
theorem g1217 : Cond.instanceMethod yX5_isShip ∈ GW := gw_in (List.mem_of_getElem? (i := 1217) (by decide +kernel)) (by decide +kernel)
theorem g1218 : Cond.code yX5_isShip cX5_isShip 2 (some .boolean) ∈ GW := gw_in (List.mem_of_getElem? (i := 1218) (by decide +kernel)) (by decide +kernel)
theorem g1219 : Cond.constantLong RX5 237 (6) ∈ GW := gw_in (List.mem_of_getElem? (i := 1219) (by decide +kernel)) (by decide +kernel)
theorem g1220 : Cond.methodLink RX5 239 yX5_weightOf ∈ GW := gw_in (List.mem_of_getElem? (i := 1220) (by decide +kernel)) (by decide +kernel)
theorem g1221 : Cond.static yX5_weightOf ∈ GW := gw_in (List.mem_of_getElem? (i := 1221) (by decide +kernel)) (by decide +kernel)
theorem g1222 : Cond.code yX5_weightOf cX5_weightOf 3 (some .int) ∈ GW := gw_in (List.mem_of_getElem? (i := 1222) (by decide +kernel)) (by decide +kernel)
theorem g1223 : Cond.methodLink RX5 243 yX5_ofShip ∈ GW := gw_in (List.mem_of_getElem? (i := 1223) (by decide +kernel)) (by decide +kernel)
theorem g1224 : Cond.static yX5_ofShip ∈ GW := gw_in (List.mem_of_getElem? (i := 1224) (by decide +kernel)) (by decide +kernel)
theorem g1225 : Cond.code yX5_ofShip cX5_ofShip 3 (some .int) ∈ GW := gw_in (List.mem_of_getElem? (i := 1225) (by decide +kernel)) (by decide +kernel)
theorem g1230 : Cond.methodLink RX5 247 yX5_isClaim ∈ GW := gw_in (List.mem_of_getElem? (i := 1230) (by decide +kernel)) (by decide +kernel)
theorem g1232 : Cond.instanceMethod yX5_isClaim ∈ GW := gw_in (List.mem_of_getElem? (i := 1232) (by decide +kernel)) (by decide +kernel)
theorem g1233 : Cond.code yX5_isClaim cX5_isClaim 2 (some .boolean) ∈ GW := gw_in (List.mem_of_getElem? (i := 1233) (by decide +kernel)) (by decide +kernel)
theorem g1234 : Cond.constantLong RX5 250 (4) ∈ GW := gw_in (List.mem_of_getElem? (i := 1234) (by decide +kernel)) (by decide +kernel)
theorem g1235 : Cond.methodLink RX5 252 yX5_roundOf ∈ GW := gw_in (List.mem_of_getElem? (i := 1235) (by decide +kernel)) (by decide +kernel)
theorem g1236 : Cond.static yX5_roundOf ∈ GW := gw_in (List.mem_of_getElem? (i := 1236) (by decide +kernel)) (by decide +kernel)
theorem g1237 : Cond.code yX5_roundOf cX5_roundOf 3 (some .int) ∈ GW := gw_in (List.mem_of_getElem? (i := 1237) (by decide +kernel)) (by decide +kernel)
theorem g1238 : Cond.methodLink RX5 255 yX5_ofClaim ∈ GW := gw_in (List.mem_of_getElem? (i := 1238) (by decide +kernel)) (by decide +kernel)
theorem g1239 : Cond.static yX5_ofClaim ∈ GW := gw_in (List.mem_of_getElem? (i := 1239) (by decide +kernel)) (by decide +kernel)
theorem g1240 : Cond.code yX5_ofClaim cX5_ofClaim 3 (some .int) ∈ GW := gw_in (List.mem_of_getElem? (i := 1240) (by decide +kernel)) (by decide +kernel)
theorem g1249 : Cond.constantLong RX5 337 (9999999) ∈ GW := gw_in (List.mem_of_getElem? (i := 1249) (by decide +kernel)) (by decide +kernel)
theorem g1250 : Cond.methodLink RX5 262 yX5_partOf ∈ GW := gw_in (List.mem_of_getElem? (i := 1250) (by decide +kernel)) (by decide +kernel)
theorem g1251 : Cond.static yX5_partOf ∈ GW := gw_in (List.mem_of_getElem? (i := 1251) (by decide +kernel)) (by decide +kernel)
theorem g1252 : Cond.code yX5_partOf cX5_partOf 4 (some .long) ∈ GW := gw_in (List.mem_of_getElem? (i := 1252) (by decide +kernel)) (by decide +kernel)
theorem g1253 : Cond.methodLink RX5 258 yX5_weightsOf ∈ GW := gw_in (List.mem_of_getElem? (i := 1253) (by decide +kernel)) (by decide +kernel)
theorem g1254 : Cond.static yX5_weightsOf ∈ GW := gw_in (List.mem_of_getElem? (i := 1254) (by decide +kernel)) (by decide +kernel)
theorem g1255 : Cond.code yX5_weightsOf cX5_weightsOf 3 (some .int) ∈ GW := gw_in (List.mem_of_getElem? (i := 1255) (by decide +kernel)) (by decide +kernel)
theorem g1260 : Cond.methodLink RX5 266 yX5_debtOf ∈ GW := gw_in (List.mem_of_getElem? (i := 1260) (by decide +kernel)) (by decide +kernel)
theorem g1261 : Cond.static yX5_debtOf ∈ GW := gw_in (List.mem_of_getElem? (i := 1261) (by decide +kernel)) (by decide +kernel)
theorem g1262 : Cond.code yX5_debtOf cX5_debtOf 6 (some .long) ∈ GW := gw_in (List.mem_of_getElem? (i := 1262) (by decide +kernel)) (by decide +kernel)
theorem g1267 : Cond.constantLong RX5 339 (3) ∈ GW := gw_in (List.mem_of_getElem? (i := 1267) (by decide +kernel)) (by decide +kernel)
theorem g1268 : Cond.constantLong RX5 341 (-1) ∈ GW := gw_in (List.mem_of_getElem? (i := 1268) (by decide +kernel)) (by decide +kernel)
theorem g1269 : Cond.methodLink RX5 273 yX5_hullOwed ∈ GW := gw_in (List.mem_of_getElem? (i := 1269) (by decide +kernel)) (by decide +kernel)
theorem g1270 : Cond.static yX5_hullOwed ∈ GW := gw_in (List.mem_of_getElem? (i := 1270) (by decide +kernel)) (by decide +kernel)
theorem g1271 : Cond.code yX5_hullOwed cX5_hullOwed 3 (some .long) ∈ GW := gw_in (List.mem_of_getElem? (i := 1271) (by decide +kernel)) (by decide +kernel)
theorem g1272 : Cond.methodLink RX5 276 yX5_backOwed ∈ GW := gw_in (List.mem_of_getElem? (i := 1272) (by decide +kernel)) (by decide +kernel)
theorem g1273 : Cond.static yX5_backOwed ∈ GW := gw_in (List.mem_of_getElem? (i := 1273) (by decide +kernel)) (by decide +kernel)
theorem g1274 : Cond.code yX5_backOwed cX5_backOwed 6 (some .long) ∈ GW := gw_in (List.mem_of_getElem? (i := 1274) (by decide +kernel)) (by decide +kernel)
theorem g1275 : Cond.methodLink RX5 270 yX5_backTo ∈ GW := gw_in (List.mem_of_getElem? (i := 1275) (by decide +kernel)) (by decide +kernel)
theorem g1276 : Cond.static yX5_backTo ∈ GW := gw_in (List.mem_of_getElem? (i := 1276) (by decide +kernel)) (by decide +kernel)
theorem g1277 : Cond.code yX5_backTo cX5_backTo 3 (some .long) ∈ GW := gw_in (List.mem_of_getElem? (i := 1277) (by decide +kernel)) (by decide +kernel)
theorem g1278 : Cond.methodLink RX5 279 yX5_bothOwed ∈ GW := gw_in (List.mem_of_getElem? (i := 1278) (by decide +kernel)) (by decide +kernel)
theorem g1279 : Cond.static yX5_bothOwed ∈ GW := gw_in (List.mem_of_getElem? (i := 1279) (by decide +kernel)) (by decide +kernel)
theorem g1280 : Cond.code yX5_bothOwed cX5_bothOwed 3 (some .long) ∈ GW := gw_in (List.mem_of_getElem? (i := 1280) (by decide +kernel)) (by decide +kernel)
theorem g1281 : Cond.methodLink RX5 295 yX5_lawOwed ∈ GW := gw_in (List.mem_of_getElem? (i := 1281) (by decide +kernel)) (by decide +kernel)
theorem g1282 : Cond.static yX5_lawOwed ∈ GW := gw_in (List.mem_of_getElem? (i := 1282) (by decide +kernel)) (by decide +kernel)
theorem g1283 : Cond.code yX5_lawOwed cX5_lawOwed 5 (some .long) ∈ GW := gw_in (List.mem_of_getElem? (i := 1283) (by decide +kernel)) (by decide +kernel)
theorem g1284 : Cond.methodLink RX5 282 yX5_lesser ∈ GW := gw_in (List.mem_of_getElem? (i := 1284) (by decide +kernel)) (by decide +kernel)
theorem g1285 : Cond.static yX5_lesser ∈ GW := gw_in (List.mem_of_getElem? (i := 1285) (by decide +kernel)) (by decide +kernel)
theorem g1286 : Cond.code yX5_lesser cX5_lesser 4 (some .long) ∈ GW := gw_in (List.mem_of_getElem? (i := 1286) (by decide +kernel)) (by decide +kernel)
theorem g1291 : Cond.methodLink RX5 324 yX5_backOf ∈ GW := gw_in (List.mem_of_getElem? (i := 1291) (by decide +kernel)) (by decide +kernel)
theorem g1292 : Cond.static yX5_backOf ∈ GW := gw_in (List.mem_of_getElem? (i := 1292) (by decide +kernel)) (by decide +kernel)
theorem g1293 : Cond.code yX5_backOf cX5_backOf 5 (some .long) ∈ GW := gw_in (List.mem_of_getElem? (i := 1293) (by decide +kernel)) (by decide +kernel)
theorem g1298 : Cond.methodLink RX5 298 yX5_fundOf ∈ GW := gw_in (List.mem_of_getElem? (i := 1298) (by decide +kernel)) (by decide +kernel)
theorem g1299 : Cond.static yX5_fundOf ∈ GW := gw_in (List.mem_of_getElem? (i := 1299) (by decide +kernel)) (by decide +kernel)
theorem g1300 : Cond.code yX5_fundOf cX5_fundOf 5 (some .long) ∈ GW := gw_in (List.mem_of_getElem? (i := 1300) (by decide +kernel)) (by decide +kernel)
theorem g1301 : Cond.methodLink RX5 286 yX5_greater ∈ GW := gw_in (List.mem_of_getElem? (i := 1301) (by decide +kernel)) (by decide +kernel)
theorem g1302 : Cond.static yX5_greater ∈ GW := gw_in (List.mem_of_getElem? (i := 1302) (by decide +kernel)) (by decide +kernel)
theorem g1303 : Cond.code yX5_greater cX5_greater 4 (some .long) ∈ GW := gw_in (List.mem_of_getElem? (i := 1303) (by decide +kernel)) (by decide +kernel)
theorem g1304 : Cond.constantLong RX5 289 (2000000000) ∈ GW := gw_in (List.mem_of_getElem? (i := 1304) (by decide +kernel)) (by decide +kernel)
theorem g1309 : Cond.methodLink RX5 343 yX5_laysPaid ∈ GW := gw_in (List.mem_of_getElem? (i := 1309) (by decide +kernel)) (by decide +kernel)
theorem g1311 : Cond.instanceMethod yX5_laysPaid ∈ GW := gw_in (List.mem_of_getElem? (i := 1311) (by decide +kernel)) (by decide +kernel)
theorem g1312 : Cond.code yX5_laysPaid cX5_laysPaid 1 (none) ∈ GW := gw_in (List.mem_of_getElem? (i := 1312) (by decide +kernel)) (by decide +kernel)
theorem g1313 : Cond.methodLink RX5 318 yX5_lays ∈ GW := gw_in (List.mem_of_getElem? (i := 1313) (by decide +kernel)) (by decide +kernel)
theorem g1315 : Cond.instanceMethod yX5_lays ∈ GW := gw_in (List.mem_of_getElem? (i := 1315) (by decide +kernel)) (by decide +kernel)
theorem g1316 : Cond.code yX5_lays cX5_lays 2 (none) ∈ GW := gw_in (List.mem_of_getElem? (i := 1316) (by decide +kernel)) (by decide +kernel)
theorem g1317 : Cond.methodLink RX5 321 yX5_paysAll ∈ GW := gw_in (List.mem_of_getElem? (i := 1317) (by decide +kernel)) (by decide +kernel)
theorem g1319 : Cond.instanceMethod yX5_paysAll ∈ GW := gw_in (List.mem_of_getElem? (i := 1319) (by decide +kernel)) (by decide +kernel)
theorem g1320 : Cond.code yX5_paysAll cX5_paysAll 2 (none) ∈ GW := gw_in (List.mem_of_getElem? (i := 1320) (by decide +kernel)) (by decide +kernel)
theorem g1321 : Cond.methodLink RX5 315 yX5_paysOne ∈ GW := gw_in (List.mem_of_getElem? (i := 1321) (by decide +kernel)) (by decide +kernel)
theorem g1323 : Cond.instanceMethod yX5_paysOne ∈ GW := gw_in (List.mem_of_getElem? (i := 1323) (by decide +kernel)) (by decide +kernel)
theorem g1324 : Cond.code yX5_paysOne cX5_paysOne 5 (none) ∈ GW := gw_in (List.mem_of_getElem? (i := 1324) (by decide +kernel)) (by decide +kernel)
theorem g1325 : Cond.methodLink RX5 291 yX5_clears ∈ GW := gw_in (List.mem_of_getElem? (i := 1325) (by decide +kernel)) (by decide +kernel)
theorem g1327 : Cond.instanceMethod yX5_clears ∈ GW := gw_in (List.mem_of_getElem? (i := 1327) (by decide +kernel)) (by decide +kernel)
theorem g1328 : Cond.code yX5_clears cX5_clears 3 (none) ∈ GW := gw_in (List.mem_of_getElem? (i := 1328) (by decide +kernel)) (by decide +kernel)
theorem g1329 : Cond.methodLink RX5 309 yX5_sharesLives ∈ GW := gw_in (List.mem_of_getElem? (i := 1329) (by decide +kernel)) (by decide +kernel)
theorem g1331 : Cond.instanceMethod yX5_sharesLives ∈ GW := gw_in (List.mem_of_getElem? (i := 1331) (by decide +kernel)) (by decide +kernel)
theorem g1332 : Cond.code yX5_sharesLives cX5_sharesLives 5 (none) ∈ GW := gw_in (List.mem_of_getElem? (i := 1332) (by decide +kernel)) (by decide +kernel)
theorem g1333 : Cond.methodLink RX5 301 yX5_owesPersons ∈ GW := gw_in (List.mem_of_getElem? (i := 1333) (by decide +kernel)) (by decide +kernel)
theorem g1335 : Cond.instanceMethod yX5_owesPersons ∈ GW := gw_in (List.mem_of_getElem? (i := 1335) (by decide +kernel)) (by decide +kernel)
theorem g1336 : Cond.code yX5_owesPersons cX5_owesPersons 4 (none) ∈ GW := gw_in (List.mem_of_getElem? (i := 1336) (by decide +kernel)) (by decide +kernel)
theorem g1337 : Cond.methodLink RX5 305 yX5_shares ∈ GW := gw_in (List.mem_of_getElem? (i := 1337) (by decide +kernel)) (by decide +kernel)
theorem g1339 : Cond.instanceMethod yX5_shares ∈ GW := gw_in (List.mem_of_getElem? (i := 1339) (by decide +kernel)) (by decide +kernel)
theorem g1340 : Cond.code yX5_shares cX5_shares 10 (some .long) ∈ GW := gw_in (List.mem_of_getElem? (i := 1340) (by decide +kernel)) (by decide +kernel)
theorem g1341 : Cond.methodLink RX5 312 yX5_owesAll ∈ GW := gw_in (List.mem_of_getElem? (i := 1341) (by decide +kernel)) (by decide +kernel)
theorem g1343 : Cond.instanceMethod yX5_owesAll ∈ GW := gw_in (List.mem_of_getElem? (i := 1343) (by decide +kernel)) (by decide +kernel)
theorem g1344 : Cond.code yX5_owesAll cX5_owesAll 4 (none) ∈ GW := gw_in (List.mem_of_getElem? (i := 1344) (by decide +kernel)) (by decide +kernel)
theorem g1353 : Cond.methodLink RX5 346 yX5_owedBy ∈ GW := gw_in (List.mem_of_getElem? (i := 1353) (by decide +kernel)) (by decide +kernel)
theorem g1355 : Cond.instanceMethod yX5_owedBy ∈ GW := gw_in (List.mem_of_getElem? (i := 1355) (by decide +kernel)) (by decide +kernel)
theorem g1356 : Cond.code yX5_owedBy cX5_owedBy 5 (some .long) ∈ GW := gw_in (List.mem_of_getElem? (i := 1356) (by decide +kernel)) (by decide +kernel)
theorem g1357 : Cond.methodLink RX5 331 yX5_paidBy ∈ GW := gw_in (List.mem_of_getElem? (i := 1357) (by decide +kernel)) (by decide +kernel)
theorem g1359 : Cond.instanceMethod yX5_paidBy ∈ GW := gw_in (List.mem_of_getElem? (i := 1359) (by decide +kernel)) (by decide +kernel)
theorem g1360 : Cond.code yX5_paidBy cX5_paidBy 5 (some .long) ∈ GW := gw_in (List.mem_of_getElem? (i := 1360) (by decide +kernel)) (by decide +kernel)
theorem g1369 : Cond.constantLong RX5 349 (2) ∈ GW := gw_in (List.mem_of_getElem? (i := 1369) (by decide +kernel)) (by decide +kernel)
theorem g1370 : Cond.methodLink RX5 328 yX5_paidTo ∈ GW := gw_in (List.mem_of_getElem? (i := 1370) (by decide +kernel)) (by decide +kernel)
theorem g1372 : Cond.instanceMethod yX5_paidTo ∈ GW := gw_in (List.mem_of_getElem? (i := 1372) (by decide +kernel)) (by decide +kernel)
theorem g1373 : Cond.code yX5_paidTo cX5_paidTo 5 (some .long) ∈ GW := gw_in (List.mem_of_getElem? (i := 1373) (by decide +kernel)) (by decide +kernel)
theorem g1374 : Cond.methodLink RX5 334 yX5_givenOf ∈ GW := gw_in (List.mem_of_getElem? (i := 1374) (by decide +kernel)) (by decide +kernel)
theorem g1376 : Cond.instanceMethod yX5_givenOf ∈ GW := gw_in (List.mem_of_getElem? (i := 1376) (by decide +kernel)) (by decide +kernel)
theorem g1377 : Cond.code yX5_givenOf cX5_givenOf 3 (some .long) ∈ GW := gw_in (List.mem_of_getElem? (i := 1377) (by decide +kernel)) (by decide +kernel)
theorem g1386 : Cond.constantLong RX5 351 (-1000000000000) ∈ GW := gw_in (List.mem_of_getElem? (i := 1386) (by decide +kernel)) (by decide +kernel)
theorem g1387 : Cond.methodLink RX5 353 yX5_netOf ∈ GW := gw_in (List.mem_of_getElem? (i := 1387) (by decide +kernel)) (by decide +kernel)
theorem g1389 : Cond.instanceMethod yX5_netOf ∈ GW := gw_in (List.mem_of_getElem? (i := 1389) (by decide +kernel)) (by decide +kernel)
theorem g1390 : Cond.code yX5_netOf cX5_netOf 5 (some .long) ∈ GW := gw_in (List.mem_of_getElem? (i := 1390) (by decide +kernel)) (by decide +kernel)
theorem g1395 : Cond.constantLong RX5 356 (7) ∈ GW := gw_in (List.mem_of_getElem? (i := 1395) (by decide +kernel)) (by decide +kernel)
theorem g1396 : Cond.methodLink RX5 358 yX5_netWith ∈ GW := gw_in (List.mem_of_getElem? (i := 1396) (by decide +kernel)) (by decide +kernel)
theorem g1398 : Cond.instanceMethod yX5_netWith ∈ GW := gw_in (List.mem_of_getElem? (i := 1398) (by decide +kernel)) (by decide +kernel)
theorem g1399 : Cond.code yX5_netWith cX5_netWith 4 (some .long) ∈ GW := gw_in (List.mem_of_getElem? (i := 1399) (by decide +kernel)) (by decide +kernel)
theorem g1412 : Cond.methodLink RX5 362 yX5_neededOf ∈ GW := gw_in (List.mem_of_getElem? (i := 1412) (by decide +kernel)) (by decide +kernel)
theorem g1414 : Cond.instanceMethod yX5_neededOf ∈ GW := gw_in (List.mem_of_getElem? (i := 1414) (by decide +kernel)) (by decide +kernel)
theorem g1415 : Cond.code yX5_neededOf cX5_neededOf 5 (some .long) ∈ GW := gw_in (List.mem_of_getElem? (i := 1415) (by decide +kernel)) (by decide +kernel)
theorem g1416 : Cond.constantLong RX5 365 (99999) ∈ GW := gw_in (List.mem_of_getElem? (i := 1416) (by decide +kernel)) (by decide +kernel)
theorem g1421 : Cond.methodLink RX5 367 yX5_netShifted ∈ GW := gw_in (List.mem_of_getElem? (i := 1421) (by decide +kernel)) (by decide +kernel)
theorem g1423 : Cond.instanceMethod yX5_netShifted ∈ GW := gw_in (List.mem_of_getElem? (i := 1423) (by decide +kernel)) (by decide +kernel)
theorem g1424 : Cond.code yX5_netShifted cX5_netShifted 5 (some .long) ∈ GW := gw_in (List.mem_of_getElem? (i := 1424) (by decide +kernel)) (by decide +kernel)
theorem g1429 : Cond.constantLong RX5 371 (-1000000000) ∈ GW := gw_in (List.mem_of_getElem? (i := 1429) (by decide +kernel)) (by decide +kernel)
theorem g1430 : Cond.constantLong RX5 373 (1000000000) ∈ GW := gw_in (List.mem_of_getElem? (i := 1430) (by decide +kernel)) (by decide +kernel)
theorem g1435 : Cond.constantLong RX5 385 (2147483646) ∈ GW := gw_in (List.mem_of_getElem? (i := 1435) (by decide +kernel)) (by decide +kernel)
theorem g1436 : Cond.constantLong RX5 387 (50) ∈ GW := gw_in (List.mem_of_getElem? (i := 1436) (by decide +kernel)) (by decide +kernel)
theorem g1437 : Cond.methodLink RX5 389 yX5_netJudged ∈ GW := gw_in (List.mem_of_getElem? (i := 1437) (by decide +kernel)) (by decide +kernel)
theorem g1439 : Cond.instanceMethod yX5_netJudged ∈ GW := gw_in (List.mem_of_getElem? (i := 1439) (by decide +kernel)) (by decide +kernel)
theorem g1440 : Cond.code yX5_netJudged cX5_netJudged 3 (some .long) ∈ GW := gw_in (List.mem_of_getElem? (i := 1440) (by decide +kernel)) (by decide +kernel)
theorem g1441 : Cond.methodLink RX5 382 yX5_draw ∈ GW := gw_in (List.mem_of_getElem? (i := 1441) (by decide +kernel)) (by decide +kernel)
theorem g1443 : Cond.instanceMethod yX5_draw ∈ GW := gw_in (List.mem_of_getElem? (i := 1443) (by decide +kernel)) (by decide +kernel)
theorem g1444 : Cond.code yX5_draw cX5_draw 2 (some .int) ∈ GW := gw_in (List.mem_of_getElem? (i := 1444) (by decide +kernel)) (by decide +kernel)
theorem g1445 : Cond.constantLong RX5 378 (48271) ∈ GW := gw_in (List.mem_of_getElem? (i := 1445) (by decide +kernel)) (by decide +kernel)
theorem g1446 : Cond.constantLong RX5 380 (2147483647) ∈ GW := gw_in (List.mem_of_getElem? (i := 1446) (by decide +kernel)) (by decide +kernel)
theorem g1455 : Cond.methodLink RX5 392 yX5_keeps ∈ GW := gw_in (List.mem_of_getElem? (i := 1455) (by decide +kernel)) (by decide +kernel)
theorem g1457 : Cond.instanceMethod yX5_keeps ∈ GW := gw_in (List.mem_of_getElem? (i := 1457) (by decide +kernel)) (by decide +kernel)
theorem g1458 : Cond.code yX5_keeps cX5_keeps 2 (none) ∈ GW := gw_in (List.mem_of_getElem? (i := 1458) (by decide +kernel)) (by decide +kernel)
theorem g1463 : Cond.constantLong RX5 395 (999) ∈ GW := gw_in (List.mem_of_getElem? (i := 1463) (by decide +kernel)) (by decide +kernel)
theorem g1472 : Cond.constantLong RX5 397 (5) ∈ GW := gw_in (List.mem_of_getElem? (i := 1472) (by decide +kernel)) (by decide +kernel)
theorem g1473 : Cond.methodLink RX5 399 yX5_isWithin ∈ GW := gw_in (List.mem_of_getElem? (i := 1473) (by decide +kernel)) (by decide +kernel)
theorem g1474 : Cond.static yX5_isWithin ∈ GW := gw_in (List.mem_of_getElem? (i := 1474) (by decide +kernel)) (by decide +kernel)
theorem g1475 : Cond.code yX5_isWithin cX5_isWithin 2 (some .boolean) ∈ GW := gw_in (List.mem_of_getElem? (i := 1475) (by decide +kernel)) (by decide +kernel)
theorem g1480 : Cond.constantLong RX5 403 (9) ∈ GW := gw_in (List.mem_of_getElem? (i := 1480) (by decide +kernel)) (by decide +kernel)
theorem fg_X2_9 {p : Program} {l : Launch} {e : Env} {R : Room} {s : State} {m : MethodId} {args : Array Value} {below : List Frame} {meth : Method} {c : Code} {H : Heap} {locs : List Loc} {cells slots : Nat} {Q : State → Prop} {cc : ByteArray} {pc : Nat} {ls : Array Slot} {rest : List Value} {A : Nat → Prop} {G : GT} {ws : va_W} {a : Nat} (hx : p.tables.exec = Jvm.exec) (hb : c.code = cc) (hown : s.vm.findClass RX2 = some m.cls) (hts : ∀ w ∈ GW, w.before args s = true) (hE : EV G A s s.heap) (hs : SI G A s H locs ws) (q0 : Nat) {fs : List Value} (he : ws[q0]? = some (a, .inr (2, fs))) {v : Value} (hv : fs[0]? = some v) (hdg : decode cc pc = .ok (.getfield 9, 3))
    (kk : W p l e R s m args below meth c H locs cells slots Q (F0 m (pc + 3) ls (v :: rest))) : W p l e R s m args below meth c H locs cells slots Q (F0 m pc ls (.ref a :: rest)) :=
  va_get (D := G.1) (ci := 2) (C := RX2) (T := TX2) (N := 6) hx hb hts inGX2 hown hE.1 hs.1 q0 he rfl 0 (by decide) (hts _ g158) (fun _ h9 => h9) hv hdg kk
theorem fp_X2_9 {p : Program} {l : Launch} {e : Env} {R : Room} {s : State} {m : MethodId} {args : Array Value} {below : List Frame} {meth : Method} {c : Code} {H : Heap} {locs : List Loc} {cells slots : Nat} {Q : State → Prop} {cc : ByteArray} {pc : Nat} {ls : Array Slot} {rest : List Value} {A : Nat → Prop} {G : GT} {ws ws' : va_W} {a : Nat} (hx : p.tables.exec = Jvm.exec) (hb : c.code = cc) (hown : s.vm.findClass RX2 = some m.cls) (hts : ∀ w ∈ GW, w.before args s = true) (hE : EV G A s s.heap) (hs : SI G A s H locs ws) (q0 : Nat) {fs : List Value} (he : ws[q0]? = some (a, .inr (2, fs))) {x : Int32} (hl : 0 < fs.length) (hw : ws.set q0 (a, .inr (2, fs.set 0 (.int x))) = ws') (hdg : decode cc pc = .ok (.putfield 9, 3))
    (kk : ∀ (H1 : Heap) (locs1 : List Loc), SI G A s H1 locs1 ws' → W p l e R s m args below meth c H1 locs1 cells slots Q (F0 m (pc + 3) ls rest)) : W p l e R s m args below meth c H locs cells slots Q (F0 m pc ls (.int x :: .ref a :: rest)) :=
  va_put (D := G.1) (ci := 2) (v := .int x) (ty := .int) (C := RX2) (T := TX2) (N := 6) hx hb hts inGX2 tyX2 tyX2_ok nmX2 hown hE.1 hs.1 hs.2.1 hs.2.2 q0 he rfl 0 (by decide) (hts _ g158) (fun _ h9 => h9) rfl (by decide +kernel) rfl rfl hl hdg (fun H1 locs1 hP hD hS => kk H1 locs1 (hw ▸ ⟨hP, hD, hS⟩))
theorem fg_X2_15 {p : Program} {l : Launch} {e : Env} {R : Room} {s : State} {m : MethodId} {args : Array Value} {below : List Frame} {meth : Method} {c : Code} {H : Heap} {locs : List Loc} {cells slots : Nat} {Q : State → Prop} {cc : ByteArray} {pc : Nat} {ls : Array Slot} {rest : List Value} {A : Nat → Prop} {G : GT} {ws : va_W} {a : Nat} (hx : p.tables.exec = Jvm.exec) (hb : c.code = cc) (hown : s.vm.findClass RX2 = some m.cls) (hts : ∀ w ∈ GW, w.before args s = true) (hE : EV G A s s.heap) (hs : SI G A s H locs ws) (q0 : Nat) {fs : List Value} (he : ws[q0]? = some (a, .inr (2, fs))) {v : Value} (hv : fs[1]? = some v) (hdg : decode cc pc = .ok (.getfield 15, 3))
    (kk : W p l e R s m args below meth c H locs cells slots Q (F0 m (pc + 3) ls (v :: rest))) : W p l e R s m args below meth c H locs cells slots Q (F0 m pc ls (.ref a :: rest)) :=
  va_get (D := G.1) (ci := 2) (C := RX2) (T := TX2) (N := 6) hx hb hts inGX2 hown hE.1 hs.1 q0 he rfl 1 (by decide) (hts _ g162) (fun _ h9 => h9) hv hdg kk
theorem fp_X2_15 {p : Program} {l : Launch} {e : Env} {R : Room} {s : State} {m : MethodId} {args : Array Value} {below : List Frame} {meth : Method} {c : Code} {H : Heap} {locs : List Loc} {cells slots : Nat} {Q : State → Prop} {cc : ByteArray} {pc : Nat} {ls : Array Slot} {rest : List Value} {A : Nat → Prop} {G : GT} {ws ws' : va_W} {a : Nat} (hx : p.tables.exec = Jvm.exec) (hb : c.code = cc) (hown : s.vm.findClass RX2 = some m.cls) (hts : ∀ w ∈ GW, w.before args s = true) (hE : EV G A s s.heap) (hs : SI G A s H locs ws) (q0 : Nat) {fs : List Value} (he : ws[q0]? = some (a, .inr (2, fs))) {x : Int32} (hl : 1 < fs.length) (hw : ws.set q0 (a, .inr (2, fs.set 1 (.int x))) = ws') (hdg : decode cc pc = .ok (.putfield 15, 3))
    (kk : ∀ (H1 : Heap) (locs1 : List Loc), SI G A s H1 locs1 ws' → W p l e R s m args below meth c H1 locs1 cells slots Q (F0 m (pc + 3) ls rest)) : W p l e R s m args below meth c H locs cells slots Q (F0 m pc ls (.int x :: .ref a :: rest)) :=
  va_put (D := G.1) (ci := 2) (v := .int x) (ty := .int) (C := RX2) (T := TX2) (N := 6) hx hb hts inGX2 tyX2 tyX2_ok nmX2 hown hE.1 hs.1 hs.2.1 hs.2.2 q0 he rfl 1 (by decide) (hts _ g162) (fun _ h9 => h9) rfl (by decide +kernel) rfl rfl hl hdg (fun H1 locs1 hP hD hS => kk H1 locs1 (hw ▸ ⟨hP, hD, hS⟩))
theorem fg_X2_18 {p : Program} {l : Launch} {e : Env} {R : Room} {s : State} {m : MethodId} {args : Array Value} {below : List Frame} {meth : Method} {c : Code} {H : Heap} {locs : List Loc} {cells slots : Nat} {Q : State → Prop} {cc : ByteArray} {pc : Nat} {ls : Array Slot} {rest : List Value} {A : Nat → Prop} {G : GT} {ws : va_W} {a : Nat} (hx : p.tables.exec = Jvm.exec) (hb : c.code = cc) (hown : s.vm.findClass RX2 = some m.cls) (hts : ∀ w ∈ GW, w.before args s = true) (hE : EV G A s s.heap) (hs : SI G A s H locs ws) (q0 : Nat) {fs : List Value} (he : ws[q0]? = some (a, .inr (2, fs))) {v : Value} (hv : fs[2]? = some v) (hdg : decode cc pc = .ok (.getfield 18, 3))
    (kk : W p l e R s m args below meth c H locs cells slots Q (F0 m (pc + 3) ls (v :: rest))) : W p l e R s m args below meth c H locs cells slots Q (F0 m pc ls (.ref a :: rest)) :=
  va_get (D := G.1) (ci := 2) (C := RX2) (T := TX2) (N := 6) hx hb hts inGX2 hown hE.1 hs.1 q0 he rfl 2 (by decide) (hts _ g166) (fun _ h9 => h9) hv hdg kk
theorem fg_X2_22 {p : Program} {l : Launch} {e : Env} {R : Room} {s : State} {m : MethodId} {args : Array Value} {below : List Frame} {meth : Method} {c : Code} {H : Heap} {locs : List Loc} {cells slots : Nat} {Q : State → Prop} {cc : ByteArray} {pc : Nat} {ls : Array Slot} {rest : List Value} {A : Nat → Prop} {G : GT} {ws : va_W} {a : Nat} (hx : p.tables.exec = Jvm.exec) (hb : c.code = cc) (hown : s.vm.findClass RX2 = some m.cls) (hts : ∀ w ∈ GW, w.before args s = true) (hE : EV G A s s.heap) (hs : SI G A s H locs ws) (q0 : Nat) {fs : List Value} (he : ws[q0]? = some (a, .inr (2, fs))) {v : Value} (hv : fs[3]? = some v) (hdg : decode cc pc = .ok (.getfield 22, 3))
    (kk : W p l e R s m args below meth c H locs cells slots Q (F0 m (pc + 3) ls (v :: rest))) : W p l e R s m args below meth c H locs cells slots Q (F0 m pc ls (.ref a :: rest)) :=
  va_get (D := G.1) (ci := 2) (C := RX2) (T := TX2) (N := 6) hx hb hts inGX2 hown hE.1 hs.1 q0 he rfl 3 (by decide) (hts _ g168) (fun _ h9 => h9) hv hdg kk
theorem fg_X2_26 {p : Program} {l : Launch} {e : Env} {R : Room} {s : State} {m : MethodId} {args : Array Value} {below : List Frame} {meth : Method} {c : Code} {H : Heap} {locs : List Loc} {cells slots : Nat} {Q : State → Prop} {cc : ByteArray} {pc : Nat} {ls : Array Slot} {rest : List Value} {A : Nat → Prop} {G : GT} {ws : va_W} {a : Nat} (hx : p.tables.exec = Jvm.exec) (hb : c.code = cc) (hown : s.vm.findClass RX2 = some m.cls) (hts : ∀ w ∈ GW, w.before args s = true) (hE : EV G A s s.heap) (hs : SI G A s H locs ws) (q0 : Nat) {fs : List Value} (he : ws[q0]? = some (a, .inr (2, fs))) {v : Value} (hv : fs[4]? = some v) (hdg : decode cc pc = .ok (.getfield 26, 3))
    (kk : W p l e R s m args below meth c H locs cells slots Q (F0 m (pc + 3) ls (v :: rest))) : W p l e R s m args below meth c H locs cells slots Q (F0 m pc ls (.ref a :: rest)) :=
  va_get (D := G.1) (ci := 2) (C := RX2) (T := TX2) (N := 6) hx hb hts inGX2 hown hE.1 hs.1 q0 he rfl 4 (by decide) (hts _ g169) (fun _ h9 => h9) hv hdg kk
theorem fg_X2_29 {p : Program} {l : Launch} {e : Env} {R : Room} {s : State} {m : MethodId} {args : Array Value} {below : List Frame} {meth : Method} {c : Code} {H : Heap} {locs : List Loc} {cells slots : Nat} {Q : State → Prop} {cc : ByteArray} {pc : Nat} {ls : Array Slot} {rest : List Value} {A : Nat → Prop} {G : GT} {ws : va_W} {a : Nat} (hx : p.tables.exec = Jvm.exec) (hb : c.code = cc) (hown : s.vm.findClass RX2 = some m.cls) (hts : ∀ w ∈ GW, w.before args s = true) (hE : EV G A s s.heap) (hs : SI G A s H locs ws) (q0 : Nat) {fs : List Value} (he : ws[q0]? = some (a, .inr (2, fs))) {v : Value} (hv : fs[5]? = some v) (hdg : decode cc pc = .ok (.getfield 29, 3))
    (kk : W p l e R s m args below meth c H locs cells slots Q (F0 m (pc + 3) ls (v :: rest))) : W p l e R s m args below meth c H locs cells slots Q (F0 m pc ls (.ref a :: rest)) :=
  va_get (D := G.1) (ci := 2) (C := RX2) (T := TX2) (N := 6) hx hb hts inGX2 hown hE.1 hs.1 q0 he rfl 5 (by decide) (hts _ g170) (fun _ h9 => h9) hv hdg kk
theorem fg_X1_12 {p : Program} {l : Launch} {e : Env} {R : Room} {s : State} {m : MethodId} {args : Array Value} {below : List Frame} {meth : Method} {c : Code} {H : Heap} {locs : List Loc} {cells slots : Nat} {Q : State → Prop} {cc : ByteArray} {pc : Nat} {ls : Array Slot} {rest : List Value} {A : Nat → Prop} {G : GT} {ws : va_W} {a : Nat} (hx : p.tables.exec = Jvm.exec) (hb : c.code = cc) (hown : s.vm.findClass RX1 = some m.cls) (hts : ∀ w ∈ GW, w.before args s = true) (hE : EV G A s s.heap) (hs : SI G A s H locs ws) (q0 : Nat) {fs : List Value} (he : ws[q0]? = some (a, .inr (1, fs))) {v : Value} (hv : fs[0]? = some v) (hdg : decode cc pc = .ok (.getfield 12, 3))
    (kk : W p l e R s m args below meth c H locs cells slots Q (F0 m (pc + 3) ls (v :: rest))) : W p l e R s m args below meth c H locs cells slots Q (F0 m pc ls (.ref a :: rest)) :=
  va_get (D := G.1) (ci := 1) (C := RX1) (T := TX1) (N := 7) hx hb hts inGX1 hown hE.1 hs.1 q0 he rfl 0 (by decide) (hts _ g237) (fun _ h9 => h9) hv hdg kk
theorem fp_X1_35 {p : Program} {l : Launch} {e : Env} {R : Room} {s : State} {m : MethodId} {args : Array Value} {below : List Frame} {meth : Method} {c : Code} {H : Heap} {locs : List Loc} {cells slots : Nat} {Q : State → Prop} {cc : ByteArray} {pc : Nat} {ls : Array Slot} {rest : List Value} {A : Nat → Prop} {G : GT} {ws ws' : va_W} {a : Nat} (hx : p.tables.exec = Jvm.exec) (hb : c.code = cc) (hown : s.vm.findClass RX1 = some m.cls) (hts : ∀ w ∈ GW, w.before args s = true) (hE : EV G A s s.heap) (hs : SI G A s H locs ws) (q0 : Nat) {fs : List Value} (he : ws[q0]? = some (a, .inr (1, fs))) {x : Int32} (hl : 6 < fs.length) (hw : ws.set q0 (a, .inr (1, fs.set 6 (.int x))) = ws') (hdg : decode cc pc = .ok (.putfield 35, 3))
    (kk : ∀ (H1 : Heap) (locs1 : List Loc), SI G A s H1 locs1 ws' → W p l e R s m args below meth c H1 locs1 cells slots Q (F0 m (pc + 3) ls rest)) : W p l e R s m args below meth c H locs cells slots Q (F0 m pc ls (.int x :: .ref a :: rest)) :=
  va_put (D := G.1) (ci := 1) (v := .int x) (ty := .int) (C := RX1) (T := TX1) (N := 7) hx hb hts inGX1 tyX1 tyX1_ok nmX1 hown hE.1 hs.1 hs.2.1 hs.2.2 q0 he rfl 6 (by decide) (hts _ g244) (fun _ h9 => h9) rfl (by decide +kernel) rfl rfl hl hdg (fun H1 locs1 hP hD hS => kk H1 locs1 (hw ▸ ⟨hP, hD, hS⟩))
theorem fg_X1_61 {p : Program} {l : Launch} {e : Env} {R : Room} {s : State} {m : MethodId} {args : Array Value} {below : List Frame} {meth : Method} {c : Code} {H : Heap} {locs : List Loc} {cells slots : Nat} {Q : State → Prop} {cc : ByteArray} {pc : Nat} {ls : Array Slot} {rest : List Value} {A : Nat → Prop} {G : GT} {ws : va_W} {a : Nat} (hx : p.tables.exec = Jvm.exec) (hb : c.code = cc) (hown : s.vm.findClass RX1 = some m.cls) (hts : ∀ w ∈ GW, w.before args s = true) (hE : EV G A s s.heap) (hs : SI G A s H locs ws) (q0 : Nat) {fs : List Value} (he : ws[q0]? = some (a, .inr (2, fs))) {v : Value} (hv : fs[0]? = some v) (hdg : decode cc pc = .ok (.getfield 61, 3))
    (kk : W p l e R s m args below meth c H locs cells slots Q (F0 m (pc + 3) ls (v :: rest))) : W p l e R s m args below meth c H locs cells slots Q (F0 m pc ls (.ref a :: rest)) :=
  va_getN (D := G.1) (ci := 2) (C := RX2) (T := TX2) (N := 6) hx hb hts inGX2 hown hE.1 hs.1 q0 he rfl 0 (by decide) (va_Nw.use rfl (hE.2.1 _ g159)) (fun _ h9 => h9) hv hdg kk
theorem fg_X1_18 {p : Program} {l : Launch} {e : Env} {R : Room} {s : State} {m : MethodId} {args : Array Value} {below : List Frame} {meth : Method} {c : Code} {H : Heap} {locs : List Loc} {cells slots : Nat} {Q : State → Prop} {cc : ByteArray} {pc : Nat} {ls : Array Slot} {rest : List Value} {A : Nat → Prop} {G : GT} {ws : va_W} {a : Nat} (hx : p.tables.exec = Jvm.exec) (hb : c.code = cc) (hown : s.vm.findClass RX1 = some m.cls) (hts : ∀ w ∈ GW, w.before args s = true) (hE : EV G A s s.heap) (hs : SI G A s H locs ws) (q0 : Nat) {fs : List Value} (he : ws[q0]? = some (a, .inr (1, fs))) {v : Value} (hv : fs[1]? = some v) (hdg : decode cc pc = .ok (.getfield 18, 3))
    (kk : W p l e R s m args below meth c H locs cells slots Q (F0 m (pc + 3) ls (v :: rest))) : W p l e R s m args below meth c H locs cells slots Q (F0 m pc ls (.ref a :: rest)) :=
  va_get (D := G.1) (ci := 1) (C := RX1) (T := TX1) (N := 7) hx hb hts inGX1 hown hE.1 hs.1 q0 he rfl 1 (by decide) (hts _ g239) (fun _ h9 => h9) hv hdg kk
theorem fg_X1_35 {p : Program} {l : Launch} {e : Env} {R : Room} {s : State} {m : MethodId} {args : Array Value} {below : List Frame} {meth : Method} {c : Code} {H : Heap} {locs : List Loc} {cells slots : Nat} {Q : State → Prop} {cc : ByteArray} {pc : Nat} {ls : Array Slot} {rest : List Value} {A : Nat → Prop} {G : GT} {ws : va_W} {a : Nat} (hx : p.tables.exec = Jvm.exec) (hb : c.code = cc) (hown : s.vm.findClass RX1 = some m.cls) (hts : ∀ w ∈ GW, w.before args s = true) (hE : EV G A s s.heap) (hs : SI G A s H locs ws) (q0 : Nat) {fs : List Value} (he : ws[q0]? = some (a, .inr (1, fs))) {v : Value} (hv : fs[6]? = some v) (hdg : decode cc pc = .ok (.getfield 35, 3))
    (kk : W p l e R s m args below meth c H locs cells slots Q (F0 m (pc + 3) ls (v :: rest))) : W p l e R s m args below meth c H locs cells slots Q (F0 m pc ls (.ref a :: rest)) :=
  va_get (D := G.1) (ci := 1) (C := RX1) (T := TX1) (N := 7) hx hb hts inGX1 hown hE.1 hs.1 q0 he rfl 6 (by decide) (hts _ g244) (fun _ h9 => h9) hv hdg kk
theorem fg_X1_76 {p : Program} {l : Launch} {e : Env} {R : Room} {s : State} {m : MethodId} {args : Array Value} {below : List Frame} {meth : Method} {c : Code} {H : Heap} {locs : List Loc} {cells slots : Nat} {Q : State → Prop} {cc : ByteArray} {pc : Nat} {ls : Array Slot} {rest : List Value} {A : Nat → Prop} {G : GT} {ws : va_W} {a : Nat} (hx : p.tables.exec = Jvm.exec) (hb : c.code = cc) (hown : s.vm.findClass RX1 = some m.cls) (hts : ∀ w ∈ GW, w.before args s = true) (hE : EV G A s s.heap) (hs : SI G A s H locs ws) (q0 : Nat) {fs : List Value} (he : ws[q0]? = some (a, .inr (2, fs))) {v : Value} (hv : fs[1]? = some v) (hdg : decode cc pc = .ok (.getfield 76, 3))
    (kk : W p l e R s m args below meth c H locs cells slots Q (F0 m (pc + 3) ls (v :: rest))) : W p l e R s m args below meth c H locs cells slots Q (F0 m pc ls (.ref a :: rest)) :=
  va_getN (D := G.1) (ci := 2) (C := RX2) (T := TX2) (N := 6) hx hb hts inGX2 hown hE.1 hs.1 q0 he rfl 1 (by decide) (va_Nw.use rfl (hE.2.1 _ g164)) (fun _ h9 => h9) hv hdg kk
theorem fg_X1_26 {p : Program} {l : Launch} {e : Env} {R : Room} {s : State} {m : MethodId} {args : Array Value} {below : List Frame} {meth : Method} {c : Code} {H : Heap} {locs : List Loc} {cells slots : Nat} {Q : State → Prop} {cc : ByteArray} {pc : Nat} {ls : Array Slot} {rest : List Value} {A : Nat → Prop} {G : GT} {ws : va_W} {a : Nat} (hx : p.tables.exec = Jvm.exec) (hb : c.code = cc) (hown : s.vm.findClass RX1 = some m.cls) (hts : ∀ w ∈ GW, w.before args s = true) (hE : EV G A s s.heap) (hs : SI G A s H locs ws) (q0 : Nat) {fs : List Value} (he : ws[q0]? = some (a, .inr (1, fs))) {v : Value} (hv : fs[3]? = some v) (hdg : decode cc pc = .ok (.getfield 26, 3))
    (kk : W p l e R s m args below meth c H locs cells slots Q (F0 m (pc + 3) ls (v :: rest))) : W p l e R s m args below meth c H locs cells slots Q (F0 m pc ls (.ref a :: rest)) :=
  va_get (D := G.1) (ci := 1) (C := RX1) (T := TX1) (N := 7) hx hb hts inGX1 hown hE.1 hs.1 q0 he rfl 3 (by decide) (hts _ g241) (fun _ h9 => h9) hv hdg kk
theorem fg_X1_22 {p : Program} {l : Launch} {e : Env} {R : Room} {s : State} {m : MethodId} {args : Array Value} {below : List Frame} {meth : Method} {c : Code} {H : Heap} {locs : List Loc} {cells slots : Nat} {Q : State → Prop} {cc : ByteArray} {pc : Nat} {ls : Array Slot} {rest : List Value} {A : Nat → Prop} {G : GT} {ws : va_W} {a : Nat} (hx : p.tables.exec = Jvm.exec) (hb : c.code = cc) (hown : s.vm.findClass RX1 = some m.cls) (hts : ∀ w ∈ GW, w.before args s = true) (hE : EV G A s s.heap) (hs : SI G A s H locs ws) (q0 : Nat) {fs : List Value} (he : ws[q0]? = some (a, .inr (1, fs))) {v : Value} (hv : fs[2]? = some v) (hdg : decode cc pc = .ok (.getfield 22, 3))
    (kk : W p l e R s m args below meth c H locs cells slots Q (F0 m (pc + 3) ls (v :: rest))) : W p l e R s m args below meth c H locs cells slots Q (F0 m pc ls (.ref a :: rest)) :=
  va_get (D := G.1) (ci := 1) (C := RX1) (T := TX1) (N := 7) hx hb hts inGX1 hown hE.1 hs.1 q0 he rfl 2 (by decide) (hts _ g240) (fun _ h9 => h9) hv hdg kk
theorem fg_X1_32 {p : Program} {l : Launch} {e : Env} {R : Room} {s : State} {m : MethodId} {args : Array Value} {below : List Frame} {meth : Method} {c : Code} {H : Heap} {locs : List Loc} {cells slots : Nat} {Q : State → Prop} {cc : ByteArray} {pc : Nat} {ls : Array Slot} {rest : List Value} {A : Nat → Prop} {G : GT} {ws : va_W} {a : Nat} (hx : p.tables.exec = Jvm.exec) (hb : c.code = cc) (hown : s.vm.findClass RX1 = some m.cls) (hts : ∀ w ∈ GW, w.before args s = true) (hE : EV G A s s.heap) (hs : SI G A s H locs ws) (q0 : Nat) {fs : List Value} (he : ws[q0]? = some (a, .inr (1, fs))) {v : Value} (hv : fs[5]? = some v) (hdg : decode cc pc = .ok (.getfield 32, 3))
    (kk : W p l e R s m args below meth c H locs cells slots Q (F0 m (pc + 3) ls (v :: rest))) : W p l e R s m args below meth c H locs cells slots Q (F0 m pc ls (.ref a :: rest)) :=
  va_get (D := G.1) (ci := 1) (C := RX1) (T := TX1) (N := 7) hx hb hts inGX1 hown hE.1 hs.1 q0 he rfl 5 (by decide) (hts _ g243) (fun _ h9 => h9) hv hdg kk
theorem fg_X1_29 {p : Program} {l : Launch} {e : Env} {R : Room} {s : State} {m : MethodId} {args : Array Value} {below : List Frame} {meth : Method} {c : Code} {H : Heap} {locs : List Loc} {cells slots : Nat} {Q : State → Prop} {cc : ByteArray} {pc : Nat} {ls : Array Slot} {rest : List Value} {A : Nat → Prop} {G : GT} {ws : va_W} {a : Nat} (hx : p.tables.exec = Jvm.exec) (hb : c.code = cc) (hown : s.vm.findClass RX1 = some m.cls) (hts : ∀ w ∈ GW, w.before args s = true) (hE : EV G A s s.heap) (hs : SI G A s H locs ws) (q0 : Nat) {fs : List Value} (he : ws[q0]? = some (a, .inr (1, fs))) {v : Value} (hv : fs[4]? = some v) (hdg : decode cc pc = .ok (.getfield 29, 3))
    (kk : W p l e R s m args below meth c H locs cells slots Q (F0 m (pc + 3) ls (v :: rest))) : W p l e R s m args below meth c H locs cells slots Q (F0 m pc ls (.ref a :: rest)) :=
  va_get (D := G.1) (ci := 1) (C := RX1) (T := TX1) (N := 7) hx hb hts inGX1 hown hE.1 hs.1 q0 he rfl 4 (by decide) (hts _ g242) (fun _ h9 => h9) hv hdg kk
theorem fg_X5_52 {p : Program} {l : Launch} {e : Env} {R : Room} {s : State} {m : MethodId} {args : Array Value} {below : List Frame} {meth : Method} {c : Code} {H : Heap} {locs : List Loc} {cells slots : Nat} {Q : State → Prop} {cc : ByteArray} {pc : Nat} {ls : Array Slot} {rest : List Value} {A : Nat → Prop} {G : GT} {ws : va_W} {a : Nat} (hx : p.tables.exec = Jvm.exec) (hb : c.code = cc) (hown : s.vm.findClass RX5 = some m.cls) (hts : ∀ w ∈ GW, w.before args s = true) (hE : EV G A s s.heap) (hs : SI G A s H locs ws) (q0 : Nat) {fs : List Value} (he : ws[q0]? = some (a, .inr (4, fs))) {v : Value} (hv : fs[0]? = some v) (hdg : decode cc pc = .ok (.getfield 52, 3))
    (kk : W p l e R s m args below meth c H locs cells slots Q (F0 m (pc + 3) ls (v :: rest))) : W p l e R s m args below meth c H locs cells slots Q (F0 m pc ls (.ref a :: rest)) :=
  va_get (D := G.1) (ci := 4) (C := RX5) (T := TX5) (N := 30) hx hb hts inGX5 hown hE.1 hs.1 q0 he rfl 0 (by decide) (hts _ g953) (fun _ h9 => h9) hv hdg kk
theorem fp_X5_52 {p : Program} {l : Launch} {e : Env} {R : Room} {s : State} {m : MethodId} {args : Array Value} {below : List Frame} {meth : Method} {c : Code} {H : Heap} {locs : List Loc} {cells slots : Nat} {Q : State → Prop} {cc : ByteArray} {pc : Nat} {ls : Array Slot} {rest : List Value} {A : Nat → Prop} {G : GT} {ws ws' : va_W} {a : Nat} (hx : p.tables.exec = Jvm.exec) (hb : c.code = cc) (hown : s.vm.findClass RX5 = some m.cls) (hts : ∀ w ∈ GW, w.before args s = true) (hE : EV G A s s.heap) (hs : SI G A s H locs ws) (q0 : Nat) {fs : List Value} (he : ws[q0]? = some (a, .inr (4, fs))) {x : Int32} (hl : 0 < fs.length) (hw : ws.set q0 (a, .inr (4, fs.set 0 (.int x))) = ws') (hdg : decode cc pc = .ok (.putfield 52, 3))
    (kk : ∀ (H1 : Heap) (locs1 : List Loc), SI G A s H1 locs1 ws' → W p l e R s m args below meth c H1 locs1 cells slots Q (F0 m (pc + 3) ls rest)) : W p l e R s m args below meth c H locs cells slots Q (F0 m pc ls (.int x :: .ref a :: rest)) :=
  va_put (D := G.1) (ci := 4) (v := .int x) (ty := .int) (C := RX5) (T := TX5) (N := 30) hx hb hts inGX5 tyX5 tyX5_ok nmX5 hown hE.1 hs.1 hs.2.1 hs.2.2 q0 he rfl 0 (by decide) (hts _ g953) (fun _ h9 => h9) rfl (by decide +kernel) rfl rfl hl hdg (fun H1 locs1 hP hD hS => kk H1 locs1 (hw ▸ ⟨hP, hD, hS⟩))
theorem fp_X5_55 {p : Program} {l : Launch} {e : Env} {R : Room} {s : State} {m : MethodId} {args : Array Value} {below : List Frame} {meth : Method} {c : Code} {H : Heap} {locs : List Loc} {cells slots : Nat} {Q : State → Prop} {cc : ByteArray} {pc : Nat} {ls : Array Slot} {rest : List Value} {A : Nat → Prop} {G : GT} {ws ws' : va_W} {a : Nat} (hx : p.tables.exec = Jvm.exec) (hb : c.code = cc) (hown : s.vm.findClass RX5 = some m.cls) (hts : ∀ w ∈ GW, w.before args s = true) (hE : EV G A s s.heap) (hs : SI G A s H locs ws) (q0 : Nat) {fs : List Value} (he : ws[q0]? = some (a, .inr (4, fs))) {x : Int32} (hl : 1 < fs.length) (hw : ws.set q0 (a, .inr (4, fs.set 1 (.int x))) = ws') (hdg : decode cc pc = .ok (.putfield 55, 3))
    (kk : ∀ (H1 : Heap) (locs1 : List Loc), SI G A s H1 locs1 ws' → W p l e R s m args below meth c H1 locs1 cells slots Q (F0 m (pc + 3) ls rest)) : W p l e R s m args below meth c H locs cells slots Q (F0 m pc ls (.int x :: .ref a :: rest)) :=
  va_put (D := G.1) (ci := 4) (v := .int x) (ty := .int) (C := RX5) (T := TX5) (N := 30) hx hb hts inGX5 tyX5 tyX5_ok nmX5 hown hE.1 hs.1 hs.2.1 hs.2.2 q0 he rfl 1 (by decide) (hts _ g954) (fun _ h9 => h9) rfl (by decide +kernel) rfl rfl hl hdg (fun H1 locs1 hP hD hS => kk H1 locs1 (hw ▸ ⟨hP, hD, hS⟩))
theorem fp_X5_9 {p : Program} {l : Launch} {e : Env} {R : Room} {s : State} {m : MethodId} {args : Array Value} {below : List Frame} {meth : Method} {c : Code} {H : Heap} {locs : List Loc} {cells slots : Nat} {Q : State → Prop} {cc : ByteArray} {pc : Nat} {ls : Array Slot} {rest : List Value} {A : Nat → Prop} {G : GT} {ws ws' : va_W} {a : Nat} (hx : p.tables.exec = Jvm.exec) (hb : c.code = cc) (hown : s.vm.findClass RX5 = some m.cls) (hts : ∀ w ∈ GW, w.before args s = true) (hE : EV G A s s.heap) (hs : SI G A s H locs ws) (q0 : Nat) {fs : List Value} (he : ws[q0]? = some (a, .inr (4, fs))) {x : Int32} (hl : 2 < fs.length) (hw : ws.set q0 (a, .inr (4, fs.set 2 (.int x))) = ws') (hdg : decode cc pc = .ok (.putfield 9, 3))
    (kk : ∀ (H1 : Heap) (locs1 : List Loc), SI G A s H1 locs1 ws' → W p l e R s m args below meth c H1 locs1 cells slots Q (F0 m (pc + 3) ls rest)) : W p l e R s m args below meth c H locs cells slots Q (F0 m pc ls (.int x :: .ref a :: rest)) :=
  va_put (D := G.1) (ci := 4) (v := .int x) (ty := .int) (C := RX5) (T := TX5) (N := 30) hx hb hts inGX5 tyX5 tyX5_ok nmX5 hown hE.1 hs.1 hs.2.1 hs.2.2 q0 he rfl 2 (by decide) (hts _ g955) (fun _ h9 => h9) rfl (by decide +kernel) rfl rfl hl hdg (fun H1 locs1 hP hD hS => kk H1 locs1 (hw ▸ ⟨hP, hD, hS⟩))
theorem fg_X5_55 {p : Program} {l : Launch} {e : Env} {R : Room} {s : State} {m : MethodId} {args : Array Value} {below : List Frame} {meth : Method} {c : Code} {H : Heap} {locs : List Loc} {cells slots : Nat} {Q : State → Prop} {cc : ByteArray} {pc : Nat} {ls : Array Slot} {rest : List Value} {A : Nat → Prop} {G : GT} {ws : va_W} {a : Nat} (hx : p.tables.exec = Jvm.exec) (hb : c.code = cc) (hown : s.vm.findClass RX5 = some m.cls) (hts : ∀ w ∈ GW, w.before args s = true) (hE : EV G A s s.heap) (hs : SI G A s H locs ws) (q0 : Nat) {fs : List Value} (he : ws[q0]? = some (a, .inr (4, fs))) {v : Value} (hv : fs[1]? = some v) (hdg : decode cc pc = .ok (.getfield 55, 3))
    (kk : W p l e R s m args below meth c H locs cells slots Q (F0 m (pc + 3) ls (v :: rest))) : W p l e R s m args below meth c H locs cells slots Q (F0 m pc ls (.ref a :: rest)) :=
  va_get (D := G.1) (ci := 4) (C := RX5) (T := TX5) (N := 30) hx hb hts inGX5 hown hE.1 hs.1 q0 he rfl 1 (by decide) (hts _ g954) (fun _ h9 => h9) hv hdg kk
theorem fg_X5_58 {p : Program} {l : Launch} {e : Env} {R : Room} {s : State} {m : MethodId} {args : Array Value} {below : List Frame} {meth : Method} {c : Code} {H : Heap} {locs : List Loc} {cells slots : Nat} {Q : State → Prop} {cc : ByteArray} {pc : Nat} {ls : Array Slot} {rest : List Value} {A : Nat → Prop} {G : GT} {ws : va_W} {a : Nat} (hx : p.tables.exec = Jvm.exec) (hb : c.code = cc) (hown : s.vm.findClass RX5 = some m.cls) (hts : ∀ w ∈ GW, w.before args s = true) (hE : EV G A s s.heap) (hs : SI G A s H locs ws) (q0 : Nat) {fs : List Value} (he : ws[q0]? = some (a, .inr (4, fs))) {v : Value} (hv : fs[15]? = some v) (hdg : decode cc pc = .ok (.getfield 58, 3))
    (kk : W p l e R s m args below meth c H locs cells slots Q (F0 m (pc + 3) ls (v :: rest))) : W p l e R s m args below meth c H locs cells slots Q (F0 m pc ls (.ref a :: rest)) :=
  va_get (D := G.1) (ci := 4) (C := RX5) (T := TX5) (N := 30) hx hb hts inGX5 hown hE.1 hs.1 q0 he rfl 15 (by decide) (hts _ g968) (fun _ h9 => h9) hv hdg kk
theorem fg_X5_40 {p : Program} {l : Launch} {e : Env} {R : Room} {s : State} {m : MethodId} {args : Array Value} {below : List Frame} {meth : Method} {c : Code} {H : Heap} {locs : List Loc} {cells slots : Nat} {Q : State → Prop} {cc : ByteArray} {pc : Nat} {ls : Array Slot} {rest : List Value} {A : Nat → Prop} {G : GT} {ws : va_W} {a : Nat} (hx : p.tables.exec = Jvm.exec) (hb : c.code = cc) (hown : s.vm.findClass RX5 = some m.cls) (hts : ∀ w ∈ GW, w.before args s = true) (hE : EV G A s s.heap) (hs : SI G A s H locs ws) (q0 : Nat) {fs : List Value} (he : ws[q0]? = some (a, .inr (4, fs))) {v : Value} (hv : fs[14]? = some v) (hdg : decode cc pc = .ok (.getfield 40, 3))
    (kk : W p l e R s m args below meth c H locs cells slots Q (F0 m (pc + 3) ls (v :: rest))) : W p l e R s m args below meth c H locs cells slots Q (F0 m pc ls (.ref a :: rest)) :=
  va_get (D := G.1) (ci := 4) (C := RX5) (T := TX5) (N := 30) hx hb hts inGX5 hown hE.1 hs.1 q0 he rfl 14 (by decide) (hts _ g967) (fun _ h9 => h9) hv hdg kk
theorem fp_X5_58 {p : Program} {l : Launch} {e : Env} {R : Room} {s : State} {m : MethodId} {args : Array Value} {below : List Frame} {meth : Method} {c : Code} {H : Heap} {locs : List Loc} {cells slots : Nat} {Q : State → Prop} {cc : ByteArray} {pc : Nat} {ls : Array Slot} {rest : List Value} {A : Nat → Prop} {G : GT} {ws ws' : va_W} {a : Nat} (hx : p.tables.exec = Jvm.exec) (hb : c.code = cc) (hown : s.vm.findClass RX5 = some m.cls) (hts : ∀ w ∈ GW, w.before args s = true) (hE : EV G A s s.heap) (hs : SI G A s H locs ws) (q0 : Nat) {fs : List Value} (he : ws[q0]? = some (a, .inr (4, fs))) {x : Int32} (hl : 15 < fs.length) (hw : ws.set q0 (a, .inr (4, fs.set 15 (.int x))) = ws') (hdg : decode cc pc = .ok (.putfield 58, 3))
    (kk : ∀ (H1 : Heap) (locs1 : List Loc), SI G A s H1 locs1 ws' → W p l e R s m args below meth c H1 locs1 cells slots Q (F0 m (pc + 3) ls rest)) : W p l e R s m args below meth c H locs cells slots Q (F0 m pc ls (.int x :: .ref a :: rest)) :=
  va_put (D := G.1) (ci := 4) (v := .int x) (ty := .int) (C := RX5) (T := TX5) (N := 30) hx hb hts inGX5 tyX5 tyX5_ok nmX5 hown hE.1 hs.1 hs.2.1 hs.2.2 q0 he rfl 15 (by decide) (hts _ g968) (fun _ h9 => h9) rfl (by decide +kernel) rfl rfl hl hdg (fun H1 locs1 hP hD hS => kk H1 locs1 (hw ▸ ⟨hP, hD, hS⟩))
theorem fg_X5_61 {p : Program} {l : Launch} {e : Env} {R : Room} {s : State} {m : MethodId} {args : Array Value} {below : List Frame} {meth : Method} {c : Code} {H : Heap} {locs : List Loc} {cells slots : Nat} {Q : State → Prop} {cc : ByteArray} {pc : Nat} {ls : Array Slot} {rest : List Value} {A : Nat → Prop} {G : GT} {ws : va_W} {a : Nat} (hx : p.tables.exec = Jvm.exec) (hb : c.code = cc) (hown : s.vm.findClass RX5 = some m.cls) (hts : ∀ w ∈ GW, w.before args s = true) (hE : EV G A s s.heap) (hs : SI G A s H locs ws) (q0 : Nat) {fs : List Value} (he : ws[q0]? = some (a, .inr (4, fs))) {v : Value} (hv : fs[16]? = some v) (hdg : decode cc pc = .ok (.getfield 61, 3))
    (kk : W p l e R s m args below meth c H locs cells slots Q (F0 m (pc + 3) ls (v :: rest))) : W p l e R s m args below meth c H locs cells slots Q (F0 m pc ls (.ref a :: rest)) :=
  va_get (D := G.1) (ci := 4) (C := RX5) (T := TX5) (N := 30) hx hb hts inGX5 hown hE.1 hs.1 q0 he rfl 16 (by decide) (hts _ g969) (fun _ h9 => h9) hv hdg kk
theorem fg_X5_64 {p : Program} {l : Launch} {e : Env} {R : Room} {s : State} {m : MethodId} {args : Array Value} {below : List Frame} {meth : Method} {c : Code} {H : Heap} {locs : List Loc} {cells slots : Nat} {Q : State → Prop} {cc : ByteArray} {pc : Nat} {ls : Array Slot} {rest : List Value} {A : Nat → Prop} {G : GT} {ws : va_W} {a : Nat} (hx : p.tables.exec = Jvm.exec) (hb : c.code = cc) (hown : s.vm.findClass RX5 = some m.cls) (hts : ∀ w ∈ GW, w.before args s = true) (hE : EV G A s s.heap) (hs : SI G A s H locs ws) (q0 : Nat) {fs : List Value} (he : ws[q0]? = some (a, .inr (4, fs))) {v : Value} (hv : fs[17]? = some v) (hdg : decode cc pc = .ok (.getfield 64, 3))
    (kk : W p l e R s m args below meth c H locs cells slots Q (F0 m (pc + 3) ls (v :: rest))) : W p l e R s m args below meth c H locs cells slots Q (F0 m pc ls (.ref a :: rest)) :=
  va_get (D := G.1) (ci := 4) (C := RX5) (T := TX5) (N := 30) hx hb hts inGX5 hown hE.1 hs.1 q0 he rfl 17 (by decide) (hts _ g970) (fun _ h9 => h9) hv hdg kk
theorem fp_X5_64 {p : Program} {l : Launch} {e : Env} {R : Room} {s : State} {m : MethodId} {args : Array Value} {below : List Frame} {meth : Method} {c : Code} {H : Heap} {locs : List Loc} {cells slots : Nat} {Q : State → Prop} {cc : ByteArray} {pc : Nat} {ls : Array Slot} {rest : List Value} {A : Nat → Prop} {G : GT} {ws ws' : va_W} {a : Nat} (hx : p.tables.exec = Jvm.exec) (hb : c.code = cc) (hown : s.vm.findClass RX5 = some m.cls) (hts : ∀ w ∈ GW, w.before args s = true) (hE : EV G A s s.heap) (hs : SI G A s H locs ws) (q0 : Nat) {fs : List Value} (he : ws[q0]? = some (a, .inr (4, fs))) {x : Int32} (hl : 17 < fs.length) (hw : ws.set q0 (a, .inr (4, fs.set 17 (.int x))) = ws') (hdg : decode cc pc = .ok (.putfield 64, 3))
    (kk : ∀ (H1 : Heap) (locs1 : List Loc), SI G A s H1 locs1 ws' → W p l e R s m args below meth c H1 locs1 cells slots Q (F0 m (pc + 3) ls rest)) : W p l e R s m args below meth c H locs cells slots Q (F0 m pc ls (.int x :: .ref a :: rest)) :=
  va_put (D := G.1) (ci := 4) (v := .int x) (ty := .int) (C := RX5) (T := TX5) (N := 30) hx hb hts inGX5 tyX5 tyX5_ok nmX5 hown hE.1 hs.1 hs.2.1 hs.2.2 q0 he rfl 17 (by decide) (hts _ g970) (fun _ h9 => h9) rfl (by decide +kernel) rfl rfl hl hdg (fun H1 locs1 hP hD hS => kk H1 locs1 (hw ▸ ⟨hP, hD, hS⟩))
theorem fp_X5_71 {p : Program} {l : Launch} {e : Env} {R : Room} {s : State} {m : MethodId} {args : Array Value} {below : List Frame} {meth : Method} {c : Code} {H : Heap} {locs : List Loc} {cells slots : Nat} {Q : State → Prop} {cc : ByteArray} {pc : Nat} {ls : Array Slot} {rest : List Value} {A : Nat → Prop} {G : GT} {ws ws' : va_W} {a : Nat} (hx : p.tables.exec = Jvm.exec) (hb : c.code = cc) (hown : s.vm.findClass RX5 = some m.cls) (hts : ∀ w ∈ GW, w.before args s = true) (hE : EV G A s s.heap) (hs : SI G A s H locs ws) (q0 : Nat) {fs : List Value} (he : ws[q0]? = some (a, .inr (4, fs))) {x : Int32} (hl : 18 < fs.length) (hw : ws.set q0 (a, .inr (4, fs.set 18 (.int x))) = ws') (hdg : decode cc pc = .ok (.putfield 71, 3))
    (kk : ∀ (H1 : Heap) (locs1 : List Loc), SI G A s H1 locs1 ws' → W p l e R s m args below meth c H1 locs1 cells slots Q (F0 m (pc + 3) ls rest)) : W p l e R s m args below meth c H locs cells slots Q (F0 m pc ls (.int x :: .ref a :: rest)) :=
  va_put (D := G.1) (ci := 4) (v := .int x) (ty := .int) (C := RX5) (T := TX5) (N := 30) hx hb hts inGX5 tyX5 tyX5_ok nmX5 hown hE.1 hs.1 hs.2.1 hs.2.2 q0 he rfl 18 (by decide) (hts _ g971) (fun _ h9 => h9) rfl (by decide +kernel) rfl rfl hl hdg (fun H1 locs1 hP hD hS => kk H1 locs1 (hw ▸ ⟨hP, hD, hS⟩))
theorem fp_X5_74 {p : Program} {l : Launch} {e : Env} {R : Room} {s : State} {m : MethodId} {args : Array Value} {below : List Frame} {meth : Method} {c : Code} {H : Heap} {locs : List Loc} {cells slots : Nat} {Q : State → Prop} {cc : ByteArray} {pc : Nat} {ls : Array Slot} {rest : List Value} {A : Nat → Prop} {G : GT} {ws ws' : va_W} {a : Nat} (hx : p.tables.exec = Jvm.exec) (hb : c.code = cc) (hown : s.vm.findClass RX5 = some m.cls) (hts : ∀ w ∈ GW, w.before args s = true) (hE : EV G A s s.heap) (hs : SI G A s H locs ws) (q0 : Nat) {fs : List Value} (he : ws[q0]? = some (a, .inr (4, fs))) {x : Int32} (hl : 20 < fs.length) (hw : ws.set q0 (a, .inr (4, fs.set 20 (.int x))) = ws') (hdg : decode cc pc = .ok (.putfield 74, 3))
    (kk : ∀ (H1 : Heap) (locs1 : List Loc), SI G A s H1 locs1 ws' → W p l e R s m args below meth c H1 locs1 cells slots Q (F0 m (pc + 3) ls rest)) : W p l e R s m args below meth c H locs cells slots Q (F0 m pc ls (.int x :: .ref a :: rest)) :=
  va_put (D := G.1) (ci := 4) (v := .int x) (ty := .int) (C := RX5) (T := TX5) (N := 30) hx hb hts inGX5 tyX5 tyX5_ok nmX5 hown hE.1 hs.1 hs.2.1 hs.2.2 q0 he rfl 20 (by decide) (hts _ g973) (fun _ h9 => h9) rfl (by decide +kernel) rfl rfl hl hdg (fun H1 locs1 hP hD hS => kk H1 locs1 (hw ▸ ⟨hP, hD, hS⟩))
theorem fp_X5_77 {p : Program} {l : Launch} {e : Env} {R : Room} {s : State} {m : MethodId} {args : Array Value} {below : List Frame} {meth : Method} {c : Code} {H : Heap} {locs : List Loc} {cells slots : Nat} {Q : State → Prop} {cc : ByteArray} {pc : Nat} {ls : Array Slot} {rest : List Value} {A : Nat → Prop} {G : GT} {ws ws' : va_W} {a : Nat} (hx : p.tables.exec = Jvm.exec) (hb : c.code = cc) (hown : s.vm.findClass RX5 = some m.cls) (hts : ∀ w ∈ GW, w.before args s = true) (hE : EV G A s s.heap) (hs : SI G A s H locs ws) (q0 : Nat) {fs : List Value} (he : ws[q0]? = some (a, .inr (4, fs))) {x : Int32} (hl : 19 < fs.length) (hw : ws.set q0 (a, .inr (4, fs.set 19 (.int x))) = ws') (hdg : decode cc pc = .ok (.putfield 77, 3))
    (kk : ∀ (H1 : Heap) (locs1 : List Loc), SI G A s H1 locs1 ws' → W p l e R s m args below meth c H1 locs1 cells slots Q (F0 m (pc + 3) ls rest)) : W p l e R s m args below meth c H locs cells slots Q (F0 m pc ls (.int x :: .ref a :: rest)) :=
  va_put (D := G.1) (ci := 4) (v := .int x) (ty := .int) (C := RX5) (T := TX5) (N := 30) hx hb hts inGX5 tyX5 tyX5_ok nmX5 hown hE.1 hs.1 hs.2.1 hs.2.2 q0 he rfl 19 (by decide) (hts _ g972) (fun _ h9 => h9) rfl (by decide +kernel) rfl rfl hl hdg (fun H1 locs1 hP hD hS => kk H1 locs1 (hw ▸ ⟨hP, hD, hS⟩))
theorem fp_X5_95 {p : Program} {l : Launch} {e : Env} {R : Room} {s : State} {m : MethodId} {args : Array Value} {below : List Frame} {meth : Method} {c : Code} {H : Heap} {locs : List Loc} {cells slots : Nat} {Q : State → Prop} {cc : ByteArray} {pc : Nat} {ls : Array Slot} {rest : List Value} {A : Nat → Prop} {G : GT} {ws ws' : va_W} {a : Nat} (hx : p.tables.exec = Jvm.exec) (hb : c.code = cc) (hown : s.vm.findClass RX5 = some m.cls) (hts : ∀ w ∈ GW, w.before args s = true) (hE : EV G A s s.heap) (hs : SI G A s H locs ws) (q0 : Nat) {fs : List Value} (he : ws[q0]? = some (a, .inr (4, fs))) {x : Int32} (hl : 21 < fs.length) (hw : ws.set q0 (a, .inr (4, fs.set 21 (.int x))) = ws') (hdg : decode cc pc = .ok (.putfield 95, 3))
    (kk : ∀ (H1 : Heap) (locs1 : List Loc), SI G A s H1 locs1 ws' → W p l e R s m args below meth c H1 locs1 cells slots Q (F0 m (pc + 3) ls rest)) : W p l e R s m args below meth c H locs cells slots Q (F0 m pc ls (.int x :: .ref a :: rest)) :=
  va_put (D := G.1) (ci := 4) (v := .int x) (ty := .int) (C := RX5) (T := TX5) (N := 30) hx hb hts inGX5 tyX5 tyX5_ok nmX5 hown hE.1 hs.1 hs.2.1 hs.2.2 q0 he rfl 21 (by decide) (hts _ g974) (fun _ h9 => h9) rfl (by decide +kernel) rfl rfl hl hdg (fun H1 locs1 hP hD hS => kk H1 locs1 (hw ▸ ⟨hP, hD, hS⟩))
theorem fg_X5_74 {p : Program} {l : Launch} {e : Env} {R : Room} {s : State} {m : MethodId} {args : Array Value} {below : List Frame} {meth : Method} {c : Code} {H : Heap} {locs : List Loc} {cells slots : Nat} {Q : State → Prop} {cc : ByteArray} {pc : Nat} {ls : Array Slot} {rest : List Value} {A : Nat → Prop} {G : GT} {ws : va_W} {a : Nat} (hx : p.tables.exec = Jvm.exec) (hb : c.code = cc) (hown : s.vm.findClass RX5 = some m.cls) (hts : ∀ w ∈ GW, w.before args s = true) (hE : EV G A s s.heap) (hs : SI G A s H locs ws) (q0 : Nat) {fs : List Value} (he : ws[q0]? = some (a, .inr (4, fs))) {v : Value} (hv : fs[20]? = some v) (hdg : decode cc pc = .ok (.getfield 74, 3))
    (kk : W p l e R s m args below meth c H locs cells slots Q (F0 m (pc + 3) ls (v :: rest))) : W p l e R s m args below meth c H locs cells slots Q (F0 m pc ls (.ref a :: rest)) :=
  va_get (D := G.1) (ci := 4) (C := RX5) (T := TX5) (N := 30) hx hb hts inGX5 hown hE.1 hs.1 q0 he rfl 20 (by decide) (hts _ g973) (fun _ h9 => h9) hv hdg kk
theorem fg_X5_95 {p : Program} {l : Launch} {e : Env} {R : Room} {s : State} {m : MethodId} {args : Array Value} {below : List Frame} {meth : Method} {c : Code} {H : Heap} {locs : List Loc} {cells slots : Nat} {Q : State → Prop} {cc : ByteArray} {pc : Nat} {ls : Array Slot} {rest : List Value} {A : Nat → Prop} {G : GT} {ws : va_W} {a : Nat} (hx : p.tables.exec = Jvm.exec) (hb : c.code = cc) (hown : s.vm.findClass RX5 = some m.cls) (hts : ∀ w ∈ GW, w.before args s = true) (hE : EV G A s s.heap) (hs : SI G A s H locs ws) (q0 : Nat) {fs : List Value} (he : ws[q0]? = some (a, .inr (4, fs))) {v : Value} (hv : fs[21]? = some v) (hdg : decode cc pc = .ok (.getfield 95, 3))
    (kk : W p l e R s m args below meth c H locs cells slots Q (F0 m (pc + 3) ls (v :: rest))) : W p l e R s m args below meth c H locs cells slots Q (F0 m pc ls (.ref a :: rest)) :=
  va_get (D := G.1) (ci := 4) (C := RX5) (T := TX5) (N := 30) hx hb hts inGX5 hown hE.1 hs.1 q0 he rfl 21 (by decide) (hts _ g974) (fun _ h9 => h9) hv hdg kk
theorem fp_X5_84 {p : Program} {l : Launch} {e : Env} {R : Room} {s : State} {m : MethodId} {args : Array Value} {below : List Frame} {meth : Method} {c : Code} {H : Heap} {locs : List Loc} {cells slots : Nat} {Q : State → Prop} {cc : ByteArray} {pc : Nat} {ls : Array Slot} {rest : List Value} {A : Nat → Prop} {G : GT} {ws ws' : va_W} {a : Nat} (hx : p.tables.exec = Jvm.exec) (hb : c.code = cc) (hown : s.vm.findClass RX5 = some m.cls) (hts : ∀ w ∈ GW, w.before args s = true) (hE : EV G A s s.heap) (hs : SI G A s H locs ws) (q0 : Nat) {fs : List Value} (he : ws[q0]? = some (a, .inr (4, fs))) {x : Int64} (hl : 22 < fs.length) (hw : ws.set q0 (a, .inr (4, fs.set 22 (.long x))) = ws') (hdg : decode cc pc = .ok (.putfield 84, 3))
    (kk : ∀ (H1 : Heap) (locs1 : List Loc), SI G A s H1 locs1 ws' → W p l e R s m args below meth c H1 locs1 cells slots Q (F0 m (pc + 3) ls rest)) : W p l e R s m args below meth c H locs cells slots Q (F0 m pc ls (.long x :: .ref a :: rest)) :=
  va_put (D := G.1) (ci := 4) (v := .long x) (ty := .long) (C := RX5) (T := TX5) (N := 30) hx hb hts inGX5 tyX5 tyX5_ok nmX5 hown hE.1 hs.1 hs.2.1 hs.2.2 q0 he rfl 22 (by decide) (hts _ g975) (fun _ h9 => h9) rfl (by decide +kernel) rfl rfl hl hdg (fun H1 locs1 hP hD hS => kk H1 locs1 (hw ▸ ⟨hP, hD, hS⟩))
theorem fg_X5_84 {p : Program} {l : Launch} {e : Env} {R : Room} {s : State} {m : MethodId} {args : Array Value} {below : List Frame} {meth : Method} {c : Code} {H : Heap} {locs : List Loc} {cells slots : Nat} {Q : State → Prop} {cc : ByteArray} {pc : Nat} {ls : Array Slot} {rest : List Value} {A : Nat → Prop} {G : GT} {ws : va_W} {a : Nat} (hx : p.tables.exec = Jvm.exec) (hb : c.code = cc) (hown : s.vm.findClass RX5 = some m.cls) (hts : ∀ w ∈ GW, w.before args s = true) (hE : EV G A s s.heap) (hs : SI G A s H locs ws) (q0 : Nat) {fs : List Value} (he : ws[q0]? = some (a, .inr (4, fs))) {v : Value} (hv : fs[22]? = some v) (hdg : decode cc pc = .ok (.getfield 84, 3))
    (kk : W p l e R s m args below meth c H locs cells slots Q (F0 m (pc + 3) ls (v :: rest))) : W p l e R s m args below meth c H locs cells slots Q (F0 m pc ls (.ref a :: rest)) :=
  va_get (D := G.1) (ci := 4) (C := RX5) (T := TX5) (N := 30) hx hb hts inGX5 hown hE.1 hs.1 q0 he rfl 22 (by decide) (hts _ g975) (fun _ h9 => h9) hv hdg kk
theorem fg_X5_98 {p : Program} {l : Launch} {e : Env} {R : Room} {s : State} {m : MethodId} {args : Array Value} {below : List Frame} {meth : Method} {c : Code} {H : Heap} {locs : List Loc} {cells slots : Nat} {Q : State → Prop} {cc : ByteArray} {pc : Nat} {ls : Array Slot} {rest : List Value} {A : Nat → Prop} {G : GT} {ws : va_W} {a : Nat} (hx : p.tables.exec = Jvm.exec) (hb : c.code = cc) (hown : s.vm.findClass RX5 = some m.cls) (hts : ∀ w ∈ GW, w.before args s = true) (hE : EV G A s s.heap) (hs : SI G A s H locs ws) (q0 : Nat) {fs : List Value} (he : ws[q0]? = some (a, .inr (4, fs))) {v : Value} (hv : fs[23]? = some v) (hdg : decode cc pc = .ok (.getfield 98, 3))
    (kk : W p l e R s m args below meth c H locs cells slots Q (F0 m (pc + 3) ls (v :: rest))) : W p l e R s m args below meth c H locs cells slots Q (F0 m pc ls (.ref a :: rest)) :=
  va_get (D := G.1) (ci := 4) (C := RX5) (T := TX5) (N := 30) hx hb hts inGX5 hown hE.1 hs.1 q0 he rfl 23 (by decide) (hts _ g976) (fun _ h9 => h9) hv hdg kk
theorem fp_X5_98 {p : Program} {l : Launch} {e : Env} {R : Room} {s : State} {m : MethodId} {args : Array Value} {below : List Frame} {meth : Method} {c : Code} {H : Heap} {locs : List Loc} {cells slots : Nat} {Q : State → Prop} {cc : ByteArray} {pc : Nat} {ls : Array Slot} {rest : List Value} {A : Nat → Prop} {G : GT} {ws ws' : va_W} {a : Nat} (hx : p.tables.exec = Jvm.exec) (hb : c.code = cc) (hown : s.vm.findClass RX5 = some m.cls) (hts : ∀ w ∈ GW, w.before args s = true) (hE : EV G A s s.heap) (hs : SI G A s H locs ws) (q0 : Nat) {fs : List Value} (he : ws[q0]? = some (a, .inr (4, fs))) {x : Int32} (hl : 23 < fs.length) (hw : ws.set q0 (a, .inr (4, fs.set 23 (.int x))) = ws') (hdg : decode cc pc = .ok (.putfield 98, 3))
    (kk : ∀ (H1 : Heap) (locs1 : List Loc), SI G A s H1 locs1 ws' → W p l e R s m args below meth c H1 locs1 cells slots Q (F0 m (pc + 3) ls rest)) : W p l e R s m args below meth c H locs cells slots Q (F0 m pc ls (.int x :: .ref a :: rest)) :=
  va_put (D := G.1) (ci := 4) (v := .int x) (ty := .int) (C := RX5) (T := TX5) (N := 30) hx hb hts inGX5 tyX5 tyX5_ok nmX5 hown hE.1 hs.1 hs.2.1 hs.2.2 q0 he rfl 23 (by decide) (hts _ g976) (fun _ h9 => h9) rfl (by decide +kernel) rfl rfl hl hdg (fun H1 locs1 hP hD hS => kk H1 locs1 (hw ▸ ⟨hP, hD, hS⟩))
theorem fg_X5_71 {p : Program} {l : Launch} {e : Env} {R : Room} {s : State} {m : MethodId} {args : Array Value} {below : List Frame} {meth : Method} {c : Code} {H : Heap} {locs : List Loc} {cells slots : Nat} {Q : State → Prop} {cc : ByteArray} {pc : Nat} {ls : Array Slot} {rest : List Value} {A : Nat → Prop} {G : GT} {ws : va_W} {a : Nat} (hx : p.tables.exec = Jvm.exec) (hb : c.code = cc) (hown : s.vm.findClass RX5 = some m.cls) (hts : ∀ w ∈ GW, w.before args s = true) (hE : EV G A s s.heap) (hs : SI G A s H locs ws) (q0 : Nat) {fs : List Value} (he : ws[q0]? = some (a, .inr (4, fs))) {v : Value} (hv : fs[18]? = some v) (hdg : decode cc pc = .ok (.getfield 71, 3))
    (kk : W p l e R s m args below meth c H locs cells slots Q (F0 m (pc + 3) ls (v :: rest))) : W p l e R s m args below meth c H locs cells slots Q (F0 m pc ls (.ref a :: rest)) :=
  va_get (D := G.1) (ci := 4) (C := RX5) (T := TX5) (N := 30) hx hb hts inGX5 hown hE.1 hs.1 q0 he rfl 18 (by decide) (hts _ g971) (fun _ h9 => h9) hv hdg kk
theorem fp_X5_101 {p : Program} {l : Launch} {e : Env} {R : Room} {s : State} {m : MethodId} {args : Array Value} {below : List Frame} {meth : Method} {c : Code} {H : Heap} {locs : List Loc} {cells slots : Nat} {Q : State → Prop} {cc : ByteArray} {pc : Nat} {ls : Array Slot} {rest : List Value} {A : Nat → Prop} {G : GT} {ws ws' : va_W} {a : Nat} (hx : p.tables.exec = Jvm.exec) (hb : c.code = cc) (hown : s.vm.findClass RX5 = some m.cls) (hts : ∀ w ∈ GW, w.before args s = true) (hE : EV G A s s.heap) (hs : SI G A s H locs ws) (q0 : Nat) {fs : List Value} (he : ws[q0]? = some (a, .inr (4, fs))) {x : Int32} (hl : 24 < fs.length) (hw : ws.set q0 (a, .inr (4, fs.set 24 (.int x))) = ws') (hdg : decode cc pc = .ok (.putfield 101, 3))
    (kk : ∀ (H1 : Heap) (locs1 : List Loc), SI G A s H1 locs1 ws' → W p l e R s m args below meth c H1 locs1 cells slots Q (F0 m (pc + 3) ls rest)) : W p l e R s m args below meth c H locs cells slots Q (F0 m pc ls (.int x :: .ref a :: rest)) :=
  va_put (D := G.1) (ci := 4) (v := .int x) (ty := .int) (C := RX5) (T := TX5) (N := 30) hx hb hts inGX5 tyX5 tyX5_ok nmX5 hown hE.1 hs.1 hs.2.1 hs.2.2 q0 he rfl 24 (by decide) (hts _ g977) (fun _ h9 => h9) rfl (by decide +kernel) rfl rfl hl hdg (fun H1 locs1 hP hD hS => kk H1 locs1 (hw ▸ ⟨hP, hD, hS⟩))
theorem fg_X5_77 {p : Program} {l : Launch} {e : Env} {R : Room} {s : State} {m : MethodId} {args : Array Value} {below : List Frame} {meth : Method} {c : Code} {H : Heap} {locs : List Loc} {cells slots : Nat} {Q : State → Prop} {cc : ByteArray} {pc : Nat} {ls : Array Slot} {rest : List Value} {A : Nat → Prop} {G : GT} {ws : va_W} {a : Nat} (hx : p.tables.exec = Jvm.exec) (hb : c.code = cc) (hown : s.vm.findClass RX5 = some m.cls) (hts : ∀ w ∈ GW, w.before args s = true) (hE : EV G A s s.heap) (hs : SI G A s H locs ws) (q0 : Nat) {fs : List Value} (he : ws[q0]? = some (a, .inr (4, fs))) {v : Value} (hv : fs[19]? = some v) (hdg : decode cc pc = .ok (.getfield 77, 3))
    (kk : W p l e R s m args below meth c H locs cells slots Q (F0 m (pc + 3) ls (v :: rest))) : W p l e R s m args below meth c H locs cells slots Q (F0 m pc ls (.ref a :: rest)) :=
  va_get (D := G.1) (ci := 4) (C := RX5) (T := TX5) (N := 30) hx hb hts inGX5 hown hE.1 hs.1 q0 he rfl 19 (by decide) (hts _ g972) (fun _ h9 => h9) hv hdg kk
theorem fg_X5_20 {p : Program} {l : Launch} {e : Env} {R : Room} {s : State} {m : MethodId} {args : Array Value} {below : List Frame} {meth : Method} {c : Code} {H : Heap} {locs : List Loc} {cells slots : Nat} {Q : State → Prop} {cc : ByteArray} {pc : Nat} {ls : Array Slot} {rest : List Value} {A : Nat → Prop} {G : GT} {ws : va_W} {a : Nat} (hx : p.tables.exec = Jvm.exec) (hb : c.code = cc) (hown : s.vm.findClass RX5 = some m.cls) (hts : ∀ w ∈ GW, w.before args s = true) (hE : EV G A s s.heap) (hs : SI G A s H locs ws) (q0 : Nat) {fs : List Value} (he : ws[q0]? = some (a, .inr (4, fs))) {v : Value} (hv : fs[7]? = some v) (hdg : decode cc pc = .ok (.getfield 20, 3))
    (kk : W p l e R s m args below meth c H locs cells slots Q (F0 m (pc + 3) ls (v :: rest))) : W p l e R s m args below meth c H locs cells slots Q (F0 m pc ls (.ref a :: rest)) :=
  va_get (D := G.1) (ci := 4) (C := RX5) (T := TX5) (N := 30) hx hb hts inGX5 hown hE.1 hs.1 q0 he rfl 7 (by decide) (hts _ g960) (fun _ h9 => h9) hv hdg kk
theorem fg_X5_37 {p : Program} {l : Launch} {e : Env} {R : Room} {s : State} {m : MethodId} {args : Array Value} {below : List Frame} {meth : Method} {c : Code} {H : Heap} {locs : List Loc} {cells slots : Nat} {Q : State → Prop} {cc : ByteArray} {pc : Nat} {ls : Array Slot} {rest : List Value} {A : Nat → Prop} {G : GT} {ws : va_W} {a : Nat} (hx : p.tables.exec = Jvm.exec) (hb : c.code = cc) (hown : s.vm.findClass RX5 = some m.cls) (hts : ∀ w ∈ GW, w.before args s = true) (hE : EV G A s s.heap) (hs : SI G A s H locs ws) (q0 : Nat) {fs : List Value} (he : ws[q0]? = some (a, .inr (4, fs))) {v : Value} (hv : fs[13]? = some v) (hdg : decode cc pc = .ok (.getfield 37, 3))
    (kk : W p l e R s m args below meth c H locs cells slots Q (F0 m (pc + 3) ls (v :: rest))) : W p l e R s m args below meth c H locs cells slots Q (F0 m pc ls (.ref a :: rest)) :=
  va_get (D := G.1) (ci := 4) (C := RX5) (T := TX5) (N := 30) hx hb hts inGX5 hown hE.1 hs.1 q0 he rfl 13 (by decide) (hts _ g966) (fun _ h9 => h9) hv hdg kk
theorem fg_X5_182 {p : Program} {l : Launch} {e : Env} {R : Room} {s : State} {m : MethodId} {args : Array Value} {below : List Frame} {meth : Method} {c : Code} {H : Heap} {locs : List Loc} {cells slots : Nat} {Q : State → Prop} {cc : ByteArray} {pc : Nat} {ls : Array Slot} {rest : List Value} {A : Nat → Prop} {G : GT} {ws : va_W} {a : Nat} (hx : p.tables.exec = Jvm.exec) (hb : c.code = cc) (hown : s.vm.findClass RX5 = some m.cls) (hts : ∀ w ∈ GW, w.before args s = true) (hE : EV G A s s.heap) (hs : SI G A s H locs ws) (q0 : Nat) {fs : List Value} (he : ws[q0]? = some (a, .inr (4, fs))) {v : Value} (hv : fs[25]? = some v) (hdg : decode cc pc = .ok (.getfield 182, 3))
    (kk : W p l e R s m args below meth c H locs cells slots Q (F0 m (pc + 3) ls (v :: rest))) : W p l e R s m args below meth c H locs cells slots Q (F0 m pc ls (.ref a :: rest)) :=
  va_get (D := G.1) (ci := 4) (C := RX5) (T := TX5) (N := 30) hx hb hts inGX5 hown hE.1 hs.1 q0 he rfl 25 (by decide) (hts _ g978) (fun _ h9 => h9) hv hdg kk
theorem fp_X5_182 {p : Program} {l : Launch} {e : Env} {R : Room} {s : State} {m : MethodId} {args : Array Value} {below : List Frame} {meth : Method} {c : Code} {H : Heap} {locs : List Loc} {cells slots : Nat} {Q : State → Prop} {cc : ByteArray} {pc : Nat} {ls : Array Slot} {rest : List Value} {A : Nat → Prop} {G : GT} {ws ws' : va_W} {a : Nat} (hx : p.tables.exec = Jvm.exec) (hb : c.code = cc) (hown : s.vm.findClass RX5 = some m.cls) (hts : ∀ w ∈ GW, w.before args s = true) (hE : EV G A s s.heap) (hs : SI G A s H locs ws) (q0 : Nat) {fs : List Value} (he : ws[q0]? = some (a, .inr (4, fs))) {x : Int32} (hl : 25 < fs.length) (hw : ws.set q0 (a, .inr (4, fs.set 25 (.int x))) = ws') (hdg : decode cc pc = .ok (.putfield 182, 3))
    (kk : ∀ (H1 : Heap) (locs1 : List Loc), SI G A s H1 locs1 ws' → W p l e R s m args below meth c H1 locs1 cells slots Q (F0 m (pc + 3) ls rest)) : W p l e R s m args below meth c H locs cells slots Q (F0 m pc ls (.int x :: .ref a :: rest)) :=
  va_put (D := G.1) (ci := 4) (v := .int x) (ty := .int) (C := RX5) (T := TX5) (N := 30) hx hb hts inGX5 tyX5 tyX5_ok nmX5 hown hE.1 hs.1 hs.2.1 hs.2.2 q0 he rfl 25 (by decide) (hts _ g978) (fun _ h9 => h9) rfl (by decide +kernel) rfl rfl hl hdg (fun H1 locs1 hP hD hS => kk H1 locs1 (hw ▸ ⟨hP, hD, hS⟩))
theorem fp_X5_61 {p : Program} {l : Launch} {e : Env} {R : Room} {s : State} {m : MethodId} {args : Array Value} {below : List Frame} {meth : Method} {c : Code} {H : Heap} {locs : List Loc} {cells slots : Nat} {Q : State → Prop} {cc : ByteArray} {pc : Nat} {ls : Array Slot} {rest : List Value} {A : Nat → Prop} {G : GT} {ws ws' : va_W} {a : Nat} (hx : p.tables.exec = Jvm.exec) (hb : c.code = cc) (hown : s.vm.findClass RX5 = some m.cls) (hts : ∀ w ∈ GW, w.before args s = true) (hE : EV G A s s.heap) (hs : SI G A s H locs ws) (q0 : Nat) {fs : List Value} (he : ws[q0]? = some (a, .inr (4, fs))) {x : Int32} (hl : 16 < fs.length) (hw : ws.set q0 (a, .inr (4, fs.set 16 (.int x))) = ws') (hdg : decode cc pc = .ok (.putfield 61, 3))
    (kk : ∀ (H1 : Heap) (locs1 : List Loc), SI G A s H1 locs1 ws' → W p l e R s m args below meth c H1 locs1 cells slots Q (F0 m (pc + 3) ls rest)) : W p l e R s m args below meth c H locs cells slots Q (F0 m pc ls (.int x :: .ref a :: rest)) :=
  va_put (D := G.1) (ci := 4) (v := .int x) (ty := .int) (C := RX5) (T := TX5) (N := 30) hx hb hts inGX5 tyX5 tyX5_ok nmX5 hown hE.1 hs.1 hs.2.1 hs.2.2 q0 he rfl 16 (by decide) (hts _ g969) (fun _ h9 => h9) rfl (by decide +kernel) rfl rfl hl hdg (fun H1 locs1 hP hD hS => kk H1 locs1 (hw ▸ ⟨hP, hD, hS⟩))
theorem fp_X5_222 {p : Program} {l : Launch} {e : Env} {R : Room} {s : State} {m : MethodId} {args : Array Value} {below : List Frame} {meth : Method} {c : Code} {H : Heap} {locs : List Loc} {cells slots : Nat} {Q : State → Prop} {cc : ByteArray} {pc : Nat} {ls : Array Slot} {rest : List Value} {A : Nat → Prop} {G : GT} {ws ws' : va_W} {a : Nat} (hx : p.tables.exec = Jvm.exec) (hb : c.code = cc) (hown : s.vm.findClass RX5 = some m.cls) (hts : ∀ w ∈ GW, w.before args s = true) (hE : EV G A s s.heap) (hs : SI G A s H locs ws) (q0 : Nat) {fs : List Value} (he : ws[q0]? = some (a, .inr (4, fs))) {x : Int32} (hl : 3 < fs.length) (hw : ws.set q0 (a, .inr (4, fs.set 3 (.int x))) = ws') (hdg : decode cc pc = .ok (.putfield 222, 3))
    (kk : ∀ (H1 : Heap) (locs1 : List Loc), SI G A s H1 locs1 ws' → W p l e R s m args below meth c H1 locs1 cells slots Q (F0 m (pc + 3) ls rest)) : W p l e R s m args below meth c H locs cells slots Q (F0 m pc ls (.int x :: .ref a :: rest)) :=
  va_put (D := G.1) (ci := 4) (v := .int x) (ty := .int) (C := RX5) (T := TX5) (N := 30) hx hb hts inGX5 tyX5 tyX5_ok nmX5 hown hE.1 hs.1 hs.2.1 hs.2.2 q0 he rfl 3 (by decide) (hts _ g956) (fun _ h9 => h9) rfl (by decide +kernel) rfl rfl hl hdg (fun H1 locs1 hP hD hS => kk H1 locs1 (hw ▸ ⟨hP, hD, hS⟩))
theorem fg_X5_13 {p : Program} {l : Launch} {e : Env} {R : Room} {s : State} {m : MethodId} {args : Array Value} {below : List Frame} {meth : Method} {c : Code} {H : Heap} {locs : List Loc} {cells slots : Nat} {Q : State → Prop} {cc : ByteArray} {pc : Nat} {ls : Array Slot} {rest : List Value} {A : Nat → Prop} {G : GT} {ws : va_W} {a : Nat} (hx : p.tables.exec = Jvm.exec) (hb : c.code = cc) (hown : s.vm.findClass RX5 = some m.cls) (hts : ∀ w ∈ GW, w.before args s = true) (hE : EV G A s s.heap) (hs : SI G A s H locs ws) (q0 : Nat) {fs : List Value} (he : ws[q0]? = some (a, .inr (4, fs))) {v : Value} (hv : fs[5]? = some v) (hdg : decode cc pc = .ok (.getfield 13, 3))
    (kk : W p l e R s m args below meth c H locs cells slots Q (F0 m (pc + 3) ls (v :: rest))) : W p l e R s m args below meth c H locs cells slots Q (F0 m pc ls (.ref a :: rest)) :=
  va_get (D := G.1) (ci := 4) (C := RX5) (T := TX5) (N := 30) hx hb hts inGX5 hown hE.1 hs.1 q0 he rfl 5 (by decide) (hts _ g958) (fun _ h9 => h9) hv hdg kk
theorem fg_X5_33 {p : Program} {l : Launch} {e : Env} {R : Room} {s : State} {m : MethodId} {args : Array Value} {below : List Frame} {meth : Method} {c : Code} {H : Heap} {locs : List Loc} {cells slots : Nat} {Q : State → Prop} {cc : ByteArray} {pc : Nat} {ls : Array Slot} {rest : List Value} {A : Nat → Prop} {G : GT} {ws : va_W} {a : Nat} (hx : p.tables.exec = Jvm.exec) (hb : c.code = cc) (hown : s.vm.findClass RX5 = some m.cls) (hts : ∀ w ∈ GW, w.before args s = true) (hE : EV G A s s.heap) (hs : SI G A s H locs ws) (q0 : Nat) {fs : List Value} (he : ws[q0]? = some (a, .inr (4, fs))) {v : Value} (hv : fs[12]? = some v) (hdg : decode cc pc = .ok (.getfield 33, 3))
    (kk : W p l e R s m args below meth c H locs cells slots Q (F0 m (pc + 3) ls (v :: rest))) : W p l e R s m args below meth c H locs cells slots Q (F0 m pc ls (.ref a :: rest)) :=
  va_get (D := G.1) (ci := 4) (C := RX5) (T := TX5) (N := 30) hx hb hts inGX5 hown hE.1 hs.1 q0 he rfl 12 (by decide) (hts _ g965) (fun _ h9 => h9) hv hdg kk
theorem fp_X5_225 {p : Program} {l : Launch} {e : Env} {R : Room} {s : State} {m : MethodId} {args : Array Value} {below : List Frame} {meth : Method} {c : Code} {H : Heap} {locs : List Loc} {cells slots : Nat} {Q : State → Prop} {cc : ByteArray} {pc : Nat} {ls : Array Slot} {rest : List Value} {A : Nat → Prop} {G : GT} {ws ws' : va_W} {a : Nat} (hx : p.tables.exec = Jvm.exec) (hb : c.code = cc) (hown : s.vm.findClass RX5 = some m.cls) (hts : ∀ w ∈ GW, w.before args s = true) (hE : EV G A s s.heap) (hs : SI G A s H locs ws) (q0 : Nat) {fs : List Value} (he : ws[q0]? = some (a, .inr (4, fs))) {x : Int32} (hn : narrow .boolean (.int x) = .int x) (hfit : fits .boolean (.int x) = true) (hl : 4 < fs.length) (hw : ws.set q0 (a, .inr (4, fs.set 4 (.int x))) = ws') (hdg : decode cc pc = .ok (.putfield 225, 3))
    (kk : ∀ (H1 : Heap) (locs1 : List Loc), SI G A s H1 locs1 ws' → W p l e R s m args below meth c H1 locs1 cells slots Q (F0 m (pc + 3) ls rest)) : W p l e R s m args below meth c H locs cells slots Q (F0 m pc ls (.int x :: .ref a :: rest)) :=
  va_put (D := G.1) (ci := 4) (v := .int x) (ty := .boolean) (C := RX5) (T := TX5) (N := 30) hx hb hts inGX5 tyX5 tyX5_ok nmX5 hown hE.1 hs.1 hs.2.1 hs.2.2 q0 he rfl 4 (by decide) (hts _ g957) (fun _ h9 => h9) rfl (by decide +kernel) hn hfit hl hdg (fun H1 locs1 hP hD hS => kk H1 locs1 (hw ▸ ⟨hP, hD, hS⟩))
theorem fp_X5_229 {p : Program} {l : Launch} {e : Env} {R : Room} {s : State} {m : MethodId} {args : Array Value} {below : List Frame} {meth : Method} {c : Code} {H : Heap} {locs : List Loc} {cells slots : Nat} {Q : State → Prop} {cc : ByteArray} {pc : Nat} {ls : Array Slot} {rest : List Value} {A : Nat → Prop} {G : GT} {ws ws' : va_W} {a : Nat} (hx : p.tables.exec = Jvm.exec) (hb : c.code = cc) (hown : s.vm.findClass RX5 = some m.cls) (hts : ∀ w ∈ GW, w.before args s = true) (hE : EV G A s s.heap) (hs : SI G A s H locs ws) (q0 : Nat) {fs : List Value} (he : ws[q0]? = some (a, .inr (4, fs))) {x : Int32} (hl : 9 < fs.length) (hw : ws.set q0 (a, .inr (4, fs.set 9 (.int x))) = ws') (hdg : decode cc pc = .ok (.putfield 229, 3))
    (kk : ∀ (H1 : Heap) (locs1 : List Loc), SI G A s H1 locs1 ws' → W p l e R s m args below meth c H1 locs1 cells slots Q (F0 m (pc + 3) ls rest)) : W p l e R s m args below meth c H locs cells slots Q (F0 m pc ls (.int x :: .ref a :: rest)) :=
  va_put (D := G.1) (ci := 4) (v := .int x) (ty := .int) (C := RX5) (T := TX5) (N := 30) hx hb hts inGX5 tyX5 tyX5_ok nmX5 hown hE.1 hs.1 hs.2.1 hs.2.2 q0 he rfl 9 (by decide) (hts _ g962) (fun _ h9 => h9) rfl (by decide +kernel) rfl rfl hl hdg (fun H1 locs1 hP hD hS => kk H1 locs1 (hw ▸ ⟨hP, hD, hS⟩))
theorem fg_X5_29 {p : Program} {l : Launch} {e : Env} {R : Room} {s : State} {m : MethodId} {args : Array Value} {below : List Frame} {meth : Method} {c : Code} {H : Heap} {locs : List Loc} {cells slots : Nat} {Q : State → Prop} {cc : ByteArray} {pc : Nat} {ls : Array Slot} {rest : List Value} {A : Nat → Prop} {G : GT} {ws : va_W} {a : Nat} (hx : p.tables.exec = Jvm.exec) (hb : c.code = cc) (hown : s.vm.findClass RX5 = some m.cls) (hts : ∀ w ∈ GW, w.before args s = true) (hE : EV G A s s.heap) (hs : SI G A s H locs ws) (q0 : Nat) {fs : List Value} (he : ws[q0]? = some (a, .inr (4, fs))) {v : Value} (hv : fs[11]? = some v) (hdg : decode cc pc = .ok (.getfield 29, 3))
    (kk : W p l e R s m args below meth c H locs cells slots Q (F0 m (pc + 3) ls (v :: rest))) : W p l e R s m args below meth c H locs cells slots Q (F0 m pc ls (.ref a :: rest)) :=
  va_get (D := G.1) (ci := 4) (C := RX5) (T := TX5) (N := 30) hx hb hts inGX5 hown hE.1 hs.1 q0 he rfl 11 (by decide) (hts _ g964) (fun _ h9 => h9) hv hdg kk
theorem fg_X5_101 {p : Program} {l : Launch} {e : Env} {R : Room} {s : State} {m : MethodId} {args : Array Value} {below : List Frame} {meth : Method} {c : Code} {H : Heap} {locs : List Loc} {cells slots : Nat} {Q : State → Prop} {cc : ByteArray} {pc : Nat} {ls : Array Slot} {rest : List Value} {A : Nat → Prop} {G : GT} {ws : va_W} {a : Nat} (hx : p.tables.exec = Jvm.exec) (hb : c.code = cc) (hown : s.vm.findClass RX5 = some m.cls) (hts : ∀ w ∈ GW, w.before args s = true) (hE : EV G A s s.heap) (hs : SI G A s H locs ws) (q0 : Nat) {fs : List Value} (he : ws[q0]? = some (a, .inr (4, fs))) {v : Value} (hv : fs[24]? = some v) (hdg : decode cc pc = .ok (.getfield 101, 3))
    (kk : W p l e R s m args below meth c H locs cells slots Q (F0 m (pc + 3) ls (v :: rest))) : W p l e R s m args below meth c H locs cells slots Q (F0 m pc ls (.ref a :: rest)) :=
  va_get (D := G.1) (ci := 4) (C := RX5) (T := TX5) (N := 30) hx hb hts inGX5 hown hE.1 hs.1 q0 he rfl 24 (by decide) (hts _ g977) (fun _ h9 => h9) hv hdg kk
theorem fg_X5_222 {p : Program} {l : Launch} {e : Env} {R : Room} {s : State} {m : MethodId} {args : Array Value} {below : List Frame} {meth : Method} {c : Code} {H : Heap} {locs : List Loc} {cells slots : Nat} {Q : State → Prop} {cc : ByteArray} {pc : Nat} {ls : Array Slot} {rest : List Value} {A : Nat → Prop} {G : GT} {ws : va_W} {a : Nat} (hx : p.tables.exec = Jvm.exec) (hb : c.code = cc) (hown : s.vm.findClass RX5 = some m.cls) (hts : ∀ w ∈ GW, w.before args s = true) (hE : EV G A s s.heap) (hs : SI G A s H locs ws) (q0 : Nat) {fs : List Value} (he : ws[q0]? = some (a, .inr (4, fs))) {v : Value} (hv : fs[3]? = some v) (hdg : decode cc pc = .ok (.getfield 222, 3))
    (kk : W p l e R s m args below meth c H locs cells slots Q (F0 m (pc + 3) ls (v :: rest))) : W p l e R s m args below meth c H locs cells slots Q (F0 m pc ls (.ref a :: rest)) :=
  va_get (D := G.1) (ci := 4) (C := RX5) (T := TX5) (N := 30) hx hb hts inGX5 hown hE.1 hs.1 q0 he rfl 3 (by decide) (hts _ g956) (fun _ h9 => h9) hv hdg kk
theorem fg_X5_9 {p : Program} {l : Launch} {e : Env} {R : Room} {s : State} {m : MethodId} {args : Array Value} {below : List Frame} {meth : Method} {c : Code} {H : Heap} {locs : List Loc} {cells slots : Nat} {Q : State → Prop} {cc : ByteArray} {pc : Nat} {ls : Array Slot} {rest : List Value} {A : Nat → Prop} {G : GT} {ws : va_W} {a : Nat} (hx : p.tables.exec = Jvm.exec) (hb : c.code = cc) (hown : s.vm.findClass RX5 = some m.cls) (hts : ∀ w ∈ GW, w.before args s = true) (hE : EV G A s s.heap) (hs : SI G A s H locs ws) (q0 : Nat) {fs : List Value} (he : ws[q0]? = some (a, .inr (4, fs))) {v : Value} (hv : fs[2]? = some v) (hdg : decode cc pc = .ok (.getfield 9, 3))
    (kk : W p l e R s m args below meth c H locs cells slots Q (F0 m (pc + 3) ls (v :: rest))) : W p l e R s m args below meth c H locs cells slots Q (F0 m pc ls (.ref a :: rest)) :=
  va_get (D := G.1) (ci := 4) (C := RX5) (T := TX5) (N := 30) hx hb hts inGX5 hown hE.1 hs.1 q0 he rfl 2 (by decide) (hts _ g955) (fun _ h9 => h9) hv hdg kk
theorem fg_X5_225 {p : Program} {l : Launch} {e : Env} {R : Room} {s : State} {m : MethodId} {args : Array Value} {below : List Frame} {meth : Method} {c : Code} {H : Heap} {locs : List Loc} {cells slots : Nat} {Q : State → Prop} {cc : ByteArray} {pc : Nat} {ls : Array Slot} {rest : List Value} {A : Nat → Prop} {G : GT} {ws : va_W} {a : Nat} (hx : p.tables.exec = Jvm.exec) (hb : c.code = cc) (hown : s.vm.findClass RX5 = some m.cls) (hts : ∀ w ∈ GW, w.before args s = true) (hE : EV G A s s.heap) (hs : SI G A s H locs ws) (q0 : Nat) {fs : List Value} (he : ws[q0]? = some (a, .inr (4, fs))) {v : Value} (hv : fs[4]? = some v) (hdg : decode cc pc = .ok (.getfield 225, 3))
    (kk : W p l e R s m args below meth c H locs cells slots Q (F0 m (pc + 3) ls (v :: rest))) : W p l e R s m args below meth c H locs cells slots Q (F0 m pc ls (.ref a :: rest)) :=
  va_get (D := G.1) (ci := 4) (C := RX5) (T := TX5) (N := 30) hx hb hts inGX5 hown hE.1 hs.1 q0 he rfl 4 (by decide) (hts _ g957) (fun _ h9 => h9) hv hdg kk
theorem fg_X5_229 {p : Program} {l : Launch} {e : Env} {R : Room} {s : State} {m : MethodId} {args : Array Value} {below : List Frame} {meth : Method} {c : Code} {H : Heap} {locs : List Loc} {cells slots : Nat} {Q : State → Prop} {cc : ByteArray} {pc : Nat} {ls : Array Slot} {rest : List Value} {A : Nat → Prop} {G : GT} {ws : va_W} {a : Nat} (hx : p.tables.exec = Jvm.exec) (hb : c.code = cc) (hown : s.vm.findClass RX5 = some m.cls) (hts : ∀ w ∈ GW, w.before args s = true) (hE : EV G A s s.heap) (hs : SI G A s H locs ws) (q0 : Nat) {fs : List Value} (he : ws[q0]? = some (a, .inr (4, fs))) {v : Value} (hv : fs[9]? = some v) (hdg : decode cc pc = .ok (.getfield 229, 3))
    (kk : W p l e R s m args below meth c H locs cells slots Q (F0 m (pc + 3) ls (v :: rest))) : W p l e R s m args below meth c H locs cells slots Q (F0 m pc ls (.ref a :: rest)) :=
  va_get (D := G.1) (ci := 4) (C := RX5) (T := TX5) (N := 30) hx hb hts inGX5 hown hE.1 hs.1 q0 he rfl 9 (by decide) (hts _ g962) (fun _ h9 => h9) hv hdg kk
theorem fg_X5_43 {p : Program} {l : Launch} {e : Env} {R : Room} {s : State} {m : MethodId} {args : Array Value} {below : List Frame} {meth : Method} {c : Code} {H : Heap} {locs : List Loc} {cells slots : Nat} {Q : State → Prop} {cc : ByteArray} {pc : Nat} {ls : Array Slot} {rest : List Value} {A : Nat → Prop} {G : GT} {ws : va_W} {a : Nat} (hx : p.tables.exec = Jvm.exec) (hb : c.code = cc) (hown : s.vm.findClass RX5 = some m.cls) (hts : ∀ w ∈ GW, w.before args s = true) (hE : EV G A s s.heap) (hs : SI G A s H locs ws) (q0 : Nat) {fs : List Value} (he : ws[q0]? = some (a, .inr (4, fs))) {v : Value} (hv : fs[26]? = some v) (hdg : decode cc pc = .ok (.getfield 43, 3))
    (kk : W p l e R s m args below meth c H locs cells slots Q (F0 m (pc + 3) ls (v :: rest))) : W p l e R s m args below meth c H locs cells slots Q (F0 m pc ls (.ref a :: rest)) :=
  va_get (D := G.1) (ci := 4) (C := RX5) (T := TX5) (N := 30) hx hb hts inGX5 hown hE.1 hs.1 q0 he rfl 26 (by decide) (hts _ g979) (fun _ h9 => h9) hv hdg kk
theorem fg_X5_46 {p : Program} {l : Launch} {e : Env} {R : Room} {s : State} {m : MethodId} {args : Array Value} {below : List Frame} {meth : Method} {c : Code} {H : Heap} {locs : List Loc} {cells slots : Nat} {Q : State → Prop} {cc : ByteArray} {pc : Nat} {ls : Array Slot} {rest : List Value} {A : Nat → Prop} {G : GT} {ws : va_W} {a : Nat} (hx : p.tables.exec = Jvm.exec) (hb : c.code = cc) (hown : s.vm.findClass RX5 = some m.cls) (hts : ∀ w ∈ GW, w.before args s = true) (hE : EV G A s s.heap) (hs : SI G A s H locs ws) (q0 : Nat) {fs : List Value} (he : ws[q0]? = some (a, .inr (4, fs))) {v : Value} (hv : fs[27]? = some v) (hdg : decode cc pc = .ok (.getfield 46, 3))
    (kk : W p l e R s m args below meth c H locs cells slots Q (F0 m (pc + 3) ls (v :: rest))) : W p l e R s m args below meth c H locs cells slots Q (F0 m pc ls (.ref a :: rest)) :=
  va_get (D := G.1) (ci := 4) (C := RX5) (T := TX5) (N := 30) hx hb hts inGX5 hown hE.1 hs.1 q0 he rfl 27 (by decide) (hts _ g980) (fun _ h9 => h9) hv hdg kk
theorem fg_X5_17 {p : Program} {l : Launch} {e : Env} {R : Room} {s : State} {m : MethodId} {args : Array Value} {below : List Frame} {meth : Method} {c : Code} {H : Heap} {locs : List Loc} {cells slots : Nat} {Q : State → Prop} {cc : ByteArray} {pc : Nat} {ls : Array Slot} {rest : List Value} {A : Nat → Prop} {G : GT} {ws : va_W} {a : Nat} (hx : p.tables.exec = Jvm.exec) (hb : c.code = cc) (hown : s.vm.findClass RX5 = some m.cls) (hts : ∀ w ∈ GW, w.before args s = true) (hE : EV G A s s.heap) (hs : SI G A s H locs ws) (q0 : Nat) {fs : List Value} (he : ws[q0]? = some (a, .inr (4, fs))) {v : Value} (hv : fs[6]? = some v) (hdg : decode cc pc = .ok (.getfield 17, 3))
    (kk : W p l e R s m args below meth c H locs cells slots Q (F0 m (pc + 3) ls (v :: rest))) : W p l e R s m args below meth c H locs cells slots Q (F0 m pc ls (.ref a :: rest)) :=
  va_get (D := G.1) (ci := 4) (C := RX5) (T := TX5) (N := 30) hx hb hts inGX5 hown hE.1 hs.1 q0 he rfl 6 (by decide) (hts _ g959) (fun _ h9 => h9) hv hdg kk
theorem fg_X5_49 {p : Program} {l : Launch} {e : Env} {R : Room} {s : State} {m : MethodId} {args : Array Value} {below : List Frame} {meth : Method} {c : Code} {H : Heap} {locs : List Loc} {cells slots : Nat} {Q : State → Prop} {cc : ByteArray} {pc : Nat} {ls : Array Slot} {rest : List Value} {A : Nat → Prop} {G : GT} {ws : va_W} {a : Nat} (hx : p.tables.exec = Jvm.exec) (hb : c.code = cc) (hown : s.vm.findClass RX5 = some m.cls) (hts : ∀ w ∈ GW, w.before args s = true) (hE : EV G A s s.heap) (hs : SI G A s H locs ws) (q0 : Nat) {fs : List Value} (he : ws[q0]? = some (a, .inr (4, fs))) {v : Value} (hv : fs[28]? = some v) (hdg : decode cc pc = .ok (.getfield 49, 3))
    (kk : W p l e R s m args below meth c H locs cells slots Q (F0 m (pc + 3) ls (v :: rest))) : W p l e R s m args below meth c H locs cells slots Q (F0 m pc ls (.ref a :: rest)) :=
  va_get (D := G.1) (ci := 4) (C := RX5) (T := TX5) (N := 30) hx hb hts inGX5 hown hE.1 hs.1 q0 he rfl 28 (by decide) (hts _ g981) (fun _ h9 => h9) hv hdg kk
theorem fg_X5_375 {p : Program} {l : Launch} {e : Env} {R : Room} {s : State} {m : MethodId} {args : Array Value} {below : List Frame} {meth : Method} {c : Code} {H : Heap} {locs : List Loc} {cells slots : Nat} {Q : State → Prop} {cc : ByteArray} {pc : Nat} {ls : Array Slot} {rest : List Value} {A : Nat → Prop} {G : GT} {ws : va_W} {a : Nat} (hx : p.tables.exec = Jvm.exec) (hb : c.code = cc) (hown : s.vm.findClass RX5 = some m.cls) (hts : ∀ w ∈ GW, w.before args s = true) (hE : EV G A s s.heap) (hs : SI G A s H locs ws) (q0 : Nat) {fs : List Value} (he : ws[q0]? = some (a, .inr (4, fs))) {v : Value} (hv : fs[29]? = some v) (hdg : decode cc pc = .ok (.getfield 375, 3))
    (kk : W p l e R s m args below meth c H locs cells slots Q (F0 m (pc + 3) ls (v :: rest))) : W p l e R s m args below meth c H locs cells slots Q (F0 m pc ls (.ref a :: rest)) :=
  va_get (D := G.1) (ci := 4) (C := RX5) (T := TX5) (N := 30) hx hb hts inGX5 hown hE.1 hs.1 q0 he rfl 29 (by decide) (hts _ g982) (fun _ h9 => h9) hv hdg kk
theorem fp_X5_375 {p : Program} {l : Launch} {e : Env} {R : Room} {s : State} {m : MethodId} {args : Array Value} {below : List Frame} {meth : Method} {c : Code} {H : Heap} {locs : List Loc} {cells slots : Nat} {Q : State → Prop} {cc : ByteArray} {pc : Nat} {ls : Array Slot} {rest : List Value} {A : Nat → Prop} {G : GT} {ws ws' : va_W} {a : Nat} (hx : p.tables.exec = Jvm.exec) (hb : c.code = cc) (hown : s.vm.findClass RX5 = some m.cls) (hts : ∀ w ∈ GW, w.before args s = true) (hE : EV G A s s.heap) (hs : SI G A s H locs ws) (q0 : Nat) {fs : List Value} (he : ws[q0]? = some (a, .inr (4, fs))) {x : Int64} (hl : 29 < fs.length) (hw : ws.set q0 (a, .inr (4, fs.set 29 (.long x))) = ws') (hdg : decode cc pc = .ok (.putfield 375, 3))
    (kk : ∀ (H1 : Heap) (locs1 : List Loc), SI G A s H1 locs1 ws' → W p l e R s m args below meth c H1 locs1 cells slots Q (F0 m (pc + 3) ls rest)) : W p l e R s m args below meth c H locs cells slots Q (F0 m pc ls (.long x :: .ref a :: rest)) :=
  va_put (D := G.1) (ci := 4) (v := .long x) (ty := .long) (C := RX5) (T := TX5) (N := 30) hx hb hts inGX5 tyX5 tyX5_ok nmX5 hown hE.1 hs.1 hs.2.1 hs.2.2 q0 he rfl 29 (by decide) (hts _ g982) (fun _ h9 => h9) rfl (by decide +kernel) rfl rfl hl hdg (fun H1 locs1 hP hD hS => kk H1 locs1 (hw ▸ ⟨hP, hD, hS⟩))
theorem fg_X5_23 {p : Program} {l : Launch} {e : Env} {R : Room} {s : State} {m : MethodId} {args : Array Value} {below : List Frame} {meth : Method} {c : Code} {H : Heap} {locs : List Loc} {cells slots : Nat} {Q : State → Prop} {cc : ByteArray} {pc : Nat} {ls : Array Slot} {rest : List Value} {A : Nat → Prop} {G : GT} {ws : va_W} {a : Nat} (hx : p.tables.exec = Jvm.exec) (hb : c.code = cc) (hown : s.vm.findClass RX5 = some m.cls) (hts : ∀ w ∈ GW, w.before args s = true) (hE : EV G A s s.heap) (hs : SI G A s H locs ws) (q0 : Nat) {fs : List Value} (he : ws[q0]? = some (a, .inr (4, fs))) {v : Value} (hv : fs[8]? = some v) (hdg : decode cc pc = .ok (.getfield 23, 3))
    (kk : W p l e R s m args below meth c H locs cells slots Q (F0 m (pc + 3) ls (v :: rest))) : W p l e R s m args below meth c H locs cells slots Q (F0 m pc ls (.ref a :: rest)) :=
  va_get (D := G.1) (ci := 4) (C := RX5) (T := TX5) (N := 30) hx hb hts inGX5 hown hE.1 hs.1 q0 he rfl 8 (by decide) (hts _ g961) (fun _ h9 => h9) hv hdg kk
theorem fg_X5_26 {p : Program} {l : Launch} {e : Env} {R : Room} {s : State} {m : MethodId} {args : Array Value} {below : List Frame} {meth : Method} {c : Code} {H : Heap} {locs : List Loc} {cells slots : Nat} {Q : State → Prop} {cc : ByteArray} {pc : Nat} {ls : Array Slot} {rest : List Value} {A : Nat → Prop} {G : GT} {ws : va_W} {a : Nat} (hx : p.tables.exec = Jvm.exec) (hb : c.code = cc) (hown : s.vm.findClass RX5 = some m.cls) (hts : ∀ w ∈ GW, w.before args s = true) (hE : EV G A s s.heap) (hs : SI G A s H locs ws) (q0 : Nat) {fs : List Value} (he : ws[q0]? = some (a, .inr (4, fs))) {v : Value} (hv : fs[10]? = some v) (hdg : decode cc pc = .ok (.getfield 26, 3))
    (kk : W p l e R s m args below meth c H locs cells slots Q (F0 m (pc + 3) ls (v :: rest))) : W p l e R s m args below meth c H locs cells slots Q (F0 m pc ls (.ref a :: rest)) :=
  va_get (D := G.1) (ci := 4) (C := RX5) (T := TX5) (N := 30) hx hb hts inGX5 hown hE.1 hs.1 q0 he rfl 10 (by decide) (hts _ g963) (fun _ h9 => h9) hv hdg kk
theorem v_X1_39 : VN RX1 39 RX2 yX2_copyFrom cX2_copyFrom 2 (none) 1 := ⟨g533, g461, g28, g126, g462, ⟨by decide +kernel, by decide +kernel, by decide +kernel⟩⟩
theorem v_X2_49 : VW RX2 49 RX2 yX2_ofShip cX2_ofShip 3 (some .int) 2 := ⟨g451, g453, g26, g126, g454, ⟨rfl, by decide +kernel, by decide +kernel, by decide +kernel⟩⟩
theorem v_X2_52 : VW RX2 52 RX2 yX2_holds cX2_holds 2 (some .boolean) 1 := ⟨g495, g497, g33, g126, g498, ⟨rfl, by decide +kernel, by decide +kernel, by decide +kernel⟩⟩
theorem v_X1_68 : VN RX1 68 RX2 yX2_weightOf cX2_weightOf 3 (some .int) 1 := ⟨g545, g493, g32, g126, g494, ⟨by decide +kernel, by decide +kernel, by decide +kernel⟩⟩
theorem v_X2_41 : VW RX2 41 RX2 yX2_ofClaim cX2_ofClaim 3 (some .int) 2 := ⟨g515, g517, g36, g126, g518, ⟨rfl, by decide +kernel, by decide +kernel, by decide +kernel⟩⟩
theorem v_X1_72 : VS RX1 72 yX1_cut cX1_cut 4 (some .long) 2 := ⟨g564, g565, g127, g566, ⟨by decide +kernel, by decide +kernel, by decide +kernel⟩⟩
theorem v_X1_83 : VN RX1 83 RX2 yX2_roundOf cX2_roundOf 3 (some .int) 1 := ⟨g554, g513, g35, g126, g514, ⟨by decide +kernel, by decide +kernel, by decide +kernel⟩⟩
theorem v_X1_86 : VN RX1 86 RX2 yX2_ofClaim cX2_ofClaim 3 (some .int) 2 := ⟨g555, g517, g36, g126, g518, ⟨by decide +kernel, by decide +kernel, by decide +kernel⟩⟩
theorem v_X1_90 : VN RX1 90 RX2 yX2_isGoods cX2_isGoods 2 (some .boolean) 1 := ⟨g556, g558, g43, g126, g559, ⟨by decide +kernel, by decide +kernel, by decide +kernel⟩⟩
theorem v_X1_98 : VN RX1 98 RX2 yX2_holds cX2_holds 2 (some .boolean) 1 := ⟨g567, g497, g33, g126, g498, ⟨by decide +kernel, by decide +kernel, by decide +kernel⟩⟩
theorem v_X1_94 : VW RX1 94 RX1 yX1_partOf cX1_partOf 4 (some .long) 2 := ⟨g560, g562, g44, g127, g563, ⟨rfl, by decide +kernel, by decide +kernel, by decide +kernel⟩⟩
theorem v_X1_79 : VW RX1 79 RX1 yX1_debt cX1_debt 6 (some .long) 2 := ⟨g550, g552, g42, g127, g553, ⟨rfl, by decide +kernel, by decide +kernel, by decide +kernel⟩⟩
theorem v_X1_101 : VW RX1 101 RX1 yX1_owedToClaim cX1_owedToClaim 3 (some .long) 2 := ⟨g576, g578, g47, g127, g579, ⟨rfl, by decide +kernel, by decide +kernel, by decide +kernel⟩⟩
theorem v_X1_104 : VW RX1 104 RX1 yX1_backFor cX1_backFor 4 (some .long) 2 := ⟨g572, g574, g46, g127, g575, ⟨rfl, by decide +kernel, by decide +kernel, by decide +kernel⟩⟩
theorem v_X1_115 : VN RX1 115 RX2 yX2_ofShip cX2_ofShip 3 (some .int) 2 := ⟨g592, g453, g26, g126, g454, ⟨by decide +kernel, by decide +kernel, by decide +kernel⟩⟩
theorem v_X1_118 : VW RX1 118 RX1 yX1_hullDebt cX1_hullDebt 3 (some .long) 2 := ⟨g588, g590, g50, g127, g591, ⟨rfl, by decide +kernel, by decide +kernel, by decide +kernel⟩⟩
theorem v_X1_121 : VW RX1 121 RX1 yX1_backTo cX1_backTo 3 (some .long) 2 := ⟨g593, g595, g51, g127, g596, ⟨rfl, by decide +kernel, by decide +kernel, by decide +kernel⟩⟩
theorem v_X1_107 : VW RX1 107 RX1 yX1_crossDebt cX1_crossDebt 3 (some .long) 2 := ⟨g584, g586, g49, g127, g587, ⟨rfl, by decide +kernel, by decide +kernel, by decide +kernel⟩⟩
theorem v_X2_64 : VW RX2 64 RX2 yX2_fundTons cX2_fundTons 2 (some .long) 1 := ⟨g613, g615, g55, g126, g616, ⟨rfl, by decide +kernel, by decide +kernel, by decide +kernel⟩⟩
theorem v_X1_148 : VW RX1 148 RX1 yX1_takesPart cX1_takesPart 5 (some .boolean) 3 := ⟨g626, g628, g57, g127, g629, ⟨rfl, by decide +kernel, by decide +kernel, by decide +kernel⟩⟩
theorem v_X1_134 : VN RX1 134 RX2 yX2_fundOf cX2_fundOf 3 (some .long) 2 := ⟨g609, g611, g54, g126, g612, ⟨by decide +kernel, by decide +kernel, by decide +kernel⟩⟩
theorem v_X1_137 : VW RX1 137 RX1 yX1_findLacks cX1_findLacks 7 (some .long) 3 := ⟨g622, g624, g56, g127, g625, ⟨rfl, by decide +kernel, by decide +kernel, by decide +kernel⟩⟩
theorem v_X1_145 : VW RX1 145 RX1 yX1_payLacks cX1_payLacks 3 (none) 1 := ⟨g634, g636, g59, g127, g637, ⟨rfl, by decide +kernel, by decide +kernel, by decide +kernel⟩⟩
theorem v_X1_141 : VW RX1 141 RX1 yX1_shareScarce cX1_shareScarce 11 (none) 3 := ⟨g630, g632, g58, g127, g633, ⟨rfl, by decide +kernel, by decide +kernel, by decide +kernel⟩⟩
theorem v_X1_130 : VW RX1 130 RX1 yX1_payOutOf cX1_payOutOf 8 (none) 2 := ⟨g605, g607, g53, g127, g608, ⟨rfl, by decide +kernel, by decide +kernel, by decide +kernel⟩⟩
theorem v_X1_43 : VS RX1 43 yJ7_fill_d0a16 cJ7_fill_d0a16 5 (none) 2 := ⟨g538, g539, g133, g540, ⟨by decide +kernel, by decide +kernel, by decide +kernel⟩⟩
theorem v_X1_49 : VW RX1 49 RX1 yX1_weigh cX1_weigh 2 (none) 0 := ⟨g541, g543, g40, g127, g544, ⟨rfl, by decide +kernel, by decide +kernel, by decide +kernel⟩⟩
theorem v_X1_52 : VW RX1 52 RX1 yX1_oweClaims cX1_oweClaims 3 (none) 0 := ⟨g546, g548, g41, g127, g549, ⟨rfl, by decide +kernel, by decide +kernel, by decide +kernel⟩⟩
theorem v_X1_55 : VW RX1 55 RX1 yX1_oweBack cX1_oweBack 3 (none) 0 := ⟨g568, g570, g45, g127, g571, ⟨rfl, by decide +kernel, by decide +kernel, by decide +kernel⟩⟩
theorem v_X1_58 : VW RX1 58 RX1 yX1_oweShips cX1_oweShips 7 (none) 0 := ⟨g580, g582, g48, g127, g583, ⟨rfl, by decide +kernel, by decide +kernel, by decide +kernel⟩⟩
theorem v_X1_64 : VW RX1 64 RX1 yX1_pay cX1_pay 2 (none) 1 := ⟨g600, g602, g52, g127, g603, ⟨rfl, by decide +kernel, by decide +kernel, by decide +kernel⟩⟩
theorem v_X1_152 : VS RX1 152 yX1_rowTogether cX1_rowTogether 5 (some .long) 2 := ⟨g692, g693, g127, g694, ⟨by decide +kernel, by decide +kernel, by decide +kernel⟩⟩
theorem v_X1_156 : VW RX1 156 RX1 yX1_paidToClaim cX1_paidToClaim 3 (some .long) 2 := ⟨g715, g674, g62, g127, g675, ⟨rfl, by decide +kernel, by decide +kernel, by decide +kernel⟩⟩
theorem v_X1_159 : VW RX1 159 RX1 yX1_backForClaim cX1_backForClaim 5 (some .long) 1 := ⟨g720, g661, g61, g127, g662, ⟨rfl, by decide +kernel, by decide +kernel, by decide +kernel⟩⟩
theorem v_X1_163 : VW RX1 163 RX1 yX1_paidToClaimByAll cX1_paidToClaimByAll 5 (some .long) 1 := ⟨g711, g713, g67, g127, g714, ⟨rfl, by decide +kernel, by decide +kernel, by decide +kernel⟩⟩
theorem v_X1_166 : VW RX1 166 RX1 yX1_givenBack cX1_givenBack 2 (some .long) 1 := ⟨g716, g718, g68, g127, g719, ⟨rfl, by decide +kernel, by decide +kernel, by decide +kernel⟩⟩
theorem v_X1_169 : VW RX1 169 RX1 yX1_paidByShip cX1_paidByShip 2 (some .long) 1 := ⟨g731, g697, g65, g127, g698, ⟨rfl, by decide +kernel, by decide +kernel, by decide +kernel⟩⟩
theorem v_X1_172 : VW RX1 172 RX1 yX1_paidToShip cX1_paidToShip 3 (some .long) 2 := ⟨g754, g682, g63, g127, g683, ⟨rfl, by decide +kernel, by decide +kernel, by decide +kernel⟩⟩
theorem v_X1_179 : VW RX1 179 RX1 yX1_paidToPersons cX1_paidToPersons 5 (some .long) 1 := ⟨g732, g734, g70, g127, g735, ⟨rfl, by decide +kernel, by decide +kernel, by decide +kernel⟩⟩
theorem v_X1_182 : VS RX1 182 yX1_threeQuarters cX1_threeQuarters 2 (some .long) 1 := ⟨g736, g737, g127, g738, ⟨by decide +kernel, by decide +kernel, by decide +kernel⟩⟩
theorem v_X1_186 : VW RX1 186 RX1 yX1_owedToPersons cX1_owedToPersons 5 (some .long) 1 := ⟨g779, g781, g75, g127, g782, ⟨rfl, by decide +kernel, by decide +kernel, by decide +kernel⟩⟩
theorem v_X1_189 : VW RX1 189 RX1 yX1_owedByShip cX1_owedByShip 2 (some .long) 1 := ⟨g783, g690, g64, g127, g691, ⟨rfl, by decide +kernel, by decide +kernel, by decide +kernel⟩⟩
theorem v_X1_192 : VN RX1 192 RX2 yX2_fundTons cX2_fundTons 2 (some .long) 1 := ⟨g784, g615, g55, g126, g616, ⟨by decide +kernel, by decide +kernel, by decide +kernel⟩⟩
theorem v_X2_45 : VW RX2 45 RX2 yX2_setShip cX2_setShip 4 (none) 3 := ⟨g386, g388, g16, g126, g389, ⟨rfl, by decide +kernel, by decide +kernel, by decide +kernel⟩⟩
theorem v_X5_67 : VW RX5 67 RX5 yX5_seen cX5_seen 2 (some .int) 1 := ⟨g1083, g1085, g87, g128, g1086, ⟨rfl, by decide +kernel, by decide +kernel, by decide +kernel⟩⟩
theorem v_X5_80 : VS RX5 80 yX5_isLetter cX5_isLetter 1 (some .boolean) 1 := ⟨g1087, g1088, g128, g1089, ⟨by decide +kernel, by decide +kernel, by decide +kernel⟩⟩
theorem v_X5_92 : VS RX5 92 yX5_isDigit cX5_isDigit 1 (some .boolean) 1 := ⟨g1092, g1093, g128, g1094, ⟨by decide +kernel, by decide +kernel, by decide +kernel⟩⟩
theorem v_X5_104 : VW RX5 104 RX5 yX5_token cX5_token 2 (none) 0 := ⟨g1079, g1081, g86, g128, g1082, ⟨rfl, by decide +kernel, by decide +kernel, by decide +kernel⟩⟩
theorem v_X5_107 : VS RX5 107 yX5_spelled cX5_spelled 9 (some .long) 7 := ⟨g1106, g1107, g128, g1108, ⟨by decide +kernel, by decide +kernel, by decide +kernel⟩⟩
theorem v_X5_111 : VS RX5 111 yX5_aboutWord cX5_aboutWord 1 (some .long) 1 := ⟨g1103, g1104, g128, g1105, ⟨by decide +kernel, by decide +kernel, by decide +kernel⟩⟩
theorem v_X5_115 : VW RX5 115 RX5 yX5_isWord cX5_isWord 3 (some .boolean) 1 := ⟨g1109, g1111, g90, g128, g1112, ⟨rfl, by decide +kernel, by decide +kernel, by decide +kernel⟩⟩
theorem v_X5_119 : VW RX5 119 RX5 yX5_aboutHere cX5_aboutHere 2 (some .int) 0 := ⟨g1099, g1101, g89, g128, g1102, ⟨rfl, by decide +kernel, by decide +kernel, by decide +kernel⟩⟩
theorem v_X5_123 : VS RX5 123 yX5_shipWord cX5_shipWord 0 (some .long) 0 := ⟨g1113, g1114, g128, g1115, ⟨by decide +kernel, by decide +kernel, by decide +kernel⟩⟩
theorem v_X5_127 : VS RX5 127 yX5_tonsWord cX5_tonsWord 0 (some .long) 0 := ⟨g1132, g1133, g128, g1134, ⟨by decide +kernel, by decide +kernel, by decide +kernel⟩⟩
theorem v_X5_130 : VS RX5 130 yX5_faultWord cX5_faultWord 0 (some .long) 0 := ⟨g1135, g1136, g128, g1137, ⟨by decide +kernel, by decide +kernel, by decide +kernel⟩⟩
theorem v_X5_133 : VS RX5 133 yX5_hullWord cX5_hullWord 0 (some .long) 0 := ⟨g1138, g1139, g128, g1140, ⟨by decide +kernel, by decide +kernel, by decide +kernel⟩⟩
theorem v_X5_136 : VS RX5 136 yX5_valueWord cX5_valueWord 0 (some .long) 0 := ⟨g1141, g1142, g128, g1143, ⟨by decide +kernel, by decide +kernel, by decide +kernel⟩⟩
theorem v_X5_139 : VS RX5 139 yX5_clauseWord cX5_clauseWord 0 (some .long) 0 := ⟨g1144, g1145, g128, g1146, ⟨by decide +kernel, by decide +kernel, by decide +kernel⟩⟩
theorem v_X5_142 : VS RX5 142 yX5_barredWord cX5_barredWord 0 (some .long) 0 := ⟨g1147, g1148, g128, g1149, ⟨by decide +kernel, by decide +kernel, by decide +kernel⟩⟩
theorem v_X5_145 : VS RX5 145 yX5_goodsWord cX5_goodsWord 0 (some .long) 0 := ⟨g1150, g1151, g128, g1152, ⟨by decide +kernel, by decide +kernel, by decide +kernel⟩⟩
theorem v_X5_148 : VS RX5 148 yX5_othersWord cX5_othersWord 0 (some .long) 0 := ⟨g1153, g1154, g128, g1155, ⟨by decide +kernel, by decide +kernel, by decide +kernel⟩⟩
theorem v_X5_151 : VS RX5 151 yX5_dayWord cX5_dayWord 0 (some .long) 0 := ⟨g1156, g1157, g128, g1158, ⟨by decide +kernel, by decide +kernel, by decide +kernel⟩⟩
theorem v_X5_158 : VW RX5 158 RX5 yX5_goesOn cX5_goesOn 1 (none) 0 := ⟨g1124, g1126, g93, g128, g1127, ⟨rfl, by decide +kernel, by decide +kernel, by decide +kernel⟩⟩
theorem v_X5_154 : VW RX5 154 RX5 yX5_fails cX5_fails 2 (none) 1 := ⟨g1120, g1122, g92, g128, g1123, ⟨rfl, by decide +kernel, by decide +kernel, by decide +kernel⟩⟩
theorem v_X5_161 : VS RX5 161 yX5_in cX5_in 6 (some .boolean) 3 := ⟨g1064, g1065, g128, g1066, ⟨by decide +kernel, by decide +kernel, by decide +kernel⟩⟩
theorem v_X5_165 : VW RX5 165 RX5 yX5_isName cX5_isName 1 (some .boolean) 0 := ⟨g1128, g1130, g94, g128, g1131, ⟨rfl, by decide +kernel, by decide +kernel, by decide +kernel⟩⟩
theorem v_X5_169 : VW RX5 169 RX5 yX5_shipNamed cX5_shipNamed 2 (some .int) 0 := ⟨g1159, g1161, g95, g128, g1162, ⟨rfl, by decide +kernel, by decide +kernel, by decide +kernel⟩⟩
theorem v_X5_172 : VW RX5 172 RX5 yX5_takes cX5_takes 3 (none) 1 := ⟨g1163, g1165, g96, g128, g1166, ⟨rfl, by decide +kernel, by decide +kernel, by decide +kernel⟩⟩
theorem v_X5_177 : VW RX5 177 RX5 yX5_whole cX5_whole 4 (some .int) 2 := ⟨g1168, g1170, g97, g128, g1171, ⟨rfl, by decide +kernel, by decide +kernel, by decide +kernel⟩⟩
theorem v_X5_185 : VS RX5 185 yX5_lowOf cX5_lowOf 1 (some .int) 1 := ⟨g1184, g1185, g128, g1186, ⟨by decide +kernel, by decide +kernel, by decide +kernel⟩⟩
theorem v_X5_188 : VS RX5 188 yX5_highOf cX5_highOf 1 (some .int) 1 := ⟨g1187, g1188, g128, g1189, ⟨by decide +kernel, by decide +kernel, by decide +kernel⟩⟩
theorem v_X5_197 : VS RX5 197 yX5_personsWord cX5_personsWord 0 (some .long) 0 := ⟨g1177, g1178, g128, g1179, ⟨by decide +kernel, by decide +kernel, by decide +kernel⟩⟩
theorem v_X5_200 : VW RX5 200 RX5 yX5_aboutLine cX5_aboutLine 2 (none) 1 := ⟨g1180, g1182, g99, g128, g1183, ⟨rfl, by decide +kernel, by decide +kernel, by decide +kernel⟩⟩
theorem v_X5_194 : VW RX5 194 RX5 yX5_claimLine cX5_claimLine 4 (none) 1 := ⟨g1173, g1175, g98, g128, g1176, ⟨rfl, by decide +kernel, by decide +kernel, by decide +kernel⟩⟩
theorem v_X5_191 : VW RX5 191 RX5 yX5_shipLine cX5_shipLine 3 (none) 0 := ⟨g1116, g1118, g91, g128, g1119, ⟨rfl, by decide +kernel, by decide +kernel, by decide +kernel⟩⟩
theorem v_X5_203 : VW RX5 203 RX5 yX5_plain cX5_plain 2 (none) 0 := ⟨g1075, g1077, g85, g128, g1078, ⟨rfl, by decide +kernel, by decide +kernel, by decide +kernel⟩⟩
theorem v_X5_206 : VW RX5 206 RX5 yX5_line cX5_line 2 (none) 0 := ⟨g1095, g1097, g88, g128, g1098, ⟨rfl, by decide +kernel, by decide +kernel, by decide +kernel⟩⟩
theorem v_X5_209 : VW RX5 209 RX5 yX5_tenths cX5_tenths 3 (some .int) 0 := ⟨g1190, g1192, g100, g128, g1193, ⟨rfl, by decide +kernel, by decide +kernel, by decide +kernel⟩⟩
theorem v_X5_212 : VW RX5 212 RX5 yX5_begins cX5_begins 1 (none) 0 := ⟨g1060, g1062, g82, g128, g1063, ⟨rfl, by decide +kernel, by decide +kernel, by decide +kernel⟩⟩
theorem v_X5_215 : VW RX5 215 RX5 yX5_refuse cX5_refuse 3 (some .boolean) 2 := ⟨g1067, g1069, g83, g128, g1070, ⟨rfl, by decide +kernel, by decide +kernel, by decide +kernel⟩⟩
theorem v_X5_219 : VW RX5 219 RX5 yX5_reads cX5_reads 3 (none) 1 := ⟨g1071, g1073, g84, g128, g1074, ⟨rfl, by decide +kernel, by decide +kernel, by decide +kernel⟩⟩
theorem v_X5_243 : VS RX5 243 yX5_ofShip cX5_ofShip 3 (some .int) 3 := ⟨g1223, g1224, g128, g1225, ⟨by decide +kernel, by decide +kernel, by decide +kernel⟩⟩
theorem v_X5_234 : VW RX5 234 RX5 yX5_isShip cX5_isShip 2 (some .boolean) 1 := ⟨g1215, g1217, g101, g128, g1218, ⟨rfl, by decide +kernel, by decide +kernel, by decide +kernel⟩⟩
theorem v_X5_239 : VS RX5 239 yX5_weightOf cX5_weightOf 3 (some .int) 2 := ⟨g1220, g1221, g128, g1222, ⟨by decide +kernel, by decide +kernel, by decide +kernel⟩⟩
theorem v_X5_255 : VS RX5 255 yX5_ofClaim cX5_ofClaim 3 (some .int) 3 := ⟨g1238, g1239, g128, g1240, ⟨by decide +kernel, by decide +kernel, by decide +kernel⟩⟩
theorem v_X5_247 : VW RX5 247 RX5 yX5_isClaim cX5_isClaim 2 (some .boolean) 1 := ⟨g1230, g1232, g102, g128, g1233, ⟨rfl, by decide +kernel, by decide +kernel, by decide +kernel⟩⟩
theorem v_X5_252 : VS RX5 252 yX5_roundOf cX5_roundOf 3 (some .int) 2 := ⟨g1235, g1236, g128, g1237, ⟨by decide +kernel, by decide +kernel, by decide +kernel⟩⟩
theorem v_X5_258 : VS RX5 258 yX5_weightsOf cX5_weightsOf 3 (some .int) 1 := ⟨g1253, g1254, g128, g1255, ⟨by decide +kernel, by decide +kernel, by decide +kernel⟩⟩
theorem v_X5_262 : VS RX5 262 yX5_partOf cX5_partOf 4 (some .long) 3 := ⟨g1250, g1251, g128, g1252, ⟨by decide +kernel, by decide +kernel, by decide +kernel⟩⟩
theorem v_X5_266 : VS RX5 266 yX5_debtOf cX5_debtOf 6 (some .long) 3 := ⟨g1260, g1261, g128, g1262, ⟨by decide +kernel, by decide +kernel, by decide +kernel⟩⟩
theorem v_X5_270 : VS RX5 270 yX5_backTo cX5_backTo 3 (some .long) 3 := ⟨g1275, g1276, g128, g1277, ⟨by decide +kernel, by decide +kernel, by decide +kernel⟩⟩
theorem v_X5_273 : VS RX5 273 yX5_hullOwed cX5_hullOwed 3 (some .long) 3 := ⟨g1269, g1270, g128, g1271, ⟨by decide +kernel, by decide +kernel, by decide +kernel⟩⟩
theorem v_X5_276 : VS RX5 276 yX5_backOwed cX5_backOwed 6 (some .long) 3 := ⟨g1272, g1273, g128, g1274, ⟨by decide +kernel, by decide +kernel, by decide +kernel⟩⟩
theorem v_X5_279 : VS RX5 279 yX5_bothOwed cX5_bothOwed 3 (some .long) 3 := ⟨g1278, g1279, g128, g1280, ⟨by decide +kernel, by decide +kernel, by decide +kernel⟩⟩
theorem v_X5_282 : VS RX5 282 yX5_lesser cX5_lesser 4 (some .long) 2 := ⟨g1284, g1285, g128, g1286, ⟨by decide +kernel, by decide +kernel, by decide +kernel⟩⟩
theorem v_X5_286 : VS RX5 286 yX5_greater cX5_greater 4 (some .long) 2 := ⟨g1301, g1302, g128, g1303, ⟨by decide +kernel, by decide +kernel, by decide +kernel⟩⟩
theorem v_X5_291 : VW RX5 291 RX5 yX5_clears cX5_clears 3 (none) 1 := ⟨g1325, g1327, g107, g128, g1328, ⟨rfl, by decide +kernel, by decide +kernel, by decide +kernel⟩⟩
theorem v_X5_295 : VS RX5 295 yX5_lawOwed cX5_lawOwed 5 (some .long) 3 := ⟨g1281, g1282, g128, g1283, ⟨by decide +kernel, by decide +kernel, by decide +kernel⟩⟩
theorem v_X5_298 : VS RX5 298 yX5_fundOf cX5_fundOf 5 (some .long) 3 := ⟨g1298, g1299, g128, g1300, ⟨by decide +kernel, by decide +kernel, by decide +kernel⟩⟩
theorem v_X5_301 : VW RX5 301 RX5 yX5_owesPersons cX5_owesPersons 4 (none) 2 := ⟨g1333, g1335, g109, g128, g1336, ⟨rfl, by decide +kernel, by decide +kernel, by decide +kernel⟩⟩
theorem v_X5_305 : VW RX5 305 RX5 yX5_shares cX5_shares 10 (some .long) 1 := ⟨g1337, g1339, g110, g128, g1340, ⟨rfl, by decide +kernel, by decide +kernel, by decide +kernel⟩⟩
theorem v_X5_309 : VW RX5 309 RX5 yX5_sharesLives cX5_sharesLives 5 (none) 1 := ⟨g1329, g1331, g108, g128, g1332, ⟨rfl, by decide +kernel, by decide +kernel, by decide +kernel⟩⟩
theorem v_X5_312 : VW RX5 312 RX5 yX5_owesAll cX5_owesAll 4 (none) 2 := ⟨g1341, g1343, g111, g128, g1344, ⟨rfl, by decide +kernel, by decide +kernel, by decide +kernel⟩⟩
theorem v_X5_315 : VW RX5 315 RX5 yX5_paysOne cX5_paysOne 5 (none) 1 := ⟨g1321, g1323, g106, g128, g1324, ⟨rfl, by decide +kernel, by decide +kernel, by decide +kernel⟩⟩
theorem v_X5_318 : VW RX5 318 RX5 yX5_lays cX5_lays 2 (none) 0 := ⟨g1313, g1315, g104, g128, g1316, ⟨rfl, by decide +kernel, by decide +kernel, by decide +kernel⟩⟩
theorem v_X5_321 : VW RX5 321 RX5 yX5_paysAll cX5_paysAll 2 (none) 0 := ⟨g1317, g1319, g105, g128, g1320, ⟨rfl, by decide +kernel, by decide +kernel, by decide +kernel⟩⟩
theorem v_X5_324 : VS RX5 324 yX5_backOf cX5_backOf 5 (some .long) 2 := ⟨g1291, g1292, g128, g1293, ⟨by decide +kernel, by decide +kernel, by decide +kernel⟩⟩
theorem v_X5_328 : VW RX5 328 RX5 yX5_paidTo cX5_paidTo 5 (some .long) 1 := ⟨g1370, g1372, g114, g128, g1373, ⟨rfl, by decide +kernel, by decide +kernel, by decide +kernel⟩⟩
theorem v_X5_331 : VW RX5 331 RX5 yX5_paidBy cX5_paidBy 5 (some .long) 1 := ⟨g1357, g1359, g113, g128, g1360, ⟨rfl, by decide +kernel, by decide +kernel, by decide +kernel⟩⟩
theorem v_X5_334 : VW RX5 334 RX5 yX5_givenOf cX5_givenOf 3 (some .long) 1 := ⟨g1374, g1376, g115, g128, g1377, ⟨rfl, by decide +kernel, by decide +kernel, by decide +kernel⟩⟩
theorem v_X5_343 : VW RX5 343 RX5 yX5_laysPaid cX5_laysPaid 1 (none) 0 := ⟨g1309, g1311, g103, g128, g1312, ⟨rfl, by decide +kernel, by decide +kernel, by decide +kernel⟩⟩
theorem v_X5_346 : VW RX5 346 RX5 yX5_owedBy cX5_owedBy 5 (some .long) 1 := ⟨g1353, g1355, g112, g128, g1356, ⟨rfl, by decide +kernel, by decide +kernel, by decide +kernel⟩⟩
theorem v_X5_353 : VW RX5 353 RX5 yX5_netOf cX5_netOf 5 (some .long) 1 := ⟨g1387, g1389, g116, g128, g1390, ⟨rfl, by decide +kernel, by decide +kernel, by decide +kernel⟩⟩
theorem v_X5_358 : VW RX5 358 RX5 yX5_netWith cX5_netWith 4 (some .long) 2 := ⟨g1396, g1398, g117, g128, g1399, ⟨rfl, by decide +kernel, by decide +kernel, by decide +kernel⟩⟩
theorem v_X5_362 : VW RX5 362 RX5 yX5_neededOf cX5_neededOf 5 (some .long) 1 := ⟨g1412, g1414, g118, g128, g1415, ⟨rfl, by decide +kernel, by decide +kernel, by decide +kernel⟩⟩
theorem v_X5_367 : VW RX5 367 RX5 yX5_netShifted cX5_netShifted 5 (some .long) 3 := ⟨g1421, g1423, g119, g128, g1424, ⟨rfl, by decide +kernel, by decide +kernel, by decide +kernel⟩⟩
theorem v_X5_382 : VW RX5 382 RX5 yX5_draw cX5_draw 2 (some .int) 1 := ⟨g1441, g1443, g121, g128, g1444, ⟨rfl, by decide +kernel, by decide +kernel, by decide +kernel⟩⟩
theorem v_X5_389 : VW RX5 389 RX5 yX5_netJudged cX5_netJudged 3 (some .long) 1 := ⟨g1437, g1439, g120, g128, g1440, ⟨rfl, by decide +kernel, by decide +kernel, by decide +kernel⟩⟩
theorem v_X5_392 : VW RX5 392 RX5 yX5_keeps cX5_keeps 2 (none) 0 := ⟨g1455, g1457, g122, g128, g1458, ⟨rfl, by decide +kernel, by decide +kernel, by decide +kernel⟩⟩
theorem v_X5_399 : VS RX5 399 yX5_isWithin cX5_isWithin 2 (some .boolean) 2 := ⟨g1473, g1474, g128, g1475, ⟨by decide +kernel, by decide +kernel, by decide +kernel⟩⟩
