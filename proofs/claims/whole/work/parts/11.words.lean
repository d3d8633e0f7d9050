/-! ===== words out of the tables; rows for fields; words of calls ===== -/
theorem inGX0 : ∀ w ∈ wsX00, w ∈ GW := by decide +kernel
theorem inGX1 : ∀ w ∈ wsX10, w ∈ GW := by decide +kernel
theorem inGX2 : ∀ w ∈ wsX20, w ∈ GW := by decide +kernel
theorem inGX4 : ∀ w ∈ wsX40, w ∈ GW := by decide +kernel
theorem inGX5 : ∀ w ∈ wsX50, w ∈ GW := by decide +kernel
def sAf (k : Nat) : Fin (sA_v k).length → Int32 := fun j => (sA_v k).getD j.1 0
theorem sx_sald {p : Program} {l : Launch} {e : Env} {R : Room} {s : State} {m : MethodId} {args : Array Value} {below : List Frame} {meth : Method} {c : Code} {H : Heap} {locs : List Loc} {cells slots : Nat} {Q : State → Prop} {cc : ByteArray} {pc : Nat} {ls : Array Slot} {rest : List Value} {A : Nat → Prop} {G : GT} {ws : va_W} (hx : p.tables.exec = Jvm.exec) (hb : c.code = cc) (hE : EV G A s s.heap) (hs : SI G A s H locs ws) (k : Nat) (hk : k < 5) {i v : Int32} (hv : rdI (sAf k) i = some v) (hdg : decode cc pc = .ok (.iaload, 1))
    (kk : W p l e R s m args below meth c H locs cells slots Q (F0 m (pc + 1) ls (.int v :: rest))) : W p l e R s m args below meth c H locs cells slots Q (F0 m pc ls (.int i :: .ref (G.2.2.1 k) :: rest)) := by
  obtain ⟨h1, h2⟩ := rdI_some hv
  refine va_ti hx hb (hE.2.2.1 k hk).2 hs.2.2 h1 (v := .int v) ?_ hdg kk
  show Value.int _ = Value.int v
  rw [← h2]
  have h3 : i.toNatClampNeg < (sA_v k).length := Nat.not_le.mp fun q => h1 (Or.inr q)
  simp [exI, sAf, h3]
theorem sx_copyi {p : Program} {l : Launch} {e : Env} {R : Room} {s : State} {m : MethodId} {args : Array Value} {below : List Frame} {meth : Method} {c : Code} {H : Heap} {locs : List Loc} {cells slots : Nat} {Q : State → Prop} {cc : ByteArray} {pc : Nat} {ls : Array Slot} {rest : List Value} {A : Nat → Prop} {G : GT} {ws ws' : va_W} {a a0 n0 n1 : Nat} (hx : p.tables.exec = Jvm.exec) (hb : c.code = cc) (hml : c.maxLocals = ls.size) {own : String} {index : Nat} (hown : s.vm.findClass own = some m.cls) (hlink : (Cond.methodLink own index arraycopyName).before args s = true) (hnat : (Cond.native arraycopyName).before args s = true) (hstat : (Cond.static arraycopyName).before args s = true) (hini : (Cond.initialized "java/lang/System").before args s = true) (hE : EV G A s s.heap) (hs : SI G A s H locs ws) (q0 q1 : Nat) {f : Fin n0 → Int32} {g g2 : Fin n1 → Int32} (ha0 : ws[q0]? = some (a0, .inl (G.2.1 0, n0, .inl (exI f)))) (ha1 : ws[q1]? = some (a, .inl (G.2.1 0, n1, .inl (exI g)))) {sp dp n : Int32} (hc : cpI (n0 := n0) (exI f) g sp dp n = some g2) (hw : ws.set q1 (a, .inl (G.2.1 0, n1, .inl (exI g2))) = ws') (hframes : 1 ≤ R.frames) (hlocals : (rest.map fun v => v.category).sum + (nativeFrameWords "java/lang/System" "arraycopy" 5 + 11) ≤ R.locals) (hdg : decode cc pc = .ok (.invokestatic index, 3))
    (kk : ∀ (H1 : Heap) (locs1 : List Loc), SI G A s H1 locs1 ws' → W p l e R s m args below meth c H1 locs1 cells slots Q (F0 m (pc + 3) ls rest)) : W p l e R s m args below meth c H locs cells slots Q (F0 m pc ls (.int n :: .int dp :: .ref a :: .int sp :: .ref a0 :: rest)) := by
  obtain ⟨h1, h2⟩ := cpI_some hc
  obtain ⟨k1, k2, k3, k4, k5⟩ := cpOK_in h1
  subst hw
  refine va_copyi hx hb hml hown hlink hnat hstat hini hE.1 hs.1 hs.2.1 hs.2.2 q0 q1 0 0 ha0 ha1 rfl rfl rfl k1 k2 k3 k4 k5 (fun i _ => rfl) hframes hlocals hdg (fun H1 locs1 hP hD hS => ?_)
  rw [h2] at hP hD
  exact kk H1 locs1 ⟨hP, hD, hS⟩
theorem sx_copyl {p : Program} {l : Launch} {e : Env} {R : Room} {s : State} {m : MethodId} {args : Array Value} {below : List Frame} {meth : Method} {c : Code} {H : Heap} {locs : List Loc} {cells slots : Nat} {Q : State → Prop} {cc : ByteArray} {pc : Nat} {ls : Array Slot} {rest : List Value} {A : Nat → Prop} {G : GT} {ws ws' : va_W} {a a0 n0 n1 : Nat} (hx : p.tables.exec = Jvm.exec) (hb : c.code = cc) (hml : c.maxLocals = ls.size) {own : String} {index : Nat} (hown : s.vm.findClass own = some m.cls) (hlink : (Cond.methodLink own index arraycopyName).before args s = true) (hnat : (Cond.native arraycopyName).before args s = true) (hstat : (Cond.static arraycopyName).before args s = true) (hini : (Cond.initialized "java/lang/System").before args s = true) (hE : EV G A s s.heap) (hs : SI G A s H locs ws) (q0 q1 : Nat) {f : Fin n0 → Int64} {g g2 : Fin n1 → Int64} (ha0 : ws[q0]? = some (a0, .inl (G.2.1 1, n0, .inr (.inl (exL f))))) (ha1 : ws[q1]? = some (a, .inl (G.2.1 1, n1, .inr (.inl (exL g))))) {sp dp n : Int32} (hc : cpL (n0 := n0) (exL f) g sp dp n = some g2) (hw : ws.set q1 (a, .inl (G.2.1 1, n1, .inr (.inl (exL g2)))) = ws') (hframes : 1 ≤ R.frames) (hlocals : (rest.map fun v => v.category).sum + (nativeFrameWords "java/lang/System" "arraycopy" 5 + 11) ≤ R.locals) (hdg : decode cc pc = .ok (.invokestatic index, 3))
    (kk : ∀ (H1 : Heap) (locs1 : List Loc), SI G A s H1 locs1 ws' → W p l e R s m args below meth c H1 locs1 cells slots Q (F0 m (pc + 3) ls rest)) : W p l e R s m args below meth c H locs cells slots Q (F0 m pc ls (.int n :: .int dp :: .ref a :: .int sp :: .ref a0 :: rest)) := by
  obtain ⟨h1, h2⟩ := cpL_some hc
  obtain ⟨k1, k2, k3, k4, k5⟩ := cpOK_in h1
  subst hw
  refine va_copyl hx hb hml hown hlink hnat hstat hini hE.1 hs.1 hs.2.1 hs.2.2 q0 q1 1 1 ha0 ha1 rfl rfl rfl k1 k2 k3 k4 k5 (fun i _ => rfl) hframes hlocals hdg (fun H1 locs1 hP hD hS => ?_)
  rw [h2] at hP hD
  exact kk H1 locs1 ⟨hP, hD, hS⟩
theorem sx_copyt {p : Program} {l : Launch} {e : Env} {R : Room} {s : State} {m : MethodId} {args : Array Value} {below : List Frame} {meth : Method} {c : Code} {H : Heap} {locs : List Loc} {cells slots : Nat} {Q : State → Prop} {cc : ByteArray} {pc : Nat} {ls : Array Slot} {rest : List Value} {A : Nat → Prop} {G : GT} {ws ws' : va_W} {a n1 : Nat} (hx : p.tables.exec = Jvm.exec) (hb : c.code = cc) (hml : c.maxLocals = ls.size) {own : String} {index : Nat} (hown : s.vm.findClass own = some m.cls) (hlink : (Cond.methodLink own index arraycopyName).before args s = true) (hnat : (Cond.native arraycopyName).before args s = true) (hstat : (Cond.static arraycopyName).before args s = true) (hini : (Cond.initialized "java/lang/System").before args s = true) (hE : EV G A s s.heap) (hs : SI G A s H locs ws) (k : Nat) (hk : k < 5) {n0 : Nat} (hn0 : (sA_v k).length = n0) (q1 : Nat) {g g2 : Fin n1 → Int32} (ha1 : ws[q1]? = some (a, .inl (G.2.1 0, n1, .inl (exI g)))) {sp dp n : Int32} (hc : cpI (n0 := n0) (exI (sAf k)) g sp dp n = some g2) (hw : ws.set q1 (a, .inl (G.2.1 0, n1, .inl (exI g2))) = ws') (hframes : 1 ≤ R.frames) (hlocals : (rest.map fun v => v.category).sum + (nativeFrameWords "java/lang/System" "arraycopy" 5 + 11) ≤ R.locals) (hdg : decode cc pc = .ok (.invokestatic index, 3))
    (kk : ∀ (H1 : Heap) (locs1 : List Loc), SI G A s H1 locs1 ws' → W p l e R s m args below meth c H1 locs1 cells slots Q (F0 m (pc + 3) ls rest)) : W p l e R s m args below meth c H locs cells slots Q (F0 m pc ls (.int n :: .int dp :: .ref a :: .int sp :: .ref (G.2.2.1 k) :: rest)) := by
  obtain ⟨h01, h02⟩ := cpI_some hc
  obtain ⟨h1, h2, h3, h4, h5⟩ := cpOK_in h01
  subst hw
  subst hn0
  obtain ⟨hP, hD, hS⟩ := hs
  have nn : ∀ z : Int32, ¬ z < 0 → z.toInt = (z.toNatClampNeg : Int) := by
    intro z hz
    have hz0 : (0 : Int) ≤ z.toInt := by
      have := Int32.not_lt.mp hz
      simpa using Int32.le_iff_toInt_le.mp this
    show z.toInt = ((z.toInt.toNat : Nat) : Int)
    omega
  intro T hT X
  obtain ⟨scr, hs1, hs2, hs3, hs4, -, hs5, hs7⟩ := (hE.2.2.1 k hk).2
  have hs5 : ∀ j : Nat, j < (sA_v k).length → scr.slots[j]? = some (.int (exI (sAf k) j)) := fun j hj => by
    rw [hs5 j hj]
    simp [exI, sAf, hj]
  have hc0 : H[G.2.2.1 k]? = some scr := by rw [hS.2.1 _ (Array.getElem?_eq_some_iff.mp hs1).1 hs7]; exact hs1
  have hc1 : H[a]? = some (vp_cell (G.2.1 0) (n1, .inl (exI g))) := hP q1 _ ha1
  obtain ⟨hs6, k0, hk0, cm0, hkk0⟩ := hs2
  obtain ⟨-, k1, hk1, cm1, hkk1⟩ := (hE.1.2 0 _ rfl).1 n1 (fun j => .int (exI g j))
  obtain ⟨vm', X', step⟩ := X.arraycopy hx hown hlink hnat hstat hini (src := G.2.2.1 k) (dst := a) (cs := scr) (cd := vp_cell (G.2.1 0) (n1, .inl (exI g))) (srcPos := sp) (destPos := dp) (n := n) (by rw [hT]; exact hc0) (by rw [hT]; exact hc1)
    hs6 (fun _ h => by cases h) hs3 (fun h => by cases h) hk0 hk1 hkk0 hkk1 (by simp [refKind]) h1 h2 h3
    (by rw [nn sp h1, nn n h3]; omega)
    (by rw [nn dp h2, nn n h3]; show ¬ _ > ((arrV (G.2.1 0) n1 (fun j => .int (exI g j))).slots.size : Int); rw [arrV_size]; omega)
    (fun vm₁ _ i hi => by
      have e : scr.slots.getD (sp.toNatClampNeg + i) .null = .int (exI (sAf k) (sp.toNatClampNeg + i)) := by
        rw [Array.getD_eq_getD_getElem?, hs5 _ (by omega)]
        rfl
      refine ⟨?_, ?_⟩
      · rw [e]
        rfl
      · rw [e]
        exact trivial)
    (g := F0 m pc ls (.int n :: .int dp :: .ref a :: .int sp :: .ref (G.2.2.1 k) :: rest)) rfl (by rw [hml]) (rest := rest) rfl (by rw [hb]; exact hdg) hframes (by show 2 * 0 + _ + _ ≤ _; omega)
  have e1 : copied scr (vp_cell (G.2.1 0) (n1, .inl (exI g))) sp dp n = vp_cell (G.2.1 0) (n1, .inl (exI g2)) := by
    rw [← h02]
    exact va_copiedX (fun z => .int z) scr (G.2.1 0) (exI (sAf k)) (exI g) hs5 h4
  rw [e1] at X' step
  have hl : a < H.size := (Array.getElem?_eq_some_iff.mp hc1).1
  have hheap : ((T.setVm vm').setCell a (vp_cell (G.2.1 0) (n1, .inl (exI g2)))).heap = H.setIfInBounds a (vp_cell (G.2.1 0) (n1, .inl (exI g2))) := by rw [← hT]; rfl
  have oq : ∀ q : Nat, q ≠ a → (H.setIfInBounds a (vp_cell (G.2.1 0) (n1, .inl (exI g2))))[q]? = H[q]? := fun q hq => by simp [Array.getElem?_setIfInBounds, Ne.symm hq]
  obtain ⟨t, a1, b1⟩ := kk _ _ ⟨hP.set hD ha1 (show (H.setIfInBounds a _)[a]? = some _ by simp [Array.getElem?_setIfInBounds, hl]) oq, hD.set ha1, by simp; exact hS.1, fun q g1 g2 => by
      rw [oq q (fun e => g2 (by rw [e]; exact hD.2 q1 _ ha1))]
      exact hS.2.1 q g1 g2, fun q hq => by
      rcases List.mem_append.mp hq with h | h
      · exact hS.2.2 q h
      · obtain ⟨z, -, hz⟩ := List.mem_map.mp h
        rw [← hz]
        exact hD.2 q1 _ ha1⟩ _ hheap X'
  exact ⟨t, step t a1, b1⟩
theorem sw_out {x : Int32} {lo hi : Int} (h : ∀ z : Int, lo ≤ z → z ≤ hi → x.toInt ≠ z) : x.toInt < lo ∨ hi < x.toInt := by
  by_cases h1 : x.toInt < lo
  · exact Or.inl h1
  · by_cases h2 : hi < x.toInt
    · exact Or.inr h2
    · exact absurd rfl (h x.toInt (by omega) (by omega))

theorem g16 : Cond.selects RX2 yX2_setShip yX2_setShip ∈ GW := gw_in (List.mem_of_getElem? (i := 16) (by decide +kernel)) (by decide +kernel)
theorem g26 : Cond.selects RX2 yX2_ofShip yX2_ofShip ∈ GW := gw_in (List.mem_of_getElem? (i := 26) (by decide +kernel)) (by decide +kernel)
theorem g28 : Cond.selects RX2 yX2_copyFrom yX2_copyFrom ∈ GW := gw_in (List.mem_of_getElem? (i := 28) (by decide +kernel)) (by decide +kernel)
theorem g32 : Cond.selects RX2 yX2_weightOf yX2_weightOf ∈ GW := gw_in (List.mem_of_getElem? (i := 32) (by decide +kernel)) (by decide +kernel)
theorem g33 : Cond.selects RX2 yX2_holds yX2_holds ∈ GW := gw_in (List.mem_of_getElem? (i := 33) (by decide +kernel)) (by decide +kernel)
theorem g35 : Cond.selects RX2 yX2_roundOf yX2_roundOf ∈ GW := gw_in (List.mem_of_getElem? (i := 35) (by decide +kernel)) (by decide +kernel)
theorem g36 : Cond.selects RX2 yX2_ofClaim yX2_ofClaim ∈ GW := gw_in (List.mem_of_getElem? (i := 36) (by decide +kernel)) (by decide +kernel)
theorem g40 : Cond.selects RX1 yX1_weigh yX1_weigh ∈ GW := gw_in (List.mem_of_getElem? (i := 40) (by decide +kernel)) (by decide +kernel)
theorem g41 : Cond.selects RX1 yX1_oweClaims yX1_oweClaims ∈ GW := gw_in (List.mem_of_getElem? (i := 41) (by decide +kernel)) (by decide +kernel)
theorem g42 : Cond.selects RX1 yX1_debt yX1_debt ∈ GW := gw_in (List.mem_of_getElem? (i := 42) (by decide +kernel)) (by decide +kernel)
theorem g43 : Cond.selects RX2 yX2_isGoods yX2_isGoods ∈ GW := gw_in (List.mem_of_getElem? (i := 43) (by decide +kernel)) (by decide +kernel)
theorem g44 : Cond.selects RX1 yX1_partOf yX1_partOf ∈ GW := gw_in (List.mem_of_getElem? (i := 44) (by decide +kernel)) (by decide +kernel)
theorem g45 : Cond.selects RX1 yX1_oweBack yX1_oweBack ∈ GW := gw_in (List.mem_of_getElem? (i := 45) (by decide +kernel)) (by decide +kernel)
theorem g46 : Cond.selects RX1 yX1_backFor yX1_backFor ∈ GW := gw_in (List.mem_of_getElem? (i := 46) (by decide +kernel)) (by decide +kernel)
theorem g47 : Cond.selects RX1 yX1_owedToClaim yX1_owedToClaim ∈ GW := gw_in (List.mem_of_getElem? (i := 47) (by decide +kernel)) (by decide +kernel)
theorem g48 : Cond.selects RX1 yX1_oweShips yX1_oweShips ∈ GW := gw_in (List.mem_of_getElem? (i := 48) (by decide +kernel)) (by decide +kernel)
theorem g49 : Cond.selects RX1 yX1_crossDebt yX1_crossDebt ∈ GW := gw_in (List.mem_of_getElem? (i := 49) (by decide +kernel)) (by decide +kernel)
theorem g50 : Cond.selects RX1 yX1_hullDebt yX1_hullDebt ∈ GW := gw_in (List.mem_of_getElem? (i := 50) (by decide +kernel)) (by decide +kernel)
theorem g51 : Cond.selects RX1 yX1_backTo yX1_backTo ∈ GW := gw_in (List.mem_of_getElem? (i := 51) (by decide +kernel)) (by decide +kernel)
theorem g52 : Cond.selects RX1 yX1_pay yX1_pay ∈ GW := gw_in (List.mem_of_getElem? (i := 52) (by decide +kernel)) (by decide +kernel)
theorem g53 : Cond.selects RX1 yX1_payOutOf yX1_payOutOf ∈ GW := gw_in (List.mem_of_getElem? (i := 53) (by decide +kernel)) (by decide +kernel)
theorem g54 : Cond.selects RX2 yX2_fundOf yX2_fundOf ∈ GW := gw_in (List.mem_of_getElem? (i := 54) (by decide +kernel)) (by decide +kernel)
theorem g55 : Cond.selects RX2 yX2_fundTons yX2_fundTons ∈ GW := gw_in (List.mem_of_getElem? (i := 55) (by decide +kernel)) (by decide +kernel)
theorem g56 : Cond.selects RX1 yX1_findLacks yX1_findLacks ∈ GW := gw_in (List.mem_of_getElem? (i := 56) (by decide +kernel)) (by decide +kernel)
theorem g57 : Cond.selects RX1 yX1_takesPart yX1_takesPart ∈ GW := gw_in (List.mem_of_getElem? (i := 57) (by decide +kernel)) (by decide +kernel)
theorem g58 : Cond.selects RX1 yX1_shareScarce yX1_shareScarce ∈ GW := gw_in (List.mem_of_getElem? (i := 58) (by decide +kernel)) (by decide +kernel)
theorem g59 : Cond.selects RX1 yX1_payLacks yX1_payLacks ∈ GW := gw_in (List.mem_of_getElem? (i := 59) (by decide +kernel)) (by decide +kernel)
theorem g61 : Cond.selects RX1 yX1_backForClaim yX1_backForClaim ∈ GW := gw_in (List.mem_of_getElem? (i := 61) (by decide +kernel)) (by decide +kernel)
theorem g62 : Cond.selects RX1 yX1_paidToClaim yX1_paidToClaim ∈ GW := gw_in (List.mem_of_getElem? (i := 62) (by decide +kernel)) (by decide +kernel)
theorem g63 : Cond.selects RX1 yX1_paidToShip yX1_paidToShip ∈ GW := gw_in (List.mem_of_getElem? (i := 63) (by decide +kernel)) (by decide +kernel)
theorem g64 : Cond.selects RX1 yX1_owedByShip yX1_owedByShip ∈ GW := gw_in (List.mem_of_getElem? (i := 64) (by decide +kernel)) (by decide +kernel)
theorem g65 : Cond.selects RX1 yX1_paidByShip yX1_paidByShip ∈ GW := gw_in (List.mem_of_getElem? (i := 65) (by decide +kernel)) (by decide +kernel)
theorem g67 : Cond.selects RX1 yX1_paidToClaimByAll yX1_paidToClaimByAll ∈ GW := gw_in (List.mem_of_getElem? (i := 67) (by decide +kernel)) (by decide +kernel)
theorem g68 : Cond.selects RX1 yX1_givenBack yX1_givenBack ∈ GW := gw_in (List.mem_of_getElem? (i := 68) (by decide +kernel)) (by decide +kernel)
theorem g70 : Cond.selects RX1 yX1_paidToPersons yX1_paidToPersons ∈ GW := gw_in (List.mem_of_getElem? (i := 70) (by decide +kernel)) (by decide +kernel)
theorem g75 : Cond.selects RX1 yX1_owedToPersons yX1_owedToPersons ∈ GW := gw_in (List.mem_of_getElem? (i := 75) (by decide +kernel)) (by decide +kernel)
theorem g126 : Cond.initialized RX2 ∈ GW := gw_in (List.mem_of_getElem? (i := 126) (by decide +kernel)) (by decide +kernel)
theorem g127 : Cond.initialized RX1 ∈ GW := gw_in (List.mem_of_getElem? (i := 127) (by decide +kernel)) (by decide +kernel)
theorem g129 : Cond.initialized "java/lang/System" ∈ GW := gw_in (List.mem_of_getElem? (i := 129) (by decide +kernel)) (by decide +kernel)
theorem g132 : Cond.initialized RJ9 ∈ GW := gw_in (List.mem_of_getElem? (i := 132) (by decide +kernel)) (by decide +kernel)
theorem g133 : Cond.initialized RJ7 ∈ GW := gw_in (List.mem_of_getElem? (i := 133) (by decide +kernel)) (by decide +kernel)
theorem g158 : Cond.fieldLink RX2 9 "BothToBlame$Told" "ships" "I" ∈ GW := gw_in (List.mem_of_getElem? (i := 158) (by decide +kernel)) (by decide +kernel)
theorem g159 : Cond.fieldLinkNest RX1 61 "BothToBlame$Told" "ships" "I" "BothToBlame" ∈ NW := nw_in (List.mem_of_getElem? (i := 159) (by decide +kernel)) (by decide +kernel)
theorem g162 : Cond.fieldLink RX2 15 "BothToBlame$Told" "claims" "I" ∈ GW := gw_in (List.mem_of_getElem? (i := 162) (by decide +kernel)) (by decide +kernel)
theorem g164 : Cond.fieldLinkNest RX1 76 "BothToBlame$Told" "claims" "I" "BothToBlame" ∈ NW := nw_in (List.mem_of_getElem? (i := 164) (by decide +kernel)) (by decide +kernel)
theorem g166 : Cond.fieldLink RX2 18 "BothToBlame$Told" "names" "[J" ∈ GW := gw_in (List.mem_of_getElem? (i := 166) (by decide +kernel)) (by decide +kernel)
theorem g168 : Cond.fieldLink RX2 22 "BothToBlame$Told" "shipRows" "[I" ∈ GW := gw_in (List.mem_of_getElem? (i := 168) (by decide +kernel)) (by decide +kernel)
theorem g169 : Cond.fieldLink RX2 26 "BothToBlame$Told" "claimRows" "[I" ∈ GW := gw_in (List.mem_of_getElem? (i := 169) (by decide +kernel)) (by decide +kernel)
theorem g170 : Cond.fieldLink RX2 29 "BothToBlame$Told" "laws" "[I" ∈ GW := gw_in (List.mem_of_getElem? (i := 170) (by decide +kernel)) (by decide +kernel)
theorem g237 : Cond.fieldLink RX1 12 "BothToBlame$Reckoning" "told" "LBothToBlame$Told;" ∈ GW := gw_in (List.mem_of_getElem? (i := 237) (by decide +kernel)) (by decide +kernel)
theorem g239 : Cond.fieldLink RX1 18 "BothToBlame$Reckoning" "weight" "[I" ∈ GW := gw_in (List.mem_of_getElem? (i := 239) (by decide +kernel)) (by decide +kernel)
theorem g240 : Cond.fieldLink RX1 22 "BothToBlame$Reckoning" "backs" "[J" ∈ GW := gw_in (List.mem_of_getElem? (i := 240) (by decide +kernel)) (by decide +kernel)
theorem g241 : Cond.fieldLink RX1 26 "BothToBlame$Reckoning" "owed" "[J" ∈ GW := gw_in (List.mem_of_getElem? (i := 241) (by decide +kernel)) (by decide +kernel)
theorem g242 : Cond.fieldLink RX1 29 "BothToBlame$Reckoning" "paid" "[J" ∈ GW := gw_in (List.mem_of_getElem? (i := 242) (by decide +kernel)) (by decide +kernel)
theorem g243 : Cond.fieldLink RX1 32 "BothToBlame$Reckoning" "lacked" "[J" ∈ GW := gw_in (List.mem_of_getElem? (i := 243) (by decide +kernel)) (by decide +kernel)
theorem g244 : Cond.fieldLink RX1 35 "BothToBlame$Reckoning" "weights" "I" ∈ GW := gw_in (List.mem_of_getElem? (i := 244) (by decide +kernel)) (by decide +kernel)
theorem g329 : Cond.fieldLinkNest RX2 32 "BothToBlame" "LAW_UNTOLD" "[I" "BothToBlame" ∈ NW := nw_in (List.mem_of_getElem? (i := 329) (by decide +kernel)) (by decide +kernel)
theorem g331 : Cond.methodLink RX2 35 arraycopyName ∈ GW := gw_in (List.mem_of_getElem? (i := 331) (by decide +kernel)) (by decide +kernel)
theorem g332 : Cond.static arraycopyName ∈ GW := gw_in (List.mem_of_getElem? (i := 332) (by decide +kernel)) (by decide +kernel)
theorem g333 : Cond.native arraycopyName ∈ GW := gw_in (List.mem_of_getElem? (i := 333) (by decide +kernel)) (by decide +kernel)
theorem g386 : Cond.methodLink RX2 45 yX2_setShip ∈ GW := gw_in (List.mem_of_getElem? (i := 386) (by decide +kernel)) (by decide +kernel)
theorem g388 : Cond.instanceMethod yX2_setShip ∈ GW := gw_in (List.mem_of_getElem? (i := 388) (by decide +kernel)) (by decide +kernel)
theorem g389 : Cond.code yX2_setShip cX2_setShip 4 (none) ∈ GW := gw_in (List.mem_of_getElem? (i := 389) (by decide +kernel)) (by decide +kernel)
theorem g451 : Cond.methodLink RX2 49 yX2_ofShip ∈ GW := gw_in (List.mem_of_getElem? (i := 451) (by decide +kernel)) (by decide +kernel)
theorem g453 : Cond.instanceMethod yX2_ofShip ∈ GW := gw_in (List.mem_of_getElem? (i := 453) (by decide +kernel)) (by decide +kernel)
theorem g454 : Cond.code yX2_ofShip cX2_ofShip 3 (some .int) ∈ GW := gw_in (List.mem_of_getElem? (i := 454) (by decide +kernel)) (by decide +kernel)
theorem g461 : Cond.instanceMethod yX2_copyFrom ∈ GW := gw_in (List.mem_of_getElem? (i := 461) (by decide +kernel)) (by decide +kernel)
theorem g462 : Cond.code yX2_copyFrom cX2_copyFrom 2 (none) ∈ GW := gw_in (List.mem_of_getElem? (i := 462) (by decide +kernel)) (by decide +kernel)
theorem g493 : Cond.instanceMethod yX2_weightOf ∈ GW := gw_in (List.mem_of_getElem? (i := 493) (by decide +kernel)) (by decide +kernel)
theorem g494 : Cond.code yX2_weightOf cX2_weightOf 3 (some .int) ∈ GW := gw_in (List.mem_of_getElem? (i := 494) (by decide +kernel)) (by decide +kernel)
theorem g495 : Cond.methodLink RX2 52 yX2_holds ∈ GW := gw_in (List.mem_of_getElem? (i := 495) (by decide +kernel)) (by decide +kernel)
theorem g497 : Cond.instanceMethod yX2_holds ∈ GW := gw_in (List.mem_of_getElem? (i := 497) (by decide +kernel)) (by decide +kernel)
theorem g498 : Cond.code yX2_holds cX2_holds 2 (some .boolean) ∈ GW := gw_in (List.mem_of_getElem? (i := 498) (by decide +kernel)) (by decide +kernel)
theorem g499 : Cond.methodLink RX2 56 Lib.Math.min.name ∈ GW := gw_in (List.mem_of_getElem? (i := 499) (by decide +kernel)) (by decide +kernel)
theorem g500 : Cond.static Lib.Math.min.name ∈ GW := gw_in (List.mem_of_getElem? (i := 500) (by decide +kernel)) (by decide +kernel)
theorem g501 : Cond.code Lib.Math.min.name Lib.Math.min.code 2 (some .int) ∈ GW := gw_in (List.mem_of_getElem? (i := 501) (by decide +kernel)) (by decide +kernel)
theorem g513 : Cond.instanceMethod yX2_roundOf ∈ GW := gw_in (List.mem_of_getElem? (i := 513) (by decide +kernel)) (by decide +kernel)
theorem g514 : Cond.code yX2_roundOf cX2_roundOf 3 (some .int) ∈ GW := gw_in (List.mem_of_getElem? (i := 514) (by decide +kernel)) (by decide +kernel)
theorem g515 : Cond.methodLink RX2 41 yX2_ofClaim ∈ GW := gw_in (List.mem_of_getElem? (i := 515) (by decide +kernel)) (by decide +kernel)
theorem g517 : Cond.instanceMethod yX2_ofClaim ∈ GW := gw_in (List.mem_of_getElem? (i := 517) (by decide +kernel)) (by decide +kernel)
theorem g518 : Cond.code yX2_ofClaim cX2_ofClaim 3 (some .int) ∈ GW := gw_in (List.mem_of_getElem? (i := 518) (by decide +kernel)) (by decide +kernel)
theorem g533 : Cond.methodLinkNest RX1 39 yX2_copyFrom "BothToBlame" ∈ NW := nw_in (List.mem_of_getElem? (i := 533) (by decide +kernel)) (by decide +kernel)
theorem g538 : Cond.methodLink RX1 43 yJ7_fill_d0a16 ∈ GW := gw_in (List.mem_of_getElem? (i := 538) (by decide +kernel)) (by decide +kernel)
theorem g539 : Cond.static yJ7_fill_d0a16 ∈ GW := gw_in (List.mem_of_getElem? (i := 539) (by decide +kernel)) (by decide +kernel)
theorem g540 : Cond.code yJ7_fill_d0a16 cJ7_fill_d0a16 5 (none) ∈ GW := gw_in (List.mem_of_getElem? (i := 540) (by decide +kernel)) (by decide +kernel)
theorem g541 : Cond.methodLink RX1 49 yX1_weigh ∈ GW := gw_in (List.mem_of_getElem? (i := 541) (by decide +kernel)) (by decide +kernel)
theorem g543 : Cond.instanceMethod yX1_weigh ∈ GW := gw_in (List.mem_of_getElem? (i := 543) (by decide +kernel)) (by decide +kernel)
theorem g544 : Cond.code yX1_weigh cX1_weigh 2 (none) ∈ GW := gw_in (List.mem_of_getElem? (i := 544) (by decide +kernel)) (by decide +kernel)
theorem g545 : Cond.methodLinkNest RX1 68 yX2_weightOf "BothToBlame" ∈ NW := nw_in (List.mem_of_getElem? (i := 545) (by decide +kernel)) (by decide +kernel)
theorem g546 : Cond.methodLink RX1 52 yX1_oweClaims ∈ GW := gw_in (List.mem_of_getElem? (i := 546) (by decide +kernel)) (by decide +kernel)
theorem g548 : Cond.instanceMethod yX1_oweClaims ∈ GW := gw_in (List.mem_of_getElem? (i := 548) (by decide +kernel)) (by decide +kernel)
theorem g549 : Cond.code yX1_oweClaims cX1_oweClaims 3 (none) ∈ GW := gw_in (List.mem_of_getElem? (i := 549) (by decide +kernel)) (by decide +kernel)
theorem g550 : Cond.methodLink RX1 79 yX1_debt ∈ GW := gw_in (List.mem_of_getElem? (i := 550) (by decide +kernel)) (by decide +kernel)
theorem g552 : Cond.instanceMethod yX1_debt ∈ GW := gw_in (List.mem_of_getElem? (i := 552) (by decide +kernel)) (by decide +kernel)
theorem g553 : Cond.code yX1_debt cX1_debt 6 (some .long) ∈ GW := gw_in (List.mem_of_getElem? (i := 553) (by decide +kernel)) (by decide +kernel)
theorem g554 : Cond.methodLinkNest RX1 83 yX2_roundOf "BothToBlame" ∈ NW := nw_in (List.mem_of_getElem? (i := 554) (by decide +kernel)) (by decide +kernel)
theorem g555 : Cond.methodLinkNest RX1 86 yX2_ofClaim "BothToBlame" ∈ NW := nw_in (List.mem_of_getElem? (i := 555) (by decide +kernel)) (by decide +kernel)
theorem g556 : Cond.methodLinkNest RX1 90 yX2_isGoods "BothToBlame" ∈ NW := nw_in (List.mem_of_getElem? (i := 556) (by decide +kernel)) (by decide +kernel)
theorem g558 : Cond.instanceMethod yX2_isGoods ∈ GW := gw_in (List.mem_of_getElem? (i := 558) (by decide +kernel)) (by decide +kernel)
theorem g559 : Cond.code yX2_isGoods cX2_isGoods 2 (some .boolean) ∈ GW := gw_in (List.mem_of_getElem? (i := 559) (by decide +kernel)) (by decide +kernel)
theorem g560 : Cond.methodLink RX1 94 yX1_partOf ∈ GW := gw_in (List.mem_of_getElem? (i := 560) (by decide +kernel)) (by decide +kernel)
theorem g562 : Cond.instanceMethod yX1_partOf ∈ GW := gw_in (List.mem_of_getElem? (i := 562) (by decide +kernel)) (by decide +kernel)
theorem g563 : Cond.code yX1_partOf cX1_partOf 4 (some .long) ∈ GW := gw_in (List.mem_of_getElem? (i := 563) (by decide +kernel)) (by decide +kernel)
theorem g564 : Cond.methodLink RX1 72 yX1_cut ∈ GW := gw_in (List.mem_of_getElem? (i := 564) (by decide +kernel)) (by decide +kernel)
theorem g565 : Cond.static yX1_cut ∈ GW := gw_in (List.mem_of_getElem? (i := 565) (by decide +kernel)) (by decide +kernel)
theorem g566 : Cond.code yX1_cut cX1_cut 4 (some .long) ∈ GW := gw_in (List.mem_of_getElem? (i := 566) (by decide +kernel)) (by decide +kernel)
theorem g567 : Cond.methodLinkNest RX1 98 yX2_holds "BothToBlame" ∈ NW := nw_in (List.mem_of_getElem? (i := 567) (by decide +kernel)) (by decide +kernel)
theorem g568 : Cond.methodLink RX1 55 yX1_oweBack ∈ GW := gw_in (List.mem_of_getElem? (i := 568) (by decide +kernel)) (by decide +kernel)
theorem g570 : Cond.instanceMethod yX1_oweBack ∈ GW := gw_in (List.mem_of_getElem? (i := 570) (by decide +kernel)) (by decide +kernel)
theorem g571 : Cond.code yX1_oweBack cX1_oweBack 3 (none) ∈ GW := gw_in (List.mem_of_getElem? (i := 571) (by decide +kernel)) (by decide +kernel)
theorem g572 : Cond.methodLink RX1 104 yX1_backFor ∈ GW := gw_in (List.mem_of_getElem? (i := 572) (by decide +kernel)) (by decide +kernel)
theorem g574 : Cond.instanceMethod yX1_backFor ∈ GW := gw_in (List.mem_of_getElem? (i := 574) (by decide +kernel)) (by decide +kernel)
theorem g575 : Cond.code yX1_backFor cX1_backFor 4 (some .long) ∈ GW := gw_in (List.mem_of_getElem? (i := 575) (by decide +kernel)) (by decide +kernel)
theorem g576 : Cond.methodLink RX1 101 yX1_owedToClaim ∈ GW := gw_in (List.mem_of_getElem? (i := 576) (by decide +kernel)) (by decide +kernel)
theorem g578 : Cond.instanceMethod yX1_owedToClaim ∈ GW := gw_in (List.mem_of_getElem? (i := 578) (by decide +kernel)) (by decide +kernel)
theorem g579 : Cond.code yX1_owedToClaim cX1_owedToClaim 3 (some .long) ∈ GW := gw_in (List.mem_of_getElem? (i := 579) (by decide +kernel)) (by decide +kernel)
theorem g580 : Cond.methodLink RX1 58 yX1_oweShips ∈ GW := gw_in (List.mem_of_getElem? (i := 580) (by decide +kernel)) (by decide +kernel)
theorem g582 : Cond.instanceMethod yX1_oweShips ∈ GW := gw_in (List.mem_of_getElem? (i := 582) (by decide +kernel)) (by decide +kernel)
theorem g583 : Cond.code yX1_oweShips cX1_oweShips 7 (none) ∈ GW := gw_in (List.mem_of_getElem? (i := 583) (by decide +kernel)) (by decide +kernel)
theorem g584 : Cond.methodLink RX1 107 yX1_crossDebt ∈ GW := gw_in (List.mem_of_getElem? (i := 584) (by decide +kernel)) (by decide +kernel)
theorem g586 : Cond.instanceMethod yX1_crossDebt ∈ GW := gw_in (List.mem_of_getElem? (i := 586) (by decide +kernel)) (by decide +kernel)
theorem g587 : Cond.code yX1_crossDebt cX1_crossDebt 3 (some .long) ∈ GW := gw_in (List.mem_of_getElem? (i := 587) (by decide +kernel)) (by decide +kernel)
theorem g588 : Cond.methodLink RX1 118 yX1_hullDebt ∈ GW := gw_in (List.mem_of_getElem? (i := 588) (by decide +kernel)) (by decide +kernel)
theorem g590 : Cond.instanceMethod yX1_hullDebt ∈ GW := gw_in (List.mem_of_getElem? (i := 590) (by decide +kernel)) (by decide +kernel)
theorem g591 : Cond.code yX1_hullDebt cX1_hullDebt 3 (some .long) ∈ GW := gw_in (List.mem_of_getElem? (i := 591) (by decide +kernel)) (by decide +kernel)
theorem g592 : Cond.methodLinkNest RX1 115 yX2_ofShip "BothToBlame" ∈ NW := nw_in (List.mem_of_getElem? (i := 592) (by decide +kernel)) (by decide +kernel)
theorem g593 : Cond.methodLink RX1 121 yX1_backTo ∈ GW := gw_in (List.mem_of_getElem? (i := 593) (by decide +kernel)) (by decide +kernel)
theorem g595 : Cond.instanceMethod yX1_backTo ∈ GW := gw_in (List.mem_of_getElem? (i := 595) (by decide +kernel)) (by decide +kernel)
theorem g596 : Cond.code yX1_backTo cX1_backTo 3 (some .long) ∈ GW := gw_in (List.mem_of_getElem? (i := 596) (by decide +kernel)) (by decide +kernel)
theorem g597 : Cond.methodLink RX1 110 Lib.MathLoose.min_long.x ∈ GW := gw_in (List.mem_of_getElem? (i := 597) (by decide +kernel)) (by decide +kernel)
theorem g598 : Cond.static Lib.MathLoose.min_long.x ∈ GW := gw_in (List.mem_of_getElem? (i := 598) (by decide +kernel)) (by decide +kernel)
theorem g599 : Cond.code Lib.MathLoose.min_long.x Lib.MathLoose.min_long.code 4 (some .long) ∈ GW := gw_in (List.mem_of_getElem? (i := 599) (by decide +kernel)) (by decide +kernel)
theorem g600 : Cond.methodLink RX1 64 yX1_pay ∈ GW := gw_in (List.mem_of_getElem? (i := 600) (by decide +kernel)) (by decide +kernel)
theorem g602 : Cond.instanceMethod yX1_pay ∈ GW := gw_in (List.mem_of_getElem? (i := 602) (by decide +kernel)) (by decide +kernel)
theorem g603 : Cond.code yX1_pay cX1_pay 2 (none) ∈ GW := gw_in (List.mem_of_getElem? (i := 603) (by decide +kernel)) (by decide +kernel)
theorem g604 : Cond.methodLink RX1 124 arraycopyName ∈ GW := gw_in (List.mem_of_getElem? (i := 604) (by decide +kernel)) (by decide +kernel)
theorem g605 : Cond.methodLink RX1 130 yX1_payOutOf ∈ GW := gw_in (List.mem_of_getElem? (i := 605) (by decide +kernel)) (by decide +kernel)
theorem g607 : Cond.instanceMethod yX1_payOutOf ∈ GW := gw_in (List.mem_of_getElem? (i := 607) (by decide +kernel)) (by decide +kernel)
theorem g608 : Cond.code yX1_payOutOf cX1_payOutOf 8 (none) ∈ GW := gw_in (List.mem_of_getElem? (i := 608) (by decide +kernel)) (by decide +kernel)
theorem g609 : Cond.methodLinkNest RX1 134 yX2_fundOf "BothToBlame" ∈ NW := nw_in (List.mem_of_getElem? (i := 609) (by decide +kernel)) (by decide +kernel)
theorem g611 : Cond.instanceMethod yX2_fundOf ∈ GW := gw_in (List.mem_of_getElem? (i := 611) (by decide +kernel)) (by decide +kernel)
theorem g612 : Cond.code yX2_fundOf cX2_fundOf 3 (some .long) ∈ GW := gw_in (List.mem_of_getElem? (i := 612) (by decide +kernel)) (by decide +kernel)
theorem g613 : Cond.methodLink RX2 64 yX2_fundTons ∈ GW := gw_in (List.mem_of_getElem? (i := 613) (by decide +kernel)) (by decide +kernel)
theorem g615 : Cond.instanceMethod yX2_fundTons ∈ GW := gw_in (List.mem_of_getElem? (i := 615) (by decide +kernel)) (by decide +kernel)
theorem g616 : Cond.code yX2_fundTons cX2_fundTons 2 (some .long) ∈ GW := gw_in (List.mem_of_getElem? (i := 616) (by decide +kernel)) (by decide +kernel)
theorem g617 : Cond.methodLink RX2 61 Lib.Math.max.name ∈ GW := gw_in (List.mem_of_getElem? (i := 617) (by decide +kernel)) (by decide +kernel)
theorem g618 : Cond.static Lib.Math.max.name ∈ GW := gw_in (List.mem_of_getElem? (i := 618) (by decide +kernel)) (by decide +kernel)
theorem g619 : Cond.code Lib.Math.max.name Lib.Math.max.code 2 (some .int) ∈ GW := gw_in (List.mem_of_getElem? (i := 619) (by decide +kernel)) (by decide +kernel)
theorem g620 : Cond.constantLong RX2 68 (2000000000) ∈ GW := gw_in (List.mem_of_getElem? (i := 620) (by decide +kernel)) (by decide +kernel)
theorem g621 : Cond.methodLink RX2 70 Lib.MathLoose.min_long.x ∈ GW := gw_in (List.mem_of_getElem? (i := 621) (by decide +kernel)) (by decide +kernel)
theorem g622 : Cond.methodLink RX1 137 yX1_findLacks ∈ GW := gw_in (List.mem_of_getElem? (i := 622) (by decide +kernel)) (by decide +kernel)
theorem g624 : Cond.instanceMethod yX1_findLacks ∈ GW := gw_in (List.mem_of_getElem? (i := 624) (by decide +kernel)) (by decide +kernel)
theorem g625 : Cond.code yX1_findLacks cX1_findLacks 7 (some .long) ∈ GW := gw_in (List.mem_of_getElem? (i := 625) (by decide +kernel)) (by decide +kernel)
theorem g626 : Cond.methodLink RX1 148 yX1_takesPart ∈ GW := gw_in (List.mem_of_getElem? (i := 626) (by decide +kernel)) (by decide +kernel)
theorem g628 : Cond.instanceMethod yX1_takesPart ∈ GW := gw_in (List.mem_of_getElem? (i := 628) (by decide +kernel)) (by decide +kernel)
theorem g629 : Cond.code yX1_takesPart cX1_takesPart 5 (some .boolean) ∈ GW := gw_in (List.mem_of_getElem? (i := 629) (by decide +kernel)) (by decide +kernel)
theorem g630 : Cond.methodLink RX1 141 yX1_shareScarce ∈ GW := gw_in (List.mem_of_getElem? (i := 630) (by decide +kernel)) (by decide +kernel)
theorem g632 : Cond.instanceMethod yX1_shareScarce ∈ GW := gw_in (List.mem_of_getElem? (i := 632) (by decide +kernel)) (by decide +kernel)
theorem g633 : Cond.code yX1_shareScarce cX1_shareScarce 11 (none) ∈ GW := gw_in (List.mem_of_getElem? (i := 633) (by decide +kernel)) (by decide +kernel)
theorem g634 : Cond.methodLink RX1 145 yX1_payLacks ∈ GW := gw_in (List.mem_of_getElem? (i := 634) (by decide +kernel)) (by decide +kernel)
theorem g636 : Cond.instanceMethod yX1_payLacks ∈ GW := gw_in (List.mem_of_getElem? (i := 636) (by decide +kernel)) (by decide +kernel)
theorem g637 : Cond.code yX1_payLacks cX1_payLacks 3 (none) ∈ GW := gw_in (List.mem_of_getElem? (i := 637) (by decide +kernel)) (by decide +kernel)
theorem g661 : Cond.instanceMethod yX1_backForClaim ∈ GW := gw_in (List.mem_of_getElem? (i := 661) (by decide +kernel)) (by decide +kernel)
theorem g662 : Cond.code yX1_backForClaim cX1_backForClaim 5 (some .long) ∈ GW := gw_in (List.mem_of_getElem? (i := 662) (by decide +kernel)) (by decide +kernel)
theorem g674 : Cond.instanceMethod yX1_paidToClaim ∈ GW := gw_in (List.mem_of_getElem? (i := 674) (by decide +kernel)) (by decide +kernel)
theorem g675 : Cond.code yX1_paidToClaim cX1_paidToClaim 3 (some .long) ∈ GW := gw_in (List.mem_of_getElem? (i := 675) (by decide +kernel)) (by decide +kernel)
theorem g682 : Cond.instanceMethod yX1_paidToShip ∈ GW := gw_in (List.mem_of_getElem? (i := 682) (by decide +kernel)) (by decide +kernel)
theorem g683 : Cond.code yX1_paidToShip cX1_paidToShip 3 (some .long) ∈ GW := gw_in (List.mem_of_getElem? (i := 683) (by decide +kernel)) (by decide +kernel)
theorem g690 : Cond.instanceMethod yX1_owedByShip ∈ GW := gw_in (List.mem_of_getElem? (i := 690) (by decide +kernel)) (by decide +kernel)
theorem g691 : Cond.code yX1_owedByShip cX1_owedByShip 2 (some .long) ∈ GW := gw_in (List.mem_of_getElem? (i := 691) (by decide +kernel)) (by decide +kernel)
theorem g692 : Cond.methodLink RX1 152 yX1_rowTogether ∈ GW := gw_in (List.mem_of_getElem? (i := 692) (by decide +kernel)) (by decide +kernel)
theorem g693 : Cond.static yX1_rowTogether ∈ GW := gw_in (List.mem_of_getElem? (i := 693) (by decide +kernel)) (by decide +kernel)
theorem g694 : Cond.code yX1_rowTogether cX1_rowTogether 5 (some .long) ∈ GW := gw_in (List.mem_of_getElem? (i := 694) (by decide +kernel)) (by decide +kernel)
theorem g697 : Cond.instanceMethod yX1_paidByShip ∈ GW := gw_in (List.mem_of_getElem? (i := 697) (by decide +kernel)) (by decide +kernel)
theorem g698 : Cond.code yX1_paidByShip cX1_paidByShip 2 (some .long) ∈ GW := gw_in (List.mem_of_getElem? (i := 698) (by decide +kernel)) (by decide +kernel)
theorem g711 : Cond.methodLink RX1 163 yX1_paidToClaimByAll ∈ GW := gw_in (List.mem_of_getElem? (i := 711) (by decide +kernel)) (by decide +kernel)
theorem g713 : Cond.instanceMethod yX1_paidToClaimByAll ∈ GW := gw_in (List.mem_of_getElem? (i := 713) (by decide +kernel)) (by decide +kernel)
theorem g714 : Cond.code yX1_paidToClaimByAll cX1_paidToClaimByAll 5 (some .long) ∈ GW := gw_in (List.mem_of_getElem? (i := 714) (by decide +kernel)) (by decide +kernel)
theorem g715 : Cond.methodLink RX1 156 yX1_paidToClaim ∈ GW := gw_in (List.mem_of_getElem? (i := 715) (by decide +kernel)) (by decide +kernel)
theorem g716 : Cond.methodLink RX1 166 yX1_givenBack ∈ GW := gw_in (List.mem_of_getElem? (i := 716) (by decide +kernel)) (by decide +kernel)
theorem g718 : Cond.instanceMethod yX1_givenBack ∈ GW := gw_in (List.mem_of_getElem? (i := 718) (by decide +kernel)) (by decide +kernel)
theorem g719 : Cond.code yX1_givenBack cX1_givenBack 2 (some .long) ∈ GW := gw_in (List.mem_of_getElem? (i := 719) (by decide +kernel)) (by decide +kernel)
theorem g720 : Cond.methodLink RX1 159 yX1_backForClaim ∈ GW := gw_in (List.mem_of_getElem? (i := 720) (by decide +kernel)) (by decide +kernel)
theorem g731 : Cond.methodLink RX1 169 yX1_paidByShip ∈ GW := gw_in (List.mem_of_getElem? (i := 731) (by decide +kernel)) (by decide +kernel)
theorem g732 : Cond.methodLink RX1 179 yX1_paidToPersons ∈ GW := gw_in (List.mem_of_getElem? (i := 732) (by decide +kernel)) (by decide +kernel)
theorem g734 : Cond.instanceMethod yX1_paidToPersons ∈ GW := gw_in (List.mem_of_getElem? (i := 734) (by decide +kernel)) (by decide +kernel)
theorem g735 : Cond.code yX1_paidToPersons cX1_paidToPersons 5 (some .long) ∈ GW := gw_in (List.mem_of_getElem? (i := 735) (by decide +kernel)) (by decide +kernel)
theorem g736 : Cond.methodLink RX1 182 yX1_threeQuarters ∈ GW := gw_in (List.mem_of_getElem? (i := 736) (by decide +kernel)) (by decide +kernel)
theorem g737 : Cond.static yX1_threeQuarters ∈ GW := gw_in (List.mem_of_getElem? (i := 737) (by decide +kernel)) (by decide +kernel)
theorem g738 : Cond.code yX1_threeQuarters cX1_threeQuarters 2 (some .long) ∈ GW := gw_in (List.mem_of_getElem? (i := 738) (by decide +kernel)) (by decide +kernel)
theorem g739 : Cond.constantLong RX1 175 (3) ∈ GW := gw_in (List.mem_of_getElem? (i := 739) (by decide +kernel)) (by decide +kernel)
theorem g740 : Cond.constantLong RX1 177 (4) ∈ GW := gw_in (List.mem_of_getElem? (i := 740) (by decide +kernel)) (by decide +kernel)
theorem g754 : Cond.methodLink RX1 172 yX1_paidToShip ∈ GW := gw_in (List.mem_of_getElem? (i := 754) (by decide +kernel)) (by decide +kernel)
theorem g779 : Cond.methodLink RX1 186 yX1_owedToPersons ∈ GW := gw_in (List.mem_of_getElem? (i := 779) (by decide +kernel)) (by decide +kernel)
theorem g781 : Cond.instanceMethod yX1_owedToPersons ∈ GW := gw_in (List.mem_of_getElem? (i := 781) (by decide +kernel)) (by decide +kernel)
theorem g782 : Cond.code yX1_owedToPersons cX1_owedToPersons 5 (some .long) ∈ GW := gw_in (List.mem_of_getElem? (i := 782) (by decide +kernel)) (by decide +kernel)
theorem g783 : Cond.methodLink RX1 189 yX1_owedByShip ∈ GW := gw_in (List.mem_of_getElem? (i := 783) (by decide +kernel)) (by decide +kernel)
theorem g784 : Cond.methodLinkNest RX1 192 yX2_fundTons "BothToBlame" ∈ NW := nw_in (List.mem_of_getElem? (i := 784) (by decide +kernel)) (by decide +kernel)
theorem g817 : Cond.constantLong RX2 73 (48271) ∈ GW := gw_in (List.mem_of_getElem? (i := 817) (by decide +kernel)) (by decide +kernel)
theorem g818 : Cond.constantLong RX2 75 (2147483647) ∈ GW := gw_in (List.mem_of_getElem? (i := 818) (by decide +kernel)) (by decide +kernel)
theorem fg_X2_9 {p : Program} {l : Launch} {e : Env} {R : Room} {s : State} {m : MethodId} {args : Array Value} {below : List Frame} {meth : Method} {c : Code} {H : Heap} {locs : List Loc} {cells slots : Nat} {Q : State → Prop} {cc : ByteArray} {pc : Nat} {ls : Array Slot} {rest : List Value} {A : Nat → Prop} {G : GT} {ws : va_W} {a : Nat} (hx : p.tables.exec = Jvm.exec) (hb : c.code = cc) (hown : s.vm.findClass RX2 = some m.cls) (hts : ∀ w ∈ GW, w.before args s = true) (hE : EV G A s s.heap) (hs : SI G A s H locs ws) (q0 : Nat) {fs : List Value} (he : ws[q0]? = some (a, .inr (2, fs))) {v : Value} (hv : fs[0]? = some v) (hdg : decode cc pc = .ok (.getfield 9, 3))
    (kk : W p l e R s m args below meth c H locs cells slots Q (F0 m (pc + 3) ls (v :: rest))) : W p l e R s m args below meth c H locs cells slots Q (F0 m pc ls (.ref a :: rest)) :=
  va_get (D := G.1) (ci := 2) (C := RX2) (T := TX2) (N := 6) hx hb hts inGX2 hown hE.1 hs.1 q0 he rfl 0 (by decide) (hts _ g158) (fun _ h9 => h9) hv hdg kk
theorem fp_X2_9 {p : Program} {l : Launch} {e : Env} {R : Room} {s : State} {m : MethodId} {args : Array Value} {below : List Frame} {meth : Method} {c : Code} {H : Heap} {locs : List Loc} {cells slots : Nat} {Q : State → Prop} {cc : ByteArray} {pc : Nat} {ls : Array Slot} {rest : List Value} {A : Nat → Prop} {G : GT} {ws ws' : va_W} {a : Nat} (hx : p.tables.exec = Jvm.exec) (hb : c.code = cc) (hown : s.vm.findClass RX2 = some m.cls) (hts : ∀ w ∈ GW, w.before args s = true) (hE : EV G A s s.heap) (hs : SI G A s H locs ws) (q0 : Nat) {fs : List Value} (he : ws[q0]? = some (a, .inr (2, fs))) {x : Int32} (hl : 0 < fs.length) (hw : ws.set q0 (a, .inr (2, fs.set 0 (.int x))) = ws') (hdg : decode cc pc = .ok (.putfield 9, 3))
    (kk : ∀ (H1 : Heap) (locs1 : List Loc), SI G A s H1 locs1 ws' → W p l e R s m args below meth c H1 locs1 cells slots Q (F0 m (pc + 3) ls rest)) : W p l e R s m args below meth c H locs cells slots Q (F0 m pc ls (.int x :: .ref a :: rest)) :=
  va_put (D := G.1) (ci := 2) (v := .int x) (ty := .int) (C := RX2) (T := TX2) (N := 6) hx hb hts inGX2 tyX2 tyX2_ok nmX2 hown hE.1 hs.1 hs.2.1 hs.2.2 q0 he rfl 0 (by decide) (hts _ g158) (fun _ h9 => h9) rfl (by decide +kernel) rfl rfl hl hdg (fun H1 locs1 hP hD hS => kk H1 locs1 (hw ▸ ⟨hP, hD, hS⟩))
theorem fg_X2_15 {p : Program} {l : Launch} {e : Env} {R : Room} {s : State} {m : MethodId} {args : Array Value} {below : List Frame} {meth : Method} {c : Code} {H : Heap} {locs : List Loc} {cells slots : Nat} {Q : State → Prop} {cc : ByteArray} {pc : Nat} {ls : Array Slot} {rest : List Value} {A : Nat → Prop} {G : GT} {ws : va_W} {a : Nat} (hx : p.tables.exec = Jvm.exec) (hb : c.code = cc) (hown : s.vm.findClass RX2 = some m.cls) (hts : ∀ w ∈ GW, w.before args s = true) (hE : EV G A s s.heap) (hs : SI G A s H locs ws) (q0 : Nat) {fs : List Value} (he : ws[q0]? = some (a, .inr (2, fs))) {v : Value} (hv : fs[1]? = some v) (hdg : decode cc pc = .ok (.getfield 15, 3))
    (kk : W p l e R s m args below meth c H locs cells slots Q (F0 m (pc + 3) ls (v :: rest))) : W p l e R s m args below meth c H locs cells slots Q (F0 m pc ls (.ref a :: rest)) :=
  va_get (D := G.1) (ci := 2) (C := RX2) (T := TX2) (N := 6) hx hb hts inGX2 hown hE.1 hs.1 q0 he rfl 1 (by decide) (hts _ g162) (fun _ h9 => h9) hv hdg kk
theorem fp_X2_15 {p : Program} {l : Launch} {e : Env} {R : Room} {s : State} {m : MethodId} {args : Array Value} {below : List Frame} {meth : Method} {c : Code} {H : Heap} {locs : List Loc} {cells slots : Nat} {Q : State → Prop} {cc : ByteArray} {pc : Nat} {ls : Array Slot} {rest : List Value} {A : Nat → Prop} {G : GT} {ws ws' : va_W} {a : Nat} (hx : p.tables.exec = Jvm.exec) (hb : c.code = cc) (hown : s.vm.findClass RX2 = some m.cls) (hts : ∀ w ∈ GW, w.before args s = true) (hE : EV G A s s.heap) (hs : SI G A s H locs ws) (q0 : Nat) {fs : List Value} (he : ws[q0]? = some (a, .inr (2, fs))) {x : Int32} (hl : 1 < fs.length) (hw : ws.set q0 (a, .inr (2, fs.set 1 (.int x))) = ws') (hdg : decode cc pc = .ok (.putfield 15, 3))
    (kk : ∀ (H1 : Heap) (locs1 : List Loc), SI G A s H1 locs1 ws' → W p l e R s m args below meth c H1 locs1 cells slots Q (F0 m (pc + 3) ls rest)) : W p l e R s m args below meth c H locs cells slots Q (F0 m pc ls (.int x :: .ref a :: rest)) :=
  va_put (D := G.1) (ci := 2) (v := .int x) (ty := .int) (C := RX2) (T := TX2) (N := 6) hx hb hts inGX2 tyX2 tyX2_ok nmX2 hown hE.1 hs.1 hs.2.1 hs.2.2 q0 he rfl 1 (by decide) (hts _ g162) (fun _ h9 => h9) rfl (by decide +kernel) rfl rfl hl hdg (fun H1 locs1 hP hD hS => kk H1 locs1 (hw ▸ ⟨hP, hD, hS⟩))
theorem fg_X2_18 {p : Program} {l : Launch} {e : Env} {R : Room} {s : State} {m : MethodId} {args : Array Value} {below : List Frame} {meth : Method} {c : Code} {H : Heap} {locs : List Loc} {cells slots : Nat} {Q : State → Prop} {cc : ByteArray} {pc : Nat} {ls : Array Slot} {rest : List Value} {A : Nat → Prop} {G : GT} {ws : va_W} {a : Nat} (hx : p.tables.exec = Jvm.exec) (hb : c.code = cc) (hown : s.vm.findClass RX2 = some m.cls) (hts : ∀ w ∈ GW, w.before args s = true) (hE : EV G A s s.heap) (hs : SI G A s H locs ws) (q0 : Nat) {fs : List Value} (he : ws[q0]? = some (a, .inr (2, fs))) {v : Value} (hv : fs[2]? = some v) (hdg : decode cc pc = .ok (.getfield 18, 3))
    (kk : W p l e R s m args below meth c H locs cells slots Q (F0 m (pc + 3) ls (v :: rest))) : W p l e R s m args below meth c H locs cells slots Q (F0 m pc ls (.ref a :: rest)) :=
  va_get (D := G.1) (ci := 2) (C := RX2) (T := TX2) (N := 6) hx hb hts inGX2 hown hE.1 hs.1 q0 he rfl 2 (by decide) (hts _ g166) (fun _ h9 => h9) hv hdg kk
theorem fg_X2_22 {p : Program} {l : Launch} {e : Env} {R : Room} {s : State} {m : MethodId} {args : Array Value} {below : List Frame} {meth : Method} {c : Code} {H : Heap} {locs : List Loc} {cells slots : Nat} {Q : State → Prop} {cc : ByteArray} {pc : Nat} {ls : Array Slot} {rest : List Value} {A : Nat → Prop} {G : GT} {ws : va_W} {a : Nat} (hx : p.tables.exec = Jvm.exec) (hb : c.code = cc) (hown : s.vm.findClass RX2 = some m.cls) (hts : ∀ w ∈ GW, w.before args s = true) (hE : EV G A s s.heap) (hs : SI G A s H locs ws) (q0 : Nat) {fs : List Value} (he : ws[q0]? = some (a, .inr (2, fs))) {v : Value} (hv : fs[3]? = some v) (hdg : decode cc pc = .ok (.getfield 22, 3))
    (kk : W p l e R s m args below meth c H locs cells slots Q (F0 m (pc + 3) ls (v :: rest))) : W p l e R s m args below meth c H locs cells slots Q (F0 m pc ls (.ref a :: rest)) :=
  va_get (D := G.1) (ci := 2) (C := RX2) (T := TX2) (N := 6) hx hb hts inGX2 hown hE.1 hs.1 q0 he rfl 3 (by decide) (hts _ g168) (fun _ h9 => h9) hv hdg kk
theorem fg_X2_26 {p : Program} {l : Launch} {e : Env} {R : Room} {s : State} {m : MethodId} {args : Array Value} {below : List Frame} {meth : Method} {c : Code} {H : Heap} {locs : List Loc} {cells slots : Nat} {Q : State → Prop} {cc : ByteArray} {pc : Nat} {ls : Array Slot} {rest : List Value} {A : Nat → Prop} {G : GT} {ws : va_W} {a : Nat} (hx : p.tables.exec = Jvm.exec) (hb : c.code = cc) (hown : s.vm.findClass RX2 = some m.cls) (hts : ∀ w ∈ GW, w.before args s = true) (hE : EV G A s s.heap) (hs : SI G A s H locs ws) (q0 : Nat) {fs : List Value} (he : ws[q0]? = some (a, .inr (2, fs))) {v : Value} (hv : fs[4]? = some v) (hdg : decode cc pc = .ok (.getfield 26, 3))
    (kk : W p l e R s m args below meth c H locs cells slots Q (F0 m (pc + 3) ls (v :: rest))) : W p l e R s m args below meth c H locs cells slots Q (F0 m pc ls (.ref a :: rest)) :=
  va_get (D := G.1) (ci := 2) (C := RX2) (T := TX2) (N := 6) hx hb hts inGX2 hown hE.1 hs.1 q0 he rfl 4 (by decide) (hts _ g169) (fun _ h9 => h9) hv hdg kk
theorem fg_X2_29 {p : Program} {l : Launch} {e : Env} {R : Room} {s : State} {m : MethodId} {args : Array Value} {below : List Frame} {meth : Method} {c : Code} {H : Heap} {locs : List Loc} {cells slots : Nat} {Q : State → Prop} {cc : ByteArray} {pc : Nat} {ls : Array Slot} {rest : List Value} {A : Nat → Prop} {G : GT} {ws : va_W} {a : Nat} (hx : p.tables.exec = Jvm.exec) (hb : c.code = cc) (hown : s.vm.findClass RX2 = some m.cls) (hts : ∀ w ∈ GW, w.before args s = true) (hE : EV G A s s.heap) (hs : SI G A s H locs ws) (q0 : Nat) {fs : List Value} (he : ws[q0]? = some (a, .inr (2, fs))) {v : Value} (hv : fs[5]? = some v) (hdg : decode cc pc = .ok (.getfield 29, 3))
    (kk : W p l e R s m args below meth c H locs cells slots Q (F0 m (pc + 3) ls (v :: rest))) : W p l e R s m args below meth c H locs cells slots Q (F0 m pc ls (.ref a :: rest)) :=
  va_get (D := G.1) (ci := 2) (C := RX2) (T := TX2) (N := 6) hx hb hts inGX2 hown hE.1 hs.1 q0 he rfl 5 (by decide) (hts _ g170) (fun _ h9 => h9) hv hdg kk
theorem fg_X1_12 {p : Program} {l : Launch} {e : Env} {R : Room} {s : State} {m : MethodId} {args : Array Value} {below : List Frame} {meth : Method} {c : Code} {H : Heap} {locs : List Loc} {cells slots : Nat} {Q : State → Prop} {cc : ByteArray} {pc : Nat} {ls : Array Slot} {rest : List Value} {A : Nat → Prop} {G : GT} {ws : va_W} {a : Nat} (hx : p.tables.exec = Jvm.exec) (hb : c.code = cc) (hown : s.vm.findClass RX1 = some m.cls) (hts : ∀ w ∈ GW, w.before args s = true) (hE : EV G A s s.heap) (hs : SI G A s H locs ws) (q0 : Nat) {fs : List Value} (he : ws[q0]? = some (a, .inr (1, fs))) {v : Value} (hv : fs[0]? = some v) (hdg : decode cc pc = .ok (.getfield 12, 3))
    (kk : W p l e R s m args below meth c H locs cells slots Q (F0 m (pc + 3) ls (v :: rest))) : W p l e R s m args below meth c H locs cells slots Q (F0 m pc ls (.ref a :: rest)) :=
  va_get (D := G.1) (ci := 1) (C := RX1) (T := TX1) (N := 7) hx hb hts inGX1 hown hE.1 hs.1 q0 he rfl 0 (by decide) (hts _ g237) (fun _ h9 => h9) hv hdg kk
theorem fp_X1_35 {p : Program} {l : Launch} {e : Env} {R : Room} {s : State} {m : MethodId} {args : Array Value} {below : List Frame} {meth : Method} {c : Code} {H : Heap} {locs : List Loc} {cells slots : Nat} {Q : State → Prop} {cc : ByteArray} {pc : Nat} {ls : Array Slot} {rest : List Value} {A : Nat → Prop} {G : GT} {ws ws' : va_W} {a : Nat} (hx : p.tables.exec = Jvm.exec) (hb : c.code = cc) (hown : s.vm.findClass RX1 = some m.cls) (hts : ∀ w ∈ GW, w.before args s = true) (hE : EV G A s s.heap) (hs : SI G A s H locs ws) (q0 : Nat) {fs : List Value} (he : ws[q0]? = some (a, .inr (1, fs))) {x : Int32} (hl : 6 < fs.length) (hw : ws.set q0 (a, .inr (1, fs.set 6 (.int x))) = ws') (hdg : decode cc pc = .ok (.putfield 35, 3))
    (kk : ∀ (H1 : Heap) (locs1 : List Loc), SI G A s H1 locs1 ws' → W p l e R s m args below meth c H1 locs1 cells slots Q (F0 m (pc + 3) ls rest)) : W p l e R s m args below meth c H locs cells slots Q (F0 m pc ls (.int x :: .ref a :: rest)) :=
  va_put (D := G.1) (ci := 1) (v := .int x) (ty := .int) (C := RX1) (T := TX1) (N := 7) hx hb hts inGX1 tyX1 tyX1_ok nmX1 hown hE.1 hs.1 hs.2.1 hs.2.2 q0 he rfl 6 (by decide) (hts _ g244) (fun _ h9 => h9) rfl (by decide +kernel) rfl rfl hl hdg (fun H1 locs1 hP hD hS => kk H1 locs1 (hw ▸ ⟨hP, hD, hS⟩))
theorem fg_X1_61 {p : Program} {l : Launch} {e : Env} {R : Room} {s : State} {m : MethodId} {args : Array Value} {below : List Frame} {meth : Method} {c : Code} {H : Heap} {locs : List Loc} {cells slots : Nat} {Q : State → Prop} {cc : ByteArray} {pc : Nat} {ls : Array Slot} {rest : List Value} {A : Nat → Prop} {G : GT} {ws : va_W} {a : Nat} (hx : p.tables.exec = Jvm.exec) (hb : c.code = cc) (hown : s.vm.findClass RX1 = some m.cls) (hts : ∀ w ∈ GW, w.before args s = true) (hE : EV G A s s.heap) (hs : SI G A s H locs ws) (q0 : Nat) {fs : List Value} (he : ws[q0]? = some (a, .inr (2, fs))) {v : Value} (hv : fs[0]? = some v) (hdg : decode cc pc = .ok (.getfield 61, 3))
    (kk : W p l e R s m args below meth c H locs cells slots Q (F0 m (pc + 3) ls (v :: rest))) : W p l e R s m args below meth c H locs cells slots Q (F0 m pc ls (.ref a :: rest)) :=
  va_getN (D := G.1) (ci := 2) (C := RX2) (T := TX2) (N := 6) hx hb hts inGX2 hown hE.1 hs.1 q0 he rfl 0 (by decide) (va_Nw.use rfl (hE.2.1 _ g159)) (fun _ h9 => h9) hv hdg kk
theorem fg_X1_18 {p : Program} {l : Launch} {e : Env} {R : Room} {s : State} {m : MethodId} {args : Array Value} {below : List Frame} {meth : Method} {c : Code} {H : Heap} {locs : List Loc} {cells slots : Nat} {Q : State → Prop} {cc : ByteArray} {pc : Nat} {ls : Array Slot} {rest : List Value} {A : Nat → Prop} {G : GT} {ws : va_W} {a : Nat} (hx : p.tables.exec = Jvm.exec) (hb : c.code = cc) (hown : s.vm.findClass RX1 = some m.cls) (hts : ∀ w ∈ GW, w.before args s = true) (hE : EV G A s s.heap) (hs : SI G A s H locs ws) (q0 : Nat) {fs : List Value} (he : ws[q0]? = some (a, .inr (1, fs))) {v : Value} (hv : fs[1]? = some v) (hdg : decode cc pc = .ok (.getfield 18, 3))
    (kk : W p l e R s m args below meth c H locs cells slots Q (F0 m (pc + 3) ls (v :: rest))) : W p l e R s m args below meth c H locs cells slots Q (F0 m pc ls (.ref a :: rest)) :=
  va_get (D := G.1) (ci := 1) (C := RX1) (T := TX1) (N := 7) hx hb hts inGX1 hown hE.1 hs.1 q0 he rfl 1 (by decide) (hts _ g239) (fun _ h9 => h9) hv hdg kk
theorem fg_X1_35 {p : Program} {l : Launch} {e : Env} {R : Room} {s : State} {m : MethodId} {args : Array Value} {below : List Frame} {meth : Method} {c : Code} {H : Heap} {locs : List Loc} {cells slots : Nat} {Q : State → Prop} {cc : ByteArray} {pc : Nat} {ls : Array Slot} {rest : List Value} {A : Nat → Prop} {G : GT} {ws : va_W} {a : Nat} (hx : p.tables.exec = Jvm.exec) (hb : c.code = cc) (hown : s.vm.findClass RX1 = some m.cls) (hts : ∀ w ∈ GW, w.before args s = true) (hE : EV G A s s.heap) (hs : SI G A s H locs ws) (q0 : Nat) {fs : List Value} (he : ws[q0]? = some (a, .inr (1, fs))) {v : Value} (hv : fs[6]? = some v) (hdg : decode cc pc = .ok (.getfield 35, 3))
    (kk : W p l e R s m args below meth c H locs cells slots Q (F0 m (pc + 3) ls (v :: rest))) : W p l e R s m args below meth c H locs cells slots Q (F0 m pc ls (.ref a :: rest)) :=
  va_get (D := G.1) (ci := 1) (C := RX1) (T := TX1) (N := 7) hx hb hts inGX1 hown hE.1 hs.1 q0 he rfl 6 (by decide) (hts _ g244) (fun _ h9 => h9) hv hdg kk
theorem fg_X1_76 {p : Program} {l : Launch} {e : Env} {R : Room} {s : State} {m : MethodId} {args : Array Value} {below : List Frame} {meth : Method} {c : Code} {H : Heap} {locs : List Loc} {cells slots : Nat} {Q : State → Prop} {cc : ByteArray} {pc : Nat} {ls : Array Slot} {rest : List Value} {A : Nat → Prop} {G : GT} {ws : va_W} {a : Nat} (hx : p.tables.exec = Jvm.exec) (hb : c.code = cc) (hown : s.vm.findClass RX1 = some m.cls) (hts : ∀ w ∈ GW, w.before args s = true) (hE : EV G A s s.heap) (hs : SI G A s H locs ws) (q0 : Nat) {fs : List Value} (he : ws[q0]? = some (a, .inr (2, fs))) {v : Value} (hv : fs[1]? = some v) (hdg : decode cc pc = .ok (.getfield 76, 3))
    (kk : W p l e R s m args below meth c H locs cells slots Q (F0 m (pc + 3) ls (v :: rest))) : W p l e R s m args below meth c H locs cells slots Q (F0 m pc ls (.ref a :: rest)) :=
  va_getN (D := G.1) (ci := 2) (C := RX2) (T := TX2) (N := 6) hx hb hts inGX2 hown hE.1 hs.1 q0 he rfl 1 (by decide) (va_Nw.use rfl (hE.2.1 _ g164)) (fun _ h9 => h9) hv hdg kk
theorem fg_X1_26 {p : Program} {l : Launch} {e : Env} {R : Room} {s : State} {m : MethodId} {args : Array Value} {below : List Frame} {meth : Method} {c : Code} {H : Heap} {locs : List Loc} {cells slots : Nat} {Q : State → Prop} {cc : ByteArray} {pc : Nat} {ls : Array Slot} {rest : List Value} {A : Nat → Prop} {G : GT} {ws : va_W} {a : Nat} (hx : p.tables.exec = Jvm.exec) (hb : c.code = cc) (hown : s.vm.findClass RX1 = some m.cls) (hts : ∀ w ∈ GW, w.before args s = true) (hE : EV G A s s.heap) (hs : SI G A s H locs ws) (q0 : Nat) {fs : List Value} (he : ws[q0]? = some (a, .inr (1, fs))) {v : Value} (hv : fs[3]? = some v) (hdg : decode cc pc = .ok (.getfield 26, 3))
    (kk : W p l e R s m args below meth c H locs cells slots Q (F0 m (pc + 3) ls (v :: rest))) : W p l e R s m args below meth c H locs cells slots Q (F0 m pc ls (.ref a :: rest)) :=
  va_get (D := G.1) (ci := 1) (C := RX1) (T := TX1) (N := 7) hx hb hts inGX1 hown hE.1 hs.1 q0 he rfl 3 (by decide) (hts _ g241) (fun _ h9 => h9) hv hdg kk
theorem fg_X1_22 {p : Program} {l : Launch} {e : Env} {R : Room} {s : State} {m : MethodId} {args : Array Value} {below : List Frame} {meth : Method} {c : Code} {H : Heap} {locs : List Loc} {cells slots : Nat} {Q : State → Prop} {cc : ByteArray} {pc : Nat} {ls : Array Slot} {rest : List Value} {A : Nat → Prop} {G : GT} {ws : va_W} {a : Nat} (hx : p.tables.exec = Jvm.exec) (hb : c.code = cc) (hown : s.vm.findClass RX1 = some m.cls) (hts : ∀ w ∈ GW, w.before args s = true) (hE : EV G A s s.heap) (hs : SI G A s H locs ws) (q0 : Nat) {fs : List Value} (he : ws[q0]? = some (a, .inr (1, fs))) {v : Value} (hv : fs[2]? = some v) (hdg : decode cc pc = .ok (.getfield 22, 3))
    (kk : W p l e R s m args below meth c H locs cells slots Q (F0 m (pc + 3) ls (v :: rest))) : W p l e R s m args below meth c H locs cells slots Q (F0 m pc ls (.ref a :: rest)) :=
  va_get (D := G.1) (ci := 1) (C := RX1) (T := TX1) (N := 7) hx hb hts inGX1 hown hE.1 hs.1 q0 he rfl 2 (by decide) (hts _ g240) (fun _ h9 => h9) hv hdg kk
theorem fg_X1_32 {p : Program} {l : Launch} {e : Env} {R : Room} {s : State} {m : MethodId} {args : Array Value} {below : List Frame} {meth : Method} {c : Code} {H : Heap} {locs : List Loc} {cells slots : Nat} {Q : State → Prop} {cc : ByteArray} {pc : Nat} {ls : Array Slot} {rest : List Value} {A : Nat → Prop} {G : GT} {ws : va_W} {a : Nat} (hx : p.tables.exec = Jvm.exec) (hb : c.code = cc) (hown : s.vm.findClass RX1 = some m.cls) (hts : ∀ w ∈ GW, w.before args s = true) (hE : EV G A s s.heap) (hs : SI G A s H locs ws) (q0 : Nat) {fs : List Value} (he : ws[q0]? = some (a, .inr (1, fs))) {v : Value} (hv : fs[5]? = some v) (hdg : decode cc pc = .ok (.getfield 32, 3))
    (kk : W p l e R s m args below meth c H locs cells slots Q (F0 m (pc + 3) ls (v :: rest))) : W p l e R s m args below meth c H locs cells slots Q (F0 m pc ls (.ref a :: rest)) :=
  va_get (D := G.1) (ci := 1) (C := RX1) (T := TX1) (N := 7) hx hb hts inGX1 hown hE.1 hs.1 q0 he rfl 5 (by decide) (hts _ g243) (fun _ h9 => h9) hv hdg kk
theorem fg_X1_29 {p : Program} {l : Launch} {e : Env} {R : Room} {s : State} {m : MethodId} {args : Array Value} {below : List Frame} {meth : Method} {c : Code} {H : Heap} {locs : List Loc} {cells slots : Nat} {Q : State → Prop} {cc : ByteArray} {pc : Nat} {ls : Array Slot} {rest : List Value} {A : Nat → Prop} {G : GT} {ws : va_W} {a : Nat} (hx : p.tables.exec = Jvm.exec) (hb : c.code = cc) (hown : s.vm.findClass RX1 = some m.cls) (hts : ∀ w ∈ GW, w.before args s = true) (hE : EV G A s s.heap) (hs : SI G A s H locs ws) (q0 : Nat) {fs : List Value} (he : ws[q0]? = some (a, .inr (1, fs))) {v : Value} (hv : fs[4]? = some v) (hdg : decode cc pc = .ok (.getfield 29, 3))
    (kk : W p l e R s m args below meth c H locs cells slots Q (F0 m (pc + 3) ls (v :: rest))) : W p l e R s m args below meth c H locs cells slots Q (F0 m pc ls (.ref a :: rest)) :=
  va_get (D := G.1) (ci := 1) (C := RX1) (T := TX1) (N := 7) hx hb hts inGX1 hown hE.1 hs.1 q0 he rfl 4 (by decide) (hts _ g242) (fun _ h9 => h9) hv hdg kk
theorem v_X1_39 : VN RX1 39 RX2 yX2_copyFrom cX2_copyFrom 2 (none) 1 := ⟨g533, g461, g28, g126, g462, ⟨by decide +kernel, by decide +kernel, by decide +kernel⟩⟩
theorem v_X2_49 : VW RX2 49 RX2 yX2_ofShip cX2_ofShip 3 (some .int) 2 := ⟨g451, g453, g26, g126, g454, ⟨rfl, by decide +kernel, by decide +kernel, by decide +kernel⟩⟩
theorem v_X2_52 : VW RX2 52 RX2 yX2_holds cX2_holds 2 (some .boolean) 1 := ⟨g495, g497, g33, g126, g498, ⟨rfl, by decide +kernel, by decide +kernel, by decide +kernel⟩⟩
theorem v_X1_68 : VN RX1 68 RX2 yX2_weightOf cX2_weightOf 3 (some .int) 1 := ⟨g545, g493, g32, g126, g494, ⟨by decide +kernel, by decide +kernel, by decide +kernel⟩⟩
theorem v_X2_41 : VW RX2 41 RX2 yX2_ofClaim cX2_ofClaim 3 (some .int) 2 := ⟨g515, g517, g36, g126, g518, ⟨rfl, by decide +kernel, by decide +kernel, by decide +kernel⟩⟩
theorem v_X1_72 : VS RX1 72 yX1_cut cX1_cut 4 (some .long) 2 := ⟨g564, g565, g127, g566, ⟨by decide +kernel, by decide +kernel, by decide +kernel⟩⟩
theorem v_X1_83 : VN RX1 83 RX2 yX2_roundOf cX2_roundOf 3 (some .int) 1 := ⟨g554, g513, g35, g126, g514, ⟨by decide +kernel, by decide +kernel, by decide +kernel⟩⟩
theorem v_X1_86 : VN RX1 86 RX2 yX2_ofClaim cX2_ofClaim 3 (some .int) 2 := ⟨g555, g517, g36, g126, g518, ⟨by decide +kernel, by decide +kernel, by decide +kernel⟩⟩
theorem v_X1_90 : VN RX1 90 RX2 yX2_isGoods cX2_isGoods 2 (some .boolean) 1 := ⟨g556, g558, g43, g126, g559, ⟨by decide +kernel, by decide +kernel, by decide +kernel⟩⟩
theorem v_X1_98 : VN RX1 98 RX2 yX2_holds cX2_holds 2 (some .boolean) 1 := ⟨g567, g497, g33, g126, g498, ⟨by decide +kernel, by decide +kernel, by decide +kernel⟩⟩
theorem v_X1_94 : VW RX1 94 RX1 yX1_partOf cX1_partOf 4 (some .long) 2 := ⟨g560, g562, g44, g127, g563, ⟨rfl, by decide +kernel, by decide +kernel, by decide +kernel⟩⟩
theorem v_X1_79 : VW RX1 79 RX1 yX1_debt cX1_debt 6 (some .long) 2 := ⟨g550, g552, g42, g127, g553, ⟨rfl, by decide +kernel, by decide +kernel, by decide +kernel⟩⟩
theorem v_X1_101 : VW RX1 101 RX1 yX1_owedToClaim cX1_owedToClaim 3 (some .long) 2 := ⟨g576, g578, g47, g127, g579, ⟨rfl, by decide +kernel, by decide +kernel, by decide +kernel⟩⟩
theorem v_X1_104 : VW RX1 104 RX1 yX1_backFor cX1_backFor 4 (some .long) 2 := ⟨g572, g574, g46, g127, g575, ⟨rfl, by decide +kernel, by decide +kernel, by decide +kernel⟩⟩
theorem v_X1_115 : VN RX1 115 RX2 yX2_ofShip cX2_ofShip 3 (some .int) 2 := ⟨g592, g453, g26, g126, g454, ⟨by decide +kernel, by decide +kernel, by decide +kernel⟩⟩
theorem v_X1_118 : VW RX1 118 RX1 yX1_hullDebt cX1_hullDebt 3 (some .long) 2 := ⟨g588, g590, g50, g127, g591, ⟨rfl, by decide +kernel, by decide +kernel, by decide +kernel⟩⟩
theorem v_X1_121 : VW RX1 121 RX1 yX1_backTo cX1_backTo 3 (some .long) 2 := ⟨g593, g595, g51, g127, g596, ⟨rfl, by decide +kernel, by decide +kernel, by decide +kernel⟩⟩
theorem v_X1_107 : VW RX1 107 RX1 yX1_crossDebt cX1_crossDebt 3 (some .long) 2 := ⟨g584, g586, g49, g127, g587, ⟨rfl, by decide +kernel, by decide +kernel, by decide +kernel⟩⟩
theorem v_X2_64 : VW RX2 64 RX2 yX2_fundTons cX2_fundTons 2 (some .long) 1 := ⟨g613, g615, g55, g126, g616, ⟨rfl, by decide +kernel, by decide +kernel, by decide +kernel⟩⟩
theorem v_X1_148 : VW RX1 148 RX1 yX1_takesPart cX1_takesPart 5 (some .boolean) 3 := ⟨g626, g628, g57, g127, g629, ⟨rfl, by decide +kernel, by decide +kernel, by decide +kernel⟩⟩
theorem v_X1_134 : VN RX1 134 RX2 yX2_fundOf cX2_fundOf 3 (some .long) 2 := ⟨g609, g611, g54, g126, g612, ⟨by decide +kernel, by decide +kernel, by decide +kernel⟩⟩
theorem v_X1_137 : VW RX1 137 RX1 yX1_findLacks cX1_findLacks 7 (some .long) 3 := ⟨g622, g624, g56, g127, g625, ⟨rfl, by decide +kernel, by decide +kernel, by decide +kernel⟩⟩
theorem v_X1_145 : VW RX1 145 RX1 yX1_payLacks cX1_payLacks 3 (none) 1 := ⟨g634, g636, g59, g127, g637, ⟨rfl, by decide +kernel, by decide +kernel, by decide +kernel⟩⟩
theorem v_X1_141 : VW RX1 141 RX1 yX1_shareScarce cX1_shareScarce 11 (none) 3 := ⟨g630, g632, g58, g127, g633, ⟨rfl, by decide +kernel, by decide +kernel, by decide +kernel⟩⟩
theorem v_X1_130 : VW RX1 130 RX1 yX1_payOutOf cX1_payOutOf 8 (none) 2 := ⟨g605, g607, g53, g127, g608, ⟨rfl, by decide +kernel, by decide +kernel, by decide +kernel⟩⟩
theorem v_X1_43 : VS RX1 43 yJ7_fill_d0a16 cJ7_fill_d0a16 5 (none) 2 := ⟨g538, g539, g133, g540, ⟨by decide +kernel, by decide +kernel, by decide +kernel⟩⟩
theorem v_X1_49 : VW RX1 49 RX1 yX1_weigh cX1_weigh 2 (none) 0 := ⟨g541, g543, g40, g127, g544, ⟨rfl, by decide +kernel, by decide +kernel, by decide +kernel⟩⟩
theorem v_X1_52 : VW RX1 52 RX1 yX1_oweClaims cX1_oweClaims 3 (none) 0 := ⟨g546, g548, g41, g127, g549, ⟨rfl, by decide +kernel, by decide +kernel, by decide +kernel⟩⟩
theorem v_X1_55 : VW RX1 55 RX1 yX1_oweBack cX1_oweBack 3 (none) 0 := ⟨g568, g570, g45, g127, g571, ⟨rfl, by decide +kernel, by decide +kernel, by decide +kernel⟩⟩
theorem v_X1_58 : VW RX1 58 RX1 yX1_oweShips cX1_oweShips 7 (none) 0 := ⟨g580, g582, g48, g127, g583, ⟨rfl, by decide +kernel, by decide +kernel, by decide +kernel⟩⟩
theorem v_X1_64 : VW RX1 64 RX1 yX1_pay cX1_pay 2 (none) 1 := ⟨g600, g602, g52, g127, g603, ⟨rfl, by decide +kernel, by decide +kernel, by decide +kernel⟩⟩
theorem v_X1_152 : VS RX1 152 yX1_rowTogether cX1_rowTogether 5 (some .long) 2 := ⟨g692, g693, g127, g694, ⟨by decide +kernel, by decide +kernel, by decide +kernel⟩⟩
theorem v_X1_156 : VW RX1 156 RX1 yX1_paidToClaim cX1_paidToClaim 3 (some .long) 2 := ⟨g715, g674, g62, g127, g675, ⟨rfl, by decide +kernel, by decide +kernel, by decide +kernel⟩⟩
theorem v_X1_159 : VW RX1 159 RX1 yX1_backForClaim cX1_backForClaim 5 (some .long) 1 := ⟨g720, g661, g61, g127, g662, ⟨rfl, by decide +kernel, by decide +kernel, by decide +kernel⟩⟩
theorem v_X1_163 : VW RX1 163 RX1 yX1_paidToClaimByAll cX1_paidToClaimByAll 5 (some .long) 1 := ⟨g711, g713, g67, g127, g714, ⟨rfl, by decide +kernel, by decide +kernel, by decide +kernel⟩⟩
theorem v_X1_166 : VW RX1 166 RX1 yX1_givenBack cX1_givenBack 2 (some .long) 1 := ⟨g716, g718, g68, g127, g719, ⟨rfl, by decide +kernel, by decide +kernel, by decide +kernel⟩⟩
theorem v_X1_169 : VW RX1 169 RX1 yX1_paidByShip cX1_paidByShip 2 (some .long) 1 := ⟨g731, g697, g65, g127, g698, ⟨rfl, by decide +kernel, by decide +kernel, by decide +kernel⟩⟩
theorem v_X1_172 : VW RX1 172 RX1 yX1_paidToShip cX1_paidToShip 3 (some .long) 2 := ⟨g754, g682, g63, g127, g683, ⟨rfl, by decide +kernel, by decide +kernel, by decide +kernel⟩⟩
theorem v_X1_179 : VW RX1 179 RX1 yX1_paidToPersons cX1_paidToPersons 5 (some .long) 1 := ⟨g732, g734, g70, g127, g735, ⟨rfl, by decide +kernel, by decide +kernel, by decide +kernel⟩⟩
theorem v_X1_182 : VS RX1 182 yX1_threeQuarters cX1_threeQuarters 2 (some .long) 1 := ⟨g736, g737, g127, g738, ⟨by decide +kernel, by decide +kernel, by decide +kernel⟩⟩
theorem v_X1_186 : VW RX1 186 RX1 yX1_owedToPersons cX1_owedToPersons 5 (some .long) 1 := ⟨g779, g781, g75, g127, g782, ⟨rfl, by decide +kernel, by decide +kernel, by decide +kernel⟩⟩
theorem v_X1_189 : VW RX1 189 RX1 yX1_owedByShip cX1_owedByShip 2 (some .long) 1 := ⟨g783, g690, g64, g127, g691, ⟨rfl, by decide +kernel, by decide +kernel, by decide +kernel⟩⟩
theorem v_X1_192 : VN RX1 192 RX2 yX2_fundTons cX2_fundTons 2 (some .long) 1 := ⟨g784, g615, g55, g126, g616, ⟨by decide +kernel, by decide +kernel, by decide +kernel⟩⟩
theorem v_X2_45 : VW RX2 45 RX2 yX2_setShip cX2_setShip 4 (none) 3 := ⟨g386, g388, g16, g126, g389, ⟨rfl, by decide +kernel, by decide +kernel, by decide +kernel⟩⟩
