/-! ===== words out of the tables; rows for fields; words of calls ===== -/
theorem inGX0 : ∀ w ∈ wsX00, w ∈ GW := by decide +kernel
theorem inGX1 : ∀ w ∈ wsX10, w ∈ GW := by decide +kernel
theorem inGX2 : ∀ w ∈ wsX20, w ∈ GW := by decide +kernel
theorem inGX4 : ∀ w ∈ wsX40, w ∈ GW := by decide +kernel
theorem inGX5 : ∀ w ∈ wsX50, w ∈ GW := by decide +kernel
def sAf (k : Nat) : Fin (sA_v k).length → Int32 := fun j => (sA_v k).getD j.1 0
theorem sx_sald {p : Program} {l : Launch} {e : Env} {R : Room} {s : State} {m : MethodId} {args : Array Value} {below : List Frame} {meth : Method} {c : Code} {H : Heap} {locs : List Loc} {cells slots : Nat} {Q : State → Prop} {cc : ByteArray} {pc : Nat} {ls : Array Slot} {rest : List Value} {A : Nat → Prop} {G : GT} {ws : va_W} (hx : p.tables.exec = Jvm.exec) (hb : c.code = cc) (hE : EV G A s s.heap) (hs : SI G A s H locs ws) (k : Nat) (hk : k < 5) {i v : Int32} (hv : rdI (sAf k) i = some v) (hdg : decode cc pc = .ok (.iaload, 1))
    (kk : W p l e R s m args below meth c H locs cells slots Q (F0 m (pc + 1) ls (.int v :: rest))) : W p l e R s m args below meth c H locs cells slots Q (F0 m pc ls (.int i :: .ref (G.2.2.1 k) :: rest)) := by
  obtain ⟨h1, h2⟩ := rdI_some hv
  refine va_ti hx hb (hE.2.2.1 k hk).2 hs.2.2 h1 (v := .int v) ?_ hdg kk
  show Value.int _ = Value.int v
  rw [← h2]
  have h3 : i.toNatClampNeg < (sA_v k).length := Nat.not_le.mp fun q => h1 (Or.inr q)
  simp [exI, sAf, h3]
theorem sw_out {x : Int32} {lo hi : Int} (h : ∀ z : Int, lo ≤ z → z ≤ hi → x.toInt ≠ z) : x.toInt < lo ∨ hi < x.toInt := by
  by_cases h1 : x.toInt < lo
  · exact Or.inl h1
  · by_cases h2 : hi < x.toInt
    · exact Or.inr h2
    · exact absurd rfl (h x.toInt (by omega) (by omega))

theorem g16 : Cond.selects RX2 yX2_setShip yX2_setShip ∈ GW := gw_in (List.mem_of_getElem? (i := 16) (by decide +kernel)) (by decide +kernel)
theorem g26 : Cond.selects RX2 yX2_ofShip yX2_ofShip ∈ GW := gw_in (List.mem_of_getElem? (i := 26) (by decide +kernel)) (by decide +kernel)
theorem g33 : Cond.selects RX2 yX2_holds yX2_holds ∈ GW := gw_in (List.mem_of_getElem? (i := 33) (by decide +kernel)) (by decide +kernel)
theorem g36 : Cond.selects RX2 yX2_ofClaim yX2_ofClaim ∈ GW := gw_in (List.mem_of_getElem? (i := 36) (by decide +kernel)) (by decide +kernel)
theorem g55 : Cond.selects RX2 yX2_fundTons yX2_fundTons ∈ GW := gw_in (List.mem_of_getElem? (i := 55) (by decide +kernel)) (by decide +kernel)
theorem g126 : Cond.initialized RX2 ∈ GW := gw_in (List.mem_of_getElem? (i := 126) (by decide +kernel)) (by decide +kernel)
theorem g132 : Cond.initialized RJ9 ∈ GW := gw_in (List.mem_of_getElem? (i := 132) (by decide +kernel)) (by decide +kernel)
theorem g158 : Cond.fieldLink RX2 9 "BothToBlame$Told" "ships" "I" ∈ GW := gw_in (List.mem_of_getElem? (i := 158) (by decide +kernel)) (by decide +kernel)
theorem g162 : Cond.fieldLink RX2 15 "BothToBlame$Told" "claims" "I" ∈ GW := gw_in (List.mem_of_getElem? (i := 162) (by decide +kernel)) (by decide +kernel)
theorem g166 : Cond.fieldLink RX2 18 "BothToBlame$Told" "names" "[J" ∈ GW := gw_in (List.mem_of_getElem? (i := 166) (by decide +kernel)) (by decide +kernel)
theorem g168 : Cond.fieldLink RX2 22 "BothToBlame$Told" "shipRows" "[I" ∈ GW := gw_in (List.mem_of_getElem? (i := 168) (by decide +kernel)) (by decide +kernel)
theorem g169 : Cond.fieldLink RX2 26 "BothToBlame$Told" "claimRows" "[I" ∈ GW := gw_in (List.mem_of_getElem? (i := 169) (by decide +kernel)) (by decide +kernel)
theorem g170 : Cond.fieldLink RX2 29 "BothToBlame$Told" "laws" "[I" ∈ GW := gw_in (List.mem_of_getElem? (i := 170) (by decide +kernel)) (by decide +kernel)
theorem g329 : Cond.fieldLinkNest RX2 32 "BothToBlame" "LAW_UNTOLD" "[I" "BothToBlame" ∈ NW := nw_in (List.mem_of_getElem? (i := 329) (by decide +kernel)) (by decide +kernel)
theorem g386 : Cond.methodLink RX2 45 yX2_setShip ∈ GW := gw_in (List.mem_of_getElem? (i := 386) (by decide +kernel)) (by decide +kernel)
theorem g388 : Cond.instanceMethod yX2_setShip ∈ GW := gw_in (List.mem_of_getElem? (i := 388) (by decide +kernel)) (by decide +kernel)
theorem g389 : Cond.code yX2_setShip cX2_setShip 4 (none) ∈ GW := gw_in (List.mem_of_getElem? (i := 389) (by decide +kernel)) (by decide +kernel)
theorem g451 : Cond.methodLink RX2 49 yX2_ofShip ∈ GW := gw_in (List.mem_of_getElem? (i := 451) (by decide +kernel)) (by decide +kernel)
theorem g453 : Cond.instanceMethod yX2_ofShip ∈ GW := gw_in (List.mem_of_getElem? (i := 453) (by decide +kernel)) (by decide +kernel)
theorem g454 : Cond.code yX2_ofShip cX2_ofShip 3 (some .int) ∈ GW := gw_in (List.mem_of_getElem? (i := 454) (by decide +kernel)) (by decide +kernel)
theorem g495 : Cond.methodLink RX2 52 yX2_holds ∈ GW := gw_in (List.mem_of_getElem? (i := 495) (by decide +kernel)) (by decide +kernel)
theorem g497 : Cond.instanceMethod yX2_holds ∈ GW := gw_in (List.mem_of_getElem? (i := 497) (by decide +kernel)) (by decide +kernel)
theorem g498 : Cond.code yX2_holds cX2_holds 2 (some .boolean) ∈ GW := gw_in (List.mem_of_getElem? (i := 498) (by decide +kernel)) (by decide +kernel)
theorem g499 : Cond.methodLink RX2 56 Lib.Math.min.name ∈ GW := gw_in (List.mem_of_getElem? (i := 499) (by decide +kernel)) (by decide +kernel)
theorem g500 : Cond.static Lib.Math.min.name ∈ GW := gw_in (List.mem_of_getElem? (i := 500) (by decide +kernel)) (by decide +kernel)
theorem g501 : Cond.code Lib.Math.min.name Lib.Math.min.code 2 (some .int) ∈ GW := gw_in (List.mem_of_getElem? (i := 501) (by decide +kernel)) (by decide +kernel)
theorem g515 : Cond.methodLink RX2 41 yX2_ofClaim ∈ GW := gw_in (List.mem_of_getElem? (i := 515) (by decide +kernel)) (by decide +kernel)
theorem g517 : Cond.instanceMethod yX2_ofClaim ∈ GW := gw_in (List.mem_of_getElem? (i := 517) (by decide +kernel)) (by decide +kernel)
theorem g518 : Cond.code yX2_ofClaim cX2_ofClaim 3 (some .int) ∈ GW := gw_in (List.mem_of_getElem? (i := 518) (by decide +kernel)) (by decide +kernel)
theorem g598 : Cond.static Lib.MathLoose.min_long.x ∈ GW := gw_in (List.mem_of_getElem? (i := 598) (by decide +kernel)) (by decide +kernel)
theorem g599 : Cond.code Lib.MathLoose.min_long.x Lib.MathLoose.min_long.code 4 (some .long) ∈ GW := gw_in (List.mem_of_getElem? (i := 599) (by decide +kernel)) (by decide +kernel)
theorem g613 : Cond.methodLink RX2 64 yX2_fundTons ∈ GW := gw_in (List.mem_of_getElem? (i := 613) (by decide +kernel)) (by decide +kernel)
theorem g615 : Cond.instanceMethod yX2_fundTons ∈ GW := gw_in (List.mem_of_getElem? (i := 615) (by decide +kernel)) (by decide +kernel)
theorem g616 : Cond.code yX2_fundTons cX2_fundTons 2 (some .long) ∈ GW := gw_in (List.mem_of_getElem? (i := 616) (by decide +kernel)) (by decide +kernel)
theorem g617 : Cond.methodLink RX2 61 Lib.Math.max.name ∈ GW := gw_in (List.mem_of_getElem? (i := 617) (by decide +kernel)) (by decide +kernel)
theorem g618 : Cond.static Lib.Math.max.name ∈ GW := gw_in (List.mem_of_getElem? (i := 618) (by decide +kernel)) (by decide +kernel)
theorem g619 : Cond.code Lib.Math.max.name Lib.Math.max.code 2 (some .int) ∈ GW := gw_in (List.mem_of_getElem? (i := 619) (by decide +kernel)) (by decide +kernel)
theorem g620 : Cond.constantLong RX2 68 (2000000000) ∈ GW := gw_in (List.mem_of_getElem? (i := 620) (by decide +kernel)) (by decide +kernel)
theorem g621 : Cond.methodLink RX2 70 Lib.MathLoose.min_long.x ∈ GW := gw_in (List.mem_of_getElem? (i := 621) (by decide +kernel)) (by decide +kernel)
theorem g817 : Cond.constantLong RX2 73 (48271) ∈ GW := gw_in (List.mem_of_getElem? (i := 817) (by decide +kernel)) (by decide +kernel)
theorem g818 : Cond.constantLong RX2 75 (2147483647) ∈ GW := gw_in (List.mem_of_getElem? (i := 818) (by decide +kernel)) (by decide +kernel)
theorem fp_X2_9 {p : Program} {l : Launch} {e : Env} {R : Room} {s : State} {m : MethodId} {args : Array Value} {below : List Frame} {meth : Method} {c : Code} {H : Heap} {locs : List Loc} {cells slots : Nat} {Q : State → Prop} {cc : ByteArray} {pc : Nat} {ls : Array Slot} {rest : List Value} {A : Nat → Prop} {G : GT} {ws ws' : va_W} {a : Nat} (hx : p.tables.exec = Jvm.exec) (hb : c.code = cc) (hown : s.vm.findClass RX2 = some m.cls) (hts : ∀ w ∈ GW, w.before args s = true) (hE : EV G A s s.heap) (hs : SI G A s H locs ws) (q0 : Nat) {fs : List Value} (he : ws[q0]? = some (a, .inr (2, fs))) {x : Int32} (hl : 0 < fs.length) (hw : ws.set q0 (a, .inr (2, fs.set 0 (.int x))) = ws') (hdg : decode cc pc = .ok (.putfield 9, 3))
    (kk : ∀ (H1 : Heap) (locs1 : List Loc), SI G A s H1 locs1 ws' → W p l e R s m args below meth c H1 locs1 cells slots Q (F0 m (pc + 3) ls rest)) : W p l e R s m args below meth c H locs cells slots Q (F0 m pc ls (.int x :: .ref a :: rest)) :=
  va_put (D := G.1) (ci := 2) (v := .int x) (ty := .int) (C := RX2) (T := TX2) (N := 6) hx hb hts inGX2 tyX2 tyX2_ok nmX2 hown hE.1 hs.1 hs.2.1 hs.2.2 q0 he rfl 0 (by decide) (hts _ g158) (fun _ h9 => h9) rfl (by decide +kernel) rfl rfl hl hdg (fun H1 locs1 hP hD hS => kk H1 locs1 (hw ▸ ⟨hP, hD, hS⟩))
theorem fp_X2_15 {p : Program} {l : Launch} {e : Env} {R : Room} {s : State} {m : MethodId} {args : Array Value} {below : List Frame} {meth : Method} {c : Code} {H : Heap} {locs : List Loc} {cells slots : Nat} {Q : State → Prop} {cc : ByteArray} {pc : Nat} {ls : Array Slot} {rest : List Value} {A : Nat → Prop} {G : GT} {ws ws' : va_W} {a : Nat} (hx : p.tables.exec = Jvm.exec) (hb : c.code = cc) (hown : s.vm.findClass RX2 = some m.cls) (hts : ∀ w ∈ GW, w.before args s = true) (hE : EV G A s s.heap) (hs : SI G A s H locs ws) (q0 : Nat) {fs : List Value} (he : ws[q0]? = some (a, .inr (2, fs))) {x : Int32} (hl : 1 < fs.length) (hw : ws.set q0 (a, .inr (2, fs.set 1 (.int x))) = ws') (hdg : decode cc pc = .ok (.putfield 15, 3))
    (kk : ∀ (H1 : Heap) (locs1 : List Loc), SI G A s H1 locs1 ws' → W p l e R s m args below meth c H1 locs1 cells slots Q (F0 m (pc + 3) ls rest)) : W p l e R s m args below meth c H locs cells slots Q (F0 m pc ls (.int x :: .ref a :: rest)) :=
  va_put (D := G.1) (ci := 2) (v := .int x) (ty := .int) (C := RX2) (T := TX2) (N := 6) hx hb hts inGX2 tyX2 tyX2_ok nmX2 hown hE.1 hs.1 hs.2.1 hs.2.2 q0 he rfl 1 (by decide) (hts _ g162) (fun _ h9 => h9) rfl (by decide +kernel) rfl rfl hl hdg (fun H1 locs1 hP hD hS => kk H1 locs1 (hw ▸ ⟨hP, hD, hS⟩))
theorem fg_X2_29 {p : Program} {l : Launch} {e : Env} {R : Room} {s : State} {m : MethodId} {args : Array Value} {below : List Frame} {meth : Method} {c : Code} {H : Heap} {locs : List Loc} {cells slots : Nat} {Q : State → Prop} {cc : ByteArray} {pc : Nat} {ls : Array Slot} {rest : List Value} {A : Nat → Prop} {G : GT} {ws : va_W} {a : Nat} (hx : p.tables.exec = Jvm.exec) (hb : c.code = cc) (hown : s.vm.findClass RX2 = some m.cls) (hts : ∀ w ∈ GW, w.before args s = true) (hE : EV G A s s.heap) (hs : SI G A s H locs ws) (q0 : Nat) {fs : List Value} (he : ws[q0]? = some (a, .inr (2, fs))) {v : Value} (hv : fs[5]? = some v) (hdg : decode cc pc = .ok (.getfield 29, 3))
    (kk : W p l e R s m args below meth c H locs cells slots Q (F0 m (pc + 3) ls (v :: rest))) : W p l e R s m args below meth c H locs cells slots Q (F0 m pc ls (.ref a :: rest)) :=
  va_get (D := G.1) (ci := 2) (C := RX2) (T := TX2) (N := 6) hx hb hts inGX2 hown hE.1 hs.1 q0 he rfl 5 (by decide) (hts _ g170) (fun _ h9 => h9) hv hdg kk
theorem fg_X2_9 {p : Program} {l : Launch} {e : Env} {R : Room} {s : State} {m : MethodId} {args : Array Value} {below : List Frame} {meth : Method} {c : Code} {H : Heap} {locs : List Loc} {cells slots : Nat} {Q : State → Prop} {cc : ByteArray} {pc : Nat} {ls : Array Slot} {rest : List Value} {A : Nat → Prop} {G : GT} {ws : va_W} {a : Nat} (hx : p.tables.exec = Jvm.exec) (hb : c.code = cc) (hown : s.vm.findClass RX2 = some m.cls) (hts : ∀ w ∈ GW, w.before args s = true) (hE : EV G A s s.heap) (hs : SI G A s H locs ws) (q0 : Nat) {fs : List Value} (he : ws[q0]? = some (a, .inr (2, fs))) {v : Value} (hv : fs[0]? = some v) (hdg : decode cc pc = .ok (.getfield 9, 3))
    (kk : W p l e R s m args below meth c H locs cells slots Q (F0 m (pc + 3) ls (v :: rest))) : W p l e R s m args below meth c H locs cells slots Q (F0 m pc ls (.ref a :: rest)) :=
  va_get (D := G.1) (ci := 2) (C := RX2) (T := TX2) (N := 6) hx hb hts inGX2 hown hE.1 hs.1 q0 he rfl 0 (by decide) (hts _ g158) (fun _ h9 => h9) hv hdg kk
theorem fg_X2_15 {p : Program} {l : Launch} {e : Env} {R : Room} {s : State} {m : MethodId} {args : Array Value} {below : List Frame} {meth : Method} {c : Code} {H : Heap} {locs : List Loc} {cells slots : Nat} {Q : State → Prop} {cc : ByteArray} {pc : Nat} {ls : Array Slot} {rest : List Value} {A : Nat → Prop} {G : GT} {ws : va_W} {a : Nat} (hx : p.tables.exec = Jvm.exec) (hb : c.code = cc) (hown : s.vm.findClass RX2 = some m.cls) (hts : ∀ w ∈ GW, w.before args s = true) (hE : EV G A s s.heap) (hs : SI G A s H locs ws) (q0 : Nat) {fs : List Value} (he : ws[q0]? = some (a, .inr (2, fs))) {v : Value} (hv : fs[1]? = some v) (hdg : decode cc pc = .ok (.getfield 15, 3))
    (kk : W p l e R s m args below meth c H locs cells slots Q (F0 m (pc + 3) ls (v :: rest))) : W p l e R s m args below meth c H locs cells slots Q (F0 m pc ls (.ref a :: rest)) :=
  va_get (D := G.1) (ci := 2) (C := RX2) (T := TX2) (N := 6) hx hb hts inGX2 hown hE.1 hs.1 q0 he rfl 1 (by decide) (hts _ g162) (fun _ h9 => h9) hv hdg kk
theorem fg_X2_18 {p : Program} {l : Launch} {e : Env} {R : Room} {s : State} {m : MethodId} {args : Array Value} {below : List Frame} {meth : Method} {c : Code} {H : Heap} {locs : List Loc} {cells slots : Nat} {Q : State → Prop} {cc : ByteArray} {pc : Nat} {ls : Array Slot} {rest : List Value} {A : Nat → Prop} {G : GT} {ws : va_W} {a : Nat} (hx : p.tables.exec = Jvm.exec) (hb : c.code = cc) (hown : s.vm.findClass RX2 = some m.cls) (hts : ∀ w ∈ GW, w.before args s = true) (hE : EV G A s s.heap) (hs : SI G A s H locs ws) (q0 : Nat) {fs : List Value} (he : ws[q0]? = some (a, .inr (2, fs))) {v : Value} (hv : fs[2]? = some v) (hdg : decode cc pc = .ok (.getfield 18, 3))
    (kk : W p l e R s m args below meth c H locs cells slots Q (F0 m (pc + 3) ls (v :: rest))) : W p l e R s m args below meth c H locs cells slots Q (F0 m pc ls (.ref a :: rest)) :=
  va_get (D := G.1) (ci := 2) (C := RX2) (T := TX2) (N := 6) hx hb hts inGX2 hown hE.1 hs.1 q0 he rfl 2 (by decide) (hts _ g166) (fun _ h9 => h9) hv hdg kk
theorem fg_X2_22 {p : Program} {l : Launch} {e : Env} {R : Room} {s : State} {m : MethodId} {args : Array Value} {below : List Frame} {meth : Method} {c : Code} {H : Heap} {locs : List Loc} {cells slots : Nat} {Q : State → Prop} {cc : ByteArray} {pc : Nat} {ls : Array Slot} {rest : List Value} {A : Nat → Prop} {G : GT} {ws : va_W} {a : Nat} (hx : p.tables.exec = Jvm.exec) (hb : c.code = cc) (hown : s.vm.findClass RX2 = some m.cls) (hts : ∀ w ∈ GW, w.before args s = true) (hE : EV G A s s.heap) (hs : SI G A s H locs ws) (q0 : Nat) {fs : List Value} (he : ws[q0]? = some (a, .inr (2, fs))) {v : Value} (hv : fs[3]? = some v) (hdg : decode cc pc = .ok (.getfield 22, 3))
    (kk : W p l e R s m args below meth c H locs cells slots Q (F0 m (pc + 3) ls (v :: rest))) : W p l e R s m args below meth c H locs cells slots Q (F0 m pc ls (.ref a :: rest)) :=
  va_get (D := G.1) (ci := 2) (C := RX2) (T := TX2) (N := 6) hx hb hts inGX2 hown hE.1 hs.1 q0 he rfl 3 (by decide) (hts _ g168) (fun _ h9 => h9) hv hdg kk
theorem fg_X2_26 {p : Program} {l : Launch} {e : Env} {R : Room} {s : State} {m : MethodId} {args : Array Value} {below : List Frame} {meth : Method} {c : Code} {H : Heap} {locs : List Loc} {cells slots : Nat} {Q : State → Prop} {cc : ByteArray} {pc : Nat} {ls : Array Slot} {rest : List Value} {A : Nat → Prop} {G : GT} {ws : va_W} {a : Nat} (hx : p.tables.exec = Jvm.exec) (hb : c.code = cc) (hown : s.vm.findClass RX2 = some m.cls) (hts : ∀ w ∈ GW, w.before args s = true) (hE : EV G A s s.heap) (hs : SI G A s H locs ws) (q0 : Nat) {fs : List Value} (he : ws[q0]? = some (a, .inr (2, fs))) {v : Value} (hv : fs[4]? = some v) (hdg : decode cc pc = .ok (.getfield 26, 3))
    (kk : W p l e R s m args below meth c H locs cells slots Q (F0 m (pc + 3) ls (v :: rest))) : W p l e R s m args below meth c H locs cells slots Q (F0 m pc ls (.ref a :: rest)) :=
  va_get (D := G.1) (ci := 2) (C := RX2) (T := TX2) (N := 6) hx hb hts inGX2 hown hE.1 hs.1 q0 he rfl 4 (by decide) (hts _ g169) (fun _ h9 => h9) hv hdg kk
theorem v_X2_41 : VW RX2 41 RX2 yX2_ofClaim cX2_ofClaim 3 (some .int) 2 := ⟨g515, g517, g36, g126, g518, ⟨rfl, by decide +kernel, by decide +kernel, by decide +kernel⟩⟩
theorem v_X2_45 : VW RX2 45 RX2 yX2_setShip cX2_setShip 4 (none) 3 := ⟨g386, g388, g16, g126, g389, ⟨rfl, by decide +kernel, by decide +kernel, by decide +kernel⟩⟩
theorem v_X2_49 : VW RX2 49 RX2 yX2_ofShip cX2_ofShip 3 (some .int) 2 := ⟨g451, g453, g26, g126, g454, ⟨rfl, by decide +kernel, by decide +kernel, by decide +kernel⟩⟩
theorem v_X2_52 : VW RX2 52 RX2 yX2_holds cX2_holds 2 (some .boolean) 1 := ⟨g495, g497, g33, g126, g498, ⟨rfl, by decide +kernel, by decide +kernel, by decide +kernel⟩⟩
theorem v_X2_64 : VW RX2 64 RX2 yX2_fundTons cX2_fundTons 2 (some .long) 1 := ⟨g613, g615, g55, g126, g616, ⟨rfl, by decide +kernel, by decide +kernel, by decide +kernel⟩⟩
