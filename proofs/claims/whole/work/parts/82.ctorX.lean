/-! ===== the class's own constructor ===== -/
def pcF (ad : Nat → Nat → Nat) (i : Nat) : Nat → Option Nat := fun j => if j < i then some (ad j 0) else none
def pcW (G : GT) (ad : Nat → Nat → Nat) (i : Nat) : va_W := (List.range i).flatMap (fun j => WT G (ad j) T00)
theorem pcF0 (ad : Nat → Nat → Nat) : pcF ad 0 = fun _ => none := by
  funext j
  unfold pcF
  rw [if_neg (Nat.not_lt_zero j)]
theorem pcW0 (G : GT) (ad : Nat → Nat → Nat) : pcW G ad 0 = [] := rfl
theorem pcF_s (ad : Nat → Nat → Nat) (i : Nat) (a : Nat → Nat) : pcF (fun j => if j = i then a else ad j) (i + 1) = va_up (pcF ad i) i (some (a 0)) := by
  funext j
  unfold pcF va_up
  by_cases h : j = i
  · rw [if_pos h, if_pos (by omega)]
    show some ((if j = i then a else ad j) 0) = _
    rw [if_pos h]
  · rw [if_neg h]
    show (if j < i + 1 then some ((if j = i then a else ad j) 0) else none) = if j < i then some (ad j 0) else none
    rw [if_neg h]
    by_cases h2 : j < i
    · rw [if_pos h2, if_pos (by omega)]
    · rw [if_neg h2, if_neg (by omega)]
theorem pcW_s (G : GT) (ad : Nat → Nat → Nat) (i : Nat) (a : Nat → Nat) : pcW G (fun j => if j = i then a else ad j) (i + 1) = pcW G ad i ++ WT G a T00 := by
  unfold pcW
  rw [List.range_succ, List.flatMap_append, List.flatMap_cons, List.flatMap_nil, List.append_nil]
  show List.flatMap (fun j => WT G (if j = i then a else ad j) T00) (List.range i) ++ WT G (if i = i then a else ad i) T00 = _
  rw [if_pos rfl]
  congr 1
  rw [List.flatMap_def, List.flatMap_def]
  refine congrArg List.flatten (List.map_congr_left fun j hj => ?_)
  have h : j < i := List.mem_range.mp hj
  rw [if_neg (by omega)]
theorem sx_congr {G : GT} {A : Nat → Prop} {s : State} {H : Heap} {locs : List Loc} {ws ws' : va_W} (hs : SI G A s H locs ws) (h : ws = ws') : SI G A s H locs ws' := h ▸ hs
theorem sx_astq {p : Program} {l : Launch} {e : Env} {R : Room} {s : State} {m : MethodId} {args : Array Value} {below : List Frame} {meth : Method} {c : Code} {H : Heap} {locs : List Loc} {cells slots : Nat} {Q : State → Prop} {cc : ByteArray} {pc : Nat} {ls : Array Slot} {rest : List Value} {A : Nat → Prop} {G : GT} {ws : va_W} {a n v : Nat} {vs : List Value} {f : Nat → Option Nat} (hx : p.tables.exec = Jvm.exec) (hb : c.code = cc) (hE : EV G A s s.heap) (hs : SI G A s H locs ws) (q0 qk : Nat) (ha : ws[q0]? = some (a, .inl (G.2.1 4, n, .inr (.inr (.inr (.inr f)))))) (hv : ws[qk]? = some (v, .inr (2, vs))) {i : Int32} (hin : vp_in i n) (hdg : decode cc pc = .ok (.aastore, 1))
    (kk : ∀ (H1 : Heap) (locs1 : List Loc), SI G A s H1 locs1 (ws.set q0 (a, .inl (G.2.1 4, n, .inr (.inr (.inr (.inr (va_up f i.toNatClampNeg (some v)))))))) → W p l e R s m args below meth c H1 locs1 cells slots Q (F0 m (pc + 1) ls rest)) : W p l e R s m args below meth c H locs cells slots Q (F0 m pc ls (.ref v :: .int i :: .ref a :: rest)) :=
  va_astq hx hb hE.1 hs.1 hs.2.1 hs.2.2 q0 4 qk 2 ha rfl hv rfl hin hdg (fun H1 locs1 hP hD hS => kk H1 locs1 ⟨hP, hD, hS⟩)
theorem cell_q (cA : ClassId) (n : Nat) {f g : Nat → Option Nat} (h : ∀ j, j < n → f j = g j) : vp_cell cA (n, .inr (.inr (.inr (.inr f)))) = vp_cell cA (n, .inr (.inr (.inr (.inr g)))) := by
  rw [vp_cell_q, vp_cell_q]
  unfold arrV
  have e : (fun j : Fin n => va_rf (f j.val)) = fun j : Fin n => va_rf (g j.val) := funext fun j => by rw [h j.1 j.2]
  rw [e]
/-- the addresses of a new object of the class -/
def pcA (b qe qi qk : Nat) (a1 a2 a3 : Nat → Nat) (ae ad : Nat → Nat → Nat) : Nat → Nat := fun k => if k = 0 then b else if k = 1 then qe else if k = 2 then qi else if k = 3 then qk else if k < 12 then a1 (k - 4) else if k < 17 then a2 (k - 12) else if k < 28 then a3 (k - 17) else if k < 78 then ae ((k - 28) / 5) ((k - 28) % 5) else ad ((k - 78) / 5) ((k - 78) % 5)
theorem WT_congr (G : GT) {a a' : Nat → Nat} (h : ∀ k, k < 5 → a k = a' k) (T : TS) : WT G a T = WT G a' T := by
  unfold WT
  rw [h 0 (by omega), h 1 (by omega), h 2 (by omega), h 3 (by omega), h 4 (by omega)]
theorem sx_cell {G : GT} {A : Nat → Prop} {s : State} {H : Heap} {locs : List Loc} {ws : va_W} (hs : SI G A s H locs ws) (k : Nat) {x n : Nat} {cA : ClassId} {F F' : Nat → Option Nat} (he : ws[k]? = some (x, .inl (cA, n, .inr (.inr (.inr (.inr F)))))) (h : ∀ j, j < n → F j = F' j) : SI G A s H locs (ws.set k (x, .inl (cA, n, .inr (.inr (.inr (.inr F')))))) := by
  refine ⟨fun j q hq => ?_, hs.2.1.set he, hs.2.2⟩
  rw [List.getElem?_set] at hq
  by_cases e : k = j
  · rw [if_pos e] at hq
    split at hq
    · cases hq
      have h1 : H[x]? = some (vp_cell cA (n, .inr (.inr (.inr (.inr F))))) := hs.1 k _ he
      show H[x]? = some (vp_cell cA (n, .inr (.inr (.inr (.inr F')))))
      rw [h1, cell_q cA n h]
    · cases hq
  · rw [if_neg e] at hq
    exact hs.1 j q hq
theorem fin_flat {α : Type} (n : Nat) (f : Nat → List α) : (List.finRange n).flatMap (fun j => f j.1) = (List.range n).flatMap f := by
  rw [List.flatMap_def, List.flatMap_def]
  refine congrArg List.flatten (List.ext_getElem (by simp) fun i h1 h2 => ?_)
  simp
section PCE
variable {G : GT} {A : Nat → Prop} {s : State} {H : Heap} {locs : List Loc} (b qe qi qk : Nat) (a1 a2 a3 : Nat → Nat) (ae ad : Nat → Nat → Nat)
theorem pcA_e {j k : Nat} (hj : j < 10) (hk : k < 5) : pcA b qe qi qk a1 a2 a3 ae ad (28 + 5 * j + k) = ae j k := by
  unfold pcA
  rw [if_neg (by omega), if_neg (by omega), if_neg (by omega), if_neg (by omega), if_neg (by omega), if_neg (by omega), if_neg (by omega), if_pos (by omega), show (28 + 5 * j + k - 28) / 5 = j by omega, show (28 + 5 * j + k - 28) % 5 = k by omega]
theorem pcA_i {j k : Nat} (hj : j < 2) (hk : k < 5) : pcA b qe qi qk a1 a2 a3 ae ad (78 + 5 * j + k) = ad j k := by
  unfold pcA
  rw [if_neg (by omega), if_neg (by omega), if_neg (by omega), if_neg (by omega), if_neg (by omega), if_neg (by omega), if_neg (by omega), if_neg (by omega), show (78 + 5 * j + k - 78) / 5 = j by omega, show (78 + 5 * j + k - 78) % 5 = k by omega]
theorem pcW_e : WXe G (pcA b qe qi qk a1 a2 a3 ae ad) (fun _ => T00) = pcW G ae 10 := by
  unfold WXe WP pcW
  rw [fin_flat 10 (fun j => WT G (fun k => pcA b qe qi qk a1 a2 a3 ae ad (28 + 5 * j + k)) T00), List.flatMap_def, List.flatMap_def]
  refine congrArg List.flatten (List.map_congr_left fun j hj => WT_congr G (fun k hk => pcA_e b qe qi qk a1 a2 a3 ae ad (List.mem_range.mp hj) hk) T00)
theorem pcW_i : WXi G (pcA b qe qi qk a1 a2 a3 ae ad) (fun _ => T00) = pcW G ad 2 := by
  unfold WXi WP pcW
  rw [fin_flat 2 (fun j => WT G (fun k => pcA b qe qi qk a1 a2 a3 ae ad (78 + 5 * j + k)) T00), List.flatMap_def, List.flatMap_def]
  refine congrArg List.flatten (List.map_congr_left fun j hj => WT_congr G (fun k hk => pcA_i b qe qi qk a1 a2 a3 ae ad (List.mem_range.mp hj) hk) T00)
theorem pcEnd (hs : SI G A s H locs ((b, .inr (3, [.ref (a1 0), .ref (a2 0), .ref (a3 0), .ref qe, .ref qi, .ref qk, .int (0), .int (0), .int (0), .int (0), .int (-1), .int (0)])) :: (WD G a1 D00 ++ (WT G a2 T00 ++ (WR G a3 R00 ++ ((qe, .inl (G.2.1 4, 10, .inr (.inr (.inr (.inr (pcF ae 10)))))) :: (qi, .inl (G.2.1 4, 2, .inr (.inr (.inr (.inr (pcF ad 2)))))) :: (qk, .inl (G.2.1 3, 2, .inl (exI (fun _ : Fin 2 => 0)))) :: (pcW G ae 10 ++ pcW G ad 2))))) : va_W)) : SI G A s H locs (WX G (pcA b qe qi qk a1 a2 a3 ae ad) X00) := by
  have h1 := sx_cell hs 25 (F' := fun j => some (pcA b qe qi qk a1 a2 a3 ae ad (28 + 5 * j))) rfl (fun j hj => by
    unfold pcF
    rw [if_pos hj]
    exact congrArg some (pcA_e b qe qi qk a1 a2 a3 ae ad (k := 0) hj (by omega)).symm)
  have h2 := sx_cell h1 26 (F' := fun j => some (pcA b qe qi qk a1 a2 a3 ae ad (78 + 5 * j))) rfl (fun j hj => by
    unfold pcF
    rw [if_pos hj]
    exact congrArg some (pcA_i b qe qi qk a1 a2 a3 ae ad (k := 0) hj (by omega)).symm)
  refine sx_perm h2 ?_
  have e : WX G (pcA b qe qi qk a1 a2 a3 ae ad) X00 = [(b, .inr (3, [.ref (a1 0), .ref (a2 0), .ref (a3 0), .ref qe, .ref qi, .ref qk, .int 0, .int 0, .int 0, .int 0, .int (-1), .int 0])), (qe, .inl (G.2.1 4, 10, .inr (.inr (.inr (.inr (fun j => some (pcA b qe qi qk a1 a2 a3 ae ad (28 + 5 * j)))))))), (qi, .inl (G.2.1 4, 2, .inr (.inr (.inr (.inr (fun j => some (pcA b qe qi qk a1 a2 a3 ae ad (78 + 5 * j)))))))), (qk, .inl (G.2.1 3, 2, .inl (exI (fun _ : Fin 2 => 0))))] ++ (WD G a1 D00 ++ (WT G a2 T00 ++ (WR G a3 R00 ++ (pcW G ae 10 ++ pcW G ad 2)))) := by
    rw [← pcW_e b qe qi qk a1 a2 a3 ae ad, ← pcW_i b qe qi qk a1 a2 a3 ae ad]
    rfl
  rw [e]
  exact (List.Perm.cons _ (pm3 (WD G a1 D00) (WT G a2 T00) (WR G a3 R00) [_, _, _] (pcW G ae 10 ++ pcW G ad 2)).symm)
end PCE
theorem gc142 : Cond.methodLink RX4 1 objectInit ∈ GW := gw_in (List.mem_of_getElem? (i := 142) (by decide +kernel)) (by decide +kernel)
theorem gc145 : Cond.classLink RX4 7 RX0 ∈ GW := gw_in (List.mem_of_getElem? (i := 145) (by decide +kernel)) (by decide +kernel)
theorem gc146 : Cond.instantiable RX0 11 ∈ GW := gw_in (List.mem_of_getElem? (i := 146) (by decide +kernel)) (by decide +kernel)
theorem gc124 : Cond.initialized RX0 ∈ GW := gw_in (List.mem_of_getElem? (i := 124) (by decide +kernel)) (by decide +kernel)
theorem gc147 : Cond.methodLinkNest RX4 9 yX0_init "BothToBlame" ∈ NW := nw_in (List.mem_of_getElem? (i := 147) (by decide +kernel)) (by decide +kernel)
theorem gc148 : Cond.instanceMethod yX0_init ∈ GW := gw_in (List.mem_of_getElem? (i := 148) (by decide +kernel)) (by decide +kernel)
theorem gc149 : Cond.code yX0_init cX0_init 1 (none) ∈ GW := gw_in (List.mem_of_getElem? (i := 149) (by decide +kernel)) (by decide +kernel)
theorem gc260 : Cond.fieldLink RX4 10 "BothToBlame" "reader" "LBothToBlame$Reader;" ∈ GW := gw_in (List.mem_of_getElem? (i := 260) (by decide +kernel)) (by decide +kernel)
theorem gc226 : Cond.classLink RX4 16 RX2 ∈ GW := gw_in (List.mem_of_getElem? (i := 226) (by decide +kernel)) (by decide +kernel)
theorem gc227 : Cond.methodLinkNest RX4 18 yX2_init "BothToBlame" ∈ NW := nw_in (List.mem_of_getElem? (i := 227) (by decide +kernel)) (by decide +kernel)
theorem gc261 : Cond.fieldLink RX4 19 "BothToBlame" "now" "LBothToBlame$Told;" ∈ GW := gw_in (List.mem_of_getElem? (i := 261) (by decide +kernel)) (by decide +kernel)
theorem gc228 : Cond.classLink RX4 23 RX1 ∈ GW := gw_in (List.mem_of_getElem? (i := 228) (by decide +kernel)) (by decide +kernel)
theorem gc229 : Cond.instantiable RX1 7 ∈ GW := gw_in (List.mem_of_getElem? (i := 229) (by decide +kernel)) (by decide +kernel)
theorem gc126 : Cond.initialized RX1 ∈ GW := gw_in (List.mem_of_getElem? (i := 126) (by decide +kernel)) (by decide +kernel)
theorem gc230 : Cond.methodLinkNest RX4 25 yX1_init "BothToBlame" ∈ NW := nw_in (List.mem_of_getElem? (i := 230) (by decide +kernel)) (by decide +kernel)
theorem gc231 : Cond.instanceMethod yX1_init ∈ GW := gw_in (List.mem_of_getElem? (i := 231) (by decide +kernel)) (by decide +kernel)
theorem gc232 : Cond.code yX1_init cX1_init 1 (none) ∈ GW := gw_in (List.mem_of_getElem? (i := 232) (by decide +kernel)) (by decide +kernel)
theorem gc262 : Cond.fieldLink RX4 26 "BothToBlame" "reckoning" "LBothToBlame$Reckoning;" ∈ GW := gw_in (List.mem_of_getElem? (i := 262) (by decide +kernel)) (by decide +kernel)
theorem gc263 : Cond.fieldLink RX4 30 "BothToBlame" "earlier" "[LBothToBlame$Told;" ∈ GW := gw_in (List.mem_of_getElem? (i := 263) (by decide +kernel)) (by decide +kernel)
theorem gc264 : Cond.fieldLink RX4 34 "BothToBlame" "images" "[LBothToBlame$Told;" ∈ GW := gw_in (List.mem_of_getElem? (i := 264) (by decide +kernel)) (by decide +kernel)
theorem gc265 : Cond.fieldLink RX4 37 "BothToBlame" "kept" "[Z" ∈ GW := gw_in (List.mem_of_getElem? (i := 265) (by decide +kernel)) (by decide +kernel)
theorem gc266 : Cond.fieldLink RX4 41 "BothToBlame" "tapeLength" "I" ∈ GW := gw_in (List.mem_of_getElem? (i := 266) (by decide +kernel)) (by decide +kernel)
theorem gc267 : Cond.fieldLink RX4 45 "BothToBlame" "undoable" "I" ∈ GW := gw_in (List.mem_of_getElem? (i := 267) (by decide +kernel)) (by decide +kernel)
theorem gc268 : Cond.fieldLink RX4 48 "BothToBlame" "nextAct" "I" ∈ GW := gw_in (List.mem_of_getElem? (i := 268) (by decide +kernel)) (by decide +kernel)
theorem gc269 : Cond.fieldLink RX4 51 "BothToBlame" "latestTrouble" "I" ∈ GW := gw_in (List.mem_of_getElem? (i := 269) (by decide +kernel)) (by decide +kernel)
theorem gc270 : Cond.fieldLink RX4 54 "BothToBlame" "latestPlace" "I" ∈ GW := gw_in (List.mem_of_getElem? (i := 270) (by decide +kernel)) (by decide +kernel)
theorem gc271 : Cond.fieldLink RX4 57 "BothToBlame" "latestFault" "I" ∈ GW := gw_in (List.mem_of_getElem? (i := 271) (by decide +kernel)) (by decide +kernel)
theorem vi_X4_9 : VI RX4 9 yX0_init cX0_init 1 := ⟨gc147, gc148, gc124, gc149, ⟨by decide +kernel, by decide +kernel, by decide +kernel⟩, rfl⟩
theorem vi_X4_18 : VI RX4 18 yX2_init cX2_init 1 := ⟨gc227, gc154, gc125, gc155, ⟨by decide +kernel, by decide +kernel, by decide +kernel⟩, rfl⟩
theorem vi_X4_25 : VI RX4 25 yX1_init cX1_init 1 := ⟨gc230, gc231, gc126, gc232, ⟨by decide +kernel, by decide +kernel, by decide +kernel⟩, rfl⟩
theorem fq_X4_10 {p : Program} {l : Launch} {e : Env} {R : Room} {s : State} {m : MethodId} {args : Array Value} {below : List Frame} {meth : Method} {c : Code} {H : Heap} {locs : List Loc} {cells slots : Nat} {Q : State → Prop} {cc : ByteArray} {pc : Nat} {ls : Array Slot} {rest : List Value} {A : Nat → Prop} {G : GT} {ws ws' : va_W} {a : Nat} (hx : p.tables.exec = Jvm.exec) (hb : c.code = cc) (hown : s.vm.findClass RX4 = some m.cls) (hts : ∀ w ∈ GW, w.before args s = true) (hE : EV G A s s.heap) (hin : meth.name = "<init>") (hs : SI G A s H locs ws) (q0 : Nat) {fs : List Value} (he : ws[q0]? = some (a, .inr (3, fs))) {x : Nat} (hl : 0 < fs.length) (hw : ws.set q0 (a, .inr (3, fs.set 0 (.ref x))) = ws') (hdg : decode cc pc = .ok (.putfield 10, 3))
    (kk : ∀ (H1 : Heap) (locs1 : List Loc), SI G A s H1 locs1 ws' → W p l e R s m args below meth c H1 locs1 cells slots Q (F0 m (pc + 3) ls rest)) : W p l e R s m args below meth c H locs cells slots Q (F0 m pc ls (.ref x :: .ref a :: rest)) :=
  va_putF (D := G.1) (ci := 3) (v := .ref x) (ty := .object "BothToBlame$Reader") (C := RX4) (T := TX4) (N := 12) hx hb hts inGX4 tyX4 tyX4_ok nmX4 hown hE.1 hs.1 hs.2.1 hs.2.2 q0 he rfl 0 (by decide) (hts _ gc260) (fun _ h9 => h9) rfl hin rfl (by decide +kernel) rfl rfl hl hdg (fun H1 locs1 hP hD hS => kk H1 locs1 (hw ▸ ⟨hP, hD, hS⟩))
theorem fq_X4_19 {p : Program} {l : Launch} {e : Env} {R : Room} {s : State} {m : MethodId} {args : Array Value} {below : List Frame} {meth : Method} {c : Code} {H : Heap} {locs : List Loc} {cells slots : Nat} {Q : State → Prop} {cc : ByteArray} {pc : Nat} {ls : Array Slot} {rest : List Value} {A : Nat → Prop} {G : GT} {ws ws' : va_W} {a : Nat} (hx : p.tables.exec = Jvm.exec) (hb : c.code = cc) (hown : s.vm.findClass RX4 = some m.cls) (hts : ∀ w ∈ GW, w.before args s = true) (hE : EV G A s s.heap) (hin : meth.name = "<init>") (hs : SI G A s H locs ws) (q0 : Nat) {fs : List Value} (he : ws[q0]? = some (a, .inr (3, fs))) {x : Nat} (hl : 1 < fs.length) (hw : ws.set q0 (a, .inr (3, fs.set 1 (.ref x))) = ws') (hdg : decode cc pc = .ok (.putfield 19, 3))
    (kk : ∀ (H1 : Heap) (locs1 : List Loc), SI G A s H1 locs1 ws' → W p l e R s m args below meth c H1 locs1 cells slots Q (F0 m (pc + 3) ls rest)) : W p l e R s m args below meth c H locs cells slots Q (F0 m pc ls (.ref x :: .ref a :: rest)) :=
  va_putF (D := G.1) (ci := 3) (v := .ref x) (ty := .object "BothToBlame$Told") (C := RX4) (T := TX4) (N := 12) hx hb hts inGX4 tyX4 tyX4_ok nmX4 hown hE.1 hs.1 hs.2.1 hs.2.2 q0 he rfl 1 (by decide) (hts _ gc261) (fun _ h9 => h9) rfl hin rfl (by decide +kernel) rfl rfl hl hdg (fun H1 locs1 hP hD hS => kk H1 locs1 (hw ▸ ⟨hP, hD, hS⟩))
theorem fq_X4_26 {p : Program} {l : Launch} {e : Env} {R : Room} {s : State} {m : MethodId} {args : Array Value} {below : List Frame} {meth : Method} {c : Code} {H : Heap} {locs : List Loc} {cells slots : Nat} {Q : State → Prop} {cc : ByteArray} {pc : Nat} {ls : Array Slot} {rest : List Value} {A : Nat → Prop} {G : GT} {ws ws' : va_W} {a : Nat} (hx : p.tables.exec = Jvm.exec) (hb : c.code = cc) (hown : s.vm.findClass RX4 = some m.cls) (hts : ∀ w ∈ GW, w.before args s = true) (hE : EV G A s s.heap) (hin : meth.name = "<init>") (hs : SI G A s H locs ws) (q0 : Nat) {fs : List Value} (he : ws[q0]? = some (a, .inr (3, fs))) {x : Nat} (hl : 2 < fs.length) (hw : ws.set q0 (a, .inr (3, fs.set 2 (.ref x))) = ws') (hdg : decode cc pc = .ok (.putfield 26, 3))
    (kk : ∀ (H1 : Heap) (locs1 : List Loc), SI G A s H1 locs1 ws' → W p l e R s m args below meth c H1 locs1 cells slots Q (F0 m (pc + 3) ls rest)) : W p l e R s m args below meth c H locs cells slots Q (F0 m pc ls (.ref x :: .ref a :: rest)) :=
  va_putF (D := G.1) (ci := 3) (v := .ref x) (ty := .object "BothToBlame$Reckoning") (C := RX4) (T := TX4) (N := 12) hx hb hts inGX4 tyX4 tyX4_ok nmX4 hown hE.1 hs.1 hs.2.1 hs.2.2 q0 he rfl 2 (by decide) (hts _ gc262) (fun _ h9 => h9) rfl hin rfl (by decide +kernel) rfl rfl hl hdg (fun H1 locs1 hP hD hS => kk H1 locs1 (hw ▸ ⟨hP, hD, hS⟩))
theorem fq_X4_30 {p : Program} {l : Launch} {e : Env} {R : Room} {s : State} {m : MethodId} {args : Array Value} {below : List Frame} {meth : Method} {c : Code} {H : Heap} {locs : List Loc} {cells slots : Nat} {Q : State → Prop} {cc : ByteArray} {pc : Nat} {ls : Array Slot} {rest : List Value} {A : Nat → Prop} {G : GT} {ws ws' : va_W} {a : Nat} (hx : p.tables.exec = Jvm.exec) (hb : c.code = cc) (hown : s.vm.findClass RX4 = some m.cls) (hts : ∀ w ∈ GW, w.before args s = true) (hE : EV G A s s.heap) (hin : meth.name = "<init>") (hs : SI G A s H locs ws) (q0 : Nat) {fs : List Value} (he : ws[q0]? = some (a, .inr (3, fs))) {x : Nat} (hl : 3 < fs.length) (hw : ws.set q0 (a, .inr (3, fs.set 3 (.ref x))) = ws') (hdg : decode cc pc = .ok (.putfield 30, 3))
    (kk : ∀ (H1 : Heap) (locs1 : List Loc), SI G A s H1 locs1 ws' → W p l e R s m args below meth c H1 locs1 cells slots Q (F0 m (pc + 3) ls rest)) : W p l e R s m args below meth c H locs cells slots Q (F0 m pc ls (.ref x :: .ref a :: rest)) :=
  va_putF (D := G.1) (ci := 3) (v := .ref x) (ty := .array (.object "BothToBlame$Told")) (C := RX4) (T := TX4) (N := 12) hx hb hts inGX4 tyX4 tyX4_ok nmX4 hown hE.1 hs.1 hs.2.1 hs.2.2 q0 he rfl 3 (by decide) (hts _ gc263) (fun _ h9 => h9) rfl hin rfl (by decide +kernel) rfl rfl hl hdg (fun H1 locs1 hP hD hS => kk H1 locs1 (hw ▸ ⟨hP, hD, hS⟩))
theorem fq_X4_34 {p : Program} {l : Launch} {e : Env} {R : Room} {s : State} {m : MethodId} {args : Array Value} {below : List Frame} {meth : Method} {c : Code} {H : Heap} {locs : List Loc} {cells slots : Nat} {Q : State → Prop} {cc : ByteArray} {pc : Nat} {ls : Array Slot} {rest : List Value} {A : Nat → Prop} {G : GT} {ws ws' : va_W} {a : Nat} (hx : p.tables.exec = Jvm.exec) (hb : c.code = cc) (hown : s.vm.findClass RX4 = some m.cls) (hts : ∀ w ∈ GW, w.before args s = true) (hE : EV G A s s.heap) (hin : meth.name = "<init>") (hs : SI G A s H locs ws) (q0 : Nat) {fs : List Value} (he : ws[q0]? = some (a, .inr (3, fs))) {x : Nat} (hl : 4 < fs.length) (hw : ws.set q0 (a, .inr (3, fs.set 4 (.ref x))) = ws') (hdg : decode cc pc = .ok (.putfield 34, 3))
    (kk : ∀ (H1 : Heap) (locs1 : List Loc), SI G A s H1 locs1 ws' → W p l e R s m args below meth c H1 locs1 cells slots Q (F0 m (pc + 3) ls rest)) : W p l e R s m args below meth c H locs cells slots Q (F0 m pc ls (.ref x :: .ref a :: rest)) :=
  va_putF (D := G.1) (ci := 3) (v := .ref x) (ty := .array (.object "BothToBlame$Told")) (C := RX4) (T := TX4) (N := 12) hx hb hts inGX4 tyX4 tyX4_ok nmX4 hown hE.1 hs.1 hs.2.1 hs.2.2 q0 he rfl 4 (by decide) (hts _ gc264) (fun _ h9 => h9) rfl hin rfl (by decide +kernel) rfl rfl hl hdg (fun H1 locs1 hP hD hS => kk H1 locs1 (hw ▸ ⟨hP, hD, hS⟩))
theorem fq_X4_37 {p : Program} {l : Launch} {e : Env} {R : Room} {s : State} {m : MethodId} {args : Array Value} {below : List Frame} {meth : Method} {c : Code} {H : Heap} {locs : List Loc} {cells slots : Nat} {Q : State → Prop} {cc : ByteArray} {pc : Nat} {ls : Array Slot} {rest : List Value} {A : Nat → Prop} {G : GT} {ws ws' : va_W} {a : Nat} (hx : p.tables.exec = Jvm.exec) (hb : c.code = cc) (hown : s.vm.findClass RX4 = some m.cls) (hts : ∀ w ∈ GW, w.before args s = true) (hE : EV G A s s.heap) (hin : meth.name = "<init>") (hs : SI G A s H locs ws) (q0 : Nat) {fs : List Value} (he : ws[q0]? = some (a, .inr (3, fs))) {x : Nat} (hl : 5 < fs.length) (hw : ws.set q0 (a, .inr (3, fs.set 5 (.ref x))) = ws') (hdg : decode cc pc = .ok (.putfield 37, 3))
    (kk : ∀ (H1 : Heap) (locs1 : List Loc), SI G A s H1 locs1 ws' → W p l e R s m args below meth c H1 locs1 cells slots Q (F0 m (pc + 3) ls rest)) : W p l e R s m args below meth c H locs cells slots Q (F0 m pc ls (.ref x :: .ref a :: rest)) :=
  va_putF (D := G.1) (ci := 3) (v := .ref x) (ty := .array (.boolean)) (C := RX4) (T := TX4) (N := 12) hx hb hts inGX4 tyX4 tyX4_ok nmX4 hown hE.1 hs.1 hs.2.1 hs.2.2 q0 he rfl 5 (by decide) (hts _ gc265) (fun _ h9 => h9) rfl hin rfl (by decide +kernel) rfl rfl hl hdg (fun H1 locs1 hP hD hS => kk H1 locs1 (hw ▸ ⟨hP, hD, hS⟩))
theorem fq_X4_41 {p : Program} {l : Launch} {e : Env} {R : Room} {s : State} {m : MethodId} {args : Array Value} {below : List Frame} {meth : Method} {c : Code} {H : Heap} {locs : List Loc} {cells slots : Nat} {Q : State → Prop} {cc : ByteArray} {pc : Nat} {ls : Array Slot} {rest : List Value} {A : Nat → Prop} {G : GT} {ws ws' : va_W} {a : Nat} (hx : p.tables.exec = Jvm.exec) (hb : c.code = cc) (hown : s.vm.findClass RX4 = some m.cls) (hts : ∀ w ∈ GW, w.before args s = true) (hE : EV G A s s.heap) (hin : meth.name = "<init>") (hs : SI G A s H locs ws) (q0 : Nat) {fs : List Value} (he : ws[q0]? = some (a, .inr (3, fs))) {x : Int32} (hl : 6 < fs.length) (hw : ws.set q0 (a, .inr (3, fs.set 6 (.int x))) = ws') (hdg : decode cc pc = .ok (.putfield 41, 3))
    (kk : ∀ (H1 : Heap) (locs1 : List Loc), SI G A s H1 locs1 ws' → W p l e R s m args below meth c H1 locs1 cells slots Q (F0 m (pc + 3) ls rest)) : W p l e R s m args below meth c H locs cells slots Q (F0 m pc ls (.int x :: .ref a :: rest)) :=
  va_put (D := G.1) (ci := 3) (v := .int x) (ty := .int) (C := RX4) (T := TX4) (N := 12) hx hb hts inGX4 tyX4 tyX4_ok nmX4 hown hE.1 hs.1 hs.2.1 hs.2.2 q0 he rfl 6 (by decide) (hts _ gc266) (fun _ h9 => h9) rfl (by decide +kernel) rfl rfl hl hdg (fun H1 locs1 hP hD hS => kk H1 locs1 (hw ▸ ⟨hP, hD, hS⟩))
theorem fq_X4_45 {p : Program} {l : Launch} {e : Env} {R : Room} {s : State} {m : MethodId} {args : Array Value} {below : List Frame} {meth : Method} {c : Code} {H : Heap} {locs : List Loc} {cells slots : Nat} {Q : State → Prop} {cc : ByteArray} {pc : Nat} {ls : Array Slot} {rest : List Value} {A : Nat → Prop} {G : GT} {ws ws' : va_W} {a : Nat} (hx : p.tables.exec = Jvm.exec) (hb : c.code = cc) (hown : s.vm.findClass RX4 = some m.cls) (hts : ∀ w ∈ GW, w.before args s = true) (hE : EV G A s s.heap) (hin : meth.name = "<init>") (hs : SI G A s H locs ws) (q0 : Nat) {fs : List Value} (he : ws[q0]? = some (a, .inr (3, fs))) {x : Int32} (hl : 7 < fs.length) (hw : ws.set q0 (a, .inr (3, fs.set 7 (.int x))) = ws') (hdg : decode cc pc = .ok (.putfield 45, 3))
    (kk : ∀ (H1 : Heap) (locs1 : List Loc), SI G A s H1 locs1 ws' → W p l e R s m args below meth c H1 locs1 cells slots Q (F0 m (pc + 3) ls rest)) : W p l e R s m args below meth c H locs cells slots Q (F0 m pc ls (.int x :: .ref a :: rest)) :=
  va_put (D := G.1) (ci := 3) (v := .int x) (ty := .int) (C := RX4) (T := TX4) (N := 12) hx hb hts inGX4 tyX4 tyX4_ok nmX4 hown hE.1 hs.1 hs.2.1 hs.2.2 q0 he rfl 7 (by decide) (hts _ gc267) (fun _ h9 => h9) rfl (by decide +kernel) rfl rfl hl hdg (fun H1 locs1 hP hD hS => kk H1 locs1 (hw ▸ ⟨hP, hD, hS⟩))
theorem fq_X4_48 {p : Program} {l : Launch} {e : Env} {R : Room} {s : State} {m : MethodId} {args : Array Value} {below : List Frame} {meth : Method} {c : Code} {H : Heap} {locs : List Loc} {cells slots : Nat} {Q : State → Prop} {cc : ByteArray} {pc : Nat} {ls : Array Slot} {rest : List Value} {A : Nat → Prop} {G : GT} {ws ws' : va_W} {a : Nat} (hx : p.tables.exec = Jvm.exec) (hb : c.code = cc) (hown : s.vm.findClass RX4 = some m.cls) (hts : ∀ w ∈ GW, w.before args s = true) (hE : EV G A s s.heap) (hin : meth.name = "<init>") (hs : SI G A s H locs ws) (q0 : Nat) {fs : List Value} (he : ws[q0]? = some (a, .inr (3, fs))) {x : Int32} (hl : 8 < fs.length) (hw : ws.set q0 (a, .inr (3, fs.set 8 (.int x))) = ws') (hdg : decode cc pc = .ok (.putfield 48, 3))
    (kk : ∀ (H1 : Heap) (locs1 : List Loc), SI G A s H1 locs1 ws' → W p l e R s m args below meth c H1 locs1 cells slots Q (F0 m (pc + 3) ls rest)) : W p l e R s m args below meth c H locs cells slots Q (F0 m pc ls (.int x :: .ref a :: rest)) :=
  va_put (D := G.1) (ci := 3) (v := .int x) (ty := .int) (C := RX4) (T := TX4) (N := 12) hx hb hts inGX4 tyX4 tyX4_ok nmX4 hown hE.1 hs.1 hs.2.1 hs.2.2 q0 he rfl 8 (by decide) (hts _ gc268) (fun _ h9 => h9) rfl (by decide +kernel) rfl rfl hl hdg (fun H1 locs1 hP hD hS => kk H1 locs1 (hw ▸ ⟨hP, hD, hS⟩))
theorem fq_X4_51 {p : Program} {l : Launch} {e : Env} {R : Room} {s : State} {m : MethodId} {args : Array Value} {below : List Frame} {meth : Method} {c : Code} {H : Heap} {locs : List Loc} {cells slots : Nat} {Q : State → Prop} {cc : ByteArray} {pc : Nat} {ls : Array Slot} {rest : List Value} {A : Nat → Prop} {G : GT} {ws ws' : va_W} {a : Nat} (hx : p.tables.exec = Jvm.exec) (hb : c.code = cc) (hown : s.vm.findClass RX4 = some m.cls) (hts : ∀ w ∈ GW, w.before args s = true) (hE : EV G A s s.heap) (hin : meth.name = "<init>") (hs : SI G A s H locs ws) (q0 : Nat) {fs : List Value} (he : ws[q0]? = some (a, .inr (3, fs))) {x : Int32} (hl : 9 < fs.length) (hw : ws.set q0 (a, .inr (3, fs.set 9 (.int x))) = ws') (hdg : decode cc pc = .ok (.putfield 51, 3))
    (kk : ∀ (H1 : Heap) (locs1 : List Loc), SI G A s H1 locs1 ws' → W p l e R s m args below meth c H1 locs1 cells slots Q (F0 m (pc + 3) ls rest)) : W p l e R s m args below meth c H locs cells slots Q (F0 m pc ls (.int x :: .ref a :: rest)) :=
  va_put (D := G.1) (ci := 3) (v := .int x) (ty := .int) (C := RX4) (T := TX4) (N := 12) hx hb hts inGX4 tyX4 tyX4_ok nmX4 hown hE.1 hs.1 hs.2.1 hs.2.2 q0 he rfl 9 (by decide) (hts _ gc269) (fun _ h9 => h9) rfl (by decide +kernel) rfl rfl hl hdg (fun H1 locs1 hP hD hS => kk H1 locs1 (hw ▸ ⟨hP, hD, hS⟩))
theorem fq_X4_54 {p : Program} {l : Launch} {e : Env} {R : Room} {s : State} {m : MethodId} {args : Array Value} {below : List Frame} {meth : Method} {c : Code} {H : Heap} {locs : List Loc} {cells slots : Nat} {Q : State → Prop} {cc : ByteArray} {pc : Nat} {ls : Array Slot} {rest : List Value} {A : Nat → Prop} {G : GT} {ws ws' : va_W} {a : Nat} (hx : p.tables.exec = Jvm.exec) (hb : c.code = cc) (hown : s.vm.findClass RX4 = some m.cls) (hts : ∀ w ∈ GW, w.before args s = true) (hE : EV G A s s.heap) (hin : meth.name = "<init>") (hs : SI G A s H locs ws) (q0 : Nat) {fs : List Value} (he : ws[q0]? = some (a, .inr (3, fs))) {x : Int32} (hl : 10 < fs.length) (hw : ws.set q0 (a, .inr (3, fs.set 10 (.int x))) = ws') (hdg : decode cc pc = .ok (.putfield 54, 3))
    (kk : ∀ (H1 : Heap) (locs1 : List Loc), SI G A s H1 locs1 ws' → W p l e R s m args below meth c H1 locs1 cells slots Q (F0 m (pc + 3) ls rest)) : W p l e R s m args below meth c H locs cells slots Q (F0 m pc ls (.int x :: .ref a :: rest)) :=
  va_put (D := G.1) (ci := 3) (v := .int x) (ty := .int) (C := RX4) (T := TX4) (N := 12) hx hb hts inGX4 tyX4 tyX4_ok nmX4 hown hE.1 hs.1 hs.2.1 hs.2.2 q0 he rfl 10 (by decide) (hts _ gc270) (fun _ h9 => h9) rfl (by decide +kernel) rfl rfl hl hdg (fun H1 locs1 hP hD hS => kk H1 locs1 (hw ▸ ⟨hP, hD, hS⟩))
theorem fq_X4_57 {p : Program} {l : Launch} {e : Env} {R : Room} {s : State} {m : MethodId} {args : Array Value} {below : List Frame} {meth : Method} {c : Code} {H : Heap} {locs : List Loc} {cells slots : Nat} {Q : State → Prop} {cc : ByteArray} {pc : Nat} {ls : Array Slot} {rest : List Value} {A : Nat → Prop} {G : GT} {ws ws' : va_W} {a : Nat} (hx : p.tables.exec = Jvm.exec) (hb : c.code = cc) (hown : s.vm.findClass RX4 = some m.cls) (hts : ∀ w ∈ GW, w.before args s = true) (hE : EV G A s s.heap) (hin : meth.name = "<init>") (hs : SI G A s H locs ws) (q0 : Nat) {fs : List Value} (he : ws[q0]? = some (a, .inr (3, fs))) {x : Int32} (hl : 11 < fs.length) (hw : ws.set q0 (a, .inr (3, fs.set 11 (.int x))) = ws') (hdg : decode cc pc = .ok (.putfield 57, 3))
    (kk : ∀ (H1 : Heap) (locs1 : List Loc), SI G A s H1 locs1 ws' → W p l e R s m args below meth c H1 locs1 cells slots Q (F0 m (pc + 3) ls rest)) : W p l e R s m args below meth c H locs cells slots Q (F0 m pc ls (.int x :: .ref a :: rest)) :=
  va_put (D := G.1) (ci := 3) (v := .int x) (ty := .int) (C := RX4) (T := TX4) (N := 12) hx hb hts inGX4 tyX4 tyX4_ok nmX4 hown hE.1 hs.1 hs.2.1 hs.2.2 q0 he rfl 11 (by decide) (hts _ gc271) (fun _ h9 => h9) rfl (by decide +kernel) rfl rfl hl hdg (fun H1 locs1 hP hD hS => kk H1 locs1 (hw ▸ ⟨hP, hD, hS⟩))
set_option maxHeartbeats 8000000 in
set_option maxRecDepth 100000 in
theorem c_X4_init (G : GT) (l : Launch) (b : Nat) : MC G l yX4_init cX4_init 2 3 52 87 2186 b ([(b, .inr (3, [.null, .null, .null, .null, .null, .null, .int 0, .int 0, .int 0, .int 0, .int 0, .int 0]))] : va_W) (fun w => ∃ a : Nat → Nat, a 0 = b ∧ w = WX G a X00) := by
  refine MC.of (by decide) (Nat.le_of_ble_eq_true rfl) ?_
  intro p e s m args below meth c A ls hx hb hr hml hown hts hlk hin hE hAO hA hs hl Q hQ
  have hl : lv_has ls 2 [(0, .ref b)] := hl
  refine lv_aload_n hx hb dX4_init_0 rfl (lv_at hl 0 rfl) ?_
  refine W.objInit hx hb hown (hts _ gc142) (hts _ gc143) (hts _ gc144) rfl (by rw [hml]; exact hl.1) rfl dX4_init_1 (Nat.le_of_ble_eq_true rfl) (Nat.le_of_ble_eq_true rfl) ?_
  refine W.eq (g2 := F0 m 4 ls []) rfl ?_
  refine lv_aload_n hx hb dX4_init_4 rfl (lv_at hl 0 rfl) ?_
  refine sx_new (ci := 0) (fs := [.null, .null, .null, .int 0, .int 0, .int 0, .int 0, .int 0, .int 0, .long 0, .int 0]) (C := RX0) (T := TX0) (N := 11) hx hb inGX0 tyX0 tyX0_ok hown gc145 gc146 gc124 hts hE hs hA rfl (fun j hj => by rcases (show j = 0 ∨ j = 1 ∨ j = 2 ∨ j = 3 ∨ j = 4 ∨ j = 5 ∨ j = 6 ∨ j = 7 ∨ j = 8 ∨ j = 9 ∨ j = 10 by omega) with rfl | rfl | rfl | rfl | rfl | rfl | rfl | rfl | rfl | rfl | rfl <;> rfl) (Nat.le_of_ble_eq_true rfl) (Nat.le_of_ble_eq_true rfl) dX4_init_5 (fun q H hs => ?_)
  refine lv_dup hx hb dX4_init_8 rfl ?_
  refine sx_IN (wr := ((b, .inr (3, [.null, .null, .null, .null, .null, .null, .int 0, .int 0, .int 0, .int 0, .int 0, .int 0])) :: ([]) : va_W)) (rest := [.ref q, .ref b]) (c_X0_init G l q) vi_X4_9 ⟨(Nat.le_of_ble_eq_true rfl), (Nat.le_of_ble_eq_true rfl)⟩ hx hb hml hown hts hE hAO hA hs ⟨(Nat.le_of_ble_eq_true rfl), (Nat.le_of_ble_eq_true rfl)⟩ rfl hl.1 (Nat.le_of_ble_eq_true rfl) dX4_init_9 List.perm_append_comm (fun w1 H locs hw hs2 => ?_)
  obtain ⟨a1, ea1, rfl⟩ := hw
  subst ea1
  have hs : SI G A s H _ ((b, .inr (3, [.null, .null, .null, .null, .null, .null, .int 0, .int 0, .int 0, .int 0, .int 0, .int 0])) :: (WD G a1 D00) : va_W) := hs2
  refine fq_X4_10 hx hb hown hts hE hin hs 0 rfl (ws' := ((b, .inr (3, [.ref (a1 0), .null, .null, .null, .null, .null, .int 0, .int 0, .int 0, .int 0, .int 0, .int 0])) :: (WD G a1 D00) : va_W)) (Nat.le_of_ble_eq_true rfl) rfl dX4_init_12 (fun H locs hs => ?_)
  refine lv_aload_n hx hb dX4_init_15 rfl (lv_at hl 0 rfl) ?_
  refine sx_new (ci := 2) (fs := [.int 0, .int 0, .null, .null, .null, .null]) (C := RX2) (T := TX2) (N := 6) hx hb inGX2 tyX2 tyX2_ok hown gc226 gc152 gc125 hts hE hs hA rfl (fun j hj => by rcases (show j = 0 ∨ j = 1 ∨ j = 2 ∨ j = 3 ∨ j = 4 ∨ j = 5 by omega) with rfl | rfl | rfl | rfl | rfl | rfl <;> rfl) (Nat.le_of_ble_eq_true rfl) (Nat.le_of_ble_eq_true rfl) dX4_init_16 (fun q H hs => ?_)
  refine lv_dup hx hb dX4_init_19 rfl ?_
  refine sx_IN (wr := ((b, .inr (3, [.ref (a1 0), .null, .null, .null, .null, .null, .int 0, .int 0, .int 0, .int 0, .int 0, .int 0])) :: (WD G a1 D00) : va_W)) (rest := [.ref q, .ref b]) (c_X2_init G l q) vi_X4_18 ⟨(Nat.le_of_ble_eq_true rfl), (Nat.le_of_ble_eq_true rfl)⟩ hx hb hml hown hts hE hAO hA hs ⟨(Nat.le_of_ble_eq_true rfl), (Nat.le_of_ble_eq_true rfl)⟩ rfl hl.1 (Nat.le_of_ble_eq_true rfl) dX4_init_20 List.perm_append_comm (fun w1 H locs hw hs2 => ?_)
  obtain ⟨a2, ea2, rfl⟩ := hw
  subst ea2
  have hs : SI G A s H _ ((b, .inr (3, [.ref (a1 0), .null, .null, .null, .null, .null, .int 0, .int 0, .int 0, .int 0, .int 0, .int 0])) :: (WD G a1 D00 ++ (WT G a2 T00)) : va_W) := hs2
  refine fq_X4_19 hx hb hown hts hE hin hs 0 rfl (ws' := ((b, .inr (3, [.ref (a1 0), .ref (a2 0), .null, .null, .null, .null, .int 0, .int 0, .int 0, .int 0, .int 0, .int 0])) :: (WD G a1 D00 ++ (WT G a2 T00)) : va_W)) (Nat.le_of_ble_eq_true rfl) rfl dX4_init_23 (fun H locs hs => ?_)
  refine lv_aload_n hx hb dX4_init_26 rfl (lv_at hl 0 rfl) ?_
  refine sx_new (ci := 1) (fs := [.null, .null, .null, .null, .null, .null, .int 0]) (C := RX1) (T := TX1) (N := 7) hx hb inGX1 tyX1 tyX1_ok hown gc228 gc229 gc126 hts hE hs hA rfl (fun j hj => by rcases (show j = 0 ∨ j = 1 ∨ j = 2 ∨ j = 3 ∨ j = 4 ∨ j = 5 ∨ j = 6 by omega) with rfl | rfl | rfl | rfl | rfl | rfl | rfl <;> rfl) (Nat.le_of_ble_eq_true rfl) (Nat.le_of_ble_eq_true rfl) dX4_init_27 (fun q H hs => ?_)
  refine lv_dup hx hb dX4_init_30 rfl ?_
  refine sx_IN (wr := ((b, .inr (3, [.ref (a1 0), .ref (a2 0), .null, .null, .null, .null, .int 0, .int 0, .int 0, .int 0, .int 0, .int 0])) :: (WD G a1 D00 ++ (WT G a2 T00)) : va_W)) (rest := [.ref q, .ref b]) (c_X1_init G l q) vi_X4_25 ⟨(Nat.le_of_ble_eq_true rfl), (Nat.le_of_ble_eq_true rfl)⟩ hx hb hml hown hts hE hAO hA hs ⟨(Nat.le_of_ble_eq_true rfl), (Nat.le_of_ble_eq_true rfl)⟩ rfl hl.1 (Nat.le_of_ble_eq_true rfl) dX4_init_31 List.perm_append_comm (fun w1 H locs hw hs2 => ?_)
  obtain ⟨a3, ea3, rfl⟩ := hw
  subst ea3
  have hs : SI G A s H _ ((b, .inr (3, [.ref (a1 0), .ref (a2 0), .null, .null, .null, .null, .int 0, .int 0, .int 0, .int 0, .int 0, .int 0])) :: (WD G a1 D00 ++ (WT G a2 T00 ++ (WR G a3 R00))) : va_W) := hs2
  refine fq_X4_26 hx hb hown hts hE hin hs 0 rfl (ws' := ((b, .inr (3, [.ref (a1 0), .ref (a2 0), .ref (a3 0), .null, .null, .null, .int 0, .int 0, .int 0, .int 0, .int 0, .int 0])) :: (WD G a1 D00 ++ (WT G a2 T00 ++ (WR G a3 R00))) : va_W)) (Nat.le_of_ble_eq_true rfl) rfl dX4_init_34 (fun H locs hs => ?_)
  refine lv_aload_n hx hb dX4_init_37 rfl (lv_at hl 0 rfl) ?_
  refine lv_bipush (v := (10 : Int32)) hx hb dX4_init_38 (by decide) ?_
  refine sx_newQ (N := 10) hx hb hown gc226 hts hE hAO hs hA (by decide) rfl (Nat.le_of_ble_eq_true rfl) (Nat.le_of_ble_eq_true rfl) (Nat.le_of_ble_eq_true rfl) dX4_init_40 (fun qe H hs => ?_)
  have hs : SI G A s H _ ((b, .inr (3, [.ref (a1 0), .ref (a2 0), .ref (a3 0), .null, .null, .null, .int 0, .int 0, .int 0, .int 0, .int 0, .int 0])) :: (WD G a1 D00 ++ (WT G a2 T00 ++ (WR G a3 R00 ++ ([(qe, .inl (G.2.1 4, 10, .inr (.inr (.inr (.inr (fun _ => none))))))])))) : va_W) := hs
  refine fq_X4_30 hx hb hown hts hE hin hs 0 rfl (ws' := ((b, .inr (3, [.ref (a1 0), .ref (a2 0), .ref (a3 0), .ref qe, .null, .null, .int 0, .int 0, .int 0, .int 0, .int 0, .int 0])) :: (WD G a1 D00 ++ (WT G a2 T00 ++ (WR G a3 R00 ++ ([(qe, .inl (G.2.1 4, 10, .inr (.inr (.inr (.inr (fun _ => none))))))])))) : va_W)) (Nat.le_of_ble_eq_true rfl) rfl dX4_init_43 (fun H locs hs => ?_)
  refine lv_aload_n hx hb dX4_init_46 rfl (lv_at hl 0 rfl) ?_
  refine lv_iconst (v := (2 : Int32)) hx hb dX4_init_47 (by decide) ?_
  refine sx_newQ (N := 2) hx hb hown gc226 hts hE hAO hs hA (by decide) rfl (Nat.le_of_ble_eq_true rfl) (Nat.le_of_ble_eq_true rfl) (Nat.le_of_ble_eq_true rfl) dX4_init_48 (fun qi H hs => ?_)
  have hs : SI G A s H _ ((b, .inr (3, [.ref (a1 0), .ref (a2 0), .ref (a3 0), .ref qe, .null, .null, .int 0, .int 0, .int 0, .int 0, .int 0, .int 0])) :: (WD G a1 D00 ++ (WT G a2 T00 ++ (WR G a3 R00 ++ ([(qe, .inl (G.2.1 4, 10, .inr (.inr (.inr (.inr (fun _ => none)))))), (qi, .inl (G.2.1 4, 2, .inr (.inr (.inr (.inr (fun _ => none))))))])))) : va_W) := hs
  refine fq_X4_34 hx hb hown hts hE hin hs 0 rfl (ws' := ((b, .inr (3, [.ref (a1 0), .ref (a2 0), .ref (a3 0), .ref qe, .ref qi, .null, .int 0, .int 0, .int 0, .int 0, .int 0, .int 0])) :: (WD G a1 D00 ++ (WT G a2 T00 ++ (WR G a3 R00 ++ ([(qe, .inl (G.2.1 4, 10, .inr (.inr (.inr (.inr (fun _ => none)))))), (qi, .inl (G.2.1 4, 2, .inr (.inr (.inr (.inr (fun _ => none))))))])))) : va_W)) (Nat.le_of_ble_eq_true rfl) rfl dX4_init_51 (fun H locs hs => ?_)
  refine lv_aload_n hx hb dX4_init_54 rfl (lv_at hl 0 rfl) ?_
  refine lv_iconst (v := (2 : Int32)) hx hb dX4_init_55 (by decide) ?_
  refine sx_newZ (N := 2) hx hb hts hE hs hA gc225 (by decide) rfl (Nat.le_of_ble_eq_true rfl) (Nat.le_of_ble_eq_true rfl) (Nat.le_of_ble_eq_true rfl) dX4_init_56 (fun qk H hs => ?_)
  have hs : SI G A s H _ ((b, .inr (3, [.ref (a1 0), .ref (a2 0), .ref (a3 0), .ref qe, .ref qi, .null, .int 0, .int 0, .int 0, .int 0, .int 0, .int 0])) :: (WD G a1 D00 ++ (WT G a2 T00 ++ (WR G a3 R00 ++ ([(qe, .inl (G.2.1 4, 10, .inr (.inr (.inr (.inr (fun _ => none)))))), (qi, .inl (G.2.1 4, 2, .inr (.inr (.inr (.inr (fun _ => none)))))), (qk, .inl (G.2.1 3, 2, .inl (exI (fun _ : Fin 2 => 0))))])))) : va_W) := hs
  refine fq_X4_37 hx hb hown hts hE hin hs 0 rfl (ws' := ((b, .inr (3, [.ref (a1 0), .ref (a2 0), .ref (a3 0), .ref qe, .ref qi, .ref qk, .int 0, .int 0, .int 0, .int 0, .int 0, .int 0])) :: (WD G a1 D00 ++ (WT G a2 T00 ++ (WR G a3 R00 ++ ([(qe, .inl (G.2.1 4, 10, .inr (.inr (.inr (.inr (fun _ => none)))))), (qi, .inl (G.2.1 4, 2, .inr (.inr (.inr (.inr (fun _ => none)))))), (qk, .inl (G.2.1 3, 2, .inl (exI (fun _ : Fin 2 => 0))))])))) : va_W)) (Nat.le_of_ble_eq_true rfl) rfl dX4_init_58 (fun H locs hs => ?_)
  refine lv_aload_n hx hb dX4_init_61 rfl (lv_at hl 0 rfl) ?_
  refine lv_iconst (v := (0 : Int32)) hx hb dX4_init_62 (by decide) ?_
  refine fq_X4_41 hx hb hown hts hE hin hs 0 rfl (ws' := ((b, .inr (3, [.ref (a1 0), .ref (a2 0), .ref (a3 0), .ref qe, .ref qi, .ref qk, .int (0), .int 0, .int 0, .int 0, .int 0, .int 0])) :: (WD G a1 D00 ++ (WT G a2 T00 ++ (WR G a3 R00 ++ ([(qe, .inl (G.2.1 4, 10, .inr (.inr (.inr (.inr (fun _ => none)))))), (qi, .inl (G.2.1 4, 2, .inr (.inr (.inr (.inr (fun _ => none)))))), (qk, .inl (G.2.1 3, 2, .inl (exI (fun _ : Fin 2 => 0))))])))) : va_W)) (Nat.le_of_ble_eq_true rfl) rfl dX4_init_63 (fun H locs hs => ?_)
  refine lv_aload_n hx hb dX4_init_66 rfl (lv_at hl 0 rfl) ?_
  refine lv_iconst (v := (0 : Int32)) hx hb dX4_init_67 (by decide) ?_
  refine fq_X4_45 hx hb hown hts hE hin hs 0 rfl (ws' := ((b, .inr (3, [.ref (a1 0), .ref (a2 0), .ref (a3 0), .ref qe, .ref qi, .ref qk, .int (0), .int (0), .int 0, .int 0, .int 0, .int 0])) :: (WD G a1 D00 ++ (WT G a2 T00 ++ (WR G a3 R00 ++ ([(qe, .inl (G.2.1 4, 10, .inr (.inr (.inr (.inr (fun _ => none)))))), (qi, .inl (G.2.1 4, 2, .inr (.inr (.inr (.inr (fun _ => none)))))), (qk, .inl (G.2.1 3, 2, .inl (exI (fun _ : Fin 2 => 0))))])))) : va_W)) (Nat.le_of_ble_eq_true rfl) rfl dX4_init_68 (fun H locs hs => ?_)
  refine lv_aload_n hx hb dX4_init_71 rfl (lv_at hl 0 rfl) ?_
  refine lv_iconst (v := (0 : Int32)) hx hb dX4_init_72 (by decide) ?_
  refine fq_X4_48 hx hb hown hts hE hin hs 0 rfl (ws' := ((b, .inr (3, [.ref (a1 0), .ref (a2 0), .ref (a3 0), .ref qe, .ref qi, .ref qk, .int (0), .int (0), .int (0), .int 0, .int 0, .int 0])) :: (WD G a1 D00 ++ (WT G a2 T00 ++ (WR G a3 R00 ++ ([(qe, .inl (G.2.1 4, 10, .inr (.inr (.inr (.inr (fun _ => none)))))), (qi, .inl (G.2.1 4, 2, .inr (.inr (.inr (.inr (fun _ => none)))))), (qk, .inl (G.2.1 3, 2, .inl (exI (fun _ : Fin 2 => 0))))])))) : va_W)) (Nat.le_of_ble_eq_true rfl) rfl dX4_init_73 (fun H locs hs => ?_)
  refine lv_aload_n hx hb dX4_init_76 rfl (lv_at hl 0 rfl) ?_
  refine lv_iconst (v := (0 : Int32)) hx hb dX4_init_77 (by decide) ?_
  refine fq_X4_51 hx hb hown hts hE hin hs 0 rfl (ws' := ((b, .inr (3, [.ref (a1 0), .ref (a2 0), .ref (a3 0), .ref qe, .ref qi, .ref qk, .int (0), .int (0), .int (0), .int (0), .int 0, .int 0])) :: (WD G a1 D00 ++ (WT G a2 T00 ++ (WR G a3 R00 ++ ([(qe, .inl (G.2.1 4, 10, .inr (.inr (.inr (.inr (fun _ => none)))))), (qi, .inl (G.2.1 4, 2, .inr (.inr (.inr (.inr (fun _ => none)))))), (qk, .inl (G.2.1 3, 2, .inl (exI (fun _ : Fin 2 => 0))))])))) : va_W)) (Nat.le_of_ble_eq_true rfl) rfl dX4_init_78 (fun H locs hs => ?_)
  refine lv_aload_n hx hb dX4_init_81 rfl (lv_at hl 0 rfl) ?_
  refine lv_iconst (v := (-1 : Int32)) hx hb dX4_init_82 (by decide) ?_
  refine fq_X4_54 hx hb hown hts hE hin hs 0 rfl (ws' := ((b, .inr (3, [.ref (a1 0), .ref (a2 0), .ref (a3 0), .ref qe, .ref qi, .ref qk, .int (0), .int (0), .int (0), .int (0), .int (-1), .int 0])) :: (WD G a1 D00 ++ (WT G a2 T00 ++ (WR G a3 R00 ++ ([(qe, .inl (G.2.1 4, 10, .inr (.inr (.inr (.inr (fun _ => none)))))), (qi, .inl (G.2.1 4, 2, .inr (.inr (.inr (.inr (fun _ => none)))))), (qk, .inl (G.2.1 3, 2, .inl (exI (fun _ : Fin 2 => 0))))])))) : va_W)) (Nat.le_of_ble_eq_true rfl) rfl dX4_init_83 (fun H locs hs => ?_)
  refine lv_aload_n hx hb dX4_init_86 rfl (lv_at hl 0 rfl) ?_
  refine lv_iconst (v := (0 : Int32)) hx hb dX4_init_87 (by decide) ?_
  refine fq_X4_57 hx hb hown hts hE hin hs 0 rfl (ws' := ((b, .inr (3, [.ref (a1 0), .ref (a2 0), .ref (a3 0), .ref qe, .ref qi, .ref qk, .int (0), .int (0), .int (0), .int (0), .int (-1), .int (0)])) :: (WD G a1 D00 ++ (WT G a2 T00 ++ (WR G a3 R00 ++ ([(qe, .inl (G.2.1 4, 10, .inr (.inr (.inr (.inr (fun _ => none)))))), (qi, .inl (G.2.1 4, 2, .inr (.inr (.inr (.inr (fun _ => none)))))), (qk, .inl (G.2.1 3, 2, .inl (exI (fun _ : Fin 2 => 0))))])))) : va_W)) (Nat.le_of_ble_eq_true rfl) rfl dX4_init_88 (fun H locs hs => ?_)
  refine lv_iconst (v := (0 : Int32)) hx hb dX4_init_91 (by decide) ?_
  refine lv_istore_n (lv' := [(1, .int 0), (0, .ref b)]) hx hb dX4_init_92 rfl hl (by decide) rfl (fun ls hl => ?_)
  have fin : ∀ (ae ad : Nat → Nat → Nat) (H : Heap) (locs : List Loc) (ls : Array Slot), SI G A s H locs ((b, .inr (3, [.ref (a1 0), .ref (a2 0), .ref (a3 0), .ref qe, .ref qi, .ref qk, .int (0), .int (0), .int (0), .int (0), .int (-1), .int (0)])) :: (WD G a1 D00 ++ (WT G a2 T00 ++ (WR G a3 R00 ++ ((qe, .inl (G.2.1 4, 10, .inr (.inr (.inr (.inr (pcF ae 10)))))) :: (qi, .inl (G.2.1 4, 2, .inr (.inr (.inr (.inr (pcF ad 2)))))) :: (qk, .inl (G.2.1 3, 2, .inl (exI (fun _ : Fin 2 => 0)))) :: (pcW G ae 10 ++ pcW G ad 2))))) : va_W) → W p l e ({ frames := 3, cells := 87, slots := 2186, locals := 52 } : Room) s m args below meth c H locs (77 + 5 * 2) (2002 + 92 * 2) Q (F0 m 144 ls []) := by
    intro ae ad H locs ls hs
    exact sx_vretC hx hb hr hlk hQ ⟨pcA b qe qi qk a1 a2 a3 ae ad, rfl, rfl⟩ (pcEnd b qe qi qk a1 a2 a3 ae ad hs) dX4_init_144
  have hL2 : ∀ (ae : Nat → Nat → Nat) (k i : Nat) (ad : Nat → Nat → Nat) (H : Heap) (locs : List Loc) (ls : Array Slot), i + k = 2 → SI G A s H locs ((b, .inr (3, [.ref (a1 0), .ref (a2 0), .ref (a3 0), .ref qe, .ref qi, .ref qk, .int (0), .int (0), .int (0), .int (0), .int (-1), .int (0)])) :: (WD G a1 D00 ++ (WT G a2 T00 ++ (WR G a3 R00 ++ ((qe, .inl (G.2.1 4, 10, .inr (.inr (.inr (.inr (pcF ae 10)))))) :: (qi, .inl (G.2.1 4, 2, .inr (.inr (.inr (.inr (pcF ad i)))))) :: (qk, .inl (G.2.1 3, 2, .inl (exI (fun _ : Fin 2 => 0)))) :: (pcW G ae 10 ++ pcW G ad i))))) : va_W) → lv_has ls 2 [(1, .int (nI i)), (0, .ref b)] → W p l e ({ frames := 3, cells := 87, slots := 2186, locals := 52 } : Room) s m args below meth c H locs (77 + 5 * i) (2002 + 92 * i) Q (F0 m 120 ls []) := by
    intro ae k
    induction k with
    | zero =>
      intro i ad H locs ls hi hs hl
      have hi : i = 2 := by omega
      subst hi
      refine lv_iload_n hx hb dX4_init_120 rfl (lv_at hl 0 rfl) ?_
      refine lv_iconst (v := (2 : Int32)) hx hb dX4_init_121 (by decide) ?_
      refine lv_icmp_ge (tgt := 144) hx hb dX4_init_122 (by decide) (fun hc => ?_) (fun hc => absurd (by decide) hc)
      exact fin ae ad H locs ls hs
    | succ k ih =>
      intro i ad H locs ls hi hs hl
      refine lv_iload_n hx hb dX4_init_120 rfl (lv_at hl 0 rfl) ?_
      refine lv_iconst (v := (2 : Int32)) hx hb dX4_init_121 (by decide) ?_
      refine lv_icmp_ge (tgt := 144) hx hb dX4_init_122 (by decide) (fun hc => absurd hc (by rw [show (2 : Int32) = nI 2 from rfl, nI_leI (by omega) (by omega)]; omega)) (fun hc => ?_)
      refine lv_aload_n hx hb dX4_init_125 rfl (lv_at hl 1 rfl) ?_
      refine fg_X4_34 hx hb hown hts hE hs 0 rfl (v := .ref qi) rfl dX4_init_126 ?_
      refine lv_iload_n hx hb dX4_init_129 rfl (lv_at hl 0 rfl) ?_
      refine sx_new (ci := 2) (fs := [.int 0, .int 0, .null, .null, .null, .null]) (C := RX2) (T := TX2) (N := 6) hx hb inGX2 tyX2 tyX2_ok hown gc226 gc152 gc125 hts hE hs hA rfl (fun j hj => by rcases (show j = 0 ∨ j = 1 ∨ j = 2 ∨ j = 3 ∨ j = 4 ∨ j = 5 by omega) with rfl | rfl | rfl | rfl | rfl | rfl <;> rfl) (by show _ ≤ 87; omega) (by show _ ≤ 2186; omega) dX4_init_130 (fun q H hs => ?_)
      refine lv_dup hx hb dX4_init_133 rfl ?_
      refine sx_IN (wr := ((b, .inr (3, [.ref (a1 0), .ref (a2 0), .ref (a3 0), .ref qe, .ref qi, .ref qk, .int (0), .int (0), .int (0), .int (0), .int (-1), .int (0)])) :: (WD G a1 D00 ++ (WT G a2 T00 ++ (WR G a3 R00 ++ ((qe, .inl (G.2.1 4, 10, .inr (.inr (.inr (.inr (pcF ae 10)))))) :: (qi, .inl (G.2.1 4, 2, .inr (.inr (.inr (.inr (pcF ad i)))))) :: (qk, .inl (G.2.1 3, 2, .inl (exI (fun _ : Fin 2 => 0)))) :: (pcW G ae 10 ++ pcW G ad i))))) : va_W)) (rest := [.ref q, .int (nI i), .ref qi]) (c_X2_init G l q) vi_X4_18 ⟨(Nat.le_of_ble_eq_true rfl), (Nat.le_of_ble_eq_true rfl)⟩ hx hb hml hown hts hE hAO hA hs ⟨(by show _ ≤ 87; omega), (by show _ ≤ 2186; omega)⟩ rfl hl.1 (Nat.le_of_ble_eq_true rfl) dX4_init_134 List.perm_append_comm (fun w1 H locs hw hs2 => ?_)
      obtain ⟨a9, ea9, rfl⟩ := hw
      subst ea9
      have hs : SI G A s H locs (WT G a9 T00 ++ ((b, .inr (3, [.ref (a1 0), .ref (a2 0), .ref (a3 0), .ref qe, .ref qi, .ref qk, .int (0), .int (0), .int (0), .int (0), .int (-1), .int (0)])) :: (WD G a1 D00 ++ (WT G a2 T00 ++ (WR G a3 R00 ++ ((qe, .inl (G.2.1 4, 10, .inr (.inr (.inr (.inr (pcF ae 10)))))) :: (qi, .inl (G.2.1 4, 2, .inr (.inr (.inr (.inr (pcF ad i)))))) :: (qk, .inl (G.2.1 3, 2, .inl (exI (fun _ : Fin 2 => 0)))) :: (pcW G ae 10 ++ pcW G ad i))))) : va_W)) := sx_perm hs2 List.perm_append_comm
      refine sx_astq hx hb hE hs 31 0 (v := a9 0) rfl rfl (by exact vp_in_nI (by omega) (by omega)) dX4_init_137 (fun H locs hs => ?_)
      refine lv_iinc (v := nI (i + 1)) (lv' := [(1, .int (nI (i + 1))), (0, .ref b)]) hx hb dX4_init_138 hl (k := 0) rfl (nI_1 i) (by decide) rfl (fun ls hl => ?_)
      refine lv_goto (tgt := 120) hx hb dX4_init_141 (by decide) ?_
      refine W.widen (k := 77 + 5 * (i + 1)) (n := 2002 + 92 * (i + 1)) (by omega) (by omega) ?_
      refine ih (i + 1) (fun j => if j = i then a9 else ad j) H locs ls (by omega) ?_ hl
      have hs : SI G A s H locs (WT G a9 T00 ++ ((b, .inr (3, [.ref (a1 0), .ref (a2 0), .ref (a3 0), .ref qe, .ref qi, .ref qk, .int (0), .int (0), .int (0), .int (0), .int (-1), .int (0)])) :: (WD G a1 D00 ++ (WT G a2 T00 ++ (WR G a3 R00 ++ ((qe, .inl (G.2.1 4, 10, .inr (.inr (.inr (.inr (pcF ae 10)))))) :: (qi, .inl (G.2.1 4, 2, .inr (.inr (.inr (.inr (va_up (pcF ad i) (nI i).toNatClampNeg (some (a9 0)))))))) :: (qk, .inl (G.2.1 3, 2, .inl (exI (fun _ : Fin 2 => 0)))) :: (pcW G ae 10 ++ pcW G ad i))))) : va_W)) := hs
      rw [nI_clamp (by omega)] at hs
      rw [pcW_s, pcF_s]
      refine sx_perm hs (List.Perm.trans List.perm_append_comm (List.Perm.of_eq ?_))
      simp only [List.append_assoc, List.cons_append]
  have hL1 : ∀ (k i : Nat) (ad : Nat → Nat → Nat) (H : Heap) (locs : List Loc) (ls : Array Slot), i + k = 10 → SI G A s H locs ((b, .inr (3, [.ref (a1 0), .ref (a2 0), .ref (a3 0), .ref qe, .ref qi, .ref qk, .int (0), .int (0), .int (0), .int (0), .int (-1), .int (0)])) :: (WD G a1 D00 ++ (WT G a2 T00 ++ (WR G a3 R00 ++ ((qe, .inl (G.2.1 4, 10, .inr (.inr (.inr (.inr (pcF ad i)))))) :: (qi, .inl (G.2.1 4, 2, .inr (.inr (.inr (.inr (fun _ => none)))))) :: (qk, .inl (G.2.1 3, 2, .inl (exI (fun _ : Fin 2 => 0)))) :: (pcW G ad i))))) : va_W) → lv_has ls 2 [(1, .int (nI i)), (0, .ref b)] → W p l e ({ frames := 3, cells := 87, slots := 2186, locals := 52 } : Room) s m args below meth c H locs (27 + 5 * i) (1082 + 92 * i) Q (F0 m 93 ls []) := by
    intro k
    induction k with
    | zero =>
      intro i ad H locs ls hi hs hl
      have hi : i = 10 := by omega
      subst hi
      refine lv_iload_n hx hb dX4_init_93 rfl (lv_at hl 0 rfl) ?_
      refine lv_bipush (v := (10 : Int32)) hx hb dX4_init_94 (by decide) ?_
      refine lv_icmp_ge (tgt := 118) hx hb dX4_init_96 (by decide) (fun hc => ?_) (fun hc => absurd (by decide) hc)
      refine lv_iconst (v := (0 : Int32)) hx hb dX4_init_118 (by decide) ?_
      refine lv_istore_n (lv' := [(1, .int 0), (0, .ref b)]) hx hb dX4_init_119 rfl hl (by decide) rfl (fun ls hl => ?_)
      exact hL2 ad 2 0 (fun _ _ => 0) H locs ls rfl (sx_congr hs (by rw [pcF0, pcW0, List.append_nil])) hl
    | succ k ih =>
      intro i ad H locs ls hi hs hl
      refine lv_iload_n hx hb dX4_init_93 rfl (lv_at hl 0 rfl) ?_
      refine lv_bipush (v := (10 : Int32)) hx hb dX4_init_94 (by decide) ?_
      refine lv_icmp_ge (tgt := 118) hx hb dX4_init_96 (by decide) (fun hc => absurd hc (by rw [show (10 : Int32) = nI 10 from rfl, nI_leI (by omega) (by omega)]; omega)) (fun hc => ?_)
      refine lv_aload_n hx hb dX4_init_99 rfl (lv_at hl 1 rfl) ?_
      refine fg_X4_30 hx hb hown hts hE hs 0 rfl (v := .ref qe) rfl dX4_init_100 ?_
      refine lv_iload_n hx hb dX4_init_103 rfl (lv_at hl 0 rfl) ?_
      refine sx_new (ci := 2) (fs := [.int 0, .int 0, .null, .null, .null, .null]) (C := RX2) (T := TX2) (N := 6) hx hb inGX2 tyX2 tyX2_ok hown gc226 gc152 gc125 hts hE hs hA rfl (fun j hj => by rcases (show j = 0 ∨ j = 1 ∨ j = 2 ∨ j = 3 ∨ j = 4 ∨ j = 5 by omega) with rfl | rfl | rfl | rfl | rfl | rfl <;> rfl) (by show _ ≤ 87; omega) (by show _ ≤ 2186; omega) dX4_init_104 (fun q H hs => ?_)
      refine lv_dup hx hb dX4_init_107 rfl ?_
      refine sx_IN (wr := ((b, .inr (3, [.ref (a1 0), .ref (a2 0), .ref (a3 0), .ref qe, .ref qi, .ref qk, .int (0), .int (0), .int (0), .int (0), .int (-1), .int (0)])) :: (WD G a1 D00 ++ (WT G a2 T00 ++ (WR G a3 R00 ++ ((qe, .inl (G.2.1 4, 10, .inr (.inr (.inr (.inr (pcF ad i)))))) :: (qi, .inl (G.2.1 4, 2, .inr (.inr (.inr (.inr (fun _ => none)))))) :: (qk, .inl (G.2.1 3, 2, .inl (exI (fun _ : Fin 2 => 0)))) :: (pcW G ad i))))) : va_W)) (rest := [.ref q, .int (nI i), .ref qe]) (c_X2_init G l q) vi_X4_18 ⟨(Nat.le_of_ble_eq_true rfl), (Nat.le_of_ble_eq_true rfl)⟩ hx hb hml hown hts hE hAO hA hs ⟨(by show _ ≤ 87; omega), (by show _ ≤ 2186; omega)⟩ rfl hl.1 (Nat.le_of_ble_eq_true rfl) dX4_init_108 List.perm_append_comm (fun w1 H locs hw hs2 => ?_)
      obtain ⟨a9, ea9, rfl⟩ := hw
      subst ea9
      have hs : SI G A s H locs (WT G a9 T00 ++ ((b, .inr (3, [.ref (a1 0), .ref (a2 0), .ref (a3 0), .ref qe, .ref qi, .ref qk, .int (0), .int (0), .int (0), .int (0), .int (-1), .int (0)])) :: (WD G a1 D00 ++ (WT G a2 T00 ++ (WR G a3 R00 ++ ((qe, .inl (G.2.1 4, 10, .inr (.inr (.inr (.inr (pcF ad i)))))) :: (qi, .inl (G.2.1 4, 2, .inr (.inr (.inr (.inr (fun _ => none)))))) :: (qk, .inl (G.2.1 3, 2, .inl (exI (fun _ : Fin 2 => 0)))) :: (pcW G ad i))))) : va_W)) := sx_perm hs2 List.perm_append_comm
      refine sx_astq hx hb hE hs 30 0 (v := a9 0) rfl rfl (by exact vp_in_nI (by omega) (by omega)) dX4_init_111 (fun H locs hs => ?_)
      refine lv_iinc (v := nI (i + 1)) (lv' := [(1, .int (nI (i + 1))), (0, .ref b)]) hx hb dX4_init_112 hl (k := 0) rfl (nI_1 i) (by decide) rfl (fun ls hl => ?_)
      refine lv_goto (tgt := 93) hx hb dX4_init_115 (by decide) ?_
      refine W.widen (k := 27 + 5 * (i + 1)) (n := 1082 + 92 * (i + 1)) (by omega) (by omega) ?_
      refine ih (i + 1) (fun j => if j = i then a9 else ad j) H locs ls (by omega) ?_ hl
      have hs : SI G A s H locs (WT G a9 T00 ++ ((b, .inr (3, [.ref (a1 0), .ref (a2 0), .ref (a3 0), .ref qe, .ref qi, .ref qk, .int (0), .int (0), .int (0), .int (0), .int (-1), .int (0)])) :: (WD G a1 D00 ++ (WT G a2 T00 ++ (WR G a3 R00 ++ ((qe, .inl (G.2.1 4, 10, .inr (.inr (.inr (.inr (va_up (pcF ad i) (nI i).toNatClampNeg (some (a9 0)))))))) :: (qi, .inl (G.2.1 4, 2, .inr (.inr (.inr (.inr (fun _ => none)))))) :: (qk, .inl (G.2.1 3, 2, .inl (exI (fun _ : Fin 2 => 0)))) :: (pcW G ad i))))) : va_W)) := hs
      rw [nI_clamp (by omega)] at hs
      rw [pcW_s, pcF_s]
      refine sx_perm hs (List.Perm.trans List.perm_append_comm (List.Perm.of_eq ?_))
      simp only [List.append_assoc, List.cons_append]
  exact hL1 10 0 (fun _ _ => 0) H _ ls rfl (sx_congr hs (by rw [pcF0, pcW0])) hl
