/-! ===== 84.letter: letter of the class, which may throw; letter of the law, which catches ===== -/
def NSE : String := "java/util/NoSuchElementException"
def nmsE : List String := ["java/lang/RuntimeException", "java/lang/Exception"]
def BW : List Cond := [.castable NSE NSE, .declares (Bundle.init0 "java/lang/RuntimeException"), .declares (Bundle.init0 "java/lang/Exception"), .declares (Bundle.init0 "java/lang/Throwable")]
theorem at0_t : ∀ w ∈ vx_at0 RX4 255 NSE nmsE, w ∈ lw_tbl := by decide +kernel
theorem at0_n : ∀ w ∈ (vx_at0 RX4 255 NSE nmsE).filter (fun w => !goodWord w), w ∈ BW := by decide +kernel
theorem bw_t : ∀ w ∈ BW, w ∈ lw_tbl := by decide +kernel
theorem bw_w {s U : State} (hW : s.WarmedH U.vm) (h : ∀ w ∈ BW, va_Nw w s) : ∀ w ∈ BW, va_Nw w U := by
  have hd : ∀ x : MethodName, va_Nw (.declares x) s → va_Nw (.declares x) U := fun x hZ => va_tabs rfl (rfl : (s.setVm U.vm).vm = U.vm) (by rw [Cond.declares_setVm hW.alike]; exact hZ)
  have h0 := List.forall_mem_cons.mp h
  have h1 := List.forall_mem_cons.mp h0.2
  have h2 := List.forall_mem_cons.mp h1.2
  have h3 := List.forall_mem_cons.mp h2.2
  exact List.forall_mem_cons.mpr ⟨va_Nw.warmC hW h0.1, List.forall_mem_cons.mpr ⟨hd _ h1.1, List.forall_mem_cons.mpr ⟨hd _ h2.1, List.forall_mem_cons.mpr ⟨hd _ h3.1, fun _ h => absurd h List.not_mem_nil⟩⟩⟩⟩
theorem bw_o : ∀ w ∈ BW, w.onTables = true := by decide +kernel
theorem at0_o : ∀ w ∈ Cond.classLink RX4 253 NSE :: Cond.initialized NSE :: vx_at0 RX4 255 NSE nmsE, vx_ot w = true := by decide +kernel
theorem fit_1 : Bundle.fit NSE = true := by decide +kernel
theorem fit_2 : ∀ n ∈ nmsE, Bundle.fit n = true := by decide +kernel
theorem cw_g : Cond.codeWith yL_letter cL_letter 5 (some .int) [(0, 10, 13, 13)] ∈ GW := gw_in (List.mem_of_getElem? (i := 875) (by decide +kernel)) (by decide +kernel)
theorem gk253 : Cond.classLink RX4 253 NSE ∈ GW := gw_in (List.mem_of_getElem? (i := 881) (by decide +kernel)) (by decide +kernel)
theorem gini : Cond.initialized NSE ∈ GW := gw_in (List.mem_of_getElem? (i := 136) (by decide +kernel)) (by decide +kernel)
theorem gk13 : Cond.classLink RL 13 NSE ∈ GW := gw_in (List.mem_of_getElem? (i := 876) (by decide +kernel)) (by decide +kernel)
theorem gn256 : Cond.fieldLinkNest RX4 256 "BothToBlame$Told" "names" "[J" "BothToBlame" ∈ NW := nw_in (List.mem_of_getElem? (i := 166) (by decide +kernel)) (by decide +kernel)
theorem v_X4_letter : VW RL 7 RX4 yX4_letter cX4_letter 4 (some .int) 2 := ⟨gw_in (List.mem_of_getElem? (i := 877) (by decide +kernel)) (by decide +kernel), gw_in (List.mem_of_getElem? (i := 878) (by decide +kernel)) (by decide +kernel), gw_in (List.mem_of_getElem? (i := 879) (by decide +kernel)) (by decide +kernel), gw_in (w := .initialized RX4) (by decide +kernel) (by decide +kernel), gw_in (List.mem_of_getElem? (i := 880) (by decide +kernel)) (by decide +kernel), by decide +kernel⟩
def ZX (A : Nat → Prop) (U : State) (H : Heap) : Prop := vx_Zq Bundle.tN "UNASSIGNED_STACK" Bundle.steD A U H ∧ vx_Zq Bundle.tN "SUPPRESSED_SENTINEL" Bundle.listD A U H ∧ ∀ w ∈ BW, va_Nw w U
theorem ZX.call {A B : Nat → Prop} {s U : State} {H : Heap} {locs : List Loc} (h : ZX A s s.heap) (hS : va_S A s.heap H locs) (hB : ∀ q, B q → A q) (hU : U.heap = H) (hW : s.WarmedH U.vm) : ZX B U U.heap :=
  ⟨by rw [hU]; exact ((h.1.kept hS.2.1).moved hW.alike).narrow hB, by rw [hU]; exact ((h.2.1.kept hS.2.1).moved hW.alike).narrow hB, bw_w hW h.2.2⟩
theorem ZX.blind {B : Nat → Prop} {U U2 : State} (hv : U.vm = U2.vm) (hh : U.heap = U2.heap) (h : ZX B U U.heap) : ZX B U2 U2.heap :=
  ⟨by rw [← hh]; exact h.1.moved (by rw [hv]; exact Vm.Alike.refl U2.vm), by rw [← hh]; exact h.2.1.moved (by rw [hv]; exact Vm.Alike.refl U2.vm), fun w hw => va_Nw.same (bw_o w hw) hv (h.2.2 w hw)⟩
def PX (G : GT) (w0 : va_W) (sz : Nat) : State → Prop := fun U => PM G w0 sz U ∧ ZX (va_A w0 sz) U U.heap
theorem PX.blind {G : GT} {w0 : va_W} {sz : Nat} {av : List Value} : FrameBlind (va_Pc av (PX G w0 sz)) := fun a U g mk q => by
  obtain ⟨q0, ⟨q1, q2, q3, q4⟩, q5⟩ := q
  exact ⟨q0, ⟨q1, q2, EV.blind (U := U) (U2 := U.calling g mk a) rfl rfl q3, q4⟩, ZX.blind (U := U) (U2 := U.calling g mk a) rfl rfl q5⟩
def QL (G : GT) (A : Nat → Prop) (w1 : va_W) : Option Int32 → Array Value → State → Outcome → State → Prop
  | some v => QMA G A (some (.int v)) w1
  | none => fun _ _ _ _ => False
def XL (G : GT) (A : Nat → Prop) (w1 : va_W) : Option Int32 → String → State → State → Prop
  | some _ => fun _ _ _ => False
  | none => fun E st t => E = NSE ∧ va_P G.1 vwCl w1 t.heap ∧ va_D A w1 ∧ va_F A st t
def MX (G : GT) (l : Launch) (y : MethodName) (cc : ByteArray) (mL : Nat) (rt : Option FieldType) (fr lo mc ms : Nat) (av : List Value) (w0 : va_W) (r : Option Int32) (w1 : va_W) : Prop :=
  ∀ sz : Nat, vx_Met l y (Cond.code y cc mL rt :: GW) ({ frames := fr, cells := mc, slots := ms, locals := lo }) (va_Pc av (PX G w0 sz)) (QL G (va_A w0 sz) w1 r) (XL G (va_A w0 sz) w1 r) mc ms (va_A w0 sz)
theorem MX.of {G : GT} {l : Launch} {y : MethodName} {cc : ByteArray} {mL : Nat} {rt : Option FieldType} {fr lo mc ms : Nat} {av : List Value} {w0 : va_W} {r : Option Int32} {w1 : va_W} (hy : plainName y.cls = true) (hn : (lg_sl av).length ≤ mL)
    (body : ∀ (p : Program) (e : Env) (s : State) (m : MethodId) (args : Array Value) (below : List Frame) (meth : Method) (c : Code) (A : Nat → Prop) (ls : Array Slot),
      p.tables.exec = Jvm.exec → c.code = cc → meth.sig.returnType = rt → c.maxLocals = mL → s.vm.findClass y.cls = some m.cls → (∀ w ∈ GW, w.before args s = true) → meth.locks = false → (∀ x ∈ c.exceptionTable.toList, False) → EV G A s s.heap → ZX A s s.heap → (∀ q : Nat, s.heap.size ≤ q → A q) → SI G A s s.heap [] w0 → lv_has ls mL (lv_args 0 av) → ∀ Q : State → Prop, Q = vx_MQ below (QL G A w1 r) (XL G A w1 r) args s mc ms A →
      W p l e ({ frames := fr, cells := mc, slots := ms, locals := lo }) s m args below meth c s.heap [] 0 0 Q (F0 m 0 ls [])) : MX G l y cc mL rt fr lo mc ms av w0 r w1 := by
  intro sz
  refine vx_ofW (cc := cc) (maxL := mL) (ret := rt) hy rfl ?_
  intro p e s m args below meth c s₁ B hml ht hv
  obtain ⟨rfl, ⟨hsz, hP, hE, hD0⟩, hZ⟩ := hv
  subst hsz
  have hts0 := atoms_spec (ws := Cond.code y cc mL rt :: GW) B.pre
  rw [lg_entry_eq]
  exact body p e s m _ below meth c (va_A w0 s.heap.size) _ B.exec B.bytes B.returns hml (findClass_of_methodNamed B.named) (fun w h => hts0 w (List.mem_cons_of_mem _ h)) B.notSynchronized ht hE hZ (fun q h => Or.inr h) ⟨hP, hD0.self, va_S.rf⟩ (lv_entry av hn) _ rfl
section SXX
variable {p : Program} {l : Launch} {e : Env} {R : Room} {s : State} {m : MethodId} {args : Array Value} {below : List Frame} {meth : Method} {c : Code} {H : Heap} {locs : List Loc} {cells slots : Nat} {Q : State → Prop}
variable {cc cy : ByteArray} {pc : Nat} {ls : Array Slot} {rest As : List Value} {A : Nat → Prop} {G : GT} {ws w0 w1 wr : va_W} {nL n idx mL fr lo b mc ms : Nat} {y : MethodName} {rt : Option FieldType} {rv : Option Value} {own Cn : String}
theorem fg_X4_256 {a : Nat} (hx : p.tables.exec = Jvm.exec) (hb : c.code = cc) (hown : s.vm.findClass RX4 = some m.cls) (hts : ∀ w ∈ GW, w.before args s = true) (hE : EV G A s s.heap) (hs : SI G A s H locs ws) (q0 : Nat) {fs : List Value} (he : ws[q0]? = some (a, .inr (2, fs))) {v : Value} (hv : fs[2]? = some v) (hdg : decode cc pc = .ok (.getfield 256, 3))
    (kk : W p l e R s m args below meth c H locs cells slots Q (F0 m (pc + 3) ls (v :: rest))) : W p l e R s m args below meth c H locs cells slots Q (F0 m pc ls (.ref a :: rest)) :=
  va_getN (D := G.1) (ci := 2) (C := RX2) (T := TX2) (N := 6) hx hb hts inGX2 hown hE.1 hs.1 q0 he rfl 2 (by decide) (va_Nw.use rfl (hE.2.1 _ gn256)) (fun _ h9 => h9) hv hdg kk
theorem si_join {T' : State} {L : List Loc} (hs : SI G A s H locs ws) (hA : ∀ q : Nat, s.heap.size ≤ q → A q) (hp : (w0 ++ wr).Perm ws) (hP1 : va_P G.1 vwCl w1 T'.heap) (hD1 : va_D (va_A w0 H.size) w1) (hz : H.size ≤ T'.heap.size) (hk : ∀ q : Nat, q < H.size → ¬ va_A w0 H.size q → T'.heap[q]? = H[q]?) (hL : ∀ q ∈ L, va_A w0 H.size q.base) {ws' : va_W} (hp' : (w1 ++ wr).Perm ws') : SI G A s T'.heap (locs ++ L) ws' := by
  obtain ⟨-, -, hF⟩ := sx_sub hs hp hA
  have hP := va_P_perm hp.symm hs.1
  have hD := va_D_perm hp.symm hs.2.1
  have apart : ∀ q ∈ wr, q.1 < H.size ∧ ¬ va_A w0 H.size q.1 := by
    intro q hq
    have hl := (va_P_mem.mp hP q (List.mem_append_right _ hq)).lt
    refine ⟨hl, fun h => ?_⟩
    rcases va_A_mem.mp h with ⟨e9, h⟩ | h
    · have hn := (va_D_iff.mp hD).1
      rw [List.map_append] at hn
      exact (List.nodup_append.mp hn).2.2 q.1 (List.mem_map.mpr ⟨(q.1, e9), h, rfl⟩) q.1 (List.mem_map.mpr ⟨q, hq, rfl⟩) rfl
    · omega
  have hS1 : va_S A s.heap T'.heap (locs ++ L) := ⟨Nat.le_trans hs.2.2.1 hz, fun q h1 h2 => by
      rw [hk q (Nat.lt_of_lt_of_le h1 hs.2.2.1) (fun z => h2 (hF q z))]; exact hs.2.2.2.1 q h1 h2, fun q hq => by
      rcases List.mem_append.mp hq with h | h
      · exact hs.2.2.2.2 q h
      · exact hF _ (hL q h)⟩
  have hPn : va_P G.1 vwCl (w1 ++ wr) T'.heap := va_P.app hP1 (va_P_mem.mpr fun q hq => (va_P_mem.mp hP q (List.mem_append_right _ hq)).kept (hk q.1 (apart q hq).1 (apart q hq).2))
  have hDr : va_D A wr := by
    rw [va_D_iff] at hD ⊢
    rw [List.map_append] at hD
    exact ⟨(List.nodup_append.mp hD.1).2.1, fun q hq => hD.2 q (List.mem_append_right _ hq)⟩
  have hDn : va_D A (w1 ++ wr) := va_D.app (hD1.weaken (fun k q _ h => hF q.1 h)) hDr (fun i j x y hx hy hxy => (apart y (List.mem_of_getElem? hy)).2 (by rw [← hxy]; exact hD1.2 i x hx))
  exact ⟨va_P_perm hp' hPn, va_D_perm hp' hDn, hS1⟩
theorem sx_preX (hs : SI G A s H locs ws) (hE : EV G A s s.heap) (hZ : ZX A s s.heap) (hA : ∀ q : Nat, s.heap.size ≤ q → A q) (hp : (w0 ++ wr).Perm ws) (av : List Value) : ∀ U : State, U.heap = H → s.WarmedH U.vm → va_Pc av (PX G w0 H.size) av.toArray U := fun U hU hW => by
  obtain ⟨e1, h⟩ := sx_pre hs hE hA hp av U hU hW
  obtain ⟨-, -, hF⟩ := sx_sub hs hp hA
  exact ⟨e1, h, hZ.call hs.2.2 hF hU hW⟩
theorem sx_VX {r : Option Int32} (hM : MX G l y cy mL rt fr lo mc ms (.ref b :: As) w0 r w1) (hw : VW own idx Cn y cy mL rt n) (hR : fr + 1 ≤ R.frames ∧ 8 + (mL + 11) + lo ≤ R.locals) (hx : p.tables.exec = Jvm.exec) (hb : c.code = cc) (hml : c.maxLocals = nL) (hown : s.vm.findClass own = some m.cls) (hts : ∀ w ∈ GW, w.before args s = true) (hE : EV G A s s.heap) (hZ : ZX A s s.heap) (hA : ∀ q : Nat, s.heap.size ≤ q → A q) (hs : SI G A s H locs ws) (hf : cells + mc ≤ R.cells ∧ slots + ms ≤ R.slots)
    (q0 : Nat) {ci : Nat} {T : u_T} {N : Nat} {fs : List Value} (he : ws[q0]? = some (b, .inr (ci, fs))) (hc : vwCl[ci]? = some (Cn, T, N)) {st0 : List Value} (hst0 : st0 = As.reverse ++ .ref b :: rest) (hn : As.length = n) (hl : ls.size = nL) (hst : (rest.map fun v => v.category).sum ≤ 8) (hdg : decode cc pc = .ok (.invokevirtual idx, 3)) (hp : (w0 ++ wr).Perm ws) {ws' : va_W} (hp' : (w1 ++ wr).Perm ws')
    (kx : ∀ (H1 : Heap) (locs1 : List Loc) (ce : Cell) (q9 : Addr), r = none → SI G A s H1 locs1 ws' → H1[q9]? = some ce → ce.vm = .none → s.vm.findClass NSE = some ce.cls → vx_W p l e R s m args below meth c H1 locs1 (cells + mc) (slots + ms) Q (F0 m pc ls rest) q9)
    (kk : ∀ (H1 : Heap) (locs1 : List Loc) (v : Int32), r = some v → SI G A s H1 locs1 ws' → W p l e R s m args below meth c H1 locs1 (cells + mc) (slots + ms) Q (F0 m (pc + 3) ls (.int v :: rest))) : W p l e R s m args below meth c H locs cells slots Q (F0 m pc ls st0) := by
  obtain ⟨h1, h2, h3, h4, h5, h6⟩ := hw
  have hG : GoodIn GW (wsV own idx Cn y (Cond.code y cy mL rt :: GW)) := by
    intro w hw
    rcases List.mem_append.mp hw with h | h
    · rcases List.mem_cons.mp h with rfl | h
      · exact ⟨h1, gw_ok h1⟩
      rcases List.mem_cons.mp h with rfl | h
      · exact ⟨h2, gw_ok h2⟩
      rcases List.mem_cons.mp h with rfl | h
      · exact ⟨h3, gw_ok h3⟩
      rcases List.mem_cons.mp h with rfl | h
      · exact ⟨h4, gw_ok h4⟩
      · exact absurd h List.not_mem_nil
    · exact gw_code h5 w h
  have hr : vx_Run p l e R s m args below meth c H locs cells slots mc ms (F0 m pc ls st0) rest (QL G (va_A w0 H.size) w1 r (Value.ref b :: As).toArray) (XL G (va_A w0 H.size) w1 r) (va_A w0 H.size) :=
    vx_runV (As := As) (rest := rest) (Ts := GW) (own := own) (b := b) (nL := nL) ⟨hx, hb, hml, hown, hts⟩ (hM H.size) (cwV n hts hG rfl rfl rfl h6 hR) ⟨PX.blind, va_recv hE.1 hs.1 hc he, sx_preX hs hE hZ hA hp _⟩ rfl hn hl hst0 (lv_room hst) hdg hf
  intro T hT X
  rcases hr T hT X with ⟨v, st₀, t, T', L, h0, X', hL, e1, e2, hq, st⟩ | ⟨q, st₀, t, T', L, E, ce, h0, X', hL, e1, e2, hq, hce, hcv, hcl, st⟩
  · cases r with
    | none => exact hq.elim
    | some v0 =>
      obtain ⟨⟨hv, hP1, hD1⟩, hz, hk⟩ := hq
      cases hv
      rw [h0] at hz hk
      rw [← e1] at hP1 hz hk
      obtain ⟨t2, a1, b1⟩ := kk T'.heap (locs ++ L) v0 rfl (si_join hs hA hp hP1 hD1 hz hk hL hp') T' rfl X'
      exact ⟨t2, st t2 a1, b1⟩
  · cases r with
    | some v0 => exact hq.elim
    | none =>
      obtain ⟨rfl, hP1, hD1, hz, hk⟩ := hq
      rw [h0] at hz hk
      rw [← e1] at hP1 hz hk hce
      obtain ⟨t2, a1, b1⟩ := kx T'.heap (locs ++ L) ce q rfl (si_join hs hA hp hP1 hD1 hz hk hL hp') hce hcv hcl T' rfl X'
      exact ⟨t2, st.trans a1, b1⟩
theorem sx_throw (hx : p.tables.exec = Jvm.exec) (hb : c.code = cc) (hfl : l.stackTraces = false) (hml : c.maxLocals = nL) (hown : s.vm.findClass RX4 = some m.cls) (hts : ∀ w ∈ GW, w.before args s = true) (hlk : meth.locks = false) (ht : ∀ x ∈ c.exceptionTable.toList, False) (hZ : ZX A s s.heap) (hs : SI G A s H locs ws) (hl : ls.size = nL) (hQ : Q = vx_MQ below (QL G A ws none) (XL G A ws none) args s mc ms A)
    (d0 : decode cc pc = .ok (.new 253, 3)) (d3 : decode cc (pc + 3) = .ok (.dup, 1)) (d4 : decode cc (pc + 4) = .ok (.invokespecial 255, 3)) (d7 : decode cc (pc + 7) = .ok (.athrow, 1)) (hRf : 5 < R.frames) (hRl : 81 ≤ R.locals) (hRc : cells + 1 ≤ R.cells) (hRs : slots + 6 ≤ R.slots) (hc : cells + 1 ≤ mc) (hsl : slots + 6 ≤ ms) : W p l e R s m args below meth c H locs cells slots Q (F0 m pc ls []) := by
  subst hQ
  refine vx_throw0 (cc := cc) (names := nmsE) (own := RX4) (cls := NSE) (ik := 253) (ic := 255) (A := A) (rest := []) hx hb hfl hown fit_1 fit_2 (hts _ gk253) (hts _ gini) (vx_hat (B := BW) (fun w hw => hts w (gw_in (at0_t w (List.mem_filter.mp hw).1) (List.mem_filter.mp hw).2)) at0_n (fun w hw => va_Nw.use (bw_o w hw) (hZ.2.2 w hw))) at0_o hZ.1 hZ.2.1 hs.2.2 (hl.trans hml.symm) d0 d3 d4 d7 (fun x hx => (ht x hx).elim) hRf hRl hRc hRs hlk (fun t _ hz hk => ⟨rfl, ?_, hs.2.1, ?_⟩) hs.2.2.2.2 hc hsl
  · exact va_P_mem.mpr fun q hq => (va_P_mem.mp hs.1 q hq).kept (hk q.1 (va_P_mem.mp hs.1 q hq).lt)
  · exact ⟨Nat.le_trans hs.2.2.1 hz, fun q h1 h2 => by rw [hk q (Nat.lt_of_lt_of_le h1 hs.2.2.1)]; exact hs.2.2.2.1 q h1 h2⟩
end SXX
set_option maxHeartbeats 4000000 in
set_option maxRecDepth 100000 in
theorem c_X4_letter (G : GT) (l : Launch) (hfl : l.stackTraces = false) (a : Nat → Nat) (S : XS) (x1 x2 : Int32) (r : Option Int32) (hF : L_X4 S x1 x2 = some r) : MX G l yX4_letter cX4_letter 4 (some .int) 6 81 1 6 [.ref (a 0), .int x1, .int x2] (WX G a S) r (WX G a S) := by
  refine MX.of (by decide) (Nat.le_of_ble_eq_true rfl) ?_
  intro p e s m args below meth c A ls hx hb hr hml hown hts hlk ht hE hZ hA hs hl Q hQ
  have hl : lv_has ls 4 [(0, .ref (a 0)), (1, .int x1), (2, .int x2)] := hl
  unfold L_X4 at hF
  refine lv_aload_n hx hb dX4_letter_0 rfl (lv_at hl 0 rfl) ?_
  refine lv_iload_n hx hb dX4_letter_1 rfl (lv_at hl 1 rfl) ?_
  obtain ⟨q1, hq1, hF⟩ := bd hF
  refine sx_V (As := [.int x1]) (rest := []) (st1 := [.int q1]) (c_X4_hasShip G l a S x1 q1 hq1) v_X4_105 ⟨(Nat.le_of_ble_eq_true rfl), (Nat.le_of_ble_eq_true rfl)⟩ hx hb hml hown hts hE hA hs ⟨Nat.zero_le _, Nat.zero_le _⟩ 0 rfl rfl rfl rfl rfl hl.1 (Nat.le_of_ble_eq_true rfl) dX4_letter_2 (pmW _) (ws' := WX G a S) (pmW _) (fun H locs hs => ?_)
  refine lv_if_eq (tgt := 17) hx hb dX4_letter_5 (by decide) (fun hc => ?_) (fun hc => ?_)
  · have hF := Option.some.inj ((if_pos hc).symm.trans hF)
    subst hF
    exact sx_throw hx hb hfl hml hown hts hlk ht hZ hs hl.1 hQ dX4_letter_17 dX4_letter_20 dX4_letter_21 dX4_letter_24 (by decide) (by decide) (by decide) (by decide) (by decide) (by decide)
  · have hF := (if_neg hc).symm.trans hF
    refine lv_iload_n hx hb dX4_letter_8 rfl (lv_at hl 2 rfl) ?_
    refine lv_iconst (v := (0 : Int32)) hx hb dX4_letter_9 (by decide) ?_
    refine lv_iconst (v := (5 : Int32)) hx hb dX4_letter_10 (by decide) ?_
    obtain ⟨q2, hq2, hF⟩ := bd hF
    refine sx_S (As := [.int x2, .int (0 : Int32), .int (5 : Int32)]) (rest := []) (st1 := [.int q2]) (c_X4_within G l x2 (0 : Int32) (5 : Int32) q2 hq2) v_X4_64 ⟨(Nat.le_of_ble_eq_true rfl), (Nat.le_of_ble_eq_true rfl)⟩ hx hb hml hown hts hE hA hs ⟨Nat.zero_le _, Nat.zero_le _⟩ rfl rfl rfl hl.1 (Nat.le_of_ble_eq_true rfl) dX4_letter_11 (List.Perm.refl _) (ws' := WX G a S) (List.Perm.refl _) (fun H locs hs => ?_)
    refine lv_if_ne (tgt := 25) hx hb dX4_letter_14 (by decide) (fun hc => ?_) (fun hc => ?_)
    · have hF := (if_neg hc).symm.trans hF
      refine lv_aload_n hx hb dX4_letter_25 rfl (lv_at hl 0 rfl) ?_
      refine fg_X4_19 hx hb hown hts hE hs 0 rfl (v := .ref (a 12)) rfl dX4_letter_26 ?_
      refine fg_X4_256 hx hb hown hts hE hs 12 rfl (v := .ref (a 13)) rfl dX4_letter_29 ?_
      refine lv_iload_n hx hb dX4_letter_32 rfl (lv_at hl 1 rfl) ?_
      obtain ⟨v3, hv3, hF⟩ := bd hF
      refine sx_lald hx hb hE hs 13 (f := t_names (x_now S)) rfl hv3 dX4_letter_33 ?_
      refine lv_iconst (v := (5 : Int32)) hx hb dX4_letter_34 (by decide) ?_
      refine lv_iload_n hx hb dX4_letter_35 rfl (lv_at hl 2 rfl) ?_
      refine lv_imul hx hb dX4_letter_36 ?_
      refine lv_lshr hx hb dX4_letter_37 rfl ?_
      refine lv_l2i hx hb dX4_letter_38 rfl ?_
      refine lv_bipush (v := (31 : Int32)) hx hb dX4_letter_39 (by decide) ?_
      refine lv_iand hx hb dX4_letter_41 ?_
      obtain ⟨v4, hv4⟩ : ∃ v4 : Int32, v4 = ((v3 >>> (((5 : Int32) * x2).toInt64 &&& 63)).toInt32 &&& (31 : Int32)) := ⟨_, rfl⟩
      have hF : (if ((v3 >>> (((5 : Int32) * x2).toInt64 &&& 63)).toInt32 &&& (31 : Int32)) = 0 then some none else some (some (((v3 >>> (((5 : Int32) * x2).toInt64 &&& 63)).toInt32 &&& (31 : Int32)) - (1 : Int32)))) = some r := hF
      rw [← hv4] at hF
      refine sx_topi hv4 ?_
      refine lv_istore_n (lv' := [(3, .int v4), (0, .ref (a 0)), (1, .int x1), (2, .int x2)]) hx hb dX4_letter_42 rfl hl (by decide) rfl (fun ls hl => ?_)
      refine lv_iload_n hx hb dX4_letter_43 rfl (lv_at hl 0 rfl) ?_
      refine lv_if_ne (tgt := 55) hx hb dX4_letter_44 (by decide) (fun hc => ?_) (fun hc => ?_)
      · have hF := Option.some.inj ((if_neg hc).symm.trans hF)
        subst hF
        refine lv_iload_n hx hb dX4_letter_55 rfl (lv_at hl 0 rfl) ?_
        refine lv_iconst (v := (1 : Int32)) hx hb dX4_letter_56 (by decide) ?_
        refine lv_isub hx hb dX4_letter_57 ?_
        refine W.widen (k := 1) (n := 6) (Nat.zero_le _) (Nat.zero_le _) ?_
        subst hQ
        refine vx_ret ?_
        exact sx_iret hx hb hr hlk rfl rfl rfl hs dX4_letter_58
      · have hF := Option.some.inj ((if_pos hc).symm.trans hF)
        subst hF
        exact sx_throw hx hb hfl hml hown hts hlk ht hZ hs hl.1 hQ dX4_letter_47 dX4_letter_50 dX4_letter_51 dX4_letter_54 (by decide) (by decide) (by decide) (by decide) (by decide) (by decide)
    · have hF := Option.some.inj ((if_pos hc).symm.trans hF)
      subst hF
      exact sx_throw hx hb hfl hml hown hts hlk ht hZ hs hl.1 hQ dX4_letter_17 dX4_letter_20 dX4_letter_21 dX4_letter_24 (by decide) (by decide) (by decide) (by decide) (by decide) (by decide)
def LW (G : GT) (o : Nat) (f : Fin 1 → Int64) : va_W := [(o, .inl (G.2.1 1, 1, .inr (.inl (exL f))))]
def rLet : Option Int32 → Int32
  | none => 1
  | some _ => 0
def fLet (f : Fin 1 → Int64) : Option Int32 → Fin 1 → Int64
  | none => f
  | some v => upL f 0 v.toInt64
def hhL : List (Nat × Nat × Nat × Nat) := [(0, 10, 13, 13)]
def ML (G : GT) (l : Launch) (av : List Value) (w0 : va_W) (rv : Option Value) (w1 : va_W) : Prop :=
  ∀ sz : Nat, vx_Met l yL_letter (Cond.codeWith yL_letter cL_letter 5 (some .int) hhL :: GW) ({ frames := 7, cells := 1, slots := 6, locals := 104 }) (va_Pc av (PX G w0 sz)) (QMA G (va_A w0 sz) rv w1) (fun _ _ _ => False) 1 6 (va_A w0 sz)
set_option maxHeartbeats 4000000 in
set_option maxRecDepth 100000 in
theorem c_L_letter (G : GT) (l : Launch) (hfl : l.stackTraces = false) (a : Nat → Nat) (S : XS) (x1 x2 : Int32) (r : Option Int32) (hF : L_X4 S x1 x2 = some r) (o : Nat) (f : Fin 1 → Int64) : ML G l [.ref (a 0), .int x1, .int x2, .ref o] (LW G o f ++ WX G a S) (some (.int (rLet r))) (LW G o (fLet f r) ++ WX G a S) := by
  intro sz
  refine vx_ofWH (cc := cL_letter) (maxL := 5) (ret := some .int) (hh := hhL) (by decide) rfl ?_
  intro p e s m args below meth c s₁ B hml hv
  obtain ⟨rfl, ⟨hsz, hP, hE, hD0⟩, hZ⟩ := hv
  subst hsz
  have hts0 := atoms_spec (ws := Cond.codeWith yL_letter cL_letter 5 (some .int) hhL :: GW) B.pre
  have htab := vx_table (x := yL_letter) B (hts0 _ List.mem_cons_self)
  rw [lg_entry_eq]
  obtain ⟨A, eA⟩ : ∃ A, A = va_A (LW G o f ++ WX G a S) s.heap.size := ⟨_, rfl⟩
  have hA : ∀ q : Nat, s.heap.size ≤ q → A q := fun q h => by rw [eA]; exact Or.inr h
  have hs : SI G A s s.heap [] (LW G o f ++ WX G a S) := ⟨hP, by rw [eA]; exact hD0.self, va_S.rf⟩
  rw [← eA] at hE hZ ⊢
  have hx := B.exec
  have hb := B.bytes
  have hr := B.returns
  have hlk := B.notSynchronized
  have hown : s.vm.findClass RL = some m.cls := findClass_of_methodNamed B.named
  have hts : ∀ w ∈ GW, w.before _ s = true := fun w h => hts0 w (List.mem_cons_of_mem _ h)
  have hl := lv_entry [.ref (a 0), .int x1, .int x2, .ref o] (n := 5) (Nat.le_of_ble_eq_true rfl)
  generalize (lg_sl ([.ref (a 0), .int x1, .int x2, .ref o]) ++ List.replicate (5 - (lg_sl ([.ref (a 0), .int x1, .int x2, .ref o])).length) Slot.unset).toArray = ls at hl ⊢
  have hl : lv_has ls 5 [(0, .ref (a 0)), (1, .int x1), (2, .int x2), (3, .ref o)] := hl
  refine lv_aload_n hx hb dL_letter_0 rfl (lv_at hl 3 rfl) ?_
  refine lv_iconst (v := (0 : Int32)) hx hb dL_letter_1 (by decide) ?_
  refine lv_aload_n hx hb dL_letter_2 rfl (lv_at hl 0 rfl) ?_
  refine lv_iload_n hx hb dL_letter_3 rfl (lv_at hl 1 rfl) ?_
  refine lv_iload_n hx hb dL_letter_4 rfl (lv_at hl 2 rfl) ?_
  refine sx_VX (As := [.int x1, .int x2]) (rest := [.int (0 : Int32), .ref o]) (c_X4_letter G l hfl a S x1 x2 r hF) v_X4_letter ⟨(Nat.le_of_ble_eq_true rfl), (Nat.le_of_ble_eq_true rfl)⟩ hx hb hml hown hts hE hZ hA hs ⟨(Nat.le_of_ble_eq_true rfl), (Nat.le_of_ble_eq_true rfl)⟩ 1 rfl rfl rfl rfl hl.1 (Nat.le_of_ble_eq_true rfl) dL_letter_5 List.perm_append_comm (ws' := LW G o f ++ WX G a S) List.perm_append_comm (fun H locs ce q9 er hs hce hcv hcl => ?_) (fun H locs v er hs => ?_)
  · subst er
    refine vx_catch (own := RL) (name := NSE) (E := NSE) hown [] { startPc := 0, endPc := 10, handlerPc := 13, catchType := 13 } [] htab (fun z hz => absurd hz List.not_mem_nil) (by decide) (by decide) (hts _ gk13) (va_Nw.use rfl (hZ.2.2 _ List.mem_cons_self)) hce hcv hcl ?_
    refine lv_astore (lv' := [(4, .ref q9), (0, .ref (a 0)), (1, .int x1), (2, .int x2), (3, .ref o)]) hx hb dL_letter_13 hl (by decide) rfl (fun ls hl => ?_)
    refine lv_iconst (v := (1 : Int32)) hx hb dL_letter_15 (by decide) ?_
    refine vx_ret ?_
    exact sx_iret hx hb hr hlk rfl rfl rfl hs dL_letter_16
  · subst er
    refine lv_i2l hx hb dL_letter_8 rfl ?_
    refine sx_last hx hb hE hs 0 (f := f) (f2 := upL f 0 v.toInt64) rfl (wL f (k := 0) (by decide) (by decide) v.toInt64) rfl dL_letter_9 (fun H locs hs => ?_)
    refine lv_goto (tgt := 17) hx hb dL_letter_10 (by decide) ?_
    refine lv_iconst (v := (0 : Int32)) hx hb dL_letter_17 (by decide) ?_
    refine vx_ret ?_
    exact sx_iret hx hb hr hlk rfl rfl rfl hs dL_letter_18
theorem gl170 : Cond.methodLink RL 170 yL_letter ∈ GW := gw_in (List.mem_of_getElem? (i := 873) (by decide +kernel)) (by decide +kernel)
theorem gls : Cond.static yL_letter ∈ GW := gw_in (List.mem_of_getElem? (i := 874) (by decide +kernel)) (by decide +kernel)
theorem gli : Cond.initialized RL ∈ GW := gw_in (by decide +kernel) (by decide +kernel)
theorem sx_LS {p : Program} {l : Launch} {e : Env} {R : Room} {s : State} {m : MethodId} {args : Array Value} {below : List Frame} {meth : Method} {c : Code} {H : Heap} {locs : List Loc} {cells slots : Nat} {Q : State → Prop} {cc : ByteArray} {pc : Nat} {ls : Array Slot} {rest As : List Value} {A : Nat → Prop} {G : GT} {ws w0 w1 wr : va_W} {nL : Nat} {v : Value}
    (hM : ML G l As w0 (some v) w1) (hR : 7 + 1 ≤ R.frames ∧ 8 + (5 + 11) + 104 ≤ R.locals) (hx : p.tables.exec = Jvm.exec) (hb : c.code = cc) (hml : c.maxLocals = nL) (hown : s.vm.findClass RL = some m.cls) (hts : ∀ w ∈ GW, w.before args s = true) (hE : EV G A s s.heap) (hZ : ZX A s s.heap) (hA : ∀ q : Nat, s.heap.size ≤ q → A q) (hs : SI G A s H locs ws) (hf : cells + 1 ≤ R.cells ∧ slots + 6 ≤ R.slots)
    {st0 : List Value} (hst0 : st0 = As.reverse ++ rest) (hn : As.length = 4) (hl : ls.size = nL) (hst : (rest.map fun v => v.category).sum ≤ 8) (hdg : decode cc pc = .ok (.invokestatic 170, 3)) (hp : (w0 ++ wr).Perm ws) {ws' : va_W} (hp' : (w1 ++ wr).Perm ws')
    (kk : ∀ (H1 : Heap) (locs1 : List Loc), SI G A s H1 locs1 ws' → W p l e R s m args below meth c H1 locs1 (cells + 1) (slots + 6) Q (F0 m (pc + 3) ls (v :: rest))) : W p l e R s m args below meth c H locs cells slots Q (F0 m pc ls st0) := by
  have hG : GoodIn GW (va_wsS RL 170 yL_letter (Cond.codeWith yL_letter cL_letter 5 (some .int) hhL :: GW)) := by
    intro w hw
    rcases List.mem_append.mp hw with h | h
    · rcases List.mem_cons.mp h with rfl | h
      · exact ⟨gl170, gw_ok gl170⟩
      rcases List.mem_cons.mp h with rfl | h
      · exact ⟨gls, gw_ok gls⟩
      rcases List.mem_cons.mp h with rfl | h
      · exact ⟨gli, gw_ok gli⟩
      · exact absurd h List.not_mem_nil
    · exact gw_code cw_g w h
  have hr : vx_Run p l e R s m args below meth c H locs cells slots 1 6 (F0 m pc ls st0) rest (QMA G (va_A w0 H.size) (some v) w1 As.toArray) (fun _ _ _ => False) (va_A w0 H.size) :=
    vx_runSX (As := As) (rest := rest) (Ts := GW) (own := RL) (nL := nL) (hh := hhL) ⟨hx, hb, hml, hown, hts⟩ (hM H.size) (vx_cwSW 4 hts hG rfl rfl rfl (by decide +kernel) hR) ⟨PX.blind, sx_preX hs hE hZ hA hp _⟩ rfl hn hl hst0 (lv_room hst) hdg hf
  intro T hT X
  rcases hr T hT X with ⟨v, st₀, t, T', L, h0, X', hL, e1, e2, hq, st⟩ | ⟨q, st₀, t, T', L, E, ce, h0, X', hL, e1, e2, hq, hce, hcv, hcl, st⟩
  · obtain ⟨⟨hv, hP1, hD1⟩, hz, hk⟩ := hq
    cases hv
    rw [h0] at hz hk
    rw [← e1] at hP1 hz hk
    obtain ⟨t2, a1, b1⟩ := kk T'.heap (locs ++ L) (si_join hs hA hp hP1 hD1 hz hk hL hp') T' rfl X'
    exact ⟨t2, st t2 a1, b1⟩
  · exact hq.elim
