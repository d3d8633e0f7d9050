/-! ===== 10.base: one list of words for all methods; arrays as functions on Fin; a contract by a pure function; calls ===== -/
def GW : List Cond := lw_tbl.filter goodWord
theorem gw_in {w : Cond} (h : w ∈ lw_tbl) (hg : goodWord w = true) : w ∈ GW := List.mem_filter.mpr ⟨h, hg⟩
theorem gw_ok {w : Cond} (h : w ∈ GW) : (w.onTables && w.keeps) = true ∨ ∃ ty, w = .arrayClass ty := good_of_word (List.mem_filter.mp h).2
theorem gw_code {w : Cond} (h : w ∈ GW) : GoodIn GW (w :: GW) := fun v hv => by
  rcases List.mem_cons.mp hv with rfl | h2
  · exact ⟨h, gw_ok h⟩
  · exact ⟨h2, gw_ok h2⟩
def isNest : Cond → Bool
  | .fieldLinkNest .. => true
  | .methodLinkNest .. => true
  | _ => false
def NW : List Cond := lw_tbl.filter isNest
theorem nw_in {w : Cond} (h : w ∈ lw_tbl) (hg : isNest w = true) : w ∈ NW := List.mem_filter.mpr ⟨h, hg⟩
theorem nw_warm {s U : State} {w : Cond} (hW : s.WarmedH U.vm) (hn : isNest w = true) (h : va_Nw w s) : va_Nw w U := by
  cases w with
  | fieldLinkNest a i b n d h9 => exact va_Nw.warmF hW h
  | methodLinkNest a i x h9 => exact va_Nw.warmM hW h
  | _ => cases hn
theorem nw_same {u U : State} {w : Cond} (hn : isNest w = true) (hv : u.vm = U.vm) (h : va_Nw w u) : va_Nw w U := by
  cases w with
  | fieldLinkNest a i b n d h9 => exact va_Nw.same rfl hv h
  | methodLinkNest a i x h9 => exact va_Nw.same rfl hv h
  | _ => cases hn
/-! what all methods take as given: tables' classes, nest links, statics; G: class numbers, array classes, addresses of the static arrays, of the words -/
abbrev GT : Type := va_G × (Nat → ClassId) × (Nat → Nat) × (Nat → Nat)
def tysG (G : GT) : List (ClassId × FieldType) := [(G.2.1 0, .int), (G.2.1 1, .long), (G.2.1 2, .byte), (G.2.1 3, .boolean), (G.2.1 4, .object "BothToBlame$Told")]
def wd_F : List (String × String × String × List Int32) := [("BothToBlame$Word", "role", "I", wd_role), ("BothToBlame$Word", "column", "I", wd_col)]
def SF (G : GT) (A : Nat → Prop) (U : State) (H : Heap) : Prop :=
  (∀ k, k < 5 → va_Z "BothToBlame" (sA_n k) "[I" (.ref (G.2.2.1 k)) A U H ∧ va_T .int (G.2.2.1 k) (sA_v k).length (fun j => .int ((sA_v k).getD j 0)) A U H) ∧
  va_Z "BothToBlame$Reader" "WORDS" "[LBothToBlame$Word;" (.ref (G.2.2.1 5)) A U H ∧ va_T (.object "BothToBlame$Word") (G.2.2.1 5) 19 (fun j => .ref (G.2.2.2 j)) A U H ∧
  va_En "BothToBlame$Word" "LBothToBlame$Word;" wd_n wd_F G.2.2.2 A U H ∧ va_Ef 19 "BothToBlame$Word" "letters" "J" (fun i => .long (wd_let.getD i 0)) G.2.2.2 A U H
theorem SF.moved {G : GT} {A : Nat → Prop} {u U : State} {H : Heap} (hvm : u.vm.Alike U.vm) (h : SF G A u H) : SF G A U H :=
  ⟨fun k hk => ⟨(h.1 k hk).1.moved hvm, (h.1 k hk).2.moved hvm⟩, h.2.1.moved hvm, h.2.2.1.moved hvm, h.2.2.2.1.moved hvm, h.2.2.2.2.moved hvm⟩
theorem SF.kept {G : GT} {A : Nat → Prop} {U : State} {H H1 : Heap} (h : SF G A U H) (hq : ∀ a : Nat, a < H.size → ¬ A a → H1[a]? = H[a]?) : SF G A U H1 :=
  ⟨fun k hk => ⟨(h.1 k hk).1.kept hq, (h.1 k hk).2.kept hq⟩, h.2.1.kept hq, h.2.2.1.kept hq, h.2.2.2.1.kept hq, h.2.2.2.2.kept hq⟩
theorem SF.narrow {G : GT} {A B : Nat → Prop} {U : State} {H : Heap} (h : SF G A U H) (hAB : ∀ q, B q → A q) : SF G B U H :=
  ⟨fun k hk => ⟨(h.1 k hk).1.narrow hAB, (h.1 k hk).2.narrow hAB⟩, h.2.1.narrow hAB, h.2.2.1.narrow hAB, h.2.2.2.1.narrow hAB, h.2.2.2.2.narrow hAB⟩
def EV (G : GT) (A : Nat → Prop) (U : State) (H : Heap) : Prop := va_K G.1 vwCl (tysG G) U ∧ (∀ w ∈ NW, va_Nw w U) ∧ SF G A U H
theorem EV.call {G : GT} {A B : Nat → Prop} {s U : State} {H : Heap} {locs : List Loc} (h : EV G A s s.heap) (hS : va_S A s.heap H locs) (hB : ∀ q, B q → A q) (hU : U.heap = H) (hW : s.WarmedH U.vm) : EV G B U U.heap :=
  ⟨va_K.moved hW.alike h.1, fun w hw => nw_warm hW (List.mem_filter.mp hw).2 (h.2.1 w hw), by
    rw [hU]
    exact ((h.2.2.kept hS.2.1).moved hW.alike).narrow hB⟩
theorem EV.blind {G : GT} {B : Nat → Prop} {U U2 : State} (hv : U.vm = U2.vm) (hh : U.heap = U2.heap) (h : EV G B U U.heap) : EV G B U2 U2.heap :=
  ⟨va_K.moved (by rw [hv]; exact Vm.Alike.refl U2.vm) h.1, fun w hw => nw_same (List.mem_filter.mp hw).2 hv (h.2.1 w hw), by
    rw [← hh]
    exact h.2.2.moved (by rw [hv]; exact Vm.Alike.refl U2.vm)⟩
/-! the world at a point of a walk -/
def SI (G : GT) (A : Nat → Prop) (s : State) (H : Heap) (locs : List Loc) (ws : va_W) : Prop := va_P G.1 vwCl ws H ∧ va_D A ws ∧ va_S A s.heap H locs
theorem va_D_iff {A : Nat → Prop} {ws : va_W} : va_D A ws ↔ (ws.map Prod.fst).Nodup ∧ ∀ q ∈ ws, A q.1 := by
  constructor
  · intro h
    refine ⟨?_, fun q hq => ?_⟩
    · refine List.pairwise_iff_getElem.mpr ?_
      intro i j hi hj hij e
      rw [List.length_map] at hi hj
      rw [List.getElem_map, List.getElem_map] at e
      have := h.1 i j _ _ (List.getElem?_eq_getElem hi) (List.getElem?_eq_getElem hj) e
      omega
    · obtain ⟨i, hi⟩ := List.getElem?_of_mem hq
      exact h.2 i q hi
  · intro ⟨h1, h2⟩
    refine ⟨fun i j p q hi hj e => ?_, fun k q hk => h2 q (List.mem_of_getElem? hk)⟩
    have hil := (List.getElem?_eq_some_iff.mp hi).1
    refine (List.getElem?_inj (by rw [List.length_map]; exact hil) h1).mp ?_
    rw [List.getElem?_map, List.getElem?_map, hi, hj]
    exact congrArg some e
theorem va_D_perm {A : Nat → Prop} {w1 w2 : va_W} (h : w1.Perm w2) (hD : va_D A w1) : va_D A w2 := by
  rw [va_D_iff] at hD ⊢
  exact ⟨(h.map Prod.fst).nodup_iff.mp hD.1, fun q hq => hD.2 q (h.mem_iff.mpr hq)⟩
theorem va_P_mem {D : va_G} {cl : List vw_C} {ws : va_W} {H : Heap} : va_P D cl ws H ↔ ∀ q ∈ ws, va_at D cl q H :=
  ⟨fun h q hq => by obtain ⟨i, hi⟩ := List.getElem?_of_mem hq; exact h i q hi, fun h k q hk => h q (List.mem_of_getElem? hk)⟩
theorem va_P_perm {D : va_G} {cl : List vw_C} {w1 w2 : va_W} {H : Heap} (h : w1.Perm w2) (hP : va_P D cl w1 H) : va_P D cl w2 H :=
  va_P_mem.mpr fun q hq => va_P_mem.mp hP q (h.mem_iff.mpr hq)
theorem va_A_mem {w0 : va_W} {sz q : Nat} : va_A w0 sz q ↔ (∃ e, (q, e) ∈ w0) ∨ sz ≤ q := by
  constructor
  · rintro (⟨k, e, h⟩ | h)
    · exact Or.inl ⟨e, List.mem_of_getElem? h⟩
    · exact Or.inr h
  · rintro (⟨e, h⟩ | h)
    · obtain ⟨i, hi⟩ := List.getElem?_of_mem h
      exact Or.inl ⟨i, e, hi⟩
    · exact Or.inr h
theorem sx_sub {G : GT} {A : Nat → Prop} {s : State} {H : Heap} {locs : List Loc} {ws w0 wr : va_W} (hs : SI G A s H locs ws) (hp : (w0 ++ wr).Perm ws) (hA : ∀ q, s.heap.size ≤ q → A q) :
    va_P G.1 vwCl w0 H ∧ va_D (fun _ => True) w0 ∧ ∀ q, va_A w0 H.size q → A q := by
  have hP := va_P_perm hp.symm hs.1
  have hD := va_D_perm hp.symm hs.2.1
  refine ⟨va_P_mem.mpr fun q hq => va_P_mem.mp hP q (List.mem_append_left _ hq), ?_, fun q h => ?_⟩
  · rw [va_D_iff] at hD ⊢
    rw [List.map_append] at hD
    exact ⟨(List.nodup_append.mp hD.1).1, fun _ _ => trivial⟩
  · rcases va_A_mem.mp h with ⟨e, h⟩ | h
    · exact (va_D_iff.mp hD).2 (q, e) (List.mem_append_left _ h)
    · exact hA q (Nat.le_trans hs.2.2.1 h)
/-! a contract: w0 the world at the start, rv the answer, w1 the world at the end -/
def PM (G : GT) (w0 : va_W) (sz : Nat) : State → Prop := fun U => U.heap.size = sz ∧ va_P G.1 vwCl w0 U.heap ∧ EV G (va_A w0 sz) U U.heap ∧ va_D (fun _ => True) w0
def QMA (G : GT) (A : Nat → Prop) (rv : Option Value) (w1 : va_W) : Array Value → State → Outcome → State → Prop := fun _ st oc t => (oc = .returned rv ∧ va_P G.1 vwCl w1 t.heap ∧ va_D A w1) ∧ va_F A st t
def MT (G : GT) (l : Launch) (y : MethodName) (cc : ByteArray) (mL : Nat) (rt : Option FieldType) (fr lo : Nat) (av : List Value) (w0 : va_W) (rv : Option Value) (w1 : va_W) : Prop :=
  ∀ sz : Nat, Met l y (Cond.code y cc mL rt :: GW) ({ frames := fr, cells := 0, slots := 0, locals := lo }) (va_Pc av (PM G w0 sz)) (QMA G (va_A w0 sz) rv w1) 0 0 (va_A w0 sz)
theorem MT.of {G : GT} {l : Launch} {y : MethodName} {cc : ByteArray} {mL : Nat} {rt : Option FieldType} {fr lo : Nat} {av : List Value} {w0 : va_W} {rv : Option Value} {w1 : va_W} (hy : plainName y.cls = true) (hn : (lg_sl av).length ≤ mL)
    (body : ∀ (p : Program) (e : Env) (s : State) (m : MethodId) (args : Array Value) (below : List Frame) (meth : Method) (c : Code) (A : Nat → Prop) (ls : Array Slot),
      p.tables.exec = Jvm.exec → c.code = cc → meth.sig.returnType = rt → c.maxLocals = mL → s.vm.findClass y.cls = some m.cls → (∀ w ∈ GW, w.before args s = true) → meth.locks = false → EV G A s s.heap → (∀ q : Nat, s.heap.size ≤ q → A q) → SI G A s s.heap [] w0 → lv_has ls mL (lv_args 0 av) → ∀ Q : State → Prop, Q = MQ below (QMA G A rv w1) args s 0 0 A →
      W p l e ({ frames := fr, cells := 0, slots := 0, locals := lo }) s m args below meth c s.heap [] 0 0 Q (F0 m 0 ls [])) : MT G l y cc mL rt fr lo av w0 rv w1 := by
  intro sz
  refine Met.ofW (cc := cc) (maxL := mL) (ret := rt) hy rfl ?_
  intro p e s m args below meth c s₁ B hml hv
  obtain ⟨rfl, hsz, hP, hE, hD0⟩ := hv
  subst hsz
  have hts0 := atoms_spec (ws := Cond.code y cc mL rt :: GW) B.pre
  rw [lg_entry_eq]
  exact body p e s m _ below meth c (va_A w0 s.heap.size) _ B.exec B.bytes B.returns hml (findClass_of_methodNamed B.named) (fun w h => hts0 w (List.mem_cons_of_mem _ h)) B.notSynchronized hE (fun q h => Or.inr h) ⟨hP, hD0.self, va_S.rf⟩ (lv_entry av hn) _ rfl
theorem PM.blind {G : GT} {w0 : va_W} {sz : Nat} {av : List Value} : FrameBlind (va_Pc av (PM G w0 sz)) := fun a U g mk q => by
  obtain ⟨q0, q1, q2, q3, q4⟩ := q
  exact ⟨q0, q1, q2, EV.blind (U := U) (U2 := U.calling g mk a) rfl rfl q3, q4⟩
section SXRUN
variable {p : Program} {l : Launch} {e : Env} {R : Room} {s : State} {m : MethodId} {args : Array Value} {below : List Frame} {meth : Method} {c : Code} {H : Heap} {locs : List Loc} {cells slots : Nat} {Q : State → Prop}
variable {cc cy : ByteArray} {pc : Nat} {ls : Array Slot} {rest As : List Value} {A : Nat → Prop} {G : GT} {ws w0 w1 wr : va_W} {nL n idx mL fr lo b : Nat} {y : MethodName} {rt : Option FieldType} {rv : Option Value} {own Cn host : String}
theorem sx_pre (hs : SI G A s H locs ws) (hE : EV G A s s.heap) (hA : ∀ q : Nat, s.heap.size ≤ q → A q) (hp : (w0 ++ wr).Perm ws) (av : List Value) : ∀ U : State, U.heap = H → s.WarmedH U.vm → va_Pc av (PM G w0 H.size) av.toArray U := fun U hU hW => by
  obtain ⟨h1, h2, h3⟩ := sx_sub hs hp hA
  exact ⟨rfl, by rw [hU], by rw [hU]; exact h1, hE.call hs.2.2 h3 hU hW, h2⟩
/-- a method of the same class, or a public one: its words -/
def VW (own : String) (idx : Nat) (Cn : String) (y : MethodName) (cy : ByteArray) (mL : Nat) (rt : Option FieldType) (n : Nat) : Prop :=
  Cond.methodLink own idx y ∈ GW ∧ Cond.instanceMethod y ∈ GW ∧ Cond.selects Cn y y ∈ GW ∧ Cond.initialized Cn ∈ GW ∧ Cond.code y cy mL rt ∈ GW ∧ (y.cls = Cn ∧ y.cls ≠ "java/lang/invoke/MethodHandle" ∧ y.cls ≠ "java/lang/invoke/VarHandle" ∧ (parseMethodDescriptor y.desc).map (fun d => d.parameters.length) = some n)
/-- a private method of a nest mate -/
def VN (own : String) (idx : Nat) (Cn : String) (y : MethodName) (cy : ByteArray) (mL : Nat) (rt : Option FieldType) (n : Nat) : Prop :=
  Cond.methodLinkNest own idx y "BothToBlame" ∈ NW ∧ Cond.instanceMethod y ∈ GW ∧ Cond.selects Cn y y ∈ GW ∧ Cond.initialized y.cls ∈ GW ∧ Cond.code y cy mL rt ∈ GW ∧ (y.cls ≠ "java/lang/invoke/MethodHandle" ∧ y.cls ≠ "java/lang/invoke/VarHandle" ∧ (parseMethodDescriptor y.desc).map (fun d => d.parameters.length) = some n)
/-- a static method -/
def VS (own : String) (idx : Nat) (y : MethodName) (cy : ByteArray) (mL : Nat) (rt : Option FieldType) (n : Nat) : Prop :=
  Cond.methodLink own idx y ∈ GW ∧ Cond.static y ∈ GW ∧ Cond.initialized y.cls ∈ GW ∧ Cond.code y cy mL rt ∈ GW ∧ (y.cls ≠ "java/lang/invoke/MethodHandle" ∧ y.cls ≠ "java/lang/invoke/VarHandle" ∧ (parseMethodDescriptor y.desc).map (fun d => d.parameters.length) = some n)
/-- a private static method of a nest mate -/
def VSN (own : String) (idx : Nat) (y : MethodName) (cy : ByteArray) (mL : Nat) (rt : Option FieldType) (n : Nat) : Prop :=
  Cond.methodLinkNest own idx y "BothToBlame" ∈ NW ∧ Cond.static y ∈ GW ∧ Cond.initialized y.cls ∈ GW ∧ Cond.code y cy mL rt ∈ GW ∧ (y.cls ≠ "java/lang/invoke/MethodHandle" ∧ y.cls ≠ "java/lang/invoke/VarHandle" ∧ (parseMethodDescriptor y.desc).map (fun d => d.parameters.length) = some n)
theorem sx_call {st0 : List Value} (hr : va_Run p l e R s m args below meth c H locs cells slots 0 0 (F0 m pc ls st0) rest (fun st oc t => QMA G (va_A w0 H.size) rv w1 #[] st oc t) (va_A w0 H.size)) (hs : SI G A s H locs ws) (hA : ∀ q : Nat, s.heap.size ≤ q → A q) (hp : (w0 ++ wr).Perm ws) {ws' : va_W} (hp' : (w1 ++ wr).Perm ws')
    (kk : ∀ (H1 : Heap) (locs1 : List Loc), SI G A s H1 locs1 ws' → W p l e R s m args below meth c H1 locs1 cells slots Q (F0 m (pc + 3) ls (rv.toList ++ rest))) : W p l e R s m args below meth c H locs cells slots Q (F0 m pc ls st0) := by
  obtain ⟨-, -, hF⟩ := sx_sub hs hp hA
  have hP := va_P_perm hp.symm hs.1
  have hD := va_D_perm hp.symm hs.2.1
  intro T hT X
  obtain ⟨v, st₀, t, T', L, h0, X', hL, e1, e2, ⟨⟨hv, hP1, hD1⟩, hz, hk⟩, st⟩ := hr T hT X
  cases hv
  rw [h0] at hz hk
  rw [← e1] at hP1 hz hk
  have apart : ∀ q ∈ wr, q.1 < H.size ∧ ¬ va_A w0 H.size q.1 := by
    intro q hq
    have hl := (va_P_mem.mp hP q (List.mem_append_right _ hq)).lt
    refine ⟨hl, fun h => ?_⟩
    rcases va_A_mem.mp h with ⟨e9, h⟩ | h
    · have hn := (va_D_iff.mp hD).1
      rw [List.map_append] at hn
      exact (List.nodup_append.mp hn).2.2 q.1 (List.mem_map.mpr ⟨(q.1, e9), h, rfl⟩) q.1 (List.mem_map.mpr ⟨q, hq, rfl⟩) rfl
    · omega
  have hS1 : va_S A s.heap T'.heap (locs ++ L) := ⟨Nat.le_trans hs.2.2.1 hz, fun q h1 h2 => by
      rw [hk q (Nat.lt_of_lt_of_le h1 hs.2.2.1) (fun z => h2 (hF q z))]; exact hs.2.2.2.1 q h1 h2, fun q hq => by
      rcases List.mem_append.mp hq with h | h
      · exact hs.2.2.2.2 q h
      · exact hF _ (hL q h)⟩
  have hPn : va_P G.1 vwCl (w1 ++ wr) T'.heap := va_P.app hP1 (va_P_mem.mpr fun q hq => (va_P_mem.mp hP q (List.mem_append_right _ hq)).kept (hk q.1 (apart q hq).1 (apart q hq).2))
  have hDr : va_D A wr := by
    rw [va_D_iff] at hD ⊢
    rw [List.map_append] at hD
    exact ⟨(List.nodup_append.mp hD.1).2.1, fun q hq => hD.2 q (List.mem_append_right _ hq)⟩
  have hDn : va_D A (w1 ++ wr) := va_D.app (hD1.weaken (fun k q _ h => hF q.1 h)) hDr (fun i j x y hx hy hxy => (apart y (List.mem_of_getElem? hy)).2 (by rw [← hxy]; exact hD1.2 i x hx))
  obtain ⟨t2, a1, b1⟩ := kk T'.heap (locs ++ L) ⟨va_P_perm hp' hPn, va_D_perm hp' hDn, hS1⟩ T' rfl X'
  exact ⟨t2, st t2 a1, b1⟩
theorem sx_V (hM : MT G l y cy mL rt fr lo (.ref b :: As) w0 rv w1) (hw : VW own idx Cn y cy mL rt n) (hR : fr + 1 ≤ R.frames ∧ 8 + (mL + 11) + lo ≤ R.locals) (hx : p.tables.exec = Jvm.exec) (hb : c.code = cc) (hml : c.maxLocals = nL) (hown : s.vm.findClass own = some m.cls) (hts : ∀ w ∈ GW, w.before args s = true) (hE : EV G A s s.heap) (hA : ∀ q : Nat, s.heap.size ≤ q → A q) (hs : SI G A s H locs ws) (hf : cells ≤ R.cells ∧ slots ≤ R.slots)
    (q0 : Nat) {ci : Nat} {T : u_T} {N : Nat} {fs : List Value} (he : ws[q0]? = some (b, .inr (ci, fs))) (hc : vwCl[ci]? = some (Cn, T, N)) {st0 st1 : List Value} (hst0 : st0 = As.reverse ++ .ref b :: rest) (hst1 : rv.toList ++ rest = st1) (hn : As.length = n) (hl : ls.size = nL) (hst : (rest.map fun v => v.category).sum ≤ 8) (hdg : decode cc pc = .ok (.invokevirtual idx, 3)) (hp : (w0 ++ wr).Perm ws) {ws' : va_W} (hp' : (w1 ++ wr).Perm ws')
    (kk : ∀ (H1 : Heap) (locs1 : List Loc), SI G A s H1 locs1 ws' → W p l e R s m args below meth c H1 locs1 cells slots Q (F0 m (pc + 3) ls st1)) : W p l e R s m args below meth c H locs cells slots Q (F0 m pc ls st0) := by
  subst hst1
  obtain ⟨h1, h2, h3, h4, h5, h6⟩ := hw
  have hG : GoodIn GW (wsV own idx Cn y (Cond.code y cy mL rt :: GW)) := by
    intro w hw
    rcases List.mem_append.mp hw with h | h
    · rcases List.mem_cons.mp h with rfl | h
      · exact ⟨h1, gw_ok h1⟩
      rcases List.mem_cons.mp h with rfl | h
      · exact ⟨h2, gw_ok h2⟩
      rcases List.mem_cons.mp h with rfl | h
      · exact ⟨h3, gw_ok h3⟩
      rcases List.mem_cons.mp h with rfl | h
      · exact ⟨h4, gw_ok h4⟩
      · exact absurd h List.not_mem_nil
    · exact gw_code h5 w h
  exact sx_call (va_runV (As := As) (rest := rest) (Ts := GW) (own := own) (b := b) (nL := nL) ⟨hx, hb, hml, hown, hts⟩ (hM H.size) (cwV n hts hG rfl rfl rfl h6 hR) ⟨PM.blind, va_recv hE.1 hs.1 hc he, sx_pre hs hE hA hp _⟩ rfl hn hl hst0 (lv_room hst) hdg ⟨hf.1, hf.2⟩) hs hA hp hp' kk
theorem sx_N (hM : MT G l y cy mL rt fr lo (.ref b :: As) w0 rv w1) (hw : VN own idx Cn y cy mL rt n) (hR : fr + 1 ≤ R.frames ∧ 8 + (mL + 11) + lo ≤ R.locals) (hx : p.tables.exec = Jvm.exec) (hb : c.code = cc) (hml : c.maxLocals = nL) (hown : s.vm.findClass own = some m.cls) (hts : ∀ w ∈ GW, w.before args s = true) (hE : EV G A s s.heap) (hA : ∀ q : Nat, s.heap.size ≤ q → A q) (hs : SI G A s H locs ws) (hf : cells ≤ R.cells ∧ slots ≤ R.slots)
    (q0 : Nat) {ci : Nat} {T : u_T} {N : Nat} {fs : List Value} (he : ws[q0]? = some (b, .inr (ci, fs))) (hc : vwCl[ci]? = some (Cn, T, N)) {st0 st1 : List Value} (hst0 : st0 = As.reverse ++ .ref b :: rest) (hst1 : rv.toList ++ rest = st1) (hn : As.length = n) (hl : ls.size = nL) (hst : (rest.map fun v => v.category).sum ≤ 8) (hdg : decode cc pc = .ok (.invokevirtual idx, 3)) (hp : (w0 ++ wr).Perm ws) {ws' : va_W} (hp' : (w1 ++ wr).Perm ws')
    (kk : ∀ (H1 : Heap) (locs1 : List Loc), SI G A s H1 locs1 ws' → W p l e R s m args below meth c H1 locs1 cells slots Q (F0 m (pc + 3) ls st1)) : W p l e R s m args below meth c H locs cells slots Q (F0 m pc ls st0) := by
  subst hst1
  obtain ⟨h1, h2, h3, h4, h5, h6⟩ := hw
  exact sx_call (va_runVN (As := As) (rest := rest) (Ts := GW) (own := own) (C := Cn) (host := "BothToBlame") (b := b) (nL := nL) ⟨hx, hb, hml, hown, hts⟩ (hM H.size) ⟨va_cnB n hts (gw_code h5) rfl rfl rfl (hE.2.1 _ h1) (hts _ h4) h6 hR, hts _ h2, hts _ h3⟩ ⟨PM.blind, va_recv hE.1 hs.1 hc he, sx_pre hs hE hA hp _⟩ rfl hn hl hst0 (lv_room hst) hdg ⟨hf.1, hf.2⟩) hs hA hp hp' kk
theorem sx_S (hM : MT G l y cy mL rt fr lo As w0 rv w1) (hw : VS own idx y cy mL rt n) (hR : fr + 1 ≤ R.frames ∧ 8 + (mL + 11) + lo ≤ R.locals) (hx : p.tables.exec = Jvm.exec) (hb : c.code = cc) (hml : c.maxLocals = nL) (hown : s.vm.findClass own = some m.cls) (hts : ∀ w ∈ GW, w.before args s = true) (hE : EV G A s s.heap) (hA : ∀ q : Nat, s.heap.size ≤ q → A q) (hs : SI G A s H locs ws) (hf : cells ≤ R.cells ∧ slots ≤ R.slots)
    {st0 st1 : List Value} (hst0 : st0 = As.reverse ++ rest) (hst1 : rv.toList ++ rest = st1) (hn : As.length = n) (hl : ls.size = nL) (hst : (rest.map fun v => v.category).sum ≤ 8) (hdg : decode cc pc = .ok (.invokestatic idx, 3)) (hp : (w0 ++ wr).Perm ws) {ws' : va_W} (hp' : (w1 ++ wr).Perm ws')
    (kk : ∀ (H1 : Heap) (locs1 : List Loc), SI G A s H1 locs1 ws' → W p l e R s m args below meth c H1 locs1 cells slots Q (F0 m (pc + 3) ls st1)) : W p l e R s m args below meth c H locs cells slots Q (F0 m pc ls st0) := by
  subst hst1
  obtain ⟨h1, h2, h3, h4, h5⟩ := hw
  have hG : GoodIn GW (va_wsS own idx y (Cond.code y cy mL rt :: GW)) := by
    intro w hw
    rcases List.mem_append.mp hw with h | h
    · rcases List.mem_cons.mp h with rfl | h
      · exact ⟨h1, gw_ok h1⟩
      rcases List.mem_cons.mp h with rfl | h
      · exact ⟨h2, gw_ok h2⟩
      rcases List.mem_cons.mp h with rfl | h
      · exact ⟨h3, gw_ok h3⟩
      · exact absurd h List.not_mem_nil
    · exact gw_code h4 w h
  exact sx_call (va_runS (As := As) (rest := rest) (Ts := GW) (own := own) (nL := nL) ⟨hx, hb, hml, hown, hts⟩ (hM H.size) (va_cwS n hts hG rfl rfl rfl h5 hR) ⟨PM.blind, sx_pre hs hE hA hp _⟩ rfl hn hl hst0 (lv_room hst) hdg ⟨hf.1, hf.2⟩) hs hA hp hp' kk
theorem sx_SN (hM : MT G l y cy mL rt fr lo As w0 rv w1) (hw : VSN own idx y cy mL rt n) (hR : fr + 1 ≤ R.frames ∧ 8 + (mL + 11) + lo ≤ R.locals) (hx : p.tables.exec = Jvm.exec) (hb : c.code = cc) (hml : c.maxLocals = nL) (hown : s.vm.findClass own = some m.cls) (hts : ∀ w ∈ GW, w.before args s = true) (hE : EV G A s s.heap) (hA : ∀ q : Nat, s.heap.size ≤ q → A q) (hs : SI G A s H locs ws) (hf : cells ≤ R.cells ∧ slots ≤ R.slots)
    {st0 st1 : List Value} (hst0 : st0 = As.reverse ++ rest) (hst1 : rv.toList ++ rest = st1) (hn : As.length = n) (hl : ls.size = nL) (hst : (rest.map fun v => v.category).sum ≤ 8) (hdg : decode cc pc = .ok (.invokestatic idx, 3)) (hp : (w0 ++ wr).Perm ws) {ws' : va_W} (hp' : (w1 ++ wr).Perm ws')
    (kk : ∀ (H1 : Heap) (locs1 : List Loc), SI G A s H1 locs1 ws' → W p l e R s m args below meth c H1 locs1 cells slots Q (F0 m (pc + 3) ls st1)) : W p l e R s m args below meth c H locs cells slots Q (F0 m pc ls st0) := by
  subst hst1
  obtain ⟨h1, h2, h3, h4, h5⟩ := hw
  exact sx_call (va_runSN (As := As) (rest := rest) (Ts := GW) (own := own) (host := "BothToBlame") (nL := nL) ⟨hx, hb, hml, hown, hts⟩ (hM H.size) ⟨va_cnB n hts (gw_code h4) rfl rfl rfl (hE.2.1 _ h1) (hts _ h3) h5 hR, hts _ h2, trivial⟩ ⟨PM.blind, sx_pre hs hE hA hp _⟩ rfl hn hl hst0 (lv_room hst) hdg ⟨hf.1, hf.2⟩) hs hA hp hp' kk
/-! ends -/
theorem sx_iret {v r : Int32} (hx : p.tables.exec = Jvm.exec) (hb : c.code = cc) (hr : meth.sig.returnType = some .int) (hlk : meth.locks = false) (hQ : Q = MQ below (QMA G A (some (.int r)) w1) args s cells slots A) (hv : v = r) (hw : ws = w1) (hs : SI G A s H locs ws) (hdg : decode cc pc = .ok (.ireturn, 1)) : W p l e R s m args below meth c H locs cells slots Q (F0 m pc ls [.int v]) := by
  subst hQ; subst hv; subst hw
  exact W.iret (v := v) hx hb hr (fun t ht hW => ⟨⟨rfl, by rw [ht]; exact hs.1, hs.2.1⟩, hs.2.2.F ht⟩) hs.2.2.2.2 hdg hlk
theorem sx_zret {v r : Int32} (hx : p.tables.exec = Jvm.exec) (hb : c.code = cc) (hr : meth.sig.returnType = some .boolean) (hlk : meth.locks = false) (hQ : Q = MQ below (QMA G A (some (.int r)) w1) args s cells slots A) (hz : v = 0 ∨ v = 1) (hv : v = r) (hw : ws = w1) (hs : SI G A s H locs ws) (hdg : decode cc pc = .ok (.ireturn, 1)) : W p l e R s m args below meth c H locs cells slots Q (F0 m pc ls [.int v]) := by
  subst hQ; subst hv; subst hw
  exact W.zret (v := v) hx hb hr (by rcases hz with rfl | rfl <;> rfl) (fun t ht hW => ⟨⟨rfl, by rw [ht]; exact hs.1, hs.2.1⟩, hs.2.2.F ht⟩) hs.2.2.2.2 hdg hlk
theorem sx_lret {v r : Int64} (hx : p.tables.exec = Jvm.exec) (hb : c.code = cc) (hr : meth.sig.returnType = some .long) (hlk : meth.locks = false) (hQ : Q = MQ below (QMA G A (some (.long r)) w1) args s cells slots A) (hv : v = r) (hw : ws = w1) (hs : SI G A s H locs ws) (hdg : decode cc pc = .ok (.lreturn, 1)) : W p l e R s m args below meth c H locs cells slots Q (F0 m pc ls [.long v]) := by
  subst hQ; subst hv; subst hw
  exact W.lret (v := v) hx hb hr (fun t ht hW => ⟨⟨rfl, by rw [ht]; exact hs.1, hs.2.1⟩, hs.2.2.F ht⟩) hs.2.2.2.2 hdg hlk
theorem sx_vret (hx : p.tables.exec = Jvm.exec) (hb : c.code = cc) (hr : meth.sig.returnType = none) (hlk : meth.locks = false) (hQ : Q = MQ below (QMA G A none w1) args s cells slots A) (hw : ws = w1) (hs : SI G A s H locs ws) (hdg : decode cc pc = .ok (.return_, 1)) : W p l e R s m args below meth c H locs cells slots Q (F0 m pc ls []) := by
  subst hQ; subst hw
  exact W.vret hx hb hr (fun t ht hW => ⟨⟨rfl, by rw [ht]; exact hs.1, hs.2.1⟩, hs.2.2.F ht⟩) hs.2.2.2.2 hdg hlk
theorem sx_topi {x y : Int32} (h : y = x) (k : W p l e R s m args below meth c H locs cells slots Q (F0 m pc ls (.int y :: rest))) : W p l e R s m args below meth c H locs cells slots Q (F0 m pc ls (.int x :: rest)) := h ▸ k
theorem sx_topl {x y : Int64} (h : y = x) (k : W p l e R s m args below meth c H locs cells slots Q (F0 m pc ls (.long y :: rest))) : W p l e R s m args below meth c H locs cells slots Q (F0 m pc ls (.long x :: rest)) := h ▸ k
end SXRUN
abbrev RM (fr lo : Nat) : Room := { frames := fr, cells := 0, slots := 0, locals := lo }
theorem pmW (w : va_W) : (w ++ []).Perm w := by rw [List.append_nil]
theorem pm1 (a w r : va_W) : (w ++ (a ++ r)).Perm (a ++ (w ++ r)) := List.perm_append_comm_assoc w a r
/-! arrays: functions on Fin n; read and written within bounds, else none -/
section SXARR
variable {p : Program} {l : Launch} {e : Env} {R : Room} {s : State} {m : MethodId} {args : Array Value} {below : List Frame} {meth : Method} {c : Code} {H : Heap} {locs : List Loc} {cells slots : Nat} {Q : State → Prop}
variable {cc : ByteArray} {pc : Nat} {ls : Array Slot} {rest : List Value} {A : Nat → Prop} {G : GT} {ws ws' : va_W} {a n : Nat}
theorem sx_iald (hx : p.tables.exec = Jvm.exec) (hb : c.code = cc) (hE : EV G A s s.heap) (hs : SI G A s H locs ws) (q0 : Nat) {f : Fin n → Int32} (ha : ws[q0]? = some (a, .inl (G.2.1 0, n, .inl (exI f)))) {i v : Int32} (hv : rdI f i = some v) (hdg : decode cc pc = .ok (.iaload, 1))
    (kk : W p l e R s m args below meth c H locs cells slots Q (F0 m (pc + 1) ls (.int v :: rest))) : W p l e R s m args below meth c H locs cells slots Q (F0 m pc ls (.int i :: .ref a :: rest)) := by
  obtain ⟨h1, rfl⟩ := rdI_some hv
  exact va_iald hx hb hE.1 hs.1 q0 0 ha rfl h1 hdg kk
theorem sx_bald (hx : p.tables.exec = Jvm.exec) (hb : c.code = cc) (hE : EV G A s s.heap) (hs : SI G A s H locs ws) (q0 : Nat) {f : Fin n → Int32} (ha : ws[q0]? = some (a, .inl (G.2.1 2, n, .inl (exI f)))) {i v : Int32} (hv : rdI f i = some v) (hdg : decode cc pc = .ok (.baload, 1))
    (kk : W p l e R s m args below meth c H locs cells slots Q (F0 m (pc + 1) ls (.int v :: rest))) : W p l e R s m args below meth c H locs cells slots Q (F0 m pc ls (.int i :: .ref a :: rest)) := by
  obtain ⟨h1, rfl⟩ := rdI_some hv
  exact va_bald hx hb hE.1 hs.1 q0 2 ha rfl h1 hdg kk
theorem sx_zald (hx : p.tables.exec = Jvm.exec) (hb : c.code = cc) (hE : EV G A s s.heap) (hs : SI G A s H locs ws) (q0 : Nat) {f : Fin n → Int32} (ha : ws[q0]? = some (a, .inl (G.2.1 3, n, .inl (exI f)))) {i v : Int32} (hv : rdI f i = some v) (hdg : decode cc pc = .ok (.baload, 1))
    (kk : W p l e R s m args below meth c H locs cells slots Q (F0 m (pc + 1) ls (.int v :: rest))) : W p l e R s m args below meth c H locs cells slots Q (F0 m pc ls (.int i :: .ref a :: rest)) := by
  obtain ⟨h1, rfl⟩ := rdI_some hv
  exact va_zald hx hb hE.1 hs.1 q0 3 ha rfl h1 hdg kk
theorem sx_lald (hx : p.tables.exec = Jvm.exec) (hb : c.code = cc) (hE : EV G A s s.heap) (hs : SI G A s H locs ws) (q0 : Nat) {f : Fin n → Int64} (ha : ws[q0]? = some (a, .inl (G.2.1 1, n, .inr (.inl (exL f))))) {i : Int32} {v : Int64} (hv : rdL f i = some v) (hdg : decode cc pc = .ok (.laload, 1))
    (kk : W p l e R s m args below meth c H locs cells slots Q (F0 m (pc + 1) ls (.long v :: rest))) : W p l e R s m args below meth c H locs cells slots Q (F0 m pc ls (.int i :: .ref a :: rest)) := by
  obtain ⟨h1, rfl⟩ := rdL_some hv
  exact va_lald hx hb hE.1 hs.1 q0 1 ha rfl h1 hdg kk
theorem sx_iast (hx : p.tables.exec = Jvm.exec) (hb : c.code = cc) (hE : EV G A s s.heap) (hs : SI G A s H locs ws) (q0 : Nat) {f f2 : Fin n → Int32} (ha : ws[q0]? = some (a, .inl (G.2.1 0, n, .inl (exI f)))) {i x : Int32} (hv : wrI f i x = some f2) (hw : ws.set q0 (a, .inl (G.2.1 0, n, .inl (exI f2))) = ws') (hdg : decode cc pc = .ok (.iastore, 1))
    (kk : ∀ (H1 : Heap) (locs1 : List Loc), SI G A s H1 locs1 ws' → W p l e R s m args below meth c H1 locs1 cells slots Q (F0 m (pc + 1) ls rest)) : W p l e R s m args below meth c H locs cells slots Q (F0 m pc ls (.int x :: .int i :: .ref a :: rest)) := by
  obtain ⟨h1, h2⟩ := wrI_some hv
  subst hw
  refine va_iast hx hb hE.1 hs.1 hs.2.1 hs.2.2 q0 0 ha rfl h1 hdg (fun H1 locs1 hP hD hS => ?_)
  rw [h2] at hP hD
  exact kk H1 locs1 ⟨hP, hD, hS⟩
theorem sx_bast (hx : p.tables.exec = Jvm.exec) (hb : c.code = cc) (hE : EV G A s s.heap) (hs : SI G A s H locs ws) (q0 : Nat) {f f2 : Fin n → Int32} (ha : ws[q0]? = some (a, .inl (G.2.1 2, n, .inl (exI f)))) {i x : Int32} (hn : vp_nar .byte x = x) (hv : wrI f i x = some f2) (hw : ws.set q0 (a, .inl (G.2.1 2, n, .inl (exI f2))) = ws') (hdg : decode cc pc = .ok (.bastore, 1))
    (kk : ∀ (H1 : Heap) (locs1 : List Loc), SI G A s H1 locs1 ws' → W p l e R s m args below meth c H1 locs1 cells slots Q (F0 m (pc + 1) ls rest)) : W p l e R s m args below meth c H locs cells slots Q (F0 m pc ls (.int x :: .int i :: .ref a :: rest)) := by
  obtain ⟨h1, h2⟩ := wrI_some hv
  subst hw
  refine va_bast hx hb hE.1 hs.1 hs.2.1 hs.2.2 q0 2 ha rfl h1 hdg (fun H1 locs1 hP hD hS => ?_)
  rw [hn, h2] at hP hD
  exact kk H1 locs1 ⟨hP, hD, hS⟩
theorem sx_zast (hx : p.tables.exec = Jvm.exec) (hb : c.code = cc) (hE : EV G A s s.heap) (hs : SI G A s H locs ws) (q0 : Nat) {f f2 : Fin n → Int32} (ha : ws[q0]? = some (a, .inl (G.2.1 3, n, .inl (exI f)))) {i x : Int32} (hn : vp_nar .boolean x = x) (hv : wrI f i x = some f2) (hw : ws.set q0 (a, .inl (G.2.1 3, n, .inl (exI f2))) = ws') (hdg : decode cc pc = .ok (.bastore, 1))
    (kk : ∀ (H1 : Heap) (locs1 : List Loc), SI G A s H1 locs1 ws' → W p l e R s m args below meth c H1 locs1 cells slots Q (F0 m (pc + 1) ls rest)) : W p l e R s m args below meth c H locs cells slots Q (F0 m pc ls (.int x :: .int i :: .ref a :: rest)) := by
  obtain ⟨h1, h2⟩ := wrI_some hv
  subst hw
  refine va_zast hx hb hE.1 hs.1 hs.2.1 hs.2.2 q0 3 ha rfl h1 hdg (fun H1 locs1 hP hD hS => ?_)
  rw [hn, h2] at hP hD
  exact kk H1 locs1 ⟨hP, hD, hS⟩
theorem sx_last (hx : p.tables.exec = Jvm.exec) (hb : c.code = cc) (hE : EV G A s s.heap) (hs : SI G A s H locs ws) (q0 : Nat) {f f2 : Fin n → Int64} (ha : ws[q0]? = some (a, .inl (G.2.1 1, n, .inr (.inl (exL f))))) {i : Int32} {x : Int64} (hv : wrL f i x = some f2) (hw : ws.set q0 (a, .inl (G.2.1 1, n, .inr (.inl (exL f2)))) = ws') (hdg : decode cc pc = .ok (.lastore, 1))
    (kk : ∀ (H1 : Heap) (locs1 : List Loc), SI G A s H1 locs1 ws' → W p l e R s m args below meth c H1 locs1 cells slots Q (F0 m (pc + 1) ls rest)) : W p l e R s m args below meth c H locs cells slots Q (F0 m pc ls (.long x :: .int i :: .ref a :: rest)) := by
  obtain ⟨h1, h2⟩ := wrL_some hv
  subst hw
  refine va_last hx hb hE.1 hs.1 hs.2.1 hs.2.2 q0 1 ha rfl h1 hdg (fun H1 locs1 hP hD hS => ?_)
  rw [h2] at hP hD
  exact kk H1 locs1 ⟨hP, hD, hS⟩
theorem sx_idiv (hx : p.tables.exec = Jvm.exec) (hb : c.code = cc) {x y v : Int32} (hv : dvI x y = some v) (hdg : decode cc pc = .ok (.idiv, 1)) (k : W p l e R s m args below meth c H locs cells slots Q (F0 m (pc + 1) ls (.int v :: rest))) : W p l e R s m args below meth c H locs cells slots Q (F0 m pc ls (.int y :: .int x :: rest)) := by
  obtain ⟨h1, rfl⟩ := ite_none hv
  exact lv_idiv hx hb hdg h1 k
theorem sx_irem (hx : p.tables.exec = Jvm.exec) (hb : c.code = cc) {x y v : Int32} (hv : rmI x y = some v) (hdg : decode cc pc = .ok (.irem, 1)) (k : W p l e R s m args below meth c H locs cells slots Q (F0 m (pc + 1) ls (.int v :: rest))) : W p l e R s m args below meth c H locs cells slots Q (F0 m pc ls (.int y :: .int x :: rest)) := by
  obtain ⟨h1, rfl⟩ := ite_none hv
  exact lv_irem hx hb hdg h1 k
theorem sx_ldiv (hx : p.tables.exec = Jvm.exec) (hb : c.code = cc) {x y v : Int64} (hv : dvL x y = some v) (hdg : decode cc pc = .ok (.ldiv, 1)) (k : W p l e R s m args below meth c H locs cells slots Q (F0 m (pc + 1) ls (.long v :: rest))) : W p l e R s m args below meth c H locs cells slots Q (F0 m pc ls (.long y :: .long x :: rest)) := by
  obtain ⟨h1, rfl⟩ := ite_none hv
  exact lv_ldiv hx hb hdg h1 k
theorem sx_lrem (hx : p.tables.exec = Jvm.exec) (hb : c.code = cc) {x y v : Int64} (hv : rmL x y = some v) (hdg : decode cc pc = .ok (.lrem, 1)) (k : W p l e R s m args below meth c H locs cells slots Q (F0 m (pc + 1) ls (.long v :: rest))) : W p l e R s m args below meth c H locs cells slots Q (F0 m pc ls (.long y :: .long x :: rest)) := by
  obtain ⟨h1, rfl⟩ := ite_none hv
  exact lv_lrem hx hb hdg h1 k
end SXARR
