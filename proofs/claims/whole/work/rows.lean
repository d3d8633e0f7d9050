section
def sA_n : Nat → String
  | 0 => "SHIP_LOW" | 1 => "SHIP_HIGH" | 2 => "LAW_LOW" | 3 => "LAW_HIGH" | _ => "LAW_UNTOLD"
def sA_v : Nat → List Int32
  | 0 => [1, 0, 0, 0, 0, 0] | 1 => [99999, 10, 9999999, 9999999, 1, 1] | 2 => [0, 0, 0, 0, 0, 0, 0, 1, 0, 0]
  | 3 => [0, 0, 1, 1, 1, 99999, 99999, 99999, 999, 999] | _ => [0, 0, 0, 0, 0, 100, 200, 300, 365, 730]
def wd_n : List String := ["SHIP_WORD", "TONS_WORD", "FAULT_WORD", "HULL_WORD", "VALUE_WORD", "CLAUSE_WORD", "BARRED_WORD", "DAY_WORD", "GOODS_WORD", "PERSONS_WORD", "OTHERS_WORD", "EQUAL_WORD", "WHOLE_WORD", "CROSS_WORD", "RATE_WORD", "LIVES_WORD", "LEAST_WORD", "DUE_WORD", "LAST_WORD"]
def wd_role : List Int32 := [1, 0, 0, 0, 0, 0, 0, 0, 2, 2, 2, 3, 3, 3, 3, 3, 3, 3, 3]
def wd_col : List Int32 := [0, 0, 1, 2, 3, 4, 5, 3, 0, 1, 2, 2, 3, 4, 5, 6, 7, 8, 9]
def wd_let : List Int64 := [533779, 637428, 21386278, 406184, 5943350, 188384643, 140068898, 25636, 20069863, 20887226544, 656581263, 12637733, 5651735, 20561475, 184370, 20109612, 21595308, 5796, 674860]
def inB (i : Int32) (n : Nat) : Bool := decide (0 ≤ i) && decide (i.toNatClampNeg < n)
theorem inB_in {i : Int32} {n : Nat} (h : inB i n = true) : vp_in i n ∧ i.toNatClampNeg < n := by
  simp only [inB, Bool.and_eq_true, decide_eq_true_eq] at h
  refine ⟨fun q => ?_, h.2⟩
  rcases q with q | q
  · have h1 := Int32.le_iff_toInt_le.mp h.1
    have h2 := Int32.lt_iff_toInt_lt.mp q
    omega
  · omega
def exI {n : Nat} (f : Fin n → Int32) : Nat → Int32 := fun k => if h : k < n then f ⟨k, h⟩ else 0
def exL {n : Nat} (f : Fin n → Int64) : Nat → Int64 := fun k => if h : k < n then f ⟨k, h⟩ else 0
def upI {n : Nat} (f : Fin n → Int32) (k : Nat) (v : Int32) : Fin n → Int32 := fun j => if j.1 = k then v else f j
def upL {n : Nat} (f : Fin n → Int64) (k : Nat) (v : Int64) : Fin n → Int64 := fun j => if j.1 = k then v else f j
theorem upd_exI {n : Nat} (f : Fin n → Int32) {k : Nat} (hk : k < n) (v : Int32) : upd (exI f) k v = exI (upI f k v) := by
  funext j
  by_cases hj : j = k
  · subst hj; simp [upd, exI, upI, hk]
  · by_cases hn : j < n
    · simp [upd, exI, upI, hj, hn]
    · simp [upd, exI, hj, hn]
theorem upd_exL {n : Nat} (f : Fin n → Int64) {k : Nat} (hk : k < n) (v : Int64) : vp_updL (exL f) k v = exL (upL f k v) := by
  funext j
  by_cases hj : j = k
  · subst hj; simp [vp_updL, exL, upL, hk]
  · by_cases hn : j < n
    · simp [vp_updL, exL, upL, hj, hn]
    · simp [vp_updL, exL, hj, hn]
def rdI {n : Nat} (f : Fin n → Int32) (i : Int32) : Option Int32 := if inB i n = true then some (exI f i.toNatClampNeg) else none
def rdL {n : Nat} (f : Fin n → Int64) (i : Int32) : Option Int64 := if inB i n = true then some (exL f i.toNatClampNeg) else none
def wrI {n : Nat} (f : Fin n → Int32) (i : Int32) (v : Int32) : Option (Fin n → Int32) := if inB i n = true then some (upI f i.toNatClampNeg v) else none
def wrL {n : Nat} (f : Fin n → Int64) (i : Int32) (v : Int64) : Option (Fin n → Int64) := if inB i n = true then some (upL f i.toNatClampNeg v) else none
theorem rdI_some {n : Nat} {f : Fin n → Int32} {i v : Int32} (h : rdI f i = some v) : vp_in i n ∧ exI f i.toNatClampNeg = v := by
  unfold rdI at h
  split at h
  · rename_i h1; exact ⟨(inB_in h1).1, Option.some.inj h⟩
  · cases h
theorem rdL_some {n : Nat} {f : Fin n → Int64} {i : Int32} {v : Int64} (h : rdL f i = some v) : vp_in i n ∧ exL f i.toNatClampNeg = v := by
  unfold rdL at h
  split at h
  · rename_i h1; exact ⟨(inB_in h1).1, Option.some.inj h⟩
  · cases h
theorem wrI_some {n : Nat} {f f2 : Fin n → Int32} {i v : Int32} (h : wrI f i v = some f2) : vp_in i n ∧ upd (exI f) i.toNatClampNeg v = exI f2 := by
  unfold wrI at h
  split at h
  · rename_i h1; exact ⟨(inB_in h1).1, by rw [upd_exI f (inB_in h1).2, Option.some.inj h]⟩
  · cases h
theorem wrL_some {n : Nat} {f f2 : Fin n → Int64} {i : Int32} {v : Int64} (h : wrL f i v = some f2) : vp_in i n ∧ vp_updL (exL f) i.toNatClampNeg v = exL f2 := by
  unfold wrL at h
  split at h
  · rename_i h1; exact ⟨(inB_in h1).1, by rw [upd_exL f (inB_in h1).2, Option.some.inj h]⟩
  · cases h
def cpOK (n0 n1 : Nat) (sp dp n : Int32) : Bool := decide (0 ≤ sp) && decide (0 ≤ dp) && decide (0 ≤ n) && decide (sp.toNatClampNeg + n.toNatClampNeg ≤ n0) && decide (dp.toNatClampNeg + n.toNatClampNeg ≤ n1)
def cpI {n0 n1 : Nat} (f : Nat → Int32) (g : Fin n1 → Int32) (sp dp n : Int32) : Option (Fin n1 → Int32) := if cpOK n0 n1 sp dp n = true then some (fun j => va_cpy f (exI g) sp.toNatClampNeg dp.toNatClampNeg n.toNatClampNeg j.1) else none
def cpL {n0 n1 : Nat} (f : Nat → Int64) (g : Fin n1 → Int64) (sp dp n : Int32) : Option (Fin n1 → Int64) := if cpOK n0 n1 sp dp n = true then some (fun j => va_cpy f (exL g) sp.toNatClampNeg dp.toNatClampNeg n.toNatClampNeg j.1) else none
theorem i32_nn {x : Int32} (h : 0 ≤ x) : ¬ x < 0 := by
  intro q
  have h1 := Int32.le_iff_toInt_le.mp h
  have h2 := Int32.lt_iff_toInt_lt.mp q
  omega
theorem cpOK_in {n0 n1 : Nat} {sp dp n : Int32} (h : cpOK n0 n1 sp dp n = true) : ¬ sp < 0 ∧ ¬ dp < 0 ∧ ¬ n < 0 ∧ sp.toNatClampNeg + n.toNatClampNeg ≤ n0 ∧ dp.toNatClampNeg + n.toNatClampNeg ≤ n1 := by
  simp only [cpOK, Bool.and_eq_true, decide_eq_true_eq] at h
  exact ⟨i32_nn h.1.1.1.1, i32_nn h.1.1.1.2, i32_nn h.1.1.2, h.1.2, h.2⟩
theorem cpI_some {n0 n1 : Nat} {f : Nat → Int32} {g g2 : Fin n1 → Int32} {sp dp n : Int32} (h : cpI (n0 := n0) f g sp dp n = some g2) : cpOK n0 n1 sp dp n = true ∧ va_cpy f (exI g) sp.toNatClampNeg dp.toNatClampNeg n.toNatClampNeg = exI g2 := by
  unfold cpI at h
  split at h
  · rename_i h1
    refine ⟨h1, ?_⟩
    have h2 := (cpOK_in h1).2.2.2.2
    rw [← Option.some.inj h]
    funext j
    by_cases hj : j < n1
    · simp [exI, hj]
    · have : ¬ (dp.toNatClampNeg ≤ j ∧ j < dp.toNatClampNeg + n.toNatClampNeg) := by omega
      simp [exI, hj, va_cpy, this]
  · cases h
theorem cpL_some {n0 n1 : Nat} {f : Nat → Int64} {g g2 : Fin n1 → Int64} {sp dp n : Int32} (h : cpL (n0 := n0) f g sp dp n = some g2) : cpOK n0 n1 sp dp n = true ∧ va_cpy f (exL g) sp.toNatClampNeg dp.toNatClampNeg n.toNatClampNeg = exL g2 := by
  unfold cpL at h
  split at h
  · rename_i h1
    refine ⟨h1, ?_⟩
    have h2 := (cpOK_in h1).2.2.2.2
    rw [← Option.some.inj h]
    funext j
    by_cases hj : j < n1
    · simp [exL, hj]
    · have : ¬ (dp.toNatClampNeg ≤ j ∧ j < dp.toNatClampNeg + n.toNatClampNeg) := by omega
      simp [exL, hj, va_cpy, this]
  · cases h
def nm {α β : Type} (e : α) (k : α → β) : β := k e
theorem nm_some {α β : Type} {e : α} {k : α → Option β} {r : β} (h : nm e k = some r) : ∃ x, x = e ∧ k x = some r := ⟨e, rfl, h⟩
theorem bd {α β : Type} {x : Option α} {f : α → Option β} {r : β} (h : x.bind f = some r) : ∃ a, x = some a ∧ f a = some r := by
  cases x with
  | none => cases h
  | some a => exact ⟨a, rfl, h⟩
def zz {β : Type} (r : Int32) (k : Option β) : Option β := if r = 0 ∨ r = 1 then k else none
theorem zz_some {β : Type} {r : Int32} {k : Option β} {x : β} (h : zz r k = some x) : (r = 0 ∨ r = 1) ∧ k = some x := by
  unfold zz at h
  split at h
  · exact ⟨by assumption, h⟩
  · cases h
def dvI (x y : Int32) : Option Int32 := if y = 0 then none else some (x / y)
def rmI (x y : Int32) : Option Int32 := if y = 0 then none else some (x - x / y * y)
def dvL (x y : Int64) : Option Int64 := if y = 0 then none else some (x / y)
def rmL (x y : Int64) : Option Int64 := if y = 0 then none else some (x - x / y * y)
theorem ite_none {α : Type} {c : Prop} [Decidable c] {a : α} {v : α} (h : (if c then none else some a) = some v) : ¬ c ∧ a = v := by
  split at h
  · cases h
  · exact ⟨by assumption, Option.some.inj h⟩
/-- loops: by fuel -/
def lo1 {A β : Type} (F : (A → Option β) → A → Option β) : Nat → A → Option β
  | 0 => fun _ => none
  | n + 1 => F (lo1 F n)
def lo2 {A B β : Type} (F : (A → B → Option β) → A → B → Option β) : Nat → A → B → Option β
  | 0 => fun _ _ => none
  | n + 1 => F (lo2 F n)
def lo3 {A B C β : Type} (F : (A → B → C → Option β) → A → B → C → Option β) : Nat → A → B → C → Option β
  | 0 => fun _ _ _ => none
  | n + 1 => F (lo3 F n)
def lo4 {A B C D β : Type} (F : (A → B → C → D → Option β) → A → B → C → D → Option β) : Nat → A → B → C → D → Option β
  | 0 => fun _ _ _ _ => none
  | n + 1 => F (lo4 F n)
def lo5 {A B C D E β : Type} (F : (A → B → C → D → E → Option β) → A → B → C → D → E → Option β) : Nat → A → B → C → D → E → Option β
  | 0 => fun _ _ _ _ _ => none
  | n + 1 => F (lo5 F n)
def lo6 {A B C D E X β : Type} (F : (A → B → C → D → E → X → Option β) → A → B → C → D → E → X → Option β) : Nat → A → B → C → D → E → X → Option β
  | 0 => fun _ _ _ _ _ _ => none
  | n + 1 => F (lo6 F n)
def FU : Nat := 1000

def sAf (k : Nat) : Fin (sA_v k).length → Int32 := fun j => (sA_v k).getD j.1 0
def ixB (i : Int32) (n : Nat) : Option (Fin n) := if h : inB i n = true then some ⟨i.toNatClampNeg, (inB_in h).2⟩ else none
def ltW (k w : Nat) : Option Unit := if k < 19 ∧ w < 19 then some () else none

/-! ===== the states: what the cells of each class hold; the worlds: lists of cells ===== -/
abbrev TS : Type := Int32 × Int32 × (Fin 4 → Int64) × (Fin 24 → Int32) × (Fin 48 → Int32) × (Fin 10 → Int32)
def t_ships (S : TS) : Int32 := S.1
def ts_ships (S : TS) (v : Int32) : TS := (v, S.2)
def t_claims (S : TS) : Int32 := S.2.1
def ts_claims (S : TS) (v : Int32) : TS := (S.1, v, S.2.2)
def t_names (S : TS) : (Fin 4 → Int64) := S.2.2.1
def ts_names (S : TS) (v : (Fin 4 → Int64)) : TS := (S.1, S.2.1, v, S.2.2.2)
def t_shipRows (S : TS) : (Fin 24 → Int32) := S.2.2.2.1
def ts_shipRows (S : TS) (v : (Fin 24 → Int32)) : TS := (S.1, S.2.1, S.2.2.1, v, S.2.2.2.2)
def t_claimRows (S : TS) : (Fin 48 → Int32) := S.2.2.2.2.1
def ts_claimRows (S : TS) (v : (Fin 48 → Int32)) : TS := (S.1, S.2.1, S.2.2.1, S.2.2.2.1, v, S.2.2.2.2.2)
def t_laws (S : TS) : (Fin 10 → Int32) := S.2.2.2.2.2
def ts_laws (S : TS) (v : (Fin 10 → Int32)) : TS := (S.1, S.2.1, S.2.2.1, S.2.2.2.1, S.2.2.2.2.1, v)
abbrev RS : Type := TS × (Fin 4 → Int32) × (Fin 16 → Int64) × (Fin 64 → Int64) × (Fin 64 → Int64) × (Fin 16 → Int64) × Int32
def r_told (S : RS) : TS := S.1
def rs_told (S : RS) (v : TS) : RS := (v, S.2)
def r_weight (S : RS) : (Fin 4 → Int32) := S.2.1
def rs_weight (S : RS) (v : (Fin 4 → Int32)) : RS := (S.1, v, S.2.2)
def r_backs (S : RS) : (Fin 16 → Int64) := S.2.2.1
def rs_backs (S : RS) (v : (Fin 16 → Int64)) : RS := (S.1, S.2.1, v, S.2.2.2)
def r_owed (S : RS) : (Fin 64 → Int64) := S.2.2.2.1
def rs_owed (S : RS) (v : (Fin 64 → Int64)) : RS := (S.1, S.2.1, S.2.2.1, v, S.2.2.2.2)
def r_paid (S : RS) : (Fin 64 → Int64) := S.2.2.2.2.1
def rs_paid (S : RS) (v : (Fin 64 → Int64)) : RS := (S.1, S.2.1, S.2.2.1, S.2.2.2.1, v, S.2.2.2.2.2)
def r_lacked (S : RS) : (Fin 16 → Int64) := S.2.2.2.2.2.1
def rs_lacked (S : RS) (v : (Fin 16 → Int64)) : RS := (S.1, S.2.1, S.2.2.1, S.2.2.2.1, S.2.2.2.2.1, v, S.2.2.2.2.2.2)
def r_weights (S : RS) : Int32 := S.2.2.2.2.2.2
def rs_weights (S : RS) (v : Int32) : RS := (S.1, S.2.1, S.2.2.1, S.2.2.2.1, S.2.2.2.2.1, S.2.2.2.2.2.1, v)
abbrev DS : Type := (Fin 600 → Int32) × TS × (Fin 10 → Int32) × Int32 × Int32 × Int32 × Int32 × Int32 × Int32 × Int64 × Int32
def d_bytes (S : DS) : (Fin 600 → Int32) := S.1
def ds_bytes (S : DS) (v : (Fin 600 → Int32)) : DS := (v, S.2)
def d_told (S : DS) : TS := S.2.1
def ds_told (S : DS) (v : TS) : DS := (S.1, v, S.2.2)
def d_lawTold (S : DS) : (Fin 10 → Int32) := S.2.2.1
def ds_lawTold (S : DS) (v : (Fin 10 → Int32)) : DS := (S.1, S.2.1, v, S.2.2.2)
def d_end (S : DS) : Int32 := S.2.2.2.1
def ds_end (S : DS) (v : Int32) : DS := (S.1, S.2.1, S.2.2.1, v, S.2.2.2.2)
def d_next (S : DS) : Int32 := S.2.2.2.2.1
def ds_next (S : DS) (v : Int32) : DS := (S.1, S.2.1, S.2.2.1, S.2.2.2.1, v, S.2.2.2.2.2)
def d_found (S : DS) : Int32 := S.2.2.2.2.2.1
def ds_found (S : DS) (v : Int32) : DS := (S.1, S.2.1, S.2.2.1, S.2.2.2.1, S.2.2.2.2.1, v, S.2.2.2.2.2.2)
def d_start (S : DS) : Int32 := S.2.2.2.2.2.2.1
def ds_start (S : DS) (v : Int32) : DS := (S.1, S.2.1, S.2.2.1, S.2.2.2.1, S.2.2.2.2.1, S.2.2.2.2.2.1, v, S.2.2.2.2.2.2.2)
def d_token (S : DS) : Int32 := S.2.2.2.2.2.2.2.1
def ds_token (S : DS) (v : Int32) : DS := (S.1, S.2.1, S.2.2.1, S.2.2.2.1, S.2.2.2.2.1, S.2.2.2.2.2.1, S.2.2.2.2.2.2.1, v, S.2.2.2.2.2.2.2.2)
def d_length (S : DS) : Int32 := S.2.2.2.2.2.2.2.2.1
def ds_length (S : DS) (v : Int32) : DS := (S.1, S.2.1, S.2.2.1, S.2.2.2.1, S.2.2.2.2.1, S.2.2.2.2.2.1, S.2.2.2.2.2.2.1, S.2.2.2.2.2.2.2.1, v, S.2.2.2.2.2.2.2.2.2)
def d_letters (S : DS) : Int64 := S.2.2.2.2.2.2.2.2.2.1
def ds_letters (S : DS) (v : Int64) : DS := (S.1, S.2.1, S.2.2.1, S.2.2.2.1, S.2.2.2.2.1, S.2.2.2.2.2.1, S.2.2.2.2.2.2.1, S.2.2.2.2.2.2.2.1, S.2.2.2.2.2.2.2.2.1, v, S.2.2.2.2.2.2.2.2.2.2)
def d_number (S : DS) : Int32 := S.2.2.2.2.2.2.2.2.2.2
def ds_number (S : DS) (v : Int32) : DS := (S.1, S.2.1, S.2.2.1, S.2.2.2.1, S.2.2.2.2.1, S.2.2.2.2.2.1, S.2.2.2.2.2.2.1, S.2.2.2.2.2.2.2.1, S.2.2.2.2.2.2.2.2.1, S.2.2.2.2.2.2.2.2.2.1, v)
abbrev XS : Type := DS × TS × RS × (Fin 10 → TS) × (Fin 2 → TS) × (Fin 2 → Int32) × Int32 × Int32 × Int32 × Int32 × Int32 × Int32
def x_reader (S : XS) : DS := S.1
def xs_reader (S : XS) (v : DS) : XS := (v, S.2)
def x_now (S : XS) : TS := S.2.1
def xs_now (S : XS) (v : TS) : XS := (S.1, v, S.2.2)
def x_reckoning (S : XS) : RS := S.2.2.1
def xs_reckoning (S : XS) (v : RS) : XS := (S.1, S.2.1, v, S.2.2.2)
def x_earlier (S : XS) : (Fin 10 → TS) := S.2.2.2.1
def xs_earlier (S : XS) (v : (Fin 10 → TS)) : XS := (S.1, S.2.1, S.2.2.1, v, S.2.2.2.2)
def x_images (S : XS) : (Fin 2 → TS) := S.2.2.2.2.1
def xs_images (S : XS) (v : (Fin 2 → TS)) : XS := (S.1, S.2.1, S.2.2.1, S.2.2.2.1, v, S.2.2.2.2.2)
def x_kept (S : XS) : (Fin 2 → Int32) := S.2.2.2.2.2.1
def xs_kept (S : XS) (v : (Fin 2 → Int32)) : XS := (S.1, S.2.1, S.2.2.1, S.2.2.2.1, S.2.2.2.2.1, v, S.2.2.2.2.2.2)
def x_tapeLength (S : XS) : Int32 := S.2.2.2.2.2.2.1
def xs_tapeLength (S : XS) (v : Int32) : XS := (S.1, S.2.1, S.2.2.1, S.2.2.2.1, S.2.2.2.2.1, S.2.2.2.2.2.1, v, S.2.2.2.2.2.2.2)
def x_undoable (S : XS) : Int32 := S.2.2.2.2.2.2.2.1
def xs_undoable (S : XS) (v : Int32) : XS := (S.1, S.2.1, S.2.2.1, S.2.2.2.1, S.2.2.2.2.1, S.2.2.2.2.2.1, S.2.2.2.2.2.2.1, v, S.2.2.2.2.2.2.2.2)
def x_nextAct (S : XS) : Int32 := S.2.2.2.2.2.2.2.2.1
def xs_nextAct (S : XS) (v : Int32) : XS := (S.1, S.2.1, S.2.2.1, S.2.2.2.1, S.2.2.2.2.1, S.2.2.2.2.2.1, S.2.2.2.2.2.2.1, S.2.2.2.2.2.2.2.1, v, S.2.2.2.2.2.2.2.2.2)
def x_latestTrouble (S : XS) : Int32 := S.2.2.2.2.2.2.2.2.2.1
def xs_latestTrouble (S : XS) (v : Int32) : XS := (S.1, S.2.1, S.2.2.1, S.2.2.2.1, S.2.2.2.2.1, S.2.2.2.2.2.1, S.2.2.2.2.2.2.1, S.2.2.2.2.2.2.2.1, S.2.2.2.2.2.2.2.2.1, v, S.2.2.2.2.2.2.2.2.2.2)
def x_latestPlace (S : XS) : Int32 := S.2.2.2.2.2.2.2.2.2.2.1
def xs_latestPlace (S : XS) (v : Int32) : XS := (S.1, S.2.1, S.2.2.1, S.2.2.2.1, S.2.2.2.2.1, S.2.2.2.2.2.1, S.2.2.2.2.2.2.1, S.2.2.2.2.2.2.2.1, S.2.2.2.2.2.2.2.2.1, S.2.2.2.2.2.2.2.2.2.1, v, S.2.2.2.2.2.2.2.2.2.2.2)
def x_latestFault (S : XS) : Int32 := S.2.2.2.2.2.2.2.2.2.2.2
def xs_latestFault (S : XS) (v : Int32) : XS := (S.1, S.2.1, S.2.2.1, S.2.2.2.1, S.2.2.2.2.1, S.2.2.2.2.2.1, S.2.2.2.2.2.2.1, S.2.2.2.2.2.2.2.1, S.2.2.2.2.2.2.2.2.1, S.2.2.2.2.2.2.2.2.2.1, S.2.2.2.2.2.2.2.2.2.2.1, v)
def upT {n : Nat} (E : Fin n → TS) (j : Fin n) (T : TS) : Fin n → TS := fun i => if i = j then T else E i
abbrev MS : Type := Int32 × Int32 × Int32 × Int32 × Int32 × (Fin 82 → Int32) × (Fin 82 → Int32) × (Fin 82 → Int32) × (Fin 820 → Int32) × Int32 × (Fin 164 → Int32) × (Fin 2 → Int32) × (Fin 4 → Int64) × (Fin 4 → Int64) × (Fin 600 → Int32) × Int32 × Int32 × Int32 × Int32 × Int32 × Int32 × Int32 × Int64 × Int32 × Int32 × Int32 × (Fin 16 → Int64) × (Fin 16 → Int64) × (Fin 64 → Int64) × Int64
def m_thrown (S : MS) : Int32 := S.1
def ms_thrown (S : MS) (v : Int32) : MS := (v, S.2)
def m_trouble (S : MS) : Int32 := S.2.1
def ms_trouble (S : MS) (v : Int32) : MS := (S.1, v, S.2.2)
def m_place (S : MS) : Int32 := S.2.2.1
def ms_place (S : MS) (v : Int32) : MS := (S.1, S.2.1, v, S.2.2.2)
def m_fault (S : MS) : Int32 := S.2.2.2.1
def ms_fault (S : MS) (v : Int32) : MS := (S.1, S.2.1, S.2.2.1, v, S.2.2.2.2)
def m_told (S : MS) : Int32 := S.2.2.2.2.1
def ms_told (S : MS) (v : Int32) : MS := (S.1, S.2.1, S.2.2.1, S.2.2.2.1, v, S.2.2.2.2.2)
def m_s (S : MS) : (Fin 82 → Int32) := S.2.2.2.2.2.1
def ms_s (S : MS) (v : (Fin 82 → Int32)) : MS := (S.1, S.2.1, S.2.2.1, S.2.2.2.1, S.2.2.2.2.1, v, S.2.2.2.2.2.2)
def m_w (S : MS) : (Fin 82 → Int32) := S.2.2.2.2.2.2.1
def ms_w (S : MS) (v : (Fin 82 → Int32)) : MS := (S.1, S.2.1, S.2.2.1, S.2.2.2.1, S.2.2.2.2.1, S.2.2.2.2.2.1, v, S.2.2.2.2.2.2.2)
def m_read (S : MS) : (Fin 82 → Int32) := S.2.2.2.2.2.2.2.1
def ms_read (S : MS) (v : (Fin 82 → Int32)) : MS := (S.1, S.2.1, S.2.2.1, S.2.2.2.1, S.2.2.2.2.1, S.2.2.2.2.2.1, S.2.2.2.2.2.2.1, v, S.2.2.2.2.2.2.2.2)
def m_past (S : MS) : (Fin 820 → Int32) := S.2.2.2.2.2.2.2.2.1
def ms_past (S : MS) (v : (Fin 820 → Int32)) : MS := (S.1, S.2.1, S.2.2.1, S.2.2.2.1, S.2.2.2.2.1, S.2.2.2.2.2.1, S.2.2.2.2.2.2.1, S.2.2.2.2.2.2.2.1, v, S.2.2.2.2.2.2.2.2.2)
def m_acts (S : MS) : Int32 := S.2.2.2.2.2.2.2.2.2.1
def ms_acts (S : MS) (v : Int32) : MS := (S.1, S.2.1, S.2.2.1, S.2.2.2.1, S.2.2.2.2.1, S.2.2.2.2.2.1, S.2.2.2.2.2.2.1, S.2.2.2.2.2.2.2.1, S.2.2.2.2.2.2.2.2.1, v, S.2.2.2.2.2.2.2.2.2.2)
def m_kept (S : MS) : (Fin 164 → Int32) := S.2.2.2.2.2.2.2.2.2.2.1
def ms_kept (S : MS) (v : (Fin 164 → Int32)) : MS := (S.1, S.2.1, S.2.2.1, S.2.2.2.1, S.2.2.2.2.1, S.2.2.2.2.2.1, S.2.2.2.2.2.2.1, S.2.2.2.2.2.2.2.1, S.2.2.2.2.2.2.2.2.1, S.2.2.2.2.2.2.2.2.2.1, v, S.2.2.2.2.2.2.2.2.2.2.2)
def m_isKept (S : MS) : (Fin 2 → Int32) := S.2.2.2.2.2.2.2.2.2.2.2.1
def ms_isKept (S : MS) (v : (Fin 2 → Int32)) : MS := (S.1, S.2.1, S.2.2.1, S.2.2.2.1, S.2.2.2.2.1, S.2.2.2.2.2.1, S.2.2.2.2.2.2.1, S.2.2.2.2.2.2.2.1, S.2.2.2.2.2.2.2.2.1, S.2.2.2.2.2.2.2.2.2.1, S.2.2.2.2.2.2.2.2.2.2.1, v, S.2.2.2.2.2.2.2.2.2.2.2.2)
def m_names (S : MS) : (Fin 4 → Int64) := S.2.2.2.2.2.2.2.2.2.2.2.2.1
def ms_names (S : MS) (v : (Fin 4 → Int64)) : MS := (S.1, S.2.1, S.2.2.1, S.2.2.2.1, S.2.2.2.2.1, S.2.2.2.2.2.1, S.2.2.2.2.2.2.1, S.2.2.2.2.2.2.2.1, S.2.2.2.2.2.2.2.2.1, S.2.2.2.2.2.2.2.2.2.1, S.2.2.2.2.2.2.2.2.2.2.1, S.2.2.2.2.2.2.2.2.2.2.2.1, v, S.2.2.2.2.2.2.2.2.2.2.2.2.2)
def m_readNames (S : MS) : (Fin 4 → Int64) := S.2.2.2.2.2.2.2.2.2.2.2.2.2.1
def ms_readNames (S : MS) (v : (Fin 4 → Int64)) : MS := (S.1, S.2.1, S.2.2.1, S.2.2.2.1, S.2.2.2.2.1, S.2.2.2.2.2.1, S.2.2.2.2.2.2.1, S.2.2.2.2.2.2.2.1, S.2.2.2.2.2.2.2.2.1, S.2.2.2.2.2.2.2.2.2.1, S.2.2.2.2.2.2.2.2.2.2.1, S.2.2.2.2.2.2.2.2.2.2.2.1, S.2.2.2.2.2.2.2.2.2.2.2.2.1, v, S.2.2.2.2.2.2.2.2.2.2.2.2.2.2)
def m_tape (S : MS) : (Fin 600 → Int32) := S.2.2.2.2.2.2.2.2.2.2.2.2.2.2.1
def ms_tape (S : MS) (v : (Fin 600 → Int32)) : MS := (S.1, S.2.1, S.2.2.1, S.2.2.2.1, S.2.2.2.2.1, S.2.2.2.2.2.1, S.2.2.2.2.2.2.1, S.2.2.2.2.2.2.2.1, S.2.2.2.2.2.2.2.2.1, S.2.2.2.2.2.2.2.2.2.1, S.2.2.2.2.2.2.2.2.2.2.1, S.2.2.2.2.2.2.2.2.2.2.2.1, S.2.2.2.2.2.2.2.2.2.2.2.2.1, S.2.2.2.2.2.2.2.2.2.2.2.2.2.1, v, S.2.2.2.2.2.2.2.2.2.2.2.2.2.2.2)
def m_taped (S : MS) : Int32 := S.2.2.2.2.2.2.2.2.2.2.2.2.2.2.2.1
def ms_taped (S : MS) (v : Int32) : MS := (S.1, S.2.1, S.2.2.1, S.2.2.2.1, S.2.2.2.2.1, S.2.2.2.2.2.1, S.2.2.2.2.2.2.1, S.2.2.2.2.2.2.2.1, S.2.2.2.2.2.2.2.2.1, S.2.2.2.2.2.2.2.2.2.1, S.2.2.2.2.2.2.2.2.2.2.1, S.2.2.2.2.2.2.2.2.2.2.2.1, S.2.2.2.2.2.2.2.2.2.2.2.2.1, S.2.2.2.2.2.2.2.2.2.2.2.2.2.1, S.2.2.2.2.2.2.2.2.2.2.2.2.2.2.1, v, S.2.2.2.2.2.2.2.2.2.2.2.2.2.2.2.2)
def m_length (S : MS) : Int32 := S.2.2.2.2.2.2.2.2.2.2.2.2.2.2.2.2.1
def ms_length (S : MS) (v : Int32) : MS := (S.1, S.2.1, S.2.2.1, S.2.2.2.1, S.2.2.2.2.1, S.2.2.2.2.2.1, S.2.2.2.2.2.2.1, S.2.2.2.2.2.2.2.1, S.2.2.2.2.2.2.2.2.1, S.2.2.2.2.2.2.2.2.2.1, S.2.2.2.2.2.2.2.2.2.2.1, S.2.2.2.2.2.2.2.2.2.2.2.1, S.2.2.2.2.2.2.2.2.2.2.2.2.1, S.2.2.2.2.2.2.2.2.2.2.2.2.2.1, S.2.2.2.2.2.2.2.2.2.2.2.2.2.2.1, S.2.2.2.2.2.2.2.2.2.2.2.2.2.2.2.1, v, S.2.2.2.2.2.2.2.2.2.2.2.2.2.2.2.2.2)
def m_next (S : MS) : Int32 := S.2.2.2.2.2.2.2.2.2.2.2.2.2.2.2.2.2.1
def ms_next (S : MS) (v : Int32) : MS := (S.1, S.2.1, S.2.2.1, S.2.2.2.1, S.2.2.2.2.1, S.2.2.2.2.2.1, S.2.2.2.2.2.2.1, S.2.2.2.2.2.2.2.1, S.2.2.2.2.2.2.2.2.1, S.2.2.2.2.2.2.2.2.2.1, S.2.2.2.2.2.2.2.2.2.2.1, S.2.2.2.2.2.2.2.2.2.2.2.1, S.2.2.2.2.2.2.2.2.2.2.2.2.1, S.2.2.2.2.2.2.2.2.2.2.2.2.2.1, S.2.2.2.2.2.2.2.2.2.2.2.2.2.2.1, S.2.2.2.2.2.2.2.2.2.2.2.2.2.2.2.1, S.2.2.2.2.2.2.2.2.2.2.2.2.2.2.2.2.1, v, S.2.2.2.2.2.2.2.2.2.2.2.2.2.2.2.2.2.2)
def m_from (S : MS) : Int32 := S.2.2.2.2.2.2.2.2.2.2.2.2.2.2.2.2.2.2.1
def ms_from (S : MS) (v : Int32) : MS := (S.1, S.2.1, S.2.2.1, S.2.2.2.1, S.2.2.2.2.1, S.2.2.2.2.2.1, S.2.2.2.2.2.2.1, S.2.2.2.2.2.2.2.1, S.2.2.2.2.2.2.2.2.1, S.2.2.2.2.2.2.2.2.2.1, S.2.2.2.2.2.2.2.2.2.2.1, S.2.2.2.2.2.2.2.2.2.2.2.1, S.2.2.2.2.2.2.2.2.2.2.2.2.1, S.2.2.2.2.2.2.2.2.2.2.2.2.2.1, S.2.2.2.2.2.2.2.2.2.2.2.2.2.2.1, S.2.2.2.2.2.2.2.2.2.2.2.2.2.2.2.1, S.2.2.2.2.2.2.2.2.2.2.2.2.2.2.2.2.1, S.2.2.2.2.2.2.2.2.2.2.2.2.2.2.2.2.2.1, v, S.2.2.2.2.2.2.2.2.2.2.2.2.2.2.2.2.2.2.2)
def m_sort (S : MS) : Int32 := S.2.2.2.2.2.2.2.2.2.2.2.2.2.2.2.2.2.2.2.1
def ms_sort (S : MS) (v : Int32) : MS := (S.1, S.2.1, S.2.2.1, S.2.2.2.1, S.2.2.2.2.1, S.2.2.2.2.2.1, S.2.2.2.2.2.2.1, S.2.2.2.2.2.2.2.1, S.2.2.2.2.2.2.2.2.1, S.2.2.2.2.2.2.2.2.2.1, S.2.2.2.2.2.2.2.2.2.2.1, S.2.2.2.2.2.2.2.2.2.2.2.1, S.2.2.2.2.2.2.2.2.2.2.2.2.1, S.2.2.2.2.2.2.2.2.2.2.2.2.2.1, S.2.2.2.2.2.2.2.2.2.2.2.2.2.2.1, S.2.2.2.2.2.2.2.2.2.2.2.2.2.2.2.1, S.2.2.2.2.2.2.2.2.2.2.2.2.2.2.2.2.1, S.2.2.2.2.2.2.2.2.2.2.2.2.2.2.2.2.2.1, S.2.2.2.2.2.2.2.2.2.2.2.2.2.2.2.2.2.2.1, v, S.2.2.2.2.2.2.2.2.2.2.2.2.2.2.2.2.2.2.2.2)
def m_many (S : MS) : Int32 := S.2.2.2.2.2.2.2.2.2.2.2.2.2.2.2.2.2.2.2.2.1
def ms_many (S : MS) (v : Int32) : MS := (S.1, S.2.1, S.2.2.1, S.2.2.2.1, S.2.2.2.2.1, S.2.2.2.2.2.1, S.2.2.2.2.2.2.1, S.2.2.2.2.2.2.2.1, S.2.2.2.2.2.2.2.2.1, S.2.2.2.2.2.2.2.2.2.1, S.2.2.2.2.2.2.2.2.2.2.1, S.2.2.2.2.2.2.2.2.2.2.2.1, S.2.2.2.2.2.2.2.2.2.2.2.2.1, S.2.2.2.2.2.2.2.2.2.2.2.2.2.1, S.2.2.2.2.2.2.2.2.2.2.2.2.2.2.1, S.2.2.2.2.2.2.2.2.2.2.2.2.2.2.2.1, S.2.2.2.2.2.2.2.2.2.2.2.2.2.2.2.2.1, S.2.2.2.2.2.2.2.2.2.2.2.2.2.2.2.2.2.1, S.2.2.2.2.2.2.2.2.2.2.2.2.2.2.2.2.2.2.1, S.2.2.2.2.2.2.2.2.2.2.2.2.2.2.2.2.2.2.2.1, v, S.2.2.2.2.2.2.2.2.2.2.2.2.2.2.2.2.2.2.2.2.2)
def m_number (S : MS) : Int32 := S.2.2.2.2.2.2.2.2.2.2.2.2.2.2.2.2.2.2.2.2.2.1
def ms_number (S : MS) (v : Int32) : MS := (S.1, S.2.1, S.2.2.1, S.2.2.2.1, S.2.2.2.2.1, S.2.2.2.2.2.1, S.2.2.2.2.2.2.1, S.2.2.2.2.2.2.2.1, S.2.2.2.2.2.2.2.2.1, S.2.2.2.2.2.2.2.2.2.1, S.2.2.2.2.2.2.2.2.2.2.1, S.2.2.2.2.2.2.2.2.2.2.2.1, S.2.2.2.2.2.2.2.2.2.2.2.2.1, S.2.2.2.2.2.2.2.2.2.2.2.2.2.1, S.2.2.2.2.2.2.2.2.2.2.2.2.2.2.1, S.2.2.2.2.2.2.2.2.2.2.2.2.2.2.2.1, S.2.2.2.2.2.2.2.2.2.2.2.2.2.2.2.2.1, S.2.2.2.2.2.2.2.2.2.2.2.2.2.2.2.2.2.1, S.2.2.2.2.2.2.2.2.2.2.2.2.2.2.2.2.2.2.1, S.2.2.2.2.2.2.2.2.2.2.2.2.2.2.2.2.2.2.2.1, S.2.2.2.2.2.2.2.2.2.2.2.2.2.2.2.2.2.2.2.2.1, v, S.2.2.2.2.2.2.2.2.2.2.2.2.2.2.2.2.2.2.2.2.2.2)
def m_word (S : MS) : Int64 := S.2.2.2.2.2.2.2.2.2.2.2.2.2.2.2.2.2.2.2.2.2.2.1
def ms_word (S : MS) (v : Int64) : MS := (S.1, S.2.1, S.2.2.1, S.2.2.2.1, S.2.2.2.2.1, S.2.2.2.2.2.1, S.2.2.2.2.2.2.1, S.2.2.2.2.2.2.2.1, S.2.2.2.2.2.2.2.2.1, S.2.2.2.2.2.2.2.2.2.1, S.2.2.2.2.2.2.2.2.2.2.1, S.2.2.2.2.2.2.2.2.2.2.2.1, S.2.2.2.2.2.2.2.2.2.2.2.2.1, S.2.2.2.2.2.2.2.2.2.2.2.2.2.1, S.2.2.2.2.2.2.2.2.2.2.2.2.2.2.1, S.2.2.2.2.2.2.2.2.2.2.2.2.2.2.2.1, S.2.2.2.2.2.2.2.2.2.2.2.2.2.2.2.2.1, S.2.2.2.2.2.2.2.2.2.2.2.2.2.2.2.2.2.1, S.2.2.2.2.2.2.2.2.2.2.2.2.2.2.2.2.2.2.1, S.2.2.2.2.2.2.2.2.2.2.2.2.2.2.2.2.2.2.2.1, S.2.2.2.2.2.2.2.2.2.2.2.2.2.2.2.2.2.2.2.2.1, S.2.2.2.2.2.2.2.2.2.2.2.2.2.2.2.2.2.2.2.2.2.1, v, S.2.2.2.2.2.2.2.2.2.2.2.2.2.2.2.2.2.2.2.2.2.2.2)
def m_wrong (S : MS) : Int32 := S.2.2.2.2.2.2.2.2.2.2.2.2.2.2.2.2.2.2.2.2.2.2.2.1
def ms_wrong (S : MS) (v : Int32) : MS := (S.1, S.2.1, S.2.2.1, S.2.2.2.1, S.2.2.2.2.1, S.2.2.2.2.2.1, S.2.2.2.2.2.2.1, S.2.2.2.2.2.2.2.1, S.2.2.2.2.2.2.2.2.1, S.2.2.2.2.2.2.2.2.2.1, S.2.2.2.2.2.2.2.2.2.2.1, S.2.2.2.2.2.2.2.2.2.2.2.1, S.2.2.2.2.2.2.2.2.2.2.2.2.1, S.2.2.2.2.2.2.2.2.2.2.2.2.2.1, S.2.2.2.2.2.2.2.2.2.2.2.2.2.2.1, S.2.2.2.2.2.2.2.2.2.2.2.2.2.2.2.1, S.2.2.2.2.2.2.2.2.2.2.2.2.2.2.2.2.1, S.2.2.2.2.2.2.2.2.2.2.2.2.2.2.2.2.2.1, S.2.2.2.2.2.2.2.2.2.2.2.2.2.2.2.2.2.2.1, S.2.2.2.2.2.2.2.2.2.2.2.2.2.2.2.2.2.2.2.1, S.2.2.2.2.2.2.2.2.2.2.2.2.2.2.2.2.2.2.2.2.1, S.2.2.2.2.2.2.2.2.2.2.2.2.2.2.2.2.2.2.2.2.2.1, S.2.2.2.2.2.2.2.2.2.2.2.2.2.2.2.2.2.2.2.2.2.2.1, v, S.2.2.2.2.2.2.2.2.2.2.2.2.2.2.2.2.2.2.2.2.2.2.2.2)
def m_wrongAt (S : MS) : Int32 := S.2.2.2.2.2.2.2.2.2.2.2.2.2.2.2.2.2.2.2.2.2.2.2.2.1
def ms_wrongAt (S : MS) (v : Int32) : MS := (S.1, S.2.1, S.2.2.1, S.2.2.2.1, S.2.2.2.2.1, S.2.2.2.2.2.1, S.2.2.2.2.2.2.1, S.2.2.2.2.2.2.2.1, S.2.2.2.2.2.2.2.2.1, S.2.2.2.2.2.2.2.2.2.1, S.2.2.2.2.2.2.2.2.2.2.1, S.2.2.2.2.2.2.2.2.2.2.2.1, S.2.2.2.2.2.2.2.2.2.2.2.2.1, S.2.2.2.2.2.2.2.2.2.2.2.2.2.1, S.2.2.2.2.2.2.2.2.2.2.2.2.2.2.1, S.2.2.2.2.2.2.2.2.2.2.2.2.2.2.2.1, S.2.2.2.2.2.2.2.2.2.2.2.2.2.2.2.2.1, S.2.2.2.2.2.2.2.2.2.2.2.2.2.2.2.2.2.1, S.2.2.2.2.2.2.2.2.2.2.2.2.2.2.2.2.2.2.1, S.2.2.2.2.2.2.2.2.2.2.2.2.2.2.2.2.2.2.2.1, S.2.2.2.2.2.2.2.2.2.2.2.2.2.2.2.2.2.2.2.2.1, S.2.2.2.2.2.2.2.2.2.2.2.2.2.2.2.2.2.2.2.2.2.1, S.2.2.2.2.2.2.2.2.2.2.2.2.2.2.2.2.2.2.2.2.2.2.1, S.2.2.2.2.2.2.2.2.2.2.2.2.2.2.2.2.2.2.2.2.2.2.2.1, v, S.2.2.2.2.2.2.2.2.2.2.2.2.2.2.2.2.2.2.2.2.2.2.2.2.2)
def m_toldOnce (S : MS) : Int32 := S.2.2.2.2.2.2.2.2.2.2.2.2.2.2.2.2.2.2.2.2.2.2.2.2.2.1
def ms_toldOnce (S : MS) (v : Int32) : MS := (S.1, S.2.1, S.2.2.1, S.2.2.2.1, S.2.2.2.2.1, S.2.2.2.2.2.1, S.2.2.2.2.2.2.1, S.2.2.2.2.2.2.2.1, S.2.2.2.2.2.2.2.2.1, S.2.2.2.2.2.2.2.2.2.1, S.2.2.2.2.2.2.2.2.2.2.1, S.2.2.2.2.2.2.2.2.2.2.2.1, S.2.2.2.2.2.2.2.2.2.2.2.2.1, S.2.2.2.2.2.2.2.2.2.2.2.2.2.1, S.2.2.2.2.2.2.2.2.2.2.2.2.2.2.1, S.2.2.2.2.2.2.2.2.2.2.2.2.2.2.2.1, S.2.2.2.2.2.2.2.2.2.2.2.2.2.2.2.2.1, S.2.2.2.2.2.2.2.2.2.2.2.2.2.2.2.2.2.1, S.2.2.2.2.2.2.2.2.2.2.2.2.2.2.2.2.2.2.1, S.2.2.2.2.2.2.2.2.2.2.2.2.2.2.2.2.2.2.2.1, S.2.2.2.2.2.2.2.2.2.2.2.2.2.2.2.2.2.2.2.2.1, S.2.2.2.2.2.2.2.2.2.2.2.2.2.2.2.2.2.2.2.2.2.1, S.2.2.2.2.2.2.2.2.2.2.2.2.2.2.2.2.2.2.2.2.2.2.1, S.2.2.2.2.2.2.2.2.2.2.2.2.2.2.2.2.2.2.2.2.2.2.2.1, S.2.2.2.2.2.2.2.2.2.2.2.2.2.2.2.2.2.2.2.2.2.2.2.2.1, v, S.2.2.2.2.2.2.2.2.2.2.2.2.2.2.2.2.2.2.2.2.2.2.2.2.2.2)
def m_owed (S : MS) : (Fin 16 → Int64) := S.2.2.2.2.2.2.2.2.2.2.2.2.2.2.2.2.2.2.2.2.2.2.2.2.2.2.1
def ms_owed (S : MS) (v : (Fin 16 → Int64)) : MS := (S.1, S.2.1, S.2.2.1, S.2.2.2.1, S.2.2.2.2.1, S.2.2.2.2.2.1, S.2.2.2.2.2.2.1, S.2.2.2.2.2.2.2.1, S.2.2.2.2.2.2.2.2.1, S.2.2.2.2.2.2.2.2.2.1, S.2.2.2.2.2.2.2.2.2.2.1, S.2.2.2.2.2.2.2.2.2.2.2.1, S.2.2.2.2.2.2.2.2.2.2.2.2.1, S.2.2.2.2.2.2.2.2.2.2.2.2.2.1, S.2.2.2.2.2.2.2.2.2.2.2.2.2.2.1, S.2.2.2.2.2.2.2.2.2.2.2.2.2.2.2.1, S.2.2.2.2.2.2.2.2.2.2.2.2.2.2.2.2.1, S.2.2.2.2.2.2.2.2.2.2.2.2.2.2.2.2.2.1, S.2.2.2.2.2.2.2.2.2.2.2.2.2.2.2.2.2.2.1, S.2.2.2.2.2.2.2.2.2.2.2.2.2.2.2.2.2.2.2.1, S.2.2.2.2.2.2.2.2.2.2.2.2.2.2.2.2.2.2.2.2.1, S.2.2.2.2.2.2.2.2.2.2.2.2.2.2.2.2.2.2.2.2.2.1, S.2.2.2.2.2.2.2.2.2.2.2.2.2.2.2.2.2.2.2.2.2.2.1, S.2.2.2.2.2.2.2.2.2.2.2.2.2.2.2.2.2.2.2.2.2.2.2.1, S.2.2.2.2.2.2.2.2.2.2.2.2.2.2.2.2.2.2.2.2.2.2.2.2.1, S.2.2.2.2.2.2.2.2.2.2.2.2.2.2.2.2.2.2.2.2.2.2.2.2.2.1, v, S.2.2.2.2.2.2.2.2.2.2.2.2.2.2.2.2.2.2.2.2.2.2.2.2.2.2.2)
def m_out (S : MS) : (Fin 16 → Int64) := S.2.2.2.2.2.2.2.2.2.2.2.2.2.2.2.2.2.2.2.2.2.2.2.2.2.2.2.1
def ms_out (S : MS) (v : (Fin 16 → Int64)) : MS := (S.1, S.2.1, S.2.2.1, S.2.2.2.1, S.2.2.2.2.1, S.2.2.2.2.2.1, S.2.2.2.2.2.2.1, S.2.2.2.2.2.2.2.1, S.2.2.2.2.2.2.2.2.1, S.2.2.2.2.2.2.2.2.2.1, S.2.2.2.2.2.2.2.2.2.2.1, S.2.2.2.2.2.2.2.2.2.2.2.1, S.2.2.2.2.2.2.2.2.2.2.2.2.1, S.2.2.2.2.2.2.2.2.2.2.2.2.2.1, S.2.2.2.2.2.2.2.2.2.2.2.2.2.2.1, S.2.2.2.2.2.2.2.2.2.2.2.2.2.2.2.1, S.2.2.2.2.2.2.2.2.2.2.2.2.2.2.2.2.1, S.2.2.2.2.2.2.2.2.2.2.2.2.2.2.2.2.2.1, S.2.2.2.2.2.2.2.2.2.2.2.2.2.2.2.2.2.2.1, S.2.2.2.2.2.2.2.2.2.2.2.2.2.2.2.2.2.2.2.1, S.2.2.2.2.2.2.2.2.2.2.2.2.2.2.2.2.2.2.2.2.1, S.2.2.2.2.2.2.2.2.2.2.2.2.2.2.2.2.2.2.2.2.2.1, S.2.2.2.2.2.2.2.2.2.2.2.2.2.2.2.2.2.2.2.2.2.2.1, S.2.2.2.2.2.2.2.2.2.2.2.2.2.2.2.2.2.2.2.2.2.2.2.1, S.2.2.2.2.2.2.2.2.2.2.2.2.2.2.2.2.2.2.2.2.2.2.2.2.1, S.2.2.2.2.2.2.2.2.2.2.2.2.2.2.2.2.2.2.2.2.2.2.2.2.2.1, S.2.2.2.2.2.2.2.2.2.2.2.2.2.2.2.2.2.2.2.2.2.2.2.2.2.2.1, v, S.2.2.2.2.2.2.2.2.2.2.2.2.2.2.2.2.2.2.2.2.2.2.2.2.2.2.2.2)
def m_paid (S : MS) : (Fin 64 → Int64) := S.2.2.2.2.2.2.2.2.2.2.2.2.2.2.2.2.2.2.2.2.2.2.2.2.2.2.2.2.1
def ms_paid (S : MS) (v : (Fin 64 → Int64)) : MS := (S.1, S.2.1, S.2.2.1, S.2.2.2.1, S.2.2.2.2.1, S.2.2.2.2.2.1, S.2.2.2.2.2.2.1, S.2.2.2.2.2.2.2.1, S.2.2.2.2.2.2.2.2.1, S.2.2.2.2.2.2.2.2.2.1, S.2.2.2.2.2.2.2.2.2.2.1, S.2.2.2.2.2.2.2.2.2.2.2.1, S.2.2.2.2.2.2.2.2.2.2.2.2.1, S.2.2.2.2.2.2.2.2.2.2.2.2.2.1, S.2.2.2.2.2.2.2.2.2.2.2.2.2.2.1, S.2.2.2.2.2.2.2.2.2.2.2.2.2.2.2.1, S.2.2.2.2.2.2.2.2.2.2.2.2.2.2.2.2.1, S.2.2.2.2.2.2.2.2.2.2.2.2.2.2.2.2.2.1, S.2.2.2.2.2.2.2.2.2.2.2.2.2.2.2.2.2.2.1, S.2.2.2.2.2.2.2.2.2.2.2.2.2.2.2.2.2.2.2.1, S.2.2.2.2.2.2.2.2.2.2.2.2.2.2.2.2.2.2.2.2.1, S.2.2.2.2.2.2.2.2.2.2.2.2.2.2.2.2.2.2.2.2.2.1, S.2.2.2.2.2.2.2.2.2.2.2.2.2.2.2.2.2.2.2.2.2.2.1, S.2.2.2.2.2.2.2.2.2.2.2.2.2.2.2.2.2.2.2.2.2.2.2.1, S.2.2.2.2.2.2.2.2.2.2.2.2.2.2.2.2.2.2.2.2.2.2.2.2.1, S.2.2.2.2.2.2.2.2.2.2.2.2.2.2.2.2.2.2.2.2.2.2.2.2.2.1, S.2.2.2.2.2.2.2.2.2.2.2.2.2.2.2.2.2.2.2.2.2.2.2.2.2.2.1, S.2.2.2.2.2.2.2.2.2.2.2.2.2.2.2.2.2.2.2.2.2.2.2.2.2.2.2.1, v, S.2.2.2.2.2.2.2.2.2.2.2.2.2.2.2.2.2.2.2.2.2.2.2.2.2.2.2.2.2)
def m_drawn (S : MS) : Int64 := S.2.2.2.2.2.2.2.2.2.2.2.2.2.2.2.2.2.2.2.2.2.2.2.2.2.2.2.2.2
def ms_drawn (S : MS) (v : Int64) : MS := (S.1, S.2.1, S.2.2.1, S.2.2.2.1, S.2.2.2.2.1, S.2.2.2.2.2.1, S.2.2.2.2.2.2.1, S.2.2.2.2.2.2.2.1, S.2.2.2.2.2.2.2.2.1, S.2.2.2.2.2.2.2.2.2.1, S.2.2.2.2.2.2.2.2.2.2.1, S.2.2.2.2.2.2.2.2.2.2.2.1, S.2.2.2.2.2.2.2.2.2.2.2.2.1, S.2.2.2.2.2.2.2.2.2.2.2.2.2.1, S.2.2.2.2.2.2.2.2.2.2.2.2.2.2.1, S.2.2.2.2.2.2.2.2.2.2.2.2.2.2.2.1, S.2.2.2.2.2.2.2.2.2.2.2.2.2.2.2.2.1, S.2.2.2.2.2.2.2.2.2.2.2.2.2.2.2.2.2.1, S.2.2.2.2.2.2.2.2.2.2.2.2.2.2.2.2.2.2.1, S.2.2.2.2.2.2.2.2.2.2.2.2.2.2.2.2.2.2.2.1, S.2.2.2.2.2.2.2.2.2.2.2.2.2.2.2.2.2.2.2.2.1, S.2.2.2.2.2.2.2.2.2.2.2.2.2.2.2.2.2.2.2.2.2.1, S.2.2.2.2.2.2.2.2.2.2.2.2.2.2.2.2.2.2.2.2.2.2.1, S.2.2.2.2.2.2.2.2.2.2.2.2.2.2.2.2.2.2.2.2.2.2.2.1, S.2.2.2.2.2.2.2.2.2.2.2.2.2.2.2.2.2.2.2.2.2.2.2.2.1, S.2.2.2.2.2.2.2.2.2.2.2.2.2.2.2.2.2.2.2.2.2.2.2.2.2.1, S.2.2.2.2.2.2.2.2.2.2.2.2.2.2.2.2.2.2.2.2.2.2.2.2.2.2.1, S.2.2.2.2.2.2.2.2.2.2.2.2.2.2.2.2.2.2.2.2.2.2.2.2.2.2.2.1, S.2.2.2.2.2.2.2.2.2.2.2.2.2.2.2.2.2.2.2.2.2.2.2.2.2.2.2.2.1, v)
end
section
/-! ===== pure functions, printed out of the bytecode ===== -/
def F_X2_clear (S : TS) : Option (TS) :=
  nm (ts_ships S (0 : Int32) : TS) fun S1 =>
  nm (ts_claims S1 (0 : Int32) : TS) fun S2 =>
  (cpI (n0 := 10) (exI (sAf 4)) (t_laws S2) (0 : Int32) (0 : Int32) (10 : Int32)).bind fun f3 =>
  nm (ts_laws S2 f3 : TS) fun S4 =>
  some S4
def B_X0_begin_24 (k : DS → Option (DS)) (rc : DS → Int32 → Option (DS)) (S : DS) (x2 : Int32) : Option (DS) :=
  if (10 : Int32) ≤ x2 then
  (k S)
  else
  ((wrI (d_lawTold S) x2 (0 : Int32)).bind fun f6 =>
  nm (ds_lawTold S f6 : DS) fun S7 =>
  nm (x2 + 1 : Int32) fun v8 =>
  rc S7 v8)
def F_X0_begin (S : DS) (x1 : Int32) : Option (DS) :=
  nm (ds_end S x1 : DS) fun S1 =>
  nm (ds_next S1 (0 : Int32) : DS) fun S2 =>
  nm (ds_found S2 (0 : Int32) : DS) fun S3 =>
  (F_X2_clear (d_told S3)).bind fun q4 =>
  nm (ds_told S3 q4 : DS) fun S5 =>
  lo2 (B_X0_begin_24 (fun S9 => some S9)) FU S5 (0 : Int32)
def F_X0_isLetter (x0 : Int32) : Option (Int32) :=
  if x0 < (97 : Int32) then
  (some (0 : Int32))
  else
  (if (122 : Int32) < x0 then
  (some (0 : Int32))
  else
  (some (1 : Int32)))
def J_X0_stepLetters_76 (k : DS → Option (DS)) (rc : DS → Option (DS)) (S : DS) : Option (DS) :=
  nm (ds_length S ((d_length S) + (1 : Int32)) : DS) fun S5 =>
  nm (ds_next S5 ((d_next S5) + (1 : Int32)) : DS) fun S6 =>
  rc S6
def B_X0_stepLetters_10 (k : DS → Option (DS)) (rc : DS → Option (DS)) (S : DS) : Option (DS) :=
  if (d_end S) ≤ (d_next S) then
  (k S)
  else
  ((rdI (d_bytes S) (d_next S)).bind fun v3 =>
  (F_X0_isLetter v3).bind fun q4 =>
  if q4 = 0 then
  (k S)
  else
  (if (7 : Int32) ≤ (d_length S) then
  (J_X0_stepLetters_76 k rc S)
  else
  ((rdI (d_bytes S) (d_next S)).bind fun v7 =>
  nm (ds_letters S ((d_letters S) ||| ((((v7 - (97 : Int32)) + (1 : Int32)).toInt64) <<< (((5 : Int32) * (d_length S)).toInt64 &&& 63))) : DS) fun S8 =>
  J_X0_stepLetters_76 k rc S8)))
def J_X0_stepLetters_114 (S : DS) (y0 : Int32) : Option (DS) :=
  nm (ds_token S y0 : DS) fun S10 =>
  some S10
def J_X0_stepLetters_99 (S : DS) : Option (DS) :=
  if (7 : Int32) < (d_length S) then
  (J_X0_stepLetters_114 S (4 : Int32))
  else
  (J_X0_stepLetters_114 S (1 : Int32))
def F_X0_stepLetters (S : DS) : Option (DS) :=
  nm (ds_letters S (0 : Int64) : DS) fun S1 =>
  nm (ds_length S1 (0 : Int32) : DS) fun S2 =>
  lo1 (B_X0_stepLetters_10 (fun S9 => J_X0_stepLetters_99 S9)) FU S2
def F_X0_isDigit (x0 : Int32) : Option (Int32) :=
  if x0 < (48 : Int32) then
  (some (0 : Int32))
  else
  (if (57 : Int32) < x0 then
  (some (0 : Int32))
  else
  (some (1 : Int32)))
def J_X0_stepDigits_69 (k : DS → Option (DS)) (rc : DS → Option (DS)) (S : DS) : Option (DS) :=
  nm (ds_length S ((d_length S) + (1 : Int32)) : DS) fun S5 =>
  nm (ds_next S5 ((d_next S5) + (1 : Int32)) : DS) fun S6 =>
  rc S6
def B_X0_stepDigits_10 (k : DS → Option (DS)) (rc : DS → Option (DS)) (S : DS) : Option (DS) :=
  if (d_end S) ≤ (d_next S) then
  (k S)
  else
  ((rdI (d_bytes S) (d_next S)).bind fun v3 =>
  (F_X0_isDigit v3).bind fun q4 =>
  if q4 = 0 then
  (k S)
  else
  (if (7 : Int32) ≤ (d_length S) then
  (J_X0_stepDigits_69 k rc S)
  else
  ((rdI (d_bytes S) (d_next S)).bind fun v7 =>
  nm (ds_number S ((((d_number S) * (10 : Int32)) + v7) - (48 : Int32)) : DS) fun S8 =>
  J_X0_stepDigits_69 k rc S8)))
def J_X0_stepDigits_107 (S : DS) (y0 : Int32) : Option (DS) :=
  nm (ds_token S y0 : DS) fun S10 =>
  some S10
def J_X0_stepDigits_92 (S : DS) : Option (DS) :=
  if (7 : Int32) < (d_length S) then
  (J_X0_stepDigits_107 S (4 : Int32))
  else
  (J_X0_stepDigits_107 S (2 : Int32))
def F_X0_stepDigits (S : DS) : Option (DS) :=
  nm (ds_number S (0 : Int32) : DS) fun S1 =>
  nm (ds_length S1 (0 : Int32) : DS) fun S2 =>
  lo1 (B_X0_stepDigits_10 (fun S9 => J_X0_stepDigits_92 S9)) FU S2
def B_X0_step_0 (k : DS → Option (DS)) (rc : DS → Option (DS)) (S : DS) : Option (DS) :=
  if (d_end S) ≤ (d_next S) then
  (k S)
  else
  ((rdI (d_bytes S) (d_next S)).bind fun v1 =>
  if v1 = (32 : Int32) then
  (nm (ds_next S ((d_next S) + (1 : Int32)) : DS) fun S2 =>
  rc S2)
  else
  (k S))
def J_X0_step_129 (S : DS) (y0 : Int32) : Option (DS) :=
  nm (ds_token S y0 : DS) fun S10 =>
  nm (ds_next S10 ((d_next S10) + (1 : Int32)) : DS) fun S11 =>
  some S11
def J_X0_step_38 (S : DS) : Option (DS) :=
  nm (ds_start S (d_next S) : DS) fun S4 =>
  if (d_next S4) < (d_end S4) then
  ((rdI (d_bytes S4) (d_next S4)).bind fun v5 =>
  (F_X0_isLetter v5).bind fun q6 =>
  if q6 = 0 then
  ((rdI (d_bytes S4) (d_next S4)).bind fun v7 =>
  (F_X0_isDigit v7).bind fun q8 =>
  if q8 = 0 then
  ((rdI (d_bytes S4) (d_next S4)).bind fun v9 =>
  if v9 = (59 : Int32) then
  (J_X0_step_129 S4 (3 : Int32))
  else
  (J_X0_step_129 S4 (4 : Int32)))
  else
  ((F_X0_stepDigits S4).bind fun q12 =>
  some q12))
  else
  ((F_X0_stepLetters S4).bind fun q13 =>
  some q13))
  else
  (nm (ds_token S4 (0 : Int32) : DS) fun S14 =>
  some S14)
def F_X0_step (S : DS) : Option (DS) :=
  lo1 (B_X0_step_0 (fun S3 => J_X0_step_38 S3)) FU S
def B_X0_fixedWord_12 (S : DS) (k : Unit → Option ((Option Nat))) (rc : Int32 → Option ((Option Nat))) (x1 : Int32) : Option ((Option Nat)) :=
  if (19 : Int32) ≤ x1 then
  (k ())
  else
  ((ixB x1 19).bind fun j1 =>
  (wd_let[j1.1]?).bind fun v2 =>
  if (lg_cmp v2 (d_letters S)) = 0 then
  ((ixB x1 19).bind fun j4 =>
  some (some j4.1))
  else
  (nm (x1 + 1 : Int32) fun v3 =>
  rc v3))
def F_X0_fixedWord (S : DS) : Option ((Option Nat)) :=
  if (d_token S) = (1 : Int32) then
  (lo1 (B_X0_fixedWord_12 S (fun _u => some none)) FU (0 : Int32))
  else
  (some none)
def F_X0_fail (S : DS) (x1 : Int32) : Option (Int32 × DS) :=
  nm (ds_found S x1 : DS) fun S1 =>
  some ((0 : Int32), S1)
def F_X0_isName (S : DS) : Option (Int32) :=
  if (d_token S) = (1 : Int32) then
  (if (6 : Int32) < (d_length S) then
  (some (0 : Int32))
  else
  ((F_X0_fixedWord S).bind fun q1 =>
  Option.elim q1
  (some (1 : Int32))
  (fun w2 => some (0 : Int32))))
  else
  (some (0 : Int32))
def B_X2_shipNamed_2 (S : TS) (x1 : Int64) (k : Unit → Option (Int32)) (rc : Int32 → Option (Int32)) (x3 : Int32) : Option (Int32) :=
  if (t_ships S) ≤ x3 then
  (k ())
  else
  ((rdL (t_names S) x3).bind fun v1 =>
  if (lg_cmp v1 x1) = 0 then
  (some x3)
  else
  (nm (x3 + 1 : Int32) fun v2 =>
  rc v2))
def F_X2_shipNamed (S : TS) (x1 : Int64) : Option (Int32) :=
  lo1 (B_X2_shipNamed_2 S x1 (fun _u => some (-1 : Int32))) FU (0 : Int32)
def F_X2_setShip (S : TS) (x1 : Int32) (x2 : Int32) (x3 : Int32) : Option (TS) :=
  (wrI (t_shipRows S) ((x1 * (6 : Int32)) + x2) x3).bind fun f1 =>
  nm (ts_shipRows S f1 : TS) fun S2 =>
  some S2
def B_X2_addShip_12 (k : TS → Option (TS)) (rc : TS → Int32 → Option (TS)) (S : TS) (x3 : Int32) : Option (TS) :=
  if (6 : Int32) ≤ x3 then
  (k S)
  else
  ((F_X2_setShip S (t_ships S) x3 (0 : Int32)).bind fun q3 =>
  nm (x3 + 1 : Int32) fun v4 =>
  rc q3 v4)
def F_X2_addShip (S : TS) (x1 : Int64) : Option (TS) :=
  (wrL (t_names S) (t_ships S) x1).bind fun f1 =>
  nm (ts_names S f1 : TS) fun S2 =>
  lo2 (B_X2_addShip_12 (fun S5 => nm (ts_ships S5 ((t_ships S5) + (1 : Int32)) : TS) fun S6 =>
  some S6)) FU S2 (0 : Int32)
def F_X4_within (x0 : Int32) (x1 : Int32) (x2 : Int32) : Option (Int32) :=
  if x0 < x1 then
  (some (0 : Int32))
  else
  (if x2 < x0 then
  (some (0 : Int32))
  else
  (some (1 : Int32)))
def J_X0_isWholeWithin_34 (S : DS) : Option (Int32 × DS) :=
  some ((1 : Int32), S)
def F_X0_isWholeWithin (S : DS) (x1 : Int32) (x2 : Int32) : Option (Int32 × DS) :=
  if (d_token S) = (2 : Int32) then
  ((F_X4_within (d_number S) x1 x2).bind fun q1 =>
  if q1 = 0 then
  ((F_X0_fail S (2 : Int32)).bind fun q2 =>
  if q2.1 = 0 then
  (some ((0 : Int32), q2.2))
  else
  (J_X0_isWholeWithin_34 q2.2))
  else
  (J_X0_isWholeWithin_34 S))
  else
  ((F_X0_fail S (1 : Int32)).bind fun q3 =>
  zz q3.1 <|
  some (q3.1, q3.2))
def F_X0_readColumn (S : DS) (x1 : Nat) : Option (Int32 × DS) :=
  (wd_col[x1]?).bind fun v1 =>
  (F_X0_fixedWord S).bind fun q2 =>
  Option.elim q2
  ((F_X0_fail S (1 : Int32)).bind fun q4 =>
  zz q4.1 <|
  some (q4.1, q4.2))
  (fun w3 => (ltW w3 x1).bind fun u5 =>
  if w3 = x1 then
  ((F_X0_step S).bind fun q6 =>
  (rdI (sAf 0) v1).bind fun v7 =>
  (rdI (sAf 1) v1).bind fun v8 =>
  (F_X0_isWholeWithin q6 v7 v8).bind fun q9 =>
  if q9.1 = 0 then
  (some ((0 : Int32), q9.2))
  else
  ((F_X2_setShip (d_told q9.2) ((t_ships (d_told q9.2)) - (1 : Int32)) v1 (d_number q9.2)).bind fun q10 =>
  nm (ds_told q9.2 q10 : DS) fun S11 =>
  (F_X0_step S11).bind fun q12 =>
  some ((1 : Int32), q12)))
  else
  ((F_X0_fail S (1 : Int32)).bind fun q13 =>
  zz q13.1 <|
  some (q13.1, q13.2)))
def F_X0_readMark (S : DS) (x1 : Nat) : Option (DS) :=
  (F_X0_fixedWord S).bind fun q1 =>
  Option.elim q1
  (some S)
  (fun w2 => (ltW w2 x1).bind fun u3 =>
  if w2 = x1 then
  ((wd_col[x1]?).bind fun v4 =>
  (F_X2_setShip (d_told S) ((t_ships (d_told S)) - (1 : Int32)) v4 (1 : Int32)).bind fun q5 =>
  nm (ds_told S q5 : DS) fun S6 =>
  (F_X0_step S6).bind fun q7 =>
  some q7)
  else
  (some S))
def F_X0_readShip (S : DS) : Option (Int32 × DS) :=
  if (t_ships (d_told S)) < (4 : Int32) then
  ((F_X0_step S).bind fun q1 =>
  (F_X0_isName q1).bind fun q2 =>
  if q2 = 0 then
  ((F_X0_fail q1 (1 : Int32)).bind fun q14 =>
  zz q14.1 <|
  some (q14.1, q14.2))
  else
  ((F_X2_shipNamed (d_told q1) (d_letters q1)).bind fun q3 =>
  if q3 = (-1 : Int32) then
  ((F_X2_addShip (d_told q1) (d_letters q1)).bind fun q4 =>
  nm (ds_told q1 q4 : DS) fun S5 =>
  (F_X0_step S5).bind fun q6 =>
  (F_X0_readColumn q6 1).bind fun q7 =>
  if q7.1 = 0 then
  (some ((0 : Int32), q7.2))
  else
  ((F_X0_readColumn q7.2 2).bind fun q8 =>
  if q8.1 = 0 then
  (some ((0 : Int32), q8.2))
  else
  ((F_X0_readColumn q8.2 3).bind fun q9 =>
  if q9.1 = 0 then
  (some ((0 : Int32), q9.2))
  else
  ((F_X0_readColumn q9.2 4).bind fun q10 =>
  if q10.1 = 0 then
  (some ((0 : Int32), q10.2))
  else
  ((F_X0_readMark q10.2 5).bind fun q11 =>
  (F_X0_readMark q11 6).bind fun q12 =>
  some ((1 : Int32), q12))))))
  else
  ((F_X0_fail q1 (3 : Int32)).bind fun q13 =>
  zz q13.1 <|
  some (q13.1, q13.2))))
  else
  ((F_X0_fail S (4 : Int32)).bind fun q15 =>
  zz q15.1 <|
  some (q15.1, q15.2))
def J_X2_addClaim_36 (S : TS) (x3 : Int32) (x4 : Int32) (x5 : Int32) (y0 : Int32) (y1 : Int32) : Option (TS) :=
  (wrI (t_claimRows S) y1 y0).bind fun f4 =>
  nm (ts_claimRows S f4 : TS) fun S5 =>
  (wrI (t_claimRows S5) (x5 + (2 : Int32)) x3).bind fun f6 =>
  nm (ts_claimRows S5 f6 : TS) fun S7 =>
  (wrI (t_claimRows S7) (x5 + (3 : Int32)) x4).bind fun f8 =>
  nm (ts_claimRows S7 f8 : TS) fun S9 =>
  nm (ts_claims S9 ((t_claims S9) + (1 : Int32)) : TS) fun S10 =>
  some S10
def F_X2_addClaim (S : TS) (x1 : Int32) (x2 : Int32) (x3 : Int32) (x4 : Int32) : Option (TS) :=
  nm (((t_claims S) * (4 : Int32)) : Int32) fun v1 =>
  (wrI (t_claimRows S) (v1 + (0 : Int32)) x1).bind fun f2 =>
  nm (ts_claimRows S f2 : TS) fun S3 =>
  if x1 = 0 then
  (J_X2_addClaim_36 S3 x3 x4 v1 x2 (v1 + (1 : Int32)))
  else
  (J_X2_addClaim_36 S3 x3 x4 v1 (-2 : Int32) (v1 + (1 : Int32)))
def J_X0_readClaim_69 (S : DS) (x1 : Int32) (x2 : Int32) : Option (Int32 × DS) :=
  (F_X0_isWholeWithin S (1 : Int32) (9999999 : Int32)).bind fun q2 =>
  if q2.1 = 0 then
  (some ((0 : Int32), q2.2))
  else
  (nm (d_number q2.2 : Int32) fun v3 =>
  (F_X0_step q2.2).bind fun q4 =>
  (F_X0_fixedWord q4).bind fun q5 =>
  Option.elim q5
  ((F_X0_fail q4 (1 : Int32)).bind fun q7 =>
  zz q7.1 <|
  some (q7.1, q7.2))
  (fun w6 => (ltW w6 7).bind fun u8 =>
  if w6 = 7 then
  ((F_X0_step q4).bind fun q9 =>
  (F_X0_isWholeWithin q9 (0 : Int32) (999 : Int32)).bind fun q10 =>
  if q10.1 = 0 then
  (some ((0 : Int32), q10.2))
  else
  ((F_X2_addClaim (d_told q10.2) x1 x2 v3 (d_number q10.2)).bind fun q11 =>
  nm (ds_told q10.2 q11 : DS) fun S12 =>
  (F_X0_step S12).bind fun q13 =>
  some ((1 : Int32), q13)))
  else
  ((F_X0_fail q4 (1 : Int32)).bind fun q14 =>
  zz q14.1 <|
  some (q14.1, q14.2))))
def F_X0_readClaim (S : DS) (x1 : Int32) : Option (Int32 × DS) :=
  if (t_claims (d_told S)) < (12 : Int32) then
  ((F_X0_step S).bind fun q1 =>
  if x1 = 0 then
  ((F_X0_isName q1).bind fun q15 =>
  if q15 = 0 then
  ((F_X0_fail q1 (1 : Int32)).bind fun q19 =>
  zz q19.1 <|
  some (q19.1, q19.2))
  else
  ((F_X2_shipNamed (d_told q1) (d_letters q1)).bind fun q16 =>
  if q16 = (-1 : Int32) then
  ((F_X0_fail q1 (3 : Int32)).bind fun q18 =>
  zz q18.1 <|
  some (q18.1, q18.2))
  else
  ((F_X0_step q1).bind fun q17 =>
  J_X0_readClaim_69 q17 x1 q16)))
  else
  (J_X0_readClaim_69 q1 x1 (-2 : Int32)))
  else
  ((F_X0_fail S (4 : Int32)).bind fun q20 =>
  zz q20.1 <|
  some (q20.1, q20.2))
def F_X0_readLaw (S : DS) (x1 : Int32) : Option (Int32 × DS) :=
  (rdI (d_lawTold S) x1).bind fun v1 =>
  if v1 = 0 then
  ((wrI (d_lawTold S) x1 (1 : Int32)).bind fun f2 =>
  nm (ds_lawTold S f2 : DS) fun S3 =>
  (F_X0_step S3).bind fun q4 =>
  if (5 : Int32) ≤ x1 then
  ((rdI (sAf 2) x1).bind fun v5 =>
  (rdI (sAf 3) x1).bind fun v6 =>
  (F_X0_isWholeWithin q4 v5 v6).bind fun q7 =>
  if q7.1 = 0 then
  (some ((0 : Int32), q7.2))
  else
  ((wrI (t_laws (d_told q7.2)) x1 (d_number q7.2)).bind fun f8 =>
  nm (ds_told q7.2 (ts_laws (d_told q7.2) f8) : DS) fun S9 =>
  (F_X0_step S9).bind fun q10 =>
  some ((1 : Int32), q10)))
  else
  ((wrI (t_laws (d_told q4)) x1 (1 : Int32)).bind fun f11 =>
  nm (ds_told q4 (ts_laws (d_told q4) f11) : DS) fun S12 =>
  some ((1 : Int32), S12)))
  else
  ((F_X0_fail S (3 : Int32)).bind fun q13 =>
  zz q13.1 <|
  some (q13.1, q13.2))
def J_X0_readLine_16 (S : DS) : Option (Int32 × DS) :=
  (F_X0_fail S (1 : Int32)).bind fun q3 =>
  zz q3.1 <|
  some (q3.1, q3.2)
def F_X0_readLine (S : DS) : Option (Int32 × DS) :=
  (F_X0_fixedWord S).bind fun q1 =>
  Option.elim q1
  (J_X0_readLine_16 S)
  (fun w2 => (wd_role[w2]?).bind fun v4 =>
  if v4 = 0 then
  (J_X0_readLine_16 S)
  else
  ((wd_role[w2]?).bind fun v5 =>
  if v5 = (1 : Int32) then
  ((F_X0_readShip S).bind fun q11 =>
  zz q11.1 <|
  some (q11.1, q11.2))
  else
  ((wd_role[w2]?).bind fun v6 =>
  if v6 = (2 : Int32) then
  ((wd_col[w2]?).bind fun v9 =>
  (F_X0_readClaim S v9).bind fun q10 =>
  zz q10.1 <|
  some (q10.1, q10.2))
  else
  ((wd_col[w2]?).bind fun v7 =>
  (F_X0_readLaw S v7).bind fun q8 =>
  zz q8.1 <|
  some (q8.1, q8.2)))))
def F_X2_ofShip (S : TS) (x1 : Int32) (x2 : Int32) : Option (Int32) :=
  (rdI (t_shipRows S) ((x1 * (6 : Int32)) + x2)).bind fun v1 =>
  some v1
def B_X2_faultsTogether_4 (S : TS) (k : Int32 → Option (Int32)) (rc : Int32 → Int32 → Option (Int32)) (x1 : Int32) (x2 : Int32) : Option (Int32) :=
  if (t_ships S) ≤ x2 then
  (k x1)
  else
  ((F_X2_ofShip S x2 (1 : Int32)).bind fun q1 =>
  nm ((x1 + q1) : Int32) fun v2 =>
  nm (x2 + 1 : Int32) fun v3 =>
  rc v2 v3)
def F_X2_faultsTogether (S : TS) : Option (Int32) :=
  lo2 (B_X2_faultsTogether_4 S (fun z4 => some z4)) FU (0 : Int32) (0 : Int32)
def F_X0_fitsTogether (S : DS) : Option (Int32) :=
  if (t_ships (d_told S)) < (2 : Int32) then
  (some (0 : Int32))
  else
  ((F_X2_faultsTogether (d_told S)).bind fun q1 =>
  if q1 = (10 : Int32) then
  ((rdI (t_laws (d_told S)) (9 : Int32)).bind fun v2 =>
  (rdI (t_laws (d_told S)) (8 : Int32)).bind fun v3 =>
  if v2 < v3 then
  (some (0 : Int32))
  else
  (some (1 : Int32)))
  else
  (some (0 : Int32)))
def B_X0_read_7 (k : DS → Option (Int32 × DS)) (rc : DS → Int32 → Option (Int32 × DS)) (S : DS) (x2 : Int32) : Option (Int32 × DS) :=
  if (d_end S) < x2 then
  (k S)
  else
  ((F_X0_step S).bind fun q2 =>
  (F_X0_readLine q2).bind fun q3 =>
  if q3.1 = 0 then
  (some (d_found q3.2, q3.2))
  else
  (if (d_token q3.2) = 0 then
  ((F_X0_fitsTogether q3.2).bind fun q5 =>
  if q5 = 0 then
  (some ((5 : Int32), q3.2))
  else
  (some ((0 : Int32), q3.2)))
  else
  (if (d_token q3.2) = (3 : Int32) then
  (nm (x2 + 1 : Int32) fun v4 =>
  rc q3.2 v4)
  else
  (some ((1 : Int32), q3.2)))))
def F_X0_read (S : DS) (x1 : Int32) : Option (Int32 × DS) :=
  (F_X0_begin S x1).bind fun q1 =>
  lo2 (B_X0_read_7 (fun S6 => some ((1 : Int32), S6))) FU q1 (0 : Int32)
def F_X2_copyFrom (S : TS) (T2 : TS) : Option (TS) :=
  nm (ts_ships S (t_ships T2) : TS) fun S1 =>
  nm (ts_claims S1 (t_claims T2) : TS) fun S2 =>
  (cpL (n0 := 4) (exL (t_names T2)) (t_names S2) (0 : Int32) (0 : Int32) (4 : Int32)).bind fun f3 =>
  nm (ts_names S2 f3 : TS) fun S4 =>
  (cpI (n0 := 24) (exI (t_shipRows T2)) (t_shipRows S4) (0 : Int32) (0 : Int32) (24 : Int32)).bind fun f5 =>
  nm (ts_shipRows S4 f5 : TS) fun S6 =>
  (cpI (n0 := 48) (exI (t_claimRows T2)) (t_claimRows S6) (0 : Int32) (0 : Int32) (48 : Int32)).bind fun f7 =>
  nm (ts_claimRows S6 f7 : TS) fun S8 =>
  (cpI (n0 := 10) (exI (t_laws T2)) (t_laws S8) (0 : Int32) (0 : Int32) (10 : Int32)).bind fun f9 =>
  nm (ts_laws S8 f9 : TS) fun S10 =>
  some S10
def F_X1_take (S : RS) (T2 : TS) : Option (RS) :=
  (F_X2_copyFrom (r_told S) T2).bind fun q1 =>
  nm (rs_told S q1 : RS) fun S2 =>
  some S2
def B_J7_fill_d0a16_6 {n : Nat} (x1 : Int64) (x4 : Int32) (k : (Fin n → Int64) → Option ((Fin n → Int64))) (rc : (Fin n → Int64) → Int32 → Option ((Fin n → Int64))) (S : (Fin n → Int64)) (x3 : Int32) : Option ((Fin n → Int64)) :=
  if x4 ≤ x3 then
  (k S)
  else
  ((wrL S x3 x1).bind fun f1 =>
  nm (f1 : (Fin n → Int64)) fun S2 =>
  nm (x3 + 1 : Int32) fun v3 =>
  rc S2 v3)
def F_J7_fill_d0a16 {n : Nat} (S : (Fin n → Int64)) (x1 : Int64) : Option ((Fin n → Int64)) :=
  lo2 (B_J7_fill_d0a16_6 x1 (Int32.ofNat n) (fun S4 => some S4)) FU S (0 : Int32)
def F_X2_holds (S : TS) (x1 : Int32) : Option (Int32) :=
  (rdI (t_laws S) x1).bind fun v1 =>
  if v1 = (1 : Int32) then
  (some (1 : Int32))
  else
  (some (0 : Int32))
def F_X2_weightOf (S : TS) (x1 : Int32) : Option (Int32) :=
  (F_X2_ofShip S x1 (1 : Int32)).bind fun q1 =>
  (F_X2_holds S (2 : Int32)).bind fun q2 =>
  if q2 = 0 then
  (some q1)
  else
  (nm ((if (1 : Int32) < q1 then (1 : Int32) else q1) : Int32) fun v3 =>
  some v3)
def B_X1_weigh_7 (k : RS → Option (RS)) (rc : RS → Int32 → Option (RS)) (S : RS) (x1 : Int32) : Option (RS) :=
  if (t_ships (r_told S)) ≤ x1 then
  (k S)
  else
  ((F_X2_weightOf (r_told S) x1).bind fun q2 =>
  (wrI (r_weight S) x1 q2).bind fun f3 =>
  nm (rs_weight S f3 : RS) fun S4 =>
  (rdI (r_weight S4) x1).bind fun v5 =>
  nm (rs_weights S4 ((r_weights S4) + v5) : RS) fun S6 =>
  nm (x1 + 1 : Int32) fun v7 =>
  rc S6 v7)
def F_X1_weigh (S : RS) : Option (RS) :=
  nm (rs_weights S (0 : Int32) : RS) fun S1 =>
  lo2 (B_X1_weigh_7 (fun S8 => some S8)) FU S1 (0 : Int32)
def F_X2_ofClaim (S : TS) (x1 : Int32) (x2 : Int32) : Option (Int32) :=
  (rdI (t_claimRows S) ((x1 * (4 : Int32)) + x2)).bind fun v1 =>
  some v1
def F_X2_roundOf (S : TS) (x1 : Int32) : Option (Int32) :=
  (F_X2_ofClaim S x1 (3 : Int32)).bind fun q1 =>
  (rdI (t_laws S) (9 : Int32)).bind fun v2 =>
  if q1 ≤ v2 then
  ((rdI (t_laws S) (8 : Int32)).bind fun v3 =>
  if q1 ≤ v3 then
  (some (0 : Int32))
  else
  (some (1 : Int32)))
  else
  (some (-2 : Int32))
def F_X2_isGoods (S : TS) (x1 : Int32) : Option (Int32) :=
  (F_X2_ofClaim S x1 (0 : Int32)).bind fun q1 =>
  if q1 = 0 then
  (some (1 : Int32))
  else
  (some (0 : Int32))
def F_X1_cut (x0 : Int64) (x2 : Int64) : Option (Int64) :=
  if (lg_cmp x2 (0 : Int64)) = 0 then
  (some (0 : Int64))
  else
  ((dvL x0 x2).bind fun v1 =>
  some v1)
def F_X1_partOf (S : RS) (x1 : Int32) (x2 : Int64) : Option (Int64) :=
  (rdI (r_weight S) x1).bind fun v1 =>
  (F_X1_cut (x2 * v1.toInt64) ((r_weights S).toInt64)).bind fun q2 =>
  some q2
def F_X1_debt (S : RS) (x1 : Int32) (x2 : Int32) : Option (Int64) :=
  (F_X2_roundOf (r_told S) x2).bind fun q1 =>
  if q1 = (-2 : Int32) then
  (some (0 : Int64))
  else
  ((F_X2_ofClaim (r_told S) x2 (2 : Int32)).bind fun q2 =>
  nm (q2.toInt64 : Int64) fun v3 =>
  (F_X2_isGoods (r_told S) x2).bind fun q4 =>
  if q4 = 0 then
  ((F_X1_partOf S x1 v3).bind fun q11 =>
  some q11)
  else
  ((F_X2_ofClaim (r_told S) x2 (1 : Int32)).bind fun q5 =>
  if q5 = x1 then
  (some (0 : Int64))
  else
  ((F_X2_holds (r_told S) (3 : Int32)).bind fun q6 =>
  if q6 = 0 then
  ((F_X1_partOf S x1 v3).bind fun q10 =>
  some q10)
  else
  ((rdI (r_weight S) x1).bind fun v7 =>
  (rdI (r_weight S) q5).bind fun v8 =>
  (F_X1_cut (v3 * v7.toInt64) (((r_weights S) - v8).toInt64)).bind fun q9 =>
  some q9))))
def B_X1_oweClaims_15 (x1 : Int32) (k : RS → Option (RS)) (rc : RS → Int32 → Option (RS)) (S : RS) (x2 : Int32) : Option (RS) :=
  if (t_claims (r_told S)) ≤ x2 then
  (k S)
  else
  ((F_X1_debt S x1 x2).bind fun q1 =>
  (wrL (r_owed S) (((x1 * (16 : Int32)) + (4 : Int32)) + x2) q1).bind fun f2 =>
  nm (rs_owed S f2 : RS) fun S3 =>
  nm (x2 + 1 : Int32) fun v4 =>
  rc S3 v4)
def B_X1_oweClaims_2 (k : RS → Option (RS)) (rc : RS → Int32 → Option (RS)) (S : RS) (x1 : Int32) : Option (RS) :=
  if (t_ships (r_told S)) ≤ x1 then
  (k S)
  else
  (lo2 (B_X1_oweClaims_15 x1 (fun S5 => nm (x1 + 1 : Int32) fun v6 =>
  rc S5 v6)) FU S (0 : Int32))
def F_X1_oweClaims (S : RS) : Option (RS) :=
  lo2 (B_X1_oweClaims_2 (fun S7 => some S7)) FU S (0 : Int32)
def F_X1_owedToClaim (S : RS) (x1 : Int32) (x2 : Int32) : Option (Int64) :=
  (rdL (r_owed S) (((x1 * (16 : Int32)) + (4 : Int32)) + x2)).bind fun v1 =>
  some v1
def J_X1_backFor_40 (S : RS) (x1 : Int32) (x2 : Int32) (y0 : Int32) : Option (Int64) :=
  if y0 = 0 then
  (some (0 : Int64))
  else
  ((F_X2_ofClaim (r_told S) x1 (1 : Int32)).bind fun q2 =>
  if q2 = x2 then
  (some (0 : Int64))
  else
  ((F_X1_owedToClaim S x2 x1).bind fun q3 =>
  (F_X2_ofClaim (r_told S) x1 (2 : Int32)).bind fun q4 =>
  (F_X1_partOf S x2 q4.toInt64).bind fun q5 =>
  some (q3 - q5)))
def J_X1_backFor_39 (S : RS) (x1 : Int32) (x2 : Int32) : Option (Int64) :=
  J_X1_backFor_40 S x1 x2 (0 : Int32)
def F_X1_backFor (S : RS) (x1 : Int32) (x2 : Int32) : Option (Int64) :=
  (F_X2_holds (r_told S) (3 : Int32)).bind fun q1 =>
  if q1 = 0 then
  (J_X1_backFor_39 S x1 x2)
  else
  ((F_X2_isGoods (r_told S) x1).bind fun q6 =>
  if q6 = 0 then
  (J_X1_backFor_39 S x1 x2)
  else
  ((F_X2_roundOf (r_told S) x1).bind fun q7 =>
  if q7 = (-2 : Int32) then
  (J_X1_backFor_39 S x1 x2)
  else
  (J_X1_backFor_40 S x1 x2 (1 : Int32))))
def J_X1_oweBack_70 (k : RS → Option (RS)) (rc : RS → Int32 → Option (RS)) (S : RS) (x1 : Int32) : Option (RS) :=
  nm (x1 + 1 : Int32) fun v2 =>
  rc S v2
def B_X1_oweBack_26 (x1 : Int32) (k : RS → Option (RS)) (rc : RS → Int32 → Option (RS)) (S : RS) (x2 : Int32) : Option (RS) :=
  if (t_ships (r_told S)) ≤ x2 then
  (k S)
  else
  ((F_X2_ofClaim (r_told S) x1 (1 : Int32)).bind fun q3 =>
  nm (((q3 * (4 : Int32)) + x2) : Int32) fun v4 =>
  (rdL (r_backs S) v4).bind fun v5 =>
  (F_X1_backFor S x1 x2).bind fun q6 =>
  (wrL (r_backs S) v4 (v5 + q6)).bind fun f7 =>
  nm (rs_backs S f7 : RS) fun S8 =>
  nm (x2 + 1 : Int32) fun v9 =>
  rc S8 v9)
def B_X1_oweBack_2 (k : RS → Option (RS)) (rc : RS → Int32 → Option (RS)) (S : RS) (x1 : Int32) : Option (RS) :=
  if (t_claims (r_told S)) ≤ x1 then
  (k S)
  else
  ((F_X2_isGoods (r_told S) x1).bind fun q1 =>
  if q1 = 0 then
  (J_X1_oweBack_70 k rc S x1)
  else
  (lo2 (B_X1_oweBack_26 x1 (fun S10 => J_X1_oweBack_70 k rc S10 x1)) FU S (0 : Int32)))
def F_X1_oweBack (S : RS) : Option (RS) :=
  lo2 (B_X1_oweBack_2 (fun S11 => some S11)) FU S (0 : Int32)
def F_X1_hullDebt (S : RS) (x1 : Int32) (x2 : Int32) : Option (Int64) :=
  (F_X2_ofShip (r_told S) x2 (2 : Int32)).bind fun q1 =>
  (F_X1_partOf S x1 q1.toInt64).bind fun q2 =>
  some q2
def F_X1_backTo (S : RS) (x1 : Int32) (x2 : Int32) : Option (Int64) :=
  (rdL (r_backs S) ((x1 * (4 : Int32)) + x2)).bind fun v1 =>
  some v1
def F_X1_crossDebt (S : RS) (x1 : Int32) (x2 : Int32) : Option (Int64) :=
  (F_X1_hullDebt S x1 x2).bind fun q1 =>
  (F_X1_backTo S x1 x2).bind fun q2 =>
  some (q1 + q2)
def J_X1_oweShips_80 (k : RS → Option (RS)) (rc : RS → Int32 → Option (RS)) (S : RS) (x1 : Int32) (x2 : Int32) : Option (RS) :=
  nm (x2 + 1 : Int32) fun v1 =>
  rc S v1
def J_X1_oweShips_63 (k : RS → Option (RS)) (rc : RS → Int32 → Option (RS)) (S : RS) (x1 : Int32) (x2 : Int32) (x3 : Int64) (y0 : Int64) : Option (RS) :=
  (wrL (r_owed S) ((x1 * (16 : Int32)) + x2) (x3 - y0)).bind fun f6 =>
  nm (rs_owed S f6 : RS) fun S7 =>
  J_X1_oweShips_80 k rc S7 x1 x2
def B_X1_oweShips_15 (x1 : Int32) (k : RS → Option (RS)) (rc : RS → Int32 → Option (RS)) (S : RS) (x2 : Int32) : Option (RS) :=
  if (t_ships (r_told S)) ≤ x2 then
  (k S)
  else
  (if x1 = x2 then
  (J_X1_oweShips_80 k rc S x1 x2)
  else
  ((F_X1_crossDebt S x1 x2).bind fun q2 =>
  (F_X2_holds (r_told S) (4 : Int32)).bind fun q3 =>
  if q3 = 0 then
  ((F_X1_crossDebt S x2 x1).bind fun q4 =>
  nm ((if q4 < q2 then q4 else q2) : Int64) fun v5 =>
  J_X1_oweShips_63 k rc S x1 x2 q2 v5)
  else
  (J_X1_oweShips_63 k rc S x1 x2 q2 (0 : Int64))))
def B_X1_oweShips_2 (k : RS → Option (RS)) (rc : RS → Int32 → Option (RS)) (S : RS) (x1 : Int32) : Option (RS) :=
  if (t_ships (r_told S)) ≤ x1 then
  (k S)
  else
  (lo2 (B_X1_oweShips_15 x1 (fun S8 => nm (x1 + 1 : Int32) fun v9 =>
  rc S8 v9)) FU S (0 : Int32))
def F_X1_oweShips (S : RS) : Option (RS) :=
  lo2 (B_X1_oweShips_2 (fun S10 => some S10)) FU S (0 : Int32)
def F_X1_payAll (S : RS) (x1 : Int32) : Option (RS) :=
  (cpL (n0 := 64) (exL (r_owed S)) (r_paid S) (x1 * (16 : Int32)) (x1 * (16 : Int32)) (16 : Int32)).bind fun f1 =>
  nm (rs_paid S f1 : RS) fun S2 =>
  some S2
def F_X2_fundTons (S : TS) (x1 : Int32) : Option (Int64) :=
  (F_X2_ofShip S x1 (0 : Int32)).bind fun q1 =>
  (rdI (t_laws S) (7 : Int32)).bind fun v2 =>
  nm ((if q1 < v2 then v2 else q1) : Int32) fun v3 =>
  some v3.toInt64
def F_X2_fundOf (S : TS) (x1 : Int32) (x2 : Int32) : Option (Int64) :=
  (F_X2_fundTons S x1).bind fun q1 =>
  (rdI (t_laws S) x2).bind fun v2 =>
  nm ((if (2000000000 : Int64) < (q1 * v2.toInt64) then (2000000000 : Int64) else (q1 * v2.toInt64)) : Int64) fun v3 =>
  some v3
def J_X1_takesPart_82 (S : RS) : Option (Int32) :=
  some (1 : Int32)
def F_X1_takesPart (S : RS) (x1 : Int32) (x2 : Int32) (x3 : Int32) : Option (Int32) :=
  if (4 : Int32) ≤ x1 then
  (nm ((x1 - (4 : Int32)) : Int32) fun v1 =>
  if (t_claims (r_told S)) ≤ v1 then
  (some (0 : Int32))
  else
  ((F_X2_roundOf (r_told S) v1).bind fun q2 =>
  if q2 = x3 then
  (if x2 = (5 : Int32) then
  (J_X1_takesPart_82 S)
  else
  ((F_X2_ofClaim (r_told S) v1 (0 : Int32)).bind fun q3 =>
  if q3 = (1 : Int32) then
  (J_X1_takesPart_82 S)
  else
  (some (0 : Int32))))
  else
  (some (0 : Int32))))
  else
  (if (t_ships (r_told S)) ≤ x1 then
  (some (0 : Int32))
  else
  (if x2 = (5 : Int32) then
  (if x3 = 0 then
  (some (1 : Int32))
  else
  (some (0 : Int32)))
  else
  (some (0 : Int32))))
def J_X1_findLacks_76 (k : RS → Int64 → Option (Int64 × RS)) (rc : RS → Int64 → Int32 → Option (Int64 × RS)) (S : RS) (x1 : Int32) (x2 : Int32) (x3 : Int32) (x4 : Int64) (x6 : Int32) : Option (Int64 × RS) :=
  nm (x6 + 1 : Int32) fun v4 =>
  rc S x4 v4
def B_X1_findLacks_6 (x1 : Int32) (x2 : Int32) (x3 : Int32) (k : RS → Int64 → Option (Int64 × RS)) (rc : RS → Int64 → Int32 → Option (Int64 × RS)) (S : RS) (x4 : Int64) (x6 : Int32) : Option (Int64 × RS) :=
  if (16 : Int32) ≤ x6 then
  (k S x4)
  else
  ((wrL (r_lacked S) x6 (0 : Int64)).bind fun f1 =>
  nm (rs_lacked S f1 : RS) fun S2 =>
  (F_X1_takesPart S2 x6 x2 x3).bind fun q3 =>
  if q3 = 0 then
  (J_X1_findLacks_76 k rc S2 x1 x2 x3 x4 x6)
  else
  ((rdL (r_owed S2) ((x1 * (16 : Int32)) + x6)).bind fun v5 =>
  (rdL (r_paid S2) ((x1 * (16 : Int32)) + x6)).bind fun v6 =>
  (wrL (r_lacked S2) x6 (v5 - v6)).bind fun f7 =>
  nm (rs_lacked S2 f7 : RS) fun S8 =>
  (rdL (r_lacked S8) x6).bind fun v9 =>
  nm ((x4 + v9) : Int64) fun v10 =>
  J_X1_findLacks_76 k rc S8 x1 x2 x3 v10 x6))
def F_X1_findLacks (S : RS) (x1 : Int32) (x2 : Int32) (x3 : Int32) : Option (Int64 × RS) :=
  lo3 (B_X1_findLacks_6 x1 x2 x3 (fun S11 z12 => some (z12, S11))) FU S (0 : Int64) (0 : Int32)
def B_X1_shareScarce_6 (x1 : Int32) (x2 : Int64) (x4 : Int64) (k : RS → Int64 → Option (RS)) (rc : RS → Int64 → Int32 → Option (RS)) (S : RS) (x6 : Int64) (x8 : Int32) : Option (RS) :=
  if (16 : Int32) ≤ x8 then
  (k S x6)
  else
  ((rdL (r_lacked S) x8).bind fun v1 =>
  (F_X1_cut (v1 * x2) x4).bind fun q2 =>
  nm (((x1 * (16 : Int32)) + x8) : Int32) fun v3 =>
  (rdL (r_paid S) v3).bind fun v4 =>
  (wrL (r_paid S) v3 (v4 + q2)).bind fun f5 =>
  nm (rs_paid S f5 : RS) fun S6 =>
  (rdL (r_lacked S6) x8).bind fun v7 =>
  (wrL (r_lacked S6) x8 (v7 - q2)).bind fun f8 =>
  nm (rs_lacked S6 f8 : RS) fun S9 =>
  nm ((x6 - q2) : Int64) fun v10 =>
  nm (x8 + 1 : Int32) fun v11 =>
  rc S9 v10 v11)
def J_X1_shareScarce_122 (k : RS → Option (RS)) (rc : RS → Int64 → Int32 → Option (RS)) (S : RS) (x1 : Int32) (x6 : Int64) (x8 : Int32) : Option (RS) :=
  nm (x8 + 1 : Int32) fun v15 =>
  rc S x6 v15
def B_X1_shareScarce_74 (x1 : Int32) (k : RS → Option (RS)) (rc : RS → Int64 → Int32 → Option (RS)) (S : RS) (x6 : Int64) (x8 : Int32) : Option (RS) :=
  if (16 : Int32) ≤ x8 then
  (k S)
  else
  (if (lg_cmp x6 (0 : Int64)) ≤ 0 then
  (k S)
  else
  ((rdL (r_lacked S) x8).bind fun v14 =>
  if (lg_cmp v14 (0 : Int64)) ≤ 0 then
  (J_X1_shareScarce_122 k rc S x1 x6 x8)
  else
  (nm (((x1 * (16 : Int32)) + x8) : Int32) fun v16 =>
  (rdL (r_paid S) v16).bind fun v17 =>
  (wrL (r_paid S) v16 (v17 + (1 : Int64))).bind fun f18 =>
  nm (rs_paid S f18 : RS) fun S19 =>
  nm ((x6 - (1 : Int64)) : Int64) fun v20 =>
  J_X1_shareScarce_122 k rc S19 x1 v20 x8)))
def F_X1_shareScarce (S : RS) (x1 : Int32) (x2 : Int64) (x4 : Int64) : Option (RS) :=
  lo3 (B_X1_shareScarce_6 x1 x2 x4 (fun S12 z13 => lo3 (B_X1_shareScarce_74 x1 (fun S21 => some S21)) FU S12 z13 (0 : Int32))) FU S x2 (0 : Int32)
def B_X1_payLacks_2 (x1 : Int32) (k : RS → Option (RS)) (rc : RS → Int32 → Option (RS)) (S : RS) (x2 : Int32) : Option (RS) :=
  if (16 : Int32) ≤ x2 then
  (k S)
  else
  (nm (((x1 * (16 : Int32)) + x2) : Int32) fun v1 =>
  (rdL (r_paid S) v1).bind fun v2 =>
  (rdL (r_lacked S) x2).bind fun v3 =>
  (wrL (r_paid S) v1 (v2 + v3)).bind fun f4 =>
  nm (rs_paid S f4 : RS) fun S5 =>
  nm (x2 + 1 : Int32) fun v6 =>
  rc S5 v6)
def F_X1_payLacks (S : RS) (x1 : Int32) : Option (RS) :=
  lo2 (B_X1_payLacks_2 x1 (fun S7 => some S7)) FU S (0 : Int32)
def J_X1_payOutOf_59 (k : RS → Option (RS)) (rc : RS → Int64 → Int32 → Option (RS)) (S : RS) (x1 : Int32) (x2 : Int32) (x3 : Int64) (x5 : Int32) : Option (RS) :=
  nm (x5 + 1 : Int32) fun v5 =>
  rc S x3 v5
def B_X1_payOutOf_13 (x1 : Int32) (x2 : Int32) (k : RS → Option (RS)) (rc : RS → Int64 → Int32 → Option (RS)) (S : RS) (x3 : Int64) (x5 : Int32) : Option (RS) :=
  if (1 : Int32) < x5 then
  (k S)
  else
  ((F_X1_findLacks S x1 x2 x5).bind fun q2 =>
  if (lg_cmp q2.1 x3) ≤ 0 then
  ((F_X1_payLacks q2.2 x1).bind fun q3 =>
  nm ((x3 - q2.1) : Int64) fun v4 =>
  J_X1_payOutOf_59 k rc q3 x1 x2 v4 x5)
  else
  ((F_X1_shareScarce q2.2 x1 x3 q2.1).bind fun q6 =>
  J_X1_payOutOf_59 k rc q6 x1 x2 (0 : Int64) x5))
def F_X1_payOutOf (S : RS) (x1 : Int32) (x2 : Int32) : Option (RS) :=
  (F_X2_fundOf (r_told S) x1 x2).bind fun q1 =>
  lo3 (B_X1_payOutOf_13 x1 x2 (fun S7 => some S7)) FU S q1 (0 : Int32)
def J_X1_settle_87 (k : RS → Option (RS)) (rc : RS → Int32 → Option (RS)) (S : RS) (x1 : Int32) : Option (RS) :=
  nm (x1 + 1 : Int32) fun v14 =>
  rc S v14
def B_X1_settle_42 (k : RS → Option (RS)) (rc : RS → Int32 → Option (RS)) (S : RS) (x1 : Int32) : Option (RS) :=
  if (t_ships (r_told S)) ≤ x1 then
  (k S)
  else
  ((F_X2_ofShip (r_told S) x1 (5 : Int32)).bind fun q11 =>
  if q11 = (1 : Int32) then
  ((F_X1_payAll S x1).bind fun q15 =>
  J_X1_settle_87 k rc q15 x1)
  else
  ((F_X1_payOutOf S x1 (6 : Int32)).bind fun q12 =>
  (F_X1_payOutOf q12 x1 (5 : Int32)).bind fun q13 =>
  J_X1_settle_87 k rc q13 x1))
def F_X1_settle (S : RS) : Option (RS) :=
  (F_J7_fill_d0a16 (r_owed S) (0 : Int64)).bind fun q1 =>
  nm (rs_owed S q1 : RS) fun S2 =>
  (F_J7_fill_d0a16 (r_paid S2) (0 : Int64)).bind fun q3 =>
  nm (rs_paid S2 q3 : RS) fun S4 =>
  (F_J7_fill_d0a16 (r_backs S4) (0 : Int64)).bind fun q5 =>
  nm (rs_backs S4 q5 : RS) fun S6 =>
  (F_X1_weigh S6).bind fun q7 =>
  (F_X1_oweClaims q7).bind fun q8 =>
  (F_X1_oweBack q8).bind fun q9 =>
  (F_X1_oweShips q9).bind fun q10 =>
  lo2 (B_X1_settle_42 (fun S16 => some S16)) FU q10 (0 : Int32)
def B_X1_backForClaim_5 (S : RS) (x1 : Int32) (k : Int64 → Option (Int64)) (rc : Int64 → Int32 → Option (Int64)) (x2 : Int64) (x4 : Int32) : Option (Int64) :=
  if (t_ships (r_told S)) ≤ x4 then
  (k x2)
  else
  ((F_X1_backFor S x1 x4).bind fun q1 =>
  nm ((x2 + q1) : Int64) fun v2 =>
  nm (x4 + 1 : Int32) fun v3 =>
  rc v2 v3)
def F_X1_backForClaim (S : RS) (x1 : Int32) : Option (Int64) :=
  lo2 (B_X1_backForClaim_5 S x1 (fun z4 => some z4)) FU (0 : Int64) (0 : Int32)
def F_X1_owedToShip (S : RS) (x1 : Int32) (x2 : Int32) : Option (Int64) :=
  (rdL (r_owed S) ((x1 * (16 : Int32)) + x2)).bind fun v1 =>
  some v1
def B_X1_rowTogether_5 (S : (Fin 64 → Int64)) (x1 : Int32) (k : Int64 → Option (Int64)) (rc : Int64 → Int32 → Option (Int64)) (x2 : Int64) (x4 : Int32) : Option (Int64) :=
  if (16 : Int32) ≤ x4 then
  (k x2)
  else
  ((rdL S ((x1 * (16 : Int32)) + x4)).bind fun v1 =>
  nm ((x2 + v1) : Int64) fun v2 =>
  nm (x4 + 1 : Int32) fun v3 =>
  rc v2 v3)
def F_X1_rowTogether (S : (Fin 64 → Int64)) (x1 : Int32) : Option (Int64) :=
  lo2 (B_X1_rowTogether_5 S x1 (fun z4 => some z4)) FU (0 : Int64) (0 : Int32)
def F_X1_owedByShip (S : RS) (x1 : Int32) : Option (Int64) :=
  (F_X1_rowTogether (r_owed S) x1).bind fun q1 =>
  some q1
def F_X1_paidToClaim (S : RS) (x1 : Int32) (x2 : Int32) : Option (Int64) :=
  (rdL (r_paid S) (((x1 * (16 : Int32)) + (4 : Int32)) + x2)).bind fun v1 =>
  some v1
def F_X1_paidToShip (S : RS) (x1 : Int32) (x2 : Int32) : Option (Int64) :=
  (rdL (r_paid S) ((x1 * (16 : Int32)) + x2)).bind fun v1 =>
  some v1
def F_X1_paidByShip (S : RS) (x1 : Int32) : Option (Int64) :=
  (F_X1_rowTogether (r_paid S) x1).bind fun q1 =>
  some q1
def B_X1_paidToClaimByAll_5 (S : RS) (x1 : Int32) (k : Int64 → Option (Int64)) (rc : Int64 → Int32 → Option (Int64)) (x2 : Int64) (x4 : Int32) : Option (Int64) :=
  if (t_ships (r_told S)) ≤ x4 then
  (k x2)
  else
  ((F_X1_paidToClaim S x4 x1).bind fun q1 =>
  nm ((x2 + q1) : Int64) fun v2 =>
  nm (x4 + 1 : Int32) fun v3 =>
  rc v2 v3)
def F_X1_paidToClaimByAll (S : RS) (x1 : Int32) : Option (Int64) :=
  lo2 (B_X1_paidToClaimByAll_5 S x1 (fun z4 => some z4)) FU (0 : Int64) (0 : Int32)
def F_X1_givenBack (S : RS) (x1 : Int32) : Option (Int64) :=
  (F_X2_isGoods (r_told S) x1).bind fun q1 =>
  if q1 = 0 then
  (some (0 : Int64))
  else
  ((F_X2_ofClaim (r_told S) x1 (1 : Int32)).bind fun q2 =>
  (F_X2_ofShip (r_told S) q2 (4 : Int32)).bind fun q3 =>
  if q3 = 0 then
  (some (0 : Int64))
  else
  ((F_X1_backForClaim S x1).bind fun q4 =>
  (F_X1_paidToClaimByAll S x1).bind fun q5 =>
  nm ((if q5 < q4 then q5 else q4) : Int64) fun v6 =>
  some v6))
def F_X1_leftToClaim (S : RS) (x1 : Int32) : Option (Int64) :=
  (F_X1_paidToClaimByAll S x1).bind fun q1 =>
  (F_X1_givenBack S x1).bind fun q2 =>
  some (q1 - q2)
def B_X1_netOf_21 (S : RS) (x1 : Int32) (k : Int64 → Option (Int64)) (rc : Int64 → Int32 → Option (Int64)) (x2 : Int64) (x4 : Int32) : Option (Int64) :=
  if (t_ships (r_told S)) ≤ x4 then
  (k x2)
  else
  ((F_X1_paidToShip S x4 x1).bind fun q4 =>
  nm ((x2 + q4) : Int64) fun v5 =>
  nm (x4 + 1 : Int32) fun v6 =>
  rc v5 v6)
def J_X1_netOf_87 (k : Int64 → Option (Int64)) (rc : Int64 → Int32 → Option (Int64)) (S : RS) (x1 : Int32) (x2 : Int64) (x4 : Int32) : Option (Int64) :=
  nm (x4 + 1 : Int32) fun v9 =>
  rc x2 v9
def B_X1_netOf_52 (S : RS) (x1 : Int32) (k : Int64 → Option (Int64)) (rc : Int64 → Int32 → Option (Int64)) (x2 : Int64) (x4 : Int32) : Option (Int64) :=
  if (t_claims (r_told S)) ≤ x4 then
  (k x2)
  else
  ((F_X2_ofClaim (r_told S) x4 (1 : Int32)).bind fun q8 =>
  if q8 = x1 then
  ((F_X1_givenBack S x4).bind fun q10 =>
  nm ((x2 + q10) : Int64) fun v11 =>
  J_X1_netOf_87 k rc S x1 v11 x4)
  else
  (J_X1_netOf_87 k rc S x1 x2 x4))
def F_X1_netOf (S : RS) (x1 : Int32) : Option (Int64) :=
  (F_X1_paidByShip S x1).bind fun q1 =>
  (F_X2_ofShip (r_told S) x1 (2 : Int32)).bind fun q2 =>
  nm (((-q1) - q2.toInt64) : Int64) fun v3 =>
  lo2 (B_X1_netOf_21 S x1 (fun z7 => lo2 (B_X1_netOf_52 S x1 (fun z12 => some z12)) FU z7 (0 : Int32))) FU v3 (0 : Int32)
def J_X1_paidToPersons_41 (k : Int64 → Option (Int64)) (rc : Int64 → Int32 → Option (Int64)) (S : RS) (x1 : Int32) (x2 : Int64) (x4 : Int32) : Option (Int64) :=
  nm (x4 + 1 : Int32) fun v2 =>
  rc x2 v2
def B_X1_paidToPersons_5 (S : RS) (x1 : Int32) (k : Int64 → Option (Int64)) (rc : Int64 → Int32 → Option (Int64)) (x2 : Int64) (x4 : Int32) : Option (Int64) :=
  if (t_claims (r_told S)) ≤ x4 then
  (k x2)
  else
  ((F_X2_ofClaim (r_told S) x4 (0 : Int32)).bind fun q1 =>
  if q1 = (1 : Int32) then
  ((F_X1_paidToClaim S x1 x4).bind fun q3 =>
  nm ((x2 + q3) : Int64) fun v4 =>
  J_X1_paidToPersons_41 k rc S x1 v4 x4)
  else
  (J_X1_paidToPersons_41 k rc S x1 x2 x4))
def F_X1_paidToPersons (S : RS) (x1 : Int32) : Option (Int64) :=
  lo2 (B_X1_paidToPersons_5 S x1 (fun z5 => some z5)) FU (0 : Int64) (0 : Int32)
def F_X1_threeQuarters (x0 : Int64) : Option (Int64) :=
  (dvL (x0 * (3 : Int64)) (4 : Int64)).bind fun v1 =>
  some v1
def F_X1_coveredOf (S : RS) (x1 : Int32) : Option (Int64) :=
  (F_X1_paidByShip S x1).bind fun q1 =>
  (F_X1_paidToPersons S x1).bind fun q2 =>
  (F_X1_threeQuarters (q1 - q2)).bind fun q3 =>
  (F_X2_ofShip (r_told S) x1 (3 : Int32)).bind fun q4 =>
  (F_X1_threeQuarters q4.toInt64).bind fun q5 =>
  nm ((if q5 < q3 then q5 else q3) : Int64) fun v6 =>
  some v6
def J_X1_owedToPersons_41 (k : Int64 → Option (Int64)) (rc : Int64 → Int32 → Option (Int64)) (S : RS) (x1 : Int32) (x2 : Int64) (x4 : Int32) : Option (Int64) :=
  nm (x4 + 1 : Int32) fun v2 =>
  rc x2 v2
def B_X1_owedToPersons_5 (S : RS) (x1 : Int32) (k : Int64 → Option (Int64)) (rc : Int64 → Int32 → Option (Int64)) (x2 : Int64) (x4 : Int32) : Option (Int64) :=
  if (t_claims (r_told S)) ≤ x4 then
  (k x2)
  else
  ((F_X2_ofClaim (r_told S) x4 (0 : Int32)).bind fun q1 =>
  if q1 = (1 : Int32) then
  ((F_X1_owedToClaim S x1 x4).bind fun q3 =>
  nm ((x2 + q3) : Int64) fun v4 =>
  J_X1_owedToPersons_41 k rc S x1 v4 x4)
  else
  (J_X1_owedToPersons_41 k rc S x1 x2 x4))
def F_X1_owedToPersons (S : RS) (x1 : Int32) : Option (Int64) :=
  lo2 (B_X1_owedToPersons_5 S x1 (fun z5 => some z5)) FU (0 : Int64) (0 : Int32)
def F_X1_rateNeeded (S : RS) (x1 : Int32) : Option (Int64) :=
  (F_X2_ofShip (r_told S) x1 (5 : Int32)).bind fun q1 =>
  if q1 = (1 : Int32) then
  (some (0 : Int64))
  else
  ((F_X1_owedToPersons S x1).bind fun q2 =>
  (F_X1_owedByShip S x1).bind fun q3 =>
  (F_X2_fundOf (r_told S) x1 (6 : Int32)).bind fun q4 =>
  nm ((if q4 < q2 then q4 else q2) : Int64) fun v5 =>
  nm ((q3 - v5) : Int64) fun v6 =>
  (F_X2_fundTons (r_told S) x1).bind fun q7 =>
  (F_X1_cut ((v6 + q7) - (1 : Int64)) q7).bind fun q8 =>
  some q8)
def B_X2_dropClaim_14 (k : TS → Option (TS)) (rc : TS → Int32 → Option (TS)) (S : TS) (x2 : Int32) : Option (TS) :=
  if ((t_claims S) * (4 : Int32)) ≤ x2 then
  (k S)
  else
  ((rdI (t_claimRows S) (x2 + (4 : Int32))).bind fun v3 =>
  (wrI (t_claimRows S) x2 v3).bind fun f4 =>
  nm (ts_claimRows S f4 : TS) fun S5 =>
  nm (x2 + 1 : Int32) fun v6 =>
  rc S5 v6)
def F_X2_dropClaim (S : TS) (x1 : Int32) : Option (TS) :=
  nm (ts_claims S ((t_claims S) - (1 : Int32)) : TS) fun S1 =>
  nm ((x1 * (4 : Int32)) : Int32) fun v2 =>
  lo2 (B_X2_dropClaim_14 (fun S7 => some S7)) FU S1 v2
def B_X2_drawFaults_2 (x1 : Int64) (k : TS → Option (Int64 × TS)) (rc : TS → Int32 → Option (Int64 × TS)) (S : TS) (x3 : Int32) : Option (Int64 × TS) :=
  if (t_ships S) ≤ x3 then
  (k S)
  else
  ((F_X2_setShip S x3 (1 : Int32) (0 : Int32)).bind fun q1 =>
  nm (x3 + 1 : Int32) fun v2 =>
  rc q1 v2)
def B_X2_drawFaults_28 (k : TS → Int64 → Option (Int64 × TS)) (rc : TS → Int64 → Int32 → Option (Int64 × TS)) (S : TS) (x3 : Int64) (x5 : Int32) : Option (Int64 × TS) :=
  if (10 : Int32) ≤ x5 then
  (k S x3)
  else
  (if (t_ships S) ≤ 0 then
  (k S x3)
  else
  ((rmL ((48271 : Int64) * x3) (2147483647 : Int64)).bind fun v4 =>
  (rmL v4 ((t_ships S).toInt64)).bind fun v5 =>
  nm (v5.toInt32 : Int32) fun v6 =>
  (F_X2_ofShip S v6 (1 : Int32)).bind fun q7 =>
  (F_X2_setShip S v6 (1 : Int32) (q7 + (1 : Int32))).bind fun q8 =>
  nm (x5 + 1 : Int32) fun v9 =>
  rc q8 v4 v9))
def J_X2_drawFaults_84 (S : TS) (x3 : Int64) : Option (Int64 × TS) :=
  some (x3, S)
def F_X2_drawFaults (S : TS) (x1 : Int64) : Option (Int64 × TS) :=
  lo2 (B_X2_drawFaults_2 x1 (fun S3 => lo3 (B_X2_drawFaults_28 (fun S10 z11 => J_X2_drawFaults_84 S10 z11)) FU S3 x1 (0 : Int32))) FU S (0 : Int32)
def B_X4_putBytes_3 (x1 : Int32) (k : XS → Option (XS)) (rc : XS → Int32 → Option (XS)) (S : XS) (x2 : Int32) : Option (XS) :=
  if x2 < 0 then
  (k S)
  else
  (if (600 : Int32) ≤ (x_tapeLength S) then
  (k S)
  else
  ((wrI (d_bytes (x_reader S)) (x_tapeLength S) ((x1 >>> (x2 &&& 31)).toInt8.toInt32)).bind fun f1 =>
  nm (xs_reader S (ds_bytes (x_reader S) f1) : XS) fun S2 =>
  nm (xs_tapeLength S2 ((x_tapeLength S2) + (1 : Int32)) : XS) fun S3 =>
  nm (x2 + (-8) : Int32) fun v4 =>
  rc S3 v4))
def F_X4_putBytes (S : XS) (x1 : Int32) : Option (XS) :=
  lo2 (B_X4_putBytes_3 x1 (fun S5 => some S5)) FU S (24 : Int32)
def F_X4_feed (S : XS) (x1 : Int32) (x2 : Int32) (x3 : Int32) (x4 : Int32) (x5 : Int32) : Option (Int32 × XS) :=
  if ((x_tapeLength S) + (20 : Int32)) ≤ (600 : Int32) then
  ((F_X4_putBytes S x1).bind fun q1 =>
  (F_X4_putBytes q1 x2).bind fun q2 =>
  (F_X4_putBytes q2 x3).bind fun q3 =>
  (F_X4_putBytes q3 x4).bind fun q4 =>
  (F_X4_putBytes q4 x5).bind fun q5 =>
  some (x_tapeLength q5, q5))
  else
  (some ((-1 : Int32), S))
def F_X4_refuse (S : XS) (x1 : Int32) : Option (Int32 × XS) :=
  nm (xs_latestTrouble S x1 : XS) fun S1 =>
  nm (xs_latestPlace S1 (-1 : Int32) : XS) fun S2 =>
  some ((0 : Int32), S2)
def F_X4_none (S : XS) (x1 : Int32) : Option (Int32 × XS) :=
  (F_X4_refuse S x1).bind fun q1 =>
  some ((-1 : Int32), q1.2)
def F_X4_accept (S : XS) : Option (XS) :=
  nm (xs_latestTrouble S (0 : Int32) : XS) fun S1 =>
  nm (xs_latestPlace S1 (-1 : Int32) : XS) fun S2 =>
  some S2
def F_X4_forgetActs (S : XS) : Option (XS) :=
  nm (xs_undoable S (0 : Int32) : XS) fun S1 =>
  nm (xs_nextAct S1 (0 : Int32) : XS) fun S2 =>
  some S2
def B_X4_text_84 (k : XS → Option (Int32 × XS)) (rc : XS → Int32 → Option (Int32 × XS)) (S : XS) (x2 : Int32) : Option (Int32 × XS) :=
  if (2 : Int32) ≤ x2 then
  (k S)
  else
  ((wrI (x_kept S) x2 (0 : Int32)).bind fun f10 =>
  nm (xs_kept S f10 : XS) fun S11 =>
  nm (x2 + 1 : Int32) fun v12 =>
  rc S11 v12)
def F_X4_text (S : XS) (x1 : Int32) : Option (Int32 × XS) :=
  (F_X4_within x1 (0 : Int32) (x_tapeLength S)).bind fun q1 =>
  if q1 = 0 then
  ((F_X4_none S (2 : Int32)).bind fun q16 =>
  some (q16.1, q16.2))
  else
  (nm (xs_tapeLength S (0 : Int32) : XS) fun S2 =>
  (F_X0_read (x_reader S2) x1).bind fun q3 =>
  nm (xs_reader S2 q3.2 : XS) fun S4 =>
  nm (xs_latestFault S4 q3.1 : XS) fun S5 =>
  if (x_latestFault S5) = 0 then
  ((F_X4_accept S5).bind fun q6 =>
  (F_X2_copyFrom (x_now q6) (d_told (x_reader q6))).bind fun q7 =>
  nm (xs_now q6 q7 : XS) fun S8 =>
  (F_X4_forgetActs S8).bind fun q9 =>
  lo2 (B_X4_text_84 (fun S13 => some (t_ships (x_now S13), S13))) FU q9 (0 : Int32))
  else
  (nm (xs_latestTrouble S5 (4 : Int32) : XS) fun S14 =>
  nm (xs_latestPlace S14 (d_start (x_reader S14)) : XS) fun S15 =>
  some ((-1 : Int32), S15)))
def F_X4_fault (S : XS) : Option (Int32) :=
  some (x_latestFault S)
def F_X4_where (S : XS) : Option (Int32) :=
  some (x_latestPlace S)
def F_X4_hasText (S : XS) : Option (Int32) :=
  if (t_ships (x_now S)) ≤ 0 then
  (some (0 : Int32))
  else
  (some (1 : Int32))
def J_X4_about_17 (S : XS) : Option (Int32 × XS) :=
  (F_X4_none S (1 : Int32)).bind fun q2 =>
  some (q2.1, q2.2)
def F_X4_about (S : XS) (x1 : Int32) : Option (Int32 × XS) :=
  (F_X4_hasText S).bind fun q1 =>
  if q1 = 0 then
  (J_X4_about_17 S)
  else
  ((F_X4_within x1 (0 : Int32) (10 : Int32)).bind fun q3 =>
  if q3 = 0 then
  (J_X4_about_17 S)
  else
  ((F_X4_accept S).bind fun q4 =>
  if x1 = 0 then
  (some (t_ships (x_now q4), q4))
  else
  (if x1 = (1 : Int32) then
  (some (t_claims (x_now q4), q4))
  else
  (if x1 = (10 : Int32) then
  (some (x_undoable q4, q4))
  else
  ((rdI (t_laws (x_now q4)) x1).bind fun v5 =>
  some (v5, q4))))))
def F_X4_hasShip (S : XS) (x1 : Int32) : Option (Int32) :=
  (F_X4_within x1 (0 : Int32) ((t_ships (x_now S)) - (1 : Int32))).bind fun q1 =>
  zz q1 <|
  some q1
def J_X4_ship_18 (S : XS) : Option (Int32 × XS) :=
  (F_X4_none S (1 : Int32)).bind fun q2 =>
  some (q2.1, q2.2)
def F_X4_ship (S : XS) (x1 : Int32) (x2 : Int32) : Option (Int32 × XS) :=
  (F_X4_hasShip S x1).bind fun q1 =>
  if q1 = 0 then
  (J_X4_ship_18 S)
  else
  ((F_X4_within x2 (0 : Int32) (6 : Int32)).bind fun q3 =>
  if q3 = 0 then
  (J_X4_ship_18 S)
  else
  ((F_X4_accept S).bind fun q4 =>
  if x2 = (6 : Int32) then
  ((F_X2_weightOf (x_now q4) x1).bind fun q6 =>
  some (q6, q4))
  else
  ((F_X2_ofShip (x_now q4) x1 x2).bind fun q5 =>
  some (q5, q4))))
def F_X4_hasClaim (S : XS) (x1 : Int32) : Option (Int32) :=
  (F_X4_within x1 (0 : Int32) ((t_claims (x_now S)) - (1 : Int32))).bind fun q1 =>
  zz q1 <|
  some q1
def J_X4_claim_17 (S : XS) : Option (Int32 × XS) :=
  (F_X4_none S (1 : Int32)).bind fun q2 =>
  some (q2.1, q2.2)
def F_X4_claim (S : XS) (x1 : Int32) (x2 : Int32) : Option (Int32 × XS) :=
  (F_X4_hasClaim S x1).bind fun q1 =>
  if q1 = 0 then
  (J_X4_claim_17 S)
  else
  ((F_X4_within x2 (0 : Int32) (4 : Int32)).bind fun q3 =>
  if q3 = 0 then
  (J_X4_claim_17 S)
  else
  ((F_X4_accept S).bind fun q4 =>
  if x2 = (4 : Int32) then
  ((F_X2_roundOf (x_now q4) x1).bind fun q6 =>
  some (q6, q4))
  else
  ((F_X2_ofClaim (x_now q4) x1 x2).bind fun q5 =>
  some (q5, q4))))
def F_X4_reckon (S : XS) : Option (XS) :=
  (F_X1_take (x_reckoning S) (x_now S)).bind fun q1 =>
  nm (xs_reckoning S q1 : XS) fun S2 =>
  (F_X1_settle (x_reckoning S2)).bind fun q3 =>
  nm (xs_reckoning S2 q3 : XS) fun S4 =>
  some S4
def F_X4_part (S : XS) (x1 : Int32) (x2 : Int32) : Option (Int32 × XS) :=
  (F_X4_hasShip S x1).bind fun q1 =>
  if q1 = 0 then
  ((F_X4_none S (1 : Int32)).bind fun q7 =>
  some (q7.1, q7.2))
  else
  ((F_X4_within x2 (0 : Int32) (9999999 : Int32)).bind fun q2 =>
  if q2 = 0 then
  ((F_X4_none S (2 : Int32)).bind fun q6 =>
  some (q6.1, q6.2))
  else
  ((F_X4_accept S).bind fun q3 =>
  (F_X4_reckon q3).bind fun q4 =>
  (F_X1_partOf (x_reckoning q4) x1 x2.toInt64).bind fun q5 =>
  some (q5.toInt32, q4)))
def J_X4_owes_16 (S : XS) : Option (Int32 × XS) :=
  (F_X4_none S (1 : Int32)).bind fun q2 =>
  some (q2.1, q2.2)
def F_X4_owes (S : XS) (x1 : Int32) (x2 : Int32) : Option (Int32 × XS) :=
  (F_X4_hasShip S x1).bind fun q1 =>
  if q1 = 0 then
  (J_X4_owes_16 S)
  else
  ((F_X4_hasClaim S x2).bind fun q3 =>
  if q3 = 0 then
  (J_X4_owes_16 S)
  else
  ((F_X4_accept S).bind fun q4 =>
  (F_X4_reckon q4).bind fun q5 =>
  (F_X1_owedToClaim (x_reckoning q5) x1 x2).bind fun q6 =>
  some (q6.toInt32, q5)))
def J_X4_between_25 (S : XS) : Option (Int64 × XS) :=
  (F_X4_none S (1 : Int32)).bind fun q2 =>
  some (q2.1.toInt64, q2.2)
def F_X4_between (S : XS) (x1 : Int32) (x2 : Int32) (x3 : Int32) : Option (Int64 × XS) :=
  (F_X4_hasShip S x1).bind fun q1 =>
  if q1 = 0 then
  (J_X4_between_25 S)
  else
  ((F_X4_hasShip S x2).bind fun q3 =>
  if q3 = 0 then
  (J_X4_between_25 S)
  else
  ((F_X4_within x3 (0 : Int32) (3 : Int32)).bind fun q4 =>
  if q4 = 0 then
  (J_X4_between_25 S)
  else
  (if x1 = x2 then
  ((F_X4_none S (5 : Int32)).bind fun q11 =>
  some (q11.1.toInt64, q11.2))
  else
  ((F_X4_accept S).bind fun q5 =>
  (F_X4_reckon q5).bind fun q6 =>
  if x3 = 0 then
  ((F_X1_hullDebt (x_reckoning q6) x1 x2).bind fun q10 =>
  some (q10, q6))
  else
  (if x3 = (1 : Int32) then
  ((F_X1_backTo (x_reckoning q6) x1 x2).bind fun q9 =>
  some (q9, q6))
  else
  (if x3 = (2 : Int32) then
  ((F_X1_crossDebt (x_reckoning q6) x1 x2).bind fun q8 =>
  some (q8, q6))
  else
  ((F_X1_owedToShip (x_reckoning q6) x1 x2).bind fun q7 =>
  some (q7, q6))))))))
def F_X4_back (S : XS) (x1 : Int32) : Option (Int64 × XS) :=
  (F_X4_hasClaim S x1).bind fun q1 =>
  if q1 = 0 then
  ((F_X4_none S (1 : Int32)).bind fun q5 =>
  some (q5.1.toInt64, q5.2))
  else
  ((F_X4_accept S).bind fun q2 =>
  (F_X4_reckon q2).bind fun q3 =>
  (F_X1_backForClaim (x_reckoning q3) x1).bind fun q4 =>
  some (q4, q3))
def J_X4_fund_17 (S : XS) : Option (Int32 × XS) :=
  (F_X4_none S (1 : Int32)).bind fun q2 =>
  some (q2.1, q2.2)
def J_X4_fund_42 (S : XS) (y0 : Int32) (y1 : Int32) : Option (Int32 × XS) :=
  (F_X2_fundOf (x_now S) y1 y0).bind fun q5 =>
  some (q5.toInt32, S)
def F_X4_fund (S : XS) (x1 : Int32) (x2 : Int32) : Option (Int32 × XS) :=
  (F_X4_hasShip S x1).bind fun q1 =>
  if q1 = 0 then
  (J_X4_fund_17 S)
  else
  ((F_X4_within x2 (0 : Int32) (1 : Int32)).bind fun q3 =>
  if q3 = 0 then
  (J_X4_fund_17 S)
  else
  ((F_X4_accept S).bind fun q4 =>
  if x2 = 0 then
  (J_X4_fund_42 q4 (6 : Int32) x1)
  else
  (J_X4_fund_42 q4 (5 : Int32) x1)))
def J_X4_pays_16 (S : XS) : Option (Int32 × XS) :=
  (F_X4_none S (1 : Int32)).bind fun q2 =>
  some (q2.1, q2.2)
def F_X4_pays (S : XS) (x1 : Int32) (x2 : Int32) : Option (Int32 × XS) :=
  (F_X4_hasShip S x1).bind fun q1 =>
  if q1 = 0 then
  (J_X4_pays_16 S)
  else
  ((F_X4_hasClaim S x2).bind fun q3 =>
  if q3 = 0 then
  (J_X4_pays_16 S)
  else
  ((F_X4_accept S).bind fun q4 =>
  (F_X4_reckon q4).bind fun q5 =>
  (F_X1_paidToClaim (x_reckoning q5) x1 x2).bind fun q6 =>
  some (q6.toInt32, q5)))
def J_X4_paysTo_16 (S : XS) : Option (Int64 × XS) :=
  (F_X4_none S (1 : Int32)).bind fun q2 =>
  some (q2.1.toInt64, q2.2)
def F_X4_paysTo (S : XS) (x1 : Int32) (x2 : Int32) : Option (Int64 × XS) :=
  (F_X4_hasShip S x1).bind fun q1 =>
  if q1 = 0 then
  (J_X4_paysTo_16 S)
  else
  ((F_X4_hasShip S x2).bind fun q3 =>
  if q3 = 0 then
  (J_X4_paysTo_16 S)
  else
  (if x1 = x2 then
  ((F_X4_none S (5 : Int32)).bind fun q7 =>
  some (q7.1.toInt64, q7.2))
  else
  ((F_X4_accept S).bind fun q4 =>
  (F_X4_reckon q4).bind fun q5 =>
  (F_X1_paidToShip (x_reckoning q5) x1 x2).bind fun q6 =>
  some (q6, q5))))
def J_X4_sum_17 (S : XS) : Option (Int64 × XS) :=
  (F_X4_none S (1 : Int32)).bind fun q2 =>
  some (q2.1.toInt64, q2.2)
def F_X4_sum (S : XS) (x1 : Int32) (x2 : Int32) : Option (Int64 × XS) :=
  (F_X4_hasShip S x1).bind fun q1 =>
  if q1 = 0 then
  (J_X4_sum_17 S)
  else
  ((F_X4_within x2 (0 : Int32) (1 : Int32)).bind fun q3 =>
  if q3 = 0 then
  (J_X4_sum_17 S)
  else
  ((F_X4_accept S).bind fun q4 =>
  (F_X4_reckon q4).bind fun q5 =>
  if x2 = 0 then
  ((F_X1_owedByShip (x_reckoning q5) x1).bind fun q7 =>
  some (q7, q5))
  else
  ((F_X1_paidByShip (x_reckoning q5) x1).bind fun q6 =>
  some (q6, q5))))
def F_X4_bites (S : XS) (x1 : Int32) : Option (Int32 × XS) :=
  (F_X4_hasShip S x1).bind fun q1 =>
  if q1 = 0 then
  ((F_X4_none S (1 : Int32)).bind fun q6 =>
  some (q6.1, q6.2))
  else
  ((F_X4_accept S).bind fun q2 =>
  (F_X4_reckon q2).bind fun q3 =>
  (F_X1_paidByShip (x_reckoning q3) x1).bind fun q4 =>
  (F_X1_owedByShip (x_reckoning q3) x1).bind fun q5 =>
  if 0 ≤ (lg_cmp q4 q5) then
  (some ((0 : Int32), q3))
  else
  (some ((1 : Int32), q3)))
def J_X4_gets_17 (S : XS) : Option (Int64 × XS) :=
  (F_X4_none S (1 : Int32)).bind fun q2 =>
  some (q2.1.toInt64, q2.2)
def F_X4_gets (S : XS) (x1 : Int32) (x2 : Int32) : Option (Int64 × XS) :=
  (F_X4_hasClaim S x1).bind fun q1 =>
  if q1 = 0 then
  (J_X4_gets_17 S)
  else
  ((F_X4_within x2 (0 : Int32) (2 : Int32)).bind fun q3 =>
  if q3 = 0 then
  (J_X4_gets_17 S)
  else
  ((F_X4_accept S).bind fun q4 =>
  (F_X4_reckon q4).bind fun q5 =>
  if x2 = 0 then
  ((F_X1_leftToClaim (x_reckoning q5) x1).bind fun q8 =>
  some (q8, q5))
  else
  (if x2 = (1 : Int32) then
  ((F_X1_givenBack (x_reckoning q5) x1).bind fun q7 =>
  some (q7, q5))
  else
  ((F_X1_paidToClaimByAll (x_reckoning q5) x1).bind fun q6 =>
  some (q6, q5)))))
def J_X4_cover_17 (S : XS) : Option (Int64 × XS) :=
  (F_X4_none S (1 : Int32)).bind fun q2 =>
  some (q2.1.toInt64, q2.2)
def F_X4_cover (S : XS) (x1 : Int32) (x2 : Int32) : Option (Int64 × XS) :=
  (F_X4_hasShip S x1).bind fun q1 =>
  if q1 = 0 then
  (J_X4_cover_17 S)
  else
  ((F_X4_within x2 (0 : Int32) (1 : Int32)).bind fun q3 =>
  if q3 = 0 then
  (J_X4_cover_17 S)
  else
  ((F_X4_accept S).bind fun q4 =>
  (F_X4_reckon q4).bind fun q5 =>
  (F_X1_coveredOf (x_reckoning q5) x1).bind fun q6 =>
  if x2 = 0 then
  (some (q6, q5))
  else
  ((F_X1_paidByShip (x_reckoning q5) x1).bind fun q7 =>
  some ((q7 - q6), q5))))
def F_X4_nothing (S : XS) (x1 : Int32) : Option (Int64 × XS) :=
  (F_X4_refuse S x1).bind fun q1 =>
  some ((-1000000000000 : Int64), q1.2)
def F_X4_net (S : XS) (x1 : Int32) : Option (Int64 × XS) :=
  (F_X4_hasShip S x1).bind fun q1 =>
  if q1 = 0 then
  ((F_X4_nothing S (1 : Int32)).bind fun q5 =>
  some (q5.1, q5.2))
  else
  ((F_X4_accept S).bind fun q2 =>
  (F_X4_reckon q2).bind fun q3 =>
  (F_X1_netOf (x_reckoning q3) x1).bind fun q4 =>
  some (q4, q3))
def F_X4_netUnder (S : XS) (x1 : Int32) (x2 : Int32) : Option (Int64 × XS) :=
  (F_X1_take (x_reckoning S) (x_now S)).bind fun q1 =>
  nm (xs_reckoning S q1 : XS) fun S2 =>
  (wrI (t_laws (r_told (x_reckoning S2))) (2 : Int32) (x2 &&& (1 : Int32))).bind fun f3 =>
  nm (xs_reckoning S2 (rs_told (x_reckoning S2) (ts_laws (r_told (x_reckoning S2)) f3)) : XS) fun S4 =>
  (wrI (t_laws (r_told (x_reckoning S4))) (3 : Int32) ((x2 >>> ((1 : Int32) &&& 31)) &&& (1 : Int32))).bind fun f5 =>
  nm (xs_reckoning S4 (rs_told (x_reckoning S4) (ts_laws (r_told (x_reckoning S4)) f5)) : XS) fun S6 =>
  (wrI (t_laws (r_told (x_reckoning S6))) (4 : Int32) ((x2 >>> ((2 : Int32) &&& 31)) &&& (1 : Int32))).bind fun f7 =>
  nm (xs_reckoning S6 (rs_told (x_reckoning S6) (ts_laws (r_told (x_reckoning S6)) f7)) : XS) fun S8 =>
  (F_X1_settle (x_reckoning S8)).bind fun q9 =>
  nm (xs_reckoning S8 q9 : XS) fun S10 =>
  (F_X1_netOf (x_reckoning S10) x1).bind fun q11 =>
  some (q11, S10)
def F_X4_netBy (S : XS) (x1 : Int32) (x2 : Int32) : Option (Int64 × XS) :=
  (F_X4_hasShip S x1).bind fun q1 =>
  if q1 = 0 then
  ((F_X4_nothing S (1 : Int32)).bind fun q6 =>
  some (q6.1, q6.2))
  else
  ((F_X4_within x2 (0 : Int32) (7 : Int32)).bind fun q2 =>
  if q2 = 0 then
  ((F_X4_nothing S (2 : Int32)).bind fun q5 =>
  some (q5.1, q5.2))
  else
  ((F_X4_accept S).bind fun q3 =>
  (F_X4_netUnder q3 x1 x2).bind fun q4 =>
  some (q4.1, q4.2)))
def J_X4_wished_59 (k : XS → Int32 → Option (Int32 × XS)) (rc : XS → Int32 → Int64 → Int32 → Option (Int32 × XS)) (S : XS) (x1 : Int32) (x2 : Int32) (x3 : Int64) (x5 : Int32) : Option (Int32 × XS) :=
  nm (x5 + 1 : Int32) fun v5 =>
  rc S x2 x3 v5
def B_X4_wished_30 (x1 : Int32) (k : XS → Int32 → Option (Int32 × XS)) (rc : XS → Int32 → Int64 → Int32 → Option (Int32 × XS)) (S : XS) (x2 : Int32) (x3 : Int64) (x5 : Int32) : Option (Int32 × XS) :=
  if (8 : Int32) ≤ x5 then
  (k S x2)
  else
  ((F_X4_netUnder S x1 x5).bind fun q4 =>
  if (lg_cmp q4.1 x3) ≤ 0 then
  (J_X4_wished_59 k rc q4.2 x1 x2 x3 x5)
  else
  (J_X4_wished_59 k rc q4.2 x1 x5 q4.1 x5))
def F_X4_wished (S : XS) (x1 : Int32) : Option (Int32 × XS) :=
  (F_X4_hasShip S x1).bind fun q1 =>
  if q1 = 0 then
  ((F_X4_none S (1 : Int32)).bind fun q8 =>
  some (q8.1, q8.2))
  else
  ((F_X4_accept S).bind fun q2 =>
  (F_X4_netUnder q2 x1 (0 : Int32)).bind fun q3 =>
  lo4 (B_X4_wished_30 x1 (fun S6 z7 => some (z7, S6))) FU q3.2 (0 : Int32) q3.1 (1 : Int32))
def F_X4_gap (S : XS) (x1 : Int32) : Option (Int64 × XS) :=
  (F_X4_hasShip S x1).bind fun q1 =>
  if q1 = 0 then
  ((F_X4_nothing S (1 : Int32)).bind fun q8 =>
  some (q8.1, q8.2))
  else
  ((F_X4_accept S).bind fun q2 =>
  (rdI (t_laws (x_now q2)) (2 : Int32)).bind fun v3 =>
  (rdI (t_laws (x_now q2)) (3 : Int32)).bind fun v4 =>
  nm ((v3 + ((2 : Int32) * v4)) : Int32) fun v5 =>
  (F_X4_netUnder q2 x1 (v5 + (4 : Int32))).bind fun q6 =>
  (F_X4_netUnder q6.2 x1 v5).bind fun q7 =>
  some ((q6.1 - q7.1), q7.2))
def B_X4_enough_25 (k : XS → Int64 → Option (Int32 × XS)) (rc : XS → Int64 → Int32 → Option (Int32 × XS)) (S : XS) (x1 : Int64) (x3 : Int32) : Option (Int32 × XS) :=
  if (t_ships (x_now S)) ≤ x3 then
  (k S x1)
  else
  ((F_X1_rateNeeded (x_reckoning S) x3).bind fun q4 =>
  nm ((if q4 < x1 then x1 else q4) : Int64) fun v5 =>
  nm (x3 + 1 : Int32) fun v6 =>
  rc S v5 v6)
def F_X4_enough (S : XS) : Option (Int32 × XS) :=
  (F_X4_hasText S).bind fun q1 =>
  if q1 = 0 then
  ((F_X4_none S (1 : Int32)).bind fun q9 =>
  some (q9.1, q9.2))
  else
  ((F_X4_accept S).bind fun q2 =>
  (F_X4_reckon q2).bind fun q3 =>
  lo3 (B_X4_enough_25 (fun S7 z8 => if (lg_cmp z8 (99999 : Int64)) ≤ 0 then
  (some (z8.toInt32, S7))
  else
  (some ((-2 : Int32), S7)))) FU q3 (0 : Int64) (0 : Int32))
def F_X4_tenthsOfBoth (S : XS) (x1 : Int32) (x2 : Int32) : Option (Int32) :=
  (F_X2_ofShip (x_now S) x1 (1 : Int32)).bind fun q1 =>
  (F_X2_ofShip (x_now S) x2 (1 : Int32)).bind fun q2 =>
  some (q1 + q2)
def F_X4_netWithTenths (S : XS) (x1 : Int32) (x2 : Int32) (x3 : Int32) : Option (Int64 × XS) :=
  (F_X1_take (x_reckoning S) (x_now S)).bind fun q1 =>
  nm (xs_reckoning S q1 : XS) fun S2 =>
  (F_X2_setShip (r_told (x_reckoning S2)) x1 (1 : Int32) x3).bind fun q3 =>
  nm (xs_reckoning S2 (rs_told (x_reckoning S2) q3) : XS) fun S4 =>
  (F_X4_tenthsOfBoth S4 x1 x2).bind fun q5 =>
  (F_X2_setShip (r_told (x_reckoning S4)) x2 (1 : Int32) (q5 - x3)).bind fun q6 =>
  nm (xs_reckoning S4 (rs_told (x_reckoning S4) q6) : XS) fun S7 =>
  (F_X1_settle (x_reckoning S7)).bind fun q8 =>
  nm (xs_reckoning S7 q8 : XS) fun S9 =>
  (F_X1_netOf (x_reckoning S9) x1).bind fun q10 =>
  some (q10, S9)
def J_X4_would_16 (S : XS) : Option (Int64 × XS) :=
  (F_X4_nothing S (1 : Int32)).bind fun q2 =>
  some (q2.1, q2.2)
def F_X4_would (S : XS) (x1 : Int32) (x2 : Int32) (x3 : Int32) : Option (Int64 × XS) :=
  (F_X4_hasShip S x1).bind fun q1 =>
  if q1 = 0 then
  (J_X4_would_16 S)
  else
  ((F_X4_hasShip S x2).bind fun q3 =>
  if q3 = 0 then
  (J_X4_would_16 S)
  else
  (if x1 = x2 then
  ((F_X4_nothing S (5 : Int32)).bind fun q9 =>
  some (q9.1, q9.2))
  else
  ((F_X4_tenthsOfBoth S x1 x2).bind fun q4 =>
  (F_X4_within x3 (0 : Int32) q4).bind fun q5 =>
  if q5 = 0 then
  ((F_X4_nothing S (2 : Int32)).bind fun q8 =>
  some (q8.1, q8.2))
  else
  ((F_X4_accept S).bind fun q6 =>
  (F_X4_netWithTenths q6 x1 x2 x3).bind fun q7 =>
  some (q7.1, q7.2)))))
def J_X4_worse_16 (S : XS) : Option (Int32 × XS) :=
  (F_X4_none S (1 : Int32)).bind fun q2 =>
  some (q2.1, q2.2)
def B_X4_worse_65 (x1 : Int32) (x2 : Int32) (x3 : Int32) (x4 : Int32) (k : XS → Option (Int32 × XS)) (rc : XS → Int32 → Option (Int32 × XS)) (S : XS) (x5 : Int32) : Option (Int32 × XS) :=
  if x4 < x5 then
  (k S)
  else
  ((F_X4_netWithTenths S x1 x2 x5).bind fun q7 =>
  if 0 ≤ (lg_cmp q7.1 x3.toInt64) then
  (nm (x5 + 1 : Int32) fun v8 =>
  rc q7.2 v8)
  else
  (some (x5, q7.2)))
def F_X4_worse (S : XS) (x1 : Int32) (x2 : Int32) (x3 : Int32) : Option (Int32 × XS) :=
  (F_X4_hasShip S x1).bind fun q1 =>
  if q1 = 0 then
  (J_X4_worse_16 S)
  else
  ((F_X4_hasShip S x2).bind fun q3 =>
  if q3 = 0 then
  (J_X4_worse_16 S)
  else
  ((F_X4_within x3 (-1000000000 : Int32) (1000000000 : Int32)).bind fun q4 =>
  if q4 = 0 then
  ((F_X4_none S (2 : Int32)).bind fun q11 =>
  some (q11.1, q11.2))
  else
  (if x1 = x2 then
  ((F_X4_none S (5 : Int32)).bind fun q10 =>
  some (q10.1, q10.2))
  else
  ((F_X4_accept S).bind fun q5 =>
  (F_X4_tenthsOfBoth q5 x1 x2).bind fun q6 =>
  lo2 (B_X4_worse_65 x1 x2 x3 q6 (fun S9 => some ((-2 : Int32), S9))) FU q5 (0 : Int32)))))
def J_X4_judged_18 (S : XS) : Option (Int64 × XS) :=
  (F_X4_nothing S (1 : Int32)).bind fun q2 =>
  some (q2.1, q2.2)
def J_X4_judged_44 (S : XS) : Option (Int64 × XS) :=
  (F_X4_nothing S (2 : Int32)).bind fun q5 =>
  some (q5.1, q5.2)
def J_X4_judged_161 (k : XS → Int64 → Int64 → Int64 → Option (Int64 × XS)) (rc : XS → Int64 → Int64 → Int64 → Int64 → Int32 → Option (Int64 × XS)) (S : XS) (x1 : Int32) (x3 : Int32) (x4 : Int32) (x5 : Int64) (x7 : Int64) (x9 : Int64) (x13 : Int32) (y0 : Int64) : Option (Int64 × XS) :=
  nm (x13 + 1 : Int32) fun v19 =>
  rc S x5 x7 x9 y0 v19
def J_X4_judged_142 (k : XS → Int64 → Int64 → Int64 → Option (Int64 × XS)) (rc : XS → Int64 → Int64 → Int64 → Int64 → Int32 → Option (Int64 × XS)) (S : XS) (x1 : Int32) (x3 : Int32) (x4 : Int32) (x5 : Int64) (x7 : Int64) (x11 : Int64) (x13 : Int32) (x14 : Int64) (y0 : Int64) : Option (Int64 × XS) :=
  if x13 = 0 then
  (J_X4_judged_161 k rc S x1 x3 x4 x5 x7 y0 x13 x14)
  else
  (nm ((if x14 < x11 then x11 else x14) : Int64) fun v18 =>
  J_X4_judged_161 k rc S x1 x3 x4 x5 x7 y0 x13 v18)
def B_X4_judged_81 (x1 : Int32) (x3 : Int32) (x4 : Int32) (k : XS → Int64 → Int64 → Int64 → Option (Int64 × XS)) (rc : XS → Int64 → Int64 → Int64 → Int64 → Int32 → Option (Int64 × XS)) (S : XS) (x5 : Int64) (x7 : Int64) (x9 : Int64) (x11 : Int64) (x13 : Int32) : Option (Int64 × XS) :=
  if x3 ≤ x13 then
  (k S x7 x9 x11)
  else
  ((F_X2_drawFaults (r_told (x_reckoning S)) x5).bind fun q11 =>
  nm (xs_reckoning S (rs_told (x_reckoning S) q11.2) : XS) fun S12 =>
  (F_X1_settle (x_reckoning S12)).bind fun q13 =>
  nm (xs_reckoning S12 q13 : XS) fun S14 =>
  (F_X1_netOf (x_reckoning S14) x1).bind fun q15 =>
  nm ((x7 + q15) : Int64) fun v16 =>
  if x13 = 0 then
  (J_X4_judged_142 k rc S14 x1 x3 x4 q11.1 v16 x11 x13 q15 q15)
  else
  (nm ((if q15 < x9 then q15 else x9) : Int64) fun v17 =>
  J_X4_judged_142 k rc S14 x1 x3 x4 q11.1 v16 x11 x13 q15 v17))
def F_X4_judged (S : XS) (x1 : Int32) (x2 : Int32) (x3 : Int32) (x4 : Int32) : Option (Int64 × XS) :=
  (F_X4_hasShip S x1).bind fun q1 =>
  if q1 = 0 then
  (J_X4_judged_18 S)
  else
  ((F_X4_within x4 (0 : Int32) (2 : Int32)).bind fun q3 =>
  if q3 = 0 then
  (J_X4_judged_18 S)
  else
  ((F_X4_within x2 (1 : Int32) (2147483646 : Int32)).bind fun q4 =>
  if q4 = 0 then
  (J_X4_judged_44 S)
  else
  ((F_X4_within x3 (1 : Int32) (50 : Int32)).bind fun q6 =>
  if q6 = 0 then
  (J_X4_judged_44 S)
  else
  ((F_X4_accept S).bind fun q7 =>
  (F_X1_take (x_reckoning q7) (x_now q7)).bind fun q8 =>
  nm (xs_reckoning q7 q8 : XS) fun S9 =>
  nm (x2.toInt64 : Int64) fun v10 =>
  lo6 (B_X4_judged_81 x1 x3 x4 (fun S20 z21 z22 z23 => if x4 = 0 then
  (some (z21, S20))
  else
  (if x4 = (1 : Int32) then
  (some (z22, S20))
  else
  (some (z23, S20))))) FU S9 v10 (0 : Int64) (0 : Int64) (0 : Int64) (0 : Int32)))))
def B_X4_all_25 (k : XS → Int64 → Option (Int64 × XS)) (rc : XS → Int64 → Int32 → Option (Int64 × XS)) (S : XS) (x1 : Int64) (x3 : Int32) : Option (Int64 × XS) :=
  if (t_ships (x_now S)) ≤ x3 then
  (k S x1)
  else
  ((F_X1_netOf (x_reckoning S) x3).bind fun q4 =>
  nm ((x1 + q4) : Int64) fun v5 =>
  nm (x3 + 1 : Int32) fun v6 =>
  rc S v5 v6)
def B_X4_all_55 (k : XS → Int64 → Option (Int64 × XS)) (rc : XS → Int64 → Int32 → Option (Int64 × XS)) (S : XS) (x1 : Int64) (x3 : Int32) : Option (Int64 × XS) :=
  if (t_claims (x_now S)) ≤ x3 then
  (k S x1)
  else
  ((F_X1_leftToClaim (x_reckoning S) x3).bind fun q9 =>
  nm ((x1 + q9) : Int64) fun v10 =>
  nm (x3 + 1 : Int32) fun v11 =>
  rc S v10 v11)
def F_X4_all (S : XS) : Option (Int64 × XS) :=
  (F_X4_hasText S).bind fun q1 =>
  if q1 = 0 then
  ((F_X4_nothing S (1 : Int32)).bind fun q14 =>
  some (q14.1, q14.2))
  else
  ((F_X4_accept S).bind fun q2 =>
  (F_X4_reckon q2).bind fun q3 =>
  lo3 (B_X4_all_25 (fun S7 z8 => lo3 (B_X4_all_55 (fun S12 z13 => some (z13, S12))) FU S7 z8 (0 : Int32))) FU q3 (0 : Int64) (0 : Int32))
def F_X4_beginAct (S : XS) : Option (XS) :=
  (F_X4_accept S).bind fun q1 =>
  (ixB (x_nextAct q1) 10).bind fun j2 =>
  (F_X2_copyFrom (x_earlier q1 j2) (x_now q1)).bind fun q3 =>
  nm (xs_earlier q1 (upT (x_earlier q1) j2 q3) : XS) fun S4 =>
  (rmI ((x_nextAct S4) + (1 : Int32)) (10 : Int32)).bind fun v6 =>
  nm (xs_nextAct S4 v6 : XS) fun S7 =>
  nm ((if (10 : Int32) < ((x_undoable S7) + (1 : Int32)) then (10 : Int32) else ((x_undoable S7) + (1 : Int32))) : Int32) fun v8 =>
  nm (xs_undoable S7 v8 : XS) fun S9 =>
  some S9
def J_X4_shift_16 (S : XS) : Option (Int32 × XS) :=
  (F_X4_none S (1 : Int32)).bind fun q2 =>
  some (q2.1, q2.2)
def J_X4_shift_56 (S : XS) : Option (Int32 × XS) :=
  (F_X4_none S (5 : Int32)).bind fun q5 =>
  some (q5.1, q5.2)
def F_X4_shift (S : XS) (x1 : Int32) (x2 : Int32) (x3 : Int32) : Option (Int32 × XS) :=
  (F_X4_hasShip S x1).bind fun q1 =>
  if q1 = 0 then
  (J_X4_shift_16 S)
  else
  ((F_X4_hasShip S x2).bind fun q3 =>
  if q3 = 0 then
  (J_X4_shift_16 S)
  else
  ((F_X4_within x3 (1 : Int32) (10 : Int32)).bind fun q4 =>
  if q4 = 0 then
  ((F_X4_none S (2 : Int32)).bind fun q15 =>
  some (q15.1, q15.2))
  else
  (if x1 = x2 then
  (J_X4_shift_56 S)
  else
  ((F_X2_ofShip (x_now S) x1 (1 : Int32)).bind fun q6 =>
  if x3 ≤ q6 then
  ((F_X4_beginAct S).bind fun q7 =>
  (F_X2_ofShip (x_now q7) x1 (1 : Int32)).bind fun q8 =>
  (F_X2_setShip (x_now q7) x1 (1 : Int32) (q8 - x3)).bind fun q9 =>
  nm (xs_now q7 q9 : XS) fun S10 =>
  (F_X2_ofShip (x_now S10) x2 (1 : Int32)).bind fun q11 =>
  (F_X2_setShip (x_now S10) x2 (1 : Int32) (q11 + x3)).bind fun q12 =>
  nm (xs_now S10 q12 : XS) fun S13 =>
  (F_X2_ofShip (x_now S13) x2 (1 : Int32)).bind fun q14 =>
  some (q14, S13))
  else
  (J_X4_shift_56 S)))))
def J_X4_file_28 (S : XS) : Option (Int32 × XS) :=
  (F_X4_none S (1 : Int32)).bind fun q2 =>
  some (q2.1, q2.2)
def J_X4_file_56 (S : XS) : Option (Int32 × XS) :=
  (F_X4_none S (2 : Int32)).bind fun q5 =>
  some (q5.1, q5.2)
def J_X4_file_34 (S : XS) (x1 : Int32) (x2 : Int32) (x3 : Int32) (x4 : Int32) : Option (Int32 × XS) :=
  (F_X4_within x3 (1 : Int32) (9999999 : Int32)).bind fun q4 =>
  if q4 = 0 then
  (J_X4_file_56 S)
  else
  ((F_X4_within x4 (0 : Int32) (999 : Int32)).bind fun q6 =>
  if q6 = 0 then
  (J_X4_file_56 S)
  else
  (if (t_claims (x_now S)) < (12 : Int32) then
  ((F_X4_beginAct S).bind fun q7 =>
  (F_X2_addClaim (x_now q7) x1 x2 x3 x4).bind fun q8 =>
  nm (xs_now q7 q8 : XS) fun S9 =>
  some (((t_claims (x_now S9)) - (1 : Int32)), S9))
  else
  ((F_X4_none S (3 : Int32)).bind fun q10 =>
  some (q10.1, q10.2))))
def F_X4_file (S : XS) (x1 : Int32) (x2 : Int32) (x3 : Int32) (x4 : Int32) : Option (Int32 × XS) :=
  (F_X4_hasText S).bind fun q1 =>
  if q1 = 0 then
  (J_X4_file_28 S)
  else
  ((F_X4_within x1 (0 : Int32) (2 : Int32)).bind fun q3 =>
  if q3 = 0 then
  (J_X4_file_28 S)
  else
  (if x1 = 0 then
  ((F_X4_hasShip S x2).bind fun q11 =>
  if q11 = 0 then
  (J_X4_file_28 S)
  else
  (J_X4_file_34 S x1 x2 x3 x4))
  else
  (J_X4_file_34 S x1 x2 x3 x4)))
def F_X4_withdraw (S : XS) (x1 : Int32) : Option (Int32 × XS) :=
  (F_X4_hasClaim S x1).bind fun q1 =>
  if q1 = 0 then
  ((F_X4_none S (1 : Int32)).bind fun q5 =>
  some (q5.1, q5.2))
  else
  ((F_X4_beginAct S).bind fun q2 =>
  (F_X2_dropClaim (x_now q2) x1).bind fun q3 =>
  nm (xs_now q2 q3 : XS) fun S4 =>
  some (t_claims (x_now S4), S4))
def J_X4_become_22 (S : XS) : Option (Int32 × XS) :=
  (F_X4_none S (1 : Int32)).bind fun q2 =>
  some (q2.1, q2.2)
def F_X4_become (S : XS) (x1 : Int32) (x2 : Int32) (x3 : Int32) : Option (Int32 × XS) :=
  (F_X4_hasShip S x1).bind fun q1 =>
  if q1 = 0 then
  (J_X4_become_22 S)
  else
  ((F_X4_within x2 (0 : Int32) (5 : Int32)).bind fun q3 =>
  if q3 = 0 then
  (J_X4_become_22 S)
  else
  (if x2 = (1 : Int32) then
  (J_X4_become_22 S)
  else
  ((rdI (sAf 0) x2).bind fun v4 =>
  (rdI (sAf 1) x2).bind fun v5 =>
  (F_X4_within x3 v4 v5).bind fun q6 =>
  if q6 = 0 then
  ((F_X4_none S (2 : Int32)).bind fun q11 =>
  some (q11.1, q11.2))
  else
  ((F_X4_beginAct S).bind fun q7 =>
  (F_X2_ofShip (x_now q7) x1 x2).bind fun q8 =>
  (F_X2_setShip (x_now q7) x1 x2 x3).bind fun q9 =>
  nm (xs_now q7 q9 : XS) fun S10 =>
  some (q8, S10)))))
def J_X4_law_17 (S : XS) : Option (Int32 × XS) :=
  (F_X4_none S (1 : Int32)).bind fun q2 =>
  some (q2.1, q2.2)
def J_X4_law_92 (S : XS) (x1 : Int32) (x2 : Int32) : Option (Int32 × XS) :=
  (F_X4_beginAct S).bind fun q7 =>
  (rdI (t_laws (x_now q7)) x1).bind fun v8 =>
  (wrI (t_laws (x_now q7)) x1 x2).bind fun f9 =>
  nm (xs_now q7 (ts_laws (x_now q7) f9) : XS) fun S10 =>
  some (v8, S10)
def J_X4_law_86 (S : XS) : Option (Int32 × XS) :=
  (F_X4_none S (5 : Int32)).bind fun q12 =>
  some (q12.1, q12.2)
def J_X4_law_66 (S : XS) (x1 : Int32) (x2 : Int32) : Option (Int32 × XS) :=
  if x1 = (9 : Int32) then
  ((rdI (t_laws (x_now S)) (8 : Int32)).bind fun v11 =>
  if v11 ≤ x2 then
  (J_X4_law_92 S x1 x2)
  else
  (J_X4_law_86 S))
  else
  (J_X4_law_92 S x1 x2)
def F_X4_law (S : XS) (x1 : Int32) (x2 : Int32) : Option (Int32 × XS) :=
  (F_X4_hasText S).bind fun q1 =>
  if q1 = 0 then
  (J_X4_law_17 S)
  else
  ((F_X4_within x1 (2 : Int32) (9 : Int32)).bind fun q3 =>
  if q3 = 0 then
  (J_X4_law_17 S)
  else
  ((rdI (sAf 2) x1).bind fun v4 =>
  (rdI (sAf 3) x1).bind fun v5 =>
  (F_X4_within x2 v4 v5).bind fun q6 =>
  if q6 = 0 then
  ((F_X4_none S (2 : Int32)).bind fun q14 =>
  some (q14.1, q14.2))
  else
  (if x1 = (8 : Int32) then
  ((rdI (t_laws (x_now S)) (9 : Int32)).bind fun v13 =>
  if v13 < x2 then
  (J_X4_law_86 S)
  else
  (J_X4_law_66 S x1 x2))
  else
  (J_X4_law_66 S x1 x2))))
def F_X4_undo (S : XS) : Option (Int32 × XS) :=
  (F_X4_hasText S).bind fun q1 =>
  if q1 = 0 then
  ((F_X4_none S (1 : Int32)).bind fun q10 =>
  some (q10.1, q10.2))
  else
  (if (x_undoable S) = 0 then
  ((F_X4_none S (5 : Int32)).bind fun q9 =>
  some (q9.1, q9.2))
  else
  ((F_X4_accept S).bind fun q2 =>
  (rmI (((x_nextAct q2) + (10 : Int32)) - (1 : Int32)) (10 : Int32)).bind fun v3 =>
  nm (xs_nextAct q2 v3 : XS) fun S4 =>
  nm (xs_undoable S4 ((x_undoable S4) - (1 : Int32)) : XS) fun S5 =>
  (ixB (x_nextAct S5) 10).bind fun j6 =>
  (F_X2_copyFrom (x_now S5) (x_earlier S5 j6)).bind fun q7 =>
  nm (xs_now S5 q7 : XS) fun S8 =>
  some (x_undoable S8, S8)))
def J_X4_image_16 (S : XS) : Option (Int32 × XS) :=
  (F_X4_refuse S (1 : Int32)).bind fun q2 =>
  zz q2.1 <|
  some (q2.1, q2.2)
def F_X4_image (S : XS) (x1 : Int32) : Option (Int32 × XS) :=
  (F_X4_hasText S).bind fun q1 =>
  if q1 = 0 then
  (J_X4_image_16 S)
  else
  ((F_X4_within x1 (0 : Int32) (1 : Int32)).bind fun q3 =>
  if q3 = 0 then
  (J_X4_image_16 S)
  else
  ((F_X4_accept S).bind fun q4 =>
  (ixB x1 2).bind fun j5 =>
  (F_X2_copyFrom (x_images q4 j5) (x_now q4)).bind fun q6 =>
  nm (xs_images q4 (upT (x_images q4) j5 q6) : XS) fun S7 =>
  (wrI (x_kept S7) x1 (1 : Int32)).bind fun f9 =>
  nm (xs_kept S7 f9 : XS) fun S10 =>
  some ((1 : Int32), S10)))
def J_X4_again_18 (S : XS) : Option (Int32 × XS) :=
  (F_X4_refuse S (1 : Int32)).bind fun q2 =>
  zz q2.1 <|
  some (q2.1, q2.2)
def F_X4_again (S : XS) (x1 : Int32) : Option (Int32 × XS) :=
  (F_X4_within x1 (0 : Int32) (1 : Int32)).bind fun q1 =>
  if q1 = 0 then
  (J_X4_again_18 S)
  else
  ((rdI (x_kept S) x1).bind fun v3 =>
  if v3 = 0 then
  (J_X4_again_18 S)
  else
  ((F_X4_accept S).bind fun q4 =>
  (ixB x1 2).bind fun j5 =>
  (F_X2_copyFrom (x_now q4) (x_images q4 j5)).bind fun q6 =>
  nm (xs_now q4 q6 : XS) fun S7 =>
  (F_X4_forgetActs S7).bind fun q8 =>
  some ((1 : Int32), q8)))
def F_X4_size (S : XS) : Option (Int32) :=
  some (x_tapeLength S)
def F_X4_trouble (S : XS) : Option (Int32) :=
  some (x_latestTrouble S)
def F_X5_thrown (S : MS) : Option (Int32) :=
  some (m_thrown S)
def F_X5_in (x0 : Int64) (x2 : Int64) (x4 : Int64) : Option (Int32) :=
  if (lg_cmp x0 x2) < 0 then
  (some (0 : Int32))
  else
  (if 0 < (lg_cmp x0 x4) then
  (some (0 : Int32))
  else
  (some (1 : Int32)))
def F_X5_lesser (x0 : Int64) (x2 : Int64) : Option (Int64) :=
  if 0 ≤ (lg_cmp x0 x2) then
  (some x2)
  else
  (some x0)
def F_X5_greater (x0 : Int64) (x2 : Int64) : Option (Int64) :=
  if (lg_cmp x0 x2) ≤ 0 then
  (some x2)
  else
  (some x0)
def F_X5_begins (S : MS) : Option (MS) :=
  nm (ms_thrown S (0 : Int32) : MS) fun S1 =>
  nm (ms_trouble S1 (0 : Int32) : MS) fun S2 =>
  nm (ms_place S2 (-1 : Int32) : MS) fun S3 =>
  some S3
def J_X5_refuse_16 (S : MS) : Option (Int32 × MS) :=
  if (m_trouble S) = 0 then
  (some ((0 : Int32), S))
  else
  (some ((1 : Int32), S))
def F_X5_refuse (S : MS) (x1 : Int32) (x2 : Int32) : Option (Int32 × MS) :=
  if (m_trouble S) = 0 then
  (if x1 = 0 then
  (J_X5_refuse_16 S)
  else
  (nm (ms_trouble S x2 : MS) fun S1 =>
  J_X5_refuse_16 S1))
  else
  (J_X5_refuse_16 S)
def J_X5_feed_76 (k : MS → Option (Int32 × MS)) (rc : MS → Int32 → Option (Int32 × MS)) (S : MS) (x1 : Int32) (x2 : Int32) (x3 : Int32) (x4 : Int32) (x5 : Int32) (x6 : Int32) (y0 : Int32) : Option (Int32 × MS) :=
  (rmI x6 (4 : Int32)).bind fun v2 =>
  (wrI (m_tape S) ((m_taped S) + x6) ((y0 >>> (((24 : Int32) - ((8 : Int32) * v2)) &&& 31)) &&& (255 : Int32))).bind fun f3 =>
  nm (ms_tape S f3 : MS) fun S4 =>
  nm (x6 + 1 : Int32) fun v5 =>
  rc S4 v5
def B_X5_feed_23 (x1 : Int32) (x2 : Int32) (x3 : Int32) (x4 : Int32) (x5 : Int32) (k : MS → Option (Int32 × MS)) (rc : MS → Int32 → Option (Int32 × MS)) (S : MS) (x6 : Int32) : Option (Int32 × MS) :=
  if (20 : Int32) ≤ x6 then
  (k S)
  else
  (if (4 : Int32) ≤ x6 then
  (if (8 : Int32) ≤ x6 then
  (if (12 : Int32) ≤ x6 then
  (if (16 : Int32) ≤ x6 then
  (J_X5_feed_76 k rc S x1 x2 x3 x4 x5 x6 x5)
  else
  (J_X5_feed_76 k rc S x1 x2 x3 x4 x5 x6 x4))
  else
  (J_X5_feed_76 k rc S x1 x2 x3 x4 x5 x6 x3))
  else
  (J_X5_feed_76 k rc S x1 x2 x3 x4 x5 x6 x2))
  else
  (J_X5_feed_76 k rc S x1 x2 x3 x4 x5 x6 x1))
def F_X5_feed (S : MS) (x1 : Int32) (x2 : Int32) (x3 : Int32) (x4 : Int32) (x5 : Int32) : Option (Int32 × MS) :=
  nm (ms_thrown S (0 : Int32) : MS) fun S1 =>
  if ((m_taped S1) + (20 : Int32)) ≤ (600 : Int32) then
  (lo2 (B_X5_feed_23 x1 x2 x3 x4 x5 (fun S6 => nm (ms_taped S6 ((m_taped S6) + (20 : Int32)) : MS) fun S7 =>
  some (m_taped S7, S7))) FU S1 (0 : Int32))
  else
  (some ((-1 : Int32), S1))
def F_X5_size (S : MS) : Option (Int32 × MS) :=
  nm (ms_thrown S (0 : Int32) : MS) fun S1 =>
  some (m_taped S1, S1)
def F_X5_seen (S : MS) (x1 : Int32) : Option (Int32) :=
  if (m_length S) ≤ x1 then
  (some (-1 : Int32))
  else
  ((rdI (m_tape S) x1).bind fun v1 =>
  some v1)
def F_X5_isLetter (x0 : Int32) : Option (Int32) :=
  if x0 < (97 : Int32) then
  (some (0 : Int32))
  else
  (if (122 : Int32) < x0 then
  (some (0 : Int32))
  else
  (some (1 : Int32)))
def F_X5_isDigit (x0 : Int32) : Option (Int32) :=
  if x0 < (48 : Int32) then
  (some (0 : Int32))
  else
  (if (57 : Int32) < x0 then
  (some (0 : Int32))
  else
  (some (1 : Int32)))
def B_X5_token_0 (k : MS → Option (MS)) (rc : MS → Option (MS)) (S : MS) : Option (MS) :=
  (F_X5_seen S (m_next S)).bind fun q1 =>
  if q1 = (32 : Int32) then
  (nm (ms_next S ((m_next S) + (1 : Int32)) : MS) fun S2 =>
  rc S2)
  else
  (k S)
def J_X5_token_288 (S : MS) (y0 : Int32) : Option (MS) :=
  nm (ms_sort S y0 : MS) fun S9 =>
  nm (ms_next S9 ((m_next S9) + (1 : Int32)) : MS) fun S10 =>
  some S10
def J_X5_token_229 (k : MS → Option (MS)) (rc : MS → Option (MS)) (S : MS) (y0 : Int32) : Option (MS) :=
  nm (ms_number S y0 : MS) fun S14 =>
  nm (ms_next S14 ((m_next S14) + (1 : Int32)) : MS) fun S15 =>
  nm (ms_many S15 ((m_many S15) + (1 : Int32)) : MS) fun S16 =>
  rc S16
def B_X5_token_182 (k : MS → Option (MS)) (rc : MS → Option (MS)) (S : MS) : Option (MS) :=
  (F_X5_seen S (m_next S)).bind fun q12 =>
  (F_X5_isDigit q12).bind fun q13 =>
  if q13 = 0 then
  (k S)
  else
  (if (7 : Int32) ≤ (m_many S) then
  (J_X5_token_229 k rc S (0 : Int32))
  else
  ((F_X5_seen S (m_next S)).bind fun q17 =>
  J_X5_token_229 k rc S ((((10 : Int32) * (m_number S)) + q17) - (48 : Int32))))
def J_X5_token_270 (S : MS) (y0 : Int32) : Option (MS) :=
  nm (ms_sort S y0 : MS) fun S19 =>
  some S19
def J_X5_token_123 (k : MS → Option (MS)) (rc : MS → Option (MS)) (S : MS) (y0 : Int64) : Option (MS) :=
  nm (ms_word S y0 : MS) fun S23 =>
  nm (ms_next S23 ((m_next S23) + (1 : Int32)) : MS) fun S24 =>
  nm (ms_many S24 ((m_many S24) + (1 : Int32)) : MS) fun S25 =>
  rc S25
def B_X5_token_73 (k : MS → Option (MS)) (rc : MS → Option (MS)) (S : MS) : Option (MS) :=
  (F_X5_seen S (m_next S)).bind fun q21 =>
  (F_X5_isLetter q21).bind fun q22 =>
  if q22 = 0 then
  (k S)
  else
  (if (7 : Int32) ≤ (m_many S) then
  (J_X5_token_123 k rc S (0 : Int64))
  else
  ((F_X5_seen S (m_next S)).bind fun q26 =>
  J_X5_token_123 k rc S ((((32 : Int64) * (m_word S)) + q26.toInt64) - (96 : Int64))))
def J_X5_token_164 (S : MS) (y0 : Int32) : Option (MS) :=
  nm (ms_sort S y0 : MS) fun S28 =>
  some S28
def F_X5_token (S : MS) : Option (MS) :=
  lo1 (B_X5_token_0 (fun S3 => nm (ms_from S3 (m_next S3) : MS) fun S4 =>
  nm (ms_many S4 (0 : Int32) : MS) fun S5 =>
  (F_X5_seen S5 (m_next S5)).bind fun q6 =>
  if q6 = (-1 : Int32) then
  (nm (ms_sort S5 (0 : Int32) : MS) fun S29 =>
  some S29)
  else
  ((F_X5_isLetter q6).bind fun q7 =>
  if q7 = 0 then
  ((F_X5_isDigit q6).bind fun q8 =>
  if q8 = 0 then
  (if q6 = (59 : Int32) then
  (J_X5_token_288 S5 (3 : Int32))
  else
  (J_X5_token_288 S5 (4 : Int32)))
  else
  (nm (ms_number S5 (0 : Int32) : MS) fun S11 =>
  lo1 (B_X5_token_182 (fun S18 => if (m_many S18) ≤ (7 : Int32) then
  (J_X5_token_270 S18 (2 : Int32))
  else
  (J_X5_token_270 S18 (4 : Int32)))) FU S11))
  else
  (nm (ms_word S5 (0 : Int64) : MS) fun S20 =>
  lo1 (B_X5_token_73 (fun S27 => if (m_many S27) ≤ (7 : Int32) then
  (J_X5_token_164 S27 (1 : Int32))
  else
  (J_X5_token_164 S27 (4 : Int32)))) FU S20)))) FU S
def F_X5_fails (S : MS) (x1 : Int32) : Option (MS) :=
  if (m_wrong S) = 0 then
  (nm (ms_wrong S x1 : MS) fun S1 =>
  nm (ms_wrongAt S1 (m_from S1) : MS) fun S2 =>
  some S2)
  else
  (some S)
def F_X5_goesOn (S : MS) : Option (MS) :=
  if (m_wrong S) = 0 then
  ((F_X5_token S).bind fun q1 =>
  some q1)
  else
  (some S)
def J_X5_spelled_88 (x6 : Int32) (y0 : Int64) : Option (Int64) :=
  if x6 = 0 then
  (some y0)
  else
  (some (((32 : Int64) * y0) + x6.toInt64))
def J_X5_spelled_66 (x5 : Int32) (x6 : Int32) (y0 : Int64) : Option (Int64) :=
  if x5 = 0 then
  (J_X5_spelled_88 x6 y0)
  else
  (J_X5_spelled_88 x6 (((32 : Int64) * y0) + x5.toInt64))
def J_X5_spelled_44 (x4 : Int32) (x5 : Int32) (x6 : Int32) (y0 : Int64) : Option (Int64) :=
  if x4 = 0 then
  (J_X5_spelled_66 x5 x6 y0)
  else
  (J_X5_spelled_66 x5 x6 (((32 : Int64) * y0) + x4.toInt64))
def F_X5_spelled (x0 : Int32) (x1 : Int32) (x2 : Int32) (x3 : Int32) (x4 : Int32) (x5 : Int32) (x6 : Int32) : Option (Int64) :=
  nm (x0.toInt64 : Int64) fun v1 =>
  nm ((((32 : Int64) * v1) + x1.toInt64) : Int64) fun v2 =>
  nm ((((32 : Int64) * v2) + x2.toInt64) : Int64) fun v3 =>
  if x3 = 0 then
  (J_X5_spelled_44 x4 x5 x6 v3)
  else
  (J_X5_spelled_44 x4 x5 x6 (((32 : Int64) * v3) + x3.toInt64))
def F_X5_isWord (S : MS) (x1 : Int64) : Option (Int32) :=
  if (m_wrong S) = 0 then
  (if (m_sort S) = (1 : Int32) then
  (if (lg_cmp (m_word S) x1) = 0 then
  (some (1 : Int32))
  else
  (some (0 : Int32)))
  else
  (some (0 : Int32)))
  else
  (some (0 : Int32))
def F_X5_shipWord : Option (Int64) :=
  (F_X5_spelled (19 : Int32) (8 : Int32) (9 : Int32) (16 : Int32) (0 : Int32) (0 : Int32) (0 : Int32)).bind fun q1 =>
  some q1
def F_X5_tonsWord : Option (Int64) :=
  (F_X5_spelled (20 : Int32) (15 : Int32) (14 : Int32) (19 : Int32) (0 : Int32) (0 : Int32) (0 : Int32)).bind fun q1 =>
  some q1
def F_X5_faultWord : Option (Int64) :=
  (F_X5_spelled (6 : Int32) (1 : Int32) (21 : Int32) (12 : Int32) (20 : Int32) (0 : Int32) (0 : Int32)).bind fun q1 =>
  some q1
def F_X5_hullWord : Option (Int64) :=
  (F_X5_spelled (8 : Int32) (21 : Int32) (12 : Int32) (12 : Int32) (0 : Int32) (0 : Int32) (0 : Int32)).bind fun q1 =>
  some q1
def F_X5_valueWord : Option (Int64) :=
  (F_X5_spelled (22 : Int32) (1 : Int32) (12 : Int32) (21 : Int32) (5 : Int32) (0 : Int32) (0 : Int32)).bind fun q1 =>
  some q1
def F_X5_clauseWord : Option (Int64) :=
  (F_X5_spelled (3 : Int32) (12 : Int32) (1 : Int32) (21 : Int32) (19 : Int32) (5 : Int32) (0 : Int32)).bind fun q1 =>
  some q1
def F_X5_barredWord : Option (Int64) :=
  (F_X5_spelled (2 : Int32) (1 : Int32) (18 : Int32) (18 : Int32) (5 : Int32) (4 : Int32) (0 : Int32)).bind fun q1 =>
  some q1
def F_X5_goodsWord : Option (Int64) :=
  (F_X5_spelled (7 : Int32) (15 : Int32) (15 : Int32) (4 : Int32) (19 : Int32) (0 : Int32) (0 : Int32)).bind fun q1 =>
  some q1
def F_X5_personsWord : Option (Int64) :=
  (F_X5_spelled (16 : Int32) (5 : Int32) (18 : Int32) (19 : Int32) (15 : Int32) (14 : Int32) (19 : Int32)).bind fun q1 =>
  some q1
def F_X5_othersWord : Option (Int64) :=
  (F_X5_spelled (15 : Int32) (20 : Int32) (8 : Int32) (5 : Int32) (18 : Int32) (19 : Int32) (0 : Int32)).bind fun q1 =>
  some q1
def F_X5_dayWord : Option (Int64) :=
  (F_X5_spelled (4 : Int32) (1 : Int32) (25 : Int32) (0 : Int32) (0 : Int32) (0 : Int32) (0 : Int32)).bind fun q1 =>
  some q1
def F_X5_aboutWord (x0 : Int32) : Option (Int64) :=
  if x0 = (2 : Int32) then
  ((F_X5_spelled (5 : Int32) (17 : Int32) (21 : Int32) (1 : Int32) (12 : Int32) (0 : Int32) (0 : Int32)).bind fun q2 =>
  some q2)
  else
  if x0 = (3 : Int32) then
  ((F_X5_spelled (23 : Int32) (8 : Int32) (15 : Int32) (12 : Int32) (5 : Int32) (0 : Int32) (0 : Int32)).bind fun q3 =>
  some q3)
  else
  if x0 = (4 : Int32) then
  ((F_X5_spelled (3 : Int32) (18 : Int32) (15 : Int32) (19 : Int32) (19 : Int32) (0 : Int32) (0 : Int32)).bind fun q4 =>
  some q4)
  else
  if x0 = (5 : Int32) then
  ((F_X5_spelled (18 : Int32) (1 : Int32) (20 : Int32) (5 : Int32) (0 : Int32) (0 : Int32) (0 : Int32)).bind fun q5 =>
  some q5)
  else
  if x0 = (6 : Int32) then
  ((F_X5_spelled (12 : Int32) (9 : Int32) (22 : Int32) (5 : Int32) (19 : Int32) (0 : Int32) (0 : Int32)).bind fun q6 =>
  some q6)
  else
  if x0 = (7 : Int32) then
  ((F_X5_spelled (12 : Int32) (5 : Int32) (1 : Int32) (19 : Int32) (20 : Int32) (0 : Int32) (0 : Int32)).bind fun q7 =>
  some q7)
  else
  if x0 = (8 : Int32) then
  ((F_X5_spelled (4 : Int32) (21 : Int32) (5 : Int32) (0 : Int32) (0 : Int32) (0 : Int32) (0 : Int32)).bind fun q8 =>
  some q8)
  else
  ((F_X5_spelled (12 : Int32) (1 : Int32) (19 : Int32) (20 : Int32) (0 : Int32) (0 : Int32) (0 : Int32)).bind fun q9 =>
  some q9)
def B_X5_aboutHere_2 (S : MS) (k : Unit → Option (Int32)) (rc : Int32 → Option (Int32)) (x1 : Int32) : Option (Int32) :=
  if (9 : Int32) < x1 then
  (k ())
  else
  ((F_X5_aboutWord x1).bind fun q1 =>
  (F_X5_isWord S q1).bind fun q2 =>
  if q2 = 0 then
  (nm (x1 + 1 : Int32) fun v3 =>
  rc v3)
  else
  (some x1))
def F_X5_aboutHere (S : MS) : Option (Int32) :=
  lo1 (B_X5_aboutHere_2 S (fun _u => some (-1 : Int32))) FU (2 : Int32)
def F_X5_isName (S : MS) : Option (Int32) :=
  if (m_wrong S) = 0 then
  (if (m_sort S) = (1 : Int32) then
  (if (6 : Int32) < (m_many S) then
  (some (0 : Int32))
  else
  ((F_X5_aboutHere S).bind fun q1 =>
  if q1 = (-1 : Int32) then
  ((F_X5_shipWord).bind fun q2 =>
  (F_X5_isWord S q2).bind fun q3 =>
  if q3 = 0 then
  ((F_X5_tonsWord).bind fun q4 =>
  (F_X5_isWord S q4).bind fun q5 =>
  if q5 = 0 then
  ((F_X5_faultWord).bind fun q6 =>
  (F_X5_isWord S q6).bind fun q7 =>
  if q7 = 0 then
  ((F_X5_hullWord).bind fun q8 =>
  (F_X5_isWord S q8).bind fun q9 =>
  if q9 = 0 then
  ((F_X5_valueWord).bind fun q10 =>
  (F_X5_isWord S q10).bind fun q11 =>
  if q11 = 0 then
  ((F_X5_clauseWord).bind fun q12 =>
  (F_X5_isWord S q12).bind fun q13 =>
  if q13 = 0 then
  ((F_X5_barredWord).bind fun q14 =>
  (F_X5_isWord S q14).bind fun q15 =>
  if q15 = 0 then
  ((F_X5_goodsWord).bind fun q16 =>
  (F_X5_isWord S q16).bind fun q17 =>
  if q17 = 0 then
  ((F_X5_othersWord).bind fun q18 =>
  (F_X5_isWord S q18).bind fun q19 =>
  if q19 = 0 then
  ((F_X5_dayWord).bind fun q20 =>
  (F_X5_isWord S q20).bind fun q21 =>
  if q21 = 0 then
  (some (1 : Int32))
  else
  (some (0 : Int32)))
  else
  (some (0 : Int32)))
  else
  (some (0 : Int32)))
  else
  (some (0 : Int32)))
  else
  (some (0 : Int32)))
  else
  (some (0 : Int32)))
  else
  (some (0 : Int32)))
  else
  (some (0 : Int32)))
  else
  (some (0 : Int32)))
  else
  (some (0 : Int32)))
  else
  (some (0 : Int32))))
  else
  (some (0 : Int32)))
  else
  (some (0 : Int32))
def B_X5_shipNamed_2 (S : MS) (k : Unit → Option (Int32)) (rc : Int32 → Option (Int32)) (x1 : Int32) : Option (Int32) :=
  (rdI (m_read S) (0 : Int32)).bind fun v1 =>
  if v1 ≤ x1 then
  (k ())
  else
  ((rdL (m_readNames S) x1).bind fun v2 =>
  if (lg_cmp v2 (m_word S)) = 0 then
  (some x1)
  else
  (nm (x1 + 1 : Int32) fun v3 =>
  rc v3))
def F_X5_shipNamed (S : MS) : Option (Int32) :=
  lo1 (B_X5_shipNamed_2 S (fun _u => some (-1 : Int32))) FU (0 : Int32)
def J_X5_takes_13 (S : MS) : Option (MS) :=
  (F_X5_goesOn S).bind fun q2 =>
  some q2
def F_X5_takes (S : MS) (x1 : Int64) : Option (MS) :=
  (F_X5_isWord S x1).bind fun q1 =>
  if q1 = 0 then
  ((F_X5_fails S (1 : Int32)).bind fun q3 =>
  J_X5_takes_13 q3)
  else
  (J_X5_takes_13 S)
def J_X5_whole_36 (S : MS) : Option (Int32 × MS) :=
  nm (m_number S : Int32) fun v2 =>
  (F_X5_goesOn S).bind fun q3 =>
  some (v2, q3)
def F_X5_whole (S : MS) (x1 : Int32) (x2 : Int32) : Option (Int32 × MS) :=
  if (m_sort S) = (2 : Int32) then
  ((F_X5_in ((m_number S).toInt64) x1.toInt64 x2.toInt64).bind fun q1 =>
  if q1 = 0 then
  ((F_X5_fails S (2 : Int32)).bind fun q4 =>
  J_X5_whole_36 q4)
  else
  (J_X5_whole_36 S))
  else
  ((F_X5_fails S (1 : Int32)).bind fun q5 =>
  J_X5_whole_36 q5)
def J_X5_shipLine_245 (S : MS) : Option (MS) :=
  (rdI (m_read S) (0 : Int32)).bind fun v39 =>
  (wrI (m_read S) (0 : Int32) (v39 + (1 : Int32))).bind fun f40 =>
  nm (ms_read S f40 : MS) fun S41 =>
  some S41
def J_X5_shipLine_228 (S : MS) (x2 : Int32) (y0 : Int32) (y1 : Int32) : Option (MS) :=
  (wrI (m_read S) y1 y0).bind fun f36 =>
  nm (ms_read S f36 : MS) fun S37 =>
  (rdI (m_read S37) (x2 + (5 : Int32))).bind fun v38 =>
  if v38 = (1 : Int32) then
  ((F_X5_token S37).bind fun q42 =>
  J_X5_shipLine_245 q42)
  else
  (J_X5_shipLine_245 S37)
def J_X5_shipLine_206 (S : MS) (x2 : Int32) : Option (MS) :=
  (F_X5_barredWord).bind fun q34 =>
  (F_X5_isWord S q34).bind fun q35 =>
  if q35 = 0 then
  (J_X5_shipLine_228 S x2 (0 : Int32) (x2 + (5 : Int32)))
  else
  (J_X5_shipLine_228 S x2 (1 : Int32) (x2 + (5 : Int32)))
def J_X5_shipLine_189 (S : MS) (x2 : Int32) (y0 : Int32) (y1 : Int32) : Option (MS) :=
  (wrI (m_read S) y1 y0).bind fun f31 =>
  nm (ms_read S f31 : MS) fun S32 =>
  (rdI (m_read S32) (x2 + (4 : Int32))).bind fun v33 =>
  if v33 = (1 : Int32) then
  ((F_X5_token S32).bind fun q43 =>
  J_X5_shipLine_206 q43 x2)
  else
  (J_X5_shipLine_206 S32 x2)
def J_X5_shipLine_49 (S : MS) (x1 : Int32) : Option (MS) :=
  if (m_wrong S) = 0 then
  ((wrL (m_readNames S) x1 (m_word S)).bind fun f5 =>
  nm (ms_readNames S f5 : MS) fun S6 =>
  nm (((10 : Int32) + ((6 : Int32) * x1)) : Int32) fun v7 =>
  (F_X5_token S6).bind fun q8 =>
  (F_X5_tonsWord).bind fun q9 =>
  (F_X5_takes q8 q9).bind fun q10 =>
  (F_X5_whole q10 (1 : Int32) (99999 : Int32)).bind fun q11 =>
  (wrI (m_read q11.2) (v7 + (0 : Int32)) q11.1).bind fun f12 =>
  nm (ms_read q11.2 f12 : MS) fun S13 =>
  (F_X5_faultWord).bind fun q14 =>
  (F_X5_takes S13 q14).bind fun q15 =>
  (F_X5_whole q15 (0 : Int32) (10 : Int32)).bind fun q16 =>
  (wrI (m_read q16.2) (v7 + (1 : Int32)) q16.1).bind fun f17 =>
  nm (ms_read q16.2 f17 : MS) fun S18 =>
  (F_X5_hullWord).bind fun q19 =>
  (F_X5_takes S18 q19).bind fun q20 =>
  (F_X5_whole q20 (0 : Int32) (9999999 : Int32)).bind fun q21 =>
  (wrI (m_read q21.2) (v7 + (2 : Int32)) q21.1).bind fun f22 =>
  nm (ms_read q21.2 f22 : MS) fun S23 =>
  (F_X5_valueWord).bind fun q24 =>
  (F_X5_takes S23 q24).bind fun q25 =>
  (F_X5_whole q25 (0 : Int32) (9999999 : Int32)).bind fun q26 =>
  (wrI (m_read q26.2) (v7 + (3 : Int32)) q26.1).bind fun f27 =>
  nm (ms_read q26.2 f27 : MS) fun S28 =>
  (F_X5_clauseWord).bind fun q29 =>
  (F_X5_isWord S28 q29).bind fun q30 =>
  if q30 = 0 then
  (J_X5_shipLine_189 S28 v7 (0 : Int32) (v7 + (4 : Int32)))
  else
  (J_X5_shipLine_189 S28 v7 (1 : Int32) (v7 + (4 : Int32))))
  else
  (some S)
def J_X5_shipLine_17 (S : MS) (x1 : Int32) : Option (MS) :=
  (F_X5_goesOn S).bind fun q2 =>
  (F_X5_isName q2).bind fun q3 =>
  if q3 = 0 then
  ((F_X5_fails q2 (1 : Int32)).bind fun q45 =>
  J_X5_shipLine_49 q45 x1)
  else
  ((F_X5_shipNamed q2).bind fun q4 =>
  if q4 = (-1 : Int32) then
  (J_X5_shipLine_49 q2 x1)
  else
  ((F_X5_fails q2 (3 : Int32)).bind fun q44 =>
  J_X5_shipLine_49 q44 x1))
def F_X5_shipLine (S : MS) : Option (MS) :=
  (rdI (m_read S) (0 : Int32)).bind fun v1 =>
  if v1 = (4 : Int32) then
  ((F_X5_fails S (4 : Int32)).bind fun q46 =>
  J_X5_shipLine_17 q46 v1)
  else
  (J_X5_shipLine_17 S v1)
def J_X5_claimLine_104 (S : MS) (x3 : Int32) : Option (MS) :=
  (F_X5_whole S (1 : Int32) (9999999 : Int32)).bind fun q8 =>
  (wrI (m_read q8.2) (x3 + (2 : Int32)) q8.1).bind fun f9 =>
  nm (ms_read q8.2 f9 : MS) fun S10 =>
  (F_X5_dayWord).bind fun q11 =>
  (F_X5_takes S10 q11).bind fun q12 =>
  (F_X5_whole q12 (0 : Int32) (999 : Int32)).bind fun q13 =>
  (wrI (m_read q13.2) (x3 + (3 : Int32)) q13.1).bind fun f14 =>
  nm (ms_read q13.2 f14 : MS) fun S15 =>
  (rdI (m_read S15) (1 : Int32)).bind fun v16 =>
  (wrI (m_read S15) (1 : Int32) (v16 + (1 : Int32))).bind fun f17 =>
  nm (ms_read S15 f17 : MS) fun S18 =>
  some S18
def J_X5_claimLine_88 (S : MS) (x3 : Int32) : Option (MS) :=
  (F_X5_shipNamed S).bind fun q21 =>
  (wrI (m_read S) (x3 + (1 : Int32)) q21).bind fun f22 =>
  nm (ms_read S f22 : MS) fun S23 =>
  (F_X5_goesOn S23).bind fun q24 =>
  J_X5_claimLine_104 q24 x3
def J_X5_claimLine_18 (S : MS) (x1 : Int32) (x2 : Int32) : Option (MS) :=
  (F_X5_goesOn S).bind fun q2 =>
  if (m_wrong q2) = 0 then
  (nm (((34 : Int32) + ((4 : Int32) * x2)) : Int32) fun v3 =>
  (wrI (m_read q2) (v3 + (0 : Int32)) x1).bind fun f4 =>
  nm (ms_read q2 f4 : MS) fun S5 =>
  (wrI (m_read S5) (v3 + (1 : Int32)) (-2 : Int32)).bind fun f6 =>
  nm (ms_read S5 f6 : MS) fun S7 =>
  if x1 = 0 then
  ((F_X5_isName S7).bind fun q19 =>
  if q19 = 0 then
  ((F_X5_fails S7 (1 : Int32)).bind fun q26 =>
  J_X5_claimLine_88 q26 v3)
  else
  ((F_X5_shipNamed S7).bind fun q20 =>
  if q20 = (-1 : Int32) then
  ((F_X5_fails S7 (3 : Int32)).bind fun q25 =>
  J_X5_claimLine_88 q25 v3)
  else
  (J_X5_claimLine_88 S7 v3)))
  else
  (J_X5_claimLine_104 S7 v3))
  else
  (some q2)
def F_X5_claimLine (S : MS) (x1 : Int32) : Option (MS) :=
  (rdI (m_read S) (1 : Int32)).bind fun v1 =>
  if v1 = (12 : Int32) then
  ((F_X5_fails S (4 : Int32)).bind fun q27 =>
  J_X5_claimLine_18 q27 x1 v1)
  else
  (J_X5_claimLine_18 S x1 v1)
def F_X5_lowOf (x0 : Int32) : Option (Int32) :=
  if x0 = (7 : Int32) then
  (some (1 : Int32))
  else
  (some (0 : Int32))
def F_X5_highOf (x0 : Int32) : Option (Int32) :=
  if (5 : Int32) ≤ x0 then
  (if (8 : Int32) ≤ x0 then
  (some (999 : Int32))
  else
  (some (99999 : Int32)))
  else
  (some (1 : Int32))
def J_X5_aboutLine_67 (S : MS) (y0 : Int32) (y1 : Int32) : Option (MS) :=
  (wrI (m_read S) y1 y0).bind fun f6 =>
  nm (ms_read S f6 : MS) fun S7 =>
  some S7
def J_X5_aboutLine_17 (S : MS) (x1 : Int32) : Option (MS) :=
  nm (ms_toldOnce S ((m_toldOnce S) ||| ((1 : Int32) <<< (x1 &&& 31))) : MS) fun S1 =>
  (F_X5_goesOn S1).bind fun q2 =>
  if (m_wrong q2) = 0 then
  (if (5 : Int32) ≤ x1 then
  ((F_X5_lowOf x1).bind fun q3 =>
  (F_X5_highOf x1).bind fun q4 =>
  (F_X5_whole q2 q3 q4).bind fun q5 =>
  J_X5_aboutLine_67 q5.2 q5.1 x1)
  else
  (J_X5_aboutLine_67 q2 (1 : Int32) x1))
  else
  (some q2)
def F_X5_aboutLine (S : MS) (x1 : Int32) : Option (MS) :=
  if (((m_toldOnce S) >>> (x1 &&& 31)) &&& (1 : Int32)) = (1 : Int32) then
  ((F_X5_fails S (3 : Int32)).bind fun q8 =>
  J_X5_aboutLine_17 q8 x1)
  else
  (J_X5_aboutLine_17 S x1)
def F_X5_line (S : MS) : Option (MS) :=
  (F_X5_aboutHere S).bind fun q1 =>
  (F_X5_shipWord).bind fun q2 =>
  (F_X5_isWord S q2).bind fun q3 =>
  if q3 = 0 then
  ((F_X5_goodsWord).bind fun q4 =>
  (F_X5_isWord S q4).bind fun q5 =>
  if q5 = 0 then
  ((F_X5_personsWord).bind fun q6 =>
  (F_X5_isWord S q6).bind fun q7 =>
  if q7 = 0 then
  ((F_X5_othersWord).bind fun q8 =>
  (F_X5_isWord S q8).bind fun q9 =>
  if q9 = 0 then
  (if q1 = (-1 : Int32) then
  ((F_X5_fails S (1 : Int32)).bind fun q10 =>
  some q10)
  else
  ((F_X5_aboutLine S q1).bind fun q11 =>
  some q11))
  else
  ((F_X5_claimLine S (2 : Int32)).bind fun q12 =>
  some q12))
  else
  ((F_X5_claimLine S (1 : Int32)).bind fun q13 =>
  some q13))
  else
  ((F_X5_claimLine S (0 : Int32)).bind fun q14 =>
  some q14))
  else
  ((F_X5_shipLine S).bind fun q15 =>
  some q15)
def B_X5_plain_2 (k : MS → Option (MS)) (rc : MS → Int32 → Option (MS)) (S : MS) (x1 : Int32) : Option (MS) :=
  if (82 : Int32) ≤ x1 then
  (k S)
  else
  ((wrI (m_read S) x1 (0 : Int32)).bind fun f1 =>
  nm (ms_read S f1 : MS) fun S2 =>
  nm (x1 + 1 : Int32) fun v3 =>
  rc S2 v3)
def F_X5_plain (S : MS) : Option (MS) :=
  lo2 (B_X5_plain_2 (fun S4 => (wrI (m_read S4) (5 : Int32) (100 : Int32)).bind fun f5 =>
  nm (ms_read S4 f5 : MS) fun S6 =>
  (wrI (m_read S6) (6 : Int32) (200 : Int32)).bind fun f7 =>
  nm (ms_read S6 f7 : MS) fun S8 =>
  (wrI (m_read S8) (7 : Int32) (300 : Int32)).bind fun f9 =>
  nm (ms_read S8 f9 : MS) fun S10 =>
  (wrI (m_read S10) (8 : Int32) (365 : Int32)).bind fun f11 =>
  nm (ms_read S10 f11 : MS) fun S12 =>
  (wrI (m_read S12) (9 : Int32) (730 : Int32)).bind fun f13 =>
  nm (ms_read S12 f13 : MS) fun S14 =>
  nm (ms_toldOnce S14 (0 : Int32) : MS) fun S15 =>
  some S15)) FU S (0 : Int32)
def B_X5_tenths_4 (S : MS) (k : Int32 → Option (Int32)) (rc : Int32 → Int32 → Option (Int32)) (x1 : Int32) (x2 : Int32) : Option (Int32) :=
  (rdI (m_read S) (0 : Int32)).bind fun v1 =>
  if v1 ≤ x2 then
  (k x1)
  else
  ((rdI (m_read S) (((10 : Int32) + ((6 : Int32) * x2)) + (1 : Int32))).bind fun v2 =>
  nm ((x1 + v2) : Int32) fun v3 =>
  nm (x2 + 1 : Int32) fun v4 =>
  rc v3 v4)
def F_X5_tenths (S : MS) : Option (Int32) :=
  lo2 (B_X5_tenths_4 S (fun z5 => some z5)) FU (0 : Int32) (0 : Int32)
def J_X5_reads_65 (k : MS → Option (MS)) (rc : MS → Int32 → Option (MS)) (S : MS) (y0 : Int32) : Option (MS) :=
  if y0 = 0 then
  (rc S y0)
  else
  ((F_X5_token S).bind fun q8 =>
  rc q8 y0)
def J_X5_reads_64 (k : MS → Option (MS)) (rc : MS → Int32 → Option (MS)) (S : MS) : Option (MS) :=
  J_X5_reads_65 k rc S (0 : Int32)
def B_X5_reads_30 (k : MS → Option (MS)) (rc : MS → Int32 → Option (MS)) (S : MS) (x2 : Int32) : Option (MS) :=
  if x2 = 0 then
  (k S)
  else
  (if (m_wrong S) = 0 then
  ((F_X5_line S).bind fun q7 =>
  if (m_wrong q7) = 0 then
  (if (m_sort q7) = (3 : Int32) then
  (J_X5_reads_65 k rc q7 (1 : Int32))
  else
  (J_X5_reads_64 k rc q7))
  else
  (J_X5_reads_64 k rc q7))
  else
  (k S))
def J_X5_reads_125 (S : MS) : Option (MS) :=
  (F_X5_fails S (5 : Int32)).bind fun q11 =>
  some q11
def J_X5_reads_89 (S : MS) : Option (MS) :=
  (rdI (m_read S) (0 : Int32)).bind fun v10 =>
  if v10 < (2 : Int32) then
  (J_X5_reads_125 S)
  else
  ((F_X5_tenths S).bind fun q12 =>
  if q12 = (10 : Int32) then
  ((rdI (m_read S) (9 : Int32)).bind fun v13 =>
  (rdI (m_read S) (8 : Int32)).bind fun v14 =>
  if v14 ≤ v13 then
  (some S)
  else
  (J_X5_reads_125 S))
  else
  (J_X5_reads_125 S))
def J_X5_reads_77 (S : MS) : Option (MS) :=
  if (m_sort S) = 0 then
  (J_X5_reads_89 S)
  else
  ((F_X5_fails S (1 : Int32)).bind fun q15 =>
  J_X5_reads_89 q15)
def F_X5_reads (S : MS) (x1 : Int32) : Option (MS) :=
  nm (ms_length S x1 : MS) fun S1 =>
  nm (ms_next S1 (0 : Int32) : MS) fun S2 =>
  nm (ms_wrong S2 (0 : Int32) : MS) fun S3 =>
  nm (ms_wrongAt S3 (-1 : Int32) : MS) fun S4 =>
  (F_X5_plain S4).bind fun q5 =>
  (F_X5_token q5).bind fun q6 =>
  lo2 (B_X5_reads_30 (fun S9 => J_X5_reads_77 S9)) FU q6 (1 : Int32)
def B_X5_text_83 (k : MS → Option (Int32 × MS)) (rc : MS → Int32 → Option (Int32 × MS)) (S : MS) (x2 : Int32) : Option (Int32 × MS) :=
  if (82 : Int32) ≤ x2 then
  (k S)
  else
  ((rdI (m_read S) x2).bind fun v8 =>
  (wrI (m_s S) x2 v8).bind fun f9 =>
  nm (ms_s S f9 : MS) fun S10 =>
  nm (x2 + 1 : Int32) fun v11 =>
  rc S10 v11)
def B_X5_text_109 (k : MS → Option (Int32 × MS)) (rc : MS → Int32 → Option (Int32 × MS)) (S : MS) (x2 : Int32) : Option (Int32 × MS) :=
  if (4 : Int32) ≤ x2 then
  (k S)
  else
  ((rdL (m_readNames S) x2).bind fun v13 =>
  (wrL (m_names S) x2 v13).bind fun f14 =>
  nm (ms_names S f14 : MS) fun S15 =>
  nm (x2 + 1 : Int32) fun v16 =>
  rc S15 v16)
def J_X5_text_64 (S : MS) (y0 : Int32) : Option (Int32 × MS) :=
  (F_X5_refuse S y0 (4 : Int32)).bind fun q7 =>
  if q7.1 = 0 then
  (lo2 (B_X5_text_83 (fun S12 => lo2 (B_X5_text_109 (fun S17 => nm (ms_told S17 (1 : Int32) : MS) fun S18 =>
  nm (ms_acts S18 (0 : Int32) : MS) fun S19 =>
  (wrI (m_isKept S19) (0 : Int32) (0 : Int32)).bind fun f20 =>
  nm (ms_isKept S19 f20 : MS) fun S21 =>
  (wrI (m_isKept S21) (1 : Int32) (0 : Int32)).bind fun f22 =>
  nm (ms_isKept S21 f22 : MS) fun S23 =>
  (rdI (m_s S23) (0 : Int32)).bind fun v24 =>
  some (v24, S23))) FU S12 (0 : Int32))) FU q7.2 (0 : Int32))
  else
  (nm (ms_place q7.2 (m_wrongAt q7.2) : MS) fun S25 =>
  some ((-1 : Int32), S25))
def J_X5_text_24 (S : MS) (x1 : Int32) (y0 : Int32) : Option (Int32 × MS) :=
  (F_X5_refuse S y0 (2 : Int32)).bind fun q3 =>
  if q3.1 = 0 then
  (nm (ms_taped q3.2 (0 : Int32) : MS) fun S4 =>
  (F_X5_reads S4 x1).bind fun q5 =>
  nm (ms_fault q5 (m_wrong q5) : MS) fun S6 =>
  if (m_wrong S6) = 0 then
  (J_X5_text_64 S6 (0 : Int32))
  else
  (J_X5_text_64 S6 (1 : Int32)))
  else
  (some ((-1 : Int32), q3.2))
def F_X5_text (S : MS) (x1 : Int32) : Option (Int32 × MS) :=
  (F_X5_begins S).bind fun q1 =>
  (F_X5_in x1.toInt64 (0 : Int64) ((m_taped q1).toInt64)).bind fun q2 =>
  if q2 = 0 then
  (J_X5_text_24 q1 x1 (1 : Int32))
  else
  (J_X5_text_24 q1 x1 (0 : Int32))
def F_X5_fault (S : MS) : Option (Int32 × MS) :=
  nm (ms_thrown S (0 : Int32) : MS) fun S1 =>
  some (m_fault S1, S1)
def F_X5_where (S : MS) : Option (Int32 × MS) :=
  nm (ms_thrown S (0 : Int32) : MS) fun S1 =>
  some (m_place S1, S1)
def F_X5_trouble (S : MS) : Option (Int32 × MS) :=
  nm (ms_thrown S (0 : Int32) : MS) fun S1 =>
  some (m_trouble S1, S1)
def F_X5_isShip (S : MS) (x1 : Int32) : Option (Int32) :=
  if (m_told S) = 0 then
  (some (0 : Int32))
  else
  ((rdI (m_s S) (0 : Int32)).bind fun v1 =>
  (F_X5_in x1.toInt64 (0 : Int64) ((v1 - (1 : Int32)).toInt64)).bind fun q2 =>
  if q2 = 0 then
  (some (0 : Int32))
  else
  (some (1 : Int32)))
def F_X5_isClaim (S : MS) (x1 : Int32) : Option (Int32) :=
  if (m_told S) = 0 then
  (some (0 : Int32))
  else
  ((rdI (m_s S) (1 : Int32)).bind fun v1 =>
  (F_X5_in x1.toInt64 (0 : Int64) ((v1 - (1 : Int32)).toInt64)).bind fun q2 =>
  if q2 = 0 then
  (some (0 : Int32))
  else
  (some (1 : Int32)))
def F_X5_ofShip (S : (Fin 82 → Int32)) (x1 : Int32) (x2 : Int32) : Option (Int32) :=
  (rdI S (((10 : Int32) + ((6 : Int32) * x1)) + x2)).bind fun v1 =>
  some v1
def F_X5_ofClaim (S : (Fin 82 → Int32)) (x1 : Int32) (x2 : Int32) : Option (Int32) :=
  (rdI S (((34 : Int32) + ((4 : Int32) * x1)) + x2)).bind fun v1 =>
  some v1
def J_X5_about_29 (S : MS) (x1 : Int32) (y0 : Int32) : Option (Int32 × MS) :=
  (F_X5_refuse S y0 (1 : Int32)).bind fun q2 =>
  if q2.1 = 0 then
  (if x1 = (10 : Int32) then
  (some (m_acts q2.2, q2.2))
  else
  ((rdI (m_s q2.2) x1).bind fun v3 =>
  some (v3, q2.2)))
  else
  (some ((-1 : Int32), q2.2))
def J_X5_about_24 (S : MS) (x1 : Int32) : Option (Int32 × MS) :=
  J_X5_about_29 S x1 (1 : Int32)
def F_X5_about (S : MS) (x1 : Int32) : Option (Int32 × MS) :=
  (F_X5_begins S).bind fun q1 =>
  if (m_told q1) = 0 then
  (J_X5_about_24 q1 x1)
  else
  ((F_X5_in x1.toInt64 (0 : Int64) (10 : Int64)).bind fun q4 =>
  if q4 = 0 then
  (J_X5_about_24 q1 x1)
  else
  (J_X5_about_29 q1 x1 (0 : Int32)))
def F_X5_weightOf (S : (Fin 82 → Int32)) (x1 : Int32) : Option (Int32) :=
  (F_X5_ofShip S x1 (1 : Int32)).bind fun q1 =>
  (rdI S (2 : Int32)).bind fun v2 =>
  if v2 = (1 : Int32) then
  (if q1 ≤ 0 then
  (some (0 : Int32))
  else
  (some (1 : Int32)))
  else
  (some q1)
def J_X5_ship_30 (S : MS) (x1 : Int32) (x2 : Int32) (y0 : Int32) : Option (Int32 × MS) :=
  (F_X5_refuse S y0 (1 : Int32)).bind fun q3 =>
  if q3.1 = 0 then
  (if x2 = (6 : Int32) then
  ((F_X5_weightOf (m_s q3.2) x1).bind fun q5 =>
  some (q5, q3.2))
  else
  ((F_X5_ofShip (m_s q3.2) x1 x2).bind fun q4 =>
  some (q4, q3.2)))
  else
  (some ((-1 : Int32), q3.2))
def J_X5_ship_25 (S : MS) (x1 : Int32) (x2 : Int32) : Option (Int32 × MS) :=
  J_X5_ship_30 S x1 x2 (1 : Int32)
def F_X5_ship (S : MS) (x1 : Int32) (x2 : Int32) : Option (Int32 × MS) :=
  (F_X5_begins S).bind fun q1 =>
  (F_X5_isShip q1 x1).bind fun q2 =>
  if q2 = 0 then
  (J_X5_ship_25 q1 x1 x2)
  else
  ((F_X5_in x2.toInt64 (0 : Int64) (6 : Int64)).bind fun q6 =>
  if q6 = 0 then
  (J_X5_ship_25 q1 x1 x2)
  else
  (J_X5_ship_30 q1 x1 x2 (0 : Int32)))
def F_X5_roundOf (S : (Fin 82 → Int32)) (x1 : Int32) : Option (Int32) :=
  (F_X5_ofClaim S x1 (3 : Int32)).bind fun q1 =>
  (rdI S (8 : Int32)).bind fun v2 =>
  if v2 < q1 then
  ((rdI S (9 : Int32)).bind fun v3 =>
  if v3 < q1 then
  (some (-2 : Int32))
  else
  (some (1 : Int32)))
  else
  (some (0 : Int32))
def J_X5_claim_30 (S : MS) (x1 : Int32) (x2 : Int32) (y0 : Int32) : Option (Int32 × MS) :=
  (F_X5_refuse S y0 (1 : Int32)).bind fun q3 =>
  if q3.1 = 0 then
  (if x2 = (4 : Int32) then
  ((F_X5_roundOf (m_s q3.2) x1).bind fun q5 =>
  some (q5, q3.2))
  else
  ((F_X5_ofClaim (m_s q3.2) x1 x2).bind fun q4 =>
  some (q4, q3.2)))
  else
  (some ((-1 : Int32), q3.2))
def J_X5_claim_25 (S : MS) (x1 : Int32) (x2 : Int32) : Option (Int32 × MS) :=
  J_X5_claim_30 S x1 x2 (1 : Int32)
def F_X5_claim (S : MS) (x1 : Int32) (x2 : Int32) : Option (Int32 × MS) :=
  (F_X5_begins S).bind fun q1 =>
  (F_X5_isClaim q1 x1).bind fun q2 =>
  if q2 = 0 then
  (J_X5_claim_25 q1 x1 x2)
  else
  ((F_X5_in x2.toInt64 (0 : Int64) (4 : Int64)).bind fun q6 =>
  if q6 = 0 then
  (J_X5_claim_25 q1 x1 x2)
  else
  (J_X5_claim_30 q1 x1 x2 (0 : Int32)))
def B_X5_letter_30 (x1 : Int32) (x2 : Int32) (k : MS → Int32 → Option (Int32 × MS)) (rc : MS → Int32 → Int64 → Option (Int32 × MS)) (S : MS) (x3 : Int32) (x4 : Int64) : Option (Int32 × MS) :=
  if (lg_cmp x4 (0 : Int64)) ≤ 0 then
  (k S x3)
  else
  (nm (x3 + 1 : Int32) fun v4 =>
  (dvL x4 (32 : Int64)).bind fun v5 =>
  rc S v4 v5)
def B_X5_letter_84 (x2 : Int32) (k : MS → Int64 → Option (Int32 × MS)) (rc : MS → Int64 → Int32 → Option (Int32 × MS)) (S : MS) (x4 : Int64) (x6 : Int32) : Option (Int32 × MS) :=
  if x6 ≤ x2 then
  (k S x4)
  else
  ((dvL x4 (32 : Int64)).bind fun v11 =>
  nm (x6 + (-1) : Int32) fun v12 =>
  rc S v11 v12)
def F_X5_letter (S : MS) (x1 : Int32) (x2 : Int32) : Option (Int32 × MS) :=
  nm (ms_thrown S (0 : Int32) : MS) fun S1 =>
  (F_X5_isShip S1 x1).bind fun q2 =>
  if q2 = 0 then
  (nm (ms_thrown S1 (1 : Int32) : MS) fun S17 =>
  some ((0 : Int32), S17))
  else
  ((rdL (m_names S1) x1).bind fun v3 =>
  lo3 (B_X5_letter_30 x1 x2 (fun S6 z7 => (F_X5_in x2.toInt64 (0 : Int64) ((z7 - (1 : Int32)).toInt64)).bind fun q8 =>
  if q8 = 0 then
  (nm (ms_thrown S6 (1 : Int32) : MS) fun S16 =>
  some ((0 : Int32), S16))
  else
  ((rdL (m_names S6) x1).bind fun v9 =>
  nm ((z7 - (1 : Int32)) : Int32) fun v10 =>
  lo3 (B_X5_letter_84 x2 (fun S13 z14 => (rmL z14 (32 : Int64)).bind fun v15 =>
  some ((v15.toInt32 - (1 : Int32)), S13))) FU S6 v9 v10))) FU S1 (0 : Int32) v3)
def B_X5_weightsOf_4 (S : (Fin 82 → Int32)) (k : Int32 → Option (Int32)) (rc : Int32 → Int32 → Option (Int32)) (x1 : Int32) (x2 : Int32) : Option (Int32) :=
  (rdI S (0 : Int32)).bind fun v1 =>
  if v1 ≤ x2 then
  (k x1)
  else
  ((F_X5_weightOf S x2).bind fun q2 =>
  nm ((x1 + q2) : Int32) fun v3 =>
  nm (x2 + 1 : Int32) fun v4 =>
  rc v3 v4)
def F_X5_weightsOf (S : (Fin 82 → Int32)) : Option (Int32) :=
  lo2 (B_X5_weightsOf_4 S (fun z5 => some z5)) FU (0 : Int32) (0 : Int32)
def F_X5_partOf (S : (Fin 82 → Int32)) (x1 : Int32) (x2 : Int64) : Option (Int64) :=
  (F_X5_weightOf S x1).bind fun q1 =>
  (F_X5_weightsOf S).bind fun q2 =>
  (dvL (x2 * q1.toInt64) q2.toInt64).bind fun v3 =>
  some v3
def J_X5_debtOf_43 (S : (Fin 82 → Int32)) (x1 : Int32) (x3 : Int64) : Option (Int64) :=
  (F_X5_partOf S x1 x3).bind fun q6 =>
  some q6
def F_X5_debtOf (S : (Fin 82 → Int32)) (x1 : Int32) (x2 : Int32) : Option (Int64) :=
  (F_X5_roundOf S x2).bind fun q1 =>
  if q1 < 0 then
  (some (0 : Int64))
  else
  ((F_X5_ofClaim S x2 (1 : Int32)).bind fun q2 =>
  if q2 = x1 then
  (some (0 : Int64))
  else
  ((F_X5_ofClaim S x2 (2 : Int32)).bind fun q3 =>
  nm (q3.toInt64 : Int64) fun v4 =>
  (F_X5_ofClaim S x2 (0 : Int32)).bind fun q5 =>
  if q5 = 0 then
  ((rdI S (3 : Int32)).bind fun v7 =>
  if v7 = 0 then
  (J_X5_debtOf_43 S x1 v4)
  else
  ((F_X5_weightsOf S).bind fun q8 =>
  (F_X5_ofClaim S x2 (1 : Int32)).bind fun q9 =>
  (F_X5_weightOf S q9).bind fun q10 =>
  nm ((q8 - q10) : Int32) fun v11 =>
  if v11 = 0 then
  (some (0 : Int64))
  else
  ((F_X5_weightOf S x1).bind fun q12 =>
  (dvL (v4 * q12.toInt64) v11.toInt64).bind fun v13 =>
  some v13)))
  else
  (J_X5_debtOf_43 S x1 v4)))
def F_X5_backTo (S : (Fin 82 → Int32)) (x1 : Int32) (x2 : Int32) : Option (Int64) :=
  (rdI S (3 : Int32)).bind fun v1 =>
  if v1 = 0 then
  (some (0 : Int64))
  else
  ((F_X5_ofClaim S x1 (0 : Int32)).bind fun q2 =>
  if q2 = 0 then
  ((F_X5_roundOf S x1).bind fun q3 =>
  if q3 < 0 then
  (some (0 : Int64))
  else
  ((F_X5_ofClaim S x1 (1 : Int32)).bind fun q4 =>
  if q4 = x2 then
  (some (0 : Int64))
  else
  ((F_X5_debtOf S x2 x1).bind fun q5 =>
  (F_X5_ofClaim S x1 (2 : Int32)).bind fun q6 =>
  (F_X5_partOf S x2 q6.toInt64).bind fun q7 =>
  some (q5 - q7))))
  else
  (some (0 : Int64)))
def B_X5_backOf_5 (S : (Fin 82 → Int32)) (x1 : Int32) (k : Int64 → Option (Int64)) (rc : Int64 → Int32 → Option (Int64)) (x2 : Int64) (x4 : Int32) : Option (Int64) :=
  (rdI S (0 : Int32)).bind fun v1 =>
  if v1 ≤ x4 then
  (k x2)
  else
  ((F_X5_backTo S x1 x4).bind fun q2 =>
  nm ((x2 + q2) : Int64) fun v3 =>
  nm (x4 + 1 : Int32) fun v4 =>
  rc v3 v4)
def F_X5_backOf (S : (Fin 82 → Int32)) (x1 : Int32) : Option (Int64) :=
  lo2 (B_X5_backOf_5 S x1 (fun z5 => some z5)) FU (0 : Int64) (0 : Int32)
def F_X5_hullOwed (S : (Fin 82 → Int32)) (x1 : Int32) (x2 : Int32) : Option (Int64) :=
  (F_X5_ofShip S x2 (2 : Int32)).bind fun q1 =>
  (F_X5_partOf S x1 q1.toInt64).bind fun q2 =>
  some q2
def J_X5_backOwed_36 (k : Int64 → Option (Int64)) (rc : Int64 → Int32 → Option (Int64)) (S : (Fin 82 → Int32)) (x1 : Int32) (x2 : Int32) (x5 : Int32) (y0 : Int64) (y1 : Int64) : Option (Int64) :=
  nm ((y1 + y0) : Int64) fun v3 =>
  nm (x5 + 1 : Int32) fun v4 =>
  rc v3 v4
def B_X5_backOwed_5 (S : (Fin 82 → Int32)) (x1 : Int32) (x2 : Int32) (k : Int64 → Option (Int64)) (rc : Int64 → Int32 → Option (Int64)) (x3 : Int64) (x5 : Int32) : Option (Int64) :=
  (rdI S (1 : Int32)).bind fun v1 =>
  if v1 ≤ x5 then
  (k x3)
  else
  ((F_X5_ofClaim S x5 (1 : Int32)).bind fun q2 =>
  if q2 = x1 then
  ((F_X5_backTo S x5 x2).bind fun q5 =>
  J_X5_backOwed_36 k rc S x1 x2 x5 q5 x3)
  else
  (J_X5_backOwed_36 k rc S x1 x2 x5 (0 : Int64) x3))
def F_X5_backOwed (S : (Fin 82 → Int32)) (x1 : Int32) (x2 : Int32) : Option (Int64) :=
  lo2 (B_X5_backOwed_5 S x1 x2 (fun z6 => some z6)) FU (0 : Int64) (0 : Int32)
def F_X5_bothOwed (S : (Fin 82 → Int32)) (x1 : Int32) (x2 : Int32) : Option (Int64) :=
  (F_X5_hullOwed S x1 x2).bind fun q1 =>
  (F_X5_backOwed S x1 x2).bind fun q2 =>
  some (q1 + q2)
def F_X5_lawOwed (S : (Fin 82 → Int32)) (x1 : Int32) (x2 : Int32) : Option (Int64) :=
  if x1 = x2 then
  (some (0 : Int64))
  else
  ((F_X5_bothOwed S x1 x2).bind fun q1 =>
  (rdI S (4 : Int32)).bind fun v2 =>
  if v2 = (1 : Int32) then
  (some q1)
  else
  ((F_X5_bothOwed S x2 x1).bind fun q3 =>
  (F_X5_lesser q1 q3).bind fun q4 =>
  some (q1 - q4)))
def F_X5_fundOf (S : (Fin 82 → Int32)) (x1 : Int32) (x2 : Int32) : Option (Int64) :=
  (F_X5_ofShip S x1 (0 : Int32)).bind fun q1 =>
  (rdI S (7 : Int32)).bind fun v2 =>
  (F_X5_greater q1.toInt64 v2.toInt64).bind fun q3 =>
  (rdI S x2).bind fun v4 =>
  (F_X5_lesser (2000000000 : Int64) (q3 * v4.toInt64)).bind fun q5 =>
  some q5
def B_X5_shares_5 (x1 : Int64) (k : MS → Int64 → Option (Int64 × MS)) (rc : MS → Int64 → Int32 → Option (Int64 × MS)) (S : MS) (x3 : Int64) (x5 : Int32) : Option (Int64 × MS) :=
  if (16 : Int32) ≤ x5 then
  (k S x3)
  else
  ((rdL (m_owed S) x5).bind fun v1 =>
  nm ((x3 + v1) : Int64) fun v2 =>
  nm (x5 + 1 : Int32) fun v3 =>
  rc S v2 v3)
def B_X5_shares_77 (x1 : Int64) (x3 : Int64) (k : MS → Int64 → Option (Int64 × MS)) (rc : MS → Int64 → Int32 → Option (Int64 × MS)) (S : MS) (x5 : Int64) (x7 : Int32) : Option (Int64 × MS) :=
  if (16 : Int32) ≤ x7 then
  (k S x5)
  else
  ((rdL (m_owed S) x7).bind fun v6 =>
  (dvL (v6 * x1) x3).bind fun v7 =>
  nm ((x5 - v7) : Int64) fun v8 =>
  nm (x7 + 1 : Int32) fun v9 =>
  rc S v8 v9)
def J_X5_shares_161 (k : MS → Int64 → Option (Int64 × MS)) (rc : MS → Int64 → Int32 → Option (Int64 × MS)) (S : MS) (x1 : Int64) (x3 : Int64) (x5 : Int64) (x7 : Int32) (x8 : Int64) : Option (Int64 × MS) :=
  (rdL (m_out S) x7).bind fun v14 =>
  (wrL (m_out S) x7 (v14 + x8)).bind fun f15 =>
  nm (ms_out S f15 : MS) fun S16 =>
  nm (x7 + 1 : Int32) fun v17 =>
  rc S16 x5 v17
def B_X5_shares_109 (x1 : Int64) (x3 : Int64) (k : MS → Int64 → Option (Int64 × MS)) (rc : MS → Int64 → Int32 → Option (Int64 × MS)) (S : MS) (x5 : Int64) (x7 : Int32) : Option (Int64 × MS) :=
  if (16 : Int32) ≤ x7 then
  (k S x5)
  else
  ((rdL (m_owed S) x7).bind fun v12 =>
  (dvL (v12 * x1) x3).bind fun v13 =>
  if (lg_cmp x5 (0 : Int64)) ≤ 0 then
  (J_X5_shares_161 k rc S x1 x3 x5 x7 v13)
  else
  ((rdL (m_owed S) x7).bind fun v18 =>
  if 0 ≤ (lg_cmp v13 v18) then
  (J_X5_shares_161 k rc S x1 x3 x5 x7 v13)
  else
  (nm ((v13 + (1 : Int64)) : Int64) fun v19 =>
  nm ((x5 - (1 : Int64)) : Int64) fun v20 =>
  J_X5_shares_161 k rc S x1 x3 v20 x7 v19)))
def B_X5_shares_37 (x1 : Int64) (x3 : Int64) (k : MS → Option (Int64 × MS)) (rc : MS → Int32 → Option (Int64 × MS)) (S : MS) (x5 : Int32) : Option (Int64 × MS) :=
  if (16 : Int32) ≤ x5 then
  (k S)
  else
  ((rdL (m_out S) x5).bind fun v23 =>
  (rdL (m_owed S) x5).bind fun v24 =>
  (wrL (m_out S) x5 (v23 + v24)).bind fun f25 =>
  nm (ms_out S f25 : MS) fun S26 =>
  nm (x5 + 1 : Int32) fun v27 =>
  rc S26 v27)
def F_X5_shares (S : MS) (x1 : Int64) : Option (Int64 × MS) :=
  lo3 (B_X5_shares_5 x1 (fun S4 z5 => if 0 < (lg_cmp z5 x1) then
  (lo3 (B_X5_shares_77 x1 z5 (fun S10 z11 => lo3 (B_X5_shares_109 x1 z5 (fun S21 z22 => some (z22, S21))) FU S10 z11 (0 : Int32))) FU S4 x1 (0 : Int32))
  else
  (lo2 (B_X5_shares_37 x1 z5 (fun S28 => some ((x1 - z5), S28))) FU S4 (0 : Int32)))) FU S (0 : Int64) (0 : Int32)
def B_X5_clears_2 (k : (Fin 16 → Int64) → Option ((Fin 16 → Int64))) (rc : (Fin 16 → Int64) → Int32 → Option ((Fin 16 → Int64))) (S : (Fin 16 → Int64)) (x2 : Int32) : Option ((Fin 16 → Int64)) :=
  if (16 : Int32) ≤ x2 then
  (k S)
  else
  ((wrL S x2 (0 : Int64)).bind fun f1 =>
  nm (f1 : (Fin 16 → Int64)) fun S2 =>
  nm (x2 + 1 : Int32) fun v3 =>
  rc S2 v3)
def F_X5_clears (S : (Fin 16 → Int64)) : Option ((Fin 16 → Int64)) :=
  lo2 (B_X5_clears_2 (fun S4 => some S4)) FU S (0 : Int32)
def J_X5_owesPersons_62 (k : MS → Option (MS)) (rc : MS → Int32 → Option (MS)) (S : MS) (x1 : Int32) (x2 : Int32) (x3 : Int32) : Option (MS) :=
  nm (x3 + 1 : Int32) fun v5 =>
  rc S v5
def B_X5_owesPersons_10 (x1 : Int32) (x2 : Int32) (k : MS → Option (MS)) (rc : MS → Int32 → Option (MS)) (S : MS) (x3 : Int32) : Option (MS) :=
  (rdI (m_w S) (1 : Int32)).bind fun v3 =>
  if v3 ≤ x3 then
  (k S)
  else
  ((F_X5_ofClaim (m_w S) x3 (0 : Int32)).bind fun q4 =>
  if q4 = (1 : Int32) then
  ((F_X5_roundOf (m_w S) x3).bind fun q6 =>
  if q6 = x2 then
  ((F_X5_debtOf (m_w S) x1 x3).bind fun q7 =>
  (wrL (m_owed S) ((4 : Int32) + x3) q7).bind fun f8 =>
  nm (ms_owed S f8 : MS) fun S9 =>
  J_X5_owesPersons_62 k rc S9 x1 x2 x3)
  else
  (J_X5_owesPersons_62 k rc S x1 x2 x3))
  else
  (J_X5_owesPersons_62 k rc S x1 x2 x3))
def F_X5_owesPersons (S : MS) (x1 : Int32) (x2 : Int32) : Option (MS) :=
  (F_X5_clears (m_owed S)).bind fun q1 =>
  nm (ms_owed S q1 : MS) fun S2 =>
  lo2 (B_X5_owesPersons_10 x1 x2 (fun S10 => some S10)) FU S2 (0 : Int32)
def B_X5_owesAll_10 (x1 : Int32) (x2 : Int32) (k : MS → Option (MS)) (rc : MS → Int32 → Option (MS)) (S : MS) (x3 : Int32) : Option (MS) :=
  (rdI (m_w S) (0 : Int32)).bind fun v3 =>
  if v3 ≤ x3 then
  (k S)
  else
  (if x2 = 0 then
  ((F_X5_lawOwed (m_w S) x1 x3).bind fun q4 =>
  (wrL (m_owed S) x3 q4).bind fun f5 =>
  nm (ms_owed S f5 : MS) fun S6 =>
  nm (x3 + 1 : Int32) fun v7 =>
  rc S6 v7)
  else
  (k S))
def J_X5_owesAll_95 (k : MS → Option (MS)) (rc : MS → Int32 → Option (MS)) (S : MS) (x1 : Int32) (x2 : Int32) (x3 : Int32) : Option (MS) :=
  nm (x3 + 1 : Int32) fun v11 =>
  rc S v11
def B_X5_owesAll_47 (x1 : Int32) (x2 : Int32) (k : MS → Option (MS)) (rc : MS → Int32 → Option (MS)) (S : MS) (x3 : Int32) : Option (MS) :=
  (rdI (m_w S) (1 : Int32)).bind fun v9 =>
  if v9 ≤ x3 then
  (k S)
  else
  ((F_X5_roundOf (m_w S) x3).bind fun q10 =>
  if q10 = x2 then
  ((F_X5_debtOf (m_w S) x1 x3).bind fun q12 =>
  (rdL (m_out S) ((4 : Int32) + x3)).bind fun v13 =>
  (wrL (m_owed S) ((4 : Int32) + x3) (q12 - v13)).bind fun f14 =>
  nm (ms_owed S f14 : MS) fun S15 =>
  J_X5_owesAll_95 k rc S15 x1 x2 x3)
  else
  (J_X5_owesAll_95 k rc S x1 x2 x3))
def J_X5_owesAll_45 (S : MS) (x1 : Int32) (x2 : Int32) : Option (MS) :=
  lo2 (B_X5_owesAll_47 x1 x2 (fun S16 => some S16)) FU S (0 : Int32)
def F_X5_owesAll (S : MS) (x1 : Int32) (x2 : Int32) : Option (MS) :=
  (F_X5_clears (m_owed S)).bind fun q1 =>
  nm (ms_owed S q1 : MS) fun S2 =>
  lo2 (B_X5_owesAll_10 x1 x2 (fun S8 => J_X5_owesAll_45 S8 x1 x2)) FU S2 (0 : Int32)
def B_X5_sharesLives_22 (x1 : Int32) (k : MS → Option (MS)) (rc : MS → Int64 → Int32 → Option (MS)) (S : MS) (x2 : Int64) (x4 : Int32) : Option (MS) :=
  if (2 : Int32) ≤ x4 then
  (k S)
  else
  ((F_X5_owesPersons S x1 x4).bind fun q4 =>
  (F_X5_shares q4 x2).bind fun q5 =>
  nm (x4 + 1 : Int32) fun v6 =>
  rc q5.2 q5.1 v6)
def F_X5_sharesLives (S : MS) (x1 : Int32) : Option (MS) :=
  (F_X5_clears (m_out S)).bind fun q1 =>
  nm (ms_out S q1 : MS) fun S2 =>
  (F_X5_fundOf (m_w S2) x1 (6 : Int32)).bind fun q3 =>
  lo3 (B_X5_sharesLives_22 x1 (fun S7 => some S7)) FU S2 q3 (0 : Int32)
def B_X5_paysOne_110 (x1 : Int32) (k : MS → Option (MS)) (rc : MS → Int64 → Int32 → Option (MS)) (S : MS) (x2 : Int64) (x4 : Int32) : Option (MS) :=
  if (2 : Int32) ≤ x4 then
  (k S)
  else
  ((F_X5_owesAll S x1 x4).bind fun q4 =>
  (F_X5_shares q4 x2).bind fun q5 =>
  nm (x4 + 1 : Int32) fun v6 =>
  rc q5.2 q5.1 v6)
def B_X5_paysOne_137 (x1 : Int32) (k : MS → Option (MS)) (rc : MS → Int32 → Option (MS)) (S : MS) (x2 : Int32) : Option (MS) :=
  if (16 : Int32) ≤ x2 then
  (k S)
  else
  ((rdL (m_out S) x2).bind fun v8 =>
  (wrL (m_paid S) (((16 : Int32) * x1) + x2) v8).bind fun f9 =>
  nm (ms_paid S f9 : MS) fun S10 =>
  nm (x2 + 1 : Int32) fun v11 =>
  rc S10 v11)
def J_X5_paysOne_135 (S : MS) (x1 : Int32) : Option (MS) :=
  lo2 (B_X5_paysOne_137 x1 (fun S12 => some S12)) FU S (0 : Int32)
def B_X5_paysOne_23 (x1 : Int32) (k : MS → Option (MS)) (rc : MS → Int32 → Option (MS)) (S : MS) (x2 : Int32) : Option (MS) :=
  (rdI (m_w S) (0 : Int32)).bind fun v15 =>
  if v15 ≤ x2 then
  (k S)
  else
  ((F_X5_lawOwed (m_w S) x1 x2).bind fun q16 =>
  (wrL (m_out S) x2 q16).bind fun f17 =>
  nm (ms_out S f17 : MS) fun S18 =>
  nm (x2 + 1 : Int32) fun v19 =>
  rc S18 v19)
def B_X5_paysOne_56 (x1 : Int32) (k : MS → Option (MS)) (rc : MS → Int32 → Option (MS)) (S : MS) (x2 : Int32) : Option (MS) :=
  (rdI (m_w S) (1 : Int32)).bind fun v21 =>
  if v21 ≤ x2 then
  (k S)
  else
  ((F_X5_debtOf (m_w S) x1 x2).bind fun q22 =>
  (wrL (m_out S) ((4 : Int32) + x2) q22).bind fun f23 =>
  nm (ms_out S f23 : MS) fun S24 =>
  nm (x2 + 1 : Int32) fun v25 =>
  rc S24 v25)
def F_X5_paysOne (S : MS) (x1 : Int32) : Option (MS) :=
  (F_X5_ofShip (m_w S) x1 (5 : Int32)).bind fun q1 =>
  if q1 = (1 : Int32) then
  ((F_X5_clears (m_out S)).bind fun q13 =>
  nm (ms_out S q13 : MS) fun S14 =>
  lo2 (B_X5_paysOne_23 x1 (fun S20 => lo2 (B_X5_paysOne_56 x1 (fun S26 => J_X5_paysOne_135 S26 x1)) FU S20 (0 : Int32))) FU S14 (0 : Int32))
  else
  ((F_X5_sharesLives S x1).bind fun q2 =>
  (F_X5_fundOf (m_w q2) x1 (5 : Int32)).bind fun q3 =>
  lo3 (B_X5_paysOne_110 x1 (fun S7 => J_X5_paysOne_135 S7 x1)) FU q2 q3 (0 : Int32))
def B_X5_paysAll_2 (k : MS → Option (MS)) (rc : MS → Int32 → Option (MS)) (S : MS) (x1 : Int32) : Option (MS) :=
  (rdI (m_w S) (0 : Int32)).bind fun v1 =>
  if v1 ≤ x1 then
  (k S)
  else
  ((F_X5_paysOne S x1).bind fun q2 =>
  nm (x1 + 1 : Int32) fun v3 =>
  rc q2 v3)
def F_X5_paysAll (S : MS) : Option (MS) :=
  lo2 (B_X5_paysAll_2 (fun S4 => some S4)) FU S (0 : Int32)
def B_X5_lays_2 (k : MS → Option (MS)) (rc : MS → Int32 → Option (MS)) (S : MS) (x1 : Int32) : Option (MS) :=
  if (82 : Int32) ≤ x1 then
  (k S)
  else
  ((rdI (m_s S) x1).bind fun v1 =>
  (wrI (m_w S) x1 v1).bind fun f2 =>
  nm (ms_w S f2 : MS) fun S3 =>
  nm (x1 + 1 : Int32) fun v4 =>
  rc S3 v4)
def F_X5_lays (S : MS) : Option (MS) :=
  lo2 (B_X5_lays_2 (fun S5 => some S5)) FU S (0 : Int32)
def F_X5_laysPaid (S : MS) : Option (MS) :=
  (F_X5_lays S).bind fun q1 =>
  (F_X5_paysAll q1).bind fun q2 =>
  some q2
def B_X5_paidTo_5 (S : MS) (x1 : Int32) (k : Int64 → Option (Int64)) (rc : Int64 → Int32 → Option (Int64)) (x2 : Int64) (x4 : Int32) : Option (Int64) :=
  (rdI (m_w S) (0 : Int32)).bind fun v1 =>
  if v1 ≤ x4 then
  (k x2)
  else
  ((rdL (m_paid S) ((((16 : Int32) * x4) + (4 : Int32)) + x1)).bind fun v2 =>
  nm ((x2 + v2) : Int64) fun v3 =>
  nm (x4 + 1 : Int32) fun v4 =>
  rc v3 v4)
def F_X5_paidTo (S : MS) (x1 : Int32) : Option (Int64) :=
  lo2 (B_X5_paidTo_5 S x1 (fun z5 => some z5)) FU (0 : Int64) (0 : Int32)
def F_X5_givenOf (S : MS) (x1 : Int32) : Option (Int64) :=
  (F_X5_ofClaim (m_w S) x1 (1 : Int32)).bind fun q1 =>
  (F_X5_ofClaim (m_w S) x1 (0 : Int32)).bind fun q2 =>
  if q2 = 0 then
  ((F_X5_ofShip (m_w S) q1 (4 : Int32)).bind fun q3 =>
  if q3 = 0 then
  (some (0 : Int64))
  else
  ((F_X5_backOf (m_w S) x1).bind fun q4 =>
  (F_X5_paidTo S x1).bind fun q5 =>
  (F_X5_lesser q4 q5).bind fun q6 =>
  some q6))
  else
  (some (0 : Int64))
def B_X5_paidBy_5 (S : MS) (x1 : Int32) (k : Int64 → Option (Int64)) (rc : Int64 → Int32 → Option (Int64)) (x2 : Int64) (x4 : Int32) : Option (Int64) :=
  if (16 : Int32) ≤ x4 then
  (k x2)
  else
  ((rdL (m_paid S) (((16 : Int32) * x1) + x4)).bind fun v1 =>
  nm ((x2 + v1) : Int64) fun v2 =>
  nm (x4 + 1 : Int32) fun v3 =>
  rc v2 v3)
def F_X5_paidBy (S : MS) (x1 : Int32) : Option (Int64) :=
  lo2 (B_X5_paidBy_5 S x1 (fun z4 => some z4)) FU (0 : Int64) (0 : Int32)
def B_X5_netOf_21 (S : MS) (x1 : Int32) (k : Int64 → Option (Int64)) (rc : Int64 → Int32 → Option (Int64)) (x2 : Int64) (x4 : Int32) : Option (Int64) :=
  (rdI (m_w S) (0 : Int32)).bind fun v4 =>
  if v4 ≤ x4 then
  (k x2)
  else
  ((rdL (m_paid S) (((16 : Int32) * x4) + x1)).bind fun v5 =>
  nm ((x2 + v5) : Int64) fun v6 =>
  nm (x4 + 1 : Int32) fun v7 =>
  rc v6 v7)
def J_X5_netOf_92 (k : Int64 → Option (Int64)) (rc : Int64 → Int32 → Option (Int64)) (S : MS) (x1 : Int32) (x4 : Int32) (y0 : Int64) (y1 : Int64) : Option (Int64) :=
  nm ((y1 + y0) : Int64) fun v11 =>
  nm (x4 + 1 : Int32) fun v12 =>
  rc v11 v12
def B_X5_netOf_56 (S : MS) (x1 : Int32) (k : Int64 → Option (Int64)) (rc : Int64 → Int32 → Option (Int64)) (x2 : Int64) (x4 : Int32) : Option (Int64) :=
  (rdI (m_w S) (1 : Int32)).bind fun v9 =>
  if v9 ≤ x4 then
  (k x2)
  else
  ((F_X5_ofClaim (m_w S) x4 (1 : Int32)).bind fun q10 =>
  if q10 = x1 then
  ((F_X5_givenOf S x4).bind fun q13 =>
  J_X5_netOf_92 k rc S x1 x4 q13 x2)
  else
  (J_X5_netOf_92 k rc S x1 x4 (0 : Int64) x2))
def F_X5_netOf (S : MS) (x1 : Int32) : Option (Int64) :=
  (F_X5_paidBy S x1).bind fun q1 =>
  (F_X5_ofShip (m_w S) x1 (2 : Int32)).bind fun q2 =>
  nm (((-q1) - q2.toInt64) : Int64) fun v3 =>
  lo2 (B_X5_netOf_21 S x1 (fun z8 => lo2 (B_X5_netOf_56 S x1 (fun z14 => some z14)) FU z8 (0 : Int32))) FU v3 (0 : Int32)
def J_X5_part_43 (S : MS) (x1 : Int32) (x2 : Int32) (y0 : Int32) : Option (Int32 × MS) :=
  (F_X5_refuse S y0 (2 : Int32)).bind fun q5 =>
  if q5.1 = 0 then
  ((F_X5_partOf (m_s q5.2) x1 x2.toInt64).bind fun q6 =>
  some (q6.toInt32, q5.2))
  else
  (some ((-1 : Int32), q5.2))
def J_X5_part_18 (S : MS) (x1 : Int32) (x2 : Int32) (y0 : Int32) : Option (Int32 × MS) :=
  (F_X5_refuse S y0 (1 : Int32)).bind fun q3 =>
  if q3.1 = 0 then
  ((F_X5_in x2.toInt64 (0 : Int64) (9999999 : Int64)).bind fun q4 =>
  if q4 = 0 then
  (J_X5_part_43 q3.2 x1 x2 (1 : Int32))
  else
  (J_X5_part_43 q3.2 x1 x2 (0 : Int32)))
  else
  (some ((-1 : Int32), q3.2))
def F_X5_part (S : MS) (x1 : Int32) (x2 : Int32) : Option (Int32 × MS) :=
  (F_X5_begins S).bind fun q1 =>
  (F_X5_isShip q1 x1).bind fun q2 =>
  if q2 = 0 then
  (J_X5_part_18 q1 x1 x2 (1 : Int32))
  else
  (J_X5_part_18 q1 x1 x2 (0 : Int32))
def J_X5_owes_26 (S : MS) (x1 : Int32) (x2 : Int32) (y0 : Int32) : Option (Int32 × MS) :=
  (F_X5_refuse S y0 (1 : Int32)).bind fun q3 =>
  if q3.1 = 0 then
  ((F_X5_debtOf (m_s q3.2) x1 x2).bind fun q4 =>
  some (q4.toInt32, q3.2))
  else
  (some ((-1 : Int32), q3.2))
def J_X5_owes_21 (S : MS) (x1 : Int32) (x2 : Int32) : Option (Int32 × MS) :=
  J_X5_owes_26 S x1 x2 (1 : Int32)
def F_X5_owes (S : MS) (x1 : Int32) (x2 : Int32) : Option (Int32 × MS) :=
  (F_X5_begins S).bind fun q1 =>
  (F_X5_isShip q1 x1).bind fun q2 =>
  if q2 = 0 then
  (J_X5_owes_21 q1 x1 x2)
  else
  ((F_X5_isClaim q1 x2).bind fun q5 =>
  if q5 = 0 then
  (J_X5_owes_21 q1 x1 x2)
  else
  (J_X5_owes_26 q1 x1 x2 (0 : Int32)))
def J_X5_between_63 (S : MS) : Option (Int64 × MS) :=
  some ((-1 : Int64), S)
def J_X5_between_56 (S : MS) (x1 : Int32) (x2 : Int32) (x3 : Int32) (y0 : Int32) : Option (Int64 × MS) :=
  (F_X5_refuse S y0 (5 : Int32)).bind fun q4 =>
  if q4.1 = 0 then
  (if x3 = (0 : Int32) then
  ((F_X5_hullOwed (m_s q4.2) x1 x2).bind fun q6 =>
  some (q6, q4.2))
  else
  if x3 = (1 : Int32) then
  ((F_X5_backOwed (m_s q4.2) x1 x2).bind fun q7 =>
  some (q7, q4.2))
  else
  if x3 = (2 : Int32) then
  ((F_X5_bothOwed (m_s q4.2) x1 x2).bind fun q8 =>
  some (q8, q4.2))
  else
  ((F_X5_lawOwed (m_s q4.2) x1 x2).bind fun q9 =>
  some (q9, q4.2)))
  else
  (J_X5_between_63 q4.2)
def J_X5_between_38 (S : MS) (x1 : Int32) (x2 : Int32) (x3 : Int32) (y0 : Int32) : Option (Int64 × MS) :=
  (F_X5_refuse S y0 (1 : Int32)).bind fun q3 =>
  if q3.1 = 0 then
  (if x1 = x2 then
  (J_X5_between_56 q3.2 x1 x2 x3 (1 : Int32))
  else
  (J_X5_between_56 q3.2 x1 x2 x3 (0 : Int32)))
  else
  (J_X5_between_63 q3.2)
def J_X5_between_33 (S : MS) (x1 : Int32) (x2 : Int32) (x3 : Int32) : Option (Int64 × MS) :=
  J_X5_between_38 S x1 x2 x3 (1 : Int32)
def F_X5_between (S : MS) (x1 : Int32) (x2 : Int32) (x3 : Int32) : Option (Int64 × MS) :=
  (F_X5_begins S).bind fun q1 =>
  (F_X5_isShip q1 x1).bind fun q2 =>
  if q2 = 0 then
  (J_X5_between_33 q1 x1 x2 x3)
  else
  ((F_X5_isShip q1 x2).bind fun q10 =>
  if q10 = 0 then
  (J_X5_between_33 q1 x1 x2 x3)
  else
  ((F_X5_in x3.toInt64 (0 : Int64) (3 : Int64)).bind fun q11 =>
  if q11 = 0 then
  (J_X5_between_33 q1 x1 x2 x3)
  else
  (J_X5_between_38 q1 x1 x2 x3 (0 : Int32))))
def J_X5_back_18 (S : MS) (x1 : Int32) (y0 : Int32) : Option (Int64 × MS) :=
  (F_X5_refuse S y0 (1 : Int32)).bind fun q3 =>
  if q3.1 = 0 then
  ((F_X5_backOf (m_s q3.2) x1).bind fun q4 =>
  some (q4, q3.2))
  else
  (some ((-1 : Int64), q3.2))
def F_X5_back (S : MS) (x1 : Int32) : Option (Int64 × MS) :=
  (F_X5_begins S).bind fun q1 =>
  (F_X5_isClaim q1 x1).bind fun q2 =>
  if q2 = 0 then
  (J_X5_back_18 q1 x1 (1 : Int32))
  else
  (J_X5_back_18 q1 x1 (0 : Int32))
def J_X5_fund_52 (S : MS) (y0 : Int32) (y1 : Int32) : Option (Int32 × MS) :=
  (F_X5_fundOf (m_s S) y1 y0).bind fun q4 =>
  some (q4.toInt32, S)
def J_X5_fund_28 (S : MS) (x1 : Int32) (x2 : Int32) (y0 : Int32) : Option (Int32 × MS) :=
  (F_X5_refuse S y0 (1 : Int32)).bind fun q3 =>
  if q3.1 = 0 then
  (if x2 = 0 then
  (J_X5_fund_52 q3.2 (6 : Int32) x1)
  else
  (J_X5_fund_52 q3.2 (5 : Int32) x1))
  else
  (some ((-1 : Int32), q3.2))
def J_X5_fund_23 (S : MS) (x1 : Int32) (x2 : Int32) : Option (Int32 × MS) :=
  J_X5_fund_28 S x1 x2 (1 : Int32)
def F_X5_fund (S : MS) (x1 : Int32) (x2 : Int32) : Option (Int32 × MS) :=
  (F_X5_begins S).bind fun q1 =>
  (F_X5_isShip q1 x1).bind fun q2 =>
  if q2 = 0 then
  (J_X5_fund_23 q1 x1 x2)
  else
  ((F_X5_in x2.toInt64 (0 : Int64) (1 : Int64)).bind fun q5 =>
  if q5 = 0 then
  (J_X5_fund_23 q1 x1 x2)
  else
  (J_X5_fund_28 q1 x1 x2 (0 : Int32)))
def J_X5_pays_26 (S : MS) (x1 : Int32) (x2 : Int32) (y0 : Int32) : Option (Int32 × MS) :=
  (F_X5_refuse S y0 (1 : Int32)).bind fun q3 =>
  if q3.1 = 0 then
  ((F_X5_laysPaid q3.2).bind fun q4 =>
  (rdL (m_paid q4) ((((16 : Int32) * x1) + (4 : Int32)) + x2)).bind fun v5 =>
  some (v5.toInt32, q4))
  else
  (some ((-1 : Int32), q3.2))
def J_X5_pays_21 (S : MS) (x1 : Int32) (x2 : Int32) : Option (Int32 × MS) :=
  J_X5_pays_26 S x1 x2 (1 : Int32)
def F_X5_pays (S : MS) (x1 : Int32) (x2 : Int32) : Option (Int32 × MS) :=
  (F_X5_begins S).bind fun q1 =>
  (F_X5_isShip q1 x1).bind fun q2 =>
  if q2 = 0 then
  (J_X5_pays_21 q1 x1 x2)
  else
  ((F_X5_isClaim q1 x2).bind fun q6 =>
  if q6 = 0 then
  (J_X5_pays_21 q1 x1 x2)
  else
  (J_X5_pays_26 q1 x1 x2 (0 : Int32)))
def J_X5_paysTo_51 (S : MS) : Option (Int64 × MS) :=
  some ((-1 : Int64), S)
def J_X5_paysTo_44 (S : MS) (x1 : Int32) (x2 : Int32) (y0 : Int32) : Option (Int64 × MS) :=
  (F_X5_refuse S y0 (5 : Int32)).bind fun q4 =>
  if q4.1 = 0 then
  ((F_X5_laysPaid q4.2).bind fun q5 =>
  (rdL (m_paid q5) (((16 : Int32) * x1) + x2)).bind fun v6 =>
  some (v6, q5))
  else
  (J_X5_paysTo_51 q4.2)
def J_X5_paysTo_26 (S : MS) (x1 : Int32) (x2 : Int32) (y0 : Int32) : Option (Int64 × MS) :=
  (F_X5_refuse S y0 (1 : Int32)).bind fun q3 =>
  if q3.1 = 0 then
  (if x1 = x2 then
  (J_X5_paysTo_44 q3.2 x1 x2 (1 : Int32))
  else
  (J_X5_paysTo_44 q3.2 x1 x2 (0 : Int32)))
  else
  (J_X5_paysTo_51 q3.2)
def J_X5_paysTo_21 (S : MS) (x1 : Int32) (x2 : Int32) : Option (Int64 × MS) :=
  J_X5_paysTo_26 S x1 x2 (1 : Int32)
def F_X5_paysTo (S : MS) (x1 : Int32) (x2 : Int32) : Option (Int64 × MS) :=
  (F_X5_begins S).bind fun q1 =>
  (F_X5_isShip q1 x1).bind fun q2 =>
  if q2 = 0 then
  (J_X5_paysTo_21 q1 x1 x2)
  else
  ((F_X5_isShip q1 x2).bind fun q7 =>
  if q7 = 0 then
  (J_X5_paysTo_21 q1 x1 x2)
  else
  (J_X5_paysTo_26 q1 x1 x2 (0 : Int32)))
def B_X5_owedBy_5 (S : MS) (x1 : Int32) (k : Int64 → Option (Int64)) (rc : Int64 → Int32 → Option (Int64)) (x2 : Int64) (x4 : Int32) : Option (Int64) :=
  (rdI (m_s S) (0 : Int32)).bind fun v1 =>
  if v1 ≤ x4 then
  (k x2)
  else
  ((F_X5_lawOwed (m_s S) x1 x4).bind fun q2 =>
  nm ((x2 + q2) : Int64) fun v3 =>
  nm (x4 + 1 : Int32) fun v4 =>
  rc v3 v4)
def B_X5_owedBy_38 (S : MS) (x1 : Int32) (k : Int64 → Option (Int64)) (rc : Int64 → Int32 → Option (Int64)) (x2 : Int64) (x4 : Int32) : Option (Int64) :=
  (rdI (m_s S) (1 : Int32)).bind fun v6 =>
  if v6 ≤ x4 then
  (k x2)
  else
  ((F_X5_debtOf (m_s S) x1 x4).bind fun q7 =>
  nm ((x2 + q7) : Int64) fun v8 =>
  nm (x4 + 1 : Int32) fun v9 =>
  rc v8 v9)
def F_X5_owedBy (S : MS) (x1 : Int32) : Option (Int64) :=
  lo2 (B_X5_owedBy_5 S x1 (fun z5 => lo2 (B_X5_owedBy_38 S x1 (fun z10 => some z10)) FU z5 (0 : Int32))) FU (0 : Int64) (0 : Int32)
def J_X5_sum_28 (S : MS) (x1 : Int32) (x2 : Int32) (y0 : Int32) : Option (Int64 × MS) :=
  (F_X5_refuse S y0 (1 : Int32)).bind fun q3 =>
  if q3.1 = 0 then
  (if x2 = 0 then
  ((F_X5_owedBy q3.2 x1).bind fun q6 =>
  some (q6, q3.2))
  else
  ((F_X5_laysPaid q3.2).bind fun q4 =>
  (F_X5_paidBy q4 x1).bind fun q5 =>
  some (q5, q4)))
  else
  (some ((-1 : Int64), q3.2))
def J_X5_sum_23 (S : MS) (x1 : Int32) (x2 : Int32) : Option (Int64 × MS) :=
  J_X5_sum_28 S x1 x2 (1 : Int32)
def F_X5_sum (S : MS) (x1 : Int32) (x2 : Int32) : Option (Int64 × MS) :=
  (F_X5_begins S).bind fun q1 =>
  (F_X5_isShip q1 x1).bind fun q2 =>
  if q2 = 0 then
  (J_X5_sum_23 q1 x1 x2)
  else
  ((F_X5_in x2.toInt64 (0 : Int64) (1 : Int64)).bind fun q7 =>
  if q7 = 0 then
  (J_X5_sum_23 q1 x1 x2)
  else
  (J_X5_sum_28 q1 x1 x2 (0 : Int32)))
def J_X5_bites_18 (S : MS) (x1 : Int32) (y0 : Int32) : Option (Int32 × MS) :=
  (F_X5_refuse S y0 (1 : Int32)).bind fun q3 =>
  if q3.1 = 0 then
  ((F_X5_laysPaid q3.2).bind fun q4 =>
  (F_X5_paidBy q4 x1).bind fun q5 =>
  (F_X5_owedBy q4 x1).bind fun q6 =>
  if 0 ≤ (lg_cmp q5 q6) then
  (some ((0 : Int32), q4))
  else
  (some ((1 : Int32), q4)))
  else
  (some ((-1 : Int32), q3.2))
def F_X5_bites (S : MS) (x1 : Int32) : Option (Int32 × MS) :=
  (F_X5_begins S).bind fun q1 =>
  (F_X5_isShip q1 x1).bind fun q2 =>
  if q2 = 0 then
  (J_X5_bites_18 q1 x1 (1 : Int32))
  else
  (J_X5_bites_18 q1 x1 (0 : Int32))
def J_X5_gets_30 (S : MS) (x1 : Int32) (x2 : Int32) (y0 : Int32) : Option (Int64 × MS) :=
  (F_X5_refuse S y0 (1 : Int32)).bind fun q3 =>
  if q3.1 = 0 then
  ((F_X5_laysPaid q3.2).bind fun q4 =>
  if x2 = 0 then
  ((F_X5_paidTo q4 x1).bind fun q7 =>
  (F_X5_givenOf q4 x1).bind fun q8 =>
  some ((q7 - q8), q4))
  else
  (if x2 = (1 : Int32) then
  ((F_X5_givenOf q4 x1).bind fun q6 =>
  some (q6, q4))
  else
  ((F_X5_paidTo q4 x1).bind fun q5 =>
  some (q5, q4))))
  else
  (some ((-1 : Int64), q3.2))
def J_X5_gets_25 (S : MS) (x1 : Int32) (x2 : Int32) : Option (Int64 × MS) :=
  J_X5_gets_30 S x1 x2 (1 : Int32)
def F_X5_gets (S : MS) (x1 : Int32) (x2 : Int32) : Option (Int64 × MS) :=
  (F_X5_begins S).bind fun q1 =>
  (F_X5_isClaim q1 x1).bind fun q2 =>
  if q2 = 0 then
  (J_X5_gets_25 q1 x1 x2)
  else
  ((F_X5_in x2.toInt64 (0 : Int64) (2 : Int64)).bind fun q9 =>
  if q9 = 0 then
  (J_X5_gets_25 q1 x1 x2)
  else
  (J_X5_gets_30 q1 x1 x2 (0 : Int32)))
def J_X5_cover_96 (k : MS → Int64 → Option (Int64 × MS)) (rc : MS → Int64 → Int32 → Option (Int64 × MS)) (S : MS) (x1 : Int32) (x2 : Int32) (x5 : Int32) (y0 : Int64) (y1 : Int64) : Option (Int64 × MS) :=
  nm ((y1 - y0) : Int64) fun v8 =>
  nm (x5 + 1 : Int32) fun v9 =>
  rc S v8 v9
def B_X5_cover_52 (x1 : Int32) (x2 : Int32) (k : MS → Int64 → Option (Int64 × MS)) (rc : MS → Int64 → Int32 → Option (Int64 × MS)) (S : MS) (x3 : Int64) (x5 : Int32) : Option (Int64 × MS) :=
  (rdI (m_s S) (1 : Int32)).bind fun v6 =>
  if v6 ≤ x5 then
  (k S x3)
  else
  ((F_X5_ofClaim (m_s S) x5 (0 : Int32)).bind fun q7 =>
  if q7 = (1 : Int32) then
  ((rdL (m_paid S) ((((16 : Int32) * x1) + (4 : Int32)) + x5)).bind fun v10 =>
  J_X5_cover_96 k rc S x1 x2 x5 v10 x3)
  else
  (J_X5_cover_96 k rc S x1 x2 x5 (0 : Int64) x3))
def J_X5_cover_28 (S : MS) (x1 : Int32) (x2 : Int32) (y0 : Int32) : Option (Int64 × MS) :=
  (F_X5_refuse S y0 (1 : Int32)).bind fun q3 =>
  if q3.1 = 0 then
  ((F_X5_laysPaid q3.2).bind fun q4 =>
  (F_X5_paidBy q4 x1).bind fun q5 =>
  lo3 (B_X5_cover_52 x1 x2 (fun S11 z12 => (dvL (z12 * (3 : Int64)) (4 : Int64)).bind fun v13 =>
  (F_X5_ofShip (m_s S11) x1 (3 : Int32)).bind fun q14 =>
  (dvL (q14.toInt64 * (3 : Int64)) (4 : Int64)).bind fun v15 =>
  (F_X5_lesser v13 v15).bind fun q16 =>
  if x2 = 0 then
  (some (q16, S11))
  else
  ((F_X5_paidBy S11 x1).bind fun q17 =>
  some ((q17 - q16), S11)))) FU q4 q5 (0 : Int32))
  else
  (some ((-1 : Int64), q3.2))
def J_X5_cover_23 (S : MS) (x1 : Int32) (x2 : Int32) : Option (Int64 × MS) :=
  J_X5_cover_28 S x1 x2 (1 : Int32)
def F_X5_cover (S : MS) (x1 : Int32) (x2 : Int32) : Option (Int64 × MS) :=
  (F_X5_begins S).bind fun q1 =>
  (F_X5_isShip q1 x1).bind fun q2 =>
  if q2 = 0 then
  (J_X5_cover_23 q1 x1 x2)
  else
  ((F_X5_in x2.toInt64 (0 : Int64) (1 : Int64)).bind fun q18 =>
  if q18 = 0 then
  (J_X5_cover_23 q1 x1 x2)
  else
  (J_X5_cover_28 q1 x1 x2 (0 : Int32)))
def J_X5_net_18 (S : MS) (x1 : Int32) (y0 : Int32) : Option (Int64 × MS) :=
  (F_X5_refuse S y0 (1 : Int32)).bind fun q3 =>
  if q3.1 = 0 then
  ((F_X5_laysPaid q3.2).bind fun q4 =>
  (F_X5_netOf q4 x1).bind fun q5 =>
  some (q5, q4))
  else
  (some ((-1000000000000 : Int64), q3.2))
def F_X5_net (S : MS) (x1 : Int32) : Option (Int64 × MS) :=
  (F_X5_begins S).bind fun q1 =>
  (F_X5_isShip q1 x1).bind fun q2 =>
  if q2 = 0 then
  (J_X5_net_18 q1 x1 (1 : Int32))
  else
  (J_X5_net_18 q1 x1 (0 : Int32))
def B_X5_netWith_6 (x1 : Int32) (x2 : Int32) (k : MS → Option (Int64 × MS)) (rc : MS → Int32 → Option (Int64 × MS)) (S : MS) (x3 : Int32) : Option (Int64 × MS) :=
  if (3 : Int32) ≤ x3 then
  (k S)
  else
  ((wrI (m_w S) ((2 : Int32) + x3) ((x2 >>> (x3 &&& 31)) &&& (1 : Int32))).bind fun f2 =>
  nm (ms_w S f2 : MS) fun S3 =>
  nm (x3 + 1 : Int32) fun v4 =>
  rc S3 v4)
def F_X5_netWith (S : MS) (x1 : Int32) (x2 : Int32) : Option (Int64 × MS) :=
  (F_X5_lays S).bind fun q1 =>
  lo2 (B_X5_netWith_6 x1 x2 (fun S5 => (F_X5_paysAll S5).bind fun q6 =>
  (F_X5_netOf q6 x1).bind fun q7 =>
  some (q7, q6))) FU q1 (0 : Int32)
def J_X5_netBy_50 (S : MS) : Option (Int64 × MS) :=
  some ((-1000000000000 : Int64), S)
def J_X5_netBy_43 (S : MS) (x1 : Int32) (x2 : Int32) (y0 : Int32) : Option (Int64 × MS) :=
  (F_X5_refuse S y0 (2 : Int32)).bind fun q5 =>
  if q5.1 = 0 then
  ((F_X5_netWith q5.2 x1 x2).bind fun q6 =>
  some (q6.1, q6.2))
  else
  (J_X5_netBy_50 q5.2)
def J_X5_netBy_18 (S : MS) (x1 : Int32) (x2 : Int32) (y0 : Int32) : Option (Int64 × MS) :=
  (F_X5_refuse S y0 (1 : Int32)).bind fun q3 =>
  if q3.1 = 0 then
  ((F_X5_in x2.toInt64 (0 : Int64) (7 : Int64)).bind fun q4 =>
  if q4 = 0 then
  (J_X5_netBy_43 q3.2 x1 x2 (1 : Int32))
  else
  (J_X5_netBy_43 q3.2 x1 x2 (0 : Int32)))
  else
  (J_X5_netBy_50 q3.2)
def F_X5_netBy (S : MS) (x1 : Int32) (x2 : Int32) : Option (Int64 × MS) :=
  (F_X5_begins S).bind fun q1 =>
  (F_X5_isShip q1 x1).bind fun q2 =>
  if q2 = 0 then
  (J_X5_netBy_18 q1 x1 x2 (1 : Int32))
  else
  (J_X5_netBy_18 q1 x1 x2 (0 : Int32))
def J_X5_wished_68 (k : MS → Int32 → Option (Int32 × MS)) (rc : MS → Int32 → Int64 → Int32 → Option (Int32 × MS)) (S : MS) (x1 : Int32) (x2 : Int32) (x3 : Int64) (x5 : Int32) : Option (Int32 × MS) :=
  nm (x5 + 1 : Int32) fun v6 =>
  rc S x2 x3 v6
def B_X5_wished_39 (x1 : Int32) (k : MS → Int32 → Option (Int32 × MS)) (rc : MS → Int32 → Int64 → Int32 → Option (Int32 × MS)) (S : MS) (x2 : Int32) (x3 : Int64) (x5 : Int32) : Option (Int32 × MS) :=
  if (8 : Int32) ≤ x5 then
  (k S x2)
  else
  ((F_X5_netWith S x1 x5).bind fun q5 =>
  if (lg_cmp q5.1 x3) ≤ 0 then
  (J_X5_wished_68 k rc q5.2 x1 x2 x3 x5)
  else
  (J_X5_wished_68 k rc q5.2 x1 x5 q5.1 x5))
def J_X5_wished_18 (S : MS) (x1 : Int32) (y0 : Int32) : Option (Int32 × MS) :=
  (F_X5_refuse S y0 (1 : Int32)).bind fun q3 =>
  if q3.1 = 0 then
  ((F_X5_netWith q3.2 x1 (0 : Int32)).bind fun q4 =>
  lo4 (B_X5_wished_39 x1 (fun S7 z8 => some (z8, S7))) FU q4.2 (0 : Int32) q4.1 (1 : Int32))
  else
  (some ((-1 : Int32), q3.2))
def F_X5_wished (S : MS) (x1 : Int32) : Option (Int32 × MS) :=
  (F_X5_begins S).bind fun q1 =>
  (F_X5_isShip q1 x1).bind fun q2 =>
  if q2 = 0 then
  (J_X5_wished_18 q1 x1 (1 : Int32))
  else
  (J_X5_wished_18 q1 x1 (0 : Int32))
def J_X5_gap_18 (S : MS) (x1 : Int32) (y0 : Int32) : Option (Int64 × MS) :=
  (F_X5_refuse S y0 (1 : Int32)).bind fun q3 =>
  if q3.1 = 0 then
  ((rdI (m_s q3.2) (2 : Int32)).bind fun v4 =>
  (rdI (m_s q3.2) (3 : Int32)).bind fun v5 =>
  nm ((v4 + ((2 : Int32) * v5)) : Int32) fun v6 =>
  (F_X5_netWith q3.2 x1 (v6 + (4 : Int32))).bind fun q7 =>
  (F_X5_netWith q7.2 x1 v6).bind fun q8 =>
  some ((q7.1 - q8.1), q8.2))
  else
  (some ((-1000000000000 : Int64), q3.2))
def F_X5_gap (S : MS) (x1 : Int32) : Option (Int64 × MS) :=
  (F_X5_begins S).bind fun q1 =>
  (F_X5_isShip q1 x1).bind fun q2 =>
  if q2 = 0 then
  (J_X5_gap_18 q1 x1 (1 : Int32))
  else
  (J_X5_gap_18 q1 x1 (0 : Int32))
def B_X5_neededOf_10 (x1 : Int32) (k : MS → Int64 → Option (Int64 × MS)) (rc : MS → Int64 → Int32 → Option (Int64 × MS)) (S : MS) (x2 : Int64) (x4 : Int32) : Option (Int64 × MS) :=
  (rdI (m_w S) (0 : Int32)).bind fun v2 =>
  if v2 ≤ x4 then
  (k S x2)
  else
  ((F_X5_lawOwed (m_w S) x1 x4).bind fun q3 =>
  nm ((x2 + q3) : Int64) fun v4 =>
  nm (x4 + 1 : Int32) fun v5 =>
  rc S v4 v5)
def B_X5_neededOf_43 (x1 : Int32) (k : MS → Int64 → Option (Int64 × MS)) (rc : MS → Int64 → Int32 → Option (Int64 × MS)) (S : MS) (x2 : Int64) (x4 : Int32) : Option (Int64 × MS) :=
  (rdI (m_w S) (1 : Int32)).bind fun v8 =>
  if v8 ≤ x4 then
  (k S x2)
  else
  ((F_X5_debtOf (m_w S) x1 x4).bind fun q9 =>
  (rdL (m_out S) ((4 : Int32) + x4)).bind fun v10 =>
  nm ((x2 + (q9 - v10)) : Int64) fun v11 =>
  nm (x4 + 1 : Int32) fun v12 =>
  rc S v11 v12)
def F_X5_neededOf (S : MS) (x1 : Int32) : Option (Int64 × MS) :=
  (F_X5_sharesLives S x1).bind fun q1 =>
  lo3 (B_X5_neededOf_10 x1 (fun S6 z7 => lo3 (B_X5_neededOf_43 x1 (fun S13 z14 => some (z14, S13))) FU S6 z7 (0 : Int32))) FU q1 (0 : Int64) (0 : Int32)
def J_X5_enough_120 (k : MS → Int64 → Option (Int32 × MS)) (rc : MS → Int64 → Int32 → Option (Int32 × MS)) (S : MS) : Option (Int32 × MS) :=
  some ((-2 : Int32), S)
def J_X5_enough_130 (k : MS → Int64 → Option (Int32 × MS)) (rc : MS → Int64 → Int32 → Option (Int32 × MS)) (S : MS) (x1 : Int64) (x3 : Int32) : Option (Int32 × MS) :=
  nm (x3 + 1 : Int32) fun v12 =>
  rc S x1 v12
def B_X5_enough_34 (k : MS → Int64 → Option (Int32 × MS)) (rc : MS → Int64 → Int32 → Option (Int32 × MS)) (S : MS) (x1 : Int64) (x3 : Int32) : Option (Int32 × MS) :=
  (rdI (m_w S) (0 : Int32)).bind fun v4 =>
  if v4 ≤ x3 then
  (k S x1)
  else
  ((F_X5_ofShip (m_w S) x3 (5 : Int32)).bind fun q5 =>
  if q5 = (1 : Int32) then
  (J_X5_enough_130 k rc S x1 x3)
  else
  ((F_X5_neededOf S x3).bind fun q6 =>
  (F_X5_ofShip (m_w q6.2) x3 (0 : Int32)).bind fun q7 =>
  (rdI (m_w q6.2) (7 : Int32)).bind fun v8 =>
  (F_X5_greater q7.toInt64 v8.toInt64).bind fun q9 =>
  (dvL ((q6.1 + q9) - (1 : Int64)) q9).bind fun v10 =>
  if 0 < (lg_cmp q6.1 (2000000000 : Int64)) then
  (J_X5_enough_120 k rc q6.2)
  else
  (if (lg_cmp v10 (99999 : Int64)) ≤ 0 then
  ((F_X5_greater x1 v10).bind fun q11 =>
  J_X5_enough_130 k rc q6.2 q11 x3)
  else
  (J_X5_enough_120 k rc q6.2))))
def J_X5_enough_17 (S : MS) (y0 : Int32) : Option (Int32 × MS) :=
  (F_X5_refuse S y0 (1 : Int32)).bind fun q2 =>
  if q2.1 = 0 then
  ((F_X5_lays q2.2).bind fun q3 =>
  lo3 (B_X5_enough_34 (fun S13 z14 => some (z14.toInt32, S13))) FU q3 (0 : Int64) (0 : Int32))
  else
  (some ((-1 : Int32), q2.2))
def F_X5_enough (S : MS) : Option (Int32 × MS) :=
  (F_X5_begins S).bind fun q1 =>
  if (m_told q1) = 0 then
  (J_X5_enough_17 q1 (1 : Int32))
  else
  (J_X5_enough_17 q1 (0 : Int32))
def F_X5_netShifted (S : MS) (x1 : Int32) (x2 : Int32) (x3 : Int32) : Option (Int64 × MS) :=
  (F_X5_lays S).bind fun q1 =>
  (F_X5_ofShip (m_w q1) x1 (1 : Int32)).bind fun q2 =>
  (F_X5_ofShip (m_w q1) x2 (1 : Int32)).bind fun q3 =>
  nm ((q2 + q3) : Int32) fun v4 =>
  (wrI (m_w q1) (((10 : Int32) + ((6 : Int32) * x1)) + (1 : Int32)) x3).bind fun f5 =>
  nm (ms_w q1 f5 : MS) fun S6 =>
  (wrI (m_w S6) (((10 : Int32) + ((6 : Int32) * x2)) + (1 : Int32)) (v4 - x3)).bind fun f7 =>
  nm (ms_w S6 f7 : MS) fun S8 =>
  (F_X5_paysAll S8).bind fun q9 =>
  (F_X5_netOf q9 x1).bind fun q10 =>
  some (q10, q9)
def J_X5_would_51 (S : MS) : Option (Int64 × MS) :=
  some ((-1000000000000 : Int64), S)
def J_X5_would_90 (S : MS) (x1 : Int32) (x2 : Int32) (x3 : Int32) (y0 : Int32) : Option (Int64 × MS) :=
  (F_X5_refuse S y0 (2 : Int32)).bind fun q8 =>
  if q8.1 = 0 then
  ((F_X5_netShifted q8.2 x1 x2 x3).bind fun q9 =>
  some (q9.1, q9.2))
  else
  (some ((-1000000000000 : Int64), q8.2))
def J_X5_would_44 (S : MS) (x1 : Int32) (x2 : Int32) (x3 : Int32) (y0 : Int32) : Option (Int64 × MS) :=
  (F_X5_refuse S y0 (5 : Int32)).bind fun q4 =>
  if q4.1 = 0 then
  ((F_X5_ofShip (m_s q4.2) x1 (1 : Int32)).bind fun q5 =>
  (F_X5_ofShip (m_s q4.2) x2 (1 : Int32)).bind fun q6 =>
  (F_X5_in x3.toInt64 (0 : Int64) ((q5 + q6).toInt64)).bind fun q7 =>
  if q7 = 0 then
  (J_X5_would_90 q4.2 x1 x2 x3 (1 : Int32))
  else
  (J_X5_would_90 q4.2 x1 x2 x3 (0 : Int32)))
  else
  (J_X5_would_51 q4.2)
def J_X5_would_26 (S : MS) (x1 : Int32) (x2 : Int32) (x3 : Int32) (y0 : Int32) : Option (Int64 × MS) :=
  (F_X5_refuse S y0 (1 : Int32)).bind fun q3 =>
  if q3.1 = 0 then
  (if x1 = x2 then
  (J_X5_would_44 q3.2 x1 x2 x3 (1 : Int32))
  else
  (J_X5_would_44 q3.2 x1 x2 x3 (0 : Int32)))
  else
  (J_X5_would_51 q3.2)
def J_X5_would_21 (S : MS) (x1 : Int32) (x2 : Int32) (x3 : Int32) : Option (Int64 × MS) :=
  J_X5_would_26 S x1 x2 x3 (1 : Int32)
def F_X5_would (S : MS) (x1 : Int32) (x2 : Int32) (x3 : Int32) : Option (Int64 × MS) :=
  (F_X5_begins S).bind fun q1 =>
  (F_X5_isShip q1 x1).bind fun q2 =>
  if q2 = 0 then
  (J_X5_would_21 q1 x1 x2 x3)
  else
  ((F_X5_isShip q1 x2).bind fun q10 =>
  if q10 = 0 then
  (J_X5_would_21 q1 x1 x2 x3)
  else
  (J_X5_would_26 q1 x1 x2 x3 (0 : Int32)))
def B_X5_worse_104 (x1 : Int32) (x2 : Int32) (x3 : Int32) (x4 : Int32) (k : MS → Option (Int32 × MS)) (rc : MS → Int32 → Option (Int32 × MS)) (S : MS) (x5 : Int32) : Option (Int32 × MS) :=
  if x4 < x5 then
  (k S)
  else
  ((F_X5_netShifted S x1 x2 x5).bind fun q10 =>
  if 0 ≤ (lg_cmp q10.1 x3.toInt64) then
  (nm (x5 + 1 : Int32) fun v11 =>
  rc q10.2 v11)
  else
  (some (x5, q10.2)))
def J_X5_worse_71 (S : MS) (x1 : Int32) (x2 : Int32) (x3 : Int32) (y0 : Int32) : Option (Int32 × MS) :=
  (F_X5_refuse S y0 (5 : Int32)).bind fun q6 =>
  if q6.1 = 0 then
  ((F_X5_ofShip (m_s q6.2) x1 (1 : Int32)).bind fun q7 =>
  (F_X5_ofShip (m_s q6.2) x2 (1 : Int32)).bind fun q8 =>
  nm ((q7 + q8) : Int32) fun v9 =>
  lo2 (B_X5_worse_104 x1 x2 x3 v9 (fun S12 => some ((-2 : Int32), S12))) FU q6.2 (0 : Int32))
  else
  (some ((-1 : Int32), q6.2))
def J_X5_worse_53 (S : MS) (x1 : Int32) (x2 : Int32) (x3 : Int32) (y0 : Int32) : Option (Int32 × MS) :=
  (F_X5_refuse S y0 (2 : Int32)).bind fun q5 =>
  if q5.1 = 0 then
  (if x1 = x2 then
  (J_X5_worse_71 q5.2 x1 x2 x3 (1 : Int32))
  else
  (J_X5_worse_71 q5.2 x1 x2 x3 (0 : Int32)))
  else
  (some ((-1 : Int32), q5.2))
def J_X5_worse_26 (S : MS) (x1 : Int32) (x2 : Int32) (x3 : Int32) (y0 : Int32) : Option (Int32 × MS) :=
  (F_X5_refuse S y0 (1 : Int32)).bind fun q3 =>
  if q3.1 = 0 then
  ((F_X5_in x3.toInt64 (-1000000000 : Int64) (1000000000 : Int64)).bind fun q4 =>
  if q4 = 0 then
  (J_X5_worse_53 q3.2 x1 x2 x3 (1 : Int32))
  else
  (J_X5_worse_53 q3.2 x1 x2 x3 (0 : Int32)))
  else
  (some ((-1 : Int32), q3.2))
def J_X5_worse_21 (S : MS) (x1 : Int32) (x2 : Int32) (x3 : Int32) : Option (Int32 × MS) :=
  J_X5_worse_26 S x1 x2 x3 (1 : Int32)
def F_X5_worse (S : MS) (x1 : Int32) (x2 : Int32) (x3 : Int32) : Option (Int32 × MS) :=
  (F_X5_begins S).bind fun q1 =>
  (F_X5_isShip q1 x1).bind fun q2 =>
  if q2 = 0 then
  (J_X5_worse_21 q1 x1 x2 x3)
  else
  ((F_X5_isShip q1 x2).bind fun q13 =>
  if q13 = 0 then
  (J_X5_worse_21 q1 x1 x2 x3)
  else
  (J_X5_worse_26 q1 x1 x2 x3 (0 : Int32)))
def F_X5_draw (S : MS) (x1 : Int32) : Option (Int32 × MS) :=
  (rmL ((m_drawn S) * (48271 : Int64)) (2147483647 : Int64)).bind fun v1 =>
  nm (ms_drawn S v1 : MS) fun S2 =>
  (rmL (m_drawn S2) x1.toInt64).bind fun v3 =>
  some (v3.toInt32, S2)
def B_X5_netJudged_6 (x1 : Int32) (k : MS → Option (Int64 × MS)) (rc : MS → Int32 → Option (Int64 × MS)) (S : MS) (x2 : Int32) : Option (Int64 × MS) :=
  (rdI (m_w S) (0 : Int32)).bind fun v2 =>
  if v2 ≤ x2 then
  (k S)
  else
  ((wrI (m_w S) (((10 : Int32) + ((6 : Int32) * x2)) + (1 : Int32)) (0 : Int32)).bind fun f3 =>
  nm (ms_w S f3 : MS) fun S4 =>
  nm (x2 + 1 : Int32) fun v5 =>
  rc S4 v5)
def B_X5_netJudged_39 (x1 : Int32) (k : MS → Option (Int64 × MS)) (rc : MS → Int32 → Option (Int64 × MS)) (S : MS) (x2 : Int32) : Option (Int64 × MS) :=
  if (10 : Int32) ≤ x2 then
  (k S)
  else
  ((rdI (m_w S) (0 : Int32)).bind fun v7 =>
  (F_X5_draw S v7).bind fun q8 =>
  nm ((((10 : Int32) + ((6 : Int32) * q8.1)) + (1 : Int32)) : Int32) fun v9 =>
  (rdI (m_w q8.2) v9).bind fun v10 =>
  (wrI (m_w q8.2) v9 (v10 + (1 : Int32))).bind fun f11 =>
  nm (ms_w q8.2 f11 : MS) fun S12 =>
  nm (x2 + 1 : Int32) fun v13 =>
  rc S12 v13)
def F_X5_netJudged (S : MS) (x1 : Int32) : Option (Int64 × MS) :=
  (F_X5_lays S).bind fun q1 =>
  lo2 (B_X5_netJudged_6 x1 (fun S6 => lo2 (B_X5_netJudged_39 x1 (fun S14 => (F_X5_paysAll S14).bind fun q15 =>
  (F_X5_netOf q15 x1).bind fun q16 =>
  some (q16, q15))) FU S6 (0 : Int32))) FU q1 (0 : Int32)
def J_X5_judged_75 (S : MS) : Option (Int64 × MS) :=
  some ((-1000000000000 : Int64), S)
def J_X5_judged_153 (k : MS → Int64 → Int64 → Int64 → Option (Int64 × MS)) (rc : MS → Int64 → Int64 → Int64 → Int32 → Option (Int64 × MS)) (S : MS) (x1 : Int32) (x3 : Int32) (x4 : Int32) (x5 : Int64) (x7 : Int64) (x11 : Int32) (y0 : Int64) : Option (Int64 × MS) :=
  nm (x11 + 1 : Int32) fun v11 =>
  rc S x5 x7 y0 v11
def J_X5_judged_134 (k : MS → Int64 → Int64 → Int64 → Option (Int64 × MS)) (rc : MS → Int64 → Int64 → Int64 → Int32 → Option (Int64 × MS)) (S : MS) (x1 : Int32) (x3 : Int32) (x4 : Int32) (x5 : Int64) (x9 : Int64) (x11 : Int32) (x12 : Int64) (y0 : Int64) : Option (Int64 × MS) :=
  if x11 = 0 then
  (J_X5_judged_153 k rc S x1 x3 x4 x5 y0 x11 x12)
  else
  ((F_X5_greater x9 x12).bind fun q10 =>
  J_X5_judged_153 k rc S x1 x3 x4 x5 y0 x11 q10)
def B_X5_judged_97 (x1 : Int32) (x3 : Int32) (x4 : Int32) (k : MS → Int64 → Int64 → Int64 → Option (Int64 × MS)) (rc : MS → Int64 → Int64 → Int64 → Int32 → Option (Int64 × MS)) (S : MS) (x5 : Int64) (x7 : Int64) (x9 : Int64) (x11 : Int32) : Option (Int64 × MS) :=
  if x3 ≤ x11 then
  (k S x5 x7 x9)
  else
  ((F_X5_netJudged S x1).bind fun q7 =>
  nm ((x5 + q7.1) : Int64) fun v8 =>
  if x11 = 0 then
  (J_X5_judged_134 k rc q7.2 x1 x3 x4 v8 x9 x11 q7.1 q7.1)
  else
  ((F_X5_lesser x7 q7.1).bind fun q9 =>
  J_X5_judged_134 k rc q7.2 x1 x3 x4 v8 x9 x11 q7.1 q9))
def J_X5_judged_68 (S : MS) (x1 : Int32) (x2 : Int32) (x3 : Int32) (x4 : Int32) (y0 : Int32) : Option (Int64 × MS) :=
  (F_X5_refuse S y0 (2 : Int32)).bind fun q5 =>
  if q5.1 = 0 then
  (nm (ms_drawn q5.2 x2.toInt64 : MS) fun S6 =>
  lo5 (B_X5_judged_97 x1 x3 x4 (fun S12 z13 z14 z15 => if x4 = 0 then
  (some (z13, S12))
  else
  (if x4 = (1 : Int32) then
  (some (z14, S12))
  else
  (some (z15, S12))))) FU S6 (0 : Int64) (0 : Int64) (0 : Int64) (0 : Int32))
  else
  (J_X5_judged_75 q5.2)
def J_X5_judged_63 (S : MS) (x1 : Int32) (x2 : Int32) (x3 : Int32) (x4 : Int32) : Option (Int64 × MS) :=
  J_X5_judged_68 S x1 x2 x3 x4 (1 : Int32)
def J_X5_judged_31 (S : MS) (x1 : Int32) (x2 : Int32) (x3 : Int32) (x4 : Int32) (y0 : Int32) : Option (Int64 × MS) :=
  (F_X5_refuse S y0 (1 : Int32)).bind fun q3 =>
  if q3.1 = 0 then
  ((F_X5_in x2.toInt64 (1 : Int64) (2147483646 : Int64)).bind fun q4 =>
  if q4 = 0 then
  (J_X5_judged_63 q3.2 x1 x2 x3 x4)
  else
  ((F_X5_in x3.toInt64 (1 : Int64) (50 : Int64)).bind fun q16 =>
  if q16 = 0 then
  (J_X5_judged_63 q3.2 x1 x2 x3 x4)
  else
  (J_X5_judged_68 q3.2 x1 x2 x3 x4 (0 : Int32))))
  else
  (J_X5_judged_75 q3.2)
def J_X5_judged_26 (S : MS) (x1 : Int32) (x2 : Int32) (x3 : Int32) (x4 : Int32) : Option (Int64 × MS) :=
  J_X5_judged_31 S x1 x2 x3 x4 (1 : Int32)
def F_X5_judged (S : MS) (x1 : Int32) (x2 : Int32) (x3 : Int32) (x4 : Int32) : Option (Int64 × MS) :=
  (F_X5_begins S).bind fun q1 =>
  (F_X5_isShip q1 x1).bind fun q2 =>
  if q2 = 0 then
  (J_X5_judged_26 q1 x1 x2 x3 x4)
  else
  ((F_X5_in x4.toInt64 (0 : Int64) (2 : Int64)).bind fun q17 =>
  if q17 = 0 then
  (J_X5_judged_26 q1 x1 x2 x3 x4)
  else
  (J_X5_judged_31 q1 x1 x2 x3 x4 (0 : Int32)))
def B_X5_all_36 (k : MS → Int64 → Option (Int64 × MS)) (rc : MS → Int64 → Int32 → Option (Int64 × MS)) (S : MS) (x1 : Int64) (x3 : Int32) : Option (Int64 × MS) :=
  (rdI (m_w S) (0 : Int32)).bind fun v4 =>
  if v4 ≤ x3 then
  (k S x1)
  else
  ((F_X5_netOf S x3).bind fun q5 =>
  nm ((x1 + q5) : Int64) fun v6 =>
  nm (x3 + 1 : Int32) fun v7 =>
  rc S v6 v7)
def B_X5_all_62 (k : MS → Int64 → Option (Int64 × MS)) (rc : MS → Int64 → Int32 → Option (Int64 × MS)) (S : MS) (x1 : Int64) (x3 : Int32) : Option (Int64 × MS) :=
  (rdI (m_w S) (1 : Int32)).bind fun v10 =>
  if v10 ≤ x3 then
  (k S x1)
  else
  ((F_X5_paidTo S x3).bind fun q11 =>
  (F_X5_givenOf S x3).bind fun q12 =>
  nm ((x1 + (q11 - q12)) : Int64) fun v13 =>
  nm (x3 + 1 : Int32) fun v14 =>
  rc S v13 v14)
def J_X5_all_17 (S : MS) (y0 : Int32) : Option (Int64 × MS) :=
  (F_X5_refuse S y0 (1 : Int32)).bind fun q2 =>
  if q2.1 = 0 then
  ((F_X5_laysPaid q2.2).bind fun q3 =>
  lo3 (B_X5_all_36 (fun S8 z9 => lo3 (B_X5_all_62 (fun S15 z16 => some (z16, S15))) FU S8 z9 (0 : Int32))) FU q3 (0 : Int64) (0 : Int32))
  else
  (some ((-1000000000000 : Int64), q2.2))
def F_X5_all (S : MS) : Option (Int64 × MS) :=
  (F_X5_begins S).bind fun q1 =>
  if (m_told q1) = 0 then
  (J_X5_all_17 q1 (1 : Int32))
  else
  (J_X5_all_17 q1 (0 : Int32))
def B_X5_keeps_51 (k : MS → Option (MS)) (rc : MS → Int32 → Option (MS)) (S : MS) (x1 : Int32) : Option (MS) :=
  if (82 : Int32) ≤ x1 then
  (k S)
  else
  ((rdI (m_s S) x1).bind fun v1 =>
  (wrI (m_past S) (((82 : Int32) * (m_acts S)) + x1) v1).bind fun f2 =>
  nm (ms_past S f2 : MS) fun S3 =>
  nm (x1 + 1 : Int32) fun v4 =>
  rc S3 v4)
def J_X5_keeps_49 (S : MS) : Option (MS) :=
  lo2 (B_X5_keeps_51 (fun S5 => nm (ms_acts S5 ((m_acts S5) + (1 : Int32)) : MS) fun S6 =>
  some S6)) FU S (0 : Int32)
def B_X5_keeps_11 (k : MS → Option (MS)) (rc : MS → Int32 → Option (MS)) (S : MS) (x1 : Int32) : Option (MS) :=
  if (738 : Int32) ≤ x1 then
  (k S)
  else
  ((rdI (m_past S) (x1 + (82 : Int32))).bind fun v7 =>
  (wrI (m_past S) x1 v7).bind fun f8 =>
  nm (ms_past S f8 : MS) fun S9 =>
  nm (x1 + 1 : Int32) fun v10 =>
  rc S9 v10)
def F_X5_keeps (S : MS) : Option (MS) :=
  if (m_acts S) = (10 : Int32) then
  (lo2 (B_X5_keeps_11 (fun S11 => nm (ms_acts S11 ((m_acts S11) - (1 : Int32)) : MS) fun S12 =>
  J_X5_keeps_49 S12)) FU S (0 : Int32))
  else
  (J_X5_keeps_49 S)
def J_X5_shift_82 (S : MS) (x1 : Int32) (x2 : Int32) (x3 : Int32) (y0 : Int32) : Option (Int32 × MS) :=
  (F_X5_refuse S y0 (5 : Int32)).bind fun q6 =>
  if q6.1 = 0 then
  ((F_X5_keeps q6.2).bind fun q7 =>
  nm ((((10 : Int32) + ((6 : Int32) * x1)) + (1 : Int32)) : Int32) fun v8 =>
  (rdI (m_s q7) v8).bind fun v9 =>
  (wrI (m_s q7) v8 (v9 - x3)).bind fun f10 =>
  nm (ms_s q7 f10 : MS) fun S11 =>
  nm ((((10 : Int32) + ((6 : Int32) * x2)) + (1 : Int32)) : Int32) fun v12 =>
  (rdI (m_s S11) v12).bind fun v13 =>
  (wrI (m_s S11) v12 (v13 + x3)).bind fun f14 =>
  nm (ms_s S11 f14 : MS) fun S15 =>
  (F_X5_ofShip (m_s S15) x2 (1 : Int32)).bind fun q16 =>
  some (q16, S15))
  else
  (some ((-1 : Int32), q6.2))
def J_X5_shift_77 (S : MS) (x1 : Int32) (x2 : Int32) (x3 : Int32) : Option (Int32 × MS) :=
  J_X5_shift_82 S x1 x2 x3 (1 : Int32)
def J_X5_shift_51 (S : MS) (x1 : Int32) (x2 : Int32) (x3 : Int32) (y0 : Int32) : Option (Int32 × MS) :=
  (F_X5_refuse S y0 (2 : Int32)).bind fun q5 =>
  if q5.1 = 0 then
  (if x1 = x2 then
  (J_X5_shift_77 q5.2 x1 x2 x3)
  else
  ((F_X5_ofShip (m_s q5.2) x1 (1 : Int32)).bind fun q17 =>
  if x3 ≤ q17 then
  (J_X5_shift_82 q5.2 x1 x2 x3 (0 : Int32))
  else
  (J_X5_shift_77 q5.2 x1 x2 x3)))
  else
  (some ((-1 : Int32), q5.2))
def J_X5_shift_26 (S : MS) (x1 : Int32) (x2 : Int32) (x3 : Int32) (y0 : Int32) : Option (Int32 × MS) :=
  (F_X5_refuse S y0 (1 : Int32)).bind fun q3 =>
  if q3.1 = 0 then
  ((F_X5_in x3.toInt64 (1 : Int64) (10 : Int64)).bind fun q4 =>
  if q4 = 0 then
  (J_X5_shift_51 q3.2 x1 x2 x3 (1 : Int32))
  else
  (J_X5_shift_51 q3.2 x1 x2 x3 (0 : Int32)))
  else
  (some ((-1 : Int32), q3.2))
def J_X5_shift_21 (S : MS) (x1 : Int32) (x2 : Int32) (x3 : Int32) : Option (Int32 × MS) :=
  J_X5_shift_26 S x1 x2 x3 (1 : Int32)
def F_X5_shift (S : MS) (x1 : Int32) (x2 : Int32) (x3 : Int32) : Option (Int32 × MS) :=
  (F_X5_begins S).bind fun q1 =>
  (F_X5_isShip q1 x1).bind fun q2 =>
  if q2 = 0 then
  (J_X5_shift_21 q1 x1 x2 x3)
  else
  ((F_X5_isShip q1 x2).bind fun q18 =>
  if q18 = 0 then
  (J_X5_shift_21 q1 x1 x2 x3)
  else
  (J_X5_shift_26 q1 x1 x2 x3 (0 : Int32)))
def J_X5_file_159 (S : MS) (x3 : Int32) (x4 : Int32) (x5 : Int32) (y0 : Int32) (y1 : Int32) : Option (Int32 × MS) :=
  (wrI (m_s S) y1 y0).bind fun f12 =>
  nm (ms_s S f12 : MS) fun S13 =>
  (wrI (m_s S13) (x5 + (2 : Int32)) x3).bind fun f14 =>
  nm (ms_s S13 f14 : MS) fun S15 =>
  (wrI (m_s S15) (x5 + (3 : Int32)) x4).bind fun f16 =>
  nm (ms_s S15 f16 : MS) fun S17 =>
  (rdI (m_s S17) (1 : Int32)).bind fun v18 =>
  (wrI (m_s S17) (1 : Int32) (v18 + (1 : Int32))).bind fun f19 =>
  nm (ms_s S17 f19 : MS) fun S20 =>
  (rdI (m_s S20) (1 : Int32)).bind fun v21 =>
  some ((v21 - (1 : Int32)), S20)
def J_X5_file_105 (S : MS) (x1 : Int32) (x2 : Int32) (x3 : Int32) (x4 : Int32) (y0 : Int32) : Option (Int32 × MS) :=
  (F_X5_refuse S y0 (3 : Int32)).bind fun q6 =>
  if q6.1 = 0 then
  ((F_X5_keeps q6.2).bind fun q7 =>
  (rdI (m_s q7) (1 : Int32)).bind fun v8 =>
  nm (((34 : Int32) + ((4 : Int32) * v8)) : Int32) fun v9 =>
  (wrI (m_s q7) (v9 + (0 : Int32)) x1).bind fun f10 =>
  nm (ms_s q7 f10 : MS) fun S11 =>
  if x1 = 0 then
  (J_X5_file_159 S11 x3 x4 v9 x2 (v9 + (1 : Int32)))
  else
  (J_X5_file_159 S11 x3 x4 v9 (-2 : Int32) (v9 + (1 : Int32))))
  else
  (some ((-1 : Int32), q6.2))
def J_X5_file_81 (S : MS) (x1 : Int32) (x2 : Int32) (x3 : Int32) (x4 : Int32) (y0 : Int32) : Option (Int32 × MS) :=
  (F_X5_refuse S y0 (2 : Int32)).bind fun q4 =>
  if q4.1 = 0 then
  ((rdI (m_s q4.2) (1 : Int32)).bind fun v5 =>
  if v5 = (12 : Int32) then
  (J_X5_file_105 q4.2 x1 x2 x3 x4 (1 : Int32))
  else
  (J_X5_file_105 q4.2 x1 x2 x3 x4 (0 : Int32)))
  else
  (some ((-1 : Int32), q4.2))
def J_X5_file_76 (S : MS) (x1 : Int32) (x2 : Int32) (x3 : Int32) (x4 : Int32) : Option (Int32 × MS) :=
  J_X5_file_81 S x1 x2 x3 x4 (1 : Int32)
def J_X5_file_41 (S : MS) (x1 : Int32) (x2 : Int32) (x3 : Int32) (x4 : Int32) (y0 : Int32) : Option (Int32 × MS) :=
  (F_X5_refuse S y0 (1 : Int32)).bind fun q2 =>
  if q2.1 = 0 then
  ((F_X5_in x3.toInt64 (1 : Int64) (9999999 : Int64)).bind fun q3 =>
  if q3 = 0 then
  (J_X5_file_76 q2.2 x1 x2 x3 x4)
  else
  ((F_X5_in x4.toInt64 (0 : Int64) (999 : Int64)).bind fun q22 =>
  if q22 = 0 then
  (J_X5_file_76 q2.2 x1 x2 x3 x4)
  else
  (J_X5_file_81 q2.2 x1 x2 x3 x4 (0 : Int32))))
  else
  (some ((-1 : Int32), q2.2))
def J_X5_file_36 (S : MS) (x1 : Int32) (x2 : Int32) (x3 : Int32) (x4 : Int32) : Option (Int32 × MS) :=
  J_X5_file_41 S x1 x2 x3 x4 (1 : Int32)
def J_X5_file_40 (S : MS) (x1 : Int32) (x2 : Int32) (x3 : Int32) (x4 : Int32) : Option (Int32 × MS) :=
  J_X5_file_41 S x1 x2 x3 x4 (0 : Int32)
def F_X5_file (S : MS) (x1 : Int32) (x2 : Int32) (x3 : Int32) (x4 : Int32) : Option (Int32 × MS) :=
  (F_X5_begins S).bind fun q1 =>
  if (m_told q1) = 0 then
  (J_X5_file_36 q1 x1 x2 x3 x4)
  else
  ((F_X5_in x1.toInt64 (0 : Int64) (2 : Int64)).bind fun q23 =>
  if q23 = 0 then
  (J_X5_file_36 q1 x1 x2 x3 x4)
  else
  (if x1 = 0 then
  ((F_X5_isShip q1 x2).bind fun q24 =>
  if q24 = 0 then
  (J_X5_file_36 q1 x1 x2 x3 x4)
  else
  (J_X5_file_40 q1 x1 x2 x3 x4))
  else
  (J_X5_file_40 q1 x1 x2 x3 x4)))
def B_X5_withdraw_48 (k : MS → Option (Int32 × MS)) (rc : MS → Int32 → Option (Int32 × MS)) (S : MS) (x2 : Int32) : Option (Int32 × MS) :=
  (rdI (m_s S) (1 : Int32)).bind fun v9 =>
  if ((34 : Int32) + ((4 : Int32) * v9)) ≤ x2 then
  (k S)
  else
  ((rdI (m_s S) (x2 + (4 : Int32))).bind fun v10 =>
  (wrI (m_s S) x2 v10).bind fun f11 =>
  nm (ms_s S f11 : MS) fun S12 =>
  nm (x2 + 1 : Int32) fun v13 =>
  rc S12 v13)
def J_X5_withdraw_18 (S : MS) (x1 : Int32) (y0 : Int32) : Option (Int32 × MS) :=
  (F_X5_refuse S y0 (1 : Int32)).bind fun q3 =>
  if q3.1 = 0 then
  ((F_X5_keeps q3.2).bind fun q4 =>
  (rdI (m_s q4) (1 : Int32)).bind fun v5 =>
  (wrI (m_s q4) (1 : Int32) (v5 - (1 : Int32))).bind fun f6 =>
  nm (ms_s q4 f6 : MS) fun S7 =>
  nm (((34 : Int32) + ((4 : Int32) * x1)) : Int32) fun v8 =>
  lo2 (B_X5_withdraw_48 (fun S14 => (rdI (m_s S14) (1 : Int32)).bind fun v15 =>
  some (v15, S14))) FU S7 v8)
  else
  (some ((-1 : Int32), q3.2))
def F_X5_withdraw (S : MS) (x1 : Int32) : Option (Int32 × MS) :=
  (F_X5_begins S).bind fun q1 =>
  (F_X5_isClaim q1 x1).bind fun q2 =>
  if q2 = 0 then
  (J_X5_withdraw_18 q1 x1 (1 : Int32))
  else
  (J_X5_withdraw_18 q1 x1 (0 : Int32))
def J_X5_isWithin_52 (x1 : Int32) : Option (Int32) :=
  (F_X5_in x1.toInt64 (0 : Int64) (1 : Int64)).bind fun q3 =>
  zz q3 <|
  some q3
def J_X5_isWithin_42 (x1 : Int32) : Option (Int32) :=
  (F_X5_in x1.toInt64 (0 : Int64) (9999999 : Int64)).bind fun q4 =>
  zz q4 <|
  some q4
def F_X5_isWithin (x0 : Int32) (x1 : Int32) : Option (Int32) :=
  if x0 = (0 : Int32) then
  ((F_X5_in x1.toInt64 (1 : Int64) (99999 : Int64)).bind fun q2 =>
  zz q2 <|
  some q2)
  else
  if x0 = (1 : Int32) then
  (J_X5_isWithin_52 x1)
  else
  if x0 = (2 : Int32) then
  (J_X5_isWithin_42 x1)
  else
  if x0 = (3 : Int32) then
  (J_X5_isWithin_42 x1)
  else
  (J_X5_isWithin_52 x1)
def J_X5_become_56 (S : MS) (x1 : Int32) (x2 : Int32) (x3 : Int32) (y0 : Int32) : Option (Int32 × MS) :=
  (F_X5_refuse S y0 (2 : Int32)).bind fun q5 =>
  if q5.1 = 0 then
  ((F_X5_keeps q5.2).bind fun q6 =>
  (F_X5_ofShip (m_s q6) x1 x2).bind fun q7 =>
  (wrI (m_s q6) (((10 : Int32) + ((6 : Int32) * x1)) + x2) x3).bind fun f8 =>
  nm (ms_s q6 f8 : MS) fun S9 =>
  some (q7, S9))
  else
  (some ((-1 : Int32), q5.2))
def J_X5_become_35 (S : MS) (x1 : Int32) (x2 : Int32) (x3 : Int32) (y0 : Int32) : Option (Int32 × MS) :=
  (F_X5_refuse S y0 (1 : Int32)).bind fun q3 =>
  if q3.1 = 0 then
  ((F_X5_isWithin x2 x3).bind fun q4 =>
  if q4 = 0 then
  (J_X5_become_56 q3.2 x1 x2 x3 (1 : Int32))
  else
  (J_X5_become_56 q3.2 x1 x2 x3 (0 : Int32)))
  else
  (some ((-1 : Int32), q3.2))
def J_X5_become_30 (S : MS) (x1 : Int32) (x2 : Int32) (x3 : Int32) : Option (Int32 × MS) :=
  J_X5_become_35 S x1 x2 x3 (1 : Int32)
def F_X5_become (S : MS) (x1 : Int32) (x2 : Int32) (x3 : Int32) : Option (Int32 × MS) :=
  (F_X5_begins S).bind fun q1 =>
  (F_X5_isShip q1 x1).bind fun q2 =>
  if q2 = 0 then
  (J_X5_become_30 q1 x1 x2 x3)
  else
  ((F_X5_in x2.toInt64 (0 : Int64) (5 : Int64)).bind fun q10 =>
  if q10 = 0 then
  (J_X5_become_30 q1 x1 x2 x3)
  else
  (if x2 = (1 : Int32) then
  (J_X5_become_30 q1 x1 x2 x3)
  else
  (J_X5_become_35 q1 x1 x2 x3 (0 : Int32))))
def J_X5_law_120 (S : MS) (x1 : Int32) (x2 : Int32) (y0 : Int32) : Option (Int32 × MS) :=
  (F_X5_refuse S y0 (5 : Int32)).bind fun q9 =>
  if q9.1 = 0 then
  ((F_X5_keeps q9.2).bind fun q10 =>
  (rdI (m_s q10) x1).bind fun v11 =>
  (wrI (m_s q10) x1 x2).bind fun f12 =>
  nm (ms_s q10 f12 : MS) fun S13 =>
  some (v11, S13))
  else
  (some ((-1 : Int32), q9.2))
def J_X5_law_106 (S : MS) (x1 : Int32) (x2 : Int32) (x3 : Int32) (y0 : Int32) : Option (Int32 × MS) :=
  if x3 ≤ y0 then
  (J_X5_law_120 S x1 x2 (0 : Int32))
  else
  (J_X5_law_120 S x1 x2 (1 : Int32))
def J_X5_law_88 (S : MS) (x1 : Int32) (x2 : Int32) (y0 : Int32) : Option (Int32 × MS) :=
  if x1 = (9 : Int32) then
  (J_X5_law_106 S x1 x2 y0 x2)
  else
  ((rdI (m_s S) (9 : Int32)).bind fun v8 =>
  J_X5_law_106 S x1 x2 y0 v8)
def J_X5_law_62 (S : MS) (x1 : Int32) (x2 : Int32) (y0 : Int32) : Option (Int32 × MS) :=
  (F_X5_refuse S y0 (2 : Int32)).bind fun q6 =>
  if q6.1 = 0 then
  (if x1 = (8 : Int32) then
  (J_X5_law_88 q6.2 x1 x2 x2)
  else
  ((rdI (m_s q6.2) (8 : Int32)).bind fun v7 =>
  J_X5_law_88 q6.2 x1 x2 v7))
  else
  (some ((-1 : Int32), q6.2))
def J_X5_law_31 (S : MS) (x1 : Int32) (x2 : Int32) (y0 : Int32) : Option (Int32 × MS) :=
  (F_X5_refuse S y0 (1 : Int32)).bind fun q2 =>
  if q2.1 = 0 then
  ((F_X5_lowOf x1).bind fun q3 =>
  (F_X5_highOf x1).bind fun q4 =>
  (F_X5_in x2.toInt64 q3.toInt64 q4.toInt64).bind fun q5 =>
  if q5 = 0 then
  (J_X5_law_62 q2.2 x1 x2 (1 : Int32))
  else
  (J_X5_law_62 q2.2 x1 x2 (0 : Int32)))
  else
  (some ((-1 : Int32), q2.2))
def J_X5_law_26 (S : MS) (x1 : Int32) (x2 : Int32) : Option (Int32 × MS) :=
  J_X5_law_31 S x1 x2 (1 : Int32)
def F_X5_law (S : MS) (x1 : Int32) (x2 : Int32) : Option (Int32 × MS) :=
  (F_X5_begins S).bind fun q1 =>
  if (m_told q1) = 0 then
  (J_X5_law_26 q1 x1 x2)
  else
  ((F_X5_in x1.toInt64 (2 : Int64) (9 : Int64)).bind fun q14 =>
  if q14 = 0 then
  (J_X5_law_26 q1 x1 x2)
  else
  (J_X5_law_31 q1 x1 x2 (0 : Int32)))
def B_X5_undo_58 (k : MS → Option (Int32 × MS)) (rc : MS → Int32 → Option (Int32 × MS)) (S : MS) (x1 : Int32) : Option (Int32 × MS) :=
  if (82 : Int32) ≤ x1 then
  (k S)
  else
  ((rdI (m_past S) (((82 : Int32) * (m_acts S)) + x1)).bind fun v5 =>
  (wrI (m_s S) x1 v5).bind fun f6 =>
  nm (ms_s S f6 : MS) fun S7 =>
  nm (x1 + 1 : Int32) fun v8 =>
  rc S7 v8)
def J_X5_undo_37 (S : MS) (y0 : Int32) : Option (Int32 × MS) :=
  (F_X5_refuse S y0 (5 : Int32)).bind fun q3 =>
  if q3.1 = 0 then
  (nm (ms_acts q3.2 ((m_acts q3.2) - (1 : Int32)) : MS) fun S4 =>
  lo2 (B_X5_undo_58 (fun S9 => some (m_acts S9, S9))) FU S4 (0 : Int32))
  else
  (some ((-1 : Int32), q3.2))
def J_X5_undo_17 (S : MS) (y0 : Int32) : Option (Int32 × MS) :=
  (F_X5_refuse S y0 (1 : Int32)).bind fun q2 =>
  if q2.1 = 0 then
  (if (m_acts q2.2) = 0 then
  (J_X5_undo_37 q2.2 (1 : Int32))
  else
  (J_X5_undo_37 q2.2 (0 : Int32)))
  else
  (some ((-1 : Int32), q2.2))
def F_X5_undo (S : MS) : Option (Int32 × MS) :=
  (F_X5_begins S).bind fun q1 =>
  if (m_told q1) = 0 then
  (J_X5_undo_17 q1 (1 : Int32))
  else
  (J_X5_undo_17 q1 (0 : Int32))
def B_X5_image_38 (x1 : Int32) (k : MS → Option (Int32 × MS)) (rc : MS → Int32 → Option (Int32 × MS)) (S : MS) (x2 : Int32) : Option (Int32 × MS) :=
  if (82 : Int32) ≤ x2 then
  (k S)
  else
  ((rdI (m_s S) x2).bind fun v3 =>
  (wrI (m_kept S) (((82 : Int32) * x1) + x2) v3).bind fun f4 =>
  nm (ms_kept S f4 : MS) fun S5 =>
  nm (x2 + 1 : Int32) fun v6 =>
  rc S5 v6)
def J_X5_image_27 (S : MS) (x1 : Int32) (y0 : Int32) : Option (Int32 × MS) :=
  (F_X5_refuse S y0 (1 : Int32)).bind fun q2 =>
  if q2.1 = 0 then
  (lo2 (B_X5_image_38 x1 (fun S7 => (wrI (m_isKept S7) x1 (1 : Int32)).bind fun f8 =>
  nm (ms_isKept S7 f8 : MS) fun S9 =>
  some ((1 : Int32), S9))) FU q2.2 (0 : Int32))
  else
  (some ((0 : Int32), q2.2))
def J_X5_image_22 (S : MS) (x1 : Int32) : Option (Int32 × MS) :=
  J_X5_image_27 S x1 (1 : Int32)
def F_X5_image (S : MS) (x1 : Int32) : Option (Int32 × MS) :=
  (F_X5_begins S).bind fun q1 =>
  if (m_told q1) = 0 then
  (J_X5_image_22 q1 x1)
  else
  ((F_X5_in x1.toInt64 (0 : Int64) (1 : Int64)).bind fun q10 =>
  if q10 = 0 then
  (J_X5_image_22 q1 x1)
  else
  (J_X5_image_27 q1 x1 (0 : Int32)))
def B_X5_again_47 (x1 : Int32) (k : MS → Option (Int32 × MS)) (rc : MS → Int32 → Option (Int32 × MS)) (S : MS) (x2 : Int32) : Option (Int32 × MS) :=
  if (82 : Int32) ≤ x2 then
  (k S)
  else
  ((rdI (m_kept S) (((82 : Int32) * x1) + x2)).bind fun v3 =>
  (wrI (m_s S) x2 v3).bind fun f4 =>
  nm (ms_s S f4 : MS) fun S5 =>
  nm (x2 + 1 : Int32) fun v6 =>
  rc S5 v6)
def J_X5_again_36 (S : MS) (x1 : Int32) (y0 : Int32) : Option (Int32 × MS) :=
  (F_X5_refuse S y0 (1 : Int32)).bind fun q2 =>
  if q2.1 = 0 then
  (lo2 (B_X5_again_47 x1 (fun S7 => nm (ms_acts S7 (0 : Int32) : MS) fun S8 =>
  some ((1 : Int32), S8))) FU q2.2 (0 : Int32))
  else
  (some ((0 : Int32), q2.2))
def J_X5_again_31 (S : MS) (x1 : Int32) : Option (Int32 × MS) :=
  J_X5_again_36 S x1 (1 : Int32)
def F_X5_again (S : MS) (x1 : Int32) : Option (Int32 × MS) :=
  (F_X5_begins S).bind fun q1 =>
  if (m_told q1) = 0 then
  (J_X5_again_31 q1 x1)
  else
  ((F_X5_in x1.toInt64 (0 : Int64) (1 : Int64)).bind fun q9 =>
  if q9 = 0 then
  (J_X5_again_31 q1 x1)
  else
  ((rdI (m_isKept q1) x1).bind fun v10 =>
  if v10 = 0 then
  (J_X5_again_31 q1 x1)
  else
  (J_X5_again_36 q1 x1 (0 : Int32))))
end
section
/-! ===== level 2: numbers, rows, loops ===== -/
theorem rI {n : Nat} (f : Fin n → Int32) {k : Nat} (h : k < n) (hn : n ≤ 1000) : rdI f (nI k) = some (exI f k) := by
  have h1 : inB (nI k) n = true := by
    simp only [inB, Bool.and_eq_true, decide_eq_true_eq]
    exact ⟨nI_pos' (by omega), by rw [nI_clamp (by omega)]; exact h⟩
  unfold rdI
  rw [if_pos h1, nI_clamp (by omega)]
theorem rL {n : Nat} (f : Fin n → Int64) {k : Nat} (h : k < n) (hn : n ≤ 1000) : rdL f (nI k) = some (exL f k) := by
  have h1 : inB (nI k) n = true := by
    simp only [inB, Bool.and_eq_true, decide_eq_true_eq]
    exact ⟨nI_pos' (by omega), by rw [nI_clamp (by omega)]; exact h⟩
  unfold rdL
  rw [if_pos h1, nI_clamp (by omega)]
theorem wI {n : Nat} (f : Fin n → Int32) {k : Nat} (h : k < n) (hn : n ≤ 1000) (v : Int32) : wrI f (nI k) v = some (upI f k v) := by
  have h1 : inB (nI k) n = true := by
    simp only [inB, Bool.and_eq_true, decide_eq_true_eq]
    exact ⟨nI_pos' (by omega), by rw [nI_clamp (by omega)]; exact h⟩
  unfold wrI
  rw [if_pos h1, nI_clamp (by omega)]
theorem wL {n : Nat} (f : Fin n → Int64) {k : Nat} (h : k < n) (hn : n ≤ 1000) (v : Int64) : wrL f (nI k) v = some (upL f k v) := by
  have h1 : inB (nI k) n = true := by
    simp only [inB, Bool.and_eq_true, decide_eq_true_eq]
    exact ⟨nI_pos' (by omega), by rw [nI_clamp (by omega)]; exact h⟩
  unfold wrL
  rw [if_pos h1, nI_clamp (by omega)]
theorem exI_up {n : Nat} (f : Fin n → Int32) {k : Nat} (h : k < n) (v : Int32) (j : Nat) : exI (upI f k v) j = if j = k then v else exI f j := by
  by_cases hj : j = k
  · subst hj; simp [exI, upI, h]
  · by_cases hn : j < n
    · simp [exI, upI, hn, hj]
    · simp [exI, hn, hj]
theorem exL_up {n : Nat} (f : Fin n → Int64) {k : Nat} (h : k < n) (v : Int64) (j : Nat) : exL (upL f k v) j = if j = k then v else exL f j := by
  by_cases hj : j = k
  · subst hj; simp [exL, upL, h]
  · by_cases hn : j < n
    · simp [exL, upL, hn, hj]
    · simp [exL, hn, hj]
theorem ext_I {n : Nat} {f g : Fin n → Int32} (h : ∀ k, k < n → exI f k = exI g k) : f = g := by
  funext j
  have := h j.1 j.2
  simpa [exI, j.2] using this
theorem ext_L {n : Nat} {f g : Fin n → Int64} (h : ∀ k, k < n → exL f k = exL g k) : f = g := by
  funext j
  have := h j.1 j.2
  simpa [exL, j.2] using this
theorem FU_eq : FU = 999 + 1 := rfl
/-- a loop by its counter: an invariant, and what stands behind it -/
theorem loopE {σ β : Type} (L : Nat → Nat → σ → Option β) (K : σ → Option β) (N : Nat) (I : Nat → σ → Prop)
    (h1 : ∀ fu i s, i < N → I i s → ∃ s', I (i + 1) s' ∧ L (fu + 1) i s = L fu (i + 1) s')
    (h3 : ∀ fu s, I N s → L (fu + 1) N s = K s) : ∀ d fu i s, i + d = N → d < fu → I i s → ∃ s', I N s' ∧ L fu i s = K s' := by
  intro d
  induction d with
  | zero =>
    intro fu i s hi hf hI
    obtain ⟨fu, rfl⟩ : ∃ f, fu = f + 1 := ⟨fu - 1, by omega⟩
    have hi : i = N := by omega
    subst hi
    exact ⟨s, hI, h3 fu s hI⟩
  | succ d ih =>
    intro fu i s hi hf hI
    obtain ⟨fu, rfl⟩ : ∃ f, fu = f + 1 := ⟨fu - 1, by omega⟩
    obtain ⟨s', h', e⟩ := h1 fu i s (by omega) hI
    obtain ⟨s'', h'', e'⟩ := ih fu (i + 1) s' (by omega) (by omega) h'
    exact ⟨s'', h'', e.trans e'⟩
/-- the same where the end's answer is one -/
theorem loopR {σ β : Type} (L : Nat → Nat → σ → Option β) (R : Option β) (N : Nat) (I : Nat → σ → Prop)
    (h1 : ∀ fu i s, i < N → I i s → ∃ s', I (i + 1) s' ∧ L (fu + 1) i s = L fu (i + 1) s')
    (h3 : ∀ fu s, I N s → L (fu + 1) N s = R) (d fu i : Nat) (s : σ) (hi : i + d = N) (hf : d < fu) (hI : I i s) : L fu i s = R := by
  obtain ⟨s', -, e⟩ := loopE L (fun _ => R) N I h1 h3 d fu i s hi hf hI
  exact e
def sN (f : Nat → Nat) : Nat → Nat
  | 0 => 0
  | n + 1 => sN f n + f n
theorem sN_le {f g : Nat → Nat} : ∀ {n : Nat}, (∀ k, k < n → f k ≤ g k) → sN f n ≤ sN g n
  | 0, _ => Nat.le_refl _
  | n + 1, h => Nat.add_le_add (sN_le fun k hk => h k (by omega)) (h n (by omega))
theorem sN_c (c : Nat) : ∀ n, sN (fun _ => c) n = n * c
  | 0 => by simp [sN]
  | n + 1 => by rw [sN, sN_c c n, Nat.succ_mul]
theorem sN_bd {f : Nat → Nat} {c n : Nat} (h : ∀ k, k < n → f k ≤ c) : sN f n ≤ n * c := by
  rw [← sN_c c n]
  exact sN_le h
theorem sN_eq {f g : Nat → Nat} : ∀ {n : Nat}, (∀ k, k < n → f k = g k) → sN f n = sN g n
  | 0, _ => rfl
  | n + 1, h => by rw [sN, sN, sN_eq fun k hk => h k (by omega), h n (by omega)]
theorem sN_mem (f : Nat → Nat) {i : Nat} : ∀ {n : Nat}, i < n → f i ≤ sN f n
  | 0, h => absurd h (Nat.not_lt_zero i)
  | n + 1, h => by
    rcases Nat.lt_or_ge i n with q | q
    · exact Nat.le_trans (sN_mem f q) (Nat.le_add_right _ _)
    · have : i = n := by omega
      subst this
      exact Nat.le_add_left _ _
theorem sN_mem2 (f : Nat → Nat) {i j : Nat} (hij : i ≠ j) : ∀ {n : Nat}, i < n → j < n → f i + f j ≤ sN f n
  | 0, h, _ => absurd h (Nat.not_lt_zero i)
  | n + 1, h, h2 => by
    rcases Nat.lt_or_ge i n with q | q <;> rcases Nat.lt_or_ge j n with q2 | q2
    · exact Nat.le_trans (sN_mem2 f hij q q2) (Nat.le_add_right _ _)
    · have : j = n := by omega
      subst this
      exact Nat.add_le_add (sN_mem f q) (Nat.le_refl _)
    · have : i = n := by omega
      subst this
      rw [Nat.add_comm]
      exact Nat.add_le_add (sN_mem f q2) (Nat.le_refl _)
    · omega
/-! a case in plain numbers: c k is what the model's row holds at k (but for the ship of a claim that isn't for goods) -/
def OKc (N K : Nat) (c : Nat → Nat) : Prop :=
  (2 ≤ N ∧ N ≤ 4 ∧ K ≤ 12) ∧ (c 2 ≤ 1 ∧ c 3 ≤ 1 ∧ c 4 ≤ 1 ∧ c 5 ≤ 99999 ∧ c 6 ≤ 99999 ∧ 1 ≤ c 7 ∧ c 7 ≤ 99999 ∧ c 8 ≤ c 9 ∧ c 9 ≤ 999) ∧
  (∀ i, i < N → 1 ≤ c (10 + 6 * i) ∧ c (10 + 6 * i) ≤ 99999 ∧ c (10 + 6 * i + 1) ≤ 10 ∧ c (10 + 6 * i + 2) ≤ 9999999 ∧ c (10 + 6 * i + 3) ≤ 9999999 ∧ c (10 + 6 * i + 4) ≤ 1 ∧ c (10 + 6 * i + 5) ≤ 1) ∧ sN (fun i => c (10 + 6 * i + 1)) N = 10 ∧
  (∀ k, k < K → c (34 + 4 * k) ≤ 2 ∧ (c (34 + 4 * k) = 0 → c (34 + 4 * k + 1) < N) ∧ 1 ≤ c (34 + 4 * k + 2) ∧ c (34 + 4 * k + 2) ≤ 9999999 ∧ c (34 + 4 * k + 3) ≤ 999)
def onI (c : Nat → Nat) (k : Nat) : Int32 := if c (34 + 4 * k) = 0 then nI (c (34 + 4 * k + 1)) else -2
def RowR (r : Fin 82 → Int32) (N K : Nat) (c : Nat → Nat) : Prop :=
  exI r 0 = nI N ∧ exI r 1 = nI K ∧ (∀ w, 2 ≤ w → w < 10 → exI r w = nI (c w)) ∧ (∀ i, i < N → ∀ w, w < 6 → exI r (10 + 6 * i + w) = nI (c (10 + 6 * i + w))) ∧
  (∀ k, k < K → (∀ w, w < 4 → w ≠ 1 → exI r (34 + 4 * k + w) = nI (c (34 + 4 * k + w))) ∧ exI r (34 + 4 * k + 1) = onI c k)
def RowT (T : TS) (N K : Nat) (c : Nat → Nat) : Prop :=
  t_ships T = nI N ∧ t_claims T = nI K ∧ (∀ w, 2 ≤ w → w < 10 → exI (t_laws T) w = nI (c w)) ∧ (∀ i, i < N → ∀ w, w < 6 → exI (t_shipRows T) (6 * i + w) = nI (c (10 + 6 * i + w))) ∧
  (∀ k, k < K → (∀ w, w < 4 → w ≠ 1 → exI (t_claimRows T) (4 * k + w) = nI (c (34 + 4 * k + w))) ∧ exI (t_claimRows T) (4 * k + 1) = onI c k)
def wN (c : Nat → Nat) (i : Nat) : Nat := if c 2 = 1 then (if 0 < c (10 + 6 * i + 1) then 1 else 0) else c (10 + 6 * i + 1)
def WN (N : Nat) (c : Nat → Nat) : Nat := sN (wN c) N
def pN (N : Nat) (c : Nat → Nat) (i x : Nat) : Nat := x * wN c i / WN N c
def dN (N : Nat) (c : Nat → Nat) (i k : Nat) : Nat :=
  if c 9 < c (34 + 4 * k + 3) then 0 else if c (34 + 4 * k) = 0 ∧ c (34 + 4 * k + 1) = i then 0 else
  if c (34 + 4 * k) ≠ 0 ∨ c 3 = 0 then pN N c i (c (34 + 4 * k + 2)) else c (34 + 4 * k + 2) * wN c i / (WN N c - wN c (c (34 + 4 * k + 1)))
def bN (N : Nat) (c : Nat → Nat) (k j : Nat) : Nat :=
  if c 3 = 0 ∨ c (34 + 4 * k) ≠ 0 ∨ c 9 < c (34 + 4 * k + 3) ∨ c (34 + 4 * k + 1) = j then 0 else dN N c j k - pN N c j (c (34 + 4 * k + 2))
def boN (N K : Nat) (c : Nat → Nat) (i j : Nat) : Nat := sN (fun k => if c (34 + 4 * k) = 0 ∧ c (34 + 4 * k + 1) = i then bN N c k j else 0) K
def cdN (N K : Nat) (c : Nat → Nat) (i j : Nat) : Nat := pN N c i (c (10 + 6 * j + 2)) + boN N K c i j
def lwN (N K : Nat) (c : Nat → Nat) (i j : Nat) : Nat := if i = j then 0 else if c 4 = 1 then cdN N K c i j else cdN N K c i j - min (cdN N K c i j) (cdN N K c j i)
def fdN (c : Nat → Nat) (i w : Nat) : Nat := min (max (c (10 + 6 * i)) (c 7) * c w) 2000000000
/-! bounds -/
theorem wN_le {N K : Nat} {c : Nat → Nat} (h : OKc N K c) {i : Nat} (hi : i < N) : wN c i ≤ 10 := by
  have := (h.2.2.1 i hi).2.2.1
  unfold wN
  split
  · split <;> omega
  · exact this
theorem WN_pos {N K : Nat} {c : Nat → Nat} (h : OKc N K c) : 0 < WN N c := by
  have hs := h.2.2.2.1
  rcases Nat.eq_zero_or_pos (WN N c) with q | q
  · exfalso
    have h0 : ∀ i, i < N → c (10 + 6 * i + 1) ≤ 0 := by
      intro i hi
      have h1 : wN c i ≤ WN N c := sN_mem (wN c) hi
      unfold wN at h1
      split at h1
      · split at h1 <;> omega
      · omega
    have := sN_bd h0
    omega
  · exact q
theorem WN_le {N K : Nat} {c : Nat → Nat} (h : OKc N K c) : WN N c ≤ 40 := by
  have h1 : WN N c ≤ N * 10 := sN_bd (f := wN c) (fun k hk => wN_le h hk)
  have := h.1.2.1
  omega
theorem pN_le {N K : Nat} {c : Nat → Nat} (h : OKc N K c) {i : Nat} (hi : i < N) (x : Nat) : pN N c i x ≤ x := by
  unfold pN
  have h1 : wN c i ≤ WN N c := sN_mem (wN c) hi
  exact Nat.div_le_of_le_mul (by rw [Nat.mul_comm]; exact Nat.mul_le_mul_right x h1)
theorem dN_le {N K : Nat} {c : Nat → Nat} (h : OKc N K c) {i k : Nat} (hi : i < N) (hk : k < K) : dN N c i k ≤ c (34 + 4 * k + 2) := by
  unfold dN
  split
  · omega
  · split
    · omega
    · rename_i h2
      split
      · exact pN_le h hi _
      · rename_i h3
        have h4 : c (34 + 4 * k) = 0 := by omega
        have h5 : c (34 + 4 * k + 1) < N := (h.2.2.2.2 k hk).2.1 h4
        have h6 : wN c i + wN c (c (34 + 4 * k + 1)) ≤ WN N c := sN_mem2 (wN c) (fun e => h2 ⟨h4, e.symm⟩) hi h5
        exact Nat.div_le_of_le_mul (by rw [Nat.mul_comm]; exact Nat.mul_le_mul_right _ (by omega))
theorem dN_ge {N K : Nat} {c : Nat → Nat} (h : OKc N K c) {i k : Nat} (hi : i < N) (hk : k < K) (h3 : ¬ c 3 = 0) (h4 : c (34 + 4 * k) = 0) (h5 : ¬ c 9 < c (34 + 4 * k + 3)) (h6 : ¬ c (34 + 4 * k + 1) = i) : pN N c i (c (34 + 4 * k + 2)) ≤ dN N c i k := by
  unfold dN
  rw [if_neg h5, if_neg (fun q => h6 q.2), if_neg (by omega)]
  have h7 : c (34 + 4 * k + 1) < N := (h.2.2.2.2 k hk).2.1 h4
  have h8 : wN c i + wN c (c (34 + 4 * k + 1)) ≤ WN N c := sN_mem2 (wN c) (fun e => h6 e.symm) hi h7
  unfold pN
  rcases Nat.eq_zero_or_pos (WN N c - wN c (c (34 + 4 * k + 1))) with q | q
  · have : wN c i = 0 := by omega
    rw [this]
    simp
  · exact Nat.div_le_div_left (Nat.sub_le _ _) q
theorem bN_le {N K : Nat} {c : Nat → Nat} (h : OKc N K c) {k j : Nat} (hk : k < K) (hj : j < N) : bN N c k j ≤ 9999999 := by
  have h1 := dN_le h hj hk
  have h2 := (h.2.2.2.2 k hk).2.2.2.1
  unfold bN
  split <;> omega
theorem boN_le {N K : Nat} {c : Nat → Nat} (h : OKc N K c) {i j : Nat} (hj : j < N) : boN N K c i j ≤ 119999988 := by
  have h1 : boN N K c i j ≤ K * 9999999 := sN_bd fun k hk => by
    have := bN_le h hk hj
    split <;> omega
  have := h.1.2.2
  omega
theorem cdN_le {N K : Nat} {c : Nat → Nat} (h : OKc N K c) {i j : Nat} (hi : i < N) (hj : j < N) : cdN N K c i j ≤ 129999987 := by
  have h1 := boN_le h (i := i) hj
  have h2 := pN_le h hi (c (10 + 6 * j + 2))
  have h3 := (h.2.2.1 j hj).2.2.2.1
  unfold cdN
  omega
theorem lwN_le {N K : Nat} {c : Nat → Nat} (h : OKc N K c) {i j : Nat} (hi : i < N) (hj : j < N) : lwN N K c i j ≤ 129999987 := by
  have h1 := cdN_le h hi hj
  unfold lwN
  split
  · omega
  · split <;> omega
theorem fdN_le (c : Nat → Nat) (i w : Nat) : fdN c i w ≤ 2000000000 := Nat.min_le_right _ _
end
section
/-! ===== level 2: the model's own functions of a row, in plain numbers ===== -/
theorem bs {α β : Type} (a : α) (f : α → Option β) : (some a).bind f = f a := rfl
theorem nm_eq {α β : Type} (e : α) (k : α → β) : nm e k = k e := rfl
theorem nI_n1 {a : Nat} (h : a ≠ 1) (ha : a < 2 ^ 31) : ¬ nI a = 1 := fun q => h ((nI_eq (a := a) (b := 1) ha (by omega)).mp q)
theorem M_ofShip (r : Fin 82 → Int32) {a w : Nat} (h : 10 + 6 * a + w < 82) : F_X5_ofShip r (nI a) (nI w) = some (exI r (10 + 6 * a + w)) := by
  unfold F_X5_ofShip
  rw [show (10 : Int32) = nI 10 from rfl, show (6 : Int32) = nI 6 from rfl, pk_mul, nI_add, nI_add, rI r h (by omega)]
  rfl
theorem M_ofClaim (r : Fin 82 → Int32) {a w : Nat} (h : 34 + 4 * a + w < 82) : F_X5_ofClaim r (nI a) (nI w) = some (exI r (34 + 4 * a + w)) := by
  unfold F_X5_ofClaim
  rw [show (34 : Int32) = nI 34 from rfl, show (4 : Int32) = nI 4 from rfl, pk_mul, nI_add, nI_add, rI r h (by omega)]
  rfl
section ML2
variable {r : Fin 82 → Int32} {N K : Nat} {c : Nat → Nat}
theorem R0 (hR : RowR r N K c) : rdI r 0 = some (nI N) := by
  rw [show (0 : Int32) = nI 0 from rfl, rI r (by omega) (by omega), hR.1]
theorem R1 (hR : RowR r N K c) : rdI r 1 = some (nI K) := by
  rw [show (1 : Int32) = nI 1 from rfl, rI r (by omega) (by omega), hR.2.1]
theorem Rw (hR : RowR r N K c) {w : Nat} (h2 : 2 ≤ w) (h : w < 10) : rdI r (nI w) = some (nI (c w)) := by
  rw [rI r (by omega) (by omega), hR.2.2.1 w h2 h]
theorem Sh (hR : RowR r N K c) (hO : OKc N K c) {a w : Nat} (ha : a < N) (hw : w < 6) : F_X5_ofShip r (nI a) (nI w) = some (nI (c (10 + 6 * a + w))) := by
  have := hO.1.2.1
  rw [M_ofShip r (by omega), hR.2.2.2.1 a ha w hw]
theorem Cl (hR : RowR r N K c) (hO : OKc N K c) {k w : Nat} (hk : k < K) (hw : w < 4) (h1 : w ≠ 1) : F_X5_ofClaim r (nI k) (nI w) = some (nI (c (34 + 4 * k + w))) := by
  have := hO.1.2.2
  rw [M_ofClaim r (by omega), (hR.2.2.2.2 k hk).1 w hw h1]
theorem Cl1 (hR : RowR r N K c) (hO : OKc N K c) {k : Nat} (hk : k < K) : F_X5_ofClaim r (nI k) 1 = some (onI c k) := by
  have := hO.1.2.2
  rw [show (1 : Int32) = nI 1 from rfl, M_ofClaim r (by omega), (hR.2.2.2.2 k hk).2]
theorem M_weightOf (hR : RowR r N K c) (hO : OKc N K c) {a : Nat} (ha : a < N) : F_X5_weightOf r (nI a) = some (nI (wN c a)) := by
  have e1 : F_X5_ofShip r (nI a) 1 = some (nI (c (10 + 6 * a + 1))) := Sh hR hO ha (w := 1) (by decide)
  have e2 : rdI r 2 = some (nI (c 2)) := Rw hR (w := 2) (by decide) (by decide)
  have hb := (hO.2.2.1 a ha).2.2.1
  have hc := hO.2.1.1
  unfold F_X5_weightOf
  rw [e1, bs, e2, bs]
  unfold wN
  by_cases h2 : c 2 = 1
  · rw [if_pos (by rw [h2]; rfl), if_pos h2]
    by_cases h0 : 0 < c (10 + 6 * a + 1)
    · rw [if_neg (nI_nle h0 (by omega)), if_pos h0]
      rfl
    · have h0 : c (10 + 6 * a + 1) = 0 := by omega
      rw [h0]
      rfl
  · rw [if_neg (nI_n1 h2 (by omega)), if_neg h2]
theorem M_weightsOf (hR : RowR r N K c) (hO : OKc N K c) : F_X5_weightsOf r = some (nI (WN N c)) := by
  have hN := hO.1
  unfold F_X5_weightsOf
  refine loopR (fun fu i (acc : Int32) => lo2 (B_X5_weightsOf_4 r (fun z5 => some z5)) fu acc (nI i)) _ N (fun i acc => acc = nI (sN (wN c) i)) ?_ ?_ N FU 0 0 (by omega) (by rw [FU_eq]; omega) rfl
  · intro fu i acc hi e
    subst e
    refine ⟨nI (sN (wN c) (i + 1)), rfl, ?_⟩
    show B_X5_weightsOf_4 r _ (lo2 _ fu) (nI (sN (wN c) i)) (nI i) = _
    unfold B_X5_weightsOf_4
    rw [R0 hR, bs, if_neg (by rw [nI_leI (by omega) (by omega)]; omega), M_weightOf hR hO hi, bs, nm_eq, nm_eq, nI_add, nI_1]
    rfl
  · intro fu acc e
    subst e
    show B_X5_weightsOf_4 r _ (lo2 _ fu) (nI (sN (wN c) N)) (nI N) = _
    unfold B_X5_weightsOf_4
    rw [R0 hR, bs, if_pos (by rw [nI_leI (by omega) (by omega)]; omega)]
    rfl
def rdC (c : Nat → Nat) (k : Nat) : Int32 := if c (34 + 4 * k + 3) ≤ c 8 then 0 else if c (34 + 4 * k + 3) ≤ c 9 then 1 else -2
theorem M_roundOf (hR : RowR r N K c) (hO : OKc N K c) {k : Nat} (hk : k < K) : F_X5_roundOf r (nI k) = some (rdC c k) := by
  have e1 : F_X5_ofClaim r (nI k) 3 = some (nI (c (34 + 4 * k + 3))) := Cl hR hO hk (w := 3) (by decide) (by decide)
  have e2 : rdI r 8 = some (nI (c 8)) := Rw hR (w := 8) (by decide) (by decide)
  have e3 : rdI r 9 = some (nI (c 9)) := Rw hR (w := 9) (by decide) (by decide)
  have h1 := hO.2.1
  have h2 := (hO.2.2.2.2 k hk).2.2.2.2
  unfold F_X5_roundOf rdC
  rw [e1, bs, e2, bs]
  by_cases h : c (34 + 4 * k + 3) ≤ c 8
  · rw [if_neg (by rw [nI_ltI (by omega) (by omega)]; omega), if_pos h]
  · rw [if_pos (by rw [nI_ltI (by omega) (by omega)]; omega), if_neg h, e3, bs]
    by_cases h' : c (34 + 4 * k + 3) ≤ c 9
    · rw [if_neg (by rw [nI_ltI (by omega) (by omega)]; omega), if_pos h']
    · rw [if_pos (by rw [nI_ltI (by omega) (by omega)]; omega), if_neg h']
theorem dvL_N {a b : Nat} (ha : a < 2 ^ 62) (h0 : 0 < b) (hb : b < 2 ^ 62) : dvL (lN a) (lN b) = some (lN (a / b)) := by
  unfold dvL
  have h : ¬ lN b = 0 := fun q => by
    have := (pk_lEQ (a := b) (b := 0) (by omega) (by omega)).mp q
    omega
  rw [if_neg h, pk_lDiv (by omega) h0 (by omega)]
theorem M_partOf (hR : RowR r N K c) (hO : OKc N K c) {a : Nat} (ha : a < N) {x : Nat} (hx : x < 2 ^ 40) : F_X5_partOf r (nI a) (lN x) = some (lN (pN N c a x)) := by
  have hw := wN_le hO ha
  have hW := WN_le hO
  have hW0 := WN_pos hO
  have hm : x * wN c a ≤ x * 10 := Nat.mul_le_mul_left x hw
  unfold F_X5_partOf
  rw [M_weightOf hR hO ha, bs, M_weightsOf hR hO, bs, nI_l (by omega), nI_l (by omega), lN_mul, dvL_N (by omega) hW0 (by omega)]
  rfl
theorem onI_ne {c : Nat → Nat} {k a N : Nat} (h : c (34 + 4 * k) = 0 → c (34 + 4 * k + 1) < N) (hN : N ≤ 4) (ha : a < N) : onI c k = nI a ↔ c (34 + 4 * k) = 0 ∧ c (34 + 4 * k + 1) = a := by
  unfold onI
  by_cases h0 : c (34 + 4 * k) = 0
  · have h1 := h h0
    rw [if_pos h0, nI_eq (by omega) (by omega)]
    exact ⟨fun e => ⟨h0, e⟩, fun e => e.2⟩
  · rw [if_neg h0]
    refine ⟨fun e => ?_, fun e => absurd e.1 h0⟩
    have h2 : (-2 : Int32).toInt = (nI a).toInt := by rw [e]
    rw [nI_toInt (by omega)] at h2
    have h3 : (-2 : Int32).toInt = -2 := by decide
    omega
theorem rdC_neg (c : Nat → Nat) (k : Nat) (h : c 8 ≤ c 9) : rdC c k < 0 ↔ c 9 < c (34 + 4 * k + 3) := by
  unfold rdC
  by_cases h1 : c (34 + 4 * k + 3) ≤ c 8
  · rw [if_pos h1]
    exact ⟨fun q => absurd q (by decide), fun q => by omega⟩
  · rw [if_neg h1]
    by_cases h2 : c (34 + 4 * k + 3) ≤ c 9
    · rw [if_pos h2]
      exact ⟨fun q => absurd q (by decide), fun q => by omega⟩
    · rw [if_neg h2]
      exact ⟨fun _ => by omega, fun _ => by decide⟩
theorem M_debtOf (hR : RowR r N K c) (hO : OKc N K c) {a k : Nat} (ha : a < N) (hk : k < K) : F_X5_debtOf r (nI a) (nI k) = some (lN (dN N c a k)) := by
  have hc := hO.2.2.2.2 k hk
  have e2 : F_X5_ofClaim r (nI k) 2 = some (nI (c (34 + 4 * k + 2))) := Cl hR hO hk (w := 2) (by decide) (by decide)
  have e0 : F_X5_ofClaim r (nI k) 0 = some (nI (c (34 + 4 * k))) := Cl hR hO hk (w := 0) (by decide) (by decide)
  have e3 : rdI r 3 = some (nI (c 3)) := Rw hR (w := 3) (by decide) (by decide)
  have hl := hO.2.1
  have hp := M_partOf hR hO ha (x := c (34 + 4 * k + 2)) (by omega)
  have hw := wN_le hO ha
  have hW := WN_le hO
  unfold F_X5_debtOf dN
  rw [M_roundOf hR hO hk, bs]
  by_cases h1 : c 9 < c (34 + 4 * k + 3)
  · rw [if_pos ((rdC_neg c k hl.2.2.2.2.2.2.2.1).mpr h1), if_pos h1]
    rfl
  · rw [if_neg (fun q => h1 ((rdC_neg c k hl.2.2.2.2.2.2.2.1).mp q)), if_neg h1, Cl1 hR hO hk, bs]
    by_cases h2 : c (34 + 4 * k) = 0 ∧ c (34 + 4 * k + 1) = a
    · rw [if_pos ((onI_ne hc.2.1 hO.1.2.1 ha).mpr h2), if_pos h2]
      rfl
    · rw [if_neg (fun q => h2 ((onI_ne hc.2.1 hO.1.2.1 ha).mp q)), if_neg h2, e2, bs, nm_eq, e0, bs, nI_l (by omega)]
      by_cases h3 : c (34 + 4 * k) = 0
      · rw [if_pos (by rw [h3]; rfl), e3, bs]
        by_cases h4 : c 3 = 0
        · rw [if_pos (by rw [h4]; rfl), if_pos (Or.inr h4)]
          unfold J_X5_debtOf_43
          rw [hp]
          rfl
        · have h5 := hc.2.1 h3
          have h6 : wN c a + wN c (c (34 + 4 * k + 1)) ≤ WN N c := sN_mem2 (wN c) (fun e => h2 ⟨h3, e.symm⟩) ha h5
          have hm : c (34 + 4 * k + 2) * wN c a ≤ c (34 + 4 * k + 2) * 10 := Nat.mul_le_mul_left _ hw
          rw [if_neg (nI_ne0 (by omega) (by omega)), if_neg (by omega), M_weightsOf hR hO, bs, show onI c k = nI (c (34 + 4 * k + 1)) from if_pos h3, bs, M_weightOf hR hO h5, bs, nm_eq, pk_sub (by omega)]
          by_cases h7 : WN N c - wN c (c (34 + 4 * k + 1)) = 0
          · rw [h7, if_pos (show nI 0 = (0 : Int32) from rfl), Nat.div_zero]
            rfl
          · rw [if_neg (nI_ne0 (by omega) (by omega)), M_weightOf hR hO ha, bs, nI_l (by omega), nI_l (by omega), lN_mul, dvL_N (by omega) (by omega) (by omega)]
            rfl
      · rw [if_neg (nI_ne0 (by omega) (by omega)), if_pos (Or.inl h3)]
        unfold J_X5_debtOf_43
        rw [hp]
        rfl
theorem M_backTo (hR : RowR r N K c) (hO : OKc N K c) {a k : Nat} (ha : a < N) (hk : k < K) : F_X5_backTo r (nI k) (nI a) = some (lN (bN N c k a)) := by
  have hc := hO.2.2.2.2 k hk
  have e2 : F_X5_ofClaim r (nI k) 2 = some (nI (c (34 + 4 * k + 2))) := Cl hR hO hk (w := 2) (by decide) (by decide)
  have e0 : F_X5_ofClaim r (nI k) 0 = some (nI (c (34 + 4 * k))) := Cl hR hO hk (w := 0) (by decide) (by decide)
  have e3 : rdI r 3 = some (nI (c 3)) := Rw hR (w := 3) (by decide) (by decide)
  have hl := hO.2.1
  have hp := M_partOf hR hO ha (x := c (34 + 4 * k + 2)) (by omega)
  unfold F_X5_backTo bN
  rw [e3, bs]
  by_cases h3 : c 3 = 0
  · rw [if_pos (by rw [h3]; rfl), if_pos (Or.inl h3)]
    rfl
  · rw [if_neg (nI_ne0 (by omega) (by omega)), e0, bs]
    by_cases h0 : c (34 + 4 * k) = 0
    · rw [if_pos (by rw [h0]; rfl), M_roundOf hR hO hk, bs]
      by_cases h1 : c 9 < c (34 + 4 * k + 3)
      · rw [if_pos ((rdC_neg c k hl.2.2.2.2.2.2.2.1).mpr h1), if_pos (Or.inr (Or.inr (Or.inl h1)))]
        rfl
      · rw [if_neg (fun q => h1 ((rdC_neg c k hl.2.2.2.2.2.2.2.1).mp q)), Cl1 hR hO hk, bs]
        by_cases h2 : c (34 + 4 * k + 1) = a
        · rw [if_pos ((onI_ne hc.2.1 hO.1.2.1 ha).mpr ⟨h0, h2⟩), if_pos (Or.inr (Or.inr (Or.inr h2)))]
          rfl
        · rw [if_neg (fun q => h2 ((onI_ne hc.2.1 hO.1.2.1 ha).mp q).2), if_neg (by omega), M_debtOf hR hO ha hk, bs, e2, bs, nI_l (by omega), hp, bs, lN_sub (dN_ge hO ha hk h3 h0 h1 h2)]
    · rw [if_neg (nI_ne0 (by omega) (by omega)), if_pos (Or.inr (Or.inl h0))]
      rfl
def bkN (N : Nat) (c : Nat → Nat) (k : Nat) : Nat := sN (fun j => bN N c k j) N
theorem M_backOf (hR : RowR r N K c) (hO : OKc N K c) {k : Nat} (hk : k < K) : F_X5_backOf r (nI k) = some (lN (bkN N c k)) := by
  have hN := hO.1
  unfold F_X5_backOf
  refine loopR (fun fu i (acc : Int64) => lo2 (B_X5_backOf_5 r (nI k) (fun z5 => some z5)) fu acc (nI i)) _ N (fun i acc => acc = lN (sN (fun j => bN N c k j) i)) ?_ ?_ N FU 0 0 (by omega) (by rw [FU_eq]; omega) rfl
  · intro fu i acc hi e
    subst e
    refine ⟨_, rfl, ?_⟩
    show B_X5_backOf_5 r _ _ (lo2 _ fu) _ (nI i) = _
    unfold B_X5_backOf_5
    rw [R0 hR, bs, if_neg (by rw [nI_leI (by omega) (by omega)]; omega), M_backTo hR hO hi hk, bs, nm_eq, nm_eq, lN_add, nI_1]
    rfl
  · intro fu acc e
    subst e
    show B_X5_backOf_5 r _ _ (lo2 _ fu) _ (nI N) = _
    unfold B_X5_backOf_5
    rw [R0 hR, bs, if_pos (by rw [nI_leI (by omega) (by omega)]; omega)]
    rfl
theorem M_hullOwed (hR : RowR r N K c) (hO : OKc N K c) {i j : Nat} (hi : i < N) (hj : j < N) : F_X5_hullOwed r (nI i) (nI j) = some (lN (pN N c i (c (10 + 6 * j + 2)))) := by
  have e1 : F_X5_ofShip r (nI j) 2 = some (nI (c (10 + 6 * j + 2))) := Sh hR hO hj (w := 2) (by decide)
  have h := (hO.2.2.1 j hj).2.2.2.1
  unfold F_X5_hullOwed
  rw [e1, bs, nI_l (by omega), M_partOf hR hO hi (by omega)]
  rfl
theorem M_backOwed (hR : RowR r N K c) (hO : OKc N K c) {i j : Nat} (hi : i < N) (hj : j < N) : F_X5_backOwed r (nI i) (nI j) = some (lN (boN N K c i j)) := by
  have hN := hO.1
  unfold F_X5_backOwed
  refine loopR (fun fu k (acc : Int64) => lo2 (B_X5_backOwed_5 r (nI i) (nI j) (fun z6 => some z6)) fu acc (nI k)) _ K (fun k acc => acc = lN (sN (fun k => if c (34 + 4 * k) = 0 ∧ c (34 + 4 * k + 1) = i then bN N c k j else 0) k)) ?_ ?_ K FU 0 0 (by omega) (by rw [FU_eq]; omega) rfl
  · intro fu k acc hk e
    subst e
    refine ⟨_, rfl, ?_⟩
    have hc := hO.2.2.2.2 k hk
    show B_X5_backOwed_5 r _ _ _ (lo2 _ fu) _ (nI k) = _
    unfold B_X5_backOwed_5
    rw [R1 hR, bs, if_neg (by rw [nI_leI (by omega) (by omega)]; omega), Cl1 hR hO hk, bs]
    by_cases h : c (34 + 4 * k) = 0 ∧ c (34 + 4 * k + 1) = i
    · rw [if_pos ((onI_ne hc.2.1 hO.1.2.1 hi).mpr h), M_backTo hR hO hj hk, bs]
      unfold J_X5_backOwed_36
      rw [nm_eq, nm_eq, lN_add, nI_1, sN, if_pos h]
    · rw [if_neg (fun q => h ((onI_ne hc.2.1 hO.1.2.1 hi).mp q))]
      unfold J_X5_backOwed_36
      rw [nm_eq, nm_eq, show (0 : Int64) = lN 0 from rfl, lN_add, nI_1, sN, if_neg h]
  · intro fu acc e
    subst e
    show B_X5_backOwed_5 r _ _ _ (lo2 _ fu) _ (nI K) = _
    unfold B_X5_backOwed_5
    rw [R1 hR, bs, if_pos (by rw [nI_leI (by omega) (by omega)]; omega)]
    rfl
theorem M_bothOwed (hR : RowR r N K c) (hO : OKc N K c) {i j : Nat} (hi : i < N) (hj : j < N) : F_X5_bothOwed r (nI i) (nI j) = some (lN (cdN N K c i j)) := by
  unfold F_X5_bothOwed
  rw [M_hullOwed hR hO hi hj, bs, M_backOwed hR hO hi hj, bs, lN_add]
  rfl
theorem M_lesser {a b : Nat} (ha : a < 2 ^ 63) (hb : b < 2 ^ 63) : F_X5_lesser (lN a) (lN b) = some (lN (min a b)) := by
  unfold F_X5_lesser
  rw [Nat.min_def]
  by_cases h : b ≤ a
  · rw [if_pos ((lg_cmp_ge _ _).mpr ((pk_lLE hb ha).mpr h))]
    by_cases h2 : a ≤ b
    · rw [if_pos h2, show a = b by omega]
    · rw [if_neg h2]
  · rw [if_neg (fun q => h ((pk_lLE hb ha).mp ((lg_cmp_ge _ _).mp q))), if_pos (by omega)]
theorem M_greater {a b : Nat} (ha : a < 2 ^ 63) (hb : b < 2 ^ 63) : F_X5_greater (lN a) (lN b) = some (lN (max a b)) := by
  unfold F_X5_greater
  rw [Nat.max_def]
  by_cases h : a ≤ b
  · rw [if_pos ((lg_cmp_le _ _).mpr ((pk_lLE ha hb).mpr h)), if_pos h]
  · rw [if_neg (fun q => h ((pk_lLE ha hb).mp ((lg_cmp_le _ _).mp q))), if_neg h]
theorem M_lawOwed (hR : RowR r N K c) (hO : OKc N K c) {i j : Nat} (hi : i < N) (hj : j < N) : F_X5_lawOwed r (nI i) (nI j) = some (lN (lwN N K c i j)) := by
  have hN := hO.1
  have e4 : rdI r 4 = some (nI (c 4)) := Rw hR (w := 4) (by decide) (by decide)
  have h1 := cdN_le hO hi hj
  have h2 := cdN_le hO hj hi
  have hl := hO.2.1
  unfold F_X5_lawOwed lwN
  by_cases h : i = j
  · rw [if_pos (by rw [h]), if_pos h]
    rfl
  · rw [if_neg (fun q => h ((nI_eq (by omega) (by omega)).mp q)), if_neg h, M_bothOwed hR hO hi hj, bs, e4, bs]
    by_cases h4 : c 4 = 1
    · rw [if_pos (by rw [h4]; rfl), if_pos h4]
    · rw [if_neg (nI_n1 h4 (by omega)), if_neg h4, M_bothOwed hR hO hj hi, bs, M_lesser (by omega) (by omega), bs, lN_sub (Nat.min_le_left _ _)]
theorem M_fundOf (hR : RowR r N K c) (hO : OKc N K c) {i w : Nat} (hi : i < N) (hw : w = 5 ∨ w = 6) : F_X5_fundOf r (nI i) (nI w) = some (lN (fdN c i w)) := by
  have e0 : F_X5_ofShip r (nI i) 0 = some (nI (c (10 + 6 * i))) := Sh hR hO hi (w := 0) (by decide)
  have e7 : rdI r 7 = some (nI (c 7)) := Rw hR (w := 7) (by decide) (by decide)
  have ew : rdI r (nI w) = some (nI (c w)) := Rw hR (by omega) (by omega)
  have hl := hO.2.1
  have hs := hO.2.2.1 i hi
  have hcw : c w ≤ 99999 := by rcases hw with rfl | rfl <;> omega
  have hm : max (c (10 + 6 * i)) (c 7) ≤ 99999 := by omega
  have hmm : max (c (10 + 6 * i)) (c 7) * c w ≤ 99999 * 99999 := Nat.mul_le_mul hm hcw
  unfold F_X5_fundOf
  rw [e0, bs, e7, bs, nI_l (by omega), nI_l (by omega), M_greater (by omega) (by omega), bs, ew, bs, nI_l (by omega), lN_mul, show (2000000000 : Int64) = lN 2000000000 from rfl, M_lesser (by omega) (by omega), bs]
  unfold fdN
  rw [Nat.min_comm]
end ML2
end
section
/-! ===== level 2: a fund shared, in plain numbers ===== -/
def shq (o : Nat → Nat) (f : Nat) (k : Nat) : Nat := o k * f / sN o 16
def shE (o : Nat → Nat) (f : Nat) (k : Nat) : Nat := if shq o f k < o k then 1 else 0
def shL (o : Nat → Nat) (f : Nat) (k : Nat) : Nat := (f - sN (shq o f) 16) - sN (shE o f) k
def shp (o : Nat → Nat) (f : Nat) (k : Nat) : Nat := if sN o 16 ≤ f then o k else shq o f k + (if 0 < shL o f k ∧ shq o f k < o k then 1 else 0)
theorem sN_add (f g : Nat → Nat) : ∀ n, sN (fun k => f k + g k) n = sN f n + sN g n
  | 0 => rfl
  | n + 1 => by rw [sN, sN, sN, sN_add f g n]; omega
theorem sN_mul (a : Nat) (f : Nat → Nat) : ∀ n, sN (fun k => a * f k) n = a * sN f n
  | 0 => by simp [sN]
  | n + 1 => by rw [sN, sN, sN_mul a f n, Nat.mul_add]
theorem sN_mono (f : Nat → Nat) {m n : Nat} (h : m ≤ n) : sN f m ≤ sN f n := by
  induction n with
  | zero => have : m = 0 := by omega
            subst this; exact Nat.le_refl _
  | succ n ih =>
    rcases Nat.lt_or_ge n m with q | q
    · have : m = n + 1 := by omega
      subst this; exact Nat.le_refl _
    · exact Nat.le_trans (ih q) (Nat.le_add_right _ _)
section Shares
variable {o : Nat → Nat} {f : Nat}
theorem shq_le (h : f < sN o 16) (k : Nat) : shq o f k ≤ o k := Nat.div_le_of_le_mul (by rw [Nat.mul_comm]; exact Nat.mul_le_mul_right _ (Nat.le_of_lt h))
theorem shq_lt (h : f < sN o 16) {k : Nat} (hk : 0 < o k) : shq o f k < o k := by
  unfold shq
  refine (Nat.div_lt_iff_lt_mul (by omega)).mpr ?_
  exact Nat.mul_lt_mul_of_pos_left h hk
theorem sh_rem (h : f < sN o 16) (k : Nat) : o k * f ≤ sN o 16 * (shq o f k + shE o f k) := by
  unfold shE
  by_cases hk : 0 < o k
  · rw [if_pos (shq_lt h hk)]
    unfold shq
    have := Nat.lt_mul_div_succ (o k * f) (show 0 < sN o 16 by omega)
    rw [Nat.mul_add, Nat.mul_one]
    rw [Nat.mul_add, Nat.mul_one] at this
    omega
  · have : o k = 0 := by omega
    rw [this]
    simp
theorem sh_sum (h : f < sN o 16) : sN (shq o f) 16 ≤ f := by
  have h1 : sN (fun k => sN o 16 * shq o f k) 16 ≤ sN (fun k => f * o k) 16 := sN_le fun k _ => by
    show sN o 16 * shq o f k ≤ f * o k
    unfold shq
    rw [Nat.mul_comm f]
    exact Nat.mul_div_le _ _
  rw [sN_mul, sN_mul, Nat.mul_comm f] at h1
  exact Nat.le_of_mul_le_mul_left h1 (by omega)
theorem sh_left (h : f < sN o 16) : f - sN (shq o f) 16 ≤ sN (shE o f) 16 := by
  have h1 : sN (fun k => f * o k) 16 ≤ sN (fun k => sN o 16 * (shq o f k + shE o f k)) 16 := sN_le fun k _ => by
    show f * o k ≤ _
    rw [Nat.mul_comm f]
    exact sh_rem h k
  rw [sN_mul, sN_mul, sN_add, Nat.mul_comm f] at h1
  have := Nat.le_of_mul_le_mul_left h1 (by omega)
  omega
theorem shL_end (h : f < sN o 16) : shL o f 16 = 0 := by
  have := sh_left h
  unfold shL
  omega
theorem shL_step (k : Nat) : shL o f (k + 1) = if 0 < shL o f k ∧ shq o f k < o k then shL o f k - 1 else shL o f k := by
  have es : sN (shE o f) (k + 1) = sN (shE o f) k + shE o f k := rfl
  by_cases h : shq o f k < o k
  · have e : shE o f k = 1 := if_pos h
    by_cases h2 : 0 < shL o f k
    · rw [if_pos ⟨h2, h⟩]
      unfold shL at h2 ⊢
      rw [es, e]
      omega
    · rw [if_neg (fun q => h2 q.1)]
      unfold shL at h2 ⊢
      rw [es, e]
      omega
  · have e : shE o f k = 0 := if_neg h
    rw [if_neg (fun q => h q.2)]
    unfold shL
    rw [es, e]
    omega
theorem shp_le (k : Nat) : shp o f k ≤ o k := by
  unfold shp
  split
  · omega
  · rename_i h
    have := shq_le (o := o) (f := f) (by omega) k
    split <;> omega
theorem shp_part (h : f < sN o 16) : ∀ n, n ≤ 16 → sN (shp o f) n = sN (shq o f) n + (shL o f 0 - shL o f n)
  | 0, _ => by simp [sN]
  | n + 1, hn => by
    have ih := shp_part h n (by omega)
    have hs := shL_step (o := o) (f := f) n
    have hm : shL o f n ≤ shL o f 0 := by
      unfold shL
      simp only [sN]
      omega
    rw [sN, sN, ih, hs]
    unfold shp
    rw [if_neg (by omega)]
    by_cases q : 0 < shL o f n ∧ shq o f n < o n
    · rw [if_pos q, if_pos q]
      omega
    · rw [if_neg q, if_neg q]
      omega
theorem shp_sum : sN (shp o f) 16 = min (sN o 16) f := by
  by_cases h : sN o 16 ≤ f
  · have : sN (shp o f) 16 = sN o 16 := sN_eq fun k _ => if_pos h
    omega
  · have h' : f < sN o 16 := by omega
    rw [shp_part h' 16 (by omega), shL_end h']
    have := sh_sum h'
    have e : shL o f 0 = f - sN (shq o f) 16 := by unfold shL; simp [sN]
    omega
end Shares
/-! arrays of plain numbers -/
def aL {n : Nat} (o : Nat → Nat) : Fin n → Int64 := fun j => lN (o j.1)
theorem exL_aL {n : Nat} (o : Nat → Nat) {k : Nat} (h : k < n) : exL (aL (n := n) o) k = lN (o k) := by simp [exL, aL, h]
theorem upL_aL {n : Nat} (o : Nat → Nat) (k v : Nat) : upL (aL (n := n) o) k (lN v) = aL (fun j => if j = k then v else o j) := by
  funext j
  unfold upL aL
  by_cases h : j.1 = k
  · simp [h]
  · simp [h]
theorem aL_eq {n : Nat} {o u : Nat → Nat} (h : ∀ k, k < n → o k = u k) : aL (n := n) o = aL u := by
  funext j
  unfold aL
  rw [h j.1 j.2]
theorem rL_a {n : Nat} (o : Nat → Nat) {k : Nat} (h : k < n) (hn : n ≤ 1000) : rdL (aL (n := n) o) (nI k) = some (lN (o k)) := by rw [rL _ h hn, exL_aL o h]
theorem wL_a {n : Nat} (o : Nat → Nat) {k : Nat} (h : k < n) (hn : n ≤ 1000) (v : Nat) : wrL (aL (n := n) o) (nI k) (lN v) = some (aL (fun j => if j = k then v else o j)) := by rw [wL _ h hn, upL_aL]
/-! the model's scratch: second row, owed, out, paid -/
def sc (M : MS) (w : Fin 82 → Int32) (o u : Fin 16 → Int64) (p : Fin 64 → Int64) : MS := (M.1, M.2.1, M.2.2.1, M.2.2.2.1, M.2.2.2.2.1, M.2.2.2.2.2.1, w, M.2.2.2.2.2.2.2.1, M.2.2.2.2.2.2.2.2.1, M.2.2.2.2.2.2.2.2.2.1, M.2.2.2.2.2.2.2.2.2.2.1, M.2.2.2.2.2.2.2.2.2.2.2.1, M.2.2.2.2.2.2.2.2.2.2.2.2.1, M.2.2.2.2.2.2.2.2.2.2.2.2.2.1, M.2.2.2.2.2.2.2.2.2.2.2.2.2.2.1, M.2.2.2.2.2.2.2.2.2.2.2.2.2.2.2.1, M.2.2.2.2.2.2.2.2.2.2.2.2.2.2.2.2.1, M.2.2.2.2.2.2.2.2.2.2.2.2.2.2.2.2.2.1, M.2.2.2.2.2.2.2.2.2.2.2.2.2.2.2.2.2.2.1, M.2.2.2.2.2.2.2.2.2.2.2.2.2.2.2.2.2.2.2.1, M.2.2.2.2.2.2.2.2.2.2.2.2.2.2.2.2.2.2.2.2.1, M.2.2.2.2.2.2.2.2.2.2.2.2.2.2.2.2.2.2.2.2.2.1, M.2.2.2.2.2.2.2.2.2.2.2.2.2.2.2.2.2.2.2.2.2.2.1, M.2.2.2.2.2.2.2.2.2.2.2.2.2.2.2.2.2.2.2.2.2.2.2.1, M.2.2.2.2.2.2.2.2.2.2.2.2.2.2.2.2.2.2.2.2.2.2.2.2.1, M.2.2.2.2.2.2.2.2.2.2.2.2.2.2.2.2.2.2.2.2.2.2.2.2.2.1, o, u, p, M.2.2.2.2.2.2.2.2.2.2.2.2.2.2.2.2.2.2.2.2.2.2.2.2.2.2.2.2.2)
theorem sc_w (M : MS) (w : Fin 82 → Int32) (o u : Fin 16 → Int64) (p : Fin 64 → Int64) : m_w (sc M w o u p) = w := rfl
theorem sc_o (M : MS) (w : Fin 82 → Int32) (o u : Fin 16 → Int64) (p : Fin 64 → Int64) : m_owed (sc M w o u p) = o := rfl
theorem sc_u (M : MS) (w : Fin 82 → Int32) (o u : Fin 16 → Int64) (p : Fin 64 → Int64) : m_out (sc M w o u p) = u := rfl
theorem sc_p (M : MS) (w : Fin 82 → Int32) (o u : Fin 16 → Int64) (p : Fin 64 → Int64) : m_paid (sc M w o u p) = p := rfl
theorem sc_s (M : MS) (w : Fin 82 → Int32) (o u : Fin 16 → Int64) (p : Fin 64 → Int64) : m_s (sc M w o u p) = m_s M := rfl
theorem sc_sw (M : MS) (w w2 : Fin 82 → Int32) (o u : Fin 16 → Int64) (p : Fin 64 → Int64) : ms_w (sc M w o u p) w2 = sc M w2 o u p := rfl
theorem sc_so (M : MS) (w : Fin 82 → Int32) (o u o2 : Fin 16 → Int64) (p : Fin 64 → Int64) : ms_owed (sc M w o u p) o2 = sc M w o2 u p := rfl
theorem sc_su (M : MS) (w : Fin 82 → Int32) (o u u2 : Fin 16 → Int64) (p : Fin 64 → Int64) : ms_out (sc M w o u p) u2 = sc M w o u2 p := rfl
theorem sc_sp (M : MS) (w : Fin 82 → Int32) (o u : Fin 16 → Int64) (p p2 : Fin 64 → Int64) : ms_paid (sc M w o u p) p2 = sc M w o u p2 := rfl
theorem sc_self (M : MS) : sc M (m_w M) (m_owed M) (m_out M) (m_paid M) = M := rfl
theorem lo1_s {A β : Type} (F : (A → Option β) → A → Option β) (n : Nat) (a : A) : lo1 F (n + 1) a = F (lo1 F n) a := rfl
theorem lo2_s {A B β : Type} (F : (A → B → Option β) → A → B → Option β) (n : Nat) (a : A) (b : B) : lo2 F (n + 1) a b = F (lo2 F n) a b := rfl
theorem lo3_s {A B C β : Type} (F : (A → B → C → Option β) → A → B → C → Option β) (n : Nat) (a : A) (b : B) (c : C) : lo3 F (n + 1) a b c = F (lo3 F n) a b c := rfl
theorem lo4_s {A B C D β : Type} (F : (A → B → C → D → Option β) → A → B → C → D → Option β) (n : Nat) (a : A) (b : B) (c : C) (d : D) : lo4 F (n + 1) a b c d = F (lo4 F n) a b c d := rfl
theorem lo5_s {A B C D E β : Type} (F : (A → B → C → D → E → Option β) → A → B → C → D → E → Option β) (n : Nat) (a : A) (b : B) (c : C) (d : D) (e : E) : lo5 F (n + 1) a b c d e = F (lo5 F n) a b c d e := rfl
theorem sN_s (f : Nat → Nat) (n : Nat) : sN f (n + 1) = sN f n + f n := rfl
theorem le16 {i : Nat} (h : i < 16) : ¬ (16 : Int32) ≤ nI i := by
  rw [show (16 : Int32) = nI 16 from rfl, nI_leI (by omega) (by omega)]
  omega
theorem M_clears (S : Fin 16 → Int64) : F_X5_clears S = some (aL (fun _ => 0)) := by
  unfold F_X5_clears
  refine loopR (fun fu i (s : Fin 16 → Int64) => lo2 (B_X5_clears_2 (fun S4 => some S4)) fu s (nI i)) _ 16 (fun i s => ∀ k, k < i → exL s k = 0) ?_ ?_ 16 FU 0 S (by omega) (by rw [FU_eq]; omega) (fun k hk => absurd hk (Nat.not_lt_zero k))
  · intro fu i s hi e
    refine ⟨upL s i 0, fun k hk => ?_, ?_⟩
    · rw [exL_up s hi]
      by_cases h : k = i
      · rw [if_pos h]
      · rw [if_neg h]
        exact e k (by omega)
    · have key : ∀ k rc, B_X5_clears_2 k rc s (nI i) = rc (upL s i 0) (nI (i + 1)) := by
        intro k rc
        unfold B_X5_clears_2
        rw [if_neg (le16 hi), wL s hi (by omega), bs, nm_eq, nm_eq, nI_1]
      exact (lo2_s _ _ _ _).trans (key _ _)
  · intro fu s e
    have key : ∀ k rc, B_X5_clears_2 k rc s (nI 16) = k s := by
      intro k rc
      unfold B_X5_clears_2
      rw [if_pos (by decide)]
    refine ((lo2_s _ _ _ _).trans (key _ _)).trans (congrArg some (ext_L fun k hk => ?_))
    rw [e k hk, exL_aL _ hk]
    rfl
section MSH
variable {M : MS} {w : Fin 82 → Int32} {o : Nat → Nat} {p : Fin 64 → Int64} {f : Nat}
theorem M_sh1 (u : Nat → Nat) (k : MS → Int64 → Option (Int64 × MS)) : lo3 (B_X5_shares_5 (lN f) k) FU (sc M w (aL o) (aL u) p) 0 0 = k (sc M w (aL o) (aL u) p) (lN (sN o 16)) := by
  refine loopR (fun fu i (s : Int64) => lo3 (B_X5_shares_5 (lN f) k) fu (sc M w (aL o) (aL u) p) s (nI i)) _ 16 (fun i s => s = lN (sN o i)) ?_ ?_ 16 FU 0 0 (by omega) (by rw [FU_eq]; omega) rfl
  · intro fu i s hi e
    subst e
    refine ⟨_, rfl, ?_⟩
    have key : ∀ rc, B_X5_shares_5 (lN f) k rc (sc M w (aL o) (aL u) p) (lN (sN o i)) (nI i) = rc (sc M w (aL o) (aL u) p) (lN (sN o (i + 1))) (nI (i + 1)) := by
      intro rc
      unfold B_X5_shares_5
      rw [if_neg (le16 hi), sc_o, rL_a o hi (by omega), bs, nm_eq, nm_eq, lN_add, nI_1, sN_s o i]
    exact (lo3_s _ _ _ _ _).trans (key _)
  · intro fu s e
    subst e
    have key : ∀ rc, B_X5_shares_5 (lN f) k rc (sc M w (aL o) (aL u) p) (lN (sN o 16)) (nI 16) = k (sc M w (aL o) (aL u) p) (lN (sN o 16)) := by
      intro rc
      unfold B_X5_shares_5
      rw [if_pos (by decide)]
    exact (lo3_s _ _ _ _ _).trans (key _)
theorem sh_dv (hf : f ≤ 2000000000) (ho : ∀ k, k < 16 → o k ≤ 200000000) (hsc : f < sN o 16) (hall : sN o 16 ≤ 3200000000) {k : Nat} (hk : k < 16) : dvL (lN (o k) * lN f) (lN (sN o 16)) = some (lN (shq o f k)) := by
  have h2 : o k * f ≤ 200000000 * 2000000000 := Nat.mul_le_mul (ho k hk) hf
  rw [lN_mul, dvL_N (by omega) (by omega) (by omega)]
  rfl
theorem M_sh2 (hf : f ≤ 2000000000) (ho : ∀ k, k < 16 → o k ≤ 200000000) (hsc : f < sN o 16) (hall : sN o 16 ≤ 3200000000) (u : Nat → Nat) (k : MS → Int64 → Option (Int64 × MS)) : lo3 (B_X5_shares_77 (lN f) (lN (sN o 16)) k) FU (sc M w (aL o) (aL u) p) (lN f) 0 = k (sc M w (aL o) (aL u) p) (lN (shL o f 0)) := by
  have hsum := sh_sum hsc
  refine loopR (fun fu i (s : Int64) => lo3 (B_X5_shares_77 (lN f) (lN (sN o 16)) k) fu (sc M w (aL o) (aL u) p) s (nI i)) _ 16 (fun i s => s = lN (f - sN (shq o f) i)) ?_ ?_ 16 FU 0 _ (by omega) (by rw [FU_eq]; omega) rfl
  · intro fu i s hi e
    subst e
    refine ⟨_, rfl, ?_⟩
    have hm := sN_mono (shq o f) (show i + 1 ≤ 16 by omega)
    rw [sN_s (shq o f) i] at hm
    have key : ∀ rc, B_X5_shares_77 (lN f) (lN (sN o 16)) k rc (sc M w (aL o) (aL u) p) (lN (f - sN (shq o f) i)) (nI i) = rc (sc M w (aL o) (aL u) p) (lN (f - sN (shq o f) (i + 1))) (nI (i + 1)) := by
      intro rc
      unfold B_X5_shares_77
      rw [if_neg (le16 hi), sc_o, rL_a o hi (by omega), bs, sh_dv hf ho hsc hall hi, bs, nm_eq, nm_eq, lN_sub (by omega), nI_1, sN_s (shq o f) i, Nat.sub_sub]
    exact (lo3_s _ _ _ _ _).trans (key _)
  · intro fu s e
    subst e
    have key : ∀ rc, B_X5_shares_77 (lN f) (lN (sN o 16)) k rc (sc M w (aL o) (aL u) p) (lN (f - sN (shq o f) 16)) (nI 16) = k (sc M w (aL o) (aL u) p) (lN (shL o f 0)) := by
      intro rc
      unfold B_X5_shares_77
      rw [if_pos (by decide)]
      rfl
    exact (lo3_s _ _ _ _ _).trans (key _)
theorem M_sh3 (hf : f ≤ 2000000000) (ho : ∀ k, k < 16 → o k ≤ 200000000) (hsc : f < sN o 16) (hall : sN o 16 ≤ 3200000000) (u : Nat → Nat) (k : MS → Int64 → Option (Int64 × MS)) : lo3 (B_X5_shares_109 (lN f) (lN (sN o 16)) k) FU (sc M w (aL o) (aL u) p) (lN (shL o f 0)) 0 = k (sc M w (aL o) (aL (fun k => u k + shp o f k)) p) (lN 0) := by
  refine loopR (fun fu i (s : Nat → Nat) => lo3 (B_X5_shares_109 (lN f) (lN (sN o 16)) k) fu (sc M w (aL o) (aL s) p) (lN (shL o f i)) (nI i)) _ 16 (fun i s => ∀ k, k < 16 → s k = if k < i then u k + shp o f k else u k) ?_ ?_ 16 FU 0 u (by omega) (by rw [FU_eq]; omega) (fun k _ => (if_neg (Nat.not_lt_zero k)).symm)
  · intro fu i s hi e2
    have hst := shL_step (o := o) (f := f) i
    have hlb : shL o f i ≤ f := by unfold shL; omega
    have hob := ho i hi
    have hqb := shq_le hsc i
    have hp : shp o f i = shq o f i + (if 0 < shL o f i ∧ shq o f i < o i then 1 else 0) := if_neg (by omega)
    have hJ : ∀ (rc : MS → Int64 → Int32 → Option (Int64 × MS)) (x5 : Int64) (v : Nat), J_X5_shares_161 k rc (sc M w (aL o) (aL s) p) (lN f) (lN (sN o 16)) x5 (nI i) (lN v) = rc (sc M w (aL o) (aL (fun j => if j = i then s i + v else s j)) p) x5 (nI (i + 1)) := by
      intro rc x5 v
      unfold J_X5_shares_161
      rw [sc_u, rL_a s hi (by omega), bs, lN_add, wL_a s hi (by omega), bs, nm_eq, nm_eq, nI_1, sc_su]
    have key : ∀ rc, B_X5_shares_109 (lN f) (lN (sN o 16)) k rc (sc M w (aL o) (aL s) p) (lN (shL o f i)) (nI i) = rc (sc M w (aL o) (aL (fun j => if j = i then s i + shp o f i else s j)) p) (lN (shL o f (i + 1))) (nI (i + 1)) := by
      intro rc
      unfold B_X5_shares_109
      rw [if_neg (le16 hi), sc_o, rL_a o hi (by omega), bs, sh_dv hf ho hsc hall hi, bs, show (0 : Int64) = lN 0 from rfl]
      by_cases h1 : 0 < shL o f i
      · rw [if_neg (fun q => by have := (pk_lLE (a := shL o f i) (b := 0) (by omega) (by omega)).mp ((lg_cmp_le (lN (shL o f i)) (lN 0)).mp q); omega), bs]
        by_cases h2 : shq o f i < o i
        · rw [if_neg (fun q => by have := (pk_lLE (by omega) (by omega)).mp ((lg_cmp_ge _ _).mp q); omega), nm_eq, nm_eq, show (1 : Int64) = lN 1 from rfl, lN_add, lN_sub (by omega), hJ, hst, hp, if_pos ⟨h1, h2⟩, if_pos ⟨h1, h2⟩]
        · rw [if_pos ((lg_cmp_ge _ _).mpr ((pk_lLE (by omega) (by omega)).mpr (by omega))), hJ, hst, hp, if_neg (fun q => h2 q.2), if_neg (fun q => h2 q.2)]
          rfl
      · rw [if_pos ((lg_cmp_le (lN (shL o f i)) (lN 0)).mpr ((pk_lLE (a := shL o f i) (b := 0) (by omega) (by omega)).mpr (by omega))), hJ, hst, hp, if_neg (fun q => h1 q.1), if_neg (fun q => h1 q.1)]
        rfl
    refine ⟨fun j => if j = i then s i + shp o f i else s j, fun k hk => ?_, (lo3_s _ _ _ _ _).trans (key _)⟩
    show (if k = i then _ else _) = _
    by_cases h : k = i
    · subst h
      rw [if_pos rfl, if_pos (by omega), e2 k hk, if_neg (Nat.lt_irrefl k)]
    · rw [if_neg h, e2 k hk]
      by_cases h' : k < i
      · rw [if_pos h', if_pos (by omega)]
      · rw [if_neg h', if_neg (by omega)]
  · intro fu s e2
    have key : ∀ rc, B_X5_shares_109 (lN f) (lN (sN o 16)) k rc (sc M w (aL o) (aL s) p) (lN (shL o f 16)) (nI 16) = k (sc M w (aL o) (aL s) p) (lN (shL o f 16)) := by
      intro rc
      unfold B_X5_shares_109
      rw [if_pos (by decide)]
    refine ((lo3_s _ _ _ _ _).trans (key _)).trans ?_
    rw [shL_end hsc, aL_eq (n := 16) (o := s) (u := fun k => u k + shp o f k) (fun k hk => by rw [e2 k hk, if_pos hk])]
theorem M_sh4 (hsc : ¬ f < sN o 16) (u : Nat → Nat) (k : MS → Option (Int64 × MS)) : lo2 (B_X5_shares_37 (lN f) (lN (sN o 16)) k) FU (sc M w (aL o) (aL u) p) 0 = k (sc M w (aL o) (aL (fun k => u k + shp o f k)) p) := by
  refine loopR (fun fu i (s : Nat → Nat) => lo2 (B_X5_shares_37 (lN f) (lN (sN o 16)) k) fu (sc M w (aL o) (aL s) p) (nI i)) _ 16 (fun i s => ∀ k, k < 16 → s k = if k < i then u k + o k else u k) ?_ ?_ 16 FU 0 u (by omega) (by rw [FU_eq]; omega) (fun k _ => (if_neg (Nat.not_lt_zero k)).symm)
  · intro fu i s hi e
    have key : ∀ rc, B_X5_shares_37 (lN f) (lN (sN o 16)) k rc (sc M w (aL o) (aL s) p) (nI i) = rc (sc M w (aL o) (aL (fun j => if j = i then s i + o i else s j)) p) (nI (i + 1)) := by
      intro rc
      unfold B_X5_shares_37
      rw [if_neg (le16 hi), sc_u, sc_o, rL_a s hi (by omega), bs, rL_a o hi (by omega), bs, lN_add, wL_a s hi (by omega), bs, nm_eq, nm_eq, nI_1, sc_su]
    refine ⟨fun j => if j = i then s i + o i else s j, fun k hk => ?_, (lo2_s _ _ _ _).trans (key _)⟩
    show (if k = i then _ else _) = _
    by_cases h : k = i
    · subst h
      rw [if_pos rfl, if_pos (by omega), e k hk, if_neg (Nat.lt_irrefl k)]
    · rw [if_neg h, e k hk]
      by_cases h' : k < i
      · rw [if_pos h', if_pos (by omega)]
      · rw [if_neg h', if_neg (by omega)]
  · intro fu s e
    have key : ∀ rc, B_X5_shares_37 (lN f) (lN (sN o 16)) k rc (sc M w (aL o) (aL s) p) (nI 16) = k (sc M w (aL o) (aL s) p) := by
      intro rc
      unfold B_X5_shares_37
      rw [if_pos (by decide)]
    refine ((lo2_s _ _ _ _).trans (key _)).trans ?_
    rw [aL_eq (n := 16) (o := s) (u := fun k => u k + shp o f k) (fun k hk => by rw [e k hk, if_pos hk, show shp o f k = o k from if_pos (by omega)])]
theorem M_shares (hf : f ≤ 2000000000) (ho : ∀ k, k < 16 → o k ≤ 200000000) (u : Nat → Nat) :
    F_X5_shares (sc M w (aL o) (aL u) p) (lN f) = some (lN (f - sN o 16), sc M w (aL o) (aL (fun k => u k + shp o f k)) p) := by
  have hall : sN o 16 ≤ 3200000000 := by
    have := sN_bd (f := o) (c := 200000000) (n := 16) ho
    omega
  unfold F_X5_shares
  rw [M_sh1]
  by_cases hsc : f < sN o 16
  · rw [if_pos ((lg_cmp_gt _ _).mpr ((pk_lLT (by omega) (by omega)).mpr hsc)), M_sh2 hf ho hsc hall, M_sh3 hf ho hsc hall, show f - sN o 16 = 0 by omega]
  · rw [if_neg (fun q => hsc ((pk_lLT (by omega) (by omega)).mp ((lg_cmp_gt _ _).mp q))), M_sh4 hsc, lN_sub (by omega)]
end MSH
end
section
/-! ===== level 2: what the model's ships pay, in plain numbers ===== -/
def rN (c : Nat → Nat) (k : Nat) : Nat := if c (34 + 4 * k + 3) ≤ c 8 then 0 else if c (34 + 4 * k + 3) ≤ c 9 then 1 else 2
theorem rdC_eq (c : Nat → Nat) (k : Nat) {rd : Nat} (h : rd < 2) : rdC c k = nI rd ↔ rN c k = rd := by
  unfold rdC rN
  have h2 : ∀ x : Nat, x < 2 → ¬ (-2 : Int32) = nI x := fun x hx q => by
    have := congrArg Int32.toInt q
    rw [nI_toInt (by omega)] at this
    have h3 : (-2 : Int32).toInt = -2 := by decide
    omega
  split
  · rw [show (0 : Int32) = nI 0 from rfl, nI_eq (by omega) (by omega)]
  · split
    · rw [show (1 : Int32) = nI 1 from rfl, nI_eq (by omega) (by omega)]
    · exact ⟨fun q => absurd q (h2 rd h), fun q => by omega⟩
def oPg (N : Nat) (c : Nat → Nat) (i rd k : Nat) : Nat → Nat := fun p => if 4 ≤ p ∧ p < 4 + k ∧ c (34 + 4 * (p - 4)) = 1 ∧ rN c (p - 4) = rd then dN N c i (p - 4) else 0
def oAs (N K : Nat) (c : Nat → Nat) (i rd j : Nat) : Nat → Nat := fun p => if rd = 0 ∧ p < j then lwN N K c i p else 0
def oAg (N K : Nat) (c : Nat → Nat) (i rd : Nat) (v : Nat → Nat) (k : Nat) : Nat → Nat := fun p => if p < 4 then oAs N K c i rd N p else if p < 4 + k ∧ rN c (p - 4) = rd then dN N c i (p - 4) - v p else 0
section MPAY
variable {M : MS} {w : Fin 82 → Int32} {N K : Nat} {c : Nat → Nat} {p : Fin 64 → Int64}
theorem oPg_le (hO : OKc N K c) {i rd : Nat} (hi : i < N) (q : Nat) : oPg N c i rd K q ≤ 200000000 := by
  unfold oPg
  split
  · rename_i h
    have h1 := dN_le hO hi (k := q - 4) (by omega)
    have h2 := (hO.2.2.2.2 (q - 4) (by omega)).2.2.2.1
    omega
  · omega
theorem oAg_le (hO : OKc N K c) {i rd : Nat} (hi : i < N) (v : Nat → Nat) (q : Nat) : oAg N K c i rd v K q ≤ 200000000 := by
  unfold oAg
  split
  · unfold oAs
    split
    · have := lwN_le hO hi (j := q) (by omega)
      omega
    · omega
  · split
    · rename_i h
      have h1 := dN_le hO hi (k := q - 4) (by omega)
      have h2 := (hO.2.2.2.2 (q - 4) (by omega)).2.2.2.1
      omega
    · omega
theorem M_owesPersons (hR : RowR w N K c) (hO : OKc N K c) {i rd : Nat} (hi : i < N) (hrd : rd < 2) (o u : Fin 16 → Int64) : F_X5_owesPersons (sc M w o u p) (nI i) (nI rd) = some (sc M w (aL (oPg N c i rd K)) u p) := by
  have hN := hO.1
  unfold F_X5_owesPersons
  rw [M_clears, bs, nm_eq, sc_so, show (aL (fun _ => 0) : Fin 16 → Int64) = aL (oPg N c i rd 0) from aL_eq (fun k _ => by unfold oPg; rw [if_neg (by omega)])]
  refine loopR (fun fu k (_ : Unit) => lo2 (B_X5_owesPersons_10 (nI i) (nI rd) (fun S10 => some S10)) fu (sc M w (aL (oPg N c i rd k)) u p) (nI k)) _ K (fun _ _ => True) ?_ ?_ K FU 0 () (by omega) (by rw [FU_eq]; omega) trivial
  · intro fu k _ hk _
    refine ⟨(), trivial, ?_⟩
    have hJ : ∀ k9 rc S, J_X5_owesPersons_62 k9 rc S (nI i) (nI rd) (nI k) = rc S (nI (k + 1)) := by
      intro k9 rc S
      unfold J_X5_owesPersons_62
      rw [nm_eq, nI_1]
    have e0 : F_X5_ofClaim w (nI k) 0 = some (nI (c (34 + 4 * k))) := Cl hR hO hk (w := 0) (by decide) (by decide)
    have hc := hO.2.2.2.2 k hk
    have same : ¬ (c (34 + 4 * k) = 1 ∧ rN c k = rd) → (aL (oPg N c i rd k) : Fin 16 → Int64) = aL (oPg N c i rd (k + 1)) := fun h => aL_eq fun q _ => by
      unfold oPg
      by_cases hq : q = 4 + k
      · subst hq
        rw [if_neg (by omega), if_neg (by rw [show 4 + k - 4 = k by omega]; exact fun z => h z.2.2)]
      · by_cases h2 : 4 ≤ q ∧ q < 4 + k ∧ c (34 + 4 * (q - 4)) = 1 ∧ rN c (q - 4) = rd
        · rw [if_pos h2, if_pos ⟨h2.1, by omega, h2.2.2⟩]
        · rw [if_neg h2, if_neg (fun z => h2 ⟨z.1, by omega, z.2.2⟩)]
    have key : ∀ k9 rc, B_X5_owesPersons_10 (nI i) (nI rd) k9 rc (sc M w (aL (oPg N c i rd k)) u p) (nI k) = rc (sc M w (aL (oPg N c i rd (k + 1))) u p) (nI (k + 1)) := by
      intro k9 rc
      unfold B_X5_owesPersons_10
      rw [sc_w, R1 hR, bs, if_neg (by rw [nI_leI (by omega) (by omega)]; omega), e0, bs]
      by_cases h1 : c (34 + 4 * k) = 1
      · rw [if_pos (by rw [h1]; rfl), M_roundOf hR hO hk, bs]
        by_cases h2 : rN c k = rd
        · rw [if_pos ((rdC_eq c k hrd).mpr h2), M_debtOf hR hO hi hk, bs, sc_o, show (4 : Int32) = nI 4 from rfl, nI_add, wL_a _ (by omega) (by omega), bs, nm_eq, sc_so, hJ, aL_eq (n := 16) (u := oPg N c i rd (k + 1)) fun q _ => ?_]
          show (if q = 4 + k then dN N c i k else oPg N c i rd k q) = oPg N c i rd (k + 1) q
          unfold oPg
          by_cases hq : q = 4 + k
          · subst hq
            rw [if_pos rfl, show 4 + k - 4 = k by omega, if_pos ⟨by omega, by omega, h1, h2⟩]
          · rw [if_neg hq]
            by_cases h3 : 4 ≤ q ∧ q < 4 + k ∧ c (34 + 4 * (q - 4)) = 1 ∧ rN c (q - 4) = rd
            · rw [if_pos h3, if_pos ⟨h3.1, by omega, h3.2.2⟩]
            · rw [if_neg h3, if_neg (fun z => h3 ⟨z.1, by omega, z.2.2⟩)]
        · rw [if_neg (fun q => h2 ((rdC_eq c k hrd).mp q)), hJ, same (fun z => h2 z.2)]
      · rw [if_neg (nI_n1 h1 (by omega)), hJ, same (fun z => h1 z.1)]
    exact (lo2_s _ _ _ _).trans (key _ _)
  · intro fu _ _
    have key : ∀ k9 rc, B_X5_owesPersons_10 (nI i) (nI rd) k9 rc (sc M w (aL (oPg N c i rd K)) u p) (nI K) = k9 (sc M w (aL (oPg N c i rd K)) u p) := by
      intro k9 rc
      unfold B_X5_owesPersons_10
      rw [sc_w, R1 hR, bs, if_pos (by rw [nI_leI (by omega) (by omega)]; omega)]
    exact (lo2_s _ _ _ _).trans (key _ _)
theorem M_owesAll (hR : RowR w N K c) (hO : OKc N K c) {i rd : Nat} (hi : i < N) (hrd : rd < 2) (o : Fin 16 → Int64) (v : Nat → Nat) (hv : ∀ k, k < K → rN c k = rd → v (4 + k) ≤ dN N c i k) : F_X5_owesAll (sc M w o (aL v) p) (nI i) (nI rd) = some (sc M w (aL (oAg N K c i rd v K)) (aL v) p) := by
  have hN := hO.1
  -- the claims
  have hcl : J_X5_owesAll_45 (sc M w (aL (oAs N K c i rd N)) (aL v) p) (nI i) (nI rd) = some (sc M w (aL (oAg N K c i rd v K)) (aL v) p) := by
    unfold J_X5_owesAll_45
    rw [show (aL (oAs N K c i rd N) : Fin 16 → Int64) = aL (oAg N K c i rd v 0) from aL_eq (fun k _ => by
      unfold oAg
      split
      · rfl
      · unfold oAs
        rw [if_neg (by omega), if_neg (by omega)])]
    refine loopR (fun fu k (_ : Unit) => lo2 (B_X5_owesAll_47 (nI i) (nI rd) (fun S16 => some S16)) fu (sc M w (aL (oAg N K c i rd v k)) (aL v) p) (nI k)) _ K (fun _ _ => True) ?_ ?_ K FU 0 () (by omega) (by rw [FU_eq]; omega) trivial
    · intro fu k _ hk _
      refine ⟨(), trivial, ?_⟩
      have hJ : ∀ k9 rc S, J_X5_owesAll_95 k9 rc S (nI i) (nI rd) (nI k) = rc S (nI (k + 1)) := by
        intro k9 rc S
        unfold J_X5_owesAll_95
        rw [nm_eq, nI_1]
      have same : ¬ rN c k = rd → (aL (oAg N K c i rd v k) : Fin 16 → Int64) = aL (oAg N K c i rd v (k + 1)) := fun h => aL_eq fun q _ => by
        unfold oAg
        by_cases h4 : q < 4
        · rw [if_pos h4, if_pos h4]
        · rw [if_neg h4, if_neg h4]
          by_cases hq : q = 4 + k
          · subst hq
            rw [if_neg (by omega), if_neg (by rw [show 4 + k - 4 = k by omega]; exact fun z => h z.2)]
          · by_cases h2 : q < 4 + k ∧ rN c (q - 4) = rd
            · rw [if_pos h2, if_pos ⟨by omega, h2.2⟩]
            · rw [if_neg h2, if_neg (fun z => h2 ⟨by omega, z.2⟩)]
      have key : ∀ k9 rc, B_X5_owesAll_47 (nI i) (nI rd) k9 rc (sc M w (aL (oAg N K c i rd v k)) (aL v) p) (nI k) = rc (sc M w (aL (oAg N K c i rd v (k + 1))) (aL v) p) (nI (k + 1)) := by
        intro k9 rc
        unfold B_X5_owesAll_47
        rw [sc_w, R1 hR, bs, if_neg (by rw [nI_leI (by omega) (by omega)]; omega), M_roundOf hR hO hk, bs]
        by_cases h2 : rN c k = rd
        · rw [if_pos ((rdC_eq c k hrd).mpr h2), M_debtOf hR hO hi hk, bs, sc_u, show (4 : Int32) = nI 4 from rfl, nI_add, rL_a v (by omega) (by omega), bs, sc_o, lN_sub (hv k hk h2), wL_a _ (by omega) (by omega), bs, nm_eq, sc_so, hJ, aL_eq (n := 16) (u := oAg N K c i rd v (k + 1)) fun q _ => ?_]
          show (if q = 4 + k then dN N c i k - v (4 + k) else oAg N K c i rd v k q) = oAg N K c i rd v (k + 1) q
          unfold oAg
          by_cases hq : q = 4 + k
          · subst hq
            rw [if_pos rfl, if_neg (by omega), show 4 + k - 4 = k by omega, if_pos ⟨by omega, h2⟩]
          · rw [if_neg hq]
            by_cases h4 : q < 4
            · rw [if_pos h4, if_pos h4]
            · rw [if_neg h4, if_neg h4]
              by_cases h3 : q < 4 + k ∧ rN c (q - 4) = rd
              · rw [if_pos h3, if_pos ⟨by omega, h3.2⟩]
              · rw [if_neg h3, if_neg (fun z => h3 ⟨by omega, z.2⟩)]
        · rw [if_neg (fun q => h2 ((rdC_eq c k hrd).mp q)), hJ, same h2]
      exact (lo2_s _ _ _ _).trans (key _ _)
    · intro fu _ _
      have key : ∀ k9 rc, B_X5_owesAll_47 (nI i) (nI rd) k9 rc (sc M w (aL (oAg N K c i rd v K)) (aL v) p) (nI K) = k9 (sc M w (aL (oAg N K c i rd v K)) (aL v) p) := by
        intro k9 rc
        unfold B_X5_owesAll_47
        rw [sc_w, R1 hR, bs, if_pos (by rw [nI_leI (by omega) (by omega)]; omega)]
      exact (lo2_s _ _ _ _).trans (key _ _)
  unfold F_X5_owesAll
  rw [M_clears, bs, nm_eq, sc_so, show (aL (fun _ => 0) : Fin 16 → Int64) = aL (oAs N K c i rd 0) from aL_eq (fun k _ => by unfold oAs; rw [if_neg (by omega)])]
  by_cases h0 : rd = 0
  · refine loopR (fun fu j (_ : Unit) => lo2 (B_X5_owesAll_10 (nI i) (nI rd) (fun S8 => J_X5_owesAll_45 S8 (nI i) (nI rd))) fu (sc M w (aL (oAs N K c i rd j)) (aL v) p) (nI j)) _ N (fun _ _ => True) ?_ ?_ N FU 0 () (by omega) (by rw [FU_eq]; omega) trivial
    · intro fu j _ hj _
      refine ⟨(), trivial, ?_⟩
      have key : ∀ k9 rc, B_X5_owesAll_10 (nI i) (nI rd) k9 rc (sc M w (aL (oAs N K c i rd j)) (aL v) p) (nI j) = rc (sc M w (aL (oAs N K c i rd (j + 1))) (aL v) p) (nI (j + 1)) := by
        intro k9 rc
        unfold B_X5_owesAll_10
        rw [sc_w, R0 hR, bs, if_neg (by rw [nI_leI (by omega) (by omega)]; omega), if_pos (by rw [h0]; rfl), M_lawOwed hR hO hi hj, bs, sc_o, wL_a _ (by omega) (by omega), bs, nm_eq, sc_so, nm_eq, nI_1, aL_eq (n := 16) (u := oAs N K c i rd (j + 1)) fun q _ => ?_]
        show (if q = j then lwN N K c i j else oAs N K c i rd j q) = oAs N K c i rd (j + 1) q
        unfold oAs
        by_cases hq : q = j
        · subst hq
          rw [if_pos rfl, if_pos ⟨h0, by omega⟩]
        · rw [if_neg hq]
          by_cases h3 : q < j
          · rw [if_pos ⟨h0, h3⟩, if_pos ⟨h0, by omega⟩]
          · rw [if_neg (fun z => h3 z.2), if_neg (fun z => h3 (by omega))]
      exact (lo2_s _ _ _ _).trans (key _ _)
    · intro fu _ _
      have key : ∀ k9 rc, B_X5_owesAll_10 (nI i) (nI rd) k9 rc (sc M w (aL (oAs N K c i rd N)) (aL v) p) (nI N) = k9 (sc M w (aL (oAs N K c i rd N)) (aL v) p) := by
        intro k9 rc
        unfold B_X5_owesAll_10
        rw [sc_w, R0 hR, bs, if_pos (by rw [nI_leI (by omega) (by omega)]; omega)]
      exact ((lo2_s _ _ _ _).trans (key _ _)).trans hcl
  · have key : ∀ k9 rc, B_X5_owesAll_10 (nI i) (nI rd) k9 rc (sc M w (aL (oAs N K c i rd 0)) (aL v) p) (nI 0) = k9 (sc M w (aL (oAs N K c i rd N)) (aL v) p) := by
      intro k9 rc
      unfold B_X5_owesAll_10
      rw [sc_w, R0 hR, bs, if_neg (by rw [nI_leI (by omega) (by omega)]; omega), if_neg (nI_ne0 (by omega) (by omega)), show (aL (oAs N K c i rd 0) : Fin 16 → Int64) = aL (oAs N K c i rd N) from aL_eq (fun k _ => by unfold oAs; rw [if_neg (fun z => h0 z.1), if_neg (fun z => h0 z.1)])]
    exact ((lo2_s _ 999 _ _).trans (key _ _)).trans hcl
def lvU (N K : Nat) (c : Nat → Nat) (i : Nat) : Nat → Nat := fun q => shp (oPg N c i 0 K) (fdN c i 6) q + shp (oPg N c i 1 K) (fdN c i 6 - sN (oPg N c i 0 K) 16) q
theorem M_sharesLives (hR : RowR w N K c) (hO : OKc N K c) {i : Nat} (hi : i < N) (o u : Fin 16 → Int64) : F_X5_sharesLives (sc M w o u p) (nI i) = some (sc M w (aL (oPg N c i 1 K)) (aL (lvU N K c i)) p) := by
  have hf : F_X5_fundOf w (nI i) 6 = some (lN (fdN c i 6)) := M_fundOf hR hO hi (w := 6) (Or.inr rfl)
  have hfl := fdN_le c i 6
  have step : ∀ (rd : Nat) (_ : rd < 2) (k9 : MS → Option MS) rc (o2 : Fin 16 → Int64) (v : Nat → Nat) (g : Nat) (_ : g ≤ 2000000000), B_X5_sharesLives_22 (nI i) k9 rc (sc M w o2 (aL v) p) (lN g) (nI rd) = rc (sc M w (aL (oPg N c i rd K)) (aL (fun q => v q + shp (oPg N c i rd K) g q)) p) (lN (g - sN (oPg N c i rd K) 16)) (nI (rd + 1)) := by
    intro rd hrd k9 rc o2 v g hg
    unfold B_X5_sharesLives_22
    rw [show (2 : Int32) = nI 2 from rfl, if_neg (by rw [nI_leI (by omega) (by omega)]; omega), M_owesPersons hR hO hi hrd, bs, M_shares hg (fun k _ => oPg_le hO hi k), bs, nm_eq, nI_1]
  unfold F_X5_sharesLives
  rw [M_clears, bs, nm_eq, sc_su, sc_w, hf, bs, FU_eq]
  refine ((lo3_s _ 999 _ _ _).trans (step 0 (by omega) _ _ _ _ _ hfl)).trans ?_
  refine ((lo3_s _ 998 _ _ _).trans (step 1 (by omega) _ _ _ _ _ (by omega))).trans ?_
  refine (lo3_s _ 997 _ _ _).trans ?_
  have key : ∀ (k9 : MS → Option MS) rc S x, B_X5_sharesLives_22 (nI i) k9 rc S x (nI (1 + 1)) = k9 S := by
    intro k9 rc S x
    unfold B_X5_sharesLives_22
    rw [if_pos (by decide)]
  rw [key]
  refine congrArg (fun z => some (sc M w (aL (oPg N c i 1 K)) z p)) (aL_eq fun q _ => ?_)
  show 0 + shp (oPg N c i 0 K) (fdN c i 6) q + shp (oPg N c i 1 K) (fdN c i 6 - sN (oPg N c i 0 K) 16) q = _
  rw [Nat.zero_add]
  rfl
theorem lvU_le {i : Nat} (k : Nat) : lvU N K c i (4 + k) ≤ dN N c i k := by
  have h0 : shp (oPg N c i 0 K) (fdN c i 6) (4 + k) ≤ oPg N c i 0 K (4 + k) := shp_le _
  have h1 : shp (oPg N c i 1 K) (fdN c i 6 - sN (oPg N c i 0 K) 16) (4 + k) ≤ oPg N c i 1 K (4 + k) := shp_le _
  have h2 : oPg N c i 0 K (4 + k) + oPg N c i 1 K (4 + k) ≤ dN N c i k := by
    unfold oPg
    rw [show 4 + k - 4 = k by omega]
    by_cases q : rN c k = 0
    · rw [if_neg (c := _ ∧ _ ∧ _ ∧ rN c k = 1) (fun z => by omega)]
      split <;> omega
    · rw [if_neg (c := _ ∧ _ ∧ _ ∧ rN c k = 0) (fun z => q z.2.2.2)]
      split <;> omega
  show _ + _ ≤ _
  omega
def rtU (N K : Nat) (c : Nat → Nat) (i : Nat) : Nat → Nat := fun q => lvU N K c i q + shp (oAg N K c i 0 (lvU N K c i) K) (fdN c i 5) q
def payU (N K : Nat) (c : Nat → Nat) (i : Nat) : Nat → Nat := fun q => rtU N K c i q + shp (oAg N K c i 1 (rtU N K c i) K) (fdN c i 5 - sN (oAg N K c i 0 (lvU N K c i) K) 16) q
theorem rtU_le {i : Nat} (k : Nat) (h : rN c k = 1) : rtU N K c i (4 + k) ≤ dN N c i k := by
  have h0 : shp (oAg N K c i 0 (lvU N K c i) K) (fdN c i 5) (4 + k) ≤ oAg N K c i 0 (lvU N K c i) K (4 + k) := shp_le _
  have h1 : oAg N K c i 0 (lvU N K c i) K (4 + k) = 0 := by
    unfold oAg
    rw [if_neg (by omega), show 4 + k - 4 = k by omega, if_neg (by omega)]
  have h2 := lvU_le (N := N) (K := K) (c := c) (i := i) k
  show _ + _ ≤ _
  omega
def payB (N K : Nat) (c : Nat → Nat) (i : Nat) : Nat → Nat := fun q => if q < 4 then (if q < N then lwN N K c i q else 0) else if q < 4 + K then dN N c i (q - 4) else 0
def payN (N K : Nat) (c : Nat → Nat) (i : Nat) : Nat → Nat := if c (10 + 6 * i + 5) = 1 then payB N K c i else payU N K c i
def pBs (N K : Nat) (c : Nat → Nat) (i j : Nat) : Nat → Nat := fun q => if q < j then lwN N K c i q else 0
def pBc (N K : Nat) (c : Nat → Nat) (i k : Nat) : Nat → Nat := fun q => if q < 4 then (if q < N then lwN N K c i q else 0) else if q < 4 + k then dN N c i (q - 4) else 0
theorem le16' {i : Nat} (h : i < 16) : ¬ (16 : Int32) ≤ nI i := le16 h
/-- what comes out goes to the ship's row -/
theorem M_paysRow (o : Fin 16 → Int64) (v : Nat → Nat) {i : Nat} (hi : i < 4) : ∃ p2 : Fin 64 → Int64, J_X5_paysOne_135 (sc M w o (aL v) p) (nI i) = some (sc M w o (aL v) p2) ∧ (∀ q, q < 16 → exL p2 (16 * i + q) = lN (v q)) ∧ ∀ z, (z < 16 * i ∨ 16 * i + 16 ≤ z) → exL p2 z = exL p z := by
  unfold J_X5_paysOne_135
  obtain ⟨p2, ⟨h1, h2⟩, e⟩ := loopE (fun fu q (s : Fin 64 → Int64) => lo2 (B_X5_paysOne_137 (nI i) (fun S12 => some S12)) fu (sc M w o (aL v) s) (nI q)) (fun s => some (sc M w o (aL v) s)) 16 (fun n s => (∀ q, q < n → exL s (16 * i + q) = lN (v q)) ∧ ∀ z, (z < 16 * i ∨ 16 * i + 16 ≤ z) → exL s z = exL p z) (by
    intro fu q s hq hI
    have key : ∀ k9 rc, B_X5_paysOne_137 (nI i) k9 rc (sc M w o (aL v) s) (nI q) = rc (sc M w o (aL v) (upL s (16 * i + q) (lN (v q)))) (nI (q + 1)) := by
      intro k9 rc
      unfold B_X5_paysOne_137
      rw [if_neg (le16 hq), sc_u, rL_a v hq (by omega), bs, sc_p, show (16 : Int32) = nI 16 from rfl, pk_mul, nI_add, wL s (by omega) (by omega), bs, nm_eq, sc_sp, nm_eq, nI_1]
    refine ⟨upL s (16 * i + q) (lN (v q)), ⟨fun z hz => ?_, fun z hz => ?_⟩, (lo2_s _ _ _ _).trans (key _ _)⟩
    · rw [exL_up s (by omega)]
      by_cases h : z = q
      · subst h
        rw [if_pos rfl]
      · rw [if_neg (by omega)]
        exact hI.1 z (by omega)
    · rw [exL_up s (by omega), if_neg (by omega)]
      exact hI.2 z hz) (by
    intro fu s hI
    have key : ∀ k9 rc, B_X5_paysOne_137 (nI i) k9 rc (sc M w o (aL v) s) (nI 16) = k9 (sc M w o (aL v) s) := by
      intro k9 rc
      unfold B_X5_paysOne_137
      rw [if_pos (by decide)]
    exact (lo2_s _ _ _ _).trans (key _ _)) 16 FU 0 p (by omega) (by rw [FU_eq]; omega) ⟨fun q hq => absurd hq (Nat.not_lt_zero q), fun z _ => rfl⟩
  exact ⟨p2, e, h1, h2⟩
theorem M_paysOne (hR : RowR w N K c) (hO : OKc N K c) {i : Nat} (hi : i < N) (o u : Fin 16 → Int64) : ∃ (o2 u2 : Fin 16 → Int64) (p2 : Fin 64 → Int64), F_X5_paysOne (sc M w o u p) (nI i) = some (sc M w o2 u2 p2) ∧ (∀ q, q < 16 → exL p2 (16 * i + q) = lN (payN N K c i q)) ∧ ∀ z, (z < 16 * i ∨ 16 * i + 16 ≤ z) → exL p2 z = exL p z := by
  have hN := hO.1
  have e5 : F_X5_ofShip w (nI i) 5 = some (nI (c (10 + 6 * i + 5))) := Sh hR hO hi (w := 5) (by decide)
  have hb := (hO.2.2.1 i hi).2.2.2.2.2.2
  unfold F_X5_paysOne
  rw [sc_w, e5, bs]
  by_cases h5 : c (10 + 6 * i + 5) = 1
  · rw [if_pos (by rw [h5]; rfl), M_clears, bs, nm_eq, sc_su]
    have hpay : payN N K c i = payB N K c i := if_pos h5
    rw [hpay]
    obtain ⟨p2, e, h1, h2⟩ := M_paysRow (M := M) (w := w) (p := p) o (payB N K c i) (i := i) (by omega)
    refine ⟨o, aL (payB N K c i), p2, ?_, h1, h2⟩
    have hc2 : lo2 (B_X5_paysOne_56 (nI i) (fun S26 => J_X5_paysOne_135 S26 (nI i))) FU (sc M w o (aL (pBs N K c i N)) p) 0 = some (sc M w o (aL (payB N K c i)) p2) := by
      rw [show (aL (pBs N K c i N) : Fin 16 → Int64) = aL (pBc N K c i 0) from aL_eq (fun k _ => by
        unfold pBs pBc
        by_cases h : k < 4
        · rw [if_pos h]
        · rw [if_neg h, if_neg (by omega), if_neg (by omega)])]
      refine loopR (fun fu k (_ : Unit) => lo2 (B_X5_paysOne_56 (nI i) (fun S26 => J_X5_paysOne_135 S26 (nI i))) fu (sc M w o (aL (pBc N K c i k)) p) (nI k)) _ K (fun _ _ => True) ?_ ?_ K FU 0 () (by omega) (by rw [FU_eq]; omega) trivial
      · intro fu k _ hk _
        have key : ∀ k9 rc, B_X5_paysOne_56 (nI i) k9 rc (sc M w o (aL (pBc N K c i k)) p) (nI k) = rc (sc M w o (aL (pBc N K c i (k + 1))) p) (nI (k + 1)) := by
          intro k9 rc
          unfold B_X5_paysOne_56
          rw [sc_w, R1 hR, bs, if_neg (by rw [nI_leI (by omega) (by omega)]; omega), M_debtOf hR hO hi hk, bs, sc_u, show (4 : Int32) = nI 4 from rfl, nI_add, wL_a _ (by omega) (by omega), bs, nm_eq, sc_su, nm_eq, nI_1, aL_eq (n := 16) (u := pBc N K c i (k + 1)) fun q _ => ?_]
          show (if q = 4 + k then dN N c i k else pBc N K c i k q) = pBc N K c i (k + 1) q
          unfold pBc
          by_cases hq : q = 4 + k
          · subst hq
            rw [if_pos rfl, if_neg (by omega), if_pos (by omega), show 4 + k - 4 = k by omega]
          · rw [if_neg hq]
            by_cases h4 : q < 4
            · rw [if_pos h4, if_pos h4]
            · rw [if_neg h4, if_neg h4]
              by_cases h3 : q < 4 + k
              · rw [if_pos h3, if_pos (by omega)]
              · rw [if_neg h3, if_neg (by omega)]
        exact ⟨(), trivial, (lo2_s _ _ _ _).trans (key _ _)⟩
      · intro fu _ _
        have key : ∀ k9 rc, B_X5_paysOne_56 (nI i) k9 rc (sc M w o (aL (pBc N K c i K)) p) (nI K) = k9 (sc M w o (aL (pBc N K c i K)) p) := by
          intro k9 rc
          unfold B_X5_paysOne_56
          rw [sc_w, R1 hR, bs, if_pos (by rw [nI_leI (by omega) (by omega)]; omega)]
        exact ((lo2_s _ _ _ _).trans (key _ _)).trans e
    rw [show (aL (fun _ => 0) : Fin 16 → Int64) = aL (pBs N K c i 0) from aL_eq (fun k _ => by unfold pBs; rw [if_neg (by omega)])]
    refine loopR (fun fu j (_ : Unit) => lo2 (B_X5_paysOne_23 (nI i) (fun S20 => lo2 (B_X5_paysOne_56 (nI i) (fun S26 => J_X5_paysOne_135 S26 (nI i))) FU S20 0)) fu (sc M w o (aL (pBs N K c i j)) p) (nI j)) _ N (fun _ _ => True) ?_ ?_ N FU 0 () (by omega) (by rw [FU_eq]; omega) trivial
    · intro fu j _ hj _
      have key : ∀ k9 rc, B_X5_paysOne_23 (nI i) k9 rc (sc M w o (aL (pBs N K c i j)) p) (nI j) = rc (sc M w o (aL (pBs N K c i (j + 1))) p) (nI (j + 1)) := by
        intro k9 rc
        unfold B_X5_paysOne_23
        rw [sc_w, R0 hR, bs, if_neg (by rw [nI_leI (by omega) (by omega)]; omega), M_lawOwed hR hO hi hj, bs, sc_u, wL_a _ (by omega) (by omega), bs, nm_eq, sc_su, nm_eq, nI_1, aL_eq (n := 16) (u := pBs N K c i (j + 1)) fun q _ => ?_]
        show (if q = j then lwN N K c i j else pBs N K c i j q) = pBs N K c i (j + 1) q
        unfold pBs
        by_cases hq : q = j
        · subst hq
          rw [if_pos rfl, if_pos (by omega)]
        · rw [if_neg hq]
          by_cases h3 : q < j
          · rw [if_pos h3, if_pos (by omega)]
          · rw [if_neg h3, if_neg (by omega)]
      exact ⟨(), trivial, (lo2_s _ _ _ _).trans (key _ _)⟩
    · intro fu _ _
      have key : ∀ k9 rc, B_X5_paysOne_23 (nI i) k9 rc (sc M w o (aL (pBs N K c i N)) p) (nI N) = k9 (sc M w o (aL (pBs N K c i N)) p) := by
        intro k9 rc
        unfold B_X5_paysOne_23
        rw [sc_w, R0 hR, bs, if_pos (by rw [nI_leI (by omega) (by omega)]; omega)]
      exact ((lo2_s _ _ _ _).trans (key _ _)).trans hc2
  · have hf : F_X5_fundOf w (nI i) 5 = some (lN (fdN c i 5)) := M_fundOf hR hO hi (w := 5) (Or.inl rfl)
    have hfl := fdN_le c i 5
    have hpay : payN N K c i = payU N K c i := if_neg h5
    rw [if_neg (nI_n1 h5 (by omega)), M_sharesLives hR hO hi, bs, sc_w, hf, bs, hpay]
    have step : ∀ (rd : Nat) (_ : rd < 2) (k9 : MS → Option MS) rc (o2 : Fin 16 → Int64) (v : Nat → Nat) (g : Nat) (_ : g ≤ 2000000000) (_ : ∀ k, k < K → rN c k = rd → v (4 + k) ≤ dN N c i k), B_X5_paysOne_110 (nI i) k9 rc (sc M w o2 (aL v) p) (lN g) (nI rd) = rc (sc M w (aL (oAg N K c i rd v K)) (aL (fun q => v q + shp (oAg N K c i rd v K) g q)) p) (lN (g - sN (oAg N K c i rd v K) 16)) (nI (rd + 1)) := by
      intro rd hrd k9 rc o2 v g hg hv
      unfold B_X5_paysOne_110
      rw [show (2 : Int32) = nI 2 from rfl, if_neg (by rw [nI_leI (by omega) (by omega)]; omega), M_owesAll hR hO hi hrd _ v hv, bs, M_shares hg (fun k _ => oAg_le hO hi v k), bs, nm_eq, nI_1]
    obtain ⟨p2, e, h1, h2⟩ := M_paysRow (M := M) (w := w) (p := p) (aL (oAg N K c i 1 (rtU N K c i) K)) (payU N K c i) (i := i) (by omega)
    refine ⟨aL (oAg N K c i 1 (rtU N K c i) K), aL (payU N K c i), p2, ?_, h1, h2⟩
    rw [FU_eq]
    refine ((lo3_s _ 999 _ _ _).trans (step 0 (by omega) _ _ _ (lvU N K c i) _ hfl (fun k _ _ => lvU_le k))).trans ?_
    refine ((lo3_s _ 998 _ _ _).trans (step 1 (by omega) _ _ _ (rtU N K c i) _ (by omega) (fun k _ h => rtU_le k h))).trans ?_
    refine (lo3_s _ 997 _ _ _).trans ?_
    have key : ∀ (k9 : MS → Option MS) rc S x, B_X5_paysOne_110 (nI i) k9 rc S x (nI (1 + 1)) = k9 S := by
      intro k9 rc S x
      unfold B_X5_paysOne_110
      rw [if_pos (by decide)]
    rw [key]
    exact e
theorem M_paysAll (hR : RowR w N K c) (hO : OKc N K c) (o u : Fin 16 → Int64) : ∃ (o2 u2 : Fin 16 → Int64) (p2 : Fin 64 → Int64), F_X5_paysAll (sc M w o u p) = some (sc M w o2 u2 p2) ∧ ∀ i, i < N → ∀ q, q < 16 → exL p2 (16 * i + q) = lN (payN N K c i q) := by
  have hN := hO.1
  unfold F_X5_paysAll
  obtain ⟨⟨o2, u2, p2⟩, h, e⟩ := loopE (fun fu i (s : (Fin 16 → Int64) × (Fin 16 → Int64) × (Fin 64 → Int64)) => lo2 (B_X5_paysAll_2 (fun S4 => some S4)) fu (sc M w s.1 s.2.1 s.2.2) (nI i)) (fun s => some (sc M w s.1 s.2.1 s.2.2)) N (fun n s => ∀ i, i < n → ∀ q, q < 16 → exL s.2.2 (16 * i + q) = lN (payN N K c i q)) (by
    intro fu i s hi hI
    obtain ⟨o1, u1, p1⟩ := s
    obtain ⟨o2, u2, p2, e, h1, h2⟩ := M_paysOne (M := M) (p := p1) hR hO hi o1 u1
    have key : ∀ k9 rc, B_X5_paysAll_2 k9 rc (sc M w o1 u1 p1) (nI i) = rc (sc M w o2 u2 p2) (nI (i + 1)) := by
      intro k9 rc
      unfold B_X5_paysAll_2
      rw [sc_w, R0 hR, bs, if_neg (by rw [nI_leI (by omega) (by omega)]; omega), e, bs, nm_eq, nI_1]
    refine ⟨(o2, u2, p2), fun j hj q hq => ?_, (lo2_s _ _ _ _).trans (key _ _)⟩
    by_cases h : j = i
    · subst h
      exact h1 q hq
    · have := h2 (16 * j + q) (by omega)
      rw [this]
      exact hI j (by omega) q hq) (by
    intro fu s hI
    obtain ⟨o1, u1, p1⟩ := s
    have key : ∀ k9 rc, B_X5_paysAll_2 k9 rc (sc M w o1 u1 p1) (nI N) = k9 (sc M w o1 u1 p1) := by
      intro k9 rc
      unfold B_X5_paysAll_2
      rw [sc_w, R0 hR, bs, if_pos (by rw [nI_leI (by omega) (by omega)]; omega)]
    exact (lo2_s _ _ _ _).trans (key _ _)) N FU 0 (o, u, p) (by omega) (by rw [FU_eq]; omega) (fun i hi => absurd hi (Nat.not_lt_zero i))
  exact ⟨o2, u2, p2, e, h⟩
end MPAY
end
section
/-! ===== level 2: the class's Told in plain numbers ===== -/
section CTO
variable {T : TS} {N K : Nat} {c : Nat → Nat}
theorem C_sh (hR : RowT T N K c) (hO : OKc N K c) {a w : Nat} (ha : a < N) (hw : w < 6) : F_X2_ofShip T (nI a) (nI w) = some (nI (c (10 + 6 * a + w))) := by
  have := hO.1.2.1
  unfold F_X2_ofShip
  rw [show (6 : Int32) = nI 6 from rfl, pk_mul, nI_add, show a * 6 + w = 6 * a + w by omega, rI _ (by omega) (by omega), hR.2.2.2.1 a ha w hw]
  rfl
theorem C_cl (hR : RowT T N K c) (hO : OKc N K c) {k w : Nat} (hk : k < K) (hw : w < 4) (h1 : w ≠ 1) : F_X2_ofClaim T (nI k) (nI w) = some (nI (c (34 + 4 * k + w))) := by
  have := hO.1.2.2
  unfold F_X2_ofClaim
  rw [show (4 : Int32) = nI 4 from rfl, pk_mul, nI_add, show k * 4 + w = 4 * k + w by omega, rI _ (by omega) (by omega), (hR.2.2.2.2 k hk).1 w hw h1]
  rfl
theorem C_cl1 (hR : RowT T N K c) (hO : OKc N K c) {k : Nat} (hk : k < K) : F_X2_ofClaim T (nI k) 1 = some (onI c k) := by
  have := hO.1.2.2
  unfold F_X2_ofClaim
  rw [show (4 : Int32) = nI 4 from rfl, show (1 : Int32) = nI 1 from rfl, pk_mul, nI_add, show k * 4 + 1 = 4 * k + 1 by omega, rI _ (by omega) (by omega), (hR.2.2.2.2 k hk).2]
  rfl
theorem C_law (hR : RowT T N K c) {w : Nat} (h2 : 2 ≤ w) (h : w < 10) : rdI (t_laws T) (nI w) = some (nI (c w)) := by
  rw [rI _ (by omega) (by omega), hR.2.2.1 w h2 h]
theorem C_holds (hR : RowT T N K c) (hO : OKc N K c) {w : Nat} (h2 : 2 ≤ w) (h : w < 5) : F_X2_holds T (nI w) = some (if c w = 1 then 1 else 0) := by
  have hl := hO.2.1
  have hb : c w ≤ 1 := by
    rcases (show w = 2 ∨ w = 3 ∨ w = 4 by omega) with rfl | rfl | rfl <;> omega
  unfold F_X2_holds
  rw [C_law hR h2 (by omega), bs]
  by_cases h1 : c w = 1
  · rw [if_pos (by rw [h1]; rfl), if_pos h1]
  · rw [if_neg (nI_n1 h1 (by omega)), if_neg h1]
theorem C_isGoods (hR : RowT T N K c) (hO : OKc N K c) {k : Nat} (hk : k < K) : F_X2_isGoods T (nI k) = some (if c (34 + 4 * k) = 0 then 1 else 0) := by
  have e0 : F_X2_ofClaim T (nI k) 0 = some (nI (c (34 + 4 * k))) := C_cl hR hO hk (w := 0) (by decide) (by decide)
  have hc := (hO.2.2.2.2 k hk).1
  unfold F_X2_isGoods
  rw [e0, bs]
  by_cases h : c (34 + 4 * k) = 0
  · rw [if_pos (by rw [h]; rfl), if_pos h]
  · rw [if_neg (nI_ne0 (by omega) (by omega)), if_neg h]
theorem C_weightOf (hR : RowT T N K c) (hO : OKc N K c) {a : Nat} (ha : a < N) : F_X2_weightOf T (nI a) = some (nI (wN c a)) := by
  have e1 : F_X2_ofShip T (nI a) 1 = some (nI (c (10 + 6 * a + 1))) := C_sh hR hO ha (w := 1) (by decide)
  have e2 : F_X2_holds T 2 = some (if c 2 = 1 then 1 else 0) := C_holds hR hO (w := 2) (by decide) (by decide)
  have hb := (hO.2.2.1 a ha).2.2.1
  unfold F_X2_weightOf wN
  rw [e1, bs, e2, bs]
  by_cases h2 : c 2 = 1
  · rw [if_pos h2, if_pos h2, if_neg (by decide), nm_eq]
    by_cases h0 : 0 < c (10 + 6 * a + 1)
    · rw [if_pos h0]
      by_cases h1 : 1 < c (10 + 6 * a + 1)
      · rw [if_pos (show (1 : Int32) < nI _ from (nI_ltI (a := 1) (by omega) (by omega)).mpr h1)]
        rfl
      · have : c (10 + 6 * a + 1) = 1 := by omega
        rw [this]
        rfl
    · have : c (10 + 6 * a + 1) = 0 := by omega
      rw [this]
      rfl
  · rw [if_neg h2, if_neg h2, if_pos rfl]
theorem C_roundOf (hR : RowT T N K c) (hO : OKc N K c) {k : Nat} (hk : k < K) : F_X2_roundOf T (nI k) = some (rdC c k) := by
  have e1 : F_X2_ofClaim T (nI k) 3 = some (nI (c (34 + 4 * k + 3))) := C_cl hR hO hk (w := 3) (by decide) (by decide)
  have e2 : rdI (t_laws T) 8 = some (nI (c 8)) := C_law hR (w := 8) (by decide) (by decide)
  have e3 : rdI (t_laws T) 9 = some (nI (c 9)) := C_law hR (w := 9) (by decide) (by decide)
  have h1 := hO.2.1
  have h2 := (hO.2.2.2.2 k hk).2.2.2.2
  unfold F_X2_roundOf rdC
  rw [e1, bs, e3, bs]
  by_cases h : c (34 + 4 * k + 3) ≤ c 9
  · rw [if_pos ((nI_leI (by omega) (by omega)).mpr h), e2, bs]
    by_cases h' : c (34 + 4 * k + 3) ≤ c 8
    · rw [if_pos ((nI_leI (by omega) (by omega)).mpr h'), if_pos h']
    · rw [if_neg (fun q => h' ((nI_leI (by omega) (by omega)).mp q)), if_neg h', if_pos h]
  · rw [if_neg (fun q => h ((nI_leI (by omega) (by omega)).mp q)), if_neg (by omega), if_neg h]
theorem C_fundTons (hR : RowT T N K c) (hO : OKc N K c) {i : Nat} (hi : i < N) : F_X2_fundTons T (nI i) = some (lN (max (c (10 + 6 * i)) (c 7))) := by
  have e0 : F_X2_ofShip T (nI i) 0 = some (nI (c (10 + 6 * i))) := C_sh hR hO hi (w := 0) (by decide)
  have e7 : rdI (t_laws T) 7 = some (nI (c 7)) := C_law hR (w := 7) (by decide) (by decide)
  have hl := hO.2.1
  have hs := hO.2.2.1 i hi
  unfold F_X2_fundTons
  rw [e0, bs, e7, bs, nm_eq, Nat.max_def]
  by_cases h : c (10 + 6 * i) < c 7
  · rw [if_pos ((nI_ltI (by omega) (by omega)).mpr h), if_pos (by omega), nI_l (by omega)]
  · rw [if_neg (fun q => h ((nI_ltI (by omega) (by omega)).mp q)), nI_l (by omega)]
    by_cases h2 : c (10 + 6 * i) ≤ c 7
    · rw [if_pos h2, show c (10 + 6 * i) = c 7 by omega]
    · rw [if_neg h2]
theorem C_fundOf (hR : RowT T N K c) (hO : OKc N K c) {i w : Nat} (hi : i < N) (hw : w = 5 ∨ w = 6) : F_X2_fundOf T (nI i) (nI w) = some (lN (fdN c i w)) := by
  have ew : rdI (t_laws T) (nI w) = some (nI (c w)) := C_law hR (by omega) (by omega)
  have hl := hO.2.1
  have hs := hO.2.2.1 i hi
  have hcw : c w ≤ 99999 := by rcases hw with rfl | rfl <;> omega
  have hm : max (c (10 + 6 * i)) (c 7) ≤ 99999 := by omega
  have hmm : max (c (10 + 6 * i)) (c 7) * c w ≤ 99999 * 99999 := Nat.mul_le_mul hm hcw
  unfold F_X2_fundOf fdN
  rw [C_fundTons hR hO hi, bs, ew, bs, nm_eq, nI_l (by omega), lN_mul, show (2000000000 : Int64) = lN 2000000000 from rfl, Nat.min_def]
  by_cases h : 2000000000 < max (c (10 + 6 * i)) (c 7) * c w
  · rw [if_pos ((pk_lLT (by omega) (by omega)).mpr h), if_neg (by omega)]
  · rw [if_neg (fun q => h ((pk_lLT (by omega) (by omega)).mp q)), if_pos (by omega)]
theorem C_copy (T T2 : TS) : F_X2_copyFrom T T2 = some T2 := by
  have hL : ∀ (f g : Fin 4 → Int64), cpL (n0 := 4) (exL f) g 0 0 4 = some f := fun f g => by
    unfold cpL
    rw [if_pos (by decide)]
    refine congrArg some (funext fun j => ?_)
    have hj := j.2
    unfold va_cpy
    rw [if_pos ⟨by rw [show (0 : Int32).toNatClampNeg = 0 from rfl]; omega, by rw [show (0 : Int32).toNatClampNeg = 0 from rfl, show (4 : Int32).toNatClampNeg = 4 from rfl]; omega⟩, show (0 : Int32).toNatClampNeg = 0 from rfl]
    simp [exL, hj]
  have hI : ∀ (n : Nat) (m : Int32) (_ : m.toNatClampNeg = n) (_ : cpOK n n 0 0 m = true) (f g : Fin n → Int32), cpI (n0 := n) (exI f) g 0 0 m = some f := fun n m hm hok f g => by
    unfold cpI
    rw [if_pos hok]
    refine congrArg some (funext fun j => ?_)
    have hj := j.2
    unfold va_cpy
    rw [if_pos ⟨by rw [show (0 : Int32).toNatClampNeg = 0 from rfl]; omega, by rw [show (0 : Int32).toNatClampNeg = 0 from rfl, hm]; omega⟩, show (0 : Int32).toNatClampNeg = 0 from rfl]
    simp [exI, hj]
  obtain ⟨a1, a2, a3, a4, a5, a6⟩ := T
  obtain ⟨b1, b2, b3, b4, b5, b6⟩ := T2
  unfold F_X2_copyFrom
  simp only [nm_eq, t_ships, t_claims, t_names, t_shipRows, t_claimRows, t_laws, ts_ships, ts_claims, ts_names, ts_shipRows, ts_claimRows, ts_laws, hL, bs, hI 24 24 rfl (by decide), hI 48 48 rfl (by decide), hI 10 10 rfl (by decide)]
end CTO
end
section
/-! ===== level 2: the class's Reckoning in plain numbers: debts ===== -/
def rk (T : TS) (wt : Fin 4 → Int32) (bk : Fin 16 → Int64) (ow pd : Fin 64 → Int64) (lk : Fin 16 → Int64) (ws : Int32) : RS := (T, wt, bk, ow, pd, lk, ws)
section RK
variable (T : TS) (wt : Fin 4 → Int32) (bk : Fin 16 → Int64) (ow pd : Fin 64 → Int64) (lk : Fin 16 → Int64) (ws : Int32)
theorem rk_t : r_told (rk T wt bk ow pd lk ws) = T := rfl
theorem rk_w : r_weight (rk T wt bk ow pd lk ws) = wt := rfl
theorem rk_b : r_backs (rk T wt bk ow pd lk ws) = bk := rfl
theorem rk_o : r_owed (rk T wt bk ow pd lk ws) = ow := rfl
theorem rk_p : r_paid (rk T wt bk ow pd lk ws) = pd := rfl
theorem rk_l : r_lacked (rk T wt bk ow pd lk ws) = lk := rfl
theorem rk_ws : r_weights (rk T wt bk ow pd lk ws) = ws := rfl
theorem rk_st (x : TS) : rs_told (rk T wt bk ow pd lk ws) x = rk x wt bk ow pd lk ws := rfl
theorem rk_sw (x : Fin 4 → Int32) : rs_weight (rk T wt bk ow pd lk ws) x = rk T x bk ow pd lk ws := rfl
theorem rk_sb (x : Fin 16 → Int64) : rs_backs (rk T wt bk ow pd lk ws) x = rk T wt x ow pd lk ws := rfl
theorem rk_so (x : Fin 64 → Int64) : rs_owed (rk T wt bk ow pd lk ws) x = rk T wt bk x pd lk ws := rfl
theorem rk_sp (x : Fin 64 → Int64) : rs_paid (rk T wt bk ow pd lk ws) x = rk T wt bk ow x lk ws := rfl
theorem rk_sl (x : Fin 16 → Int64) : rs_lacked (rk T wt bk ow pd lk ws) x = rk T wt bk ow pd x ws := rfl
theorem rk_sws (x : Int32) : rs_weights (rk T wt bk ow pd lk ws) x = rk T wt bk ow pd lk x := rfl
end RK
theorem C_fill {n : Nat} (hn : n ≤ 1000) (h2 : n < 999) (S : Fin n → Int64) : F_J7_fill_d0a16 S 0 = some (aL (fun _ => 0)) := by
  unfold F_J7_fill_d0a16
  refine loopR (fun fu i (s : Fin n → Int64) => lo2 (B_J7_fill_d0a16_6 0 (nI n) (fun S4 => some S4)) fu s (nI i)) _ n (fun i s => ∀ k, k < i → exL s k = 0) ?_ ?_ n FU 0 S (by omega) (by rw [FU_eq]; omega) (fun k hk => absurd hk (Nat.not_lt_zero k))
  · intro fu i s hi e
    have key : ∀ k rc, B_J7_fill_d0a16_6 0 (nI n) k rc s (nI i) = rc (upL s i 0) (nI (i + 1)) := by
      intro k rc
      unfold B_J7_fill_d0a16_6
      rw [if_neg (by rw [nI_leI (by omega) (by omega)]; omega), wL s hi hn, bs, nm_eq, nm_eq, nI_1]
    refine ⟨upL s i 0, fun k hk => ?_, (lo2_s _ _ _ _).trans (key _ _)⟩
    rw [exL_up s hi]
    by_cases h : k = i
    · rw [if_pos h]
    · rw [if_neg h]
      exact e k (by omega)
  · intro fu s e
    have key : ∀ k rc, B_J7_fill_d0a16_6 0 (nI n) k rc s (nI n) = k s := by
      intro k rc
      unfold B_J7_fill_d0a16_6
      rw [if_pos (by rw [nI_leI (by omega) (by omega)]; omega)]
    refine ((lo2_s _ _ _ _).trans (key _ _)).trans (congrArg some (ext_L fun k hk => ?_))
    rw [e k hk, exL_aL _ hk]
    rfl
section CRE
variable {T : TS} {N K : Nat} {c : Nat → Nat} {wt : Fin 4 → Int32} {bk lk : Fin 16 → Int64} {ow pd : Fin 64 → Int64}
def WtOK (N : Nat) (c : Nat → Nat) (wt : Fin 4 → Int32) : Prop := ∀ i, i < N → exI wt i = nI (wN c i)
theorem C_weigh (hR : RowT T N K c) (hO : OKc N K c) (ws : Int32) : ∃ wt2, WtOK N c wt2 ∧ F_X1_weigh (rk T wt bk ow pd lk ws) = some (rk T wt2 bk ow pd lk (nI (WN N c))) := by
  have hN := hO.1
  unfold F_X1_weigh
  rw [nm_eq, rk_sws]
  obtain ⟨w2, h, e⟩ := loopE (fun fu i (s : Fin 4 → Int32) => lo2 (B_X1_weigh_7 (fun S8 => some S8)) fu (rk T s bk ow pd lk (nI (sN (wN c) i))) (nI i)) (fun s => some (rk T s bk ow pd lk (nI (WN N c)))) N (fun n s => ∀ i, i < n → exI s i = nI (wN c i)) (by
    intro fu i s hi hI
    have key : ∀ k9 rc, B_X1_weigh_7 k9 rc (rk T s bk ow pd lk (nI (sN (wN c) i))) (nI i) = rc (rk T (upI s i (nI (wN c i))) bk ow pd lk (nI (sN (wN c) (i + 1)))) (nI (i + 1)) := by
      intro k9 rc
      unfold B_X1_weigh_7
      rw [rk_t, hR.1, if_neg (by rw [nI_leI (by omega) (by omega)]; omega), C_weightOf hR hO hi, bs, rk_w, wI s (by omega) (by omega), bs, nm_eq, rk_sw, rk_w, rI _ (by omega) (by omega), exI_up s (by omega), if_pos rfl, bs, rk_ws, nI_add, rk_sws, nm_eq, nm_eq, nI_1, sN_s]
    refine ⟨upI s i (nI (wN c i)), fun z hz => ?_, (lo2_s _ _ _ _).trans (key _ _)⟩
    rw [exI_up s (by omega)]
    by_cases h : z = i
    · subst h
      rw [if_pos rfl]
    · rw [if_neg h]
      exact hI z (by omega)) (by
    intro fu s hI
    have key : ∀ k9 rc, B_X1_weigh_7 k9 rc (rk T s bk ow pd lk (nI (sN (wN c) N))) (nI N) = k9 (rk T s bk ow pd lk (nI (sN (wN c) N))) := by
      intro k9 rc
      unfold B_X1_weigh_7
      rw [rk_t, hR.1, if_pos (by rw [nI_leI (by omega) (by omega)]; omega)]
    exact (lo2_s _ _ _ _).trans (key _ _)) N FU 0 wt (by omega) (by rw [FU_eq]; omega) (fun i hi => absurd hi (Nat.not_lt_zero i))
  exact ⟨w2, h, e⟩
theorem C_cut {a b : Nat} (ha : a < 2 ^ 62) (hb : b < 2 ^ 62) : F_X1_cut (lN a) (lN b) = some (lN (a / b)) := by
  unfold F_X1_cut
  rw [show (0 : Int64) = lN 0 from rfl]
  by_cases h : b = 0
  · subst h
    rw [if_pos ((lg_cmp_eq _ _).mpr rfl), Nat.div_zero]
  · rw [if_neg (fun q => h ((pk_lEQ (by omega) (by omega)).mp ((lg_cmp_eq _ _).mp q))), dvL_N ha (by omega) hb]
    rfl
theorem C_partOf (hO : OKc N K c) (hW : WtOK N c wt) {a : Nat} (ha : a < N) {x : Nat} (hx : x < 2 ^ 40) : F_X1_partOf (rk T wt bk ow pd lk (nI (WN N c))) (nI a) (lN x) = some (lN (pN N c a x)) := by
  have hN := hO.1
  have hw := wN_le hO ha
  have hWl := WN_le hO
  have hm : x * wN c a ≤ x * 10 := Nat.mul_le_mul_left x hw
  unfold F_X1_partOf
  rw [rk_w, rI _ (by omega) (by omega), hW a ha, bs, rk_ws, nI_l (by omega), nI_l (by omega), lN_mul, C_cut (by omega) (by omega)]
  rfl
theorem rdC_n2 (c : Nat → Nat) (k : Nat) (h : c 8 ≤ c 9) : rdC c k = -2 ↔ c 9 < c (34 + 4 * k + 3) := by
  unfold rdC
  by_cases h1 : c (34 + 4 * k + 3) ≤ c 8
  · rw [if_pos h1]
    exact ⟨fun q => absurd q (by decide), fun q => by omega⟩
  · rw [if_neg h1]
    by_cases h2 : c (34 + 4 * k + 3) ≤ c 9
    · rw [if_pos h2]
      exact ⟨fun q => absurd q (by decide), fun q => by omega⟩
    · rw [if_neg h2]
      exact ⟨fun _ => by omega, fun _ => rfl⟩
theorem C_debt (hR : RowT T N K c) (hO : OKc N K c) (hW : WtOK N c wt) {a k : Nat} (ha : a < N) (hk : k < K) : F_X1_debt (rk T wt bk ow pd lk (nI (WN N c))) (nI a) (nI k) = some (lN (dN N c a k)) := by
  have hN := hO.1
  have hc := hO.2.2.2.2 k hk
  have e2 : F_X2_ofClaim T (nI k) 2 = some (nI (c (34 + 4 * k + 2))) := C_cl hR hO hk (w := 2) (by decide) (by decide)
  have e3 : F_X2_holds T 3 = some (if c 3 = 1 then 1 else 0) := C_holds hR hO (w := 3) (by decide) (by decide)
  have hl := hO.2.1
  have hp := C_partOf (T := T) (bk := bk) (ow := ow) (pd := pd) (lk := lk) hO hW ha (x := c (34 + 4 * k + 2)) (by omega)
  have hw := wN_le hO ha
  have hWl := WN_le hO
  unfold F_X1_debt dN
  rw [rk_t, C_roundOf hR hO hk, bs]
  by_cases h1 : c 9 < c (34 + 4 * k + 3)
  · rw [if_pos ((rdC_n2 c k hl.2.2.2.2.2.2.2.1).mpr h1), if_pos h1]
    rfl
  · rw [if_neg (fun q => h1 ((rdC_n2 c k hl.2.2.2.2.2.2.2.1).mp q)), if_neg h1, e2, bs, nm_eq, nI_l (by omega), C_isGoods hR hO hk, bs]
    by_cases h0 : c (34 + 4 * k) = 0
    · rw [if_pos h0, if_neg (by decide), C_cl1 hR hO hk, bs]
      by_cases h2 : c (34 + 4 * k + 1) = a
      · rw [if_pos ((onI_ne hc.2.1 hO.1.2.1 ha).mpr ⟨h0, h2⟩), if_pos ⟨h0, h2⟩]
        rfl
      · rw [if_neg (fun q => h2 ((onI_ne hc.2.1 hO.1.2.1 ha).mp q).2), if_neg (fun q => h2 q.2), e3, bs]
        by_cases h3 : c 3 = 1
        · have h5 := hc.2.1 h0
          have h6 : wN c a + wN c (c (34 + 4 * k + 1)) ≤ WN N c := sN_mem2 (wN c) (fun e => h2 e.symm) ha h5
          have hm : c (34 + 4 * k + 2) * wN c a ≤ c (34 + 4 * k + 2) * 10 := Nat.mul_le_mul_left _ hw
          rw [if_pos h3, if_neg (by decide), if_neg (by omega), rk_w, rI _ (by omega) (by omega), hW a ha, bs, show onI c k = nI (c (34 + 4 * k + 1)) from if_pos h0, rI _ (by omega) (by omega), hW _ h5, bs, rk_ws, pk_sub (by omega), nI_l (by omega), nI_l (by omega), lN_mul, C_cut (by omega) (by omega)]
          rfl
        · rw [if_neg h3, if_pos rfl, if_pos (Or.inr (by omega)), hp]
          rfl
    · rw [if_neg h0, if_pos rfl, if_neg (fun q => h0 q.1), if_pos (Or.inl h0), hp]
      rfl
def oC (N : Nat) (c : Nat → Nat) (i m K : Nat) : Nat → Nat := fun z => if 4 ≤ z % 16 ∧ z % 16 < 4 + (if z / 16 < i then K else if z / 16 = i then m else 0) then dN N c (z / 16) (z % 16 - 4) else 0
theorem C_oweClaims (hR : RowT T N K c) (hO : OKc N K c) (hW : WtOK N c wt) : F_X1_oweClaims (rk T wt bk (aL (fun _ => 0)) pd lk (nI (WN N c))) = some (rk T wt bk (aL (oC N c N 0 K)) pd lk (nI (WN N c))) := by
  have hN := hO.1
  have inner : ∀ (i : Nat) (_ : i < N) (k9 : RS → Option RS), lo2 (B_X1_oweClaims_15 (nI i) k9) FU (rk T wt bk (aL (oC N c i 0 K)) pd lk (nI (WN N c))) 0 = k9 (rk T wt bk (aL (oC N c (i + 1) 0 K)) pd lk (nI (WN N c))) := by
    intro i hi k9
    refine loopR (fun fu k (_ : Unit) => lo2 (B_X1_oweClaims_15 (nI i) k9) fu (rk T wt bk (aL (oC N c i k K)) pd lk (nI (WN N c))) (nI k)) _ K (fun _ _ => True) ?_ ?_ K FU 0 () (by omega) (by rw [FU_eq]; omega) trivial
    · intro fu k _ hk _
      have key : ∀ rc, B_X1_oweClaims_15 (nI i) k9 rc (rk T wt bk (aL (oC N c i k K)) pd lk (nI (WN N c))) (nI k) = rc (rk T wt bk (aL (oC N c i (k + 1) K)) pd lk (nI (WN N c))) (nI (k + 1)) := by
        intro rc
        unfold B_X1_oweClaims_15
        rw [rk_t, hR.2.1, if_neg (by rw [nI_leI (by omega) (by omega)]; omega), C_debt hR hO hW hi hk, bs, rk_o, show (16 : Int32) = nI 16 from rfl, show (4 : Int32) = nI 4 from rfl, pk_mul, nI_add, nI_add, wL_a _ (by omega) (by omega), bs, nm_eq, rk_so, nm_eq, nI_1]
        refine congrArg (fun z => rc (rk T wt bk z pd lk (nI (WN N c))) (nI (k + 1))) (aL_eq fun z hz => ?_)
        show (if z = i * 16 + 4 + k then dN N c i k else oC N c i k K z) = oC N c i (k + 1) K z
        unfold oC
        by_cases h : z = i * 16 + 4 + k
        · have h1 : z / 16 = i := by omega
          have h2 : z % 16 - 4 = k := by omega
          rw [if_pos h, h1, h2, if_neg (Nat.lt_irrefl i), if_pos rfl, if_pos (by omega)]
        · rw [if_neg h]
          by_cases h1 : z / 16 = i
          · rw [h1, if_neg (Nat.lt_irrefl i), if_pos rfl, if_neg (Nat.lt_irrefl i), if_pos rfl]
            by_cases h2 : 4 ≤ z % 16 ∧ z % 16 < 4 + k
            · rw [if_pos h2, if_pos (by omega)]
            · rw [if_neg h2, if_neg (by omega)]
          · rw [if_neg h1, if_neg h1]
      exact ⟨(), trivial, (lo2_s _ _ _ _).trans (key _)⟩
    · intro fu _ _
      have key : ∀ rc, B_X1_oweClaims_15 (nI i) k9 rc (rk T wt bk (aL (oC N c i K K)) pd lk (nI (WN N c))) (nI K) = k9 (rk T wt bk (aL (oC N c i K K)) pd lk (nI (WN N c))) := by
        intro rc
        unfold B_X1_oweClaims_15
        rw [rk_t, hR.2.1, if_pos (by rw [nI_leI (by omega) (by omega)]; omega)]
      refine ((lo2_s _ _ _ _).trans (key _)).trans ?_
      refine congrArg (fun z => k9 (rk T wt bk z pd lk (nI (WN N c)))) (aL_eq fun z _ => ?_)
      unfold oC
      by_cases h1 : z / 16 < i
      · rw [if_pos h1, if_pos (show z / 16 < i + 1 by omega)]
      · rw [if_neg h1]
        by_cases h2 : z / 16 = i
        · rw [if_pos h2, if_pos (show z / 16 < i + 1 by omega)]
        · rw [if_neg h2, if_neg (show ¬ z / 16 < i + 1 by omega)]
          by_cases h3 : z / 16 = i + 1
          · rw [if_pos h3]
          · rw [if_neg h3]
  unfold F_X1_oweClaims
  rw [show (aL (fun _ => 0) : Fin 64 → Int64) = aL (oC N c 0 0 K) from aL_eq (fun z _ => by
    unfold oC
    rw [if_neg (show ¬ z / 16 < 0 by omega)]
    by_cases h : z / 16 = 0
    · rw [if_pos h, if_neg (by omega)]
    · rw [if_neg h, if_neg (by omega)])]
  refine loopR (fun fu i (_ : Unit) => lo2 (B_X1_oweClaims_2 (fun S7 => some S7)) fu (rk T wt bk (aL (oC N c i 0 K)) pd lk (nI (WN N c))) (nI i)) _ N (fun _ _ => True) ?_ ?_ N FU 0 () (by omega) (by rw [FU_eq]; omega) trivial
  · intro fu i _ hi _
    have key : ∀ k9 rc, B_X1_oweClaims_2 k9 rc (rk T wt bk (aL (oC N c i 0 K)) pd lk (nI (WN N c))) (nI i) = rc (rk T wt bk (aL (oC N c (i + 1) 0 K)) pd lk (nI (WN N c))) (nI (i + 1)) := by
      intro k9 rc
      unfold B_X1_oweClaims_2
      rw [rk_t, hR.1, if_neg (by rw [nI_leI (by omega) (by omega)]; omega), inner i hi, nm_eq, nI_1]
    exact ⟨(), trivial, (lo2_s _ _ _ _).trans (key _ _)⟩
  · intro fu _ _
    have key : ∀ k9 rc, B_X1_oweClaims_2 k9 rc (rk T wt bk (aL (oC N c N 0 K)) pd lk (nI (WN N c))) (nI N) = k9 (rk T wt bk (aL (oC N c N 0 K)) pd lk (nI (WN N c))) := by
      intro k9 rc
      unfold B_X1_oweClaims_2
      rw [rk_t, hR.1, if_pos (by rw [nI_leI (by omega) (by omega)]; omega)]
    exact (lo2_s _ _ _ _).trans (key _ _)
end CRE
end
section
/-! ===== level 2: the class's Reckoning: back, ships ===== -/
section CR2
variable {T : TS} {N K : Nat} {c : Nat → Nat} {wt : Fin 4 → Int32} {bk lk : Fin 16 → Int64} {ow pd : Fin 64 → Int64}
/-- the row of debts holds the claims' part -/
def OwC (N K : Nat) (c : Nat → Nat) (ow : Fin 64 → Int64) : Prop := ∀ i, i < N → ∀ k, k < K → exL ow (16 * i + 4 + k) = lN (dN N c i k)
theorem C_owedToClaim (hO : OKc N K c) (h : OwC N K c ow) {i k : Nat} (hi : i < N) (hk : k < K) (ws : Int32) : F_X1_owedToClaim (rk T wt bk ow pd lk ws) (nI i) (nI k) = some (lN (dN N c i k)) := by
  have hN := hO.1
  unfold F_X1_owedToClaim
  rw [rk_o, show (16 : Int32) = nI 16 from rfl, show (4 : Int32) = nI 4 from rfl, pk_mul, nI_add, nI_add, rL _ (by omega) (by omega), show i * 16 + 4 + k = 16 * i + 4 + k by omega, h i hi k hk]
  rfl
theorem C_backFor (hR : RowT T N K c) (hO : OKc N K c) (hW : WtOK N c wt) (hw : OwC N K c ow) {k j : Nat} (hk : k < K) (hj : j < N) : F_X1_backFor (rk T wt bk ow pd lk (nI (WN N c))) (nI k) (nI j) = some (lN (bN N c k j)) := by
  have hc := hO.2.2.2.2 k hk
  have hl := hO.2.1
  have e2 : F_X2_ofClaim T (nI k) 2 = some (nI (c (34 + 4 * k + 2))) := C_cl hR hO hk (w := 2) (by decide) (by decide)
  have e3 : F_X2_holds T 3 = some (if c 3 = 1 then 1 else 0) := C_holds hR hO (w := 3) (by decide) (by decide)
  have hp := C_partOf (T := T) (bk := bk) (ow := ow) (pd := pd) (lk := lk) hO hW hj (x := c (34 + 4 * k + 2)) (by omega)
  have z0 : J_X1_backFor_39 (rk T wt bk ow pd lk (nI (WN N c))) (nI k) (nI j) = some (lN 0) := by
    unfold J_X1_backFor_39 J_X1_backFor_40
    rw [if_pos rfl]
    rfl
  unfold F_X1_backFor bN
  rw [rk_t, e3, bs]
  by_cases h3 : c 3 = 1
  · rw [if_pos h3, if_neg (by decide), C_isGoods hR hO hk, bs]
    by_cases h0 : c (34 + 4 * k) = 0
    · rw [if_pos h0, if_neg (by decide), C_roundOf hR hO hk, bs]
      by_cases h1 : c 9 < c (34 + 4 * k + 3)
      · rw [if_pos ((rdC_n2 c k hl.2.2.2.2.2.2.2.1).mpr h1), z0, if_pos (Or.inr (Or.inr (Or.inl h1)))]
      · rw [if_neg (fun q => h1 ((rdC_n2 c k hl.2.2.2.2.2.2.2.1).mp q))]
        unfold J_X1_backFor_40
        rw [if_neg (by decide), rk_t, C_cl1 hR hO hk, bs]
        by_cases h2 : c (34 + 4 * k + 1) = j
        · rw [if_pos ((onI_ne hc.2.1 hO.1.2.1 hj).mpr ⟨h0, h2⟩), if_pos (Or.inr (Or.inr (Or.inr h2)))]
          rfl
        · rw [if_neg (fun q => h2 ((onI_ne hc.2.1 hO.1.2.1 hj).mp q).2), if_neg (by omega), C_owedToClaim hO hw hj hk, bs, e2, bs, nI_l (by omega), hp, bs, lN_sub (dN_ge hO hj hk (by omega) h0 h1 h2)]
    · rw [if_neg h0, if_pos rfl, z0, if_pos (Or.inr (Or.inl h0))]
  · rw [if_neg h3, if_pos rfl, z0, if_pos (Or.inl (by omega))]
/-- back, claims below m, of claim m the ships below n -/
def bkG (N : Nat) (c : Nat → Nat) (m n : Nat) : Nat → Nat := fun z => if z % 4 < N then sN (fun k => if c (34 + 4 * k) = 0 ∧ c (34 + 4 * k + 1) = z / 4 then bN N c k (z % 4) else 0) m + (if z % 4 < n ∧ c (34 + 4 * m) = 0 ∧ c (34 + 4 * m + 1) = z / 4 then bN N c m (z % 4) else 0) else 0
theorem C_oweBack (hR : RowT T N K c) (hO : OKc N K c) (hW : WtOK N c wt) (hw : OwC N K c ow) : F_X1_oweBack (rk T wt (aL (fun _ => 0)) ow pd lk (nI (WN N c))) = some (rk T wt (aL (bkG N c K 0)) ow pd lk (nI (WN N c))) := by
  have hN := hO.1
  have nx : ∀ m, (aL (bkG N c m N) : Fin 16 → Int64) = aL (bkG N c (m + 1) 0) := fun m => aL_eq fun z _ => by
    unfold bkG
    by_cases h : z % 4 < N
    · rw [if_pos h, if_pos h, if_neg (show ¬ (z % 4 < 0 ∧ _) from fun q => absurd q.1 (Nat.not_lt_zero _)), sN_s, Nat.add_zero]
      by_cases h2 : c (34 + 4 * m) = 0 ∧ c (34 + 4 * m + 1) = z / 4
      · rw [if_pos ⟨h, h2⟩, if_pos h2]
        rfl
      · rw [if_neg (fun q => h2 q.2), if_neg h2]
    · rw [if_neg h, if_neg h]
  have skip : ∀ m, ¬ c (34 + 4 * m) = 0 → (aL (bkG N c m 0) : Fin 16 → Int64) = aL (bkG N c (m + 1) 0) := fun m hm => (aL_eq fun z _ => by
    unfold bkG
    rw [if_neg (show ¬ (z % 4 < 0 ∧ _) from fun q => absurd q.1 (Nat.not_lt_zero _)), if_neg (show ¬ (z % 4 < N ∧ _ ∧ _) from fun q => hm q.2.1)]).trans (nx m)
  have inner : ∀ (m : Nat) (_ : m < K) (_ : c (34 + 4 * m) = 0) (k9 : RS → Option RS), lo2 (B_X1_oweBack_26 (nI m) k9) FU (rk T wt (aL (bkG N c m 0)) ow pd lk (nI (WN N c))) 0 = k9 (rk T wt (aL (bkG N c m N)) ow pd lk (nI (WN N c))) := by
    intro m hm h0 k9
    have hh := (hO.2.2.2.2 m hm).2.1 h0
    refine loopR (fun fu j (_ : Unit) => lo2 (B_X1_oweBack_26 (nI m) k9) fu (rk T wt (aL (bkG N c m j)) ow pd lk (nI (WN N c))) (nI j)) _ N (fun _ _ => True) ?_ ?_ N FU 0 () (by omega) (by rw [FU_eq]; omega) trivial
    · intro fu j _ hj _
      have key : ∀ rc, B_X1_oweBack_26 (nI m) k9 rc (rk T wt (aL (bkG N c m j)) ow pd lk (nI (WN N c))) (nI j) = rc (rk T wt (aL (bkG N c m (j + 1))) ow pd lk (nI (WN N c))) (nI (j + 1)) := by
        intro rc
        unfold B_X1_oweBack_26
        rw [rk_t, hR.1, if_neg (by rw [nI_leI (by omega) (by omega)]; omega), C_cl1 hR hO hm, bs, show onI c m = nI (c (34 + 4 * m + 1)) from if_pos h0, nm_eq, show (4 : Int32) = nI 4 from rfl, pk_mul, nI_add, rk_b, rL_a _ (by omega) (by omega), bs, C_backFor hR hO hW hw hm hj, bs, lN_add, wL_a _ (by omega) (by omega), bs, nm_eq, rk_sb, nm_eq, nI_1]
        refine congrArg (fun z => rc (rk T wt z ow pd lk (nI (WN N c))) (nI (j + 1))) (aL_eq fun z hz => ?_)
        show (if z = c (34 + 4 * m + 1) * 4 + j then bkG N c m j (c (34 + 4 * m + 1) * 4 + j) + bN N c m j else bkG N c m j z) = bkG N c m (j + 1) z
        by_cases h : z = c (34 + 4 * m + 1) * 4 + j
        · rw [if_pos h, ← h]
          have h1 : z / 4 = c (34 + 4 * m + 1) := by omega
          have h2 : z % 4 = j := by omega
          unfold bkG
          rw [h2, if_pos hj, if_pos hj, if_neg (show ¬ (j < j ∧ _) from fun q => Nat.lt_irrefl j q.1), if_pos (show j < j + 1 ∧ _ ∧ _ from ⟨by omega, h0, h1.symm⟩), Nat.add_zero]
        · rw [if_neg h]
          unfold bkG
          by_cases h1 : z % 4 < N
          · rw [if_pos h1, if_pos h1]
            by_cases h2 : z % 4 < j ∧ c (34 + 4 * m) = 0 ∧ c (34 + 4 * m + 1) = z / 4
            · rw [if_pos h2, if_pos ⟨by omega, h2.2⟩]
            · rw [if_neg h2, if_neg (fun q => h2 ⟨by omega, q.2⟩)]
          · rw [if_neg h1, if_neg h1]
      exact ⟨(), trivial, (lo2_s _ _ _ _).trans (key _)⟩
    · intro fu _ _
      have key : ∀ rc, B_X1_oweBack_26 (nI m) k9 rc (rk T wt (aL (bkG N c m N)) ow pd lk (nI (WN N c))) (nI N) = k9 (rk T wt (aL (bkG N c m N)) ow pd lk (nI (WN N c))) := by
        intro rc
        unfold B_X1_oweBack_26
        rw [rk_t, hR.1, if_pos (by rw [nI_leI (by omega) (by omega)]; omega)]
      exact (lo2_s _ _ _ _).trans (key _)
  unfold F_X1_oweBack
  rw [show (aL (fun _ => 0) : Fin 16 → Int64) = aL (bkG N c 0 0) from aL_eq (fun z _ => by
    unfold bkG
    rw [if_neg (show ¬ (z % 4 < 0 ∧ _) from fun q => absurd q.1 (Nat.not_lt_zero _))]
    split <;> rfl)]
  refine loopR (fun fu m (_ : Unit) => lo2 (B_X1_oweBack_2 (fun S11 => some S11)) fu (rk T wt (aL (bkG N c m 0)) ow pd lk (nI (WN N c))) (nI m)) _ K (fun _ _ => True) ?_ ?_ K FU 0 () (by omega) (by rw [FU_eq]; omega) trivial
  · intro fu m _ hm _
    have hJ : ∀ k9 rc S, J_X1_oweBack_70 k9 rc S (nI m) = rc S (nI (m + 1)) := by
      intro k9 rc S
      unfold J_X1_oweBack_70
      rw [nm_eq, nI_1]
    have key : ∀ k9 rc, B_X1_oweBack_2 k9 rc (rk T wt (aL (bkG N c m 0)) ow pd lk (nI (WN N c))) (nI m) = rc (rk T wt (aL (bkG N c (m + 1) 0)) ow pd lk (nI (WN N c))) (nI (m + 1)) := by
      intro k9 rc
      unfold B_X1_oweBack_2
      rw [rk_t, hR.2.1, if_neg (by rw [nI_leI (by omega) (by omega)]; omega), C_isGoods hR hO hm, bs]
      by_cases h0 : c (34 + 4 * m) = 0
      · rw [if_pos h0, if_neg (by decide), inner m hm h0, hJ, nx]
      · rw [if_neg h0, if_pos rfl, hJ, skip m h0]
    exact ⟨(), trivial, (lo2_s _ _ _ _).trans (key _ _)⟩
  · intro fu _ _
    have key : ∀ k9 rc, B_X1_oweBack_2 k9 rc (rk T wt (aL (bkG N c K 0)) ow pd lk (nI (WN N c))) (nI K) = k9 (rk T wt (aL (bkG N c K 0)) ow pd lk (nI (WN N c))) := by
      intro k9 rc
      unfold B_X1_oweBack_2
      rw [rk_t, hR.2.1, if_pos (by rw [nI_leI (by omega) (by omega)]; omega)]
    exact (lo2_s _ _ _ _).trans (key _ _)
theorem C_backTo (hO : OKc N K c) {i j : Nat} (hi : i < N) (hj : j < N) (ws : Int32) : F_X1_backTo (rk T wt (aL (bkG N c K 0)) ow pd lk ws) (nI i) (nI j) = some (lN (boN N K c i j)) := by
  have hN := hO.1
  unfold F_X1_backTo
  rw [rk_b, show (4 : Int32) = nI 4 from rfl, pk_mul, nI_add, rL_a _ (by omega) (by omega), bs]
  unfold bkG boN
  rw [show (i * 4 + j) % 4 = j by omega, show (i * 4 + j) / 4 = i by omega, if_pos hj, if_neg (show ¬ (j < 0 ∧ _) from fun q => absurd q.1 (Nat.not_lt_zero _)), Nat.add_zero]
theorem C_hullDebt (hR : RowT T N K c) (hO : OKc N K c) (hW : WtOK N c wt) {i j : Nat} (hi : i < N) (hj : j < N) : F_X1_hullDebt (rk T wt bk ow pd lk (nI (WN N c))) (nI i) (nI j) = some (lN (pN N c i (c (10 + 6 * j + 2)))) := by
  have e1 : F_X2_ofShip T (nI j) 2 = some (nI (c (10 + 6 * j + 2))) := C_sh hR hO hj (w := 2) (by decide)
  have h := (hO.2.2.1 j hj).2.2.2.1
  unfold F_X1_hullDebt
  rw [rk_t, e1, bs, nI_l (by omega), C_partOf hO hW hi (by omega)]
  rfl
theorem C_crossDebt (hR : RowT T N K c) (hO : OKc N K c) (hW : WtOK N c wt) {i j : Nat} (hi : i < N) (hj : j < N) : F_X1_crossDebt (rk T wt (aL (bkG N c K 0)) ow pd lk (nI (WN N c))) (nI i) (nI j) = some (lN (cdN N K c i j)) := by
  unfold F_X1_crossDebt
  rw [C_hullDebt hR hO hW hi hj, bs, C_backTo hO hi hj, bs, lN_add]
  rfl
/-- all debts: ships' part below i (of row i below j), claims' part -/
def oS (N K : Nat) (c : Nat → Nat) (i j : Nat) : Nat → Nat := fun z => if z % 16 < 4 then (if z % 16 < N ∧ (z / 16 < i ∨ (z / 16 = i ∧ z % 16 < j)) then lwN N K c (z / 16) (z % 16) else 0) else oC N c N 0 K z
theorem C_oweShips (hR : RowT T N K c) (hO : OKc N K c) (hW : WtOK N c wt) : F_X1_oweShips (rk T wt (aL (bkG N c K 0)) (aL (oC N c N 0 K)) pd lk (nI (WN N c))) = some (rk T wt (aL (bkG N c K 0)) (aL (oS N K c N 0)) pd lk (nI (WN N c))) := by
  have hN := hO.1
  have e4 : F_X2_holds T 4 = some (if c 4 = 1 then 1 else 0) := C_holds hR hO (w := 4) (by decide) (by decide)
  have inner : ∀ (i : Nat) (_ : i < N) (k9 : RS → Option RS), lo2 (B_X1_oweShips_15 (nI i) k9) FU (rk T wt (aL (bkG N c K 0)) (aL (oS N K c i 0)) pd lk (nI (WN N c))) 0 = k9 (rk T wt (aL (bkG N c K 0)) (aL (oS N K c (i + 1) 0)) pd lk (nI (WN N c))) := by
    intro i hi k9
    refine loopR (fun fu j (_ : Unit) => lo2 (B_X1_oweShips_15 (nI i) k9) fu (rk T wt (aL (bkG N c K 0)) (aL (oS N K c i j)) pd lk (nI (WN N c))) (nI j)) _ N (fun _ _ => True) ?_ ?_ N FU 0 () (by omega) (by rw [FU_eq]; omega) trivial
    · intro fu j _ hj _
      have hJ80 : ∀ rc S, J_X1_oweShips_80 k9 rc S (nI i) (nI j) = rc S (nI (j + 1)) := by
        intro rc S
        unfold J_X1_oweShips_80
        rw [nm_eq, nI_1]
      have hb1 := cdN_le hO hi hj
      have hb2 := cdN_le hO hj hi
      have put : ∀ rc (x y : Nat) (_ : y ≤ x) (_ : x - y = lwN N K c i j), J_X1_oweShips_63 k9 rc (rk T wt (aL (bkG N c K 0)) (aL (oS N K c i j)) pd lk (nI (WN N c))) (nI i) (nI j) (lN x) (lN y) = rc (rk T wt (aL (bkG N c K 0)) (aL (oS N K c i (j + 1))) pd lk (nI (WN N c))) (nI (j + 1)) := by
        intro rc x y hxy hv
        unfold J_X1_oweShips_63
        rw [rk_o, show (16 : Int32) = nI 16 from rfl, pk_mul, nI_add, lN_sub hxy, hv, wL_a _ (by omega) (by omega), bs, nm_eq, rk_so, hJ80]
        refine congrArg (fun z => rc (rk T wt (aL (bkG N c K 0)) z pd lk (nI (WN N c))) (nI (j + 1))) (aL_eq fun z hz => ?_)
        show (if z = i * 16 + j then lwN N K c i j else oS N K c i j z) = oS N K c i (j + 1) z
        unfold oS
        by_cases h : z = i * 16 + j
        · have h1 : z / 16 = i := by omega
          have h2 : z % 16 = j := by omega
          rw [if_pos h, h1, h2, if_pos (by omega), if_pos (by omega)]
        · rw [if_neg h]
          by_cases h1 : z % 16 < 4
          · rw [if_pos h1, if_pos h1]
            by_cases h2 : z % 16 < N ∧ (z / 16 < i ∨ (z / 16 = i ∧ z % 16 < j))
            · rw [if_pos h2, if_pos (by omega)]
            · rw [if_neg h2, if_neg (by omega)]
          · rw [if_neg h1, if_neg h1]
      have key : ∀ rc, B_X1_oweShips_15 (nI i) k9 rc (rk T wt (aL (bkG N c K 0)) (aL (oS N K c i j)) pd lk (nI (WN N c))) (nI j) = rc (rk T wt (aL (bkG N c K 0)) (aL (oS N K c i (j + 1))) pd lk (nI (WN N c))) (nI (j + 1)) := by
        intro rc
        unfold B_X1_oweShips_15
        rw [rk_t, hR.1, if_neg (by rw [nI_leI (by omega) (by omega)]; omega)]
        by_cases hij : i = j
        · subst hij
          rw [if_pos rfl, hJ80]
          refine congrArg (fun z => rc (rk T wt (aL (bkG N c K 0)) z pd lk (nI (WN N c))) (nI (i + 1))) (aL_eq fun z hz => ?_)
          unfold oS
          by_cases h1 : z % 16 < 4
          · rw [if_pos h1, if_pos h1]
            by_cases h2 : z % 16 < N ∧ (z / 16 < i ∨ (z / 16 = i ∧ z % 16 < i))
            · rw [if_pos h2, if_pos (by omega)]
            · rw [if_neg h2]
              by_cases h3 : z % 16 < N ∧ (z / 16 < i ∨ (z / 16 = i ∧ z % 16 < i + 1))
              · rw [if_pos h3, show z / 16 = i by omega, show z % 16 = i by omega]
                exact (if_pos rfl).symm
              · rw [if_neg h3]
          · rw [if_neg h1, if_neg h1]
        · rw [if_neg (fun q => hij ((nI_eq (by omega) (by omega)).mp q)), C_crossDebt hR hO hW hi hj, bs, e4, bs]
          have hlw : lwN N K c i j = if c 4 = 1 then cdN N K c i j else cdN N K c i j - min (cdN N K c i j) (cdN N K c j i) := if_neg hij
          by_cases h4 : c 4 = 1
          · rw [if_pos h4, if_neg (by decide), show (0 : Int64) = lN 0 from rfl]
            rw [if_pos h4] at hlw
            exact put rc _ 0 (by omega) (by omega)
          · rw [if_neg h4, if_pos rfl, C_crossDebt hR hO hW hj hi, bs, nm_eq]
            rw [if_neg h4] at hlw
            by_cases h5 : cdN N K c j i < cdN N K c i j
            · rw [if_pos ((pk_lLT (by omega) (by omega)).mpr h5)]
              exact put rc _ _ (by omega) (by omega)
            · rw [if_neg (fun q => h5 ((pk_lLT (by omega) (by omega)).mp q))]
              exact put rc _ _ (by omega) (by omega)
      exact ⟨(), trivial, (lo2_s _ _ _ _).trans (key _)⟩
    · intro fu _ _
      have key : ∀ rc, B_X1_oweShips_15 (nI i) k9 rc (rk T wt (aL (bkG N c K 0)) (aL (oS N K c i N)) pd lk (nI (WN N c))) (nI N) = k9 (rk T wt (aL (bkG N c K 0)) (aL (oS N K c i N)) pd lk (nI (WN N c))) := by
        intro rc
        unfold B_X1_oweShips_15
        rw [rk_t, hR.1, if_pos (by rw [nI_leI (by omega) (by omega)]; omega)]
      refine ((lo2_s _ _ _ _).trans (key _)).trans ?_
      refine congrArg (fun z => k9 (rk T wt (aL (bkG N c K 0)) z pd lk (nI (WN N c)))) (aL_eq fun z _ => ?_)
      unfold oS
      by_cases h1 : z % 16 < 4
      · rw [if_pos h1, if_pos h1]
        by_cases h2 : z % 16 < N ∧ (z / 16 < i ∨ (z / 16 = i ∧ z % 16 < N))
        · rw [if_pos h2, if_pos (by omega)]
        · rw [if_neg h2, if_neg (by omega)]
      · rw [if_neg h1, if_neg h1]
  unfold F_X1_oweShips
  rw [show (aL (oC N c N 0 K) : Fin 64 → Int64) = aL (oS N K c 0 0) from aL_eq (fun z _ => by
    unfold oS
    by_cases h1 : z % 16 < 4
    · rw [if_pos h1, if_neg (by omega)]
      unfold oC
      rw [if_neg (by omega)]
    · rw [if_neg h1])]
  refine loopR (fun fu i (_ : Unit) => lo2 (B_X1_oweShips_2 (fun S10 => some S10)) fu (rk T wt (aL (bkG N c K 0)) (aL (oS N K c i 0)) pd lk (nI (WN N c))) (nI i)) _ N (fun _ _ => True) ?_ ?_ N FU 0 () (by omega) (by rw [FU_eq]; omega) trivial
  · intro fu i _ hi _
    have key : ∀ k9 rc, B_X1_oweShips_2 k9 rc (rk T wt (aL (bkG N c K 0)) (aL (oS N K c i 0)) pd lk (nI (WN N c))) (nI i) = rc (rk T wt (aL (bkG N c K 0)) (aL (oS N K c (i + 1) 0)) pd lk (nI (WN N c))) (nI (i + 1)) := by
      intro k9 rc
      unfold B_X1_oweShips_2
      rw [rk_t, hR.1, if_neg (by rw [nI_leI (by omega) (by omega)]; omega), inner i hi, nm_eq, nI_1]
    exact ⟨(), trivial, (lo2_s _ _ _ _).trans (key _ _)⟩
  · intro fu _ _
    have key : ∀ k9 rc, B_X1_oweShips_2 k9 rc (rk T wt (aL (bkG N c K 0)) (aL (oS N K c N 0)) pd lk (nI (WN N c))) (nI N) = k9 (rk T wt (aL (bkG N c K 0)) (aL (oS N K c N 0)) pd lk (nI (WN N c))) := by
      intro k9 rc
      unfold B_X1_oweShips_2
      rw [rk_t, hR.1, if_pos (by rw [nI_leI (by omega) (by omega)]; omega)]
    exact (lo2_s _ _ _ _).trans (key _ _)
end CR2
end
section
/-! ===== level 2: what the class's ships pay ===== -/
theorem loopX {σ β : Type} (L : Nat → Nat → σ → Option β) (R : Option β) (N : Nat) (I : Nat → σ → Prop)
    (h1 : ∀ fu i s, i < N → I i s → L (fu + 1) i s = R ∨ ∃ s', I (i + 1) s' ∧ L (fu + 1) i s = L fu (i + 1) s')
    (h3 : ∀ fu s, I N s → L (fu + 1) N s = R) : ∀ d fu i s, i + d = N → d < fu → I i s → L fu i s = R := by
  intro d
  induction d with
  | zero =>
    intro fu i s hi hf hI
    obtain ⟨fu, rfl⟩ : ∃ f, fu = f + 1 := ⟨fu - 1, by omega⟩
    have hi : i = N := by omega
    subst hi
    exact h3 fu s hI
  | succ d ih =>
    intro fu i s hi hf hI
    obtain ⟨fu, rfl⟩ : ∃ f, fu = f + 1 := ⟨fu - 1, by omega⟩
    rcases h1 fu i s (by omega) hI with e | ⟨s', h', e⟩
    · exact e
    · exact e.trans (ih fu (i + 1) s' (by omega) (by omega) h')
def tkP (N K : Nat) (c : Nat → Nat) (which rd p : Nat) : Prop := (p < 4 ∧ p < N ∧ which = 5 ∧ rd = 0) ∨ (4 ≤ p ∧ p - 4 < K ∧ rN c (p - 4) = rd ∧ (which = 5 ∨ c (34 + 4 * (p - 4)) = 1))
theorem tkP_dec (N K : Nat) (c : Nat → Nat) (which rd p : Nat) : tkP N K c which rd p ∨ ¬ tkP N K c which rd p := Classical.em _
def addRow (i : Nat) (v P : Nat → Nat) : Nat → Nat := fun z => if z / 16 = i then P z + v (z % 16) else P z
section CR3
variable {T : TS} {N K : Nat} {c : Nat → Nat} {wt : Fin 4 → Int32} {bk : Fin 16 → Int64} {ow : Fin 64 → Int64}
theorem C_takesPart (hR : RowT T N K c) (hO : OKc N K c) {which rd p : Nat} (hw : which = 5 ∨ which = 6) (hrd : rd < 2) (hp : p < 16) (ow pd : Fin 64 → Int64) (lk : Fin 16 → Int64) (ws : Int32) : ∃ b : Int32, F_X1_takesPart (rk T wt bk ow pd lk ws) (nI p) (nI which) (nI rd) = some b ∧ (b = 0 ↔ ¬ tkP N K c which rd p) := by
  have hN := hO.1
  unfold F_X1_takesPart tkP
  rw [show (4 : Int32) = nI 4 from rfl, show (5 : Int32) = nI 5 from rfl]
  by_cases h4 : 4 ≤ p
  · rw [if_pos ((nI_leI (by omega) (by omega)).mpr h4), nm_eq, pk_sub h4, rk_t, hR.2.1]
    by_cases hk : K ≤ p - 4
    · rw [if_pos ((nI_leI (by omega) (by omega)).mpr hk)]
      exact ⟨0, rfl, fun _ => by omega, fun _ => rfl⟩
    · have hk' : p - 4 < K := by omega
      have e0 : F_X2_ofClaim T (nI (p - 4)) 0 = some (nI (c (34 + 4 * (p - 4)))) := C_cl hR hO hk' (w := 0) (by decide) (by decide)
      have hc := hO.2.2.2.2 (p - 4) hk'
      rw [if_neg (fun q => hk ((nI_leI (by omega) (by omega)).mp q)), C_roundOf hR hO hk', bs]
      by_cases hr : rN c (p - 4) = rd
      · rw [if_pos ((rdC_eq c (p - 4) hrd).mpr hr)]
        by_cases hw5 : which = 5
        · rw [if_pos (by rw [hw5])]
          exact ⟨1, rfl, fun q => absurd q (by decide), fun q => absurd (Or.inr ⟨h4, hk', hr, Or.inl hw5⟩) q⟩
        · rw [if_neg (fun q => hw5 ((nI_eq (by omega) (by omega)).mp q)), e0, bs]
          by_cases h1 : c (34 + 4 * (p - 4)) = 1
          · rw [if_pos (by rw [h1]; rfl)]
            exact ⟨1, rfl, fun q => absurd q (by decide), fun q => absurd (Or.inr ⟨h4, hk', hr, Or.inr h1⟩) q⟩
          · rw [if_neg (nI_n1 h1 (by omega))]
            exact ⟨0, rfl, fun _ => by omega, fun _ => rfl⟩
      · rw [if_neg (fun q => hr ((rdC_eq c (p - 4) hrd).mp q))]
        exact ⟨0, rfl, fun _ => by omega, fun _ => rfl⟩
  · rw [if_neg (fun q => h4 ((nI_leI (by omega) (by omega)).mp q)), rk_t, hR.1]
    by_cases hn : N ≤ p
    · rw [if_pos ((nI_leI (by omega) (by omega)).mpr hn)]
      exact ⟨0, rfl, fun _ => by omega, fun _ => rfl⟩
    · rw [if_neg (fun q => hn ((nI_leI (by omega) (by omega)).mp q))]
      by_cases hw5 : which = 5
      · rw [if_pos (by rw [hw5])]
        by_cases h0 : rd = 0
        · rw [if_pos (by rw [h0]; rfl)]
          exact ⟨1, rfl, fun q => absurd q (by decide), fun q => absurd (Or.inl ⟨by omega, by omega, hw5, h0⟩) q⟩
        · rw [if_neg (nI_ne0 (by omega) (by omega))]
          exact ⟨0, rfl, fun _ => by omega, fun _ => rfl⟩
      · rw [if_neg (fun q => hw5 ((nI_eq (by omega) (by omega)).mp q))]
        exact ⟨0, rfl, fun _ => by omega, fun _ => rfl⟩
/-- what is lacked: given by a function that fits -/
theorem C_findLacks (hR : RowT T N K c) (hO : OKc N K c) {which rd i : Nat} (hw : which = 5 ∨ which = 6) (hrd : rd < 2) (hi : i < N) (O P l : Nat → Nat) (hl : ∀ q, q < 16 → (tkP N K c which rd q → P (16 * i + q) ≤ O (16 * i + q) ∧ l q = O (16 * i + q) - P (16 * i + q)) ∧ (¬ tkP N K c which rd q → l q = 0)) (lk : Fin 16 → Int64) (ws : Int32) :
    F_X1_findLacks (rk T wt bk (aL O) (aL P) lk ws) (nI i) (nI which) (nI rd) = some (lN (sN l 16), rk T wt bk (aL O) (aL P) (aL l) ws) := by
  have hN := hO.1
  unfold F_X1_findLacks
  refine loopR (fun fu q (s : Fin 16 → Int64) => lo3 (B_X1_findLacks_6 (nI i) (nI which) (nI rd) (fun S11 z12 => some (z12, S11))) fu (rk T wt bk (aL O) (aL P) s ws) (lN (sN l q)) (nI q)) _ 16 (fun n s => ∀ q, q < n → exL s q = lN (l q)) ?_ ?_ 16 FU 0 lk (by omega) (by rw [FU_eq]; omega) (fun q hq => absurd hq (Nat.not_lt_zero q))
  · intro fu q s hq hI
    have hJ : ∀ k9 rc S x, J_X1_findLacks_76 k9 rc S (nI i) (nI which) (nI rd) x (nI q) = rc S x (nI (q + 1)) := by
      intro k9 rc S x
      unfold J_X1_findLacks_76
      rw [nm_eq, nI_1]
    have key : ∀ k9 rc, ∃ s2, (∀ z, z < q + 1 → exL s2 z = lN (l z)) ∧ B_X1_findLacks_6 (nI i) (nI which) (nI rd) k9 rc (rk T wt bk (aL O) (aL P) s ws) (lN (sN l q)) (nI q) = rc (rk T wt bk (aL O) (aL P) s2 ws) (lN (sN l (q + 1))) (nI (q + 1)) := by
      intro k9 rc
      unfold B_X1_findLacks_6
      rw [if_neg (le16 hq), rk_l, wL s hq (by omega), bs, nm_eq, rk_sl]
      obtain ⟨b, e, hb⟩ := C_takesPart (wt := wt) (bk := bk) hR hO hw hrd hq (aL O) (aL P) (upL s q 0) ws
      rw [e, bs]
      by_cases ht : tkP N K c which rd q
      · obtain ⟨hle, hv⟩ := (hl q hq).1 ht
        refine ⟨upL (upL s q 0) q (lN (l q)), fun z hz => ?_, ?_⟩
        · rw [exL_up _ hq, exL_up _ hq]
          by_cases h : z = q
          · rw [if_pos h, h]
          · rw [if_neg h, if_neg h]
            exact hI z (by omega)
        · rw [if_neg (fun q9 => hb.mp q9 ht), rk_o, rk_p, show (16 : Int32) = nI 16 from rfl, pk_mul, nI_add, show i * 16 + q = 16 * i + q by omega, rL_a O (by omega) (by omega), bs, rL_a P (by omega) (by omega), bs, lN_sub hle, ← hv, rk_l, wL _ hq (by omega), bs, nm_eq, rk_sl, rk_l, rL _ hq (by omega), exL_up _ hq, if_pos rfl, bs, nm_eq, lN_add, hJ, sN_s]
      · have hv := (hl q hq).2 ht
        refine ⟨upL s q 0, fun z hz => ?_, ?_⟩
        · rw [exL_up _ hq]
          by_cases h : z = q
          · rw [if_pos h, h, hv]
            rfl
          · rw [if_neg h]
            exact hI z (by omega)
        · have e0 : sN l (q + 1) = sN l q := by rw [sN_s, hv, Nat.add_zero]
          rw [if_pos (hb.mpr ht), hJ, e0]
    obtain ⟨s2, h2, e⟩ := key (fun S11 z12 => some (z12, S11)) (lo3 (B_X1_findLacks_6 (nI i) (nI which) (nI rd) (fun S11 z12 => some (z12, S11))) fu)
    exact ⟨s2, h2, (lo3_s _ _ _ _ _).trans e⟩
  · intro fu s hI
    have key : ∀ k9 rc, B_X1_findLacks_6 (nI i) (nI which) (nI rd) k9 rc (rk T wt bk (aL O) (aL P) s ws) (lN (sN l 16)) (nI 16) = k9 (rk T wt bk (aL O) (aL P) s ws) (lN (sN l 16)) := by
      intro k9 rc
      unfold B_X1_findLacks_6
      rw [if_pos (by decide)]
    refine ((lo3_s _ _ _ _ _).trans (key _ _)).trans ?_
    rw [show s = aL l from ext_L fun k hk => by rw [hI k hk, exL_aL _ hk]]
theorem cg2 {α β γ : Type} (g : α → β → γ) {a b : α} {c d : β} (h : a = b) (k : c = d) : g a c = g b d := by
  cases h
  cases k
  rfl
def lkN (l : Nat → Nat) (n : Nat) : Nat → Nat := fun q => if q < n then l q else 0
theorem C_payLacks {i : Nat} (hi : i < 4) (O P l : Nat → Nat) (ws : Int32) : F_X1_payLacks (rk T wt bk (aL O) (aL P) (aL l) ws) (nI i) = some (rk T wt bk (aL O) (aL (addRow i l P)) (aL l) ws) := by
  unfold F_X1_payLacks
  rw [show (aL P : Fin 64 → Int64) = aL (addRow i (lkN l 0) P) from aL_eq (fun z _ => by
    unfold addRow lkN
    split
    · rfl
    · rfl)]
  refine loopR (fun fu q (_ : Unit) => lo2 (B_X1_payLacks_2 (nI i) (fun S7 => some S7)) fu (rk T wt bk (aL O) (aL (addRow i (lkN l q) P)) (aL l) ws) (nI q)) _ 16 (fun _ _ => True) ?_ ?_ 16 FU 0 () (by omega) (by rw [FU_eq]; omega) trivial
  · intro fu q _ hq _
    have key : ∀ k9 rc, B_X1_payLacks_2 (nI i) k9 rc (rk T wt bk (aL O) (aL (addRow i (lkN l q) P)) (aL l) ws) (nI q) = rc (rk T wt bk (aL O) (aL (addRow i (lkN l (q + 1)) P)) (aL l) ws) (nI (q + 1)) := by
      intro k9 rc
      unfold B_X1_payLacks_2
      rw [if_neg (le16 hq), nm_eq, show (16 : Int32) = nI 16 from rfl, pk_mul, nI_add, rk_p, rL_a _ (by omega) (by omega), bs, rk_l, rL_a l hq (by omega), bs, lN_add, wL_a _ (by omega) (by omega), bs, nm_eq, rk_sp, nm_eq, nI_1]
      refine congrArg (fun z => rc (rk T wt bk (aL O) z (aL l) ws) (nI (q + 1))) (aL_eq fun z hz => ?_)
      show (if z = i * 16 + q then addRow i (lkN l q) P (i * 16 + q) + l q else addRow i (lkN l q) P z) = addRow i (lkN l (q + 1)) P z
      unfold addRow lkN
      by_cases h : z = i * 16 + q
      · rw [if_pos h, ← h, if_pos (show z / 16 = i by omega), if_pos (show z / 16 = i by omega), show z % 16 = q by omega, if_neg (Nat.lt_irrefl q), if_pos (show q < q + 1 by omega), Nat.add_zero]
      · rw [if_neg h]
        by_cases h1 : z / 16 = i
        · rw [if_pos h1, if_pos h1]
          by_cases h2 : z % 16 < q
          · rw [if_pos h2, if_pos (show z % 16 < q + 1 by omega)]
          · rw [if_neg h2, if_neg (show ¬ z % 16 < q + 1 by omega)]
        · rw [if_neg h1, if_neg h1]
    exact ⟨(), trivial, (lo2_s _ _ _ _).trans (key _ _)⟩
  · intro fu _ _
    have key : ∀ k9 rc, B_X1_payLacks_2 (nI i) k9 rc (rk T wt bk (aL O) (aL (addRow i (lkN l 16) P)) (aL l) ws) (nI 16) = k9 (rk T wt bk (aL O) (aL (addRow i (lkN l 16) P)) (aL l) ws) := by
      intro k9 rc
      unfold B_X1_payLacks_2
      rw [if_pos (by decide)]
    refine ((lo2_s _ _ _ _).trans (key _ _)).trans ?_
    refine congrArg (fun z => some (rk T wt bk (aL O) z (aL l) ws)) (aL_eq fun z hz => ?_)
    unfold addRow lkN
    by_cases h1 : z / 16 = i
    · rw [if_pos h1, if_pos h1, if_pos (show z % 16 < 16 by omega)]
    · rw [if_neg h1, if_neg h1]
theorem shL_mono {o : Nat → Nat} {f : Nat} {m n : Nat} (h : m ≤ n) : shL o f n ≤ shL o f m := by
  have := sN_mono (shE o f) h
  unfold shL
  omega
/-- a scarce fund: the shares, then the odd ones -/
def sc1 (l : Nat → Nat) (f n : Nat) : Nat → Nat := fun q => if q < n then shq l f q else 0
def sc2 (l : Nat → Nat) (f n : Nat) : Nat → Nat := fun q => shq l f q + (if q < n ∧ 0 < shL l f q ∧ shq l f q < l q then 1 else 0)
theorem C_shareScarce {i f : Nat} (hi : i < 4) (O P l : Nat → Nat) (hf : f ≤ 2000000000) (ho : ∀ k, k < 16 → l k ≤ 200000000) (hsc : f < sN l 16) (ws : Int32) : ∃ lk2, F_X1_shareScarce (rk T wt bk (aL O) (aL P) (aL l) ws) (nI i) (lN f) (lN (sN l 16)) = some (rk T wt bk (aL O) (aL (addRow i (shp l f) P)) lk2 ws) := by
  have hall : sN l 16 ≤ 3200000000 := by
    have := sN_bd (f := l) (c := 200000000) (n := 16) ho
    omega
  have hsum := sh_sum hsc
  refine ⟨aL (fun q => l q - shq l f q), ?_⟩
  -- the second loop
  have second : lo3 (B_X1_shareScarce_74 (nI i) (fun S21 => some S21)) FU (rk T wt bk (aL O) (aL (addRow i (sc2 l f 0) P)) (aL (fun q => l q - shq l f q)) ws) (lN (shL l f 0)) 0 = some (rk T wt bk (aL O) (aL (addRow i (shp l f) P)) (aL (fun q => l q - shq l f q)) ws) := by
    have fin : ∀ n, n ≤ 16 → shL l f n = 0 → (aL (addRow i (sc2 l f n) P) : Fin 64 → Int64) = aL (addRow i (shp l f) P) := fun n hn h0 => aL_eq fun z hz => by
      unfold addRow
      by_cases h1 : z / 16 = i
      · rw [if_pos h1, if_pos h1]
        unfold sc2 shp
        rw [if_neg (show ¬ sN l 16 ≤ f by omega)]
        by_cases h2 : 0 < shL l f (z % 16) ∧ shq l f (z % 16) < l (z % 16)
        · have h3 : z % 16 < n := by
            rcases Nat.lt_or_ge (z % 16) n with q | q
            · exact q
            · have := shL_mono (o := l) (f := f) q
              omega
          rw [if_pos h2, if_pos ⟨h3, h2⟩]
        · rw [if_neg h2, if_neg (fun q => h2 q.2)]
      · rw [if_neg h1, if_neg h1]
    refine loopX (fun fu q (_ : Unit) => lo3 (B_X1_shareScarce_74 (nI i) (fun S21 => some S21)) fu (rk T wt bk (aL O) (aL (addRow i (sc2 l f q) P)) (aL (fun q => l q - shq l f q)) ws) (lN (shL l f q)) (nI q)) _ 16 (fun _ _ => True) ?_ ?_ 16 FU 0 () (by omega) (by rw [FU_eq]; omega) trivial
    · intro fu q _ hq _
      have hlb : shL l f q ≤ f := by unfold shL; omega
      have hst := shL_step (o := l) (f := f) q
      have hob := ho q hq
      have hqb := shq_le hsc q
      by_cases h0 : shL l f q = 0
      · refine Or.inl ?_
        have key : ∀ k9 rc, B_X1_shareScarce_74 (nI i) k9 rc (rk T wt bk (aL O) (aL (addRow i (sc2 l f q) P)) (aL (fun q => l q - shq l f q)) ws) (lN (shL l f q)) (nI q) = k9 (rk T wt bk (aL O) (aL (addRow i (sc2 l f q) P)) (aL (fun q => l q - shq l f q)) ws) := by
          intro k9 rc
          unfold B_X1_shareScarce_74
          rw [if_neg (le16 hq), h0, show (0 : Int64) = lN 0 from rfl, if_pos ((lg_cmp_le _ _).mpr ((pk_lLE (by omega) (by omega)).mpr (Nat.le_refl 0)))]
        refine ((lo3_s _ _ _ _ _).trans (key _ _)).trans ?_
        rw [fin q (by omega) h0]
      · refine Or.inr ⟨(), trivial, ?_⟩
        have hJ : ∀ k9 rc S x, J_X1_shareScarce_122 k9 rc S (nI i) x (nI q) = rc S x (nI (q + 1)) := by
          intro k9 rc S x
          unfold J_X1_shareScarce_122
          rw [nm_eq, nI_1]
        have key : ∀ k9 rc, B_X1_shareScarce_74 (nI i) k9 rc (rk T wt bk (aL O) (aL (addRow i (sc2 l f q) P)) (aL (fun q => l q - shq l f q)) ws) (lN (shL l f q)) (nI q) = rc (rk T wt bk (aL O) (aL (addRow i (sc2 l f (q + 1)) P)) (aL (fun q => l q - shq l f q)) ws) (lN (shL l f (q + 1))) (nI (q + 1)) := by
          intro k9 rc
          unfold B_X1_shareScarce_74
          rw [if_neg (le16 hq), show (0 : Int64) = lN 0 from rfl, if_neg (fun z => by have := (pk_lLE (by omega) (by omega)).mp ((lg_cmp_le _ _).mp z); omega), rk_l, rL_a _ hq (by omega), bs]
          by_cases h2 : shq l f q < l q
          · rw [if_neg (fun z => by have := (pk_lLE (a := l q - shq l f q) (by omega) (by omega)).mp ((lg_cmp_le _ _).mp z); omega), nm_eq, show (16 : Int32) = nI 16 from rfl, pk_mul, nI_add, rk_p, rL_a _ (by omega) (by omega), bs, show (1 : Int64) = lN 1 from rfl, lN_add, wL_a _ (by omega) (by omega), bs, nm_eq, rk_sp, nm_eq, lN_sub (by omega), hJ, hst, if_pos ⟨by omega, h2⟩]
            refine congrArg (fun z => rc (rk T wt bk (aL O) z (aL (fun q => l q - shq l f q)) ws) (lN (shL l f q - 1)) (nI (q + 1))) (aL_eq fun z hz => ?_)
            show (if z = i * 16 + q then addRow i (sc2 l f q) P (i * 16 + q) + 1 else addRow i (sc2 l f q) P z) = addRow i (sc2 l f (q + 1)) P z
            unfold addRow
            by_cases h : z = i * 16 + q
            · rw [if_pos h, ← h, if_pos (show z / 16 = i by omega), if_pos (show z / 16 = i by omega), show z % 16 = q by omega]
              unfold sc2
              rw [if_neg (fun z9 => Nat.lt_irrefl q z9.1), if_pos ⟨by omega, by omega, h2⟩]
              omega
            · rw [if_neg h]
              by_cases h1 : z / 16 = i
              · rw [if_pos h1, if_pos h1]
                unfold sc2
                by_cases h3 : z % 16 < q ∧ 0 < shL l f (z % 16) ∧ shq l f (z % 16) < l (z % 16)
                · rw [if_pos h3, if_pos ⟨by omega, h3.2⟩]
                · rw [if_neg h3, if_neg (fun z9 => h3 ⟨by omega, z9.2⟩)]
              · rw [if_neg h1, if_neg h1]
          · rw [if_pos ((lg_cmp_le _ _).mpr ((pk_lLE (a := l q - shq l f q) (by omega) (by omega)).mpr (by omega))), hJ, hst, if_neg (fun z => h2 z.2)]
            refine congrArg (fun z => rc (rk T wt bk (aL O) z (aL (fun q => l q - shq l f q)) ws) (lN (shL l f q)) (nI (q + 1))) (aL_eq fun z hz => ?_)
            unfold addRow
            by_cases h1 : z / 16 = i
            · rw [if_pos h1, if_pos h1]
              unfold sc2
              by_cases h3 : z % 16 < q ∧ 0 < shL l f (z % 16) ∧ shq l f (z % 16) < l (z % 16)
              · rw [if_pos h3, if_pos ⟨by omega, h3.2⟩]
              · rw [if_neg h3, if_neg (fun z9 => h3 ⟨by
                  rcases Nat.lt_or_ge (z % 16) q with w9 | w9
                  · exact w9
                  · have e9 : z % 16 = q := by omega
                    rw [e9] at z9
                    exact absurd z9.2.2 h2, z9.2⟩)]
            · rw [if_neg h1, if_neg h1]
        exact (lo3_s _ _ _ _ _).trans (key _ _)
    · intro fu _ _
      have key : ∀ k9 rc, B_X1_shareScarce_74 (nI i) k9 rc (rk T wt bk (aL O) (aL (addRow i (sc2 l f 16) P)) (aL (fun q => l q - shq l f q)) ws) (lN (shL l f 16)) (nI 16) = k9 (rk T wt bk (aL O) (aL (addRow i (sc2 l f 16) P)) (aL (fun q => l q - shq l f q)) ws) := by
        intro k9 rc
        unfold B_X1_shareScarce_74
        rw [if_pos (by decide)]
      refine ((lo3_s _ _ _ _ _).trans (key _ _)).trans ?_
      rw [fin 16 (by omega) (shL_end hsc)]
  unfold F_X1_shareScarce
  rw [show (aL P : Fin 64 → Int64) = aL (addRow i (sc1 l f 0) P) from aL_eq (fun z _ => by
    unfold addRow sc1
    split <;> rfl), show (aL l : Fin 16 → Int64) = aL (fun q => if q < 0 then l q - shq l f q else l q) from aL_eq (fun z _ => rfl)]
  refine loopR (fun fu q (_ : Unit) => lo3 (B_X1_shareScarce_6 (nI i) (lN f) (lN (sN l 16)) (fun S12 z13 => lo3 (B_X1_shareScarce_74 (nI i) (fun S21 => some S21)) FU S12 z13 0)) fu (rk T wt bk (aL O) (aL (addRow i (sc1 l f q) P)) (aL (fun z => if z < q then l z - shq l f z else l z)) ws) (lN (f - sN (shq l f) q)) (nI q)) _ 16 (fun _ _ => True) ?_ ?_ 16 FU 0 () (by omega) (by rw [FU_eq]; omega) trivial
  · intro fu q _ hq _
    have hm := sN_mono (shq l f) (show q + 1 ≤ 16 by omega)
    rw [sN_s (shq l f) q] at hm
    have hqb := shq_le hsc q
    have h2 : l q * f ≤ 200000000 * 2000000000 := Nat.mul_le_mul (ho q hq) hf
    have key : ∀ k9 rc, B_X1_shareScarce_6 (nI i) (lN f) (lN (sN l 16)) k9 rc (rk T wt bk (aL O) (aL (addRow i (sc1 l f q) P)) (aL (fun z => if z < q then l z - shq l f z else l z)) ws) (lN (f - sN (shq l f) q)) (nI q) = rc (rk T wt bk (aL O) (aL (addRow i (sc1 l f (q + 1)) P)) (aL (fun z => if z < q + 1 then l z - shq l f z else l z)) ws) (lN (f - sN (shq l f) (q + 1))) (nI (q + 1)) := by
      intro k9 rc
      unfold B_X1_shareScarce_6
      rw [if_neg (le16 hq), rk_l, rL_a _ hq (by omega), bs, if_neg (Nat.lt_irrefl q), lN_mul, C_cut (by omega) (by omega), bs, show l q * f / sN l 16 = shq l f q from rfl, nm_eq, show (16 : Int32) = nI 16 from rfl, pk_mul, nI_add, rk_p, rL_a _ (by omega) (by omega), bs, lN_add, wL_a _ (by omega) (by omega), bs, nm_eq, rk_sp, rk_l, rL_a _ hq (by omega), bs, if_neg (Nat.lt_irrefl q), lN_sub hqb, wL_a _ hq (by omega), bs, nm_eq, rk_sl, nm_eq, lN_sub (by omega), nm_eq, nI_1, Nat.sub_sub, ← sN_s (shq l f) q]
      refine cg2 (fun z9 y9 => rc (rk T wt bk (aL O) z9 y9 ws) (lN (f - (sN (shq l f) (q + 1)))) (nI (q + 1))) (aL_eq fun z hz => ?_) (aL_eq fun z hz => ?_)
      rotate_left
      · show (if z = q then l q - shq l f q else if z < q then l z - shq l f z else l z) = _
        by_cases h : z = q
        · rw [if_pos h, h, if_pos (show q < q + 1 by omega)]
        · rw [if_neg h]
          by_cases h' : z < q
          · rw [if_pos h', if_pos (show z < q + 1 by omega)]
          · rw [if_neg h', if_neg (show ¬ z < q + 1 by omega)]
      · show (if z = i * 16 + q then addRow i (sc1 l f q) P (i * 16 + q) + shq l f q else addRow i (sc1 l f q) P z) = addRow i (sc1 l f (q + 1)) P z
        unfold addRow sc1
        by_cases h : z = i * 16 + q
        · rw [if_pos h, ← h, if_pos (show z / 16 = i by omega), if_pos (show z / 16 = i by omega), show z % 16 = q by omega, if_neg (Nat.lt_irrefl q), if_pos (show q < q + 1 by omega), Nat.add_zero]
        · rw [if_neg h]
          by_cases h1 : z / 16 = i
          · rw [if_pos h1, if_pos h1]
            by_cases h3 : z % 16 < q
            · rw [if_pos h3, if_pos (show z % 16 < q + 1 by omega)]
            · rw [if_neg h3, if_neg (show ¬ z % 16 < q + 1 by omega)]
          · rw [if_neg h1, if_neg h1]
    exact ⟨(), trivial, (lo3_s _ _ _ _ _).trans (key _ _)⟩
  · intro fu _ _
    have key : ∀ k9 rc, B_X1_shareScarce_6 (nI i) (lN f) (lN (sN l 16)) k9 rc (rk T wt bk (aL O) (aL (addRow i (sc1 l f 16) P)) (aL (fun z => if z < 16 then l z - shq l f z else l z)) ws) (lN (f - sN (shq l f) 16)) (nI 16) = k9 (rk T wt bk (aL O) (aL (addRow i (sc2 l f 0) P)) (aL (fun q => l q - shq l f q)) ws) (lN (shL l f 0)) := by
      intro k9 rc
      unfold B_X1_shareScarce_6
      rw [if_pos (by decide)]
      refine cg2 (fun z9 y9 => k9 (rk T wt bk (aL O) z9 y9 ws) (lN (f - sN (shq l f) 16))) (aL_eq fun z hz => ?_) (aL_eq fun z hz => if_pos hz)
      · unfold addRow sc1 sc2
        by_cases h1 : z / 16 = i
        · rw [if_pos h1, if_pos h1, if_pos (show z % 16 < 16 by omega), if_neg (fun z9 => Nat.not_lt_zero _ z9.1), Nat.add_zero]
        · rw [if_neg h1, if_neg h1]
    exact ((lo3_s _ _ _ _ _).trans (key _ _)).trans second
end CR3
end
section
/-! ===== level 2: the class's settling ===== -/
section CSE
variable {T : TS} {N K : Nat} {c : Nat → Nat} {wt : Fin 4 → Int32} {bk : Fin 16 → Int64}
theorem addRow_two {n : Nat} (i : Nat) (a b P : Nat → Nat) : (aL (addRow i b (addRow i a P)) : Fin n → Int64) = aL (addRow i (fun q => a q + b q) P) := aL_eq fun z _ => by
  unfold addRow
  by_cases h : z / 16 = i
  · rw [if_pos h, if_pos h, if_pos h, Nat.add_assoc]
  · rw [if_neg h, if_neg h, if_neg h]
theorem addRow_eq {n : Nat} (i : Nat) {a b : Nat → Nat} (P : Nat → Nat) (h : ∀ q, q < 16 → a q = b q) : (aL (addRow i a P) : Fin n → Int64) = aL (addRow i b P) := aL_eq fun z _ => by
  unfold addRow
  rw [h (z % 16) (by omega)]
theorem addRow_at {i : Nat} (a P : Nat → Nat) {q : Nat} (hq : q < 16) (h0 : P (16 * i + q) = 0) : addRow i a P (16 * i + q) = a q := by
  unfold addRow
  rw [if_pos (show (16 * i + q) / 16 = i by omega), show (16 * i + q) % 16 = q by omega, h0, Nat.zero_add]
def LkOK (N K : Nat) (c : Nat → Nat) (which rd i : Nat) (O P l : Nat → Nat) : Prop := ∀ q, q < 16 → (tkP N K c which rd q → P (16 * i + q) ≤ O (16 * i + q) ∧ l q = O (16 * i + q) - P (16 * i + q)) ∧ (¬ tkP N K c which rd q → l q = 0)
theorem C_payRound (hR : RowT T N K c) (hO : OKc N K c) {which rd i : Nat} (hw : which = 5 ∨ which = 6) (hrd : rd < 2) (hi : i < N) (O P l : Nat → Nat) (hl : LkOK N K c which rd i O P l) {g : Nat} (hg : g ≤ 2000000000) (ho : ∀ k, k < 16 → l k ≤ 200000000) (lk : Fin 16 → Int64) (ws : Int32) :
    ∃ lk2, ∀ k9 rc, B_X1_payOutOf_13 (nI i) (nI which) k9 rc (rk T wt bk (aL O) (aL P) lk ws) (lN g) (nI rd) = rc (rk T wt bk (aL O) (aL (addRow i (shp l g) P)) lk2 ws) (lN (g - sN l 16)) (nI (rd + 1)) := by
  have hN := hO.1
  have hall : sN l 16 ≤ 3200000000 := by
    have := sN_bd (f := l) (c := 200000000) (n := 16) ho
    omega
  have hJ : ∀ (k9 : RS → Option RS) rc S x, J_X1_payOutOf_59 k9 rc S (nI i) (nI which) x (nI rd) = rc S x (nI (rd + 1)) := by
    intro k9 rc S x
    unfold J_X1_payOutOf_59
    rw [nm_eq, nI_1]
  have hgo : ¬ (1 : Int32) < nI rd := by
    rw [show (1 : Int32) = nI 1 from rfl, nI_ltI (by omega) (by omega)]
    omega
  by_cases h : sN l 16 ≤ g
  · refine ⟨aL l, fun k9 rc => ?_⟩
    unfold B_X1_payOutOf_13
    rw [if_neg hgo, C_findLacks hR hO hw hrd hi O P l hl, bs, if_pos ((lg_cmp_le _ _).mpr ((pk_lLE (by omega) (by omega)).mpr h)), C_payLacks (by omega), bs, nm_eq, lN_sub h, hJ, addRow_eq i (b := shp l g) P (fun q _ => (if_pos h).symm)]
  · obtain ⟨lk2, e⟩ := C_shareScarce (T := T) (wt := wt) (bk := bk) (i := i) (f := g) (by omega) O P l hg ho (by omega) ws
    refine ⟨lk2, fun k9 rc => ?_⟩
    unfold B_X1_payOutOf_13
    rw [if_neg hgo, C_findLacks hR hO hw hrd hi O P l hl, bs, if_neg (fun z => h ((pk_lLE (by omega) (by omega)).mp ((lg_cmp_le _ _).mp z))), e, bs, hJ, show g - sN l 16 = 0 by omega]
    rfl
theorem C_payOutOf (hR : RowT T N K c) (hO : OKc N K c) {which i : Nat} (hw : which = 5 ∨ which = 6) (hi : i < N) (O P l0 l1 : Nat → Nat)
    (h0 : LkOK N K c which 0 i O P l0) (h1 : LkOK N K c which 1 i O (addRow i (shp l0 (fdN c i which)) P) l1)
    (b0 : ∀ k, k < 16 → l0 k ≤ 200000000) (b1 : ∀ k, k < 16 → l1 k ≤ 200000000) (lk : Fin 16 → Int64) (ws : Int32) :
    ∃ lk2, F_X1_payOutOf (rk T wt bk (aL O) (aL P) lk ws) (nI i) (nI which) = some (rk T wt bk (aL O) (aL (addRow i (fun q => shp l0 (fdN c i which) q + shp l1 (fdN c i which - sN l0 16) q) P)) lk2 ws) := by
  have hfl := fdN_le c i which
  obtain ⟨lk1, e1⟩ := C_payRound (wt := wt) (bk := bk) hR hO hw (rd := 0) (by omega) hi O P l0 h0 hfl b0 lk ws
  obtain ⟨lk2, e2⟩ := C_payRound (wt := wt) (bk := bk) hR hO hw (rd := 1) (by omega) hi O _ l1 h1 (g := fdN c i which - sN l0 16) (by omega) b1 lk1 ws
  refine ⟨lk2, ?_⟩
  unfold F_X1_payOutOf
  rw [rk_t, C_fundOf hR hO hi hw, bs, FU_eq]
  refine ((lo3_s _ 999 _ _ _).trans (e1 _ _)).trans ?_
  refine ((lo3_s _ 998 _ _ _).trans (e2 _ _)).trans ?_
  refine (lo3_s _ 997 _ _ _).trans ?_
  have key : ∀ (k9 : RS → Option RS) rc S x, B_X1_payOutOf_13 (nI i) (nI which) k9 rc S x (nI (1 + 1)) = k9 S := by
    intro k9 rc S x
    unfold B_X1_payOutOf_13
    rw [if_pos (by decide)]
  rw [key, addRow_two]
theorem oS_at {i q : Nat} (hi : i < N) (hq : q < 16) : oS N K c N 0 (16 * i + q) = payB N K c i q := by
  unfold oS payB oC
  rw [show (16 * i + q) % 16 = q by omega, show (16 * i + q) / 16 = i by omega]
  by_cases h : q < 4
  · rw [if_pos h, if_pos h]
    by_cases h2 : q < N
    · rw [if_pos h2, if_pos ⟨h2, Or.inl hi⟩]
    · rw [if_neg h2, if_neg (fun z => h2 z.1)]
  · rw [if_neg h, if_neg h, if_pos hi]
    by_cases h2 : q < 4 + K
    · rw [if_pos h2, if_pos ⟨by omega, h2⟩]
    · rw [if_neg h2, if_neg (fun z => h2 z.2)]
theorem C_rowCopy {i : Nat} (hi : i < 4) (O P : Nat → Nat) : cpL (n0 := 64) (n1 := 64) (exL (aL (n := 64) O)) (aL P) (nI i * (16 : Int32)) (nI i * (16 : Int32)) 16 = some (aL (fun z => if z / 16 = i then O z else P z)) := by
  have h1 : (nI i * (16 : Int32)).toNatClampNeg = 16 * i := by
    rcases (show i = 0 ∨ i = 1 ∨ i = 2 ∨ i = 3 by omega) with h | h | h | h <;> subst h <;> decide
  have h2 : cpOK 64 64 (nI i * (16 : Int32)) (nI i * (16 : Int32)) 16 = true := by
    rcases (show i = 0 ∨ i = 1 ∨ i = 2 ∨ i = 3 by omega) with h | h | h | h <;> subst h <;> decide
  unfold cpL
  rw [if_pos h2, h1, show (16 : Int32).toNatClampNeg = 16 from rfl]
  refine congrArg some (funext fun j => ?_)
  have hj := j.2
  unfold va_cpy
  by_cases h : j.1 / 16 = i
  · rw [if_pos ⟨by omega, by omega⟩, exL_aL _ (by omega), show 16 * i + (j.1 - 16 * i) = j.1 by omega]
    show _ = lN (if j.1 / 16 = i then O j.1 else P j.1)
    rw [if_pos h]
  · rw [if_neg (by omega), exL_aL _ hj]
    show _ = lN (if j.1 / 16 = i then O j.1 else P j.1)
    rw [if_neg h]
def pP (N K : Nat) (c : Nat → Nat) (n : Nat) : Nat → Nat := fun z => if z / 16 < n then payN N K c (z / 16) (z % 16) else 0
theorem lvU_lt4 {i q : Nat} (hq : q < 4) : lvU N K c i q = 0 := by
  have z : ∀ rd, oPg N c i rd K q = 0 := fun rd => by
    unfold oPg
    rw [if_neg (by omega)]
  have h0 : shp (oPg N c i 0 K) (fdN c i 6) q ≤ oPg N c i 0 K q := shp_le _
  have h1 : shp (oPg N c i 1 K) (fdN c i 6 - sN (oPg N c i 0 K) 16) q ≤ oPg N c i 1 K q := shp_le _
  rw [z] at h0 h1
  show _ + _ = 0
  omega
/-- what a ship pays, as one step of the class's loop over its ships -/
def payOne (S : RS) (x1 : Int32) : Option (RS) :=
  (F_X2_ofShip (r_told S) x1 (5 : Int32)).bind fun q1 =>
  if q1 = (1 : Int32) then
  ((cpL (n0 := 64) (exL (r_owed S)) (r_paid S) (x1 * (16 : Int32)) (x1 * (16 : Int32)) (16 : Int32)).bind fun f4 =>
  nm (rs_paid S f4 : RS) fun S5 =>
  some S5)
  else
  ((F_X1_payOutOf S x1 (6 : Int32)).bind fun q2 =>
  (F_X1_payOutOf q2 x1 (5 : Int32)).bind fun q3 =>
  some q3)
theorem settle_step (k : RS → Option RS) (rc : RS → Int32 → Option RS) (S : RS) (x1 : Int32) (h : ¬ t_ships (r_told S) ≤ x1) : B_X1_settle_42 k rc S x1 = (payOne S x1).bind fun q => rc q (x1 + 1) := by
  unfold B_X1_settle_42 J_X1_settle_87 payOne F_X1_payAll
  rw [if_neg h]
  cases F_X2_ofShip (r_told S) x1 5 with
  | none => rfl
  | some v =>
    rw [bs, bs]
    by_cases hv : v = 1
    · rw [if_pos hv, if_pos hv]
      exact congrArg (Option.bind _) (funext fun q => nm_eq _ _)
    · rw [if_neg hv, if_neg hv, Option.bind_assoc]
      refine congrArg (Option.bind _) (funext fun q2 => ?_)
      rw [Option.bind_assoc]
      exact congrArg (Option.bind _) (funext fun q3 => nm_eq _ _)
theorem C_pay (hR : RowT T N K c) (hO : OKc N K c) {i : Nat} (hi : i < N) (lk : Fin 16 → Int64) (ws : Int32) : ∃ lk2, payOne (rk T wt bk (aL (oS N K c N 0)) (aL (pP N K c i)) lk ws) (nI i) = some (rk T wt bk (aL (oS N K c N 0)) (aL (pP N K c (i + 1))) lk2 ws) := by
  have hN := hO.1
  have e5 : F_X2_ofShip T (nI i) 5 = some (nI (c (10 + 6 * i + 5))) := C_sh hR hO hi (w := 5) (by decide)
  have hb := (hO.2.2.1 i hi).2.2.2.2.2.2
  have hz : ∀ q, q < 16 → pP N K c i (16 * i + q) = 0 := fun q hq => by
    unfold pP
    rw [if_neg (by omega)]
  unfold payOne
  rw [rk_t, e5, bs]
  by_cases h5 : c (10 + 6 * i + 5) = 1
  · refine ⟨lk, ?_⟩
    have hpay : payN N K c i = payB N K c i := if_pos h5
    rw [if_pos (by rw [h5]; rfl), rk_o, rk_p, C_rowCopy (by omega), bs, nm_eq, rk_sp]
    refine congrArg (fun z => some (rk T wt bk (aL (oS N K c N 0)) z lk ws)) (aL_eq fun z hz2 => ?_)
    unfold pP
    by_cases h : z / 16 = i
    · rw [if_pos h, if_pos (by omega), h, hpay, ← oS_at hi (show z % 16 < 16 by omega), show 16 * i + z % 16 = z by omega]
    · rw [if_neg h]
      by_cases h2 : z / 16 < i
      · rw [if_pos h2, if_pos (by omega)]
      · rw [if_neg h2, if_neg (by omega)]
  · have hpay : payN N K c i = payU N K c i := if_neg h5
    have hOat : ∀ q, 4 ≤ q → q - 4 < K → q < 16 → oS N K c N 0 (16 * i + q) = dN N c i (q - 4) := fun q h1 h2 h3 => by
      rw [oS_at hi h3]
      unfold payB
      rw [if_neg (by omega), if_pos (by omega)]
    have l0 : LkOK N K c 6 0 i (oS N K c N 0) (pP N K c i) (oPg N c i 0 K) := fun q hq => ⟨fun ht => by
      rcases ht with ht | ht
      · omega
      · have hc1 : c (34 + 4 * (q - 4)) = 1 := by omega
        rw [hz q hq, hOat q ht.1 ht.2.1 hq]
        refine ⟨by omega, ?_⟩
        unfold oPg
        rw [if_pos ⟨ht.1, by omega, hc1, ht.2.2.1⟩, Nat.sub_zero], fun ht => by
      unfold oPg
      rw [if_neg (fun z => ht (Or.inr ⟨z.1, by omega, z.2.2.2, Or.inr z.2.2.1⟩))]⟩
    have l1 : LkOK N K c 6 1 i (oS N K c N 0) (addRow i (shp (oPg N c i 0 K) (fdN c i 6)) (pP N K c i)) (oPg N c i 1 K) := fun q hq => ⟨fun ht => by
      rcases ht with ht | ht
      · omega
      · have hc1 : c (34 + 4 * (q - 4)) = 1 := by omega
        have hs : shp (oPg N c i 0 K) (fdN c i 6) q ≤ oPg N c i 0 K q := shp_le _
        have hs0 : oPg N c i 0 K q = 0 := by
          unfold oPg
          rw [if_neg (fun z => by omega)]
        rw [addRow_at _ _ hq (hz q hq), hOat q ht.1 ht.2.1 hq, show shp (oPg N c i 0 K) (fdN c i 6) q = 0 by omega]
        refine ⟨by omega, ?_⟩
        unfold oPg
        rw [if_pos ⟨ht.1, by omega, hc1, ht.2.2.1⟩, Nat.sub_zero], fun ht => by
      unfold oPg
      rw [if_neg (fun z => ht (Or.inr ⟨z.1, by omega, z.2.2.2, Or.inr z.2.2.1⟩))]⟩
    obtain ⟨lk1, e1⟩ := C_payOutOf (wt := wt) (bk := bk) hR hO (Or.inr rfl) hi (oS N K c N 0) (pP N K c i) _ _ l0 l1 (fun k _ => oPg_le hO hi k) (fun k _ => oPg_le hO hi k) lk ws
    have e1' : F_X1_payOutOf (rk T wt bk (aL (oS N K c N 0)) (aL (pP N K c i)) lk ws) (nI i) 6 = some (rk T wt bk (aL (oS N K c N 0)) (aL (addRow i (lvU N K c i) (pP N K c i))) lk1 ws) := e1
    have r0 : LkOK N K c 5 0 i (oS N K c N 0) (addRow i (lvU N K c i) (pP N K c i)) (oAg N K c i 0 (lvU N K c i) K) := fun q hq => ⟨fun ht => by
      rw [addRow_at _ _ hq (hz q hq)]
      rcases ht with ht | ht
      · rw [lvU_lt4 ht.1, oS_at hi hq]
        refine ⟨by omega, ?_⟩
        unfold oAg oAs payB
        rw [if_pos ht.1, if_pos ht.1, if_pos ht.2.1, if_pos ⟨rfl, ht.2.1⟩, Nat.sub_zero]
      · have := lvU_le (N := N) (K := K) (c := c) (i := i) (q - 4)
        rw [show 4 + (q - 4) = q by omega] at this
        rw [hOat q ht.1 ht.2.1 hq]
        refine ⟨this, ?_⟩
        unfold oAg
        rw [if_neg (by omega), if_pos ⟨by omega, ht.2.2.1⟩], fun ht => by
      unfold oAg oAs
      by_cases h : q < 4
      · rw [if_pos h, if_neg (fun z => ht (Or.inl ⟨h, z.2, rfl, rfl⟩))]
      · rw [if_neg h, if_neg (fun z => ht (Or.inr ⟨by omega, by omega, z.2, Or.inl rfl⟩))]⟩
    have r1 : LkOK N K c 5 1 i (oS N K c N 0) (addRow i (rtU N K c i) (pP N K c i)) (oAg N K c i 1 (rtU N K c i) K) := fun q hq => ⟨fun ht => by
      rw [addRow_at _ _ hq (hz q hq)]
      rcases ht with ht | ht
      · omega
      · have := rtU_le (N := N) (K := K) (c := c) (i := i) (q - 4) ht.2.2.1
        rw [show 4 + (q - 4) = q by omega] at this
        rw [hOat q ht.1 ht.2.1 hq]
        refine ⟨this, ?_⟩
        unfold oAg
        rw [if_neg (by omega), if_pos ⟨by omega, ht.2.2.1⟩], fun ht => by
      unfold oAg oAs
      by_cases h : q < 4
      · rw [if_pos h, if_neg (fun z => by omega)]
      · rw [if_neg h, if_neg (fun z => ht (Or.inr ⟨by omega, by omega, z.2, Or.inl rfl⟩))]⟩
    have r1' : LkOK N K c 5 1 i (oS N K c N 0) (addRow i (shp (oAg N K c i 0 (lvU N K c i) K) (fdN c i 5)) (addRow i (lvU N K c i) (pP N K c i))) (oAg N K c i 1 (rtU N K c i) K) := by
      intro q hq
      have e : addRow i (shp (oAg N K c i 0 (lvU N K c i) K) (fdN c i 5)) (addRow i (lvU N K c i) (pP N K c i)) (16 * i + q) = addRow i (rtU N K c i) (pP N K c i) (16 * i + q) := by
        rw [addRow_at (rtU N K c i) _ hq (hz q hq)]
        unfold addRow
        rw [if_pos (show (16 * i + q) / 16 = i by omega), if_pos (show (16 * i + q) / 16 = i by omega), show (16 * i + q) % 16 = q by omega, hz q hq, Nat.zero_add]
        rfl
      rw [e]
      exact r1 q hq
    obtain ⟨lk2, e2⟩ := C_payOutOf (wt := wt) (bk := bk) hR hO (Or.inl rfl) hi (oS N K c N 0) (addRow i (lvU N K c i) (pP N K c i)) _ _ r0 r1' (fun k _ => oAg_le hO hi _ k) (fun k _ => oAg_le hO hi _ k) lk1 ws
    have e2' : F_X1_payOutOf (rk T wt bk (aL (oS N K c N 0)) (aL (addRow i (lvU N K c i) (pP N K c i))) lk1 ws) (nI i) 5 = _ := e2
    refine ⟨lk2, ?_⟩
    rw [if_neg (nI_n1 h5 (by omega)), e1', bs, e2', bs, addRow_two]
    refine congrArg (fun z => some (rk T wt bk (aL (oS N K c N 0)) z lk2 ws)) (aL_eq fun z hz2 => ?_)
    by_cases h : z / 16 = i
    · have ez : z = 16 * i + z % 16 := by omega
      have hm : z % 16 < 16 := by omega
      have e3 := addRow_at (i := i) (fun q => lvU N K c i q + (shp (oAg N K c i 0 (lvU N K c i) K) (fdN c i 5) q + shp (oAg N K c i 1 (rtU N K c i) K) (fdN c i 5 - sN (oAg N K c i 0 (lvU N K c i) K) 16) q)) (pP N K c i) hm (hz _ hm)
      rw [← ez] at e3
      rw [e3]
      unfold pP
      rw [if_pos (by omega), h, hpay, ← Nat.add_assoc]
      rfl
    · unfold addRow pP
      rw [if_neg h]
      by_cases h2 : z / 16 < i
      · rw [if_pos h2, if_pos (by omega)]
      · rw [if_neg h2, if_neg (by omega)]
theorem OwC_oC (hO : OKc N K c) : OwC N K c (aL (oC N c N 0 K)) := fun i hi k hk => by
  have hN := hO.1
  rw [exL_aL _ (by omega)]
  unfold oC
  rw [show (16 * i + 4 + k) % 16 = 4 + k by omega, show (16 * i + 4 + k) / 16 = i by omega, if_pos hi, if_pos ⟨by omega, by omega⟩, show 4 + k - 4 = k by omega]
/-- the class's settling, in plain numbers -/
theorem C_settle (hR : RowT T N K c) (hO : OKc N K c) (lk : Fin 16 → Int64) (ow pd : Fin 64 → Int64) (ws : Int32) : ∃ wt2 lk2, WtOK N c wt2 ∧ F_X1_settle (rk T wt bk ow pd lk ws) = some (rk T wt2 (aL (bkG N c K 0)) (aL (oS N K c N 0)) (aL (pP N K c N)) lk2 (nI (WN N c))) := by
  have hN := hO.1
  obtain ⟨wt2, hW, ew⟩ := C_weigh (T := T) (wt := wt) (bk := aL (fun _ => 0)) (ow := aL (fun _ => 0)) (pd := aL (fun _ => 0)) (lk := lk) hR hO ws
  have hts : t_ships T = nI N := hR.1
  obtain ⟨lk2, -, e⟩ := loopE (fun fu i (s : Fin 16 → Int64) => lo2 (B_X1_settle_42 (fun S13 => some S13)) fu (rk T wt2 (aL (bkG N c K 0)) (aL (oS N K c N 0)) (aL (pP N K c i)) s (nI (WN N c))) (nI i)) (fun s => some (rk T wt2 (aL (bkG N c K 0)) (aL (oS N K c N 0)) (aL (pP N K c N)) s (nI (WN N c)))) N (fun _ _ => True) (by
    intro fu i s hi _
    obtain ⟨s2, e⟩ := C_pay (wt := wt2) (bk := aL (bkG N c K 0)) hR hO hi s (nI (WN N c))
    have key : ∀ (k9 : RS → Option RS) rc, B_X1_settle_42 k9 rc (rk T wt2 (aL (bkG N c K 0)) (aL (oS N K c N 0)) (aL (pP N K c i)) s (nI (WN N c))) (nI i) = rc (rk T wt2 (aL (bkG N c K 0)) (aL (oS N K c N 0)) (aL (pP N K c (i + 1))) s2 (nI (WN N c))) (nI (i + 1)) := by
      intro k9 rc
      rw [settle_step _ _ _ _ (by rw [rk_t, hts, nI_leI (by omega) (by omega)]; omega), e, bs, nI_1]
    exact ⟨s2, trivial, (lo2_s _ _ _ _).trans (key _ _)⟩) (by
    intro fu s _
    have key : ∀ (k9 : RS → Option RS) rc, B_X1_settle_42 k9 rc (rk T wt2 (aL (bkG N c K 0)) (aL (oS N K c N 0)) (aL (pP N K c N)) s (nI (WN N c))) (nI N) = k9 (rk T wt2 (aL (bkG N c K 0)) (aL (oS N K c N 0)) (aL (pP N K c N)) s (nI (WN N c))) := by
      intro k9 rc
      unfold B_X1_settle_42
      rw [rk_t, hts, if_pos (by rw [nI_leI (by omega) (by omega)]; omega)]
    exact (lo2_s _ _ _ _).trans (key _ _)) N FU 0 lk (by omega) (by rw [FU_eq]; omega) trivial
  refine ⟨wt2, lk2, hW, ?_⟩
  unfold F_X1_settle
  rw [rk_o, C_fill (by omega) (by omega), bs, nm_eq, rk_so, rk_p, C_fill (by omega) (by omega), bs, nm_eq, rk_sp, rk_b, C_fill (by omega) (by omega), bs, nm_eq, rk_sb, ew, bs, C_oweClaims hR hO hW, bs, C_oweBack hR hO hW (OwC_oC hO), bs, C_oweShips hR hO hW, bs, show (aL (fun _ => 0) : Fin 64 → Int64) = aL (pP N K c 0) from aL_eq (fun z _ => by unfold pP; rw [if_neg (Nat.not_lt_zero _)])]
  exact e
end CSE
end
section
/-! ===== level 2: what is asked of a settled case, both sides ===== -/
theorem sumL {β : Type} (B : (Int64 → Int32 → Option β) → Int64 → Int32 → Option β) (k9 : Int64 → Option β) (f : Nat → Nat) (n : Nat) (hn : n < 900) (h1 : ∀ rc x j, j < n → B rc x (nI j) = rc (x + lN (f j)) (nI (j + 1))) (h3 : ∀ rc x, B rc x (nI n) = k9 x) (v : Int64) : lo2 B FU v 0 = k9 (v + lN (sN f n)) := by
  refine loopR (fun fu j (a : Int64) => lo2 B fu a (nI j)) _ n (fun j a => a = v + lN (sN f j)) ?_ ?_ n FU 0 v (by omega) (by rw [FU_eq]; omega) (Int64.add_zero v).symm
  · intro fu j a hj e
    refine ⟨a + lN (f j), ?_, (lo2_s _ _ _ _).trans (h1 _ _ _ hj)⟩
    rw [e, Int64.add_assoc, lN_add, ← sN_s f j]
  · intro fu a e
    rw [← e]
    exact (lo2_s _ _ _ _).trans (h3 _ _)
theorem sumL0 (x : Nat) : (0 : Int64) + lN x = lN x := Int64.zero_add _
theorem sN_shift (f : Nat → Nat) : ∀ n, sN f 4 + sN (fun k => f (4 + k)) n = sN f (4 + n)
  | 0 => rfl
  | n + 1 => by
    rw [sN_s (fun k => f (4 + k)) n, ← Nat.add_assoc, sN_shift f n, show 4 + (n + 1) = (4 + n) + 1 from rfl, sN_s f (4 + n)]
def ptN (N K : Nat) (c : Nat → Nat) (k : Nat) : Nat := sN (fun i => payN N K c i (4 + k)) N
def gvN (N K : Nat) (c : Nat → Nat) (k : Nat) : Nat := if c (34 + 4 * k) = 0 ∧ c (10 + 6 * c (34 + 4 * k + 1) + 4) ≠ 0 then min (bkN N c k) (ptN N K c k) else 0
def s1N (N K : Nat) (c : Nat → Nat) (i : Nat) : Nat := sN (fun j => payN N K c j i) N
def s2N (N K : Nat) (c : Nat → Nat) (i : Nat) : Nat := sN (fun k => if c (34 + 4 * k) = 0 ∧ c (34 + 4 * k + 1) = i then gvN N K c k else 0) K
def ntL (N K : Nat) (c : Nat → Nat) (i : Nat) : Int64 := -(lN (sN (payN N K c i) 16)) - lN (c (10 + 6 * i + 2)) + lN (s1N N K c i) + lN (s2N N K c i)
def ppN (N K : Nat) (c : Nat → Nat) (i : Nat) : Nat := sN (fun k => if c (34 + 4 * k) = 1 then payN N K c i (4 + k) else 0) K
def opN (N K : Nat) (c : Nat → Nat) (i : Nat) : Nat := sN (fun k => if c (34 + 4 * k) = 1 then dN N c i k else 0) K
section ASK
variable {N K : Nat} {c : Nat → Nat}
theorem payN_le (hO : OKc N K c) {i : Nat} (hi : i < N) (q : Nat) : payN N K c i q ≤ 800000000 := by
  have hlv : lvU N K c i q ≤ 400000000 := by
    have h0 : shp (oPg N c i 0 K) (fdN c i 6) q ≤ oPg N c i 0 K q := shp_le _
    have h1 : shp (oPg N c i 1 K) (fdN c i 6 - sN (oPg N c i 0 K) 16) q ≤ oPg N c i 1 K q := shp_le _
    have h2 := oPg_le hO (rd := 0) hi q
    have h3 := oPg_le hO (rd := 1) hi q
    show _ + _ ≤ _
    omega
  have hrt : rtU N K c i q ≤ 600000000 := by
    have h0 : shp (oAg N K c i 0 (lvU N K c i) K) (fdN c i 5) q ≤ oAg N K c i 0 (lvU N K c i) K q := shp_le _
    have h1 := oAg_le hO (rd := 0) hi (lvU N K c i) q
    show _ + _ ≤ _
    omega
  have hpu : payU N K c i q ≤ 800000000 := by
    have h0 : shp (oAg N K c i 1 (rtU N K c i) K) (fdN c i 5 - sN (oAg N K c i 0 (lvU N K c i) K) 16) q ≤ oAg N K c i 1 (rtU N K c i) K q := shp_le _
    have h1 := oAg_le hO (rd := 1) hi (rtU N K c i) q
    show _ + _ ≤ _
    omega
  unfold payN
  split
  · unfold payB
    split
    · split
      · rename_i h4 h5
        have := lwN_le hO hi h5
        omega
      · omega
    · split
      · rename_i h4 h5
        have h1 := dN_le hO hi (k := q - 4) (by omega)
        have h2 := (hO.2.2.2.2 (q - 4) (by omega)).2.2.2.1
        omega
      · omega
  · exact hpu
theorem ptN_le (hO : OKc N K c) (k : Nat) : ptN N K c k ≤ 3200000000 := by
  have := sN_bd (f := fun i => payN N K c i (4 + k)) (c := 800000000) (n := N) (fun i hi => payN_le hO hi _)
  have hN := hO.1
  have h2 : N * 800000000 ≤ 4 * 800000000 := Nat.mul_le_mul_right _ hN.2.1
  unfold ptN
  omega
theorem bkN_le (hO : OKc N K c) {k : Nat} (hk : k < K) : bkN N c k ≤ 40000000 := by
  have := sN_bd (f := fun j => bN N c k j) (c := 9999999) (n := N) (fun j hj => bN_le hO hk hj)
  have hN := hO.1
  have h2 : N * 9999999 ≤ 4 * 9999999 := Nat.mul_le_mul_right _ hN.2.1
  unfold bkN
  omega
theorem paid_le (hO : OKc N K c) {i : Nat} (hi : i < N) : sN (payN N K c i) 16 ≤ 12800000000 := by
  have := sN_bd (f := payN N K c i) (c := 800000000) (n := 16) (fun k _ => payN_le hO hi k)
  omega
theorem ppN_le (hO : OKc N K c) (i : Nat) : ppN N K c i ≤ sN (payN N K c i) 16 := by
  have h1 : ppN N K c i ≤ sN (fun k => payN N K c i (4 + k)) K := sN_le fun k _ => by
    show (if c (34 + 4 * k) = 1 then payN N K c i (4 + k) else 0) ≤ payN N K c i (4 + k)
    split <;> omega
  have h2 := sN_shift (payN N K c i) K
  have hN := hO.1
  have h3 := sN_mono (payN N K c i) (show 4 + K ≤ 16 by omega)
  omega
end ASK
section ASKC
variable {T : TS} {N K : Nat} {c : Nat → Nat} {wt : Fin 4 → Int32} {lk : Fin 16 → Int64}
/-- the class's reckoning, settled -/
def stl (T : TS) (wt : Fin 4 → Int32) (lk : Fin 16 → Int64) (N K : Nat) (c : Nat → Nat) : RS := rk T wt (aL (bkG N c K 0)) (aL (oS N K c N 0)) (aL (pP N K c N)) lk (nI (WN N c))
theorem stl_t : r_told (stl T wt lk N K c) = T := rfl
theorem stl_o : r_owed (stl T wt lk N K c) = aL (oS N K c N 0) := rfl
theorem stl_p : r_paid (stl T wt lk N K c) = aL (pP N K c N) := rfl
theorem pP_at {i q : Nat} (hi : i < N) (hq : q < 16) : pP N K c N (16 * i + q) = payN N K c i q := by
  unfold pP
  rw [show (16 * i + q) / 16 = i by omega, show (16 * i + q) % 16 = q by omega, if_pos hi]
theorem OwC_oS (hO : OKc N K c) : OwC N K c (aL (oS N K c N 0)) := fun i hi k hk => by
  have hN := hO.1
  rw [exL_aL _ (by omega), show 16 * i + 4 + k = 16 * i + (4 + k) by omega, oS_at hi (by omega)]
  unfold payB
  rw [if_neg (by omega), if_pos (by omega), show 4 + k - 4 = k by omega]
theorem C_rowTogether {i : Nat} (hi : i < 4) (O : Nat → Nat) : F_X1_rowTogether (aL O) (nI i) = some (lN (sN (fun q => O (16 * i + q)) 16)) := by
  unfold F_X1_rowTogether
  refine (sumL _ (fun z4 => some z4) (fun q => O (16 * i + q)) 16 (by omega) (fun rc x q hq => ?_) (fun rc x => ?_) 0).trans ?_
  · unfold B_X1_rowTogether_5
    rw [if_neg (le16 hq), show (16 : Int32) = nI 16 from rfl, pk_mul, nI_add, show i * 16 + q = 16 * i + q by omega, rL_a O (by omega) (by omega), bs, nm_eq, nm_eq, nI_1]
  · unfold B_X1_rowTogether_5
    rw [if_pos (by decide)]
  · rw [sumL0]
theorem C_owedByShip (hO : OKc N K c) {i : Nat} (hi : i < N) : F_X1_owedByShip (stl T wt lk N K c) (nI i) = some (lN (sN (payB N K c i) 16)) := by
  have hN := hO.1
  unfold F_X1_owedByShip
  rw [stl_o, C_rowTogether (by omega), bs, sN_eq (g := payB N K c i) (fun q hq => oS_at hi hq)]
theorem C_paidByShip (hO : OKc N K c) {i : Nat} (hi : i < N) : F_X1_paidByShip (stl T wt lk N K c) (nI i) = some (lN (sN (payN N K c i) 16)) := by
  have hN := hO.1
  unfold F_X1_paidByShip
  rw [stl_p, C_rowTogether (by omega), bs, sN_eq (g := payN N K c i) (fun q hq => pP_at hi hq)]
theorem C_owedToShip (hO : OKc N K c) {i j : Nat} (hi : i < N) (hj : j < N) : F_X1_owedToShip (stl T wt lk N K c) (nI i) (nI j) = some (lN (lwN N K c i j)) := by
  have hN := hO.1
  unfold F_X1_owedToShip
  rw [stl_o, show (16 : Int32) = nI 16 from rfl, pk_mul, nI_add, show i * 16 + j = 16 * i + j by omega, rL_a _ (by omega) (by omega), bs, oS_at hi (by omega)]
  unfold payB
  rw [if_pos (by omega), if_pos hj]
theorem C_paidToShip (hO : OKc N K c) {i j : Nat} (hi : i < N) (hj : j < N) : F_X1_paidToShip (stl T wt lk N K c) (nI i) (nI j) = some (lN (payN N K c i j)) := by
  have hN := hO.1
  unfold F_X1_paidToShip
  rw [stl_p, show (16 : Int32) = nI 16 from rfl, pk_mul, nI_add, show i * 16 + j = 16 * i + j by omega, rL_a _ (by omega) (by omega), bs, pP_at hi (by omega)]
theorem C_paidToClaim (hO : OKc N K c) {i k : Nat} (hi : i < N) (hk : k < K) : F_X1_paidToClaim (stl T wt lk N K c) (nI i) (nI k) = some (lN (payN N K c i (4 + k))) := by
  have hN := hO.1
  unfold F_X1_paidToClaim
  rw [stl_p, show (16 : Int32) = nI 16 from rfl, pk_mul, show (4 : Int32) = nI 4 from rfl, nI_add, nI_add, show i * 16 + 4 + k = 16 * i + (4 + k) by omega, rL_a _ (by omega) (by omega), bs, pP_at hi (by omega)]
theorem C_owedToClaim2 (hO : OKc N K c) {i k : Nat} (hi : i < N) (hk : k < K) : F_X1_owedToClaim (stl T wt lk N K c) (nI i) (nI k) = some (lN (dN N c i k)) := C_owedToClaim hO (OwC_oS hO) hi hk _
theorem C_paidToClaimByAll (hR : RowT T N K c) (hO : OKc N K c) {k : Nat} (hk : k < K) : F_X1_paidToClaimByAll (stl T wt lk N K c) (nI k) = some (lN (ptN N K c k)) := by
  have hN := hO.1
  have hts : t_ships T = nI N := hR.1
  unfold F_X1_paidToClaimByAll
  refine (sumL _ (fun z4 => some z4) (fun i => payN N K c i (4 + k)) N (by omega) (fun rc x j hj => ?_) (fun rc x => ?_) 0).trans ?_
  · unfold B_X1_paidToClaimByAll_5
    rw [stl_t, hts, if_neg (by rw [nI_leI (by omega) (by omega)]; omega), C_paidToClaim hO hj hk, bs, nm_eq, nm_eq, nI_1]
  · unfold B_X1_paidToClaimByAll_5
    rw [stl_t, hts, if_pos (by rw [nI_leI (by omega) (by omega)]; omega)]
  · rw [sumL0]
    rfl
theorem C_backForClaim (hR : RowT T N K c) (hO : OKc N K c) (hW : WtOK N c wt) {k : Nat} (hk : k < K) : F_X1_backForClaim (stl T wt lk N K c) (nI k) = some (lN (bkN N c k)) := by
  have hN := hO.1
  have hts : t_ships T = nI N := hR.1
  have e : ∀ j, j < N → F_X1_backFor (stl T wt lk N K c) (nI k) (nI j) = some (lN (bN N c k j)) := fun j hj => C_backFor hR hO hW (OwC_oS hO) hk hj
  unfold F_X1_backForClaim
  refine (sumL _ (fun z4 => some z4) (fun j => bN N c k j) N (by omega) (fun rc x j hj => ?_) (fun rc x => ?_) 0).trans ?_
  · unfold B_X1_backForClaim_5
    rw [stl_t, hts, if_neg (by rw [nI_leI (by omega) (by omega)]; omega), e j hj, bs, nm_eq, nm_eq, nI_1]
  · unfold B_X1_backForClaim_5
    rw [stl_t, hts, if_pos (by rw [nI_leI (by omega) (by omega)]; omega)]
  · rw [sumL0]
    rfl
theorem C_givenBack (hR : RowT T N K c) (hO : OKc N K c) (hW : WtOK N c wt) {k : Nat} (hk : k < K) : F_X1_givenBack (stl T wt lk N K c) (nI k) = some (lN (gvN N K c k)) := by
  have hc := hO.2.2.2.2 k hk
  have h1 := ptN_le hO k
  have h2 := bkN_le hO hk
  unfold F_X1_givenBack gvN
  rw [stl_t, C_isGoods hR hO hk, bs]
  by_cases h0 : c (34 + 4 * k) = 0
  · have hon := hc.2.1 h0
    have e4 : F_X2_ofShip T (nI (c (34 + 4 * k + 1))) 4 = some (nI (c (10 + 6 * c (34 + 4 * k + 1) + 4))) := C_sh hR hO hon (w := 4) (by decide)
    have hb := (hO.2.2.1 _ hon).2.2.2.2.2.1
    have eo : onI c k = nI (c (34 + 4 * k + 1)) := if_pos h0
    rw [if_pos h0, if_neg (by decide), C_cl1 hR hO hk, bs, eo, e4, bs]
    by_cases h4 : c (10 + 6 * c (34 + 4 * k + 1) + 4) = 0
    · rw [if_pos (by rw [h4]; rfl), if_neg (fun z => z.2 h4)]
      rfl
    · rw [if_neg (nI_ne0 (by omega) (by omega)), C_backForClaim hR hO hW hk, bs, C_paidToClaimByAll hR hO hk, bs, nm_eq, if_pos (show c (34 + 4 * k) = 0 ∧ c (10 + 6 * c (34 + 4 * k + 1) + 4) ≠ 0 from ⟨h0, h4⟩), Nat.min_def]
      by_cases h : ptN N K c k < bkN N c k
      · rw [if_pos ((pk_lLT (by omega) (by omega)).mpr h), if_neg (by omega)]
      · rw [if_neg (fun q => h ((pk_lLT (by omega) (by omega)).mp q)), if_pos (by omega)]
  · rw [if_neg h0, if_pos rfl, if_neg (fun z => h0 z.1)]
    rfl
theorem gvN_le (hO : OKc N K c) {k : Nat} : gvN N K c k ≤ ptN N K c k := by
  unfold gvN
  split
  · exact Nat.min_le_right _ _
  · omega
theorem C_leftToClaim (hR : RowT T N K c) (hO : OKc N K c) (hW : WtOK N c wt) {k : Nat} (hk : k < K) : F_X1_leftToClaim (stl T wt lk N K c) (nI k) = some (lN (ptN N K c k - gvN N K c k)) := by
  unfold F_X1_leftToClaim
  rw [C_paidToClaimByAll hR hO hk, bs, C_givenBack hR hO hW hk, bs, lN_sub (gvN_le hO)]
theorem C_netOf (hR : RowT T N K c) (hO : OKc N K c) (hW : WtOK N c wt) {i : Nat} (hi : i < N) : F_X1_netOf (stl T wt lk N K c) (nI i) = some (ntL N K c i) := by
  have hN := hO.1
  have hts : t_ships T = nI N := hR.1
  have htc : t_claims T = nI K := hR.2.1
  have e2 : F_X2_ofShip T (nI i) 2 = some (nI (c (10 + 6 * i + 2))) := C_sh hR hO hi (w := 2) (by decide)
  have hb := (hO.2.2.1 i hi).2.2.2.1
  have second : ∀ v, lo2 (B_X1_netOf_52 (stl T wt lk N K c) (nI i) (fun z12 => some z12)) FU v 0 = some (v + lN (s2N N K c i)) := by
    intro v
    refine (sumL _ (fun z12 => some z12) (fun k => if c (34 + 4 * k) = 0 ∧ c (34 + 4 * k + 1) = i then gvN N K c k else 0) K (by omega) (fun rc x k hk => ?_) (fun rc x => ?_) v)
    · have hc := hO.2.2.2.2 k hk
      unfold B_X1_netOf_52
      rw [stl_t, htc, if_neg (by rw [nI_leI (by omega) (by omega)]; omega), C_cl1 hR hO hk, bs]
      unfold J_X1_netOf_87
      by_cases h : c (34 + 4 * k) = 0 ∧ c (34 + 4 * k + 1) = i
      · rw [if_pos ((onI_ne hc.2.1 hO.1.2.1 hi).mpr h), C_givenBack hR hO hW hk, bs, nm_eq, nm_eq, nI_1, if_pos h]
      · rw [if_neg (fun q => h ((onI_ne hc.2.1 hO.1.2.1 hi).mp q)), nm_eq, nI_1, if_neg h]
        exact congrArg (fun z => rc z (nI (k + 1))) (Int64.add_zero x).symm
    · unfold B_X1_netOf_52
      rw [stl_t, htc, if_pos (by rw [nI_leI (by omega) (by omega)]; omega)]
  unfold F_X1_netOf
  rw [C_paidByShip hO hi, bs, stl_t, e2, bs, nm_eq, nI_l (by omega)]
  refine (sumL _ (fun z7 => lo2 (B_X1_netOf_52 (stl T wt lk N K c) (nI i) (fun z12 => some z12)) FU z7 0) (fun j => payN N K c j i) N (by omega) (fun rc x j hj => ?_) (fun rc x => ?_) _).trans (second _)
  · unfold B_X1_netOf_21
    rw [stl_t, hts, if_neg (by rw [nI_leI (by omega) (by omega)]; omega), C_paidToShip hO hj hi, bs, nm_eq, nm_eq, nI_1]
  · unfold B_X1_netOf_21
    rw [stl_t, hts, if_pos (by rw [nI_leI (by omega) (by omega)]; omega)]
theorem C_paidToPersons (hR : RowT T N K c) (hO : OKc N K c) {i : Nat} (hi : i < N) : F_X1_paidToPersons (stl T wt lk N K c) (nI i) = some (lN (ppN N K c i)) := by
  have hN := hO.1
  have htc : t_claims T = nI K := hR.2.1
  unfold F_X1_paidToPersons
  refine (sumL _ (fun z5 => some z5) (fun k => if c (34 + 4 * k) = 1 then payN N K c i (4 + k) else 0) K (by omega) (fun rc x k hk => ?_) (fun rc x => ?_) 0).trans ?_
  · have hc := hO.2.2.2.2 k hk
    have e0 : F_X2_ofClaim T (nI k) 0 = some (nI (c (34 + 4 * k))) := C_cl hR hO hk (w := 0) (by decide) (by decide)
    unfold B_X1_paidToPersons_5
    rw [stl_t, htc, if_neg (by rw [nI_leI (by omega) (by omega)]; omega), e0, bs]
    unfold J_X1_paidToPersons_41
    by_cases h : c (34 + 4 * k) = 1
    · rw [if_pos (by rw [h]; rfl), C_paidToClaim hO hi hk, bs, nm_eq, nm_eq, nI_1, if_pos h]
    · rw [if_neg (nI_n1 h (by omega)), nm_eq, nI_1, if_neg h]
      exact congrArg (fun z => rc z (nI (k + 1))) (Int64.add_zero x).symm
  · unfold B_X1_paidToPersons_5
    rw [stl_t, htc, if_pos (by rw [nI_leI (by omega) (by omega)]; omega)]
  · rw [sumL0]
    rfl
theorem C_owedToPersons (hR : RowT T N K c) (hO : OKc N K c) {i : Nat} (hi : i < N) : F_X1_owedToPersons (stl T wt lk N K c) (nI i) = some (lN (opN N K c i)) := by
  have hN := hO.1
  have htc : t_claims T = nI K := hR.2.1
  unfold F_X1_owedToPersons
  refine (sumL _ (fun z5 => some z5) (fun k => if c (34 + 4 * k) = 1 then dN N c i k else 0) K (by omega) (fun rc x k hk => ?_) (fun rc x => ?_) 0).trans ?_
  · have hc := hO.2.2.2.2 k hk
    have e0 : F_X2_ofClaim T (nI k) 0 = some (nI (c (34 + 4 * k))) := C_cl hR hO hk (w := 0) (by decide) (by decide)
    unfold B_X1_owedToPersons_5
    rw [stl_t, htc, if_neg (by rw [nI_leI (by omega) (by omega)]; omega), e0, bs]
    unfold J_X1_owedToPersons_41
    by_cases h : c (34 + 4 * k) = 1
    · rw [if_pos (by rw [h]; rfl), C_owedToClaim2 hO hi hk, bs, nm_eq, nm_eq, nI_1, if_pos h]
    · rw [if_neg (nI_n1 h (by omega)), nm_eq, nI_1, if_neg h]
      exact congrArg (fun z => rc z (nI (k + 1))) (Int64.add_zero x).symm
  · unfold B_X1_owedToPersons_5
    rw [stl_t, htc, if_pos (by rw [nI_leI (by omega) (by omega)]; omega)]
  · rw [sumL0]
    rfl
theorem C_threeQuarters {a : Nat} (h : a < 2 ^ 40) : F_X1_threeQuarters (lN a) = some (lN (a * 3 / 4)) := by
  unfold F_X1_threeQuarters
  rw [show (3 : Int64) = lN 3 from rfl, lN_mul, show (4 : Int64) = lN 4 from rfl, dvL_N (by omega) (by omega) (by omega), bs]
def cvN (N K : Nat) (c : Nat → Nat) (i : Nat) : Nat := min ((sN (payN N K c i) 16 - ppN N K c i) * 3 / 4) (c (10 + 6 * i + 3) * 3 / 4)
theorem C_coveredOf (hR : RowT T N K c) (hO : OKc N K c) {i : Nat} (hi : i < N) : F_X1_coveredOf (stl T wt lk N K c) (nI i) = some (lN (cvN N K c i)) := by
  have e3 : F_X2_ofShip T (nI i) 3 = some (nI (c (10 + 6 * i + 3))) := C_sh hR hO hi (w := 3) (by decide)
  have hb := (hO.2.2.1 i hi).2.2.2.2.1
  have h1 := ppN_le hO i
  have h2 := paid_le hO hi
  unfold F_X1_coveredOf cvN
  rw [C_paidByShip hO hi, bs, C_paidToPersons hR hO hi, bs, lN_sub h1, C_threeQuarters (by omega), bs, stl_t, e3, bs, nI_l (by omega), C_threeQuarters (by omega), bs, nm_eq, Nat.min_def]
  by_cases h : c (10 + 6 * i + 3) * 3 / 4 < (sN (payN N K c i) 16 - ppN N K c i) * 3 / 4
  · rw [if_pos ((pk_lLT (by omega) (by omega)).mpr h), if_neg (by omega)]
  · rw [if_neg (fun q => h ((pk_lLT (by omega) (by omega)).mp q)), if_pos (by omega)]
end ASKC
end
section
/-! ===== level 2: the rate that would do ===== -/
section NEED
variable {T : TS} {N K : Nat} {c : Nat → Nat} {wt : Fin 4 → Int32} {lk : Fin 16 → Int64}
theorem sN_add2 (f g : Nat → Nat) : ∀ n, sN (fun k => f k + g k) n = sN f n + sN g n
  | 0 => rfl
  | n + 1 => by
    rw [sN_s (fun k => f k + g k) n, sN_add2 f g n, sN_s f n, sN_s g n]
    omega
theorem sN_zero {f : Nat → Nat} {n : Nat} (h : ∀ k, k < n → f k = 0) : sN f n = 0 := by
  rw [sN_eq (g := fun _ => 0) h, sN_c, Nat.mul_zero]
theorem sN_ext0 (f : Nat → Nat) (m : Nat) : ∀ n, (∀ k, m ≤ k → k < m + n → f k = 0) → sN f (m + n) = sN f m
  | 0, _ => rfl
  | n + 1, h => by
    rw [show m + (n + 1) = (m + n) + 1 from rfl, sN_s f (m + n), sN_ext0 f m n (fun k h1 h2 => h k h1 (by omega)), h (m + n) (by omega) (by omega)]
    rfl
/-- what is owed together -/
theorem payB_sum (hO : OKc N K c) (i : Nat) : sN (payB N K c i) 16 = sN (fun j => lwN N K c i j) N + sN (fun k => dN N c i k) K := by
  have hN := hO.1
  have h1 : sN (payB N K c i) (4 + K) = sN (payB N K c i) 16 := by
    have := sN_ext0 (payB N K c i) (4 + K) (12 - K) (fun k h1 h2 => by
      unfold payB
      rw [if_neg (by omega), if_neg (by omega)])
    rw [show 4 + K + (12 - K) = 16 by omega] at this
    exact this.symm
  have h2 : sN (payB N K c i) N = sN (payB N K c i) 4 := by
    have := sN_ext0 (payB N K c i) N (4 - N) (fun k h1 h2 => by
      unfold payB
      rw [if_pos (by omega), if_neg (by omega)])
    rw [show N + (4 - N) = 4 by omega] at this
    exact this.symm
  rw [← h1, ← sN_shift (payB N K c i) K, ← h2]
  rw [sN_eq (f := payB N K c i) (g := fun j => lwN N K c i j) (fun j hj => by
    unfold payB
    rw [if_pos (by omega), if_pos hj]), sN_eq (f := fun k => payB N K c i (4 + k)) (g := fun k => dN N c i k) (fun k hk => by
    show payB N K c i (4 + k) = dN N c i k
    unfold payB
    rw [if_neg (by omega), if_pos (by omega), show 4 + k - 4 = k by omega])]
theorem oPg_sum (hO : OKc N K c) (i rd : Nat) : sN (oPg N c i rd K) 16 = sN (fun k => if c (34 + 4 * k) = 1 ∧ rN c k = rd then dN N c i k else 0) K := by
  have hN := hO.1
  have h1 : sN (oPg N c i rd K) (4 + K) = sN (oPg N c i rd K) 16 := by
    have := sN_ext0 (oPg N c i rd K) (4 + K) (12 - K) (fun k h1 h2 => by
      unfold oPg
      rw [if_neg (by omega)])
    rw [show 4 + K + (12 - K) = 16 by omega] at this
    exact this.symm
  have h2 : sN (oPg N c i rd K) 4 = 0 := sN_zero fun k hk => by
    unfold oPg
    rw [if_neg (by omega)]
  rw [← h1, ← sN_shift (oPg N c i rd K) K, h2, Nat.zero_add]
  refine sN_eq fun k hk => ?_
  show oPg N c i rd K (4 + k) = if c (34 + 4 * k) = 1 ∧ rN c k = rd then dN N c i k else 0
  unfold oPg
  rw [show 4 + k - 4 = k by omega]
  by_cases h : c (34 + 4 * k) = 1 ∧ rN c k = rd
  · rw [if_pos h, if_pos ⟨by omega, by omega, h.1, h.2⟩]
  · rw [if_neg h, if_neg (fun z => h z.2.2)]
theorem opN_two (hO : OKc N K c) (i : Nat) : opN N K c i = sN (oPg N c i 0 K) 16 + sN (oPg N c i 1 K) 16 := by
  rw [oPg_sum hO, oPg_sum hO, ← sN_add2]
  refine sN_eq fun k hk => ?_
  show (if c (34 + 4 * k) = 1 then dN N c i k else 0) = (if c (34 + 4 * k) = 1 ∧ rN c k = 0 then dN N c i k else 0) + (if c (34 + 4 * k) = 1 ∧ rN c k = 1 then dN N c i k else 0)
  by_cases h : c (34 + 4 * k) = 1
  · rw [if_pos h]
    by_cases h0 : rN c k = 0
    · rw [if_pos ⟨h, h0⟩, if_neg (fun z => by omega), Nat.add_zero]
    · by_cases h1 : rN c k = 1
      · rw [if_neg (fun z => h0 z.2), if_pos ⟨h, h1⟩, Nat.zero_add]
      · rw [if_neg (fun z => h0 z.2), if_neg (fun z => h1 z.2)]
        have : c 9 < c (34 + 4 * k + 3) := by
          unfold rN at h0 h1
          by_cases q1 : c (34 + 4 * k + 3) ≤ c 8
          · rw [if_pos q1] at h0
            exact absurd rfl h0
          · rw [if_neg q1] at h1
            by_cases q2 : c (34 + 4 * k + 3) ≤ c 9
            · rw [if_pos q2] at h1
              exact absurd rfl h1
            · omega
        unfold dN
        rw [if_pos this]
  · rw [if_neg h, if_neg (fun z => h z.1), if_neg (fun z => h z.1)]
theorem lvU_sum (hO : OKc N K c) (i : Nat) : sN (fun k => lvU N K c i (4 + k)) K = min (opN N K c i) (fdN c i 6) := by
  have hN := hO.1
  have h2 : sN (lvU N K c i) 4 = 0 := sN_zero fun k hk => lvU_lt4 hk
  have h1 : sN (lvU N K c i) (4 + K) = sN (lvU N K c i) 16 := by
    have := sN_ext0 (lvU N K c i) (4 + K) (12 - K) (fun k h1 h2 => by
      have z : ∀ rd, oPg N c i rd K k = 0 := fun rd => by
        unfold oPg
        rw [if_neg (by omega)]
      have g0 : shp (oPg N c i 0 K) (fdN c i 6) k ≤ oPg N c i 0 K k := shp_le _
      have g1 : shp (oPg N c i 1 K) (fdN c i 6 - sN (oPg N c i 0 K) 16) k ≤ oPg N c i 1 K k := shp_le _
      rw [z] at g0 g1
      show _ + _ = 0
      omega)
    rw [show 4 + K + (12 - K) = 16 by omega] at this
    exact this.symm
  have h3 := sN_shift (lvU N K c i) K
  have h4 : sN (lvU N K c i) 16 = sN (shp (oPg N c i 0 K) (fdN c i 6)) 16 + sN (shp (oPg N c i 1 K) (fdN c i 6 - sN (oPg N c i 0 K) 16)) 16 := sN_add2 _ _ 16
  rw [shp_sum, shp_sum] at h4
  rw [opN_two hO]
  omega
def ndN (N K : Nat) (c : Nat → Nat) (i : Nat) : Nat := sN (fun j => lwN N K c i j) N + sN (fun k => dN N c i k - lvU N K c i (4 + k)) K
theorem ndN_eq (hO : OKc N K c) (i : Nat) : ndN N K c i = sN (payB N K c i) 16 - min (opN N K c i) (fdN c i 6) ∧ min (opN N K c i) (fdN c i 6) ≤ sN (payB N K c i) 16 := by
  have h1 : sN (fun k => dN N c i k - lvU N K c i (4 + k)) K + sN (fun k => lvU N K c i (4 + k)) K = sN (fun k => dN N c i k) K := by
    rw [← sN_add2]
    refine sN_eq fun k hk => ?_
    have := lvU_le (N := N) (K := K) (c := c) (i := i) k
    show dN N c i k - lvU N K c i (4 + k) + lvU N K c i (4 + k) = dN N c i k
    omega
  have h2 := lvU_sum hO i
  have h3 := payB_sum hO i
  unfold ndN
  omega
theorem ndN_le (hO : OKc N K c) {i : Nat} (hi : i < N) : ndN N K c i ≤ 3200000000 := by
  have h := (ndN_eq hO i).1
  have h2 : sN (payB N K c i) 16 ≤ 16 * 200000000 := sN_bd fun q hq => by
    unfold payB
    split
    · split
      · rename_i h4 h5
        have := lwN_le hO hi h5
        omega
      · omega
    · split
      · rename_i h4 h5
        have h1 := dN_le hO hi (k := q - 4) (by omega)
        have h2 := (hO.2.2.2.2 (q - 4) (by omega)).2.2.2.1
        omega
      · omega
  omega
def rnN (N K : Nat) (c : Nat → Nat) (i : Nat) : Nat := if c (10 + 6 * i + 5) = 1 then 0 else (ndN N K c i + max (c (10 + 6 * i)) (c 7) - 1) / max (c (10 + 6 * i)) (c 7)
theorem C_rateNeeded (hR : RowT T N K c) (hO : OKc N K c) {i : Nat} (hi : i < N) : F_X1_rateNeeded (stl T wt lk N K c) (nI i) = some (lN (rnN N K c i)) := by
  have e5 : F_X2_ofShip T (nI i) 5 = some (nI (c (10 + 6 * i + 5))) := C_sh hR hO hi (w := 5) (by decide)
  have e6 : F_X2_fundOf T (nI i) 6 = some (lN (fdN c i 6)) := C_fundOf hR hO hi (w := 6) (Or.inr rfl)
  have hfl := fdN_le c i 6
  have hs := hO.2.2.1 i hi
  have hl := hO.2.1
  have hn := ndN_le hO hi
  obtain ⟨hq, hle⟩ := ndN_eq hO i
  have hop : opN N K c i ≤ 3200000000 := by
    have := sN_bd (f := fun k => if c (34 + 4 * k) = 1 then dN N c i k else 0) (c := 9999999) (n := K) (fun k hk => by
      have h1 := dN_le hO hi hk
      have h2 := (hO.2.2.2.2 k hk).2.2.2.1
      show (if c (34 + 4 * k) = 1 then dN N c i k else 0) ≤ 9999999
      split <;> omega)
    have h2 : K * 9999999 ≤ 12 * 9999999 := Nat.mul_le_mul_right _ hO.1.2.2
    unfold opN
    omega
  unfold F_X1_rateNeeded rnN
  rw [stl_t, e5, bs]
  by_cases h5 : c (10 + 6 * i + 5) = 1
  · rw [if_pos (by rw [h5]; rfl), if_pos h5]
    rfl
  · have hmin : (if lN (fdN c i 6) < lN (opN N K c i) then lN (fdN c i 6) else lN (opN N K c i)) = lN (min (opN N K c i) (fdN c i 6)) := by
      rw [Nat.min_def]
      by_cases h : fdN c i 6 < opN N K c i
      · rw [if_pos ((pk_lLT (by omega) (by omega)).mpr h), if_neg (by omega)]
      · rw [if_neg (fun q => h ((pk_lLT (by omega) (by omega)).mp q)), if_pos (by omega)]
    rw [if_neg (nI_n1 h5 (by omega)), if_neg h5, C_owedToPersons hR hO hi, bs, C_owedByShip hO hi, bs, e6, bs, nm_eq, hmin, nm_eq, lN_sub hle, ← hq, C_fundTons hR hO hi, bs, lN_add, show (1 : Int64) = lN 1 from rfl, lN_sub (by omega), C_cut (by omega) (by omega), bs]
end NEED
end
section
/-! ===== level 2: what is asked of the model's row ===== -/
theorem sumM {β σ : Type} (B : (σ → Int64 → Int32 → Option β) → σ → Int64 → Int32 → Option β) (S : σ) (k9 : σ → Int64 → Option β) (f : Nat → Nat) (n : Nat) (hn : n < 900) (h1 : ∀ rc x j, j < n → B rc S x (nI j) = rc S (x + lN (f j)) (nI (j + 1))) (h3 : ∀ rc x, B rc S x (nI n) = k9 S x) (v : Int64) : lo3 B FU S v 0 = k9 S (v + lN (sN f n)) := by
  refine loopR (fun fu j (a : Int64) => lo3 B fu S a (nI j)) _ n (fun j a => a = v + lN (sN f j)) ?_ ?_ n FU 0 v (by omega) (by rw [FU_eq]; omega) (Int64.add_zero v).symm
  · intro fu j a hj e
    refine ⟨a + lN (f j), ?_, (lo3_s _ _ _ _ _).trans (h1 _ _ _ hj)⟩
    rw [e, Int64.add_assoc, lN_add, ← sN_s f j]
  · intro fu a e
    rw [← e]
    exact (lo3_s _ _ _ _ _).trans (h3 _ _)
def PdOK (N K : Nat) (c : Nat → Nat) (p : Fin 64 → Int64) : Prop := ∀ i, i < N → ∀ q, q < 16 → exL p (16 * i + q) = lN (payN N K c i q)
section MASK
variable {M : MS} {w : Fin 82 → Int32} {N K : Nat} {c : Nat → Nat} {o u : Fin 16 → Int64} {p : Fin 64 → Int64}
theorem M_lays : F_X5_lays (sc M w o u p) = some (sc M (m_s M) o u p) := by
  unfold F_X5_lays
  refine loopR (fun fu q (s : Fin 82 → Int32) => lo2 (B_X5_lays_2 (fun S5 => some S5)) fu (sc M s o u p) (nI q)) _ 82 (fun n s => ∀ q, q < n → exI s q = exI (m_s M) q) ?_ ?_ 82 FU 0 w (by omega) (by rw [FU_eq]; omega) (fun q hq => absurd hq (Nat.not_lt_zero q))
  · intro fu q s hq hI
    have key : ∀ k9 rc, B_X5_lays_2 k9 rc (sc M s o u p) (nI q) = rc (sc M (upI s q (exI (m_s M) q)) o u p) (nI (q + 1)) := by
      intro k9 rc
      unfold B_X5_lays_2
      rw [show (82 : Int32) = nI 82 from rfl, if_neg (by rw [nI_leI (by omega) (by omega)]; omega), sc_s, rI _ hq (by omega), bs, sc_w, wI s hq (by omega), bs, nm_eq, sc_sw, nm_eq, nI_1]
    refine ⟨upI s q (exI (m_s M) q), fun z hz => ?_, (lo2_s _ _ _ _).trans (key _ _)⟩
    rw [exI_up s hq]
    by_cases h : z = q
    · rw [if_pos h, h]
    · rw [if_neg h]
      exact hI z (by omega)
  · intro fu s hI
    have key : ∀ k9 rc, B_X5_lays_2 k9 rc (sc M s o u p) (nI 82) = k9 (sc M s o u p) := by
      intro k9 rc
      unfold B_X5_lays_2
      rw [if_pos (by decide)]
    refine ((lo2_s _ _ _ _).trans (key _ _)).trans ?_
    rw [show s = m_s M from ext_I hI]
theorem M_laysPaid (hR : RowR (m_s M) N K c) (hO : OKc N K c) : ∃ (o2 u2 : Fin 16 → Int64) (p2 : Fin 64 → Int64), F_X5_laysPaid (sc M w o u p) = some (sc M (m_s M) o2 u2 p2) ∧ PdOK N K c p2 := by
  obtain ⟨o2, u2, p2, e, h⟩ := M_paysAll (M := M) (p := p) hR hO o u
  refine ⟨o2, u2, p2, ?_, h⟩
  unfold F_X5_laysPaid
  rw [M_lays, bs, e, bs]
theorem M_paidBy (hO : OKc N K c) (hP : PdOK N K c p) {i : Nat} (hi : i < N) : F_X5_paidBy (sc M w o u p) (nI i) = some (lN (sN (payN N K c i) 16)) := by
  have hN := hO.1
  unfold F_X5_paidBy
  refine (sumL _ (fun z4 => some z4) (payN N K c i) 16 (by omega) (fun rc x q hq => ?_) (fun rc x => ?_) 0).trans ?_
  · unfold B_X5_paidBy_5
    rw [if_neg (le16 hq), sc_p, show (16 : Int32) = nI 16 from rfl, pk_mul, nI_add, rL p (by omega) (by omega), hP i hi q hq, bs, nm_eq, nm_eq, nI_1]
  · unfold B_X5_paidBy_5
    rw [if_pos (by decide)]
  · rw [sumL0]
theorem M_paidTo (hR : RowR w N K c) (hO : OKc N K c) (hP : PdOK N K c p) {k : Nat} (hk : k < K) : F_X5_paidTo (sc M w o u p) (nI k) = some (lN (ptN N K c k)) := by
  have hN := hO.1
  unfold F_X5_paidTo
  refine (sumL _ (fun z5 => some z5) (fun i => payN N K c i (4 + k)) N (by omega) (fun rc x j hj => ?_) (fun rc x => ?_) 0).trans ?_
  · unfold B_X5_paidTo_5
    rw [sc_w, R0 hR, bs, if_neg (by rw [nI_leI (by omega) (by omega)]; omega), sc_p, show (16 : Int32) = nI 16 from rfl, pk_mul, show (4 : Int32) = nI 4 from rfl, nI_add, nI_add, show 16 * j + 4 + k = 16 * j + (4 + k) by omega, rL p (by omega) (by omega), hP j hj (4 + k) (by omega), bs, nm_eq, nm_eq, nI_1]
  · unfold B_X5_paidTo_5
    rw [sc_w, R0 hR, bs, if_pos (by rw [nI_leI (by omega) (by omega)]; omega)]
  · rw [sumL0]
    rfl
theorem M_givenOf (hR : RowR w N K c) (hO : OKc N K c) (hP : PdOK N K c p) {k : Nat} (hk : k < K) : F_X5_givenOf (sc M w o u p) (nI k) = some (lN (gvN N K c k)) := by
  have hc := hO.2.2.2.2 k hk
  have h1 := ptN_le hO k
  have h2 := bkN_le hO hk
  have e0 : F_X5_ofClaim w (nI k) 0 = some (nI (c (34 + 4 * k))) := Cl hR hO hk (w := 0) (by decide) (by decide)
  unfold F_X5_givenOf gvN
  rw [sc_w, Cl1 hR hO hk, bs, e0, bs]
  by_cases h0 : c (34 + 4 * k) = 0
  · have hon := hc.2.1 h0
    have e4 : F_X5_ofShip w (nI (c (34 + 4 * k + 1))) 4 = some (nI (c (10 + 6 * c (34 + 4 * k + 1) + 4))) := Sh hR hO hon (w := 4) (by decide)
    have hb := (hO.2.2.1 _ hon).2.2.2.2.2.1
    have eo : onI c k = nI (c (34 + 4 * k + 1)) := if_pos h0
    rw [if_pos (by rw [h0]; rfl), eo, e4, bs]
    by_cases h4 : c (10 + 6 * c (34 + 4 * k + 1) + 4) = 0
    · rw [if_pos (by rw [h4]; rfl), if_neg (fun z => z.2 h4)]
      rfl
    · rw [if_neg (nI_ne0 (by omega) (by omega)), M_backOf hR hO hk, bs, M_paidTo hR hO hP hk, bs, M_lesser (by omega) (by omega), bs, if_pos (show c (34 + 4 * k) = 0 ∧ c (10 + 6 * c (34 + 4 * k + 1) + 4) ≠ 0 from ⟨h0, h4⟩)]
  · rw [if_neg (nI_ne0 (by omega) (by omega)), if_neg (fun z => h0 z.1)]
    rfl
theorem M_netOf (hR : RowR w N K c) (hO : OKc N K c) (hP : PdOK N K c p) {i : Nat} (hi : i < N) : F_X5_netOf (sc M w o u p) (nI i) = some (ntL N K c i) := by
  have hN := hO.1
  have e2 : F_X5_ofShip w (nI i) 2 = some (nI (c (10 + 6 * i + 2))) := Sh hR hO hi (w := 2) (by decide)
  have hb := (hO.2.2.1 i hi).2.2.2.1
  have second : ∀ v, lo2 (B_X5_netOf_56 (sc M w o u p) (nI i) (fun z14 => some z14)) FU v 0 = some (v + lN (s2N N K c i)) := by
    intro v
    refine (sumL _ (fun z14 => some z14) (fun k => if c (34 + 4 * k) = 0 ∧ c (34 + 4 * k + 1) = i then gvN N K c k else 0) K (by omega) (fun rc x k hk => ?_) (fun rc x => ?_) v)
    · have hc := hO.2.2.2.2 k hk
      unfold B_X5_netOf_56
      rw [sc_w, R1 hR, bs, if_neg (by rw [nI_leI (by omega) (by omega)]; omega), Cl1 hR hO hk, bs]
      unfold J_X5_netOf_92
      by_cases h : c (34 + 4 * k) = 0 ∧ c (34 + 4 * k + 1) = i
      · rw [if_pos ((onI_ne hc.2.1 hO.1.2.1 hi).mpr h), M_givenOf hR hO hP hk, bs, nm_eq, nm_eq, nI_1, if_pos h]
      · rw [if_neg (fun q => h ((onI_ne hc.2.1 hO.1.2.1 hi).mp q)), nm_eq, nm_eq, nI_1, if_neg h]
        rfl
    · unfold B_X5_netOf_56
      rw [sc_w, R1 hR, bs, if_pos (by rw [nI_leI (by omega) (by omega)]; omega)]
  unfold F_X5_netOf
  rw [M_paidBy hO hP hi, bs, sc_w, e2, bs, nm_eq, nI_l (by omega)]
  refine (sumL _ (fun z8 => lo2 (B_X5_netOf_56 (sc M w o u p) (nI i) (fun z14 => some z14)) FU z8 0) (fun j => payN N K c j i) N (by omega) (fun rc x j hj => ?_) (fun rc x => ?_) _).trans (second _)
  · unfold B_X5_netOf_21
    rw [sc_w, R0 hR, bs, if_neg (by rw [nI_leI (by omega) (by omega)]; omega), sc_p, show (16 : Int32) = nI 16 from rfl, pk_mul, nI_add, rL p (by omega) (by omega), hP j hj i (by omega), bs, nm_eq, nm_eq, nI_1]
  · unfold B_X5_netOf_21
    rw [sc_w, R0 hR, bs, if_pos (by rw [nI_leI (by omega) (by omega)]; omega)]
theorem M_owedBy (hR : RowR (m_s M) N K c) (hO : OKc N K c) {i : Nat} (hi : i < N) : F_X5_owedBy (sc M w o u p) (nI i) = some (lN (sN (payB N K c i) 16)) := by
  have hN := hO.1
  have second : ∀ v, lo2 (B_X5_owedBy_38 (sc M w o u p) (nI i) (fun z10 => some z10)) FU v 0 = some (v + lN (sN (fun k => dN N c i k) K)) := by
    intro v
    refine (sumL _ (fun z10 => some z10) (fun k => dN N c i k) K (by omega) (fun rc x k hk => ?_) (fun rc x => ?_) v)
    · unfold B_X5_owedBy_38
      rw [sc_s, R1 hR, bs, if_neg (by rw [nI_leI (by omega) (by omega)]; omega), M_debtOf hR hO hi hk, bs, nm_eq, nm_eq, nI_1]
    · unfold B_X5_owedBy_38
      rw [sc_s, R1 hR, bs, if_pos (by rw [nI_leI (by omega) (by omega)]; omega)]
  unfold F_X5_owedBy
  refine (sumL _ (fun z5 => lo2 (B_X5_owedBy_38 (sc M w o u p) (nI i) (fun z10 => some z10)) FU z5 0) (fun j => lwN N K c i j) N (by omega) (fun rc x j hj => ?_) (fun rc x => ?_) 0).trans ((second _).trans ?_)
  · unfold B_X5_owedBy_5
    rw [sc_s, R0 hR, bs, if_neg (by rw [nI_leI (by omega) (by omega)]; omega), M_lawOwed hR hO hi hj, bs, nm_eq, nm_eq, nI_1]
  · unfold B_X5_owedBy_5
    rw [sc_s, R0 hR, bs, if_pos (by rw [nI_leI (by omega) (by omega)]; omega)]
  · rw [sumL0, lN_add, payB_sum hO]
theorem M_neededOf (hR : RowR w N K c) (hO : OKc N K c) {i : Nat} (hi : i < N) : ∃ o2 u2, F_X5_neededOf (sc M w o u p) (nI i) = some (lN (ndN N K c i), sc M w o2 u2 p) := by
  have hN := hO.1
  refine ⟨aL (oPg N c i 1 K), aL (lvU N K c i), ?_⟩
  have second : ∀ v, lo3 (B_X5_neededOf_43 (nI i) (fun S13 z14 => some (z14, S13))) FU (sc M w (aL (oPg N c i 1 K)) (aL (lvU N K c i)) p) v 0 = some (v + lN (sN (fun k => dN N c i k - lvU N K c i (4 + k)) K), sc M w (aL (oPg N c i 1 K)) (aL (lvU N K c i)) p) := by
    intro v
    refine (sumM _ _ (fun S13 z14 => some (z14, S13)) (fun k => dN N c i k - lvU N K c i (4 + k)) K (by omega) (fun rc x k hk => ?_) (fun rc x => ?_) v)
    · unfold B_X5_neededOf_43
      rw [sc_w, R1 hR, bs, if_neg (by rw [nI_leI (by omega) (by omega)]; omega), M_debtOf hR hO hi hk, bs, sc_u, show (4 : Int32) = nI 4 from rfl, nI_add, rL_a _ (by omega) (by omega), bs, nm_eq, nm_eq, nI_1, lN_sub (lvU_le k)]
    · unfold B_X5_neededOf_43
      rw [sc_w, R1 hR, bs, if_pos (by rw [nI_leI (by omega) (by omega)]; omega)]
  unfold F_X5_neededOf
  rw [M_sharesLives hR hO hi, bs]
  refine (sumM _ _ (fun S6 z7 => lo3 (B_X5_neededOf_43 (nI i) (fun S13 z14 => some (z14, S13))) FU S6 z7 0) (fun j => lwN N K c i j) N (by omega) (fun rc x j hj => ?_) (fun rc x => ?_) 0).trans ((second _).trans ?_)
  · unfold B_X5_neededOf_10
    rw [sc_w, R0 hR, bs, if_neg (by rw [nI_leI (by omega) (by omega)]; omega), M_lawOwed hR hO hi hj, bs, nm_eq, nm_eq, nI_1]
  · unfold B_X5_neededOf_10
    rw [sc_w, R0 hR, bs, if_pos (by rw [nI_leI (by omega) (by omega)]; omega)]
  · rw [sumL0, lN_add]
    rfl
end MASK
end
section
/-! ===== level 2: both sides asked ===== -/
def Core (T : TS) (to : Int32) (s : Fin 82 → Int32) : Prop := (to = 0 ∧ t_ships T = 0 ∧ t_claims T = 0) ∨ (to ≠ 0 ∧ ∃ N K c, RowT T N K c ∧ RowR s N K c ∧ OKc N K c)
def xv (S : XS) : (Fin 600 → Int32) × TS × (Fin 10 → TS) × (Fin 2 → TS) × (Fin 2 → Int32) × Int32 × Int32 × Int32 × Int32 := (d_bytes (x_reader S), x_now S, x_earlier S, x_images S, x_kept S, x_tapeLength S, x_undoable S, x_nextAct S, x_latestFault S)
def mv (M : MS) : Int32 × Int32 × (Fin 82 → Int32) × (Fin 820 → Int32) × Int32 × (Fin 164 → Int32) × (Fin 2 → Int32) × (Fin 4 → Int64) × (Fin 600 → Int32) × Int32 := (m_fault M, m_told M, m_s M, m_past M, m_acts M, m_kept M, m_isKept M, m_names M, m_tape M, m_taped M)
def xT (S : XS) (t : Int32) : XS := xs_latestPlace (xs_latestTrouble S t) (-1)
def mB (M : MS) : MS := ms_place (ms_trouble (ms_thrown M 0) 0) (-1)
def mR (M : MS) (t : Int32) : MS := ms_trouble (mB M) t
theorem xT_now (S : XS) (t : Int32) : x_now (xT S t) = x_now S := rfl
theorem xT_v (S : XS) (t : Int32) : xv (xT S t) = xv S := rfl
theorem xK_v (S : XS) (t : Int32) (R : RS) : xv (xs_reckoning (xT S t) R) = xv S := rfl
theorem xK_k (S : XS) (R : RS) : x_reckoning (xs_reckoning S R) = R := rfl
theorem xK_n (S : XS) (R : RS) : x_now (xs_reckoning S R) = x_now S := rfl
theorem mB_s (M : MS) : m_s (mB M) = m_s M := rfl
theorem mB_told (M : MS) : m_told (mB M) = m_told M := rfl
theorem mB_tr (M : MS) : m_trouble (mB M) = 0 := rfl
theorem mB_v (M : MS) : mv (mB M) = mv M := rfl
theorem mR_v (M : MS) (t : Int32) : mv (mR M t) = mv M := rfl
theorem sc_v (M : MS) (w : Fin 82 → Int32) (o u : Fin 16 → Int64) (p : Fin 64 → Int64) : mv (sc (mB M) w o u p) = mv M := rfl
/-- both sides answer alike, keep what lasts, and say the same trouble -/
def AskR {α : Type} (S : XS) (M : MS) (f : Option (α × XS)) (g : Option (α × MS)) : Prop := ∃ a S2 M2, f = some (a, S2) ∧ g = some (a, M2) ∧ xv S2 = xv S ∧ mv M2 = mv M ∧ x_latestTrouble S2 = m_trouble M2 ∧ x_latestPlace S2 = m_place M2
section REL
variable {α : Type} {S : XS} {M : MS}
theorem ask_no (v : α) (t : Int32) : AskR S M (some (v, xT S t)) (some (v, mR M t)) := ⟨v, _, _, rfl, rfl, xT_v S t, mR_v M t, rfl, rfl⟩
theorem ask_yes (v : α) : AskR S M (some (v, xT S 0)) (some (v, mB M)) := ⟨v, _, _, rfl, rfl, xT_v S 0, mB_v M, rfl, rfl⟩
theorem ask_half (v : α) (R : RS) : AskR S M (some (v, xs_reckoning (xT S 0) R)) (some (v, mB M)) := ⟨v, _, _, rfl, rfl, xK_v S 0 R, mB_v M, rfl, rfl⟩
theorem ask_full (v : α) (R : RS) (w : Fin 82 → Int32) (o u : Fin 16 → Int64) (p : Fin 64 → Int64) : AskR S M (some (v, xs_reckoning (xT S 0) R)) (some (v, sc (mB M) w o u p)) := ⟨v, _, _, rfl, rfl, xK_v S 0 R, sc_v M w o u p, rfl, rfl⟩
theorem X_refuse (S : XS) (t : Int32) : F_X4_refuse S t = some (0, xT S t) := by
  unfold F_X4_refuse xT
  rw [nm_eq, nm_eq]
theorem X_none (S : XS) (t : Int32) : F_X4_none S t = some (-1, xT S t) := by
  unfold F_X4_none
  rw [X_refuse, bs]
theorem X_nothing (S : XS) (t : Int32) : F_X4_nothing S t = some (-1000000000000, xT S t) := by
  unfold F_X4_nothing
  rw [X_refuse, bs]
theorem X_accept (S : XS) : F_X4_accept S = some (xT S 0) := by
  unfold F_X4_accept xT
  rw [nm_eq, nm_eq]
theorem rk_of (R : RS) (T : TS) : rs_told R T = rk T (r_weight R) (r_backs R) (r_owed R) (r_paid R) (r_lacked R) (r_weights R) := rfl
theorem xK_two (S : XS) (a b : RS) : xs_reckoning (xs_reckoning S a) b = xs_reckoning S b := rfl
theorem X_reckon {N K : Nat} {c : Nat → Nat} (hR : RowT (x_now S) N K c) (hO : OKc N K c) : ∃ wt lk, WtOK N c wt ∧ F_X4_reckon S = some (xs_reckoning S (stl (x_now S) wt lk N K c)) := by
  obtain ⟨wt, lk, hW, e⟩ := C_settle (wt := r_weight (x_reckoning S)) (bk := r_backs (x_reckoning S)) hR hO (r_lacked (x_reckoning S)) (r_owed (x_reckoning S)) (r_paid (x_reckoning S)) (r_weights (x_reckoning S))
  refine ⟨wt, lk, hW, ?_⟩
  unfold F_X4_reckon F_X1_take
  rw [C_copy, bs, nm_eq, bs, nm_eq, xK_k, rk_of, e, bs, nm_eq, xK_two]
  rfl
theorem M_begins (M : MS) : F_X5_begins M = some (mB M) := by
  unfold F_X5_begins mB
  rw [nm_eq, nm_eq, nm_eq]
theorem M_ref0 {M2 : MS} (h : m_trouble M2 = 0) (t : Int32) : F_X5_refuse M2 0 t = some (0, M2) := by
  unfold F_X5_refuse J_X5_refuse_16
  rw [if_pos h, if_pos rfl, if_pos h]
theorem mR_tr (M : MS) (t : Int32) : m_trouble (ms_trouble M t) = t := rfl
theorem M_ref1 {M2 : MS} (h : m_trouble M2 = 0) {t : Int32} (ht : ¬ t = 0) : F_X5_refuse M2 1 t = some (1, ms_trouble M2 t) := by
  unfold F_X5_refuse J_X5_refuse_16
  rw [if_pos h, if_neg (by decide), nm_eq, mR_tr, if_neg ht]
theorem W_cases (x : Int32) {b : Nat} (hb : b < 2 ^ 31) : F_X4_within x 0 (nI b) = some 0 ∨ (F_X4_within x 0 (nI b) = some 1 ∧ ∃ a, a ≤ b ∧ x = nI a) := by
  unfold F_X4_within
  by_cases h : x < 0
  · rw [if_pos h]
    exact Or.inl rfl
  · obtain ⟨j, hj, rfl⟩ := nI_of h
    rw [if_neg h]
    by_cases h2 : nI b < nI j
    · rw [if_pos h2]
      exact Or.inl rfl
    · rw [if_neg h2]
      refine Or.inr ⟨rfl, j, ?_, rfl⟩
      rw [nI_ltI hb hj] at h2
      omega
theorem M_in (x y : Int32) : F_X5_in x.toInt64 0 y.toInt64 = F_X4_within x 0 y := by
  have e1 : lg_cmp x.toInt64 0 < 0 ↔ x < 0 := (lg_cmp_lt _ _).trans (Int32.toInt64_lt (a := x) (b := 0))
  have e2 : 0 < lg_cmp x.toInt64 y.toInt64 ↔ y < x := (lg_cmp_gt _ _).trans (Int32.toInt64_lt (a := y) (b := x))
  unfold F_X5_in F_X4_within
  by_cases h : x < 0
  · rw [if_pos (e1.mpr h), if_pos h]
  · rw [if_neg (fun q => h (e1.mp q)), if_neg h]
    by_cases h2 : y < x
    · rw [if_pos (e2.mpr h2), if_pos h2]
    · rw [if_neg (fun q => h2 (e2.mp q)), if_neg h2]
theorem W_none (x : Int32) : F_X4_within x 0 ((0 : Int32) - 1) = some 0 := by
  unfold F_X4_within
  by_cases h : x < 0
  · rw [if_pos h]
  · rw [if_neg h, if_pos]
    rw [Int32.lt_iff_toInt_lt] at h ⊢
    have h1 : ((0 : Int32) - 1).toInt = -1 := by decide
    have h2 : (0 : Int32).toInt = 0 := by decide
    omega
theorem nI_less {N : Nat} (h : 0 < N) : nI N - 1 = nI (N - 1) := by
  obtain ⟨n, rfl⟩ : ∃ n, N = n + 1 := ⟨N - 1, by omega⟩
  exact nI_pred n
theorem A_ship (h : Core (x_now S) (m_told M) (m_s M)) (x : Int32) : (F_X4_hasShip S x = some 0 ∧ F_X5_isShip (mB M) x = some 0) ∨ (∃ N K c a, RowT (x_now S) N K c ∧ RowR (m_s M) N K c ∧ OKc N K c ∧ a < N ∧ x = nI a ∧ F_X4_hasShip S x = some 1 ∧ F_X5_isShip (mB M) x = some 1) := by
  unfold F_X4_hasShip F_X5_isShip
  rw [mB_told, mB_s]
  rcases h with ⟨h0, h1, h2⟩ | ⟨h0, N, K, c, hT, hR, hO⟩
  · rw [h1, W_none, bs, if_pos h0]
    exact Or.inl ⟨rfl, rfl⟩
  · have hN := hO.1
    rw [hT.1, if_neg h0, R0 hR, bs, M_in, nI_less (by omega)]
    rcases W_cases x (b := N - 1) (by omega) with e | ⟨e, a, ha, rfl⟩
    · rw [e, bs, bs, if_pos rfl]
      exact Or.inl ⟨rfl, rfl⟩
    · rw [e, bs, bs, if_neg (by decide)]
      exact Or.inr ⟨N, K, c, a, hT, hR, hO, by omega, rfl, rfl, rfl⟩
theorem A_claim (h : Core (x_now S) (m_told M) (m_s M)) (x : Int32) : (F_X4_hasClaim S x = some 0 ∧ F_X5_isClaim (mB M) x = some 0) ∨ (∃ N K c k, RowT (x_now S) N K c ∧ RowR (m_s M) N K c ∧ OKc N K c ∧ k < K ∧ x = nI k ∧ F_X4_hasClaim S x = some 1 ∧ F_X5_isClaim (mB M) x = some 1) := by
  unfold F_X4_hasClaim F_X5_isClaim
  rw [mB_told, mB_s]
  rcases h with ⟨h0, h1, h2⟩ | ⟨h0, N, K, c, hT, hR, hO⟩
  · rw [h2, W_none, bs, if_pos h0]
    exact Or.inl ⟨rfl, rfl⟩
  · have hN := hO.1
    rw [hT.2.1, if_neg h0, R1 hR, bs, M_in]
    by_cases hK : K = 0
    · subst hK
      rw [show nI 0 = 0 from rfl, W_none, bs, bs, if_pos rfl]
      exact Or.inl ⟨rfl, rfl⟩
    · rw [nI_less (by omega)]
      rcases W_cases x (b := K - 1) (by omega) with e | ⟨e, a, ha, rfl⟩
      · rw [e, bs, bs, if_pos rfl]
        exact Or.inl ⟨rfl, rfl⟩
      · rw [e, bs, bs, if_neg (by decide)]
        exact Or.inr ⟨N, K, c, a, hT, hR, hO, by omega, rfl, rfl, rfl⟩
theorem A_net (h : Core (x_now S) (m_told M) (m_s M)) (x : Int32) : AskR S M (F_X4_net S x) (F_X5_net M x) := by
  unfold F_X4_net F_X5_net
  rw [M_begins, bs]
  rcases A_ship h x with ⟨e1, e2⟩ | ⟨N, K, c, a, hT, hR, hO, ha, rfl, e1, e2⟩
  · rw [e1, e2, bs, bs, if_pos rfl, if_pos rfl, X_nothing, bs]
    unfold J_X5_net_18
    rw [M_ref1 (mB_tr M) (by decide), bs, if_neg (show ¬ (1 : Int32) = 0 by decide)]
    exact ask_no _ _
  · rw [e1, e2, bs, bs, if_neg (by decide), if_neg (by decide), X_accept, bs]
    obtain ⟨wt, lk, hW, er⟩ := X_reckon (S := xT S 0) hT hO
    rw [er, bs, xK_k, xT_now, C_netOf hT hO hW ha, bs]
    unfold J_X5_net_18
    rw [M_ref0 (mB_tr M), bs, if_pos rfl]
    obtain ⟨o2, u2, p2, el, hP⟩ := M_laysPaid (M := mB M) (w := m_w (mB M)) (o := m_owed (mB M)) (u := m_out (mB M)) (p := m_paid (mB M)) (N := N) (K := K) (c := c) hR hO
    rw [sc_self] at el
    rw [el, bs, M_netOf (w := m_s (mB M)) hR hO hP ha, bs]
    exact ask_full _ _ _ _ _ _
end REL
end
section
/-! ===== level 2: the asks one by one ===== -/
section ASKD
variable {S : XS} {M : MS}
theorem n10 : ¬ (1 : Int32) = 0 := by decide
theorem A_shipAsk (h : Core (x_now S) (m_told M) (m_s M)) (x y : Int32) : AskR S M (F_X4_ship S x y) (F_X5_ship M x y) := by
  have no : AskR S M (J_X4_ship_18 S) (J_X5_ship_25 (mB M) x y) := by
    unfold J_X4_ship_18 J_X5_ship_25 J_X5_ship_30
    rw [X_none, bs, M_ref1 (mB_tr M) (by decide), bs, if_neg (show ¬ (1 : Int32) = 0 by decide)]
    exact ask_no _ _
  unfold F_X4_ship F_X5_ship
  rw [M_begins, bs]
  rcases A_ship h x with ⟨e1, e2⟩ | ⟨N, K, c, a, hT, hR, hO, ha, rfl, e1, e2⟩
  · rw [e1, e2, bs, bs, if_pos rfl, if_pos rfl]
    exact no
  · rw [e1, e2, bs, bs, if_neg n10, if_neg n10, show (6 : Int64) = (6 : Int32).toInt64 from rfl, M_in, show (6 : Int32) = nI 6 from rfl]
    rcases W_cases y (b := 6) (by omega) with e | ⟨e, b, hb, rfl⟩
    · rw [e, bs, bs, if_pos rfl, if_pos rfl]
      exact no
    · rw [e, bs, bs, if_neg n10, if_neg n10, X_accept, bs, xT_now]
      unfold J_X5_ship_30
      rw [M_ref0 (mB_tr M), bs, if_pos rfl, mB_s, show (6 : Int32) = nI 6 from rfl]
      by_cases h6 : b = 6
      · subst h6
        rw [if_pos rfl, if_pos rfl, C_weightOf hT hO ha, bs, M_weightOf hR hO ha, bs]
        exact ask_yes _
      · rw [if_neg (fun q => h6 ((nI_eq (by omega) (by omega)).mp q)), if_neg (fun q => h6 ((nI_eq (by omega) (by omega)).mp q)), C_sh hT hO ha (by omega), bs, Sh hR hO ha (by omega), bs]
        exact ask_yes _
theorem A_claimAsk (h : Core (x_now S) (m_told M) (m_s M)) (x y : Int32) : AskR S M (F_X4_claim S x y) (F_X5_claim M x y) := by
  have no : AskR S M (J_X4_claim_17 S) (J_X5_claim_25 (mB M) x y) := by
    unfold J_X4_claim_17 J_X5_claim_25 J_X5_claim_30
    rw [X_none, bs, M_ref1 (mB_tr M) (by decide), bs, if_neg (show ¬ (1 : Int32) = 0 by decide)]
    exact ask_no _ _
  unfold F_X4_claim F_X5_claim
  rw [M_begins, bs]
  rcases A_claim h x with ⟨e1, e2⟩ | ⟨N, K, c, k, hT, hR, hO, hk, rfl, e1, e2⟩
  · rw [e1, e2, bs, bs, if_pos rfl, if_pos rfl]
    exact no
  · rw [e1, e2, bs, bs, if_neg n10, if_neg n10, show (4 : Int64) = (4 : Int32).toInt64 from rfl, M_in, show (4 : Int32) = nI 4 from rfl]
    rcases W_cases y (b := 4) (by omega) with e | ⟨e, b, hb, rfl⟩
    · rw [e, bs, bs, if_pos rfl, if_pos rfl]
      exact no
    · rw [e, bs, bs, if_neg n10, if_neg n10, X_accept, bs, xT_now]
      unfold J_X5_claim_30
      rw [M_ref0 (mB_tr M), bs, if_pos rfl, mB_s, show (4 : Int32) = nI 4 from rfl]
      by_cases h4 : b = 4
      · subst h4
        rw [if_pos rfl, if_pos rfl, C_roundOf hT hO hk, bs, M_roundOf hR hO hk, bs]
        exact ask_yes _
      · rw [if_neg (fun q => h4 ((nI_eq (by omega) (by omega)).mp q)), if_neg (fun q => h4 ((nI_eq (by omega) (by omega)).mp q))]
        by_cases h1 : b = 1
        · subst h1
          rw [show nI 1 = 1 from rfl, C_cl1 hT hO hk, bs, Cl1 hR hO hk, bs]
          exact ask_yes _
        · rw [C_cl hT hO hk (by omega) h1, bs, Cl hR hO hk (by omega) h1, bs]
          exact ask_yes _
theorem A_part (h : Core (x_now S) (m_told M) (m_s M)) (x y : Int32) : AskR S M (F_X4_part S x y) (F_X5_part M x y) := by
  unfold F_X4_part F_X5_part J_X5_part_18
  rw [M_begins, bs]
  rcases A_ship h x with ⟨e1, e2⟩ | ⟨N, K, c, a, hT, hR, hO, ha, rfl, e1, e2⟩
  · rw [e1, e2, bs, bs, if_pos rfl, if_pos rfl, X_none, bs, M_ref1 (mB_tr M) (by decide), bs, if_neg (show ¬ (1 : Int32) = 0 by decide)]
    exact ask_no _ _
  · rw [e1, e2, bs, bs, if_neg n10, if_neg n10, M_ref0 (mB_tr M), bs, if_pos rfl, show (9999999 : Int64) = (9999999 : Int32).toInt64 from rfl, M_in, show (9999999 : Int32) = nI 9999999 from rfl]
    unfold J_X5_part_43
    rcases W_cases y (b := 9999999) (by omega) with e | ⟨e, b, hb, rfl⟩
    · rw [e, bs, bs, if_pos rfl, if_pos rfl, X_none, bs, M_ref1 (mB_tr M) (by decide), bs, if_neg (show ¬ (1 : Int32) = 0 by decide)]
      exact ask_no _ _
    · rw [e, bs, bs, if_neg n10, if_neg n10, X_accept, bs]
      obtain ⟨wt, lk, hW, er⟩ := X_reckon (S := xT S 0) hT hO
      rw [er, bs, xK_k, nI_l (by omega)]
      unfold stl
      rw [C_partOf hO hW ha (by omega), bs, M_ref0 (mB_tr M), bs, if_pos rfl, mB_s, M_partOf hR hO ha (by omega), bs]
      exact ask_half _ _
theorem A_fund (h : Core (x_now S) (m_told M) (m_s M)) (x y : Int32) : AskR S M (F_X4_fund S x y) (F_X5_fund M x y) := by
  have no : AskR S M (J_X4_fund_17 S) (J_X5_fund_23 (mB M) x y) := by
    unfold J_X4_fund_17 J_X5_fund_23 J_X5_fund_28
    rw [X_none, bs, M_ref1 (mB_tr M) (by decide), bs, if_neg (show ¬ (1 : Int32) = 0 by decide)]
    exact ask_no _ _
  unfold F_X4_fund F_X5_fund
  rw [M_begins, bs]
  rcases A_ship h x with ⟨e1, e2⟩ | ⟨N, K, c, a, hT, hR, hO, ha, rfl, e1, e2⟩
  · rw [e1, e2, bs, bs, if_pos rfl, if_pos rfl]
    exact no
  · have c6 : F_X2_fundOf (x_now S) (nI a) 6 = some (lN (fdN c a 6)) := C_fundOf hT hO ha (w := 6) (Or.inr rfl)
    have c5 : F_X2_fundOf (x_now S) (nI a) 5 = some (lN (fdN c a 5)) := C_fundOf hT hO ha (w := 5) (Or.inl rfl)
    have m6 : F_X5_fundOf (m_s M) (nI a) 6 = some (lN (fdN c a 6)) := M_fundOf hR hO ha (w := 6) (Or.inr rfl)
    have m5 : F_X5_fundOf (m_s M) (nI a) 5 = some (lN (fdN c a 5)) := M_fundOf hR hO ha (w := 5) (Or.inl rfl)
    rw [e1, e2, bs, bs, if_neg n10, if_neg n10, show F_X5_in y.toInt64 0 1 = F_X4_within y 0 1 from M_in y 1]
    rcases W_cases y (b := 1) (by omega) with e | ⟨e, b, hb, rfl⟩
    · have e' : F_X4_within y 0 1 = some 0 := e
      rw [e', bs, bs, if_pos rfl, if_pos rfl]
      exact no
    · have e' : F_X4_within (nI b) 0 1 = some 1 := e
      rw [e', bs, bs, if_neg n10, if_neg n10, X_accept, bs]
      unfold J_X4_fund_42 J_X5_fund_28 J_X5_fund_52
      rw [M_ref0 (mB_tr M), bs, if_pos rfl, mB_s, xT_now]
      by_cases h0 : b = 0
      · subst h0
        rw [if_pos nI_0, if_pos nI_0, c6, bs, m6, bs]
        exact ask_yes _
      · rw [if_neg (nI_ne0 (by omega) (by omega)), if_neg (nI_ne0 (by omega) (by omega)), c5, bs, m5, bs]
        exact ask_yes _
end ASKD
end
section
/-! ===== level 2: the asks, those that are settled ===== -/
section ASKE
variable {S : XS} {M : MS}
theorem m1L : (-1 : Int32).toInt64 = -1 := by decide
theorem M_lp {N K : Nat} {c : Nat → Nat} (hR : RowR (m_s M) N K c) (hO : OKc N K c) : ∃ (o2 u2 : Fin 16 → Int64) (p2 : Fin 64 → Int64), F_X5_laysPaid (mB M) = some (sc (mB M) (m_s M) o2 u2 p2) ∧ PdOK N K c p2 := by
  obtain ⟨o2, u2, p2, el, hP⟩ := M_laysPaid (M := mB M) (w := m_w (mB M)) (o := m_owed (mB M)) (u := m_out (mB M)) (p := m_paid (mB M)) (N := N) (K := K) (c := c) hR hO
  rw [sc_self] at el
  exact ⟨o2, u2, p2, el, hP⟩
theorem sameN {T : TS} {N K N2 K2 : Nat} {c c2 : Nat → Nat} (h : RowT T N K c) (h2 : RowT T N2 K2 c2) (hO : OKc N K c) (hO2 : OKc N2 K2 c2) : N2 = N ∧ K2 = K := by
  have a := hO.1
  have b := hO2.1
  exact ⟨(nI_eq (by omega) (by omega)).mp (h2.1.symm.trans h.1), (nI_eq (by omega) (by omega)).mp (h2.2.1.symm.trans h.2.1)⟩
theorem A_owes (h : Core (x_now S) (m_told M) (m_s M)) (x y : Int32) : AskR S M (F_X4_owes S x y) (F_X5_owes M x y) := by
  have no : AskR S M (J_X4_owes_16 S) (J_X5_owes_21 (mB M) x y) := by
    unfold J_X4_owes_16 J_X5_owes_21 J_X5_owes_26
    rw [X_none, bs, M_ref1 (mB_tr M) (by decide), bs, if_neg (show ¬ (1 : Int32) = 0 by decide)]
    exact ask_no _ _
  unfold F_X4_owes F_X5_owes
  rw [M_begins, bs]
  rcases A_ship h x with ⟨e1, e2⟩ | ⟨N, K, c, a, hT, hR, hO, ha, rfl, e1, e2⟩
  · rw [e1, e2, bs, bs, if_pos rfl, if_pos rfl]
    exact no
  · rw [e1, e2, bs, bs, if_neg n10, if_neg n10]
    rcases A_claim h y with ⟨e3, e4⟩ | ⟨N2, K2, c2, k, hT2, hR2, hO2, hk, rfl, e3, e4⟩
    · rw [e3, e4, bs, bs, if_pos rfl, if_pos rfl]
      exact no
    · obtain ⟨rfl, rfl⟩ := sameN hT hT2 hO hO2
      rw [e3, e4, bs, bs, if_neg n10, if_neg n10, X_accept, bs]
      obtain ⟨wt, lk, hW, er⟩ := X_reckon (S := xT S 0) hT hO
      unfold J_X5_owes_26
      rw [er, bs, xK_k, C_owedToClaim2 hO ha hk, bs, M_ref0 (mB_tr M), bs, if_pos rfl, mB_s, M_debtOf hR hO ha hk, bs]
      exact ask_half _ _
theorem A_back (h : Core (x_now S) (m_told M) (m_s M)) (x : Int32) : AskR S M (F_X4_back S x) (F_X5_back M x) := by
  unfold F_X4_back F_X5_back J_X5_back_18
  rw [M_begins, bs]
  rcases A_claim h x with ⟨e1, e2⟩ | ⟨N, K, c, k, hT, hR, hO, hk, rfl, e1, e2⟩
  · rw [e1, e2, bs, bs, if_pos rfl, if_pos rfl, X_none, bs, M_ref1 (mB_tr M) (by decide), bs, if_neg (show ¬ (1 : Int32) = 0 by decide), m1L]
    exact ask_no _ _
  · rw [e1, e2, bs, bs, if_neg n10, if_neg n10, X_accept, bs]
    obtain ⟨wt, lk, hW, er⟩ := X_reckon (S := xT S 0) hT hO
    rw [er, bs, xK_k, xT_now, C_backForClaim hT hO hW hk, bs, M_ref0 (mB_tr M), bs, if_pos rfl, mB_s, M_backOf hR hO hk, bs]
    exact ask_half _ _
theorem A_pays (h : Core (x_now S) (m_told M) (m_s M)) (x y : Int32) : AskR S M (F_X4_pays S x y) (F_X5_pays M x y) := by
  have no : AskR S M (J_X4_pays_16 S) (J_X5_pays_21 (mB M) x y) := by
    unfold J_X4_pays_16 J_X5_pays_21 J_X5_pays_26
    rw [X_none, bs, M_ref1 (mB_tr M) (by decide), bs, if_neg (show ¬ (1 : Int32) = 0 by decide)]
    exact ask_no _ _
  unfold F_X4_pays F_X5_pays
  rw [M_begins, bs]
  rcases A_ship h x with ⟨e1, e2⟩ | ⟨N, K, c, a, hT, hR, hO, ha, rfl, e1, e2⟩
  · rw [e1, e2, bs, bs, if_pos rfl, if_pos rfl]
    exact no
  · rw [e1, e2, bs, bs, if_neg n10, if_neg n10]
    rcases A_claim h y with ⟨e3, e4⟩ | ⟨N2, K2, c2, k, hT2, hR2, hO2, hk, rfl, e3, e4⟩
    · rw [e3, e4, bs, bs, if_pos rfl, if_pos rfl]
      exact no
    · obtain ⟨rfl, rfl⟩ := sameN hT hT2 hO hO2
      have hN := hO.1
      rw [e3, e4, bs, bs, if_neg n10, if_neg n10, X_accept, bs]
      obtain ⟨wt, lk, hW, er⟩ := X_reckon (S := xT S 0) hT hO
      obtain ⟨o2, u2, p2, el, hP⟩ := M_lp hR hO
      unfold J_X5_pays_26
      rw [er, bs, xK_k, C_paidToClaim hO ha hk, bs, M_ref0 (mB_tr M), bs, if_pos rfl, el, bs, sc_p, show (16 : Int32) = nI 16 from rfl, pk_mul, show (4 : Int32) = nI 4 from rfl, nI_add, nI_add, show 16 * a + 4 + k = 16 * a + (4 + k) by omega, rL p2 (by omega) (by omega), hP a ha (4 + k) (by omega), bs]
      exact ask_full _ _ _ _ _ _
theorem A_paysTo (h : Core (x_now S) (m_told M) (m_s M)) (x y : Int32) : AskR S M (F_X4_paysTo S x y) (F_X5_paysTo M x y) := by
  have no : AskR S M (J_X4_paysTo_16 S) (J_X5_paysTo_21 (mB M) x y) := by
    unfold J_X4_paysTo_16 J_X5_paysTo_21 J_X5_paysTo_26 J_X5_paysTo_51
    rw [X_none, bs, M_ref1 (mB_tr M) (by decide), bs, if_neg (show ¬ (1 : Int32) = 0 by decide), m1L]
    exact ask_no _ _
  unfold F_X4_paysTo F_X5_paysTo
  rw [M_begins, bs]
  rcases A_ship h x with ⟨e1, e2⟩ | ⟨N, K, c, a, hT, hR, hO, ha, rfl, e1, e2⟩
  · rw [e1, e2, bs, bs, if_pos rfl, if_pos rfl]
    exact no
  · rw [e1, e2, bs, bs, if_neg n10, if_neg n10]
    rcases A_ship h y with ⟨e3, e4⟩ | ⟨N2, K2, c2, b, hT2, hR2, hO2, hb, rfl, e3, e4⟩
    · rw [e3, e4, bs, bs, if_pos rfl, if_pos rfl]
      exact no
    · obtain ⟨rfl, rfl⟩ := sameN hT hT2 hO hO2
      have hN := hO.1
      rw [e3, e4, bs, bs, if_neg n10, if_neg n10]
      unfold J_X5_paysTo_26
      rw [M_ref0 (mB_tr M), bs, if_pos rfl]
      unfold J_X5_paysTo_44 J_X5_paysTo_51
      by_cases hab : nI a = nI b
      · rw [if_pos hab, if_pos hab, X_none, bs, M_ref1 (mB_tr M) (by decide), bs, if_neg (show ¬ (1 : Int32) = 0 by decide), m1L]
        exact ask_no _ _
      · rw [if_neg hab, if_neg hab, X_accept, bs]
        obtain ⟨wt, lk, hW, er⟩ := X_reckon (S := xT S 0) hT hO
        obtain ⟨o2, u2, p2, el, hP⟩ := M_lp hR hO
        rw [er, bs, xK_k, C_paidToShip hO ha hb, bs, M_ref0 (mB_tr M), bs, if_pos rfl, el, bs, sc_p, show (16 : Int32) = nI 16 from rfl, pk_mul, nI_add, rL p2 (by omega) (by omega), hP a ha b (by omega), bs]
        exact ask_full _ _ _ _ _ _
theorem A_sum (h : Core (x_now S) (m_told M) (m_s M)) (x y : Int32) : AskR S M (F_X4_sum S x y) (F_X5_sum M x y) := by
  have no : AskR S M (J_X4_sum_17 S) (J_X5_sum_23 (mB M) x y) := by
    unfold J_X4_sum_17 J_X5_sum_23 J_X5_sum_28
    rw [X_none, bs, M_ref1 (mB_tr M) (by decide), bs, if_neg (show ¬ (1 : Int32) = 0 by decide), m1L]
    exact ask_no _ _
  unfold F_X4_sum F_X5_sum
  rw [M_begins, bs]
  rcases A_ship h x with ⟨e1, e2⟩ | ⟨N, K, c, a, hT, hR, hO, ha, rfl, e1, e2⟩
  · rw [e1, e2, bs, bs, if_pos rfl, if_pos rfl]
    exact no
  · rw [e1, e2, bs, bs, if_neg n10, if_neg n10, show F_X5_in y.toInt64 0 1 = F_X4_within y 0 1 from M_in y 1]
    rcases W_cases y (b := 1) (by omega) with e | ⟨e, b, hb, rfl⟩
    · have e' : F_X4_within y 0 1 = some 0 := e
      rw [e', bs, bs, if_pos rfl, if_pos rfl]
      exact no
    · have e' : F_X4_within (nI b) 0 1 = some 1 := e
      rw [e', bs, bs, if_neg n10, if_neg n10, X_accept, bs]
      obtain ⟨wt, lk, hW, er⟩ := X_reckon (S := xT S 0) hT hO
      obtain ⟨o2, u2, p2, el, hP⟩ := M_lp hR hO
      unfold J_X5_sum_28
      rw [er, bs, xK_k, M_ref0 (mB_tr M), bs, if_pos rfl]
      by_cases h0 : b = 0
      · subst h0
        have eo : F_X5_owedBy (mB M) (nI a) = some (lN (sN (payB N K c a) 16)) := by
          have := M_owedBy (M := mB M) (w := m_w (mB M)) (o := m_owed (mB M)) (u := m_out (mB M)) (p := m_paid (mB M)) (N := N) (K := K) (c := c) hR hO ha
          rw [sc_self] at this
          exact this
        rw [if_pos nI_0, if_pos nI_0, C_owedByShip hO ha, bs, eo, bs]
        exact ask_half _ _
      · rw [if_neg (nI_ne0 (by omega) (by omega)), if_neg (nI_ne0 (by omega) (by omega)), C_paidByShip hO ha, bs, el, bs, M_paidBy hO hP ha, bs]
        exact ask_full _ _ _ _ _ _
theorem A_bites (h : Core (x_now S) (m_told M) (m_s M)) (x : Int32) : AskR S M (F_X4_bites S x) (F_X5_bites M x) := by
  unfold F_X4_bites F_X5_bites J_X5_bites_18
  rw [M_begins, bs]
  rcases A_ship h x with ⟨e1, e2⟩ | ⟨N, K, c, a, hT, hR, hO, ha, rfl, e1, e2⟩
  · rw [e1, e2, bs, bs, if_pos rfl, if_pos rfl, X_none, bs, M_ref1 (mB_tr M) (by decide), bs, if_neg (show ¬ (1 : Int32) = 0 by decide)]
    exact ask_no _ _
  · rw [e1, e2, bs, bs, if_neg n10, if_neg n10, X_accept, bs]
    obtain ⟨wt, lk, hW, er⟩ := X_reckon (S := xT S 0) hT hO
    obtain ⟨o2, u2, p2, el, hP⟩ := M_lp hR hO
    have hR2 : RowR (m_s (mB M)) N K c := hR
    rw [er, bs, xK_k, C_paidByShip hO ha, bs, C_owedByShip hO ha, bs, M_ref0 (mB_tr M), bs, if_pos rfl, el, bs, M_paidBy hO hP ha, bs, M_owedBy hR2 hO ha, bs]
    by_cases hq : 0 ≤ lg_cmp (lN (sN (payN N K c a) 16)) (lN (sN (payB N K c a) 16))
    · rw [if_pos hq, if_pos hq]
      exact ask_full _ _ _ _ _ _
    · rw [if_neg hq, if_neg hq]
      exact ask_full _ _ _ _ _ _
theorem A_gets (h : Core (x_now S) (m_told M) (m_s M)) (x y : Int32) : AskR S M (F_X4_gets S x y) (F_X5_gets M x y) := by
  have no : AskR S M (J_X4_gets_17 S) (J_X5_gets_25 (mB M) x y) := by
    unfold J_X4_gets_17 J_X5_gets_25 J_X5_gets_30
    rw [X_none, bs, M_ref1 (mB_tr M) (by decide), bs, if_neg (show ¬ (1 : Int32) = 0 by decide), m1L]
    exact ask_no _ _
  unfold F_X4_gets F_X5_gets
  rw [M_begins, bs]
  rcases A_claim h x with ⟨e1, e2⟩ | ⟨N, K, c, k, hT, hR, hO, hk, rfl, e1, e2⟩
  · rw [e1, e2, bs, bs, if_pos rfl, if_pos rfl]
    exact no
  · rw [e1, e2, bs, bs, if_neg n10, if_neg n10, show F_X5_in y.toInt64 0 2 = F_X4_within y 0 2 from M_in y 2]
    rcases W_cases y (b := 2) (by omega) with e | ⟨e, b, hb, rfl⟩
    · have e' : F_X4_within y 0 2 = some 0 := e
      rw [e', bs, bs, if_pos rfl, if_pos rfl]
      exact no
    · have e' : F_X4_within (nI b) 0 2 = some 1 := e
      rw [e', bs, bs, if_neg n10, if_neg n10, X_accept, bs]
      obtain ⟨wt, lk, hW, er⟩ := X_reckon (S := xT S 0) hT hO
      obtain ⟨o2, u2, p2, el, hP⟩ := M_lp hR hO
      unfold J_X5_gets_30
      rw [er, bs, xK_k, xT_now, M_ref0 (mB_tr M), bs, if_pos rfl, el, bs]
      by_cases h0 : b = 0
      · subst h0
        rw [if_pos nI_0, if_pos nI_0, C_leftToClaim hT hO hW hk, bs, M_paidTo hR hO hP hk, bs, M_givenOf hR hO hP hk, bs, lN_sub (gvN_le hO)]
        exact ask_full _ _ _ _ _ _
      · rw [if_neg (nI_ne0 (by omega) (by omega)), if_neg (nI_ne0 (by omega) (by omega))]
        by_cases h1 : b = 1
        · subst h1
          rw [if_pos (show nI 1 = 1 from rfl), if_pos (show nI 1 = 1 from rfl), C_givenBack hT hO hW hk, bs, M_givenOf hR hO hP hk, bs]
          exact ask_full _ _ _ _ _ _
        · rw [if_neg (nI_n1 h1 (by omega)), if_neg (nI_n1 h1 (by omega)), C_paidToClaimByAll hT hO hk, bs, M_paidTo hR hO hP hk, bs]
          exact ask_full _ _ _ _ _ _
end ASKE
end
section
/-! ===== level 2: between, cover ===== -/
section ASKF
variable {S : XS} {M : MS}
theorem A_between (h : Core (x_now S) (m_told M) (m_s M)) (x y z : Int32) : AskR S M (F_X4_between S x y z) (F_X5_between M x y z) := by
  have no : AskR S M (J_X4_between_25 S) (J_X5_between_33 (mB M) x y z) := by
    unfold J_X4_between_25 J_X5_between_33 J_X5_between_38 J_X5_between_63
    rw [X_none, bs, M_ref1 (mB_tr M) (by decide), bs, if_neg (show ¬ (1 : Int32) = 0 by decide), m1L]
    exact ask_no _ _
  unfold F_X4_between F_X5_between
  rw [M_begins, bs]
  rcases A_ship h x with ⟨e1, e2⟩ | ⟨N, K, c, a, hT, hR, hO, ha, rfl, e1, e2⟩
  · rw [e1, e2, bs, bs, if_pos rfl, if_pos rfl]
    exact no
  · rw [e1, e2, bs, bs, if_neg n10, if_neg n10]
    rcases A_ship h y with ⟨e3, e4⟩ | ⟨N2, K2, c2, b, hT2, hR2, hO2, hb, rfl, e3, e4⟩
    · rw [e3, e4, bs, bs, if_pos rfl, if_pos rfl]
      exact no
    · obtain ⟨rfl, rfl⟩ := sameN hT hT2 hO hO2
      have hN := hO.1
      rw [e3, e4, bs, bs, if_neg n10, if_neg n10, show F_X5_in z.toInt64 0 3 = F_X4_within z 0 3 from M_in z 3]
      rcases W_cases z (b := 3) (by omega) with e | ⟨e, d, hd, rfl⟩
      · have e' : F_X4_within z 0 3 = some 0 := e
        rw [e', bs, bs, if_pos rfl, if_pos rfl]
        exact no
      · have e' : F_X4_within (nI d) 0 3 = some 1 := e
        rw [e', bs, bs, if_neg n10, if_neg n10]
        unfold J_X5_between_38
        rw [M_ref0 (mB_tr M), bs, if_pos rfl]
        unfold J_X5_between_56 J_X5_between_63
        by_cases hab : nI a = nI b
        · rw [if_pos hab, if_pos hab, X_none, bs, M_ref1 (mB_tr M) (by decide), bs, if_neg (show ¬ (1 : Int32) = 0 by decide), m1L]
          exact ask_no _ _
        · rw [if_neg hab, if_neg hab, X_accept, bs]
          obtain ⟨wt, lk, hW, er⟩ := X_reckon (S := xT S 0) hT hO
          have hTx : RowT (x_now (xT S 0)) N2 K2 c := hT
          rw [er, bs, xK_k, M_ref0 (mB_tr M), bs, if_pos rfl, mB_s]
          by_cases h0 : d = 0
          · subst h0
            have e5 : F_X1_hullDebt (stl (x_now (xT S 0)) wt lk N2 K2 c) (nI a) (nI b) = _ := C_hullDebt hTx hO hW ha hb
            rw [if_pos nI_0, if_pos nI_0, e5, bs, M_hullOwed hR hO ha hb, bs]
            exact ask_half _ _
          · rw [if_neg (nI_ne0 (by omega) (by omega)), if_neg (nI_ne0 (by omega) (by omega))]
            by_cases h1 : d = 1
            · subst h1
              have e5 : F_X1_backTo (stl (x_now (xT S 0)) wt lk N2 K2 c) (nI a) (nI b) = _ := C_backTo hO ha hb _
              rw [if_pos (show nI 1 = 1 from rfl), if_pos (show nI 1 = 1 from rfl), e5, bs, M_backOwed hR hO ha hb, bs]
              exact ask_half _ _
            · rw [if_neg (nI_n1 h1 (by omega)), if_neg (nI_n1 h1 (by omega)), show (2 : Int32) = nI 2 from rfl]
              by_cases h2 : d = 2
              · subst h2
                have e5 : F_X1_crossDebt (stl (x_now (xT S 0)) wt lk N2 K2 c) (nI a) (nI b) = _ := C_crossDebt hTx hO hW ha hb
                rw [if_pos rfl, if_pos rfl, e5, bs, M_bothOwed hR hO ha hb, bs]
                exact ask_half _ _
              · rw [if_neg (fun q => h2 ((nI_eq (by omega) (by omega)).mp q)), if_neg (fun q => h2 ((nI_eq (by omega) (by omega)).mp q)), C_owedToShip hO ha hb, bs, M_lawOwed hR hO ha hb, bs]
                exact ask_half _ _
theorem M_coverLoop {M2 : MS} {w : Fin 82 → Int32} {o u : Fin 16 → Int64} {p : Fin 64 → Int64} {N K : Nat} {c : Nat → Nat} (hR : RowR (m_s M2) N K c) (hO : OKc N K c) (hP : PdOK N K c p) {i : Nat} (hi : i < N) (y : Int32) (k9 : MS → Int64 → Option (Int64 × MS)) :
    lo3 (B_X5_cover_52 (nI i) y k9) FU (sc M2 w o u p) (lN (sN (payN N K c i) 16)) 0 = k9 (sc M2 w o u p) (lN (sN (payN N K c i) 16 - ppN N K c i)) := by
  have hN := hO.1
  have htot := ppN_le hO i
  refine loopR (fun fu k (_ : Unit) => lo3 (B_X5_cover_52 (nI i) y k9) fu (sc M2 w o u p) (lN (sN (payN N K c i) 16 - sN (fun k => if c (34 + 4 * k) = 1 then payN N K c i (4 + k) else 0) k)) (nI k)) _ K (fun _ _ => True) ?_ ?_ K FU 0 () (by omega) (by rw [FU_eq]; omega) trivial
  · intro fu k _ hk _
    have hm := sN_mono (fun k => if c (34 + 4 * k) = 1 then payN N K c i (4 + k) else 0) (show k + 1 ≤ K by omega)
    rw [sN_s (fun k => if c (34 + 4 * k) = 1 then payN N K c i (4 + k) else 0) k] at hm
    have hm2 : sN (fun k => if c (34 + 4 * k) = 1 then payN N K c i (4 + k) else 0) k + (if c (34 + 4 * k) = 1 then payN N K c i (4 + k) else 0) ≤ sN (payN N K c i) 16 := Nat.le_trans hm htot
    have hc := hO.2.2.2.2 k hk
    have e0 : F_X5_ofClaim (m_s M2) (nI k) 0 = some (nI (c (34 + 4 * k))) := Cl hR hO hk (w := 0) (by decide) (by decide)
    have key : ∀ rc, B_X5_cover_52 (nI i) y k9 rc (sc M2 w o u p) (lN (sN (payN N K c i) 16 - sN (fun k => if c (34 + 4 * k) = 1 then payN N K c i (4 + k) else 0) k)) (nI k) = rc (sc M2 w o u p) (lN (sN (payN N K c i) 16 - sN (fun k => if c (34 + 4 * k) = 1 then payN N K c i (4 + k) else 0) (k + 1))) (nI (k + 1)) := by
      intro rc
      unfold B_X5_cover_52 J_X5_cover_96
      rw [sc_s, R1 hR, bs, if_neg (by rw [nI_leI (by omega) (by omega)]; omega), e0, bs, sN_s (fun k => if c (34 + 4 * k) = 1 then payN N K c i (4 + k) else 0) k]
      by_cases h : c (34 + 4 * k) = 1
      · rw [if_pos h] at hm2
        rw [if_pos (by rw [h]; rfl), sc_p, show (16 : Int32) = nI 16 from rfl, pk_mul, show (4 : Int32) = nI 4 from rfl, nI_add, nI_add, show 16 * i + 4 + k = 16 * i + (4 + k) by omega, rL p (by omega) (by omega), hP i hi (4 + k) (by omega), bs, nm_eq, nm_eq, nI_1, lN_sub (by omega), Nat.sub_sub, if_pos h]
      · rw [if_neg (nI_n1 h (by omega)), nm_eq, nm_eq, nI_1, if_neg h, show (0 : Int64) = lN 0 from rfl, lN_sub (by omega), Nat.sub_zero]
        rfl
    exact ⟨(), trivial, (lo3_s _ _ _ _ _).trans (key _)⟩
  · intro fu _ _
    have key : ∀ rc x, B_X5_cover_52 (nI i) y k9 rc (sc M2 w o u p) x (nI K) = k9 (sc M2 w o u p) x := by
      intro rc x
      unfold B_X5_cover_52
      rw [sc_s, R1 hR, bs, if_pos (by rw [nI_leI (by omega) (by omega)]; omega)]
    exact (lo3_s _ _ _ _ _).trans (key _ _)
theorem A_cover (h : Core (x_now S) (m_told M) (m_s M)) (x y : Int32) : AskR S M (F_X4_cover S x y) (F_X5_cover M x y) := by
  have no : AskR S M (J_X4_cover_17 S) (J_X5_cover_23 (mB M) x y) := by
    unfold J_X4_cover_17 J_X5_cover_23 J_X5_cover_28
    rw [X_none, bs, M_ref1 (mB_tr M) (by decide), bs, if_neg (show ¬ (1 : Int32) = 0 by decide), m1L]
    exact ask_no _ _
  unfold F_X4_cover F_X5_cover
  rw [M_begins, bs]
  rcases A_ship h x with ⟨e1, e2⟩ | ⟨N, K, c, a, hT, hR, hO, ha, rfl, e1, e2⟩
  · rw [e1, e2, bs, bs, if_pos rfl, if_pos rfl]
    exact no
  · rw [e1, e2, bs, bs, if_neg n10, if_neg n10, show F_X5_in y.toInt64 0 1 = F_X4_within y 0 1 from M_in y 1]
    rcases W_cases y (b := 1) (by omega) with e | ⟨e, b, hb, rfl⟩
    · have e' : F_X4_within y 0 1 = some 0 := e
      rw [e', bs, bs, if_pos rfl, if_pos rfl]
      exact no
    · have e' : F_X4_within (nI b) 0 1 = some 1 := e
      rw [e', bs, bs, if_neg n10, if_neg n10, X_accept, bs]
      obtain ⟨wt, lk, hW, er⟩ := X_reckon (S := xT S 0) hT hO
      obtain ⟨o2, u2, p2, el, hP⟩ := M_lp hR hO
      have hR2 : RowR (m_s (mB M)) N K c := hR
      have hTx : RowT (x_now (xT S 0)) N K c := hT
      have e3 : F_X5_ofShip (m_s (mB M)) (nI a) 3 = some (nI (c (10 + 6 * a + 3))) := Sh hR2 hO ha (w := 3) (by decide)
      have hb3 := (hO.2.2.1 a ha).2.2.2.2.1
      have h1 := ppN_le hO a
      have h2 := paid_le hO ha
      unfold J_X5_cover_28
      rw [er, bs, xK_k, C_coveredOf hTx hO ha, bs, M_ref0 (mB_tr M), bs, if_pos rfl, el, bs, M_paidBy hO hP ha, bs, M_coverLoop hR2 hO hP ha, show (3 : Int64) = lN 3 from rfl, lN_mul, show (4 : Int64) = lN 4 from rfl, dvL_N (by omega) (by omega) (by omega), bs, sc_s, e3, bs, nI_l (by omega), lN_mul, dvL_N (by omega) (by omega) (by omega), bs, M_lesser (by omega) (by omega), bs]
      by_cases h0 : b = 0
      · subst h0
        rw [if_pos nI_0, if_pos nI_0]
        exact ask_full _ _ _ _ _ _
      · rw [if_neg (nI_ne0 (by omega) (by omega)), if_neg (nI_ne0 (by omega) (by omega)), C_paidByShip hO ha, bs, M_paidBy hO hP ha, bs]
        exact ask_full _ _ _ _ _ _
end ASKF
end
section
/-! ===== level 2: the case under other laws ===== -/
def cL (c : Nat → Nat) (d : Nat) : Nat → Nat := fun z => if z = 2 then d % 2 else if z = 3 then d / 2 % 2 else if z = 4 then d / 4 % 2 else c z
section LAWS
variable {S : XS} {M : MS} {N K : Nat} {c : Nat → Nat}
theorem cL_far {d z : Nat} (h : 5 ≤ z) : cL c d z = c z := by
  unfold cL
  rw [if_neg (by omega), if_neg (by omega), if_neg (by omega)]
theorem cL_1 {d z : Nat} (h : z < 2) : cL c d z = c z := by
  unfold cL
  rw [if_neg (by omega), if_neg (by omega), if_neg (by omega)]
theorem cL_2 {d : Nat} : cL c d 2 = d % 2 := rfl
theorem cL_3 {d : Nat} : cL c d 3 = d / 2 % 2 := rfl
theorem cL_4 {d : Nat} : cL c d 4 = d / 4 % 2 := rfl
theorem cL_OK (hO : OKc N K c) (d : Nat) : OKc N K (cL c d) := by
  obtain ⟨h1, h2, h3, h4, h5⟩ := hO
  refine ⟨h1, ⟨?_, ?_, ?_, ?_⟩, ?_, ?_, ?_⟩
  · rw [cL_2]
    omega
  · rw [cL_3]
    omega
  · rw [cL_4]
    omega
  · rw [cL_far (show 5 ≤ 5 by omega), cL_far (show 5 ≤ 6 by omega), cL_far (show 5 ≤ 7 by omega), cL_far (show 5 ≤ 8 by omega), cL_far (show 5 ≤ 9 by omega)]
    exact h2.2.2.2
  · intro i hi
    rw [cL_far (show 5 ≤ 10 + 6 * i by omega), cL_far (show 5 ≤ 10 + 6 * i + 1 by omega), cL_far (show 5 ≤ 10 + 6 * i + 2 by omega), cL_far (show 5 ≤ 10 + 6 * i + 3 by omega), cL_far (show 5 ≤ 10 + 6 * i + 4 by omega), cL_far (show 5 ≤ 10 + 6 * i + 5 by omega)]
    exact h3 i hi
  · exact (sN_eq fun i _ => cL_far (z := 10 + 6 * i + 1) (by omega)).trans h4
  · intro k hk
    rw [cL_far (show 5 ≤ 34 + 4 * k by omega), cL_far (show 5 ≤ 34 + 4 * k + 1 by omega), cL_far (show 5 ≤ 34 + 4 * k + 2 by omega), cL_far (show 5 ≤ 34 + 4 * k + 3 by omega)]
    exact h5 k hk
theorem cL_on (d k : Nat) : onI (cL c d) k = onI c k := by
  unfold onI
  rw [cL_far (show 5 ≤ 34 + 4 * k by omega), cL_far (show 5 ≤ 34 + 4 * k + 1 by omega)]
theorem cL_T {T : TS} (hT : RowT T N K c) (d : Nat) : RowT (ts_laws T (upI (upI (upI (t_laws T) 2 (nI (d % 2))) 3 (nI (d / 2 % 2))) 4 (nI (d / 4 % 2)))) N K (cL c d) := by
  obtain ⟨h1, h2, h3, h4, h5⟩ := hT
  refine ⟨h1, h2, ?_, ?_, ?_⟩
  · intro w hw hw2
    show exI (upI (upI (upI (t_laws T) 2 (nI (d % 2))) 3 (nI (d / 2 % 2))) 4 (nI (d / 4 % 2))) w = _
    rw [exI_up _ (by omega), exI_up _ (by omega), exI_up _ (by omega)]
    by_cases e4 : w = 4
    · subst e4
      rw [if_pos rfl, cL_4]
    · rw [if_neg e4]
      by_cases e3 : w = 3
      · subst e3
        rw [if_pos rfl, cL_3]
      · rw [if_neg e3]
        by_cases e2 : w = 2
        · subst e2
          rw [if_pos rfl, cL_2]
        · rw [if_neg e2, h3 w hw hw2, cL_far (by omega)]
  · intro i hi w hw
    rw [cL_far (by omega)]
    exact h4 i hi w hw
  · intro k hk
    refine ⟨fun w hw hw1 => ?_, ?_⟩
    · rw [cL_far (by omega)]
      exact (h5 k hk).1 w hw hw1
    · rw [cL_on]
      exact (h5 k hk).2
theorem cL_R {r : Fin 82 → Int32} (hR : RowR r N K c) (d : Nat) : RowR (upI (upI (upI r 2 (nI (d % 2))) 3 (nI (d / 2 % 2))) 4 (nI (d / 4 % 2))) N K (cL c d) := by
  obtain ⟨h1, h2, h3, h4, h5⟩ := hR
  have far : ∀ z, (z < 2 ∨ 5 ≤ z) → exI (upI (upI (upI r 2 (nI (d % 2))) 3 (nI (d / 2 % 2))) 4 (nI (d / 4 % 2))) z = exI r z := fun z hz => by
    rw [exI_up _ (by omega), exI_up _ (by omega), exI_up _ (by omega), if_neg (by omega), if_neg (by omega), if_neg (by omega)]
  refine ⟨(far 0 (by omega)).trans h1, (far 1 (by omega)).trans h2, ?_, ?_, ?_⟩
  · intro w hw hw2
    by_cases hf : 5 ≤ w
    · rw [far w (Or.inr hf), h3 w hw hw2, cL_far hf]
    · rw [exI_up _ (by omega), exI_up _ (by omega), exI_up _ (by omega)]
      by_cases e4 : w = 4
      · subst e4
        rw [if_pos rfl, cL_4]
      · rw [if_neg e4]
        by_cases e3 : w = 3
        · subst e3
          rw [if_pos rfl, cL_3]
        · rw [if_neg e3]
          have e2 : w = 2 := by omega
          subst e2
          rw [if_pos rfl, cL_2]
  · intro i hi w hw
    rw [far _ (by omega), cL_far (by omega)]
    exact h4 i hi w hw
  · intro k hk
    refine ⟨fun w hw hw1 => ?_, ?_⟩
    · rw [far _ (by omega), cL_far (by omega)]
      exact (h5 k hk).1 w hw hw1
    · rw [far _ (by omega), cL_on]
      exact (h5 k hk).2
theorem bit0 {d : Nat} (h : d < 8) : nI d &&& (1 : Int32) = nI (d % 2) := by
  rcases (show d = 0 ∨ d = 1 ∨ d = 2 ∨ d = 3 ∨ d = 4 ∨ d = 5 ∨ d = 6 ∨ d = 7 by omega) with h | h | h | h | h | h | h | h <;> subst h <;> decide
theorem bit1 {d : Nat} (h : d < 8) : (nI d >>> ((1 : Int32) &&& 31)) &&& (1 : Int32) = nI (d / 2 % 2) := by
  rcases (show d = 0 ∨ d = 1 ∨ d = 2 ∨ d = 3 ∨ d = 4 ∨ d = 5 ∨ d = 6 ∨ d = 7 by omega) with h | h | h | h | h | h | h | h <;> subst h <;> decide
theorem bit2 {d : Nat} (h : d < 8) : (nI d >>> ((2 : Int32) &&& 31)) &&& (1 : Int32) = nI (d / 4 % 2) := by
  rcases (show d = 0 ∨ d = 1 ∨ d = 2 ∨ d = 3 ∨ d = 4 ∨ d = 5 ∨ d = 6 ∨ d = 7 by omega) with h | h | h | h | h | h | h | h <;> subst h <;> decide
theorem bit0' {d : Nat} (h : d < 8) : (nI d >>> ((0 : Int32) &&& 31)) &&& (1 : Int32) = nI (d % 2) := by
  rcases (show d = 0 ∨ d = 1 ∨ d = 2 ∨ d = 3 ∨ d = 4 ∨ d = 5 ∨ d = 6 ∨ d = 7 by omega) with h | h | h | h | h | h | h | h <;> subst h <;> decide
end LAWS
end
section
/-! ===== level 2: the net by other laws, on both sides ===== -/
section NETBY
variable {S : XS} {M : MS} {N K : Nat} {c : Nat → Nat}
theorem rs_two (R : RS) (a b : TS) : rs_told (rs_told R a) b = rs_told R b := rfl
theorem rs_t (R : RS) (a : TS) : r_told (rs_told R a) = a := rfl
theorem ts_two (T : TS) (a b : Fin 10 → Int32) : ts_laws (ts_laws T a) b = ts_laws T b := rfl
theorem ts_l (T : TS) (a : Fin 10 → Int32) : t_laws (ts_laws T a) = a := rfl
def tL (T : TS) (d : Nat) : TS := ts_laws T (upI (upI (upI (t_laws T) 2 (nI (d % 2))) 3 (nI (d / 2 % 2))) 4 (nI (d / 4 % 2)))
def rL3 (r : Fin 82 → Int32) (d : Nat) : Fin 82 → Int32 := upI (upI (upI r 2 (nI (d % 2))) 3 (nI (d / 2 % 2))) 4 (nI (d / 4 % 2))
theorem X_settle {T : TS} (R : RS) (hT : RowT T N K c) (hO : OKc N K c) : ∃ wt lk, WtOK N c wt ∧ F_X1_settle (rs_told R T) = some (stl T wt lk N K c) := by
  obtain ⟨wt, lk, hW, e⟩ := C_settle (wt := r_weight R) (bk := r_backs R) hT hO (r_lacked R) (r_owed R) (r_paid R) (r_weights R)
  exact ⟨wt, lk, hW, (congrArg F_X1_settle (rk_of R T)).trans e⟩
theorem X_netUnder (hT : RowT (x_now S) N K c) (hO : OKc N K c) {a d : Nat} (ha : a < N) (hd : d < 8) : ∃ R, F_X4_netUnder S (nI a) (nI d) = some (ntL N K (cL c d) a, xs_reckoning S R) := by
  obtain ⟨wt, lk, hW, e⟩ := X_settle (x_reckoning S) (cL_T hT d) (cL_OK hO d)
  refine ⟨stl (ts_laws (x_now S) (upI (upI (upI (t_laws (x_now S)) 2 (nI (d % 2))) 3 (nI (d / 2 % 2))) 4 (nI (d / 4 % 2)))) wt lk N K (cL c d), ?_⟩
  · unfold F_X4_netUnder F_X1_take
    rw [C_copy, bs, nm_eq, bs, nm_eq, xK_k, rs_t, bit0 hd, show (2 : Int32) = nI 2 from rfl, wI _ (by omega) (by omega), bs, nm_eq, xK_two, rs_two, xK_k, rs_t, ts_l, show (nI d >>> ((1 : Int32) &&& 31)) &&& (1 : Int32) = nI (d / 2 % 2) from bit1 hd, show (3 : Int32) = nI 3 from rfl, wI _ (by omega) (by omega), bs, nm_eq, xK_two, rs_two, ts_two, xK_k, rs_t, ts_l, show (nI d >>> (nI 2 &&& 31)) &&& (1 : Int32) = nI (d / 4 % 2) from bit2 hd, show (4 : Int32) = nI 4 from rfl, wI _ (by omega) (by omega), bs, nm_eq, xK_two, rs_two, ts_two, xK_k, e, bs, nm_eq, xK_two, xK_k, C_netOf (cL_T hT d) (cL_OK hO d) hW ha, bs]
theorem M_netWith (hR : RowR (m_s M) N K c) (hO : OKc N K c) {a d : Nat} (ha : a < N) (hd : d < 8) : ∃ w o u p, F_X5_netWith (mB M) (nI a) (nI d) = some (ntL N K (cL c d) a, sc (mB M) w o u p) := by
  have el := M_lays (M := mB M) (w := m_w (mB M)) (o := m_owed (mB M)) (u := m_out (mB M)) (p := m_paid (mB M))
  rw [sc_self] at el
  have hR3 : RowR (rL3 (m_s M) d) N K (cL c d) := cL_R hR d
  obtain ⟨o2, u2, p2, e, hP⟩ := M_paysAll (M := mB M) (p := m_paid (mB M)) hR3 (cL_OK hO d) (m_owed (mB M)) (m_out (mB M))
  refine ⟨rL3 (m_s M) d, o2, u2, p2, ?_⟩
  have st : ∀ (j : Nat) (_ : j < 3) (v : Nat) (_ : (nI d >>> (nI j &&& 31)) &&& (1 : Int32) = nI v) (k9 : MS → Option (Int64 × MS)) rc (w : Fin 82 → Int32) (o u : Fin 16 → Int64) (p : Fin 64 → Int64), B_X5_netWith_6 (nI a) (nI d) k9 rc (sc (mB M) w o u p) (nI j) = rc (sc (mB M) (upI w (2 + j) (nI v)) o u p) (nI (j + 1)) := by
    intro j hj v hv k9 rc w o u p
    unfold B_X5_netWith_6
    rw [show (3 : Int32) = nI 3 from rfl, if_neg (by rw [nI_leI (by omega) (by omega)]; omega), hv, sc_w, show (2 : Int32) = nI 2 from rfl, nI_add, wI w (by omega) (by omega), bs, nm_eq, sc_sw, nm_eq, nI_1]
  unfold F_X5_netWith
  rw [el, bs, FU_eq]
  refine ((lo2_s _ 999 _ _).trans (st 0 (by omega) (d % 2) (bit0' hd) _ _ _ _ _ _)).trans ?_
  refine ((lo2_s _ 998 _ _).trans (st 1 (by omega) (d / 2 % 2) (bit1 hd) _ _ _ _ _ _)).trans ?_
  refine ((lo2_s _ 997 _ _).trans (st 2 (by omega) (d / 4 % 2) (bit2 hd) _ _ _ _ _ _)).trans ?_
  refine (lo2_s _ 996 _ _).trans ?_
  have key : ∀ (k9 : MS → Option (Int64 × MS)) rc S2, B_X5_netWith_6 (nI a) (nI d) k9 rc S2 (nI (2 + 1)) = k9 S2 := by
    intro k9 rc S2
    unfold B_X5_netWith_6
    rw [if_pos (by decide)]
  rw [key]
  have e' : F_X5_paysAll (sc (mB M) (upI (upI (upI (m_s (mB M)) (2 + 0) (nI (d % 2))) (2 + 1) (nI (d / 2 % 2))) (2 + 2) (nI (d / 4 % 2))) (m_owed (mB M)) (m_out (mB M)) (m_paid (mB M))) = some (sc (mB M) (rL3 (m_s M) d) o2 u2 p2) := e
  rw [e', bs, M_netOf hR3 (cL_OK hO d) hP ha, bs]
theorem A_netBy (h : Core (x_now S) (m_told M) (m_s M)) (x y : Int32) : AskR S M (F_X4_netBy S x y) (F_X5_netBy M x y) := by
  unfold F_X4_netBy F_X5_netBy J_X5_netBy_18
  rw [M_begins, bs]
  rcases A_ship h x with ⟨e1, e2⟩ | ⟨N, K, c, a, hT, hR, hO, ha, rfl, e1, e2⟩
  · unfold J_X5_netBy_50
    rw [e1, e2, bs, bs, if_pos rfl, if_pos rfl, X_nothing, bs, M_ref1 (mB_tr M) (by decide), bs, if_neg (show ¬ (1 : Int32) = 0 by decide)]
    exact ask_no _ _
  · rw [e1, e2, bs, bs, if_neg n10, if_neg n10, M_ref0 (mB_tr M), bs, if_pos rfl, show F_X5_in y.toInt64 0 7 = F_X4_within y 0 7 from M_in y 7]
    unfold J_X5_netBy_43 J_X5_netBy_50
    rcases W_cases y (b := 7) (by omega) with e | ⟨e, d, hd, rfl⟩
    · have e' : F_X4_within y 0 7 = some 0 := e
      rw [e', bs, bs, if_pos rfl, if_pos rfl, X_nothing, bs, M_ref1 (mB_tr M) (by decide), bs, if_neg (show ¬ (1 : Int32) = 0 by decide)]
      exact ask_no _ _
    · have e' : F_X4_within (nI d) 0 7 = some 1 := e
      have hTx : RowT (x_now (xT S 0)) N K c := hT
      obtain ⟨R, en⟩ := X_netUnder (S := xT S 0) hTx hO ha (show d < 8 by omega)
      obtain ⟨w, o, u, p, em⟩ := M_netWith (M := M) hR hO ha (show d < 8 by omega)
      rw [e', bs, bs, if_neg n10, if_neg n10, X_accept, bs, en, bs, M_ref0 (mB_tr M), bs, if_pos rfl, em, bs]
      exact ask_full _ _ _ _ _ _
end NETBY
end
section
/-! ===== level 2: wished, gap ===== -/
section WISH
variable {S : XS} {M : MS} {N K : Nat} {c : Nat → Nat}
theorem M_netWith2 (hR : RowR (m_s M) N K c) (hO : OKc N K c) {a d : Nat} (ha : a < N) (hd : d < 8) (w : Fin 82 → Int32) (o u : Fin 16 → Int64) (p : Fin 64 → Int64) : ∃ w2 o2 u2 p2, F_X5_netWith (sc (mB M) w o u p) (nI a) (nI d) = some (ntL N K (cL c d) a, sc (mB M) w2 o2 u2 p2) := by
  have el := M_lays (M := mB M) (w := w) (o := o) (u := u) (p := p)
  have hR3 : RowR (rL3 (m_s M) d) N K (cL c d) := cL_R hR d
  obtain ⟨o2, u2, p2, e, hP⟩ := M_paysAll (M := mB M) (p := p) hR3 (cL_OK hO d) o u
  refine ⟨rL3 (m_s M) d, o2, u2, p2, ?_⟩
  have st : ∀ (j : Nat) (_ : j < 3) (v : Nat) (_ : (nI d >>> (nI j &&& 31)) &&& (1 : Int32) = nI v) (k9 : MS → Option (Int64 × MS)) rc (w : Fin 82 → Int32) (o u : Fin 16 → Int64) (p : Fin 64 → Int64), B_X5_netWith_6 (nI a) (nI d) k9 rc (sc (mB M) w o u p) (nI j) = rc (sc (mB M) (upI w (2 + j) (nI v)) o u p) (nI (j + 1)) := by
    intro j hj v hv k9 rc w o u p
    unfold B_X5_netWith_6
    rw [show (3 : Int32) = nI 3 from rfl, if_neg (by rw [nI_leI (by omega) (by omega)]; omega), hv, sc_w, show (2 : Int32) = nI 2 from rfl, nI_add, wI w (by omega) (by omega), bs, nm_eq, sc_sw, nm_eq, nI_1]
  unfold F_X5_netWith
  rw [el, bs, FU_eq]
  refine ((lo2_s _ 999 _ _).trans (st 0 (by omega) (d % 2) (bit0' hd) _ _ _ _ _ _)).trans ?_
  refine ((lo2_s _ 998 _ _).trans (st 1 (by omega) (d / 2 % 2) (bit1 hd) _ _ _ _ _ _)).trans ?_
  refine ((lo2_s _ 997 _ _).trans (st 2 (by omega) (d / 4 % 2) (bit2 hd) _ _ _ _ _ _)).trans ?_
  refine (lo2_s _ 996 _ _).trans ?_
  have key : ∀ (k9 : MS → Option (Int64 × MS)) rc S2, B_X5_netWith_6 (nI a) (nI d) k9 rc S2 (nI (2 + 1)) = k9 S2 := by
    intro k9 rc S2
    unfold B_X5_netWith_6
    rw [if_pos (by decide)]
  rw [key]
  have e' : F_X5_paysAll (sc (mB M) (upI (upI (upI (m_s (mB M)) (2 + 0) (nI (d % 2))) (2 + 1) (nI (d / 2 % 2))) (2 + 2) (nI (d / 4 % 2))) o u p) = some (sc (mB M) (rL3 (m_s M) d) o2 u2 p2) := e
  rw [e', bs, M_netOf hR3 (cL_OK hO d) hP ha, bs]
theorem X_netUnder2 (hT : RowT (x_now S) N K c) (hO : OKc N K c) {a d : Nat} (ha : a < N) (hd : d < 8) (R : RS) : ∃ R2, F_X4_netUnder (xs_reckoning S R) (nI a) (nI d) = some (ntL N K (cL c d) a, xs_reckoning S R2) := by
  have hT2 : RowT (x_now (xs_reckoning S R)) N K c := hT
  obtain ⟨R2, e⟩ := X_netUnder hT2 hO ha hd
  exact ⟨R2, e.trans (by rw [xK_two])⟩
/-- the two loops over the laws keep step -/
theorem wish_loop (hT : RowT (x_now S) N K c) (hR : RowR (m_s M) N K c) (hO : OKc N K c) {a : Nat} (ha : a < N) : ∀ (n j fu : Nat), j + n = 8 → n < fu → ∀ (R : RS) (w : Fin 82 → Int32) (o u : Fin 16 → Int64) (p : Fin 64 → Int64) (x : Int32) (v : Int64), ∃ z R2 w2 o2 u2 p2,
    lo4 (B_X4_wished_30 (nI a) (fun S6 z7 => some (z7, S6))) fu (xs_reckoning (xT S 0) R) x v (nI j) = some (z, xs_reckoning (xT S 0) R2) ∧
    lo4 (B_X5_wished_39 (nI a) (fun S7 z8 => some (z8, S7))) fu (sc (mB M) w o u p) x v (nI j) = some (z, sc (mB M) w2 o2 u2 p2) := by
  intro n
  induction n with
  | zero =>
    intro j fu hj hf R w o u p x v
    obtain ⟨fu, rfl⟩ : ∃ f, fu = f + 1 := ⟨fu - 1, by omega⟩
    have hj : j = 8 := by omega
    subst hj
    have k1 : ∀ (k9 : XS → Int32 → Option (Int32 × XS)) rc S2, B_X4_wished_30 (nI a) k9 rc S2 x v (nI 8) = k9 S2 x := by
      intro k9 rc S2
      unfold B_X4_wished_30
      rw [if_pos (by decide)]
    have k2 : ∀ (k9 : MS → Int32 → Option (Int32 × MS)) rc S2, B_X5_wished_39 (nI a) k9 rc S2 x v (nI 8) = k9 S2 x := by
      intro k9 rc S2
      unfold B_X5_wished_39
      rw [if_pos (by decide)]
    exact ⟨x, R, w, o, u, p, (lo4_s _ _ _ _ _ _).trans (k1 _ _ _), (lo4_s _ _ _ _ _ _).trans (k2 _ _ _)⟩
  | succ n ih =>
    intro j fu hj hf R w o u p x v
    obtain ⟨fu, rfl⟩ : ∃ f, fu = f + 1 := ⟨fu - 1, by omega⟩
    have hTx : RowT (x_now (xT S 0)) N K c := hT
    obtain ⟨R2, e1⟩ := X_netUnder2 (S := xT S 0) hTx hO ha (show j < 8 by omega) R
    obtain ⟨w2, o2, u2, p2, e2⟩ := M_netWith2 (M := M) hR hO ha (show j < 8 by omega) w o u p
    have h8 : ¬ (8 : Int32) ≤ nI j := by
      rw [show (8 : Int32) = nI 8 from rfl, nI_leI (by omega) (by omega)]
      omega
    by_cases hc : lg_cmp (ntL N K (cL c j) a) v ≤ 0
    · obtain ⟨z, R3, w3, o3, u3, p3, f1, f2⟩ := ih (j + 1) fu (by omega) (by omega) R2 w2 o2 u2 p2 x v
      have k1 : ∀ (k9 : XS → Int32 → Option (Int32 × XS)) rc, B_X4_wished_30 (nI a) k9 rc (xs_reckoning (xT S 0) R) x v (nI j) = rc (xs_reckoning (xT S 0) R2) x v (nI (j + 1)) := by
        intro k9 rc
        unfold B_X4_wished_30 J_X4_wished_59
        rw [if_neg h8, e1, bs, if_pos hc, nm_eq, nI_1]
      have k2 : ∀ (k9 : MS → Int32 → Option (Int32 × MS)) rc, B_X5_wished_39 (nI a) k9 rc (sc (mB M) w o u p) x v (nI j) = rc (sc (mB M) w2 o2 u2 p2) x v (nI (j + 1)) := by
        intro k9 rc
        unfold B_X5_wished_39 J_X5_wished_68
        rw [if_neg h8, e2, bs, if_pos hc, nm_eq, nI_1]
      exact ⟨z, R3, w3, o3, u3, p3, ((lo4_s _ _ _ _ _ _).trans (k1 _ _)).trans f1, ((lo4_s _ _ _ _ _ _).trans (k2 _ _)).trans f2⟩
    · obtain ⟨z, R3, w3, o3, u3, p3, f1, f2⟩ := ih (j + 1) fu (by omega) (by omega) R2 w2 o2 u2 p2 (nI j) (ntL N K (cL c j) a)
      have k1 : ∀ (k9 : XS → Int32 → Option (Int32 × XS)) rc, B_X4_wished_30 (nI a) k9 rc (xs_reckoning (xT S 0) R) x v (nI j) = rc (xs_reckoning (xT S 0) R2) (nI j) (ntL N K (cL c j) a) (nI (j + 1)) := by
        intro k9 rc
        unfold B_X4_wished_30 J_X4_wished_59
        rw [if_neg h8, e1, bs, if_neg hc, nm_eq, nI_1]
      have k2 : ∀ (k9 : MS → Int32 → Option (Int32 × MS)) rc, B_X5_wished_39 (nI a) k9 rc (sc (mB M) w o u p) x v (nI j) = rc (sc (mB M) w2 o2 u2 p2) (nI j) (ntL N K (cL c j) a) (nI (j + 1)) := by
        intro k9 rc
        unfold B_X5_wished_39 J_X5_wished_68
        rw [if_neg h8, e2, bs, if_neg hc, nm_eq, nI_1]
      exact ⟨z, R3, w3, o3, u3, p3, ((lo4_s _ _ _ _ _ _).trans (k1 _ _)).trans f1, ((lo4_s _ _ _ _ _ _).trans (k2 _ _)).trans f2⟩
theorem A_wished (h : Core (x_now S) (m_told M) (m_s M)) (x : Int32) : AskR S M (F_X4_wished S x) (F_X5_wished M x) := by
  unfold F_X4_wished F_X5_wished J_X5_wished_18
  rw [M_begins, bs]
  rcases A_ship h x with ⟨e1, e2⟩ | ⟨N, K, c, a, hT, hR, hO, ha, rfl, e1, e2⟩
  · rw [e1, e2, bs, bs, if_pos rfl, if_pos rfl, X_none, bs, M_ref1 (mB_tr M) (by decide), bs, if_neg (show ¬ (1 : Int32) = 0 by decide)]
    exact ask_no _ _
  · have hTx : RowT (x_now (xT S 0)) N K c := hT
    obtain ⟨R, en⟩ := X_netUnder (S := xT S 0) hTx hO ha (show 0 < 8 by omega)
    obtain ⟨w, o, u, p, em⟩ := M_netWith (M := M) hR hO ha (show 0 < 8 by omega)
    have en' : F_X4_netUnder (xT S 0) (nI a) 0 = _ := en
    have em' : F_X5_netWith (mB M) (nI a) 0 = _ := em
    obtain ⟨z, R2, w2, o2, u2, p2, f1, f2⟩ := wish_loop (S := S) (M := M) hT hR hO ha 7 1 FU (by omega) (by rw [FU_eq]; omega) R w o u p 0 (ntL N K (cL c 0) a)
    have f1' : lo4 (B_X4_wished_30 (nI a) (fun S6 z7 => some (z7, S6))) FU (xs_reckoning (xT S 0) R) 0 (ntL N K (cL c 0) a) 1 = _ := f1
    have f2' : lo4 (B_X5_wished_39 (nI a) (fun S7 z8 => some (z8, S7))) FU (sc (mB M) w o u p) 0 (ntL N K (cL c 0) a) 1 = _ := f2
    rw [e1, e2, bs, bs, if_neg n10, if_neg n10, X_accept, bs, en', bs, f1', M_ref0 (mB_tr M), bs, if_pos rfl, em', bs, f2']
    exact ask_full _ _ _ _ _ _
theorem A_gap (h : Core (x_now S) (m_told M) (m_s M)) (x : Int32) : AskR S M (F_X4_gap S x) (F_X5_gap M x) := by
  unfold F_X4_gap F_X5_gap J_X5_gap_18
  rw [M_begins, bs]
  rcases A_ship h x with ⟨e1, e2⟩ | ⟨N, K, c, a, hT, hR, hO, ha, rfl, e1, e2⟩
  · rw [e1, e2, bs, bs, if_pos rfl, if_pos rfl, X_nothing, bs, M_ref1 (mB_tr M) (by decide), bs, if_neg (show ¬ (1 : Int32) = 0 by decide)]
    exact ask_no _ _
  · have hl := hO.2.1
    have hTx : RowT (x_now (xT S 0)) N K c := hT
    have t2 : rdI (t_laws (x_now (xT S 0))) 2 = some (nI (c 2)) := C_law hTx (w := 2) (by decide) (by decide)
    have t3 : rdI (t_laws (x_now (xT S 0))) 3 = some (nI (c 3)) := C_law hTx (w := 3) (by decide) (by decide)
    have r2 : rdI (m_s M) 2 = some (nI (c 2)) := by
      rw [show (2 : Int32) = nI 2 from rfl, rI _ (by omega) (by omega), hR.2.2.1 2 (by omega) (by omega)]
    have r3 : rdI (m_s M) 3 = some (nI (c 3)) := by
      rw [show (3 : Int32) = nI 3 from rfl, rI _ (by omega) (by omega), hR.2.2.1 3 (by omega) (by omega)]
    have hv : nI (c 2) + (2 : Int32) * nI (c 3) = nI (c 2 + 2 * c 3) := by
      rw [show (2 : Int32) = nI 2 from rfl, pk_mul, nI_add]
    have hv4 : nI (c 2 + 2 * c 3) + (4 : Int32) = nI (c 2 + 2 * c 3 + 4) := nI_add _ 4
    obtain ⟨R, en⟩ := X_netUnder (S := xT S 0) hTx hO ha (show c 2 + 2 * c 3 + 4 < 8 by omega)
    obtain ⟨R2, en2⟩ := X_netUnder2 (S := xT S 0) hTx hO ha (show c 2 + 2 * c 3 < 8 by omega) R
    obtain ⟨w, o, u, p, em⟩ := M_netWith (M := M) hR hO ha (show c 2 + 2 * c 3 + 4 < 8 by omega)
    obtain ⟨w2, o2, u2, p2, em2⟩ := M_netWith2 (M := M) hR hO ha (show c 2 + 2 * c 3 < 8 by omega) w o u p
    rw [e1, e2, bs, bs, if_neg n10, if_neg n10, X_accept, bs, t2, bs, t3, bs, nm_eq, hv, hv4, en, bs, en2, bs, M_ref0 (mB_tr M), bs, if_pos rfl, mB_s, r2, bs, r3, bs, nm_eq, hv, hv4, em, bs, em2, bs]
    exact ask_full _ _ _ _ _ _
end WISH
end
section
/-! ===== level 2: enough ===== -/
def mxN (f : Nat → Nat) : Nat → Nat
  | 0 => 0
  | n + 1 => max (mxN f n) (f n)
theorem mxN_s (f : Nat → Nat) (n : Nat) : mxN f (n + 1) = max (mxN f n) (f n) := rfl
theorem mxN_mem (f : Nat → Nat) {i : Nat} : ∀ {n : Nat}, i < n → f i ≤ mxN f n
  | 0, h => absurd h (Nat.not_lt_zero i)
  | n + 1, h => by
    rw [mxN_s]
    rcases Nat.lt_or_ge i n with q | q
    · have := mxN_mem f q
      omega
    · have e : i = n := by omega
      rw [e]
      omega
theorem mxN_bd (f : Nat → Nat) {b : Nat} : ∀ {n : Nat}, (∀ i, i < n → f i ≤ b) → mxN f n ≤ b
  | 0, _ => Nat.zero_le _
  | n + 1, h => by
    have h1 := mxN_bd f (n := n) (fun i hi => h i (by omega))
    have h2 := h n (by omega)
    rw [mxN_s]
    omega
section ENOUGH
variable {S : XS} {M : MS} {N K : Nat} {c : Nat → Nat}
theorem ndN_le2 (hO : OKc N K c) {i : Nat} (hi : i < N) : ndN N K c i ≤ 2000000000 := by
  have hN := hO.1
  have h1 : sN (fun j => lwN N K c i j) N ≤ N * 129999987 := sN_bd fun j hj => lwN_le hO hi hj
  have h2 : sN (fun k => dN N c i k - lvU N K c i (4 + k)) K ≤ K * 9999999 := sN_bd fun k hk => by
    have a1 := dN_le hO hi hk
    have a2 := (hO.2.2.2.2 k hk).2.2.2.1
    show dN N c i k - lvU N K c i (4 + k) ≤ 9999999
    omega
  have h3 : N * 129999987 ≤ 4 * 129999987 := Nat.mul_le_mul_right _ hN.2.1
  have h4 : K * 9999999 ≤ 12 * 9999999 := Nat.mul_le_mul_right _ hN.2.2
  unfold ndN
  omega
theorem rnN_le (hO : OKc N K c) {i : Nat} (hi : i < N) : rnN N K c i ≤ 4000000000 := by
  have h1 := ndN_le2 hO hi
  have h2 := hO.2.2.1 i hi
  have h3 := hO.2.1
  unfold rnN
  split
  · omega
  · exact Nat.le_trans (Nat.div_le_self _ _) (by omega)
theorem enough_M {M2 : MS} {w : Fin 82 → Int32} {p : Fin 64 → Int64} (hR : RowR w N K c) (hO : OKc N K c) : ∀ (n i fu : Nat), i + n = N → n < fu → mxN (rnN N K c) i ≤ 99999 → ∀ (o u : Fin 16 → Int64), ∃ o2 u2,
    lo3 (B_X5_enough_34 (fun S13 z14 => some (z14.toInt32, S13))) fu (sc M2 w o u p) (lN (mxN (rnN N K c) i)) (nI i) = some (if mxN (rnN N K c) N ≤ 99999 then (lN (mxN (rnN N K c) N)).toInt32 else -2, sc M2 w o2 u2 p) := by
  have hN := hO.1
  intro n
  induction n with
  | zero =>
    intro i fu hi hf hm o u
    obtain ⟨fu, rfl⟩ : ∃ f, fu = f + 1 := ⟨fu - 1, by omega⟩
    have hi : i = N := by omega
    subst hi
    have key : ∀ (k9 : MS → Int64 → Option (Int32 × MS)) rc x, B_X5_enough_34 k9 rc (sc M2 w o u p) x (nI i) = k9 (sc M2 w o u p) x := by
      intro k9 rc x
      unfold B_X5_enough_34
      rw [sc_w, R0 hR, bs, if_pos (by rw [nI_leI (by omega) (by omega)]; omega)]
    refine ⟨o, u, ((lo3_s _ _ _ _ _).trans (key _ _ _)).trans ?_⟩
    rw [if_pos hm]
  | succ n ih =>
    intro i fu hi hf hm o u
    obtain ⟨fu, rfl⟩ : ∃ f, fu = f + 1 := ⟨fu - 1, by omega⟩
    have hiN : i < N := by omega
    have e5 : F_X5_ofShip w (nI i) 5 = some (nI (c (10 + 6 * i + 5))) := Sh hR hO hiN (w := 5) (by decide)
    have e0 : F_X5_ofShip w (nI i) 0 = some (nI (c (10 + 6 * i))) := Sh hR hO hiN (w := 0) (by decide)
    have e7 : rdI w 7 = some (nI (c 7)) := by
      rw [show (7 : Int32) = nI 7 from rfl, rI _ (by omega) (by omega), hR.2.2.1 7 (by omega) (by omega)]
    have hs := hO.2.2.1 i hiN
    have hl := hO.2.1
    have hstep : ¬ nI N ≤ nI i := by
      rw [nI_leI (by omega) (by omega)]
      omega
    by_cases h5 : c (10 + 6 * i + 5) = 1
    · have hr : rnN N K c i = 0 := by
        unfold rnN
        rw [if_pos h5]
      have hmx : mxN (rnN N K c) (i + 1) = mxN (rnN N K c) i := by
        rw [mxN_s, hr]
        omega
      obtain ⟨o2, u2, f⟩ := ih (i + 1) fu (by omega) (by omega) (by omega) o u
      have key : ∀ (k9 : MS → Int64 → Option (Int32 × MS)) rc x, B_X5_enough_34 k9 rc (sc M2 w o u p) x (nI i) = rc (sc M2 w o u p) x (nI (i + 1)) := by
        intro k9 rc x
        unfold B_X5_enough_34 J_X5_enough_130
        rw [sc_w, R0 hR, bs, if_neg hstep, e5, bs, if_pos (by rw [h5]; rfl), nm_eq, nI_1]
      rw [hmx] at f
      exact ⟨o2, u2, ((lo3_s _ _ _ _ _).trans (key _ _ _)).trans f⟩
    · have hr : rnN N K c i = (ndN N K c i + max (c (10 + 6 * i)) (c 7) - 1) / max (c (10 + 6 * i)) (c 7) := by
        unfold rnN
        rw [if_neg h5]
      have hrl := rnN_le hO hiN
      have hnd := ndN_le2 hO hiN
      obtain ⟨o1, u1, en⟩ := M_neededOf (M := M2) (w := w) (o := o) (u := u) (p := p) hR hO hiN
      have h2e9 : ¬ 0 < lg_cmp (lN (ndN N K c i)) 2000000000 := fun z => by
        have := (pk_lLT (a := 2000000000) (b := ndN N K c i) (by omega) (by omega)).mp ((lg_cmp_gt _ _).mp z)
        omega
      by_cases hq : rnN N K c i ≤ 99999
      · have hmx : mxN (rnN N K c) (i + 1) ≤ 99999 := by
          rw [mxN_s]
          omega
        obtain ⟨o2, u2, f⟩ := ih (i + 1) fu (by omega) (by omega) hmx o1 u1
        have key : ∀ (k9 : MS → Int64 → Option (Int32 × MS)) rc, B_X5_enough_34 k9 rc (sc M2 w o u p) (lN (mxN (rnN N K c) i)) (nI i) = rc (sc M2 w o1 u1 p) (lN (mxN (rnN N K c) (i + 1))) (nI (i + 1)) := by
          intro k9 rc
          unfold B_X5_enough_34 J_X5_enough_130
          rw [sc_w, R0 hR, bs, if_neg hstep, e5, bs, if_neg (nI_n1 h5 (by omega)), en, bs, sc_w, e0, bs, e7, bs, nI_l (by omega), nI_l (by omega), M_greater (by omega) (by omega), bs, lN_add, show (1 : Int64) = lN 1 from rfl, lN_sub (by omega), dvL_N (by omega) (by omega) (by omega), bs, ← hr, if_neg h2e9, show (99999 : Int64) = lN 99999 from rfl, if_pos ((lg_cmp_le _ _).mpr ((pk_lLE (b := 99999) (by omega) (by omega)).mpr hq)), M_greater (by omega) (by omega), bs, nm_eq, nI_1, mxN_s]
        exact ⟨o2, u2, ((lo3_s _ _ _ _ _).trans (key _ _)).trans f⟩
      · have hbig := mxN_mem (rnN N K c) hiN
        have key : ∀ (k9 : MS → Int64 → Option (Int32 × MS)) rc, B_X5_enough_34 k9 rc (sc M2 w o u p) (lN (mxN (rnN N K c) i)) (nI i) = some (-2, sc M2 w o1 u1 p) := by
          intro k9 rc
          unfold B_X5_enough_34 J_X5_enough_120
          rw [sc_w, R0 hR, bs, if_neg hstep, e5, bs, if_neg (nI_n1 h5 (by omega)), en, bs, sc_w, e0, bs, e7, bs, nI_l (by omega), nI_l (by omega), M_greater (by omega) (by omega), bs, lN_add, show (1 : Int64) = lN 1 from rfl, lN_sub (by omega), dvL_N (by omega) (by omega) (by omega), bs, ← hr, if_neg h2e9, show (99999 : Int64) = lN 99999 from rfl, if_neg (fun z => hq ((pk_lLE (b := 99999) (by omega) (by omega)).mp ((lg_cmp_le _ _).mp z)))]
        refine ⟨o1, u1, ((lo3_s _ _ _ _ _).trans (key _ _)).trans ?_⟩
        rw [if_neg (by omega)]
theorem mx_le (hO : OKc N K c) {n : Nat} (hn : n ≤ N) : mxN (rnN N K c) n ≤ 4000000000 := mxN_bd _ fun i hi => rnN_le hO (by omega)
theorem A_text (h : Core (x_now S) (m_told M) (m_s M)) : (F_X4_hasText S = some 0 ∧ m_told (mB M) = 0) ∨ (∃ N K c, RowT (x_now S) N K c ∧ RowR (m_s M) N K c ∧ OKc N K c ∧ F_X4_hasText S = some 1 ∧ ¬ m_told (mB M) = 0) := by
  unfold F_X4_hasText
  rcases h with ⟨h0, h1, h2⟩ | ⟨h0, N, K, c, hT, hR, hO⟩
  · rw [h1, if_pos (by decide)]
    exact Or.inl ⟨rfl, h0⟩
  · have hN := hO.1
    rw [hT.1, if_neg (nI_nle (by omega) (by omega))]
    exact Or.inr ⟨N, K, c, hT, hR, hO, rfl, h0⟩
theorem A_enough (h : Core (x_now S) (m_told M) (m_s M)) : AskR S M (F_X4_enough S) (F_X5_enough M) := by
  unfold F_X4_enough F_X5_enough J_X5_enough_17
  rw [M_begins, bs]
  rcases A_text h with ⟨e1, e2⟩ | ⟨N, K, c, hT, hR, hO, e1, e2⟩
  · rw [e1, bs, if_pos rfl, if_pos e2, X_none, bs, M_ref1 (mB_tr M) (by decide), bs, if_neg (show ¬ (1 : Int32) = 0 by decide)]
    exact ask_no _ _
  · have hN := hO.1
    have hTx : RowT (x_now (xT S 0)) N K c := hT
    have hR2 : RowR (m_s (mB M)) N K c := hR
    obtain ⟨wt, lk, hW, er⟩ := X_reckon (S := xT S 0) hTx hO
    have el := M_lays (M := mB M) (w := m_w (mB M)) (o := m_owed (mB M)) (u := m_out (mB M)) (p := m_paid (mB M))
    rw [sc_self] at el
    obtain ⟨o2, u2, f⟩ := enough_M (M2 := mB M) (p := m_paid (mB M)) hR2 hO N 0 FU (by omega) (by rw [FU_eq]; omega) (Nat.zero_le _) (m_owed (mB M)) (m_out (mB M))
    have f' : lo3 (B_X5_enough_34 (fun S13 z14 => some (z14.toInt32, S13))) FU (sc (mB M) (m_s (mB M)) (m_owed (mB M)) (m_out (mB M)) (m_paid (mB M))) 0 0 = _ := f
    have cls : ∀ (k9 : XS → Int64 → Option (Int32 × XS)), lo3 (B_X4_enough_25 k9) FU (xs_reckoning (xT S 0) (stl (x_now (xT S 0)) wt lk N K c)) 0 0 = k9 (xs_reckoning (xT S 0) (stl (x_now (xT S 0)) wt lk N K c)) (lN (mxN (rnN N K c) N)) := by
      intro k9
      refine loopR (fun fu i (_ : Unit) => lo3 (B_X4_enough_25 k9) fu (xs_reckoning (xT S 0) (stl (x_now (xT S 0)) wt lk N K c)) (lN (mxN (rnN N K c) i)) (nI i)) _ N (fun _ _ => True) ?_ ?_ N FU 0 () (by omega) (by rw [FU_eq]; omega) trivial
      · intro fu i _ hi _
        have h1 := rnN_le hO hi
        have h2 := mx_le hO (n := i) (by omega)
        have hts : t_ships (x_now (xT S 0)) = nI N := hTx.1
        have key : ∀ rc, B_X4_enough_25 k9 rc (xs_reckoning (xT S 0) (stl (x_now (xT S 0)) wt lk N K c)) (lN (mxN (rnN N K c) i)) (nI i) = rc (xs_reckoning (xT S 0) (stl (x_now (xT S 0)) wt lk N K c)) (lN (mxN (rnN N K c) (i + 1))) (nI (i + 1)) := by
          intro rc
          unfold B_X4_enough_25
          rw [xK_n, hts, if_neg (by rw [nI_leI (by omega) (by omega)]; omega), xK_k, C_rateNeeded hTx hO hi, bs, nm_eq, nm_eq, nI_1, mxN_s]
          by_cases hq : rnN N K c i < mxN (rnN N K c) i
          · rw [if_pos ((pk_lLT (by omega) (by omega)).mpr hq), show max (mxN (rnN N K c) i) (rnN N K c i) = mxN (rnN N K c) i by omega]
          · rw [if_neg (fun z => hq ((pk_lLT (by omega) (by omega)).mp z)), show max (mxN (rnN N K c) i) (rnN N K c i) = rnN N K c i by omega]
        exact ⟨(), trivial, (lo3_s _ _ _ _ _).trans (key _)⟩
      · intro fu _ _
        have hts : t_ships (x_now (xT S 0)) = nI N := hTx.1
        have key : ∀ rc x, B_X4_enough_25 k9 rc (xs_reckoning (xT S 0) (stl (x_now (xT S 0)) wt lk N K c)) x (nI N) = k9 (xs_reckoning (xT S 0) (stl (x_now (xT S 0)) wt lk N K c)) x := by
          intro rc x
          unfold B_X4_enough_25
          rw [xK_n, hts, if_pos (by rw [nI_leI (by omega) (by omega)]; omega)]
        exact (lo3_s _ _ _ _ _).trans (key _ _)
    have hmx := mx_le hO (n := N) (Nat.le_refl N)
    rw [e1, bs, if_neg n10, if_neg e2, X_accept, bs, er, bs, cls, M_ref0 (mB_tr M), bs, if_pos rfl, el, bs, f', show (99999 : Int64) = lN 99999 from rfl]
    by_cases hq : mxN (rnN N K c) N ≤ 99999
    · rw [if_pos ((lg_cmp_le _ _).mpr ((pk_lLE (b := 99999) (by omega) (by omega)).mpr hq)), if_pos hq]
      exact ask_full _ _ _ _ _ _
    · rw [if_neg (fun z => hq ((pk_lLE (b := 99999) (by omega) (by omega)).mp ((lg_cmp_le _ _).mp z))), if_neg hq]
      exact ask_full _ _ _ _ _ _
end ENOUGH
end
section
/-! ===== level 2: the case with other tenths ===== -/
def cT (c : Nat → Nat) (i j a b : Nat) : Nat → Nat := fun z => if z = 10 + 6 * j + 1 then b else if z = 10 + 6 * i + 1 then a else c z
theorem sN_up (f : Nat → Nat) (i a : Nat) : ∀ n, sN (fun k => if k = i then a else f k) n + (if i < n then f i else 0) = sN f n + (if i < n then a else 0)
  | 0 => by
    rw [if_neg (Nat.not_lt_zero i), if_neg (Nat.not_lt_zero i)]
    rfl
  | n + 1 => by
    have ih := sN_up f i a n
    rw [sN_s (fun k => if k = i then a else f k) n, sN_s f n]
    by_cases h : n = i
    · subst h
      rw [if_neg (Nat.lt_irrefl n), if_neg (Nat.lt_irrefl n)] at ih
      rw [if_pos rfl, if_pos (Nat.lt_succ_self n), if_pos (Nat.lt_succ_self n)]
      omega
    · rw [if_neg h]
      by_cases h2 : i < n
      · rw [if_pos h2, if_pos h2] at ih
        rw [if_pos (show i < n + 1 by omega), if_pos (show i < n + 1 by omega)]
        omega
      · rw [if_neg h2, if_neg h2] at ih
        rw [if_neg (show ¬ i < n + 1 by omega), if_neg (show ¬ i < n + 1 by omega)]
        omega
section TENTHS
variable {N K : Nat} {c : Nat → Nat} {i j a b : Nat}
theorem cT_far {z : Nat} (h1 : z ≠ 10 + 6 * i + 1) (h2 : z ≠ 10 + 6 * j + 1) : cT c i j a b z = c z := by
  unfold cT
  rw [if_neg h2, if_neg h1]
theorem cT_ten (k : Nat) : cT c i j a b (10 + 6 * k + 1) = if k = j then b else if k = i then a else c (10 + 6 * k + 1) := by
  unfold cT
  by_cases h : k = j
  · rw [if_pos h, if_pos (by omega)]
  · rw [if_neg h, if_neg (by omega)]
    by_cases h2 : k = i
    · rw [if_pos h2, if_pos (by omega)]
    · rw [if_neg h2, if_neg (by omega)]
theorem cT_sum (hi : i < N) (hj : j < N) (hij : i ≠ j) (hs : a + b = c (10 + 6 * i + 1) + c (10 + 6 * j + 1)) : sN (fun k => cT c i j a b (10 + 6 * k + 1)) N = sN (fun k => c (10 + 6 * k + 1)) N := by
  have e1 := sN_up (fun k => c (10 + 6 * k + 1)) i a N
  have e2 := sN_up (fun k => if k = i then a else c (10 + 6 * k + 1)) j b N
  have e3 : sN (fun k => cT c i j a b (10 + 6 * k + 1)) N = sN (fun k => if k = j then b else if k = i then a else c (10 + 6 * k + 1)) N := sN_eq fun k _ => cT_ten k
  rw [if_pos hi, if_pos hi] at e1
  rw [if_pos hj, if_pos hj] at e2
  rw [if_neg (fun h => hij h.symm)] at e2
  rw [e3]
  omega
theorem cT_OK (hO : OKc N K c) (hi : i < N) (hj : j < N) (hij : i ≠ j) (hs : a + b = c (10 + 6 * i + 1) + c (10 + 6 * j + 1)) : OKc N K (cT c i j a b) := by
  have hm := sN_mem2 (fun k => c (10 + 6 * k + 1)) hij hi hj
  obtain ⟨h1, h2, h3, h4, h5⟩ := hO
  have hm2 : c (10 + 6 * i + 1) + c (10 + 6 * j + 1) ≤ 10 := Nat.le_trans hm (Nat.le_of_eq h4)
  refine ⟨h1, ?_, ?_, ?_, ?_⟩
  · rw [cT_far (z := 2) (by omega) (by omega), cT_far (z := 3) (by omega) (by omega), cT_far (z := 4) (by omega) (by omega), cT_far (z := 5) (by omega) (by omega), cT_far (z := 6) (by omega) (by omega), cT_far (z := 7) (by omega) (by omega), cT_far (z := 8) (by omega) (by omega), cT_far (z := 9) (by omega) (by omega)]
    exact h2
  · intro k hk
    have ht : cT c i j a b (10 + 6 * k + 1) ≤ 10 := by
      have := (h3 k hk).2.2.1
      rw [cT_ten]
      split
      · omega
      · split <;> omega
    rw [cT_far (z := 10 + 6 * k) (by omega) (by omega), cT_far (z := 10 + 6 * k + 2) (by omega) (by omega), cT_far (z := 10 + 6 * k + 3) (by omega) (by omega), cT_far (z := 10 + 6 * k + 4) (by omega) (by omega), cT_far (z := 10 + 6 * k + 5) (by omega) (by omega)]
    exact ⟨(h3 k hk).1, (h3 k hk).2.1, ht, (h3 k hk).2.2.2⟩
  · exact (cT_sum hi hj hij hs).trans h4
  · intro k hk
    rw [cT_far (z := 34 + 4 * k) (by omega) (by omega), cT_far (z := 34 + 4 * k + 1) (by omega) (by omega), cT_far (z := 34 + 4 * k + 2) (by omega) (by omega), cT_far (z := 34 + 4 * k + 3) (by omega) (by omega)]
    exact h5 k hk
theorem cT_on (hi : i < 4) (hj : j < 4) (k : Nat) : onI (cT c i j a b) k = onI c k := by
  unfold onI
  rw [cT_far (z := 34 + 4 * k) (by omega) (by omega), cT_far (z := 34 + 4 * k + 1) (by omega) (by omega)]
theorem cT_T {T : TS} (hT : RowT T N K c) (hN : N ≤ 4) (hi : i < N) (hj : j < N) : RowT (ts_shipRows T (upI (upI (t_shipRows T) (6 * i + 1) (nI a)) (6 * j + 1) (nI b))) N K (cT c i j a b) := by
  obtain ⟨h1, h2, h3, h4, h5⟩ := hT
  refine ⟨h1, h2, ?_, ?_, ?_⟩
  · intro w hw hw2
    rw [cT_far (by omega) (by omega)]
    exact h3 w hw hw2
  · intro k hk w hw
    show exI (upI (upI (t_shipRows T) (6 * i + 1) (nI a)) (6 * j + 1) (nI b)) (6 * k + w) = _
    rw [exI_up _ (by omega), exI_up _ (by omega)]
    unfold cT
    by_cases q1 : 6 * k + w = 6 * j + 1
    · rw [if_pos q1, if_pos (by omega)]
    · rw [if_neg q1, if_neg (show ¬ 10 + 6 * k + w = 10 + 6 * j + 1 by omega)]
      by_cases q2 : 6 * k + w = 6 * i + 1
      · rw [if_pos q2, if_pos (by omega)]
      · rw [if_neg q2, if_neg (show ¬ 10 + 6 * k + w = 10 + 6 * i + 1 by omega)]
        exact h4 k hk w hw
  · intro k hk
    refine ⟨fun w hw hw1 => ?_, ?_⟩
    · rw [cT_far (by omega) (by omega)]
      exact (h5 k hk).1 w hw hw1
    · rw [cT_on (by omega) (by omega)]
      exact (h5 k hk).2
theorem cT_R {r : Fin 82 → Int32} (hR : RowR r N K c) (hN : N ≤ 4) (hK : K ≤ 12) (hi : i < N) (hj : j < N) : RowR (upI (upI r (10 + 6 * i + 1) (nI a)) (10 + 6 * j + 1) (nI b)) N K (cT c i j a b) := by
  obtain ⟨h1, h2, h3, h4, h5⟩ := hR
  have far : ∀ z, z ≠ 10 + 6 * i + 1 → z ≠ 10 + 6 * j + 1 → exI (upI (upI r (10 + 6 * i + 1) (nI a)) (10 + 6 * j + 1) (nI b)) z = exI r z := fun z q1 q2 => by
    rw [exI_up _ (by omega), exI_up _ (by omega), if_neg q2, if_neg q1]
  refine ⟨(far 0 (by omega) (by omega)).trans h1, (far 1 (by omega) (by omega)).trans h2, ?_, ?_, ?_⟩
  · intro w hw hw2
    rw [far w (by omega) (by omega), cT_far (by omega) (by omega)]
    exact h3 w hw hw2
  · intro k hk w hw
    rw [exI_up _ (by omega), exI_up _ (by omega)]
    unfold cT
    by_cases q1 : 10 + 6 * k + w = 10 + 6 * j + 1
    · rw [if_pos q1, if_pos q1]
    · rw [if_neg q1, if_neg q1]
      by_cases q2 : 10 + 6 * k + w = 10 + 6 * i + 1
      · rw [if_pos q2, if_pos q2]
      · rw [if_neg q2, if_neg q2]
        exact h4 k hk w hw
  · intro k hk
    refine ⟨fun w hw hw1 => ?_, ?_⟩
    · rw [far _ (by omega) (by omega), cT_far (by omega) (by omega)]
      exact (h5 k hk).1 w hw hw1
    · rw [far _ (by omega) (by omega), cT_on (by omega) (by omega)]
      exact (h5 k hk).2
end TENTHS
end
section
/-! ===== level 2: would ===== -/
section WOULD
variable {S : XS} {M : MS} {N K : Nat} {c : Nat → Nat}
theorem nI_subI {a b : Nat} (h : b ≤ a) : nI a - nI b = nI (a - b) := by
  have : nI (a - b) + nI b = nI a := by
    rw [nI_add, Nat.sub_add_cancel h]
  rw [← this]
  exact Int32.add_sub_cancel _ _
theorem ts_two2 (T : TS) (a b : Fin 24 → Int32) : ts_shipRows (ts_shipRows T a) b = ts_shipRows T b := rfl
theorem ts_l2 (T : TS) (a : Fin 24 → Int32) : t_shipRows (ts_shipRows T a) = a := rfl
theorem X_tenths (hT : RowT (x_now S) N K c) (hO : OKc N K c) {i j : Nat} (hi : i < N) (hj : j < N) : F_X4_tenthsOfBoth S (nI i) (nI j) = some (nI (c (10 + 6 * i + 1) + c (10 + 6 * j + 1))) := by
  have e1 : F_X2_ofShip (x_now S) (nI i) 1 = some (nI (c (10 + 6 * i + 1))) := C_sh hT hO hi (w := 1) (by decide)
  have e2 : F_X2_ofShip (x_now S) (nI j) 1 = some (nI (c (10 + 6 * j + 1))) := C_sh hT hO hj (w := 1) (by decide)
  unfold F_X4_tenthsOfBoth
  rw [e1, bs, e2, bs, nI_add]
theorem X_setShip (T : TS) {i : Nat} (hi : i < 4) (v : Int32) : F_X2_setShip T (nI i) 1 v = some (ts_shipRows T (upI (t_shipRows T) (6 * i + 1) v)) := by
  unfold F_X2_setShip
  rw [show (6 : Int32) = nI 6 from rfl, pk_mul, nI_1, show i * 6 + 1 = 6 * i + 1 by omega, wI _ (by omega) (by omega), bs, nm_eq]
theorem X_netWithTenths (hT : RowT (x_now S) N K c) (hO : OKc N K c) {i j a : Nat} (hi : i < N) (hj : j < N) (hij : i ≠ j) (ha : a ≤ c (10 + 6 * i + 1) + c (10 + 6 * j + 1)) : ∃ R, F_X4_netWithTenths S (nI i) (nI j) (nI a) = some (ntL N K (cT c i j a (c (10 + 6 * i + 1) + c (10 + 6 * j + 1) - a)) i, xs_reckoning S R) := by
  have hN := hO.1
  have hT2 := cT_T (a := a) (b := c (10 + 6 * i + 1) + c (10 + 6 * j + 1) - a) hT hN.2.1 hi hj
  have hO2 := cT_OK (a := a) (b := c (10 + 6 * i + 1) + c (10 + 6 * j + 1) - a) hO hi hj hij (by omega)
  obtain ⟨wt, lk, hW, e⟩ := X_settle (x_reckoning S) hT2 hO2
  refine ⟨stl (ts_shipRows (x_now S) (upI (upI (t_shipRows (x_now S)) (6 * i + 1) (nI a)) (6 * j + 1) (nI (c (10 + 6 * i + 1) + c (10 + 6 * j + 1) - a)))) wt lk N K (cT c i j a (c (10 + 6 * i + 1) + c (10 + 6 * j + 1) - a)), ?_⟩
  have et : ∀ R, F_X4_tenthsOfBoth (xs_reckoning S R) (nI i) (nI j) = some (nI (c (10 + 6 * i + 1) + c (10 + 6 * j + 1))) := fun R => by
    have hTR : RowT (x_now (xs_reckoning S R)) N K c := hT
    exact X_tenths hTR hO hi hj
  unfold F_X4_netWithTenths F_X1_take
  rw [C_copy, bs, nm_eq, bs, nm_eq, xK_k, rs_t, X_setShip _ (by omega), bs, nm_eq, xK_two, rs_two, et, bs, xK_k, rs_t, nI_subI ha, X_setShip _ (by omega), bs, nm_eq, xK_two, rs_two, ts_l2, ts_two2, xK_k, e, bs, nm_eq, xK_two, xK_k, C_netOf hT2 hO2 hW hi, bs]
end WOULD
end
section
/-! ===== level 2: would, the model and the ask ===== -/
section WOULD2
variable {S : XS} {M : MS} {N K : Nat} {c : Nat → Nat}
theorem M_netShifted (hR : RowR (m_s M) N K c) (hO : OKc N K c) {i j a : Nat} (hi : i < N) (hj : j < N) (hij : i ≠ j) (ha : a ≤ c (10 + 6 * i + 1) + c (10 + 6 * j + 1)) (w : Fin 82 → Int32) (o u : Fin 16 → Int64) (p : Fin 64 → Int64) : ∃ w2 o2 u2 p2, F_X5_netShifted (sc (mB M) w o u p) (nI i) (nI j) (nI a) = some (ntL N K (cT c i j a (c (10 + 6 * i + 1) + c (10 + 6 * j + 1) - a)) i, sc (mB M) w2 o2 u2 p2) := by
  have hN := hO.1
  have hR2 := cT_R (a := a) (b := c (10 + 6 * i + 1) + c (10 + 6 * j + 1) - a) hR hN.2.1 hN.2.2 hi hj
  have hO2 := cT_OK (a := a) (b := c (10 + 6 * i + 1) + c (10 + 6 * j + 1) - a) hO hi hj hij (by omega)
  obtain ⟨o2, u2, p2, e, hP⟩ := M_paysAll (M := mB M) (p := p) hR2 hO2 o u
  refine ⟨upI (upI (m_s M) (10 + 6 * i + 1) (nI a)) (10 + 6 * j + 1) (nI (c (10 + 6 * i + 1) + c (10 + 6 * j + 1) - a)), o2, u2, p2, ?_⟩
  have e1 : F_X5_ofShip (m_s M) (nI i) 1 = some (nI (c (10 + 6 * i + 1))) := Sh hR hO hi (w := 1) (by decide)
  have e2 : F_X5_ofShip (m_s M) (nI j) 1 = some (nI (c (10 + 6 * j + 1))) := Sh hR hO hj (w := 1) (by decide)
  have ix : ∀ k : Nat, (10 : Int32) + (6 : Int32) * nI k + 1 = nI (10 + 6 * k + 1) := fun k => by
    rw [show (10 : Int32) = nI 10 from rfl, show (6 : Int32) = nI 6 from rfl, pk_mul, nI_add, nI_1]
  unfold F_X5_netShifted
  rw [M_lays, bs, sc_w, mB_s, e1, bs, e2, bs, nm_eq, nI_add, ix, wI _ (by omega) (by omega), bs, nm_eq, sc_sw, sc_w, ix, nI_subI ha, wI _ (by omega) (by omega), bs, nm_eq, sc_sw, e, bs, M_netOf hR2 hO2 hP hi, bs]
theorem A_would (h : Core (x_now S) (m_told M) (m_s M)) (x y z : Int32) : AskR S M (F_X4_would S x y z) (F_X5_would M x y z) := by
  have no : AskR S M (J_X4_would_16 S) (J_X5_would_21 (mB M) x y z) := by
    unfold J_X4_would_16 J_X5_would_21 J_X5_would_26 J_X5_would_51
    rw [X_nothing, bs, M_ref1 (mB_tr M) (by decide), bs, if_neg (show ¬ (1 : Int32) = 0 by decide)]
    exact ask_no _ _
  unfold F_X4_would F_X5_would
  rw [M_begins, bs]
  rcases A_ship h x with ⟨e1, e2⟩ | ⟨N, K, c, i, hT, hR, hO, hi, rfl, e1, e2⟩
  · rw [e1, e2, bs, bs, if_pos rfl, if_pos rfl]
    exact no
  · rw [e1, e2, bs, bs, if_neg n10, if_neg n10]
    rcases A_ship h y with ⟨e3, e4⟩ | ⟨N2, K2, c2, j, hT2, hR2, hO2, hj, rfl, e3, e4⟩
    · rw [e3, e4, bs, bs, if_pos rfl, if_pos rfl]
      exact no
    · obtain ⟨rfl, rfl⟩ := sameN hT hT2 hO hO2
      have hN := hO.1
      rw [e3, e4, bs, bs, if_neg n10, if_neg n10]
      unfold J_X5_would_26
      rw [M_ref0 (mB_tr M), bs, if_pos rfl]
      unfold J_X5_would_44 J_X5_would_51
      by_cases hab : nI i = nI j
      · rw [if_pos hab, if_pos hab, X_nothing, bs, M_ref1 (mB_tr M) (by decide), bs, if_neg (show ¬ (1 : Int32) = 0 by decide)]
        exact ask_no _ _
      · have hij : i ≠ j := fun q => hab (by rw [q])
        have s1 := (hO.2.2.1 i hi).2.2.1
        have s2 := (hO.2.2.1 j hj).2.2.1
        have m1 : F_X5_ofShip (m_s M) (nI i) 1 = some (nI (c (10 + 6 * i + 1))) := Sh hR hO hi (w := 1) (by decide)
        have m2 : F_X5_ofShip (m_s M) (nI j) 1 = some (nI (c (10 + 6 * j + 1))) := Sh hR hO hj (w := 1) (by decide)
        rw [if_neg hab, if_neg hab, X_tenths hT hO hi hj, bs, M_ref0 (mB_tr M), bs, if_pos rfl, mB_s, m1, bs, m2, bs, nI_add, M_in]
        unfold J_X5_would_90
        rcases W_cases z (b := c (10 + 6 * i + 1) + c (10 + 6 * j + 1)) (by omega) with e | ⟨e, a, ha, rfl⟩
        · rw [e, bs, bs, if_pos rfl, if_pos rfl, X_nothing, bs, M_ref1 (mB_tr M) (by decide), bs, if_neg (show ¬ (1 : Int32) = 0 by decide)]
          exact ask_no _ _
        · have hTx : RowT (x_now (xT S 0)) N2 K2 c := hT
          obtain ⟨R, en⟩ := X_netWithTenths (S := xT S 0) hTx hO hi hj hij ha
          obtain ⟨w2, o2, u2, p2, em⟩ := M_netShifted (M := M) hR hO hi hj hij ha (m_w (mB M)) (m_owed (mB M)) (m_out (mB M)) (m_paid (mB M))
          rw [sc_self] at em
          rw [e, bs, bs, if_neg n10, if_neg n10, X_accept, bs, en, bs, M_ref0 (mB_tr M), bs, if_pos rfl, em, bs]
          exact ask_full _ _ _ _ _ _
end WOULD2
end
section
/-! ===== level 2: worse ===== -/
section WORSE
variable {S : XS} {M : MS} {N K : Nat} {c : Nat → Nat}
theorem xK_self (S : XS) : xs_reckoning S (x_reckoning S) = S := rfl
theorem M_in2 (x l y : Int32) : F_X5_in x.toInt64 l.toInt64 y.toInt64 = F_X4_within x l y := by
  have e1 : lg_cmp x.toInt64 l.toInt64 < 0 ↔ x < l := (lg_cmp_lt _ _).trans (Int32.toInt64_lt (a := x) (b := l))
  have e2 : 0 < lg_cmp x.toInt64 y.toInt64 ↔ y < x := (lg_cmp_gt _ _).trans (Int32.toInt64_lt (a := y) (b := x))
  unfold F_X5_in F_X4_within
  by_cases h : x < l
  · rw [if_pos (e1.mpr h), if_pos h]
  · rw [if_neg (fun q => h (e1.mp q)), if_neg h]
    by_cases h2 : y < x
    · rw [if_pos (e2.mpr h2), if_pos h2]
    · rw [if_neg (fun q => h2 (e2.mp q)), if_neg h2]
theorem W_any (x l y : Int32) : F_X4_within x l y = some 0 ∨ F_X4_within x l y = some 1 := by
  unfold F_X4_within
  split
  · exact Or.inl rfl
  · split
    · exact Or.inl rfl
    · exact Or.inr rfl
theorem X_netWithTenths2 (hT : RowT (x_now S) N K c) (hO : OKc N K c) {i j a : Nat} (hi : i < N) (hj : j < N) (hij : i ≠ j) (ha : a ≤ c (10 + 6 * i + 1) + c (10 + 6 * j + 1)) (R : RS) : ∃ R2, F_X4_netWithTenths (xs_reckoning S R) (nI i) (nI j) (nI a) = some (ntL N K (cT c i j a (c (10 + 6 * i + 1) + c (10 + 6 * j + 1) - a)) i, xs_reckoning S R2) := by
  have hT2 : RowT (x_now (xs_reckoning S R)) N K c := hT
  obtain ⟨R2, e⟩ := X_netWithTenths hT2 hO hi hj hij ha
  exact ⟨R2, e.trans (by rw [xK_two])⟩
theorem worse_loop (hT : RowT (x_now S) N K c) (hR : RowR (m_s M) N K c) (hO : OKc N K c) {i j : Nat} (hi : i < N) (hj : j < N) (hij : i ≠ j) (y : Int32) {s : Nat} (hs : s = c (10 + 6 * i + 1) + c (10 + 6 * j + 1)) (hs2 : s ≤ 20) : ∀ (n t fu : Nat), t + n = s + 1 → n < fu → ∀ (R : RS) (w : Fin 82 → Int32) (o u : Fin 16 → Int64) (p : Fin 64 → Int64), ∃ z R2 w2 o2 u2 p2,
    lo2 (B_X4_worse_65 (nI i) (nI j) y (nI s) (fun S9 => some ((-2 : Int32), S9))) fu (xs_reckoning (xT S 0) R) (nI t) = some (z, xs_reckoning (xT S 0) R2) ∧
    lo2 (B_X5_worse_104 (nI i) (nI j) y (nI s) (fun S12 => some ((-2 : Int32), S12))) fu (sc (mB M) w o u p) (nI t) = some (z, sc (mB M) w2 o2 u2 p2) := by
  intro n
  induction n with
  | zero =>
    intro t fu ht hf R w o u p
    obtain ⟨fu, rfl⟩ : ∃ f, fu = f + 1 := ⟨fu - 1, by omega⟩
    have hlt : nI s < nI t := by
      rw [nI_ltI (by omega) (by omega)]
      omega
    have k1 : ∀ (k9 : XS → Option (Int32 × XS)) rc S2, B_X4_worse_65 (nI i) (nI j) y (nI s) k9 rc S2 (nI t) = k9 S2 := by
      intro k9 rc S2
      unfold B_X4_worse_65
      rw [if_pos hlt]
    have k2 : ∀ (k9 : MS → Option (Int32 × MS)) rc S2, B_X5_worse_104 (nI i) (nI j) y (nI s) k9 rc S2 (nI t) = k9 S2 := by
      intro k9 rc S2
      unfold B_X5_worse_104
      rw [if_pos hlt]
    exact ⟨-2, R, w, o, u, p, (lo2_s _ _ _ _).trans (k1 _ _ _), (lo2_s _ _ _ _).trans (k2 _ _ _)⟩
  | succ n ih =>
    intro t fu ht hf R w o u p
    obtain ⟨fu, rfl⟩ : ∃ f, fu = f + 1 := ⟨fu - 1, by omega⟩
    have hlt : ¬ nI s < nI t := by
      rw [nI_ltI (by omega) (by omega)]
      omega
    have hTx : RowT (x_now (xT S 0)) N K c := hT
    obtain ⟨R2, e1⟩ := X_netWithTenths2 (S := xT S 0) hTx hO hi hj hij (show t ≤ c (10 + 6 * i + 1) + c (10 + 6 * j + 1) by omega) R
    obtain ⟨w2, o2, u2, p2, e2⟩ := M_netShifted (M := M) hR hO hi hj hij (show t ≤ c (10 + 6 * i + 1) + c (10 + 6 * j + 1) by omega) w o u p
    by_cases hc : 0 ≤ lg_cmp (ntL N K (cT c i j t (c (10 + 6 * i + 1) + c (10 + 6 * j + 1) - t)) i) y.toInt64
    · obtain ⟨z, R3, w3, o3, u3, p3, f1, f2⟩ := ih (t + 1) fu (by omega) (by omega) R2 w2 o2 u2 p2
      have k1 : ∀ (k9 : XS → Option (Int32 × XS)) rc, B_X4_worse_65 (nI i) (nI j) y (nI s) k9 rc (xs_reckoning (xT S 0) R) (nI t) = rc (xs_reckoning (xT S 0) R2) (nI (t + 1)) := by
        intro k9 rc
        unfold B_X4_worse_65
        rw [if_neg hlt, e1, bs, if_pos hc, nm_eq, nI_1]
      have k2 : ∀ (k9 : MS → Option (Int32 × MS)) rc, B_X5_worse_104 (nI i) (nI j) y (nI s) k9 rc (sc (mB M) w o u p) (nI t) = rc (sc (mB M) w2 o2 u2 p2) (nI (t + 1)) := by
        intro k9 rc
        unfold B_X5_worse_104
        rw [if_neg hlt, e2, bs, if_pos hc, nm_eq, nI_1]
      exact ⟨z, R3, w3, o3, u3, p3, ((lo2_s _ _ _ _).trans (k1 _ _)).trans f1, ((lo2_s _ _ _ _).trans (k2 _ _)).trans f2⟩
    · have k1 : ∀ (k9 : XS → Option (Int32 × XS)) rc, B_X4_worse_65 (nI i) (nI j) y (nI s) k9 rc (xs_reckoning (xT S 0) R) (nI t) = some (nI t, xs_reckoning (xT S 0) R2) := by
        intro k9 rc
        unfold B_X4_worse_65
        rw [if_neg hlt, e1, bs, if_neg hc]
      have k2 : ∀ (k9 : MS → Option (Int32 × MS)) rc, B_X5_worse_104 (nI i) (nI j) y (nI s) k9 rc (sc (mB M) w o u p) (nI t) = some (nI t, sc (mB M) w2 o2 u2 p2) := by
        intro k9 rc
        unfold B_X5_worse_104
        rw [if_neg hlt, e2, bs, if_neg hc]
      exact ⟨nI t, R2, w2, o2, u2, p2, (lo2_s _ _ _ _).trans (k1 _ _), (lo2_s _ _ _ _).trans (k2 _ _)⟩
end WORSE
end
section
/-! ===== level 2: worse, the ask ===== -/
section WORSE2
variable {S : XS} {M : MS}
theorem A_worse (h : Core (x_now S) (m_told M) (m_s M)) (x y z : Int32) : AskR S M (F_X4_worse S x y z) (F_X5_worse M x y z) := by
  have no : AskR S M (J_X4_worse_16 S) (J_X5_worse_21 (mB M) x y z) := by
    unfold J_X4_worse_16 J_X5_worse_21 J_X5_worse_26
    rw [X_none, bs, M_ref1 (mB_tr M) (by decide), bs, if_neg (show ¬ (1 : Int32) = 0 by decide)]
    exact ask_no _ _
  unfold F_X4_worse F_X5_worse
  rw [M_begins, bs]
  rcases A_ship h x with ⟨e1, e2⟩ | ⟨N, K, c, i, hT, hR, hO, hi, rfl, e1, e2⟩
  · rw [e1, e2, bs, bs, if_pos rfl, if_pos rfl]
    exact no
  · rw [e1, e2, bs, bs, if_neg n10, if_neg n10]
    rcases A_ship h y with ⟨e3, e4⟩ | ⟨N2, K2, c2, j, hT2, hR2, hO2, hj, rfl, e3, e4⟩
    · rw [e3, e4, bs, bs, if_pos rfl, if_pos rfl]
      exact no
    · obtain ⟨rfl, rfl⟩ := sameN hT hT2 hO hO2
      have hN := hO.1
      rw [e3, e4, bs, bs, if_neg n10, if_neg n10]
      unfold J_X5_worse_26
      rw [M_ref0 (mB_tr M), bs, if_pos rfl, show F_X5_in z.toInt64 (-1000000000) 1000000000 = F_X4_within z (-1000000000) 1000000000 from M_in2 z (-1000000000) 1000000000]
      unfold J_X5_worse_53
      rcases W_any z (-1000000000) 1000000000 with e | e
      · rw [e, bs, bs, if_pos rfl, if_pos rfl, X_none, bs, M_ref1 (mB_tr M) (by decide), bs, if_neg (show ¬ (1 : Int32) = 0 by decide)]
        exact ask_no _ _
      · rw [e, bs, bs, if_neg n10, if_neg n10, M_ref0 (mB_tr M), bs, if_pos rfl]
        unfold J_X5_worse_71
        by_cases hab : nI i = nI j
        · rw [if_pos hab, if_pos hab, X_none, bs, M_ref1 (mB_tr M) (by decide), bs, if_neg (show ¬ (1 : Int32) = 0 by decide)]
          exact ask_no _ _
        · have hij : i ≠ j := fun q => hab (by rw [q])
          have s1 := (hO.2.2.1 i hi).2.2.1
          have s2 := (hO.2.2.1 j hj).2.2.1
          have hTx : RowT (x_now (xT S 0)) N2 K2 c := hT
          have m1 : F_X5_ofShip (m_s M) (nI i) 1 = some (nI (c (10 + 6 * i + 1))) := Sh hR hO hi (w := 1) (by decide)
          have m2 : F_X5_ofShip (m_s M) (nI j) 1 = some (nI (c (10 + 6 * j + 1))) := Sh hR hO hj (w := 1) (by decide)
          obtain ⟨v, R2, w2, o2, u2, p2, f1, f2⟩ := worse_loop (S := S) (M := M) hT hR hO hi hj hij z (s := c (10 + 6 * i + 1) + c (10 + 6 * j + 1)) rfl (by omega) (c (10 + 6 * i + 1) + c (10 + 6 * j + 1) + 1) 0 FU (by omega) (by rw [FU_eq]; omega) (x_reckoning (xT S 0)) (m_w (mB M)) (m_owed (mB M)) (m_out (mB M)) (m_paid (mB M))
          rw [xK_self] at f1
          rw [sc_self] at f2
          have f1' : lo2 (B_X4_worse_65 (nI i) (nI j) z (nI (c (10 + 6 * i + 1) + c (10 + 6 * j + 1))) (fun S9 => some ((-2 : Int32), S9))) FU (xT S 0) 0 = _ := f1
          have f2' : lo2 (B_X5_worse_104 (nI i) (nI j) z (nI (c (10 + 6 * i + 1) + c (10 + 6 * j + 1))) (fun S12 => some ((-2 : Int32), S12))) FU (mB M) 0 = _ := f2
          rw [if_neg hab, if_neg hab, X_accept, bs, X_tenths hTx hO hi hj, bs, f1', M_ref0 (mB_tr M), bs, if_pos rfl, mB_s, m1, bs, m2, bs, nm_eq, nI_add, f2']
          exact ask_full _ _ _ _ _ _
end WORSE2
end
section
/-! ===== level 2: all ===== -/
def acI (v : Int64) (f : Nat → Int64) : Nat → Int64
  | 0 => v
  | n + 1 => acI v f n + f n
theorem sumI {β σ : Type} (B : (σ → Int64 → Int32 → Option β) → σ → Int64 → Int32 → Option β) (S : σ) (k9 : σ → Int64 → Option β) (f : Nat → Int64) (n : Nat) (hn : n < 900) (h1 : ∀ rc x j, j < n → B rc S x (nI j) = rc S (x + f j) (nI (j + 1))) (h3 : ∀ rc x, B rc S x (nI n) = k9 S x) (v : Int64) : lo3 B FU S v 0 = k9 S (acI v f n) := by
  refine loopR (fun fu j (a : Int64) => lo3 B fu S a (nI j)) _ n (fun j a => a = acI v f j) ?_ ?_ n FU 0 v (by omega) (by rw [FU_eq]; omega) rfl
  · intro fu j a hj e
    refine ⟨a + f j, ?_, (lo3_s _ _ _ _ _).trans (h1 _ _ _ hj)⟩
    rw [e]
    rfl
  · intro fu a e
    rw [← e]
    exact (lo3_s _ _ _ _ _).trans (h3 _ _)
section ALL
variable {S : XS} {M : MS}
theorem A_all (h : Core (x_now S) (m_told M) (m_s M)) : AskR S M (F_X4_all S) (F_X5_all M) := by
  unfold F_X4_all F_X5_all J_X5_all_17
  rw [M_begins, bs]
  rcases A_text h with ⟨e1, e2⟩ | ⟨N, K, c, hT, hR, hO, e1, e2⟩
  · rw [e1, bs, if_pos rfl, if_pos e2, X_nothing, bs, M_ref1 (mB_tr M) (by decide), bs, if_neg (show ¬ (1 : Int32) = 0 by decide)]
    exact ask_no _ _
  · have hN := hO.1
    have hTx : RowT (x_now (xT S 0)) N K c := hT
    have hts : t_ships (x_now (xT S 0)) = nI N := hTx.1
    have htc : t_claims (x_now (xT S 0)) = nI K := hTx.2.1
    obtain ⟨wt, lk, hW, er⟩ := X_reckon (S := xT S 0) hTx hO
    obtain ⟨o2, u2, p2, el, hP⟩ := M_lp hR hO
    have c2 : ∀ v, lo3 (B_X4_all_55 (fun S12 z13 => some (z13, S12))) FU (xs_reckoning (xT S 0) (stl (x_now (xT S 0)) wt lk N K c)) v 0 = some (acI v (fun k => lN (ptN N K c k - gvN N K c k)) K, xs_reckoning (xT S 0) (stl (x_now (xT S 0)) wt lk N K c)) := by
      intro v
      refine sumI _ _ (fun S12 z13 => some (z13, S12)) _ K (by omega) (fun rc x k hk => ?_) (fun rc x => ?_) v
      · unfold B_X4_all_55
        rw [xK_n, htc, if_neg (by rw [nI_leI (by omega) (by omega)]; omega), xK_k, C_leftToClaim hTx hO hW hk, bs, nm_eq, nm_eq, nI_1]
      · unfold B_X4_all_55
        rw [xK_n, htc, if_pos (by rw [nI_leI (by omega) (by omega)]; omega)]
    have c1 : lo3 (B_X4_all_25 (fun S7 z8 => lo3 (B_X4_all_55 (fun S12 z13 => some (z13, S12))) FU S7 z8 0)) FU (xs_reckoning (xT S 0) (stl (x_now (xT S 0)) wt lk N K c)) 0 0 = some (acI (acI 0 (ntL N K c) N) (fun k => lN (ptN N K c k - gvN N K c k)) K, xs_reckoning (xT S 0) (stl (x_now (xT S 0)) wt lk N K c)) := by
      refine (sumI _ _ (fun S7 z8 => lo3 (B_X4_all_55 (fun S12 z13 => some (z13, S12))) FU S7 z8 0) (ntL N K c) N (by omega) (fun rc x i hi => ?_) (fun rc x => ?_) 0).trans (c2 _)
      · unfold B_X4_all_25
        rw [xK_n, hts, if_neg (by rw [nI_leI (by omega) (by omega)]; omega), xK_k, C_netOf hTx hO hW hi, bs, nm_eq, nm_eq, nI_1]
      · unfold B_X4_all_25
        rw [xK_n, hts, if_pos (by rw [nI_leI (by omega) (by omega)]; omega)]
    have m2 : ∀ v, lo3 (B_X5_all_62 (fun S15 z16 => some (z16, S15))) FU (sc (mB M) (m_s M) o2 u2 p2) v 0 = some (acI v (fun k => lN (ptN N K c k - gvN N K c k)) K, sc (mB M) (m_s M) o2 u2 p2) := by
      intro v
      refine sumI _ _ (fun S15 z16 => some (z16, S15)) _ K (by omega) (fun rc x k hk => ?_) (fun rc x => ?_) v
      · unfold B_X5_all_62
        rw [sc_w, R1 hR, bs, if_neg (by rw [nI_leI (by omega) (by omega)]; omega), M_paidTo hR hO hP hk, bs, M_givenOf hR hO hP hk, bs, lN_sub (gvN_le hO), nm_eq, nm_eq, nI_1]
      · unfold B_X5_all_62
        rw [sc_w, R1 hR, bs, if_pos (by rw [nI_leI (by omega) (by omega)]; omega)]
    have m1 : lo3 (B_X5_all_36 (fun S8 z9 => lo3 (B_X5_all_62 (fun S15 z16 => some (z16, S15))) FU S8 z9 0)) FU (sc (mB M) (m_s M) o2 u2 p2) 0 0 = some (acI (acI 0 (ntL N K c) N) (fun k => lN (ptN N K c k - gvN N K c k)) K, sc (mB M) (m_s M) o2 u2 p2) := by
      refine (sumI _ _ (fun S8 z9 => lo3 (B_X5_all_62 (fun S15 z16 => some (z16, S15))) FU S8 z9 0) (ntL N K c) N (by omega) (fun rc x i hi => ?_) (fun rc x => ?_) 0).trans (m2 _)
      · unfold B_X5_all_36
        rw [sc_w, R0 hR, bs, if_neg (by rw [nI_leI (by omega) (by omega)]; omega), M_netOf hR hO hP hi, bs, nm_eq, nm_eq, nI_1]
      · unfold B_X5_all_36
        rw [sc_w, R0 hR, bs, if_pos (by rw [nI_leI (by omega) (by omega)]; omega)]
    rw [e1, bs, if_neg n10, if_neg e2, X_accept, bs, er, bs, c1, M_ref0 (mB_tr M), bs, if_pos rfl, el, bs, m1]
    exact ask_full _ _ _ _ _ _
end ALL
end
section
/-! ===== level 2: about ===== -/
section ABOUT
variable {S : XS} {M : MS}
theorem xT_u (S : XS) (t : Int32) : x_undoable (xT S t) = x_undoable S := rfl
theorem mB_a (M : MS) : m_acts (mB M) = m_acts M := rfl
theorem A_about (h : Core (x_now S) (m_told M) (m_s M)) (hu : x_undoable S = m_acts M) (x : Int32) : AskR S M (F_X4_about S x) (F_X5_about M x) := by
  have no : AskR S M (J_X4_about_17 S) (J_X5_about_24 (mB M) x) := by
    unfold J_X4_about_17 J_X5_about_24 J_X5_about_29
    rw [X_none, bs, M_ref1 (mB_tr M) (by decide), bs, if_neg (show ¬ (1 : Int32) = 0 by decide)]
    exact ask_no _ _
  unfold F_X4_about F_X5_about
  rw [M_begins, bs]
  rcases A_text h with ⟨e1, e2⟩ | ⟨N, K, c, hT, hR, hO, e1, e2⟩
  · rw [e1, bs, if_pos rfl, if_pos e2]
    exact no
  · rw [e1, bs, if_neg n10, if_neg e2, show F_X5_in x.toInt64 0 10 = F_X4_within x 0 10 from M_in x 10]
    rcases W_cases x (b := 10) (by omega) with e | ⟨e, b, hb, rfl⟩
    · have e' : F_X4_within x 0 10 = some 0 := e
      rw [e', bs, bs, if_pos rfl, if_pos rfl]
      exact no
    · have e' : F_X4_within (nI b) 0 10 = some 1 := e
      have hTx : RowT (x_now (xT S 0)) N K c := hT
      rw [e', bs, bs, if_neg n10, if_neg n10, X_accept, bs]
      unfold J_X5_about_29
      rw [M_ref0 (mB_tr M), bs, if_pos rfl, mB_s, show (10 : Int32) = nI 10 from rfl]
      by_cases h0 : b = 0
      · subst h0
        rw [if_pos nI_0, if_neg (fun q => absurd ((nI_eq (by omega) (by omega)).mp q) (by omega)), rI _ (by omega) (by omega), hR.1, bs, hTx.1]
        exact ask_yes _
      · rw [if_neg (nI_ne0 (by omega) (by omega))]
        by_cases h1 : b = 1
        · subst h1
          rw [if_pos (show nI 1 = 1 from rfl), if_neg (fun q => absurd ((nI_eq (by omega) (by omega)).mp q) (by omega)), rI _ (by omega) (by omega), hR.2.1, bs, hTx.2.1]
          exact ask_yes _
        · rw [if_neg (nI_n1 h1 (by omega))]
          by_cases h10 : b = 10
          · subst h10
            rw [if_pos rfl, if_pos rfl, xT_u, hu, mB_a]
            exact ask_yes _
          · have hne : ¬ nI b = nI 10 := fun q => h10 ((nI_eq (by omega) (by omega)).mp q)
            rw [if_neg hne, if_neg hne, C_law hTx (by omega) (by omega), bs, rI _ (by omega) (by omega), hR.2.2.1 b (by omega) (by omega), bs]
            exact ask_yes _
end ABOUT
end
section
/-! ===== level 2: the draws of judges ===== -/
theorem lo6_s {A B C D E X β : Type} (F : (A → B → C → D → E → X → Option β) → A → B → C → D → E → X → Option β) (n : Nat) (a : A) (b : B) (c : C) (d : D) (e : E) (x : X) : lo6 F (n + 1) a b c d e x = F (lo6 F n) a b c d e x := rfl
def cD (c t : Nat → Nat) : Nat → Nat := fun z => if 10 ≤ z ∧ z < 34 ∧ z % 6 = 5 then t ((z - 11) / 6) else c z
def dx (x : Nat) : Nat → Nat
  | 0 => x
  | n + 1 => 48271 * dx x n % 2147483647
def dt (N x : Nat) : Nat → Nat → Nat
  | 0 => fun _ => 0
  | n + 1 => fun k => if k = dx x (n + 1) % N then dt N x n (dx x (n + 1) % N) + 1 else dt N x n k
theorem W_casesL (x : Int32) {l b : Nat} (hl : l < 2 ^ 31) (hb : b < 2 ^ 31) : F_X4_within x (nI l) (nI b) = some 0 ∨ (F_X4_within x (nI l) (nI b) = some 1 ∧ ∃ a, l ≤ a ∧ a ≤ b ∧ x = nI a) := by
  unfold F_X4_within
  by_cases h : x < nI l
  · rw [if_pos h]
    exact Or.inl rfl
  · have h0 : ¬ x < 0 := by
      intro q
      have h1 := Int32.lt_iff_toInt_lt.mp q
      have h2 : (0 : Int32).toInt = 0 := by decide
      have h3 := nI_toInt hl
      exact h (Int32.lt_iff_toInt_lt.mpr (by omega))
    obtain ⟨j, hj, rfl⟩ := nI_of h0
    rw [if_neg h]
    rw [nI_ltI hj hl] at h
    by_cases h2 : nI b < nI j
    · rw [if_pos h2]
      exact Or.inl rfl
    · rw [if_neg h2]
      rw [nI_ltI hb hj] at h2
      exact Or.inr ⟨rfl, j, by omega, by omega, rfl⟩
theorem rmL_N {a b : Nat} (ha : a < 2 ^ 62) (h0 : 0 < b) (hb : b < 2 ^ 62) : rmL (lN a) (lN b) = some (lN (a % b)) := by
  have h := dvL_N ha h0 hb
  unfold dvL at h
  obtain ⟨h1, h2⟩ := ite_none h
  have h3 := Nat.div_add_mod a b
  rw [Nat.mul_comm] at h3
  have h4 : a / b * b ≤ a := by omega
  unfold rmL
  rw [if_neg h1, h2, lN_mul, lN_sub h4]
  exact congrArg (fun z => some (lN z)) (by omega)
section DRAW
variable {N K : Nat} {c t : Nat → Nat}
theorem cD_ten {k : Nat} (h : k < 4) : cD c t (10 + 6 * k + 1) = t k := by
  unfold cD
  rw [if_pos (by omega), show (10 + 6 * k + 1 - 11) / 6 = k by omega]
theorem cD_far {z : Nat} (h : z % 6 ≠ 5 ∨ z < 10 ∨ 34 ≤ z) : cD c t z = c z := by
  unfold cD
  rw [if_neg (by omega)]
theorem cD_two (u : Nat → Nat) : cD (cD c t) u = cD c u := by
  funext z
  unfold cD
  by_cases h : 10 ≤ z ∧ z < 34 ∧ z % 6 = 5
  · rw [if_pos h, if_pos h]
  · rw [if_neg h, if_neg h, if_neg h]
theorem cD_self : cD c (fun k => c (10 + 6 * k + 1)) = c := by
  funext z
  unfold cD
  by_cases h : 10 ≤ z ∧ z < 34 ∧ z % 6 = 5
  · rw [if_pos h]
    exact congrArg c (by omega)
  · rw [if_neg h]
theorem cD_on (k : Nat) : onI (cD c t) k = onI c k := by
  unfold onI
  rw [cD_far (z := 34 + 4 * k) (by omega), cD_far (z := 34 + 4 * k + 1) (by omega)]
theorem cD_OK (hO : OKc N K c) (ht : sN t N = 10) : OKc N K (cD c t) := by
  obtain ⟨h1, h2, h3, h4, h5⟩ := hO
  refine ⟨h1, ?_, ?_, ?_, ?_⟩
  · rw [cD_far (z := 2) (by omega), cD_far (z := 3) (by omega), cD_far (z := 4) (by omega), cD_far (z := 5) (by omega), cD_far (z := 6) (by omega), cD_far (z := 7) (by omega), cD_far (z := 8) (by omega), cD_far (z := 9) (by omega)]
    exact h2
  · intro k hk
    have hm := sN_mem t hk
    rw [cD_ten (by omega), cD_far (z := 10 + 6 * k) (by omega), cD_far (z := 10 + 6 * k + 2) (by omega), cD_far (z := 10 + 6 * k + 3) (by omega), cD_far (z := 10 + 6 * k + 4) (by omega), cD_far (z := 10 + 6 * k + 5) (by omega)]
    exact ⟨(h3 k hk).1, (h3 k hk).2.1, by omega, (h3 k hk).2.2.2⟩
  · exact (sN_eq fun k hk => cD_ten (by omega)).trans ht
  · intro k hk
    rw [cD_far (z := 34 + 4 * k) (by omega), cD_far (z := 34 + 4 * k + 1) (by omega), cD_far (z := 34 + 4 * k + 2) (by omega), cD_far (z := 34 + 4 * k + 3) (by omega)]
    exact h5 k hk
theorem cD_T {T : TS} (hT : RowT T N K (cD c t)) (hN : N ≤ 4) {i : Nat} (hi : i < N) (v : Nat) : RowT (ts_shipRows T (upI (t_shipRows T) (6 * i + 1) (nI v))) N K (cD c (fun k => if k = i then v else t k)) := by
  obtain ⟨h1, h2, h3, h4, h5⟩ := hT
  refine ⟨h1, h2, ?_, ?_, ?_⟩
  · intro w hw hw2
    rw [cD_far (by omega), ← cD_far (c := c) (t := t) (z := w) (by omega)]
    exact h3 w hw hw2
  · intro k hk w hw
    show exI (upI (t_shipRows T) (6 * i + 1) (nI v)) (6 * k + w) = _
    rw [exI_up _ (by omega)]
    by_cases q : w = 1
    · subst q
      rw [cD_ten (by omega)]
      by_cases q1 : k = i
      · rw [if_pos (by omega), if_pos q1]
      · rw [if_neg (by omega), if_neg q1, h4 k hk 1 (by omega), cD_ten (by omega)]
    · rw [if_neg (by omega), h4 k hk w hw, cD_far (by omega), cD_far (by omega)]
  · intro k hk
    refine ⟨fun w hw hw1 => ?_, ?_⟩
    · rw [cD_far (by omega), ← cD_far (c := c) (t := t) (z := 34 + 4 * k + w) (by omega)]
      exact (h5 k hk).1 w hw hw1
    · rw [cD_on, ← cD_on (t := t)]
      exact (h5 k hk).2
theorem cD_congT {T : TS} {u : Nat → Nat} (hT : RowT T N K (cD c t)) (hN : N ≤ 4) (h : ∀ k, k < N → t k = u k) : RowT T N K (cD c u) := by
  obtain ⟨h1, h2, h3, h4, h5⟩ := hT
  refine ⟨h1, h2, ?_, ?_, ?_⟩
  · intro w hw hw2
    rw [cD_far (by omega), ← cD_far (c := c) (t := t) (z := w) (by omega)]
    exact h3 w hw hw2
  · intro k hk w hw
    rw [h4 k hk w hw]
    by_cases q : w = 1
    · subst q
      rw [cD_ten (by omega), cD_ten (by omega), h k hk]
    · rw [cD_far (by omega), cD_far (by omega)]
  · intro k hk
    refine ⟨fun w hw hw1 => ?_, ?_⟩
    · rw [cD_far (by omega), ← cD_far (c := c) (t := t) (z := 34 + 4 * k + w) (by omega)]
      exact (h5 k hk).1 w hw hw1
    · rw [cD_on, ← cD_on (t := t)]
      exact (h5 k hk).2
theorem cD_R {r : Fin 82 → Int32} (hR : RowR r N K (cD c t)) (hN : N ≤ 4) (hK : K ≤ 12) {i : Nat} (hi : i < N) (v : Nat) : RowR (upI r (10 + 6 * i + 1) (nI v)) N K (cD c (fun k => if k = i then v else t k)) := by
  obtain ⟨h1, h2, h3, h4, h5⟩ := hR
  have far : ∀ z, z ≠ 10 + 6 * i + 1 → exI (upI r (10 + 6 * i + 1) (nI v)) z = exI r z := fun z q => by
    rw [exI_up _ (by omega), if_neg q]
  refine ⟨(far 0 (by omega)).trans h1, (far 1 (by omega)).trans h2, ?_, ?_, ?_⟩
  · intro w hw hw2
    rw [far w (by omega), cD_far (by omega), ← cD_far (c := c) (t := t) (z := w) (by omega)]
    exact h3 w hw hw2
  · intro k hk w hw
    by_cases q : w = 1
    · subst q
      rw [cD_ten (by omega), exI_up _ (by omega)]
      by_cases q1 : k = i
      · rw [if_pos (by omega), if_pos q1]
      · rw [if_neg (by omega), if_neg q1, h4 k hk 1 (by omega), cD_ten (by omega)]
    · rw [far _ (by omega), h4 k hk w hw, cD_far (by omega), cD_far (by omega)]
  · intro k hk
    refine ⟨fun w hw hw1 => ?_, ?_⟩
    · rw [far _ (by omega), cD_far (by omega), ← cD_far (c := c) (t := t) (z := 34 + 4 * k + w) (by omega)]
      exact (h5 k hk).1 w hw hw1
    · rw [far _ (by omega), cD_on, ← cD_on (t := t)]
      exact (h5 k hk).2
theorem cD_congR {r : Fin 82 → Int32} {u : Nat → Nat} (hR : RowR r N K (cD c t)) (hN : N ≤ 4) (h : ∀ k, k < N → t k = u k) : RowR r N K (cD c u) := by
  obtain ⟨h1, h2, h3, h4, h5⟩ := hR
  refine ⟨h1, h2, ?_, ?_, ?_⟩
  · intro w hw hw2
    rw [cD_far (by omega), ← cD_far (c := c) (t := t) (z := w) (by omega)]
    exact h3 w hw hw2
  · intro k hk w hw
    rw [h4 k hk w hw]
    by_cases q : w = 1
    · subst q
      rw [cD_ten (by omega), cD_ten (by omega), h k hk]
    · rw [cD_far (by omega), cD_far (by omega)]
  · intro k hk
    refine ⟨fun w hw hw1 => ?_, ?_⟩
    · rw [cD_far (by omega), ← cD_far (c := c) (t := t) (z := 34 + 4 * k + w) (by omega)]
      exact (h5 k hk).1 w hw hw1
    · rw [cD_on, ← cD_on (t := t)]
      exact (h5 k hk).2
theorem dx_lt {x : Nat} (h : x < 2147483647) : ∀ n, dx x n < 2147483647
  | 0 => h
  | n + 1 => Nat.mod_lt _ (by decide)
theorem dt_sum {x : Nat} (hN : 0 < N) : ∀ n, sN (dt N x n) N = n
  | 0 => sN_zero fun _ _ => rfl
  | n + 1 => by
    have h := sN_up (dt N x n) (dx x (n + 1) % N) (dt N x n (dx x (n + 1) % N) + 1) N
    have hl : dx x (n + 1) % N < N := Nat.mod_lt _ hN
    rw [if_pos hl, if_pos hl, dt_sum hN n] at h
    show sN (fun k => if k = dx x (n + 1) % N then dt N x n (dx x (n + 1) % N) + 1 else dt N x n k) N = n + 1
    omega
theorem dx_step {x n : Nat} (h : x < 2147483647) : rmL ((48271 : Int64) * lN (dx x n)) (2147483647 : Int64) = some (lN (dx x (n + 1))) := by
  have h1 := dx_lt h n
  rw [show (48271 : Int64) = lN 48271 from rfl, lN_mul, show (2147483647 : Int64) = lN 2147483647 from rfl, rmL_N (by omega) (by omega) (by omega)]
  rfl
theorem X_zero {T : TS} (hT : RowT T N K c) (hN : N ≤ 4) (x : Int64) (k9 : TS → Option (Int64 × TS)) : ∃ T2, RowT T2 N K (cD c (fun _ => 0)) ∧ lo2 (B_X2_drawFaults_2 x k9) FU T (0 : Int32) = k9 T2 := by
  obtain ⟨T2, ⟨u, h1, h2⟩, e⟩ := loopE (fun fu i (s : TS) => lo2 (B_X2_drawFaults_2 x k9) fu s (nI i)) k9 N (fun n s => ∃ u, RowT s N K (cD c u) ∧ ∀ k, k < n → u k = 0) (by
    intro fu i s hi ⟨u, h1, h2⟩
    refine ⟨_, ⟨_, cD_T h1 hN hi 0, fun k hk => ?_⟩, ?_⟩
    · by_cases q : k = i
      · rw [if_pos q]
      · rw [if_neg q, h2 k (by omega)]
    · have key : ∀ rc, B_X2_drawFaults_2 x k9 rc s (nI i) = rc (ts_shipRows s (upI (t_shipRows s) (6 * i + 1) (nI 0))) (nI (i + 1)) := by
        intro rc
        unfold B_X2_drawFaults_2
        rw [h1.1, if_neg (by rw [nI_leI (by omega) (by omega)]; omega), X_setShip _ (by omega), bs, nm_eq, nI_1]
        rfl
      exact (lo2_s _ _ _ _).trans (key _)) (by
    intro fu s ⟨u, h1, h2⟩
    have key : ∀ rc, B_X2_drawFaults_2 x k9 rc s (nI N) = k9 s := by
      intro rc
      unfold B_X2_drawFaults_2
      rw [h1.1, if_pos (by rw [nI_leI (by omega) (by omega)]; omega)]
    exact (lo2_s _ _ _ _).trans (key _)) N FU 0 T (by omega) (by rw [FU_eq]; omega) ⟨fun k => c (10 + 6 * k + 1), by rw [cD_self]; exact hT, fun k hk => absurd hk (Nat.not_lt_zero k)⟩
  exact ⟨T2, cD_congT h1 hN h2, e⟩
theorem X_of1 {T : TS} (hT : RowT T N K c) (hN : N ≤ 4) {a : Nat} (ha : a < N) : F_X2_ofShip T (nI a) 1 = some (nI (c (10 + 6 * a + 1))) := by
  unfold F_X2_ofShip
  rw [show (6 : Int32) = nI 6 from rfl, pk_mul, nI_1, show a * 6 + 1 = 6 * a + 1 by omega, rI _ (by omega) (by omega), hT.2.2.2.1 a ha 1 (by omega)]
  rfl
theorem X_draw {T : TS} (hT : RowT T N K c) (hN : N ≤ 4) (h0 : 0 < N) {x : Nat} (hx : x < 2147483647) : ∃ T2, RowT T2 N K (cD c (dt N x 10)) ∧ F_X2_drawFaults T (lN x) = some (lN (dx x 10), T2) := by
  obtain ⟨T1, hT1, e1⟩ := X_zero hT hN (lN x) (fun S3 => lo3 (B_X2_drawFaults_28 (fun S10 z11 => J_X2_drawFaults_84 S10 z11)) FU S3 (lN x) (0 : Int32))
  obtain ⟨T2, hT2, e2⟩ := loopE (fun fu n (s : TS) => lo3 (B_X2_drawFaults_28 (fun S10 z11 => J_X2_drawFaults_84 S10 z11)) fu s (lN (dx x n)) (nI n)) (fun s => some (lN (dx x 10), s)) 10 (fun n s => RowT s N K (cD c (dt N x n))) (by
    intro fu n s hn h1
    have hl : dx x (n + 1) % N < N := Nat.mod_lt _ h0
    have hlt := dx_lt hx (n + 1)
    refine ⟨_, cD_T h1 hN hl (dt N x n (dx x (n + 1) % N) + 1), ?_⟩
    have key : ∀ (k9 : TS → Int64 → Option (Int64 × TS)) rc, B_X2_drawFaults_28 k9 rc s (lN (dx x n)) (nI n) = rc (ts_shipRows s (upI (t_shipRows s) (6 * (dx x (n + 1) % N) + 1) (nI (dt N x n (dx x (n + 1) % N) + 1)))) (lN (dx x (n + 1))) (nI (n + 1)) := by
      intro k9 rc
      unfold B_X2_drawFaults_28
      rw [show (10 : Int32) = nI 10 from rfl, if_neg (by rw [nI_leI (by omega) (by omega)]; omega), h1.1, if_neg (nI_nle h0 (by omega)), dx_step hx, bs, nI_l (by omega), rmL_N (by omega) h0 (by omega), bs, nm_eq, lN_i, X_of1 h1 hN hl, bs, cD_ten (by omega), nI_1, X_setShip _ (by omega), bs, nm_eq, nI_1]
    exact (lo3_s _ _ _ _ _).trans (key _ _)) (by
    intro fu s h1
    have key : ∀ (k9 : TS → Int64 → Option (Int64 × TS)) rc v, B_X2_drawFaults_28 k9 rc s v (nI 10) = k9 s v := by
      intro k9 rc v
      unfold B_X2_drawFaults_28
      rw [if_pos (by decide)]
    exact (lo3_s _ _ _ _ _).trans (key _ _ _)) 10 FU 0 T1 (by omega) (by rw [FU_eq]; omega) hT1
  refine ⟨T2, hT2, ?_⟩
  unfold F_X2_drawFaults
  exact e1.trans e2
end DRAW
end
section
/-! ===== level 2: judged ===== -/
section JUDGE
variable {S : XS} {M : MS} {N K : Nat} {c : Nat → Nat}
theorem sd_d (M : MS) (v : Int64) (w : Fin 82 → Int32) (o u : Fin 16 → Int64) (p : Fin 64 → Int64) : m_drawn (sc (ms_drawn M v) w o u p) = v := rfl
def sdx (M : MS) (v : Int64) (w : Fin 82 → Int32) (o u : Fin 16 → Int64) (p : Fin 64 → Int64) : MS := (M.1, M.2.1, M.2.2.1, M.2.2.2.1, M.2.2.2.2.1, M.2.2.2.2.2.1, w, M.2.2.2.2.2.2.2.1, M.2.2.2.2.2.2.2.2.1, M.2.2.2.2.2.2.2.2.2.1, M.2.2.2.2.2.2.2.2.2.2.1, M.2.2.2.2.2.2.2.2.2.2.2.1, M.2.2.2.2.2.2.2.2.2.2.2.2.1, M.2.2.2.2.2.2.2.2.2.2.2.2.2.1, M.2.2.2.2.2.2.2.2.2.2.2.2.2.2.1, M.2.2.2.2.2.2.2.2.2.2.2.2.2.2.2.1, M.2.2.2.2.2.2.2.2.2.2.2.2.2.2.2.2.1, M.2.2.2.2.2.2.2.2.2.2.2.2.2.2.2.2.2.1, M.2.2.2.2.2.2.2.2.2.2.2.2.2.2.2.2.2.2.1, M.2.2.2.2.2.2.2.2.2.2.2.2.2.2.2.2.2.2.2.1, M.2.2.2.2.2.2.2.2.2.2.2.2.2.2.2.2.2.2.2.2.1, M.2.2.2.2.2.2.2.2.2.2.2.2.2.2.2.2.2.2.2.2.2.1, M.2.2.2.2.2.2.2.2.2.2.2.2.2.2.2.2.2.2.2.2.2.2.1, M.2.2.2.2.2.2.2.2.2.2.2.2.2.2.2.2.2.2.2.2.2.2.2.1, M.2.2.2.2.2.2.2.2.2.2.2.2.2.2.2.2.2.2.2.2.2.2.2.2.1, M.2.2.2.2.2.2.2.2.2.2.2.2.2.2.2.2.2.2.2.2.2.2.2.2.2.1, o, u, p, v)
theorem sdx_a (M : MS) (v : Int64) (w : Fin 82 → Int32) (o u : Fin 16 → Int64) (p : Fin 64 → Int64) : ms_drawn (sc M w o u p) v = sdx M v w o u p := rfl
theorem sdx_b (M : MS) (v : Int64) (w : Fin 82 → Int32) (o u : Fin 16 → Int64) (p : Fin 64 → Int64) : sc (ms_drawn M v) w o u p = sdx M v w o u p := rfl
theorem sc_dr (M : MS) (v : Int64) (w : Fin 82 → Int32) (o u : Fin 16 → Int64) (p : Fin 64 → Int64) : ms_drawn (sc M w o u p) v = sc (ms_drawn M v) w o u p := (sdx_a M v w o u p).trans (sdx_b M v w o u p).symm
theorem dr_dr (M : MS) (v v2 : Int64) : ms_drawn (ms_drawn M v) v2 = ms_drawn M v2 := rfl
theorem sd_s (M : MS) (v v2 : Int64) (w : Fin 82 → Int32) (o u : Fin 16 → Int64) (p : Fin 64 → Int64) : ms_drawn (sc (ms_drawn M v) w o u p) v2 = sc (ms_drawn M v2) w o u p := by
  rw [sc_dr, dr_dr]
theorem sd_m (M : MS) (v : Int64) : m_s (ms_drawn M v) = m_s M := rfl
theorem sd_v (M : MS) (v : Int64) (w : Fin 82 → Int32) (o u : Fin 16 → Int64) (p : Fin 64 → Int64) : mv (sc (ms_drawn (mB M) v) w o u p) = mv M := rfl
theorem M_draw {x n : Nat} (hx : x < 2147483647) (h0 : 0 < N) (hN : N ≤ 4) (w : Fin 82 → Int32) (o u : Fin 16 → Int64) (p : Fin 64 → Int64) : F_X5_draw (sc (ms_drawn M (lN (dx x n))) w o u p) (nI N) = some (nI (dx x (n + 1) % N), sc (ms_drawn M (lN (dx x (n + 1)))) w o u p) := by
  have hlt := dx_lt hx (n + 1)
  unfold F_X5_draw
  rw [sd_d, Int64.mul_comm, dx_step hx, bs, nm_eq, sd_s, sd_d, nI_l (by omega), rmL_N (by omega) h0 (by omega), bs, lN_i]
theorem M_zero {r : Fin 82 → Int32} (hR : RowR r N K c) (hN : N ≤ 4) (hK : K ≤ 12) (M : MS) (y : Int32) (o u : Fin 16 → Int64) (p : Fin 64 → Int64) (k9 : MS → Option (Int64 × MS)) : ∃ r2, RowR r2 N K (cD c (fun _ => 0)) ∧ lo2 (B_X5_netJudged_6 y k9) FU (sc M r o u p) (0 : Int32) = k9 (sc M r2 o u p) := by
  obtain ⟨r2, ⟨u2, h1, h2⟩, e⟩ := loopE (fun fu i (s : Fin 82 → Int32) => lo2 (B_X5_netJudged_6 y k9) fu (sc M s o u p) (nI i)) (fun s => k9 (sc M s o u p)) N (fun n s => ∃ u, RowR s N K (cD c u) ∧ ∀ k, k < n → u k = 0) (by
    intro fu i s hi ⟨t, h1, h2⟩
    refine ⟨_, ⟨_, cD_R h1 hN hK hi 0, fun k hk => ?_⟩, ?_⟩
    · by_cases q : k = i
      · rw [if_pos q]
      · rw [if_neg q, h2 k (by omega)]
    · have key : ∀ rc, B_X5_netJudged_6 y k9 rc (sc M s o u p) (nI i) = rc (sc M (upI s (10 + 6 * i + 1) (nI 0)) o u p) (nI (i + 1)) := by
        intro rc
        unfold B_X5_netJudged_6
        rw [sc_w, R0 h1, bs, if_neg (by rw [nI_leI (by omega) (by omega)]; omega), show (10 : Int32) = nI 10 from rfl, show (6 : Int32) = nI 6 from rfl, pk_mul, nI_add, nI_1, wI _ (by omega) (by omega), bs, nm_eq, sc_sw, nm_eq, nI_1]
        rfl
      exact (lo2_s _ _ _ _).trans (key _)) (by
    intro fu s ⟨t, h1, h2⟩
    have key : ∀ rc, B_X5_netJudged_6 y k9 rc (sc M s o u p) (nI N) = k9 (sc M s o u p) := by
      intro rc
      unfold B_X5_netJudged_6
      rw [sc_w, R0 h1, bs, if_pos (by rw [nI_leI (by omega) (by omega)]; omega)]
    exact (lo2_s _ _ _ _).trans (key _)) N FU 0 r (by omega) (by rw [FU_eq]; omega) ⟨fun k => c (10 + 6 * k + 1), by rw [cD_self]; exact hR, fun k hk => absurd hk (Nat.not_lt_zero k)⟩
  exact ⟨r2, cD_congR h1 hN h2, e⟩
theorem M_netJudged (hR : RowR (m_s M) N K c) (hO : OKc N K c) {a x : Nat} (ha : a < N) (hx : x < 2147483647) (w : Fin 82 → Int32) (o u : Fin 16 → Int64) (p : Fin 64 → Int64) : ∃ w2 o2 u2 p2, F_X5_netJudged (sc (ms_drawn M (lN x)) w o u p) (nI a) = some (ntL N K (cD c (dt N x 10)) a, sc (ms_drawn M (lN (dx x 10))) w2 o2 u2 p2) := by
  have hN := hO.1
  have h0 : 0 < N := by omega
  obtain ⟨r1, hr1, e1⟩ := M_zero hR hN.2.1 hN.2.2 (ms_drawn M (lN x)) (nI a) o u p (fun S6 => lo2 (B_X5_netJudged_39 (nI a) (fun S14 => (F_X5_paysAll S14).bind fun q15 => (F_X5_netOf q15 (nI a)).bind fun q16 => some (q16, q15))) FU S6 (0 : Int32))
  obtain ⟨r2, hr2, e2⟩ := loopE (fun fu n (s : Fin 82 → Int32) => lo2 (B_X5_netJudged_39 (nI a) (fun S14 => (F_X5_paysAll S14).bind fun q15 => (F_X5_netOf q15 (nI a)).bind fun q16 => some (q16, q15))) fu (sc (ms_drawn M (lN (dx x n))) s o u p) (nI n)) (fun s => (F_X5_paysAll (sc (ms_drawn M (lN (dx x 10))) s o u p)).bind fun q15 => (F_X5_netOf q15 (nI a)).bind fun q16 => some (q16, q15)) 10 (fun n s => RowR s N K (cD c (dt N x n))) (by
    intro fu n s hn h1
    have hl : dx x (n + 1) % N < N := Nat.mod_lt _ h0
    refine ⟨_, cD_R h1 hN.2.1 hN.2.2 hl (dt N x n (dx x (n + 1) % N) + 1), ?_⟩
    have key : ∀ (k9 : MS → Option (Int64 × MS)) rc, B_X5_netJudged_39 (nI a) k9 rc (sc (ms_drawn M (lN (dx x n))) s o u p) (nI n) = rc (sc (ms_drawn M (lN (dx x (n + 1)))) (upI s (10 + 6 * (dx x (n + 1) % N) + 1) (nI (dt N x n (dx x (n + 1) % N) + 1))) o u p) (nI (n + 1)) := by
      intro k9 rc
      unfold B_X5_netJudged_39
      rw [show (10 : Int32) = nI 10 from rfl, if_neg (by rw [nI_leI (by omega) (by omega)]; omega), sc_w, R0 h1, bs, M_draw hx h0 hN.2.1, bs, nm_eq, show (6 : Int32) = nI 6 from rfl, pk_mul, nI_add, nI_1, sc_w, rI _ (by omega) (by omega), h1.2.2.2.1 _ hl 1 (by omega), cD_ten (by omega), bs, nI_1, wI _ (by omega) (by omega), bs, nm_eq, sc_sw, nm_eq, nI_1]
    exact (lo2_s _ _ _ _).trans (key _ _)) (by
    intro fu s h1
    have key : ∀ (k9 : MS → Option (Int64 × MS)) rc S2, B_X5_netJudged_39 (nI a) k9 rc S2 (nI 10) = k9 S2 := by
      intro k9 rc S2
      unfold B_X5_netJudged_39
      rw [if_pos (by decide)]
    exact (lo2_s _ _ _ _).trans (key _ _ _)) 10 FU 0 r1 (by omega) (by rw [FU_eq]; omega) hr1
  have hO2 : OKc N K (cD c (dt N x 10)) := cD_OK hO (dt_sum h0 10)
  obtain ⟨o2, u2, p2, e, hP⟩ := M_paysAll (M := ms_drawn M (lN (dx x 10))) (p := p) hr2 hO2 o u
  refine ⟨r2, o2, u2, p2, ?_⟩
  unfold F_X5_netJudged
  rw [M_lays, bs, sd_m]
  refine e1.trans (e2.trans ?_)
  rw [e, bs, M_netOf hr2 hO2 hP ha, bs]
theorem M_less (x y : Int64) : F_X5_lesser x y = some (if y < x then y else x) := by
  unfold F_X5_lesser
  by_cases h : y < x
  · rw [if_pos h, if_pos ((lg_cmp_ge x y).mpr (Int64.le_of_lt h))]
  · rw [if_neg h]
    by_cases h2 : 0 ≤ lg_cmp x y
    · rw [if_pos h2]
      have h3 := (lg_cmp_ge x y).mp h2
      have h4 : x = y := by
        rw [Int64.lt_iff_toInt_lt] at h
        rw [Int64.le_iff_toInt_le] at h3
        exact Int64.toInt_inj.mp (by omega)
      rw [h4]
    · rw [if_neg h2]
theorem M_more (x y : Int64) : F_X5_greater x y = some (if y < x then x else y) := by
  unfold F_X5_greater
  by_cases h : y < x
  · rw [if_pos h, if_neg (fun q => by
      have h3 := (lg_cmp_le x y).mp q
      rw [Int64.lt_iff_toInt_lt] at h
      rw [Int64.le_iff_toInt_le] at h3
      omega)]
  · rw [if_neg h, if_pos ((lg_cmp_le x y).mpr (by
      rw [Int64.lt_iff_toInt_lt] at h
      rw [Int64.le_iff_toInt_le]
      omega))]
/-- one judge on both sides -/
theorem X_judge {R : RS} {c' : Nat → Nat} (hT : RowT (r_told R) N K c') (hO : OKc N K c) (hc : ∀ t, cD c' t = cD c t) {a x : Nat} (ha : a < N) (hx : x < 2147483647) : ∃ R2 T2, F_X2_drawFaults (r_told R) (lN x) = some (lN (dx x 10), T2) ∧ F_X1_settle (rs_told R T2) = some R2 ∧ F_X1_netOf R2 (nI a) = some (ntL N K (cD c (dt N x 10)) a) ∧ RowT (r_told R2) N K (cD c (dt N x 10)) := by
  have hN := hO.1
  have h0 : 0 < N := by omega
  obtain ⟨T2, h2, e⟩ := X_draw hT hN.2.1 h0 hx
  rw [hc] at h2
  have hO2 : OKc N K (cD c (dt N x 10)) := cD_OK hO (dt_sum h0 10)
  obtain ⟨wt, lk, hW, es⟩ := X_settle R h2 hO2
  exact ⟨_, T2, e, es, C_netOf h2 hO2 hW ha, h2⟩
theorem judge_loop (hR : RowR (m_s M) N K c) (hO : OKc N K c) {a m : Nat} (ha : a < N) (hm : m ≤ 50) (y : Int32) : ∀ (n j fu : Nat), j + n = m → n < fu → ∀ (R : RS) (c' : Nat → Nat) (x : Nat) (s l g : Int64) (w : Fin 82 → Int32) (o u : Fin 16 → Int64) (p : Fin 64 → Int64), RowT (r_told R) N K c' → (∀ t, cD c' t = cD c t) → x < 2147483647 → ∃ z R2 v w2 o2 u2 p2,
    lo6 (B_X4_judged_81 (nI a) (nI m) y (fun S20 z21 z22 z23 => if y = 0 then some (z21, S20) else if y = (1 : Int32) then some (z22, S20) else some (z23, S20))) fu (xs_reckoning (xT S 0) R) (lN x) s l g (nI j) = some (z, xs_reckoning (xT S 0) R2) ∧
    lo5 (B_X5_judged_97 (nI a) (nI m) y (fun S12 z13 z14 z15 => if y = 0 then some (z13, S12) else if y = (1 : Int32) then some (z14, S12) else some (z15, S12))) fu (sc (ms_drawn (mB M) (lN x)) w o u p) s l g (nI j) = some (z, sc (ms_drawn (mB M) v) w2 o2 u2 p2) := by
  intro n
  induction n with
  | zero =>
    intro j fu hj hf R c' x s l g w o u p hT hc hx
    obtain ⟨fu, rfl⟩ : ∃ f, fu = f + 1 := ⟨fu - 1, by omega⟩
    have hle : nI m ≤ nI j := by
      rw [nI_leI (by omega) (by omega)]
      omega
    have k1 : ∀ (k9 : XS → Int64 → Int64 → Int64 → Option (Int64 × XS)) rc S2 v, B_X4_judged_81 (nI a) (nI m) y k9 rc S2 v s l g (nI j) = k9 S2 s l g := by
      intro k9 rc S2 v
      unfold B_X4_judged_81
      rw [if_pos hle]
    have k2 : ∀ (k9 : MS → Int64 → Int64 → Int64 → Option (Int64 × MS)) rc S2, B_X5_judged_97 (nI a) (nI m) y k9 rc S2 s l g (nI j) = k9 S2 s l g := by
      intro k9 rc S2
      unfold B_X5_judged_97
      rw [if_pos hle]
    refine ⟨if y = 0 then s else if y = (1 : Int32) then l else g, R, lN x, w, o, u, p, ((lo6_s _ _ _ _ _ _ _ _).trans (k1 _ _ _ _)).trans ?_, ((lo5_s _ _ _ _ _ _ _).trans (k2 _ _ _)).trans ?_⟩
    · by_cases h0 : y = 0
      · rw [if_pos h0, if_pos h0]
      · rw [if_neg h0, if_neg h0]
        by_cases h1 : y = 1
        · rw [if_pos h1, if_pos h1]
        · rw [if_neg h1, if_neg h1]
    · by_cases h0 : y = 0
      · rw [if_pos h0, if_pos h0]
      · rw [if_neg h0, if_neg h0]
        by_cases h1 : y = 1
        · rw [if_pos h1, if_pos h1]
        · rw [if_neg h1, if_neg h1]
  | succ n ih =>
    intro j fu hj hf R c' x s l g w o u p hT hc hx
    obtain ⟨fu, rfl⟩ : ∃ f, fu = f + 1 := ⟨fu - 1, by omega⟩
    have hle : ¬ nI m ≤ nI j := by
      rw [nI_leI (by omega) (by omega)]
      omega
    have hRB : RowR (m_s (mB M)) N K c := hR
    obtain ⟨R2, T2, e1, e2, e3, hT2⟩ := X_judge hT hO hc ha hx
    obtain ⟨w2, o2, u2, p2, em⟩ := M_netJudged (M := mB M) hRB hO ha hx w o u p
    obtain ⟨q, hq⟩ : ∃ q, q = ntL N K (cD c (dt N x 10)) a := ⟨_, rfl⟩
    rw [← hq] at e3 em
    have hx2 := dx_lt hx 10
    by_cases h0 : nI j = 0
    · obtain ⟨z, R3, v3, w3, o3, u3, p3, f1, f2⟩ := ih (j + 1) fu (by omega) (by omega) R2 _ (dx x 10) (s + q) q q w2 o2 u2 p2 hT2 (fun t => cD_two t) hx2
      refine ⟨z, R3, v3, w3, o3, u3, p3, ?_, ?_⟩
      · have k1 : ∀ (k9 : XS → Int64 → Int64 → Int64 → Option (Int64 × XS)) rc, B_X4_judged_81 (nI a) (nI m) y k9 rc (xs_reckoning (xT S 0) R) (lN x) s l g (nI j) = rc (xs_reckoning (xT S 0) R2) (lN (dx x 10)) (s + q) q q (nI (j + 1)) := by
          intro k9 rc
          unfold B_X4_judged_81 J_X4_judged_142 J_X4_judged_161
          rw [if_neg hle, xK_k, e1, bs, nm_eq, xK_two, xK_k, e2, bs, nm_eq, xK_two, xK_k, e3, bs, nm_eq, if_pos h0, if_pos h0, nm_eq, nI_1]
        exact ((lo6_s _ _ _ _ _ _ _ _).trans (k1 _ _)).trans f1
      · have k2 : ∀ (k9 : MS → Int64 → Int64 → Int64 → Option (Int64 × MS)) rc, B_X5_judged_97 (nI a) (nI m) y k9 rc (sc (ms_drawn (mB M) (lN x)) w o u p) s l g (nI j) = rc (sc (ms_drawn (mB M) (lN (dx x 10))) w2 o2 u2 p2) (s + q) q q (nI (j + 1)) := by
          intro k9 rc
          unfold B_X5_judged_97 J_X5_judged_134 J_X5_judged_153
          rw [if_neg hle, em, bs, nm_eq, if_pos h0, if_pos h0, nm_eq, nI_1]
        exact ((lo5_s _ _ _ _ _ _ _).trans (k2 _ _)).trans f2
    · obtain ⟨z, R3, v3, w3, o3, u3, p3, f1, f2⟩ := ih (j + 1) fu (by omega) (by omega) R2 _ (dx x 10) (s + q) (if q < l then q else l) (if q < g then g else q) w2 o2 u2 p2 hT2 (fun t => cD_two t) hx2
      refine ⟨z, R3, v3, w3, o3, u3, p3, ?_, ?_⟩
      · have k1 : ∀ (k9 : XS → Int64 → Int64 → Int64 → Option (Int64 × XS)) rc, B_X4_judged_81 (nI a) (nI m) y k9 rc (xs_reckoning (xT S 0) R) (lN x) s l g (nI j) = rc (xs_reckoning (xT S 0) R2) (lN (dx x 10)) (s + q) (if q < l then q else l) (if q < g then g else q) (nI (j + 1)) := by
          intro k9 rc
          unfold B_X4_judged_81 J_X4_judged_142 J_X4_judged_161
          rw [if_neg hle, xK_k, e1, bs, nm_eq, xK_two, xK_k, e2, bs, nm_eq, xK_two, xK_k, e3, bs, nm_eq, if_neg h0, nm_eq, if_neg h0, nm_eq, nm_eq, nI_1]
        exact ((lo6_s _ _ _ _ _ _ _ _).trans (k1 _ _)).trans f1
      · have k2 : ∀ (k9 : MS → Int64 → Int64 → Int64 → Option (Int64 × MS)) rc, B_X5_judged_97 (nI a) (nI m) y k9 rc (sc (ms_drawn (mB M) (lN x)) w o u p) s l g (nI j) = rc (sc (ms_drawn (mB M) (lN (dx x 10))) w2 o2 u2 p2) (s + q) (if q < l then q else l) (if q < g then g else q) (nI (j + 1)) := by
          intro k9 rc
          unfold B_X5_judged_97 J_X5_judged_134 J_X5_judged_153
          rw [if_neg hle, em, bs, nm_eq, if_neg h0, M_less, bs, if_neg h0, M_more, bs, nm_eq, nI_1]
        exact ((lo5_s _ _ _ _ _ _ _).trans (k2 _ _)).trans f2
theorem ask_judge {α : Type} (v : α) (R : RS) (d : Int64) (w : Fin 82 → Int32) (o u : Fin 16 → Int64) (p : Fin 64 → Int64) : AskR S M (some (v, xs_reckoning (xT S 0) R)) (some (v, sc (ms_drawn (mB M) d) w o u p)) := ⟨v, _, _, rfl, rfl, xK_v S 0 R, sd_v M d w o u p, rfl, rfl⟩
theorem sd_self (M : MS) (v : Int64) : sc (ms_drawn M v) (m_w M) (m_owed M) (m_out M) (m_paid M) = ms_drawn M v := rfl
theorem A_judged (h : Core (x_now S) (m_told M) (m_s M)) (x y z t : Int32) : AskR S M (F_X4_judged S x y z t) (F_X5_judged M x y z t) := by
  have no : AskR S M (J_X4_judged_18 S) (J_X5_judged_26 (mB M) x y z t) := by
    unfold J_X4_judged_18 J_X5_judged_26 J_X5_judged_31 J_X5_judged_75
    rw [X_nothing, bs, M_ref1 (mB_tr M) (by decide), bs, if_neg n10]
    exact ask_no _ _
  have no2 : AskR S M (J_X4_judged_44 S) (J_X5_judged_63 (mB M) x y z t) := by
    unfold J_X4_judged_44 J_X5_judged_63 J_X5_judged_68 J_X5_judged_75
    rw [X_nothing, bs, M_ref1 (mB_tr M) (by decide), bs, if_neg n10]
    exact ask_no _ _
  unfold F_X4_judged F_X5_judged
  rw [M_begins, bs]
  rcases A_ship h x with ⟨e1, e2⟩ | ⟨N, K, c, a, hT, hR, hO, ha, rfl, e1, e2⟩
  · rw [e1, e2, bs, bs, if_pos rfl, if_pos rfl]
    exact no
  · rw [e1, e2, bs, bs, if_neg n10, if_neg n10, show F_X5_in t.toInt64 0 2 = F_X4_within t 0 2 from M_in2 t 0 2]
    rcases W_any t 0 2 with e | e
    · rw [e, bs, bs, if_pos rfl, if_pos rfl]
      exact no
    · rw [e, bs, bs, if_neg n10, if_neg n10]
      unfold J_X5_judged_31
      rw [M_ref0 (mB_tr M), bs, if_pos rfl, show F_X5_in y.toInt64 1 2147483646 = F_X4_within y 1 2147483646 from M_in2 y 1 2147483646, show F_X5_in z.toInt64 1 50 = F_X4_within z 1 50 from M_in2 z 1 50]
      rcases W_casesL y (l := 1) (b := 2147483646) (by omega) (by omega) with e3 | ⟨e3, b, hb1, hb2, rfl⟩
      · have e3' : F_X4_within y 1 2147483646 = some 0 := e3
        rw [e3', bs, bs, if_pos rfl, if_pos rfl]
        exact no2
      · have e3' : F_X4_within (nI b) 1 2147483646 = some 1 := e3
        rw [e3', bs, bs, if_neg n10, if_neg n10]
        rcases W_casesL z (l := 1) (b := 50) (by omega) (by omega) with e4 | ⟨e4, m, hm1, hm2, rfl⟩
        · have e4' : F_X4_within z 1 50 = some 0 := e4
          rw [e4', bs, bs, if_pos rfl, if_pos rfl]
          exact no2
        · have e4' : F_X4_within (nI m) 1 50 = some 1 := e4
          have hT2 : RowT (r_told (rs_told (x_reckoning (xT S 0)) (x_now (xT S 0)))) N K c := hT
          obtain ⟨v, R2, d2, w2, o2, u2, p2, f1, f2⟩ := judge_loop (S := S) (M := M) hR hO ha hm2 t m 0 FU (by omega) (by rw [FU_eq]; omega) _ c b 0 0 0 (m_w (mB M)) (m_owed (mB M)) (m_out (mB M)) (m_paid (mB M)) hT2 (fun _ => rfl) (by omega)
          rw [sd_self] at f2
          unfold J_X5_judged_68 F_X1_take
          rw [e4', bs, bs, if_neg n10, if_neg n10, X_accept, bs, C_copy, bs, nm_eq, bs, nm_eq, nm_eq, nI_l (by omega), M_ref0 (mB_tr M), bs, if_pos rfl, nm_eq]
          rw [nI_0] at f1 f2
          rw [f1, f2]
          exact ask_judge _ _ _ _ _ _ _
end JUDGE
end
section
/-! ===== level 2: the acts: what is kept of earlier cases; the relation of both sides ===== -/
def ma (M : MS) (s : Fin 82 → Int32) (p : Fin 820 → Int32) (a : Int32) : MS := (M.1, M.2.1, M.2.2.1, M.2.2.2.1, M.2.2.2.2.1, s, M.2.2.2.2.2.2.1, M.2.2.2.2.2.2.2.1, p, a, M.2.2.2.2.2.2.2.2.2.2.1, M.2.2.2.2.2.2.2.2.2.2.2.1, M.2.2.2.2.2.2.2.2.2.2.2.2.1, M.2.2.2.2.2.2.2.2.2.2.2.2.2.1, M.2.2.2.2.2.2.2.2.2.2.2.2.2.2.1, M.2.2.2.2.2.2.2.2.2.2.2.2.2.2.2.1, M.2.2.2.2.2.2.2.2.2.2.2.2.2.2.2.2.1, M.2.2.2.2.2.2.2.2.2.2.2.2.2.2.2.2.2.1, M.2.2.2.2.2.2.2.2.2.2.2.2.2.2.2.2.2.2.1, M.2.2.2.2.2.2.2.2.2.2.2.2.2.2.2.2.2.2.2.1, M.2.2.2.2.2.2.2.2.2.2.2.2.2.2.2.2.2.2.2.2.1, M.2.2.2.2.2.2.2.2.2.2.2.2.2.2.2.2.2.2.2.2.2.1, M.2.2.2.2.2.2.2.2.2.2.2.2.2.2.2.2.2.2.2.2.2.2.1, M.2.2.2.2.2.2.2.2.2.2.2.2.2.2.2.2.2.2.2.2.2.2.2.1, M.2.2.2.2.2.2.2.2.2.2.2.2.2.2.2.2.2.2.2.2.2.2.2.2.1, M.2.2.2.2.2.2.2.2.2.2.2.2.2.2.2.2.2.2.2.2.2.2.2.2.2.1, M.2.2.2.2.2.2.2.2.2.2.2.2.2.2.2.2.2.2.2.2.2.2.2.2.2.2.1, M.2.2.2.2.2.2.2.2.2.2.2.2.2.2.2.2.2.2.2.2.2.2.2.2.2.2.2.1, M.2.2.2.2.2.2.2.2.2.2.2.2.2.2.2.2.2.2.2.2.2.2.2.2.2.2.2.2.1, M.2.2.2.2.2.2.2.2.2.2.2.2.2.2.2.2.2.2.2.2.2.2.2.2.2.2.2.2.2)
def mk4 (M : MS) (s : Fin 82 → Int32) (a : Int32) (k : Fin 164 → Int32) (b : Fin 2 → Int32) : MS := (M.1, M.2.1, M.2.2.1, M.2.2.2.1, M.2.2.2.2.1, s, M.2.2.2.2.2.2.1, M.2.2.2.2.2.2.2.1, M.2.2.2.2.2.2.2.2.1, a, k, b, M.2.2.2.2.2.2.2.2.2.2.2.2.1, M.2.2.2.2.2.2.2.2.2.2.2.2.2.1, M.2.2.2.2.2.2.2.2.2.2.2.2.2.2.1, M.2.2.2.2.2.2.2.2.2.2.2.2.2.2.2.1, M.2.2.2.2.2.2.2.2.2.2.2.2.2.2.2.2.1, M.2.2.2.2.2.2.2.2.2.2.2.2.2.2.2.2.2.1, M.2.2.2.2.2.2.2.2.2.2.2.2.2.2.2.2.2.2.1, M.2.2.2.2.2.2.2.2.2.2.2.2.2.2.2.2.2.2.2.1, M.2.2.2.2.2.2.2.2.2.2.2.2.2.2.2.2.2.2.2.2.1, M.2.2.2.2.2.2.2.2.2.2.2.2.2.2.2.2.2.2.2.2.2.1, M.2.2.2.2.2.2.2.2.2.2.2.2.2.2.2.2.2.2.2.2.2.2.1, M.2.2.2.2.2.2.2.2.2.2.2.2.2.2.2.2.2.2.2.2.2.2.2.1, M.2.2.2.2.2.2.2.2.2.2.2.2.2.2.2.2.2.2.2.2.2.2.2.2.1, M.2.2.2.2.2.2.2.2.2.2.2.2.2.2.2.2.2.2.2.2.2.2.2.2.2.1, M.2.2.2.2.2.2.2.2.2.2.2.2.2.2.2.2.2.2.2.2.2.2.2.2.2.2.1, M.2.2.2.2.2.2.2.2.2.2.2.2.2.2.2.2.2.2.2.2.2.2.2.2.2.2.2.1, M.2.2.2.2.2.2.2.2.2.2.2.2.2.2.2.2.2.2.2.2.2.2.2.2.2.2.2.2.1, M.2.2.2.2.2.2.2.2.2.2.2.2.2.2.2.2.2.2.2.2.2.2.2.2.2.2.2.2.2)
def xa (S : XS) (T : TS) (E : Fin 10 → TS) (u n : Int32) : XS := (S.1, T, S.2.2.1, E, S.2.2.2.2.1, S.2.2.2.2.2.1, S.2.2.2.2.2.2.1, u, n, S.2.2.2.2.2.2.2.2.2.1, S.2.2.2.2.2.2.2.2.2.2.1, S.2.2.2.2.2.2.2.2.2.2.2)
section MAS
variable (M : MS) (s s2 : Fin 82 → Int32) (p p2 : Fin 820 → Int32) (a a2 : Int32)
theorem ma_s : m_s (ma M s p a) = s := rfl
theorem ma_p : m_past (ma M s p a) = p := rfl
theorem ma_a : m_acts (ma M s p a) = a := rfl
theorem ma_ss : ms_s (ma M s p a) s2 = ma M s2 p a := rfl
theorem ma_sp : ms_past (ma M s p a) p2 = ma M s p2 a := rfl
theorem ma_sa : ms_acts (ma M s p a) a2 = ma M s p a2 := rfl
theorem ma_self : ma M (m_s M) (m_past M) (m_acts M) = M := rfl
end MAS
section MKS
variable (M : MS) (s s2 : Fin 82 → Int32) (a a2 : Int32) (k k2 : Fin 164 → Int32) (b b2 : Fin 2 → Int32)
theorem mk_s : m_s (mk4 M s a k b) = s := rfl
theorem mk_k : m_kept (mk4 M s a k b) = k := rfl
theorem mk_b : m_isKept (mk4 M s a k b) = b := rfl
theorem mk_ss : ms_s (mk4 M s a k b) s2 = mk4 M s2 a k b := rfl
theorem mk_sk : ms_kept (mk4 M s a k b) k2 = mk4 M s a k2 b := rfl
theorem mk_sb : ms_isKept (mk4 M s a k b) b2 = mk4 M s a k b2 := rfl
theorem mk_sa : ms_acts (mk4 M s a k b) a2 = mk4 M s a2 k b := rfl
theorem mk_self : mk4 M (m_s M) (m_acts M) (m_kept M) (m_isKept M) = M := rfl
end MKS
section XAS
variable (S : XS) (T T2 : TS) (E E2 : Fin 10 → TS) (u u2 n n2 : Int32)
theorem xa_t : x_now (xa S T E u n) = T := rfl
theorem xa_e : x_earlier (xa S T E u n) = E := rfl
theorem xa_u : x_undoable (xa S T E u n) = u := rfl
theorem xa_n : x_nextAct (xa S T E u n) = n := rfl
theorem xa_st : xs_now (xa S T E u n) T2 = xa S T2 E u n := rfl
theorem xa_se : xs_earlier (xa S T E u n) E2 = xa S T E2 u n := rfl
theorem xa_su : xs_undoable (xa S T E u n) u2 = xa S T E u2 n := rfl
theorem xa_sn : xs_nextAct (xa S T E u n) n2 = xa S T E u n2 := rfl
theorem xa_xa : xa (xa S T E u n) T2 E2 u2 n2 = xa S T2 E2 u2 n2 := rfl
theorem xa_self : xa S (x_now S) (x_earlier S) (x_undoable S) (x_nextAct S) = S := rfl
end XAS
def rowP (p : Fin 820 → Int32) (q : Nat) : Fin 82 → Int32 := fun k => exI p (82 * q + k.1)
def rowK (p : Fin 164 → Int32) (q : Nat) : Fin 82 → Int32 := fun k => exI p (82 * q + k.1)
/-- a byte of the class, of the model -/
def BtR (b m : Int32) : Prop := ∃ v : Int32, b = v.toInt8.toInt32 ∧ m = v &&& 255
/-- a name: letters 1 .. 26, at most seven: the class has the first lowest, the model the last -/
def nLo : List Nat → Nat
  | [] => 0
  | l :: r => l + 32 * nLo r
def nHi (a : Nat) : List Nat → Nat
  | [] => a
  | l :: r => nHi (32 * a + l) r
def NmR (x y : Int64) : Prop := ∃ ls : List Nat, 0 < ls.length ∧ ls.length ≤ 6 ∧ (∀ l, l ∈ ls → 1 ≤ l ∧ l ≤ 26) ∧ x = lN (nLo ls) ∧ y = lN (nHi 0 ls)
def CaseR (T : TS) (r : Fin 82 → Int32) (mn : Fin 4 → Int64) : Prop := ∃ N K c, RowT T N K c ∧ RowR r N K c ∧ OKc N K c ∧ ∀ i, i < N → NmR (exL (t_names T) i) (exL mn i)
def NowR (T : TS) (to : Int32) (r : Fin 82 → Int32) (mn : Fin 4 → Int64) : Prop := (to = 0 ∧ t_ships T = 0 ∧ t_claims T = 0) ∨ (to ≠ 0 ∧ CaseR T r mn)
theorem NowR.core {T : TS} {to : Int32} {r : Fin 82 → Int32} {mn : Fin 4 → Int64} (h : NowR T to r mn) : Core T to r := by
  rcases h with h | ⟨h0, N, K, c, h1, h2, h3, -⟩
  · exact Or.inl h
  · exact Or.inr ⟨h0, N, K, c, h1, h2, h3⟩
def RingR (E : Fin 10 → TS) (P A : Nat) (p : Fin 820 → Int32) (mn : Fin 4 → Int64) : Prop := A ≤ 10 ∧ P < 10 ∧ ∀ q, q < A → CaseR (E ⟨(P + 10 - A + q) % 10, Nat.mod_lt _ (by decide)⟩) (rowP p q) mn
def ActR (S : XS) (M : MS) : Prop := ∃ A P, x_undoable S = nI A ∧ m_acts M = nI A ∧ x_nextAct S = nI P ∧ RingR (x_earlier S) P A (m_past M) (m_names M)
def TapR (S : XS) (M : MS) : Prop := ∃ t, t ≤ 600 ∧ x_tapeLength S = nI t ∧ m_taped M = nI t ∧ ∀ k, k < t → BtR (exI (d_bytes (x_reader S)) k) (exI (m_tape M) k)
def ImgR (S : XS) (M : MS) : Prop := ∀ m (hm : m < 2), exI (x_kept S) m = exI (m_isKept M) m ∧ (exI (x_kept S) m ≠ 0 → m_told M ≠ 0 ∧ CaseR (x_images S ⟨m, hm⟩) (rowK (m_kept M) m) (m_names M))
def Rel (S : XS) (M : MS) : Prop := (x_latestTrouble S = m_trouble M ∧ x_latestPlace S = m_place M ∧ x_latestFault S = m_fault M) ∧ TapR S M ∧ NowR (x_now S) (m_told M) (m_s M) (m_names M) ∧ ActR S M ∧ ImgR S M
theorem Rel.core {S : XS} {M : MS} (h : Rel S M) : Core (x_now S) (m_told M) (m_s M) := h.2.2.1.core
theorem Rel.undo {S : XS} {M : MS} (h : Rel S M) : x_undoable S = m_acts M := by
  obtain ⟨A, P, h1, h2, -⟩ := h.2.2.2.1
  rw [h1, h2]
/-- both sides answer alike and stay related -/
def StepR {α : Type} (f : Option (α × XS)) (g : Option (α × MS)) : Prop := ∃ a S2 M2, f = some (a, S2) ∧ g = some (a, M2) ∧ Rel S2 M2
theorem AskR.step {α : Type} {S : XS} {M : MS} {f : Option (α × XS)} {g : Option (α × MS)} (h : AskR S M f g) (hr : Rel S M) : StepR f g := by
  obtain ⟨a, S2, M2, e1, e2, hx, hm, ht, hp⟩ := h
  refine ⟨a, S2, M2, e1, e2, ?_⟩
  simp only [xv, mv, Prod.mk.injEq] at hx hm
  obtain ⟨x1, x2, x3, x4, x5, x6, x7, x8, x9⟩ := hx
  obtain ⟨m1, m2, m3, m4, m5, m6, m7, m8, m9, m10⟩ := hm
  unfold Rel TapR ActR ImgR at *
  rw [x1, x2, x3, x4, x5, x6, x7, x8, x9, m1, m2, m3, m4, m5, m6, m7, m8, m9, m10]
  exact ⟨⟨ht, hp, hr.1.2.2⟩, hr.2⟩
/-- a loop that copies a row -/
theorem copyL {β σ : Type} {n : Nat} (B : (σ → Int32 → Option β) → σ → Int32 → Option β) (mk : (Fin n → Int32) → σ) (k9 : σ → Option β) (b d m : Nat) (src : Nat → Int32) (hd : d + m ≤ n) (hm : m < 900) (f0 : Fin n → Int32)
    (h1 : ∀ rc f i, i < m → (∀ z, z < n → exI f z = if d ≤ z ∧ z < d + i then src (z - d) else exI f0 z) → B rc (mk f) (nI (b + i)) = rc (mk (upI f (d + i) (src i))) (nI (b + i + 1)))
    (h3 : ∀ rc f, (∀ z, z < n → exI f z = if d ≤ z ∧ z < d + m then src (z - d) else exI f0 z) → B rc (mk f) (nI (b + m)) = k9 (mk f)) :
    ∃ f2, (∀ z, z < n → exI f2 z = if d ≤ z ∧ z < d + m then src (z - d) else exI f0 z) ∧ lo2 B FU (mk f0) (nI b) = k9 (mk f2) := by
  refine loopE (fun fu i (f : Fin n → Int32) => lo2 B fu (mk f) (nI (b + i))) (fun f => k9 (mk f)) m (fun i f => ∀ z, z < n → exI f z = if d ≤ z ∧ z < d + i then src (z - d) else exI f0 z) ?_ ?_ m FU 0 f0 (by omega) (by rw [FU_eq]; omega) ?_
  · intro fu i f hi hI
    refine ⟨upI f (d + i) (src i), fun z hz => ?_, (lo2_s _ _ _ _).trans (h1 _ f i hi hI)⟩
    rw [exI_up _ (by omega), hI z hz]
    by_cases q : z = d + i
    · subst q
      rw [if_pos rfl, if_pos (by omega), show d + i - d = i by omega]
    · rw [if_neg q]
      by_cases q2 : d ≤ z ∧ z < d + i
      · rw [if_pos q2, if_pos (by omega)]
      · rw [if_neg q2, if_neg (by omega)]
  · intro fu f hI
    exact (lo2_s _ _ _ _).trans (h3 _ f hI)
  · intro z hz
    rw [if_neg (by omega)]
theorem ix_N {k n : Nat} (h : k < n) (hn : n ≤ 1000) : ixB (nI k) n = some ⟨k, h⟩ := by
  have h1 : inB (nI k) n = true := by
    simp only [inB, Bool.and_eq_true, decide_eq_true_eq]
    exact ⟨nI_pos' (by omega), by rw [nI_clamp (by omega)]; exact h⟩
  unfold ixB
  rw [dif_pos h1]
  exact congrArg some (Fin.ext (nI_clamp (by omega)))
theorem rmI_N {a d : Nat} (ha : a < 2 ^ 31) (h0 : 0 < d) (hd : d < 2 ^ 31) : rmI (nI a) (nI d) = some (nI (a % d)) := by
  unfold rmI
  rw [if_neg (nI_ne0 h0 hd), pk_rem ha h0 hd]
theorem X_beginAct (S : XS) {A P : Nat} (hu : x_undoable S = nI A) (hA : A ≤ 10) (hn : x_nextAct S = nI P) (hP : P < 10) : F_X4_beginAct S = some (xa (xT S 0) (x_now S) (upT (x_earlier S) ⟨P, hP⟩ (x_now S)) (nI (min (A + 1) 10)) (nI ((P + 1) % 10))) := by
  have hu2 : x_undoable (xT S 0) = nI A := hu
  have hn2 : x_nextAct (xT S 0) = nI P := hn
  have he : x_earlier (xT S 0) = x_earlier S := rfl
  unfold F_X4_beginAct
  rw [X_accept, bs, hn2, ix_N hP (by omega), bs, C_copy, bs, nm_eq, ← xa_self (xT S 0), xa_se, xa_n, hn2, nI_1, show (10 : Int32) = nI 10 from rfl, rmI_N (by omega) (by omega) (by omega), bs, nm_eq, xa_sn, nm_eq, xa_u, hu2, nI_1, nm_eq, xa_su, he, xT_now, xa_xa, xa_e, xa_t]
  by_cases h : 10 < A + 1
  · rw [if_pos ((nI_ltI (by omega) (by omega)).mpr h), show min (A + 1) 10 = 10 by omega]
  · rw [if_neg (fun q => h ((nI_ltI (by omega) (by omega)).mp q)), show min (A + 1) 10 = A + 1 by omega]
/-- the rows that the model keeps -/
def kpP (p : Nat → Int32) (s : Nat → Int32) (A : Nat) (z : Nat) : Int32 := if A = 10 then (if 738 ≤ z ∧ z < 820 then s (z - 738) else p (z + 82)) else (if 82 * A ≤ z ∧ z < 82 * A + 82 then s (z - 82 * A) else p z)
theorem M_keep2 (M : MS) (s : Fin 82 → Int32) (p : Fin 820 → Int32) {A : Nat} (hA : A < 10) : ∃ p2, (∀ z, z < 820 → exI p2 z = if 82 * A ≤ z ∧ z < 82 * A + 82 then exI s (z - 82 * A) else exI p z) ∧ J_X5_keeps_49 (ma M s p (nI A)) = some (ma M s p2 (nI (A + 1))) := by
  obtain ⟨p2, h, e⟩ := copyL (B_X5_keeps_51 (fun S5 => nm (ms_acts S5 ((m_acts S5) + (1 : Int32)) : MS) fun S6 => some S6)) (fun f => ma M s f (nI A)) (fun S5 => nm (ms_acts S5 ((m_acts S5) + (1 : Int32)) : MS) fun S6 => some S6) 0 (82 * A) 82 (exI s) (by omega) (by omega) p (by
    intro rc f i hi hI
    unfold B_X5_keeps_51
    rw [show (82 : Int32) = nI 82 from rfl, if_neg (by rw [nI_leI (by omega) (by omega)]; omega), ma_s, rI _ (by omega) (by omega), bs, ma_p, ma_a, pk_mul, nI_add, show 82 * A + (0 + i) = 82 * A + i by omega, show 0 + i = i by omega, wI _ (by omega) (by omega), bs, nm_eq, ma_sp, nm_eq, nI_1]) (by
    intro rc f hI
    unfold B_X5_keeps_51
    rw [if_pos (by decide)])
  refine ⟨p2, h, ?_⟩
  unfold J_X5_keeps_49
  refine (show lo2 _ FU (ma M s p (nI A)) (0 : Int32) = _ from e).trans ?_
  rw [nm_eq, ma_a, nI_1, ma_sa]
theorem M_keeps (M : MS) (s : Fin 82 → Int32) (p : Fin 820 → Int32) {A : Nat} (hA : A ≤ 10) : ∃ p2, (∀ z, z < 820 → exI p2 z = kpP (exI p) (exI s) A z) ∧ F_X5_keeps (ma M s p (nI A)) = some (ma M s p2 (nI (min (A + 1) 10))) := by
  unfold F_X5_keeps
  by_cases h : A = 10
  · subst h
    obtain ⟨p1, h1, e1⟩ := copyL (B_X5_keeps_11 (fun S11 => nm (ms_acts S11 ((m_acts S11) - (1 : Int32)) : MS) fun S12 => J_X5_keeps_49 S12)) (fun f => ma M s f (nI 10)) (fun S11 => nm (ms_acts S11 ((m_acts S11) - (1 : Int32)) : MS) fun S12 => J_X5_keeps_49 S12) 0 0 738 (fun k => exI p (k + 82)) (by omega) (by omega) p (by
      intro rc f i hi hI
      have hz := hI (i + 82) (by omega)
      rw [if_neg (by omega)] at hz
      unfold B_X5_keeps_11
      rw [show (738 : Int32) = nI 738 from rfl, if_neg (by rw [nI_leI (by omega) (by omega)]; omega), ma_p, show (82 : Int32) = nI 82 from rfl, nI_add, show 0 + i = i by omega, rI _ (by omega) (by omega), bs, hz, wI _ (by omega) (by omega), bs, nm_eq, ma_sp, nm_eq, nI_1]) (by
      intro rc f hI
      unfold B_X5_keeps_11
      rw [if_pos (by decide)])
    obtain ⟨p2, h2, e2⟩ := M_keep2 M s p1 (A := 9) (by omega)
    refine ⟨p2, fun z hz => ?_, ?_⟩
    · unfold kpP
      rw [if_pos rfl, h2 z hz, h1 z hz]
      by_cases q : 738 ≤ z ∧ z < 820
      · rw [if_pos (by omega), if_pos q]
      · rw [if_neg (by omega), if_neg q, if_pos (by omega), show z - 0 = z by omega]
    · rw [ma_a, if_pos (show nI 10 = (10 : Int32) from rfl)]
      refine (show lo2 _ FU (ma M s p (nI 10)) (0 : Int32) = _ from e1).trans ?_
      rw [nm_eq, ma_a, nI_less (by omega), ma_sa]
      exact e2
  · obtain ⟨p2, h2, e2⟩ := M_keep2 M s p (A := A) (by omega)
    refine ⟨p2, fun z hz => ?_, ?_⟩
    · unfold kpP
      rw [if_neg h, h2 z hz]
    · rw [ma_a, if_neg (show ¬ nI A = (10 : Int32) from fun q => h ((nI_eq (b := 10) (by omega) (by omega)).mp q)), e2, show min (A + 1) 10 = A + 1 by omega]
end
section
/-! ===== level 2: the ring of acts ===== -/
section RING
variable {S : XS} {M : MS}
theorem rowP_at (p : Fin 820 → Int32) (q : Nat) {k : Nat} (hk : k < 82) : exI (rowP p q) k = exI p (82 * q + k) := by
  simp [exI, rowP, hk]
theorem rowK_at (p : Fin 164 → Int32) (q : Nat) {k : Nat} (hk : k < 82) : exI (rowK p q) k = exI p (82 * q + k) := by
  simp [exI, rowK, hk]
theorem upT_at {n : Nat} (E : Fin n → TS) {P i : Nat} (hP : P < n) (hi : i < n) (T : TS) : upT E ⟨P, hP⟩ T ⟨i, hi⟩ = if i = P then T else E ⟨i, hi⟩ := by
  unfold upT
  by_cases h : i = P
  · rw [if_pos h, if_pos (Fin.ext h)]
  · rw [if_neg h, if_neg (fun q => h (congrArg Fin.val q))]
theorem fin_at {n : Nat} (E : Fin n → TS) {i j : Nat} (hi : i < n) (hj : j < n) (h : i = j) : E ⟨i, hi⟩ = E ⟨j, hj⟩ := by
  subst h
  rfl
theorem ring_step {E : Fin 10 → TS} {P A : Nat} {p p2 : Fin 820 → Int32} {mn : Fin 4 → Int64} {T : TS} {s : Fin 82 → Int32} (h : RingR E P A p mn) (hc : CaseR T s mn) (hp : ∀ z, z < 820 → exI p2 z = kpP (exI p) (exI s) A z) : RingR (upT E ⟨P, h.2.1⟩ T) ((P + 1) % 10) (min (A + 1) 10) p2 mn := by
  obtain ⟨hA, hP, hq⟩ := h
  refine ⟨by omega, by omega, fun q hql => ?_⟩
  rw [upT_at E hP]
  by_cases hA10 : A = 10
  · subst hA10
    by_cases h9 : q = 9
    · subst h9
      rw [if_pos (by omega)]
      have : rowP p2 9 = s := ext_I fun k hk => by
        rw [rowP_at p2 9 hk, hp _ (by omega)]
        unfold kpP
        rw [if_pos rfl, if_pos (by omega), show 82 * 9 + k - 738 = k by omega]
      rw [this]
      exact hc
    · rw [if_neg (by omega)]
      have e1 : rowP p2 q = rowP p (q + 1) := ext_I fun k hk => by
        rw [rowP_at p2 q hk, rowP_at p (q + 1) hk, hp _ (by omega)]
        unfold kpP
        rw [if_pos rfl, if_neg (by omega)]
        exact congrArg (exI p) (by omega)
      rw [e1, fin_at E _ (Nat.mod_lt _ (by decide)) (show ((P + 1) % 10 + 10 - min (10 + 1) 10 + q) % 10 = (P + 10 - 10 + (q + 1)) % 10 by omega)]
      exact hq (q + 1) (by omega)
  · by_cases h9 : q = A
    · subst h9
      rw [if_pos (by omega)]
      have : rowP p2 q = s := ext_I fun k hk => by
        rw [rowP_at p2 q hk, hp _ (by omega)]
        unfold kpP
        rw [if_neg hA10, if_pos (by omega), show 82 * q + k - 82 * q = k by omega]
      rw [this]
      exact hc
    · rw [if_neg (by omega)]
      have e1 : rowP p2 q = rowP p q := ext_I fun k hk => by
        rw [rowP_at p2 q hk, rowP_at p q hk, hp _ (by omega)]
        unfold kpP
        rw [if_neg hA10, if_neg (by omega)]
      rw [e1, fin_at E _ (Nat.mod_lt _ (by decide)) (show ((P + 1) % 10 + 10 - min (A + 1) 10 + q) % 10 = (P + 10 - A + q) % 10 by omega)]
      exact hq q (by omega)
/-- an act begins on both sides -/
theorem act_step (hr : Rel S M) (hc : CaseR (x_now S) (m_s M) (m_names M)) (h0 : m_told M ≠ 0) : ∃ E u n p a, F_X4_beginAct S = some (xa (xT S 0) (x_now S) E u n) ∧ F_X5_keeps (mB M) = some (ma (mB M) (m_s M) p a) ∧ ∀ T s, CaseR T s (m_names M) → Rel (xa (xT S 0) T E u n) (ma (mB M) s p a) := by
  obtain ⟨h1, h2, h3, ⟨A, P, hu, ha, hn, hring⟩, h5⟩ := hr
  obtain ⟨p2, hp2, ek⟩ := M_keeps (mB M) (m_s M) (m_past M) hring.1
  have e0 : ma (mB M) (m_s M) (m_past M) (nI A) = mB M := by
    rw [← ha]
    exact ma_self (mB M)
  rw [e0] at ek
  refine ⟨_, _, _, p2, nI (min (A + 1) 10), X_beginAct S hu hring.1 hn hring.2.1, ek, ?_⟩
  · intro T s hTs
    refine ⟨⟨rfl, rfl, h1.2.2⟩, h2, Or.inr ⟨h0, hTs⟩, ⟨_, _, rfl, rfl, rfl, ring_step hring hc hp2⟩, h5⟩
theorem core_case (hr : Rel S M) {N K : Nat} {c : Nat → Nat} (hT : RowT (x_now S) N K c) (hO : OKc N K c) : m_told M ≠ 0 ∧ CaseR (x_now S) (m_s M) (m_names M) := by
  rcases hr.2.2.1 with ⟨-, h, -⟩ | h
  · have := hO.1
    exact absurd (hT.1.symm.trans h) (nI_ne0 (by omega) (by omega))
  · exact h
theorem case_names {T : TS} {r : Fin 82 → Int32} {mn : Fin 4 → Int64} (h : CaseR T r mn) {N K : Nat} {c : Nat → Nat} (hT : RowT T N K c) (hO : OKc N K c) : ∀ i, i < N → NmR (exL (t_names T) i) (exL mn i) := by
  obtain ⟨N2, K2, c2, hT2, -, hO2, hn⟩ := h
  have h1 := hO.1
  have h2 := hO2.1
  have : N = N2 := (nI_eq (by omega) (by omega)).mp (hT.1.symm.trans hT2.1)
  subst this
  exact hn
end RING
/-! one number changed -/
def cU (c : Nat → Nat) (y v : Nat) : Nat → Nat := fun z => if z = y then v else c z
section ONE
variable {N K : Nat} {c : Nat → Nat} {y v : Nat}
theorem cU_far {z : Nat} (h : z ≠ y) : cU c y v z = c z := if_neg h
theorem cU_at : cU c y v y = v := if_pos rfl
theorem cU_on (h : y < 34) (k : Nat) : onI (cU c y v) k = onI c k := by
  unfold onI
  rw [cU_far (z := 34 + 4 * k) (by omega), cU_far (z := 34 + 4 * k + 1) (by omega)]
theorem cU_Ts {T : TS} (hT : RowT T N K c) (hN : N ≤ 4) {i w : Nat} (hi : i < N) (hw : w < 6) : RowT (ts_shipRows T (upI (t_shipRows T) (6 * i + w) (nI v))) N K (cU c (10 + 6 * i + w) v) := by
  obtain ⟨h1, h2, h3, h4, h5⟩ := hT
  refine ⟨h1, h2, ?_, ?_, ?_⟩
  · intro x hx hx2
    rw [cU_far (by omega)]
    exact h3 x hx hx2
  · intro k hk x hx
    show exI (upI (t_shipRows T) (6 * i + w) (nI v)) (6 * k + x) = _
    rw [exI_up _ (by omega)]
    by_cases q : 6 * k + x = 6 * i + w
    · rw [if_pos q, show 10 + 6 * k + x = 10 + 6 * i + w by omega, cU_at]
    · rw [if_neg q, cU_far (by omega)]
      exact h4 k hk x hx
  · intro k hk
    refine ⟨fun x hx hx1 => ?_, ?_⟩
    · rw [cU_far (by omega)]
      exact (h5 k hk).1 x hx hx1
    · rw [cU_on (by omega)]
      exact (h5 k hk).2
theorem cU_Tl {T : TS} (hT : RowT T N K c) {w : Nat} (hw : w < 10) : RowT (ts_laws T (upI (t_laws T) w (nI v))) N K (cU c w v) := by
  obtain ⟨h1, h2, h3, h4, h5⟩ := hT
  refine ⟨h1, h2, ?_, ?_, ?_⟩
  · intro x hx hx2
    show exI (upI (t_laws T) w (nI v)) x = _
    rw [exI_up _ (by omega)]
    by_cases q : x = w
    · rw [if_pos q, q, cU_at]
    · rw [if_neg q, cU_far q]
      exact h3 x hx hx2
  · intro k hk x hx
    rw [cU_far (by omega)]
    exact h4 k hk x hx
  · intro k hk
    refine ⟨fun x hx hx1 => ?_, ?_⟩
    · rw [cU_far (by omega)]
      exact (h5 k hk).1 x hx hx1
    · rw [cU_on (by omega)]
      exact (h5 k hk).2
theorem cU_R {r : Fin 82 → Int32} (hR : RowR r N K c) (hN : N ≤ 4) (hK : K ≤ 12) (hy : 2 ≤ y) (hy2 : y < 34) : RowR (upI r y (nI v)) N K (cU c y v) := by
  obtain ⟨h1, h2, h3, h4, h5⟩ := hR
  have at' : ∀ z, exI (upI r y (nI v)) z = if z = y then nI v else exI r z := fun z => exI_up r (by omega) _ z
  refine ⟨?_, ?_, ?_, ?_, ?_⟩
  · rw [at', if_neg (by omega)]
    exact h1
  · rw [at', if_neg (by omega)]
    exact h2
  · intro x hx hx2
    rw [at']
    by_cases q : x = y
    · rw [if_pos q, q, cU_at]
    · rw [if_neg q, cU_far q]
      exact h3 x hx hx2
  · intro k hk x hx
    rw [at']
    by_cases q : 10 + 6 * k + x = y
    · rw [if_pos q, q, cU_at]
    · rw [if_neg q, cU_far q]
      exact h4 k hk x hx
  · intro k hk
    refine ⟨fun x hx hx1 => ?_, ?_⟩
    · rw [at', if_neg (by omega), cU_far (by omega)]
      exact (h5 k hk).1 x hx hx1
    · rw [at', if_neg (by omega), cU_on (by omega)]
      exact (h5 k hk).2
/-- a ship's number within its bounds -/
def shB (w v : Nat) : Prop := (w = 0 ∧ 1 ≤ v ∧ v ≤ 99999) ∨ ((w = 2 ∨ w = 3) ∧ v ≤ 9999999) ∨ ((w = 4 ∨ w = 5) ∧ v ≤ 1)
theorem cU_OKs (hO : OKc N K c) {i w : Nat} (hi : i < N) (hw : shB w v) : OKc N K (cU c (10 + 6 * i + w) v) := by
  obtain ⟨h1, h2, h3, h4, h5⟩ := hO
  have hw5 : w < 6 ∧ w ≠ 1 := by
    unfold shB at hw
    omega
  refine ⟨h1, ?_, ?_, ?_, ?_⟩
  · rw [cU_far (z := 2) (by omega), cU_far (z := 3) (by omega), cU_far (z := 4) (by omega), cU_far (z := 5) (by omega), cU_far (z := 6) (by omega), cU_far (z := 7) (by omega), cU_far (z := 8) (by omega), cU_far (z := 9) (by omega)]
    exact h2
  · intro k hk
    have hb := h3 k hk
    unfold shB at hw
    unfold cU
    refine ⟨?_, ?_, ?_, ?_, ?_, ?_, ?_⟩
    · split <;> omega
    · split <;> omega
    · split <;> omega
    · split <;> omega
    · split <;> omega
    · split <;> omega
    · split <;> omega
  · exact (sN_eq fun k hk => cU_far (by omega)).trans h4
  · intro k hk
    rw [cU_far (z := 34 + 4 * k) (by omega), cU_far (z := 34 + 4 * k + 1) (by omega), cU_far (z := 34 + 4 * k + 2) (by omega), cU_far (z := 34 + 4 * k + 3) (by omega)]
    exact h5 k hk
def lwB (c : Nat → Nat) (w v : Nat) : Prop := (2 ≤ w ∧ w ≤ 4 ∧ v ≤ 1) ∨ ((w = 5 ∨ w = 6) ∧ v ≤ 99999) ∨ (w = 7 ∧ 1 ≤ v ∧ v ≤ 99999) ∨ (w = 8 ∧ v ≤ c 9) ∨ (w = 9 ∧ c 8 ≤ v ∧ v ≤ 999)
theorem cU_OKl (hO : OKc N K c) {w : Nat} (hw : lwB c w v) : OKc N K (cU c w v) := by
  obtain ⟨h1, h2, h3, h4, h5⟩ := hO
  have hw5 : 2 ≤ w ∧ w < 10 := by
    unfold lwB at hw
    omega
  refine ⟨h1, ?_, ?_, ?_, ?_⟩
  · unfold lwB at hw
    unfold cU
    refine ⟨?_, ?_, ?_, ?_, ?_, ?_, ?_, ?_, ?_⟩
    · split <;> omega
    · split <;> omega
    · split <;> omega
    · split <;> omega
    · split <;> omega
    · split <;> omega
    · split <;> omega
    · split <;> split <;> omega
    · split <;> omega
  · intro k hk
    rw [cU_far (z := 10 + 6 * k) (by omega), cU_far (z := 10 + 6 * k + 1) (by omega), cU_far (z := 10 + 6 * k + 2) (by omega), cU_far (z := 10 + 6 * k + 3) (by omega), cU_far (z := 10 + 6 * k + 4) (by omega), cU_far (z := 10 + 6 * k + 5) (by omega)]
    exact h3 k hk
  · exact (sN_eq fun k hk => cU_far (by omega)).trans h4
  · intro k hk
    rw [cU_far (z := 34 + 4 * k) (by omega), cU_far (z := 34 + 4 * k + 1) (by omega), cU_far (z := 34 + 4 * k + 2) (by omega), cU_far (z := 34 + 4 * k + 3) (by omega)]
    exact h5 k hk
end ONE
end
section
/-! ===== level 2: shift, become, law ===== -/
section ACTS
variable {S : XS} {M : MS}
theorem ix6 (k w : Nat) : (10 : Int32) + (6 : Int32) * nI k + nI w = nI (10 + 6 * k + w) := by
  rw [show (10 : Int32) = nI 10 from rfl, show (6 : Int32) = nI 6 from rfl, pk_mul, nI_add, nI_add]
theorem C_shw {T : TS} {N K : Nat} {c : Nat → Nat} (hT : RowT T N K c) (hN : N ≤ 4) {a w : Nat} (ha : a < N) (hw : w < 6) : F_X2_ofShip T (nI a) (nI w) = some (nI (c (10 + 6 * a + w))) := by
  unfold F_X2_ofShip
  rw [show (6 : Int32) = nI 6 from rfl, pk_mul, nI_add, show a * 6 + w = 6 * a + w by omega, rI _ (by omega) (by omega), hT.2.2.2.1 a ha w hw]
  rfl
theorem C_set (T : TS) {i w : Nat} (hi : i < 4) (hw : w < 6) (v : Int32) : F_X2_setShip T (nI i) (nI w) v = some (ts_shipRows T (upI (t_shipRows T) (6 * i + w) v)) := by
  unfold F_X2_setShip
  rw [show (6 : Int32) = nI 6 from rfl, pk_mul, nI_add, show i * 6 + w = 6 * i + w by omega, wI _ (by omega) (by omega), bs, nm_eq]
theorem M_shw {r : Fin 82 → Int32} {N K : Nat} {c : Nat → Nat} (hR : RowR r N K c) (hN : N ≤ 4) {a w : Nat} (ha : a < N) (hw : w < 6) : rdI r (nI (10 + 6 * a + w)) = some (nI (c (10 + 6 * a + w))) := by
  rw [rI _ (by omega) (by omega), hR.2.2.2.1 a ha w hw]
theorem case_ship {T : TS} {r : Fin 82 → Int32} {mn : Fin 4 → Int64} (h : CaseR T r mn) {N K : Nat} {c c2 : Nat → Nat} (hT : RowT T N K c) (hO : OKc N K c) (f : Fin 24 → Int32) {r2 : Fin 82 → Int32} (hT2 : RowT (ts_shipRows T f) N K c2) (hR2 : RowR r2 N K c2) (hO2 : OKc N K c2) : CaseR (ts_shipRows T f) r2 mn :=
  ⟨N, K, c2, hT2, hR2, hO2, case_names h hT hO⟩
theorem A_shift (hr : Rel S M) (x y z : Int32) : StepR (F_X4_shift S x y z) (F_X5_shift M x y z) := by
  have h := hr.core
  have no : StepR (J_X4_shift_16 S) (J_X5_shift_21 (mB M) x y z) := by
    refine AskR.step (S := S) (M := M) ?_ hr
    unfold J_X4_shift_16 J_X5_shift_21 J_X5_shift_26
    rw [X_none, bs, M_ref1 (mB_tr M) (by decide), bs, if_neg n10]
    exact ask_no _ _
  have no5 : StepR (J_X4_shift_56 S) (J_X5_shift_77 (mB M) x y z) := by
    refine AskR.step (S := S) (M := M) ?_ hr
    unfold J_X4_shift_56 J_X5_shift_77 J_X5_shift_82
    rw [X_none, bs, M_ref1 (mB_tr M) (by decide), bs, if_neg n10]
    exact ask_no _ _
  unfold F_X4_shift F_X5_shift
  rw [M_begins, bs]
  rcases A_ship h x with ⟨e1, e2⟩ | ⟨N, K, c, i, hT, hR, hO, hi, rfl, e1, e2⟩
  · rw [e1, e2, bs, bs, if_pos rfl, if_pos rfl]
    exact no
  · rw [e1, e2, bs, bs, if_neg n10, if_neg n10]
    rcases A_ship h y with ⟨e3, e4⟩ | ⟨N2, K2, c2, j, hT2, hR2, hO2, hj, rfl, e3, e4⟩
    · rw [e3, e4, bs, bs, if_pos rfl, if_pos rfl]
      exact no
    · obtain ⟨rfl, rfl⟩ := sameN hT hT2 hO hO2
      have hN := hO.1
      rw [e3, e4, bs, bs, if_neg n10, if_neg n10]
      unfold J_X5_shift_26
      rw [M_ref0 (mB_tr M), bs, if_pos rfl, show F_X5_in z.toInt64 1 10 = F_X4_within z 1 10 from M_in2 z 1 10]
      rcases W_casesL z (l := 1) (b := 10) (by omega) (by omega) with e | ⟨e, a, ha1, ha2, rfl⟩
      · have e' : F_X4_within z 1 10 = some 0 := e
        refine AskR.step (S := S) (M := M) ?_ hr
        unfold J_X5_shift_51
        rw [e', bs, bs, if_pos rfl, if_pos rfl, X_none, bs, M_ref1 (mB_tr M) (by decide), bs, if_neg n10]
        exact ask_no _ _
      · have e' : F_X4_within (nI a) 1 10 = some 1 := e
        unfold J_X5_shift_51
        rw [e', bs, bs, if_neg n10, if_neg n10, M_ref0 (mB_tr M), bs, if_pos rfl]
        by_cases hab : nI i = nI j
        · rw [if_pos hab, if_pos hab]
          exact no5
        · have hij : i ≠ j := fun q => hab (by rw [q])
          have m1 : F_X5_ofShip (m_s M) (nI i) 1 = some (nI (c (10 + 6 * i + 1))) := Sh hR hO hi (w := 1) (by decide)
          rw [if_neg hab, if_neg hab, X_of1 hT hN.2.1 hi, bs, mB_s, m1, bs]
          have s1 := (hO.2.2.1 i hi).2.2.1
          have s2 := (hO.2.2.1 j hj).2.2.1
          by_cases hle : nI a ≤ nI (c (10 + 6 * i + 1))
          · rw [if_pos hle, if_pos hle]
            rw [nI_leI (by omega) (by omega)] at hle
            obtain ⟨h0, hc⟩ := core_case hr hT hO
            obtain ⟨E, u, n, p, b, eb, ek, hrel⟩ := act_step hr hc h0
            have hTd : RowT (x_now S) N2 K2 (cD c (fun k => c (10 + 6 * k + 1))) := by rw [cD_self]; exact hT
            have hRd : RowR (m_s M) N2 K2 (cD c (fun k => c (10 + 6 * k + 1))) := by rw [cD_self]; exact hR
            have hT1 := cD_T hTd hN.2.1 hi (c (10 + 6 * i + 1) - a)
            have hR1 := cD_R hRd hN.2.1 hN.2.2 hi (c (10 + 6 * i + 1) - a)
            have hTt := cD_T hT1 hN.2.1 hj (c (10 + 6 * j + 1) + a)
            have hRt := cD_R hR1 hN.2.1 hN.2.2 hj (c (10 + 6 * j + 1) + a)
            have hsum : sN (fun k => if k = j then c (10 + 6 * j + 1) + a else if k = i then c (10 + 6 * i + 1) - a else c (10 + 6 * k + 1)) N2 = 10 := by
              have q1 := sN_up (fun k => c (10 + 6 * k + 1)) i (c (10 + 6 * i + 1) - a) N2
              have q2 := sN_up (fun k => if k = i then c (10 + 6 * i + 1) - a else c (10 + 6 * k + 1)) j (c (10 + 6 * j + 1) + a) N2
              rw [if_pos hi, if_pos hi, hO.2.2.2.1] at q1
              rw [if_pos hj, if_pos hj, if_neg (fun q => hij q.symm)] at q2
              omega
            have hOt := cD_OK hO hsum
            have x2 := X_of1 hT1 hN.2.1 hj
            rw [cD_ten (by omega), if_neg (fun q => hij q.symm)] at x2
            have x3 := X_of1 hTt hN.2.1 hj
            rw [cD_ten (by omega), if_pos rfl] at x3
            have y1 := M_shw hR hN.2.1 hi (w := 1) (by omega)
            have y2 := M_shw hR1 hN.2.1 hj (w := 1) (by omega)
            rw [cD_ten (by omega), if_neg (fun q => hij q.symm)] at y2
            have y3 : F_X5_ofShip _ (nI j) 1 = some _ := Sh hRt hOt hj (w := 1) (by decide)
            rw [cD_ten (by omega), if_pos rfl] at y3
            have ix1 : ∀ k : Nat, (10 : Int32) + (6 : Int32) * nI k + (1 : Int32) = nI (10 + 6 * k + 1) := fun k => ix6 k 1
            unfold J_X5_shift_82
            rw [eb, bs, xa_t, X_of1 hT hN.2.1 hi, bs, nI_subI hle, X_setShip _ (by omega), bs, nm_eq, xa_st, xa_t, x2, bs, nI_add, X_setShip _ (by omega), bs, nm_eq, xa_st, xa_t, x3, bs]
            rw [M_ref0 (mB_tr M), bs, if_pos rfl, ek, bs, nm_eq, ma_s, ix1, y1, bs, nI_subI hle, wI _ (by omega) (by omega), bs, nm_eq, ma_ss, nm_eq, ma_s, ix1, y2, bs, nI_add, wI _ (by omega) (by omega), bs, nm_eq, ma_ss, ma_s, y3, bs]
            exact ⟨_, _, _, rfl, rfl, hrel _ _ ⟨N2, K2, _, hTt, hRt, hOt, case_names hc hT hO⟩⟩
          · rw [if_neg hle, if_neg hle]
            exact no5
theorem sAf_at {k w : Nat} {v : Int32} (hw : w < (sA_v k).length) (hn : (sA_v k).length ≤ 1000) (h : (sA_v k).getD w 0 = v) : rdI (sAf k) (nI w) = some v := by
  rw [rI _ hw hn]
  simp only [exI, dif_pos hw, sAf]
  rw [h]
theorem M_isWithin (x v : Int32) : F_X5_isWithin x v = F_X4_within v (if x = 0 then 1 else 0) (if x = 0 then 99999 else if x = 2 ∨ x = 3 then 9999999 else 1) := by
  have hz : ∀ l h : Int32, (F_X4_within v l h).bind (fun q => zz q <| some q) = F_X4_within v l h := by
    intro l h
    rcases W_any v l h with e | e
    · rw [e]; rfl
    · rw [e]; rfl
  have i1 : F_X5_in v.toInt64 1 99999 = F_X4_within v 1 99999 := M_in2 v 1 99999
  have i2 : F_X5_in v.toInt64 0 9999999 = F_X4_within v 0 9999999 := M_in2 v 0 9999999
  have i3 : F_X5_in v.toInt64 0 1 = F_X4_within v 0 1 := M_in2 v 0 1
  unfold F_X5_isWithin J_X5_isWithin_42 J_X5_isWithin_52
  rw [i1, i2, i3, hz, hz, hz]
  by_cases h0 : x = 0
  · rw [if_pos h0, if_pos h0, if_pos h0]
  · rw [if_neg h0, if_neg h0, if_neg h0]
    by_cases h1 : x = 1
    · rw [if_pos h1, if_neg (by subst h1; decide)]
    · rw [if_neg h1]
      by_cases h2 : x = 2
      · rw [if_pos h2, if_pos (Or.inl h2)]
      · rw [if_neg h2]
        by_cases h3 : x = 3
        · rw [if_pos h3, if_pos (Or.inr h3)]
        · rw [if_neg h3, if_neg (by rintro (q | q) <;> contradiction)]
theorem A_become (hr : Rel S M) (x y z : Int32) : StepR (F_X4_become S x y z) (F_X5_become M x y z) := by
  have h := hr.core
  have no : StepR (J_X4_become_22 S) (J_X5_become_30 (mB M) x y z) := by
    refine AskR.step (S := S) (M := M) ?_ hr
    unfold J_X4_become_22 J_X5_become_30 J_X5_become_35
    rw [X_none, bs, M_ref1 (mB_tr M) (by decide), bs, if_neg n10]
    exact ask_no _ _
  unfold F_X4_become F_X5_become
  rw [M_begins, bs]
  rcases A_ship h x with ⟨e1, e2⟩ | ⟨N, K, c, i, hT, hR, hO, hi, rfl, e1, e2⟩
  · rw [e1, e2, bs, bs, if_pos rfl, if_pos rfl]
    exact no
  · have hN := hO.1
    rw [e1, e2, bs, bs, if_neg n10, if_neg n10, show F_X5_in y.toInt64 0 5 = F_X4_within y 0 5 from M_in2 y 0 5]
    rcases W_cases y (b := 5) (by omega) with e | ⟨e, w, hw, rfl⟩
    · have e' : F_X4_within y 0 5 = some 0 := e
      rw [e', bs, bs, if_pos rfl, if_pos rfl]
      exact no
    · have e' : F_X4_within (nI w) 0 5 = some 1 := e
      rw [e', bs, bs, if_neg n10, if_neg n10]
      by_cases h1 : nI w = 1
      · rw [if_pos h1, if_pos h1]
        exact no
      · rw [if_neg h1, if_neg h1]
        unfold J_X5_become_35
        rw [M_ref0 (mB_tr M), bs, if_pos rfl, M_isWithin]
        have hw1 : w ≠ 1 := fun q => h1 (by rw [q]; rfl)
        have hb : rdI (sAf 0) (nI w) = some (if nI w = 0 then 1 else 0) ∧ rdI (sAf 1) (nI w) = some (if nI w = 0 then 99999 else if nI w = 2 ∨ nI w = 3 then 9999999 else 1) := by
          rcases (show w = 0 ∨ w = 2 ∨ w = 3 ∨ w = 4 ∨ w = 5 by omega) with rfl | rfl | rfl | rfl | rfl
          · exact ⟨sAf_at (by decide) (by decide) (by decide), sAf_at (by decide) (by decide) (by decide)⟩
          · exact ⟨sAf_at (by decide) (by decide) (by decide), sAf_at (by decide) (by decide) (by decide)⟩
          · exact ⟨sAf_at (by decide) (by decide) (by decide), sAf_at (by decide) (by decide) (by decide)⟩
          · exact ⟨sAf_at (by decide) (by decide) (by decide), sAf_at (by decide) (by decide) (by decide)⟩
          · exact ⟨sAf_at (by decide) (by decide) (by decide), sAf_at (by decide) (by decide) (by decide)⟩
        rw [hb.1, bs, hb.2, bs]
        have hv : (F_X4_within z (if nI w = 0 then 1 else 0) (if nI w = 0 then 99999 else if nI w = 2 ∨ nI w = 3 then 9999999 else 1) = some 0) ∨ (F_X4_within z (if nI w = 0 then 1 else 0) (if nI w = 0 then 99999 else if nI w = 2 ∨ nI w = 3 then 9999999 else 1) = some 1 ∧ ∃ v, shB w v ∧ z = nI v) := by
          unfold shB
          rcases (show w = 0 ∨ w = 2 ∨ w = 3 ∨ w = 4 ∨ w = 5 by omega) with rfl | rfl | rfl | rfl | rfl
          · rcases W_casesL z (l := 1) (b := 99999) (by omega) (by omega) with q | ⟨q, v, q1, q2, q3⟩
            · exact Or.inl q
            · exact Or.inr ⟨q, v, by omega, q3⟩
          · rcases W_casesL z (l := 0) (b := 9999999) (by omega) (by omega) with q | ⟨q, v, q1, q2, q3⟩
            · exact Or.inl q
            · exact Or.inr ⟨q, v, by omega, q3⟩
          · rcases W_casesL z (l := 0) (b := 9999999) (by omega) (by omega) with q | ⟨q, v, q1, q2, q3⟩
            · exact Or.inl q
            · exact Or.inr ⟨q, v, by omega, q3⟩
          · rcases W_casesL z (l := 0) (b := 1) (by omega) (by omega) with q | ⟨q, v, q1, q2, q3⟩
            · exact Or.inl q
            · exact Or.inr ⟨q, v, by omega, q3⟩
          · rcases W_casesL z (l := 0) (b := 1) (by omega) (by omega) with q | ⟨q, v, q1, q2, q3⟩
            · exact Or.inl q
            · exact Or.inr ⟨q, v, by omega, q3⟩
        rcases hv with e3 | ⟨e3, v, hvb, rfl⟩
        · refine AskR.step (S := S) (M := M) ?_ hr
          unfold J_X5_become_56
          rw [e3, bs, bs, if_pos rfl, if_pos rfl, X_none, bs, M_ref1 (mB_tr M) (by decide), bs, if_neg n10]
          exact ask_no _ _
        · obtain ⟨h0, hc⟩ := core_case hr hT hO
          obtain ⟨E, u, n, p, b, eb, ek, hrel⟩ := act_step hr hc h0
          have hT2 := cU_Ts (v := v) hT hN.2.1 hi (show w < 6 by omega)
          have hR2 := cU_R (v := v) hR hN.2.1 hN.2.2 (y := 10 + 6 * i + w) (by omega) (by omega)
          have hO2 := cU_OKs hO hi hvb
          unfold J_X5_become_56
          rw [e3, bs, bs, if_neg n10, if_neg n10, eb, bs, xa_t, C_shw hT hN.2.1 hi (by omega), bs, C_set _ (by omega) (by omega), bs, nm_eq, xa_st]
          rw [M_ref0 (mB_tr M), bs, if_pos rfl, ek, bs, ma_s, Sh hR hO hi (by omega), bs, ix6, wI _ (by omega) (by omega), bs, nm_eq, ma_ss]
          exact ⟨_, _, _, rfl, rfl, hrel _ _ ⟨N, K, _, hT2, hR2, hO2, case_names hc hT hO⟩⟩
theorem A_law (hr : Rel S M) (x y : Int32) : StepR (F_X4_law S x y) (F_X5_law M x y) := by
  have h := hr.core
  have no : StepR (J_X4_law_17 S) (J_X5_law_26 (mB M) x y) := by
    refine AskR.step (S := S) (M := M) ?_ hr
    unfold J_X4_law_17 J_X5_law_26 J_X5_law_31
    rw [X_none, bs, M_ref1 (mB_tr M) (by decide), bs, if_neg n10]
    exact ask_no _ _
  have no5 : StepR (J_X4_law_86 S) (J_X5_law_120 (mB M) x y 1) := by
    refine AskR.step (S := S) (M := M) ?_ hr
    unfold J_X4_law_86 J_X5_law_120
    rw [X_none, bs, M_ref1 (mB_tr M) (by decide), bs, if_neg n10]
    exact ask_no _ _
  unfold F_X4_law F_X5_law
  rw [M_begins, bs]
  rcases A_text h with ⟨e1, e2⟩ | ⟨N, K, c, hT, hR, hO, e1, e2⟩
  · rw [e1, bs, if_pos rfl, if_pos e2]
    exact no
  · have hN := hO.1
    have hl := hO.2.1
    rw [e1, bs, if_neg n10, if_neg e2, show F_X5_in x.toInt64 2 9 = F_X4_within x 2 9 from M_in2 x 2 9]
    rcases W_casesL x (l := 2) (b := 9) (by omega) (by omega) with e | ⟨e, w, hw1, hw2, rfl⟩
    · have e' : F_X4_within x 2 9 = some 0 := e
      rw [e', bs, bs, if_pos rfl, if_pos rfl]
      exact no
    · have e' : F_X4_within (nI w) 2 9 = some 1 := e
      rw [e', bs, bs, if_neg n10, if_neg n10]
      have hb : ∃ l b : Nat, l < 2 ^ 31 ∧ b < 2 ^ 31 ∧ rdI (sAf 2) (nI w) = some (nI l) ∧ rdI (sAf 3) (nI w) = some (nI b) ∧ F_X5_lowOf (nI w) = some (nI l) ∧ F_X5_highOf (nI w) = some (nI b) ∧ (∀ v, l ≤ v → v ≤ b → (w = 8 → v ≤ c 9) → (w = 9 → c 8 ≤ v) → lwB c w v) := by
        unfold lwB
        rcases (show w = 2 ∨ w = 3 ∨ w = 4 ∨ w = 5 ∨ w = 6 ∨ w = 7 ∨ w = 8 ∨ w = 9 by omega) with rfl | rfl | rfl | rfl | rfl | rfl | rfl | rfl
        · exact ⟨0, 1, by omega, by omega, sAf_at (by decide) (by decide) (by decide), sAf_at (by decide) (by decide) (by decide), rfl, rfl, fun v _ _ _ _ => by omega⟩
        · exact ⟨0, 1, by omega, by omega, sAf_at (by decide) (by decide) (by decide), sAf_at (by decide) (by decide) (by decide), rfl, rfl, fun v _ _ _ _ => by omega⟩
        · exact ⟨0, 1, by omega, by omega, sAf_at (by decide) (by decide) (by decide), sAf_at (by decide) (by decide) (by decide), rfl, rfl, fun v _ _ _ _ => by omega⟩
        · exact ⟨0, 99999, by omega, by omega, sAf_at (by decide) (by decide) (by decide), sAf_at (by decide) (by decide) (by decide), rfl, rfl, fun v _ _ _ _ => by omega⟩
        · exact ⟨0, 99999, by omega, by omega, sAf_at (by decide) (by decide) (by decide), sAf_at (by decide) (by decide) (by decide), rfl, rfl, fun v _ _ _ _ => by omega⟩
        · exact ⟨1, 99999, by omega, by omega, sAf_at (by decide) (by decide) (by decide), sAf_at (by decide) (by decide) (by decide), rfl, rfl, fun v _ _ _ _ => by omega⟩
        · exact ⟨0, 999, by omega, by omega, sAf_at (by decide) (by decide) (by decide), sAf_at (by decide) (by decide) (by decide), rfl, rfl, fun v _ _ _ _ => by omega⟩
        · exact ⟨0, 999, by omega, by omega, sAf_at (by decide) (by decide) (by decide), sAf_at (by decide) (by decide) (by decide), rfl, rfl, fun v _ _ _ _ => by omega⟩
      obtain ⟨l, b, hl1, hb1, r1, r2, f1, f2, hlw⟩ := hb
      unfold J_X5_law_31
      rw [r1, bs, r2, bs, M_ref0 (mB_tr M), bs, if_pos rfl, f1, bs, f2, bs, M_in2]
      have g8 : rdI (m_s M) 8 = some (nI (c 8)) := Rw hR (w := 8) (by decide) (by decide)
      have g9 : rdI (m_s M) 9 = some (nI (c 9)) := Rw hR (w := 9) (by decide) (by decide)
      have t8 : rdI (t_laws (x_now S)) 8 = some (nI (c 8)) := C_law hT (w := 8) (by decide) (by decide)
      have t9 : rdI (t_laws (x_now S)) 9 = some (nI (c 9)) := C_law hT (w := 9) (by decide) (by decide)
      rcases W_casesL y hl1 hb1 with e3 | ⟨e3, v, hv1, hv2, rfl⟩
      · refine AskR.step (S := S) (M := M) ?_ hr
        unfold J_X5_law_62
        rw [e3, bs, bs, if_pos rfl, if_pos rfl, X_none, bs, M_ref1 (mB_tr M) (by decide), bs, if_neg n10]
        exact ask_no _ _
      · have yes : (w = 8 → v ≤ c 9) → (w = 9 → c 8 ≤ v) → StepR (J_X4_law_92 S (nI w) (nI v)) (J_X5_law_120 (mB M) (nI w) (nI v) 0) := by
          intro q8 q9
          obtain ⟨h0, hc⟩ := core_case hr hT hO
          obtain ⟨E, u, n, p, b, eb, ek, hrel⟩ := act_step hr hc h0
          have hT2 := cU_Tl (v := v) hT (show w < 10 by omega)
          have hR2 := cU_R (v := v) hR hN.2.1 hN.2.2 (y := w) (by omega) (by omega)
          have hO2 := cU_OKl hO (hlw v hv1 hv2 q8 q9)
          unfold J_X4_law_92 J_X5_law_120
          rw [eb, bs, xa_t, C_law hT (by omega) (by omega), bs, wI _ (by omega) (by omega), bs, nm_eq, xa_st]
          rw [M_ref0 (mB_tr M), bs, if_pos rfl, ek, bs, ma_s, Rw hR (by omega) (by omega), bs, wI _ (by omega) (by omega), bs, nm_eq, ma_ss]
          exact ⟨_, _, _, rfl, rfl, hrel _ _ ⟨N, K, _, hT2, hR2, hO2, case_names hc hT hO⟩⟩
        unfold J_X5_law_62
        rw [e3, bs, bs, if_neg n10, if_neg n10, M_ref0 (mB_tr M), bs, if_pos rfl, mB_s, g8, bs]
        by_cases w8 : w = 8
        · have d8 : nI w = 8 := by rw [w8]; rfl
          have d9 : ¬ nI w = 9 := by rw [w8]; decide
          rw [if_pos d8, if_pos d8, t9, bs]
          unfold J_X5_law_88 J_X4_law_66 J_X5_law_106
          rw [if_neg d9, if_neg d9, mB_s, g9, bs]
          by_cases q : c 9 < v
          · rw [if_pos ((nI_ltI (by omega) (by omega)).mpr q), if_neg (by rw [nI_leI (by omega) (by omega)]; omega)]
            exact no5
          · rw [if_neg (by rw [nI_ltI (by omega) (by omega)]; omega), if_pos (by rw [nI_leI (by omega) (by omega)]; omega)]
            exact yes (fun _ => by omega) (fun _ => by omega)
        · have d8 : ¬ nI w = 8 := fun q => w8 ((nI_eq (b := 8) (by omega) (by omega)).mp q)
          rw [if_neg d8, if_neg d8]
          unfold J_X5_law_88 J_X4_law_66 J_X5_law_106
          by_cases w9 : w = 9
          · have d9 : nI w = 9 := by rw [w9]; rfl
            rw [if_pos d9, if_pos d9, t8, bs]
            by_cases q : c 8 ≤ v
            · rw [if_pos ((nI_leI (by omega) (by omega)).mpr q), if_pos ((nI_leI (by omega) (by omega)).mpr q)]
              exact yes (fun _ => by omega) (fun _ => by omega)
            · rw [if_neg (by rw [nI_leI (by omega) (by omega)]; omega), if_neg (by rw [nI_leI (by omega) (by omega)]; omega)]
              exact no5
          · have d9 : ¬ nI w = 9 := fun q => w9 ((nI_eq (b := 9) (by omega) (by omega)).mp q)
            rw [if_neg d9, if_neg d9, mB_s, g9, bs, if_pos (by rw [nI_leI (by omega) (by omega)]; omega)]
            exact yes (fun _ => by omega) (fun _ => by omega)
end ACTS
end
section
/-! ===== level 2: file, withdraw ===== -/
def cF (c : Nat → Nat) (K a b m d : Nat) : Nat → Nat := fun z => if z = 34 + 4 * K then a else if z = 34 + 4 * K + 1 then b else if z = 34 + 4 * K + 2 then m else if z = 34 + 4 * K + 3 then d else c z
def cW (c : Nat → Nat) (k : Nat) : Nat → Nat := fun z => if 34 + 4 * k ≤ z then c (z + 4) else c z
section FILE
variable {N K : Nat} {c : Nat → Nat}
theorem cF_far {K a b m d z : Nat} (h : z < 34 + 4 * K) : cF c K a b m d z = c z := by
  unfold cF
  rw [if_neg (by omega), if_neg (by omega), if_neg (by omega), if_neg (by omega)]
theorem cF_0 {K a b m d : Nat} : cF c K a b m d (34 + 4 * K) = a := if_pos rfl
theorem cF_1 {K a b m d : Nat} : cF c K a b m d (34 + 4 * K + 1) = b := by
  unfold cF
  rw [if_neg (by omega), if_pos rfl]
theorem cF_2 {K a b m d : Nat} : cF c K a b m d (34 + 4 * K + 2) = m := by
  unfold cF
  rw [if_neg (by omega), if_neg (by omega), if_pos rfl]
theorem cF_3 {K a b m d : Nat} : cF c K a b m d (34 + 4 * K + 3) = d := by
  unfold cF
  rw [if_neg (by omega), if_neg (by omega), if_neg (by omega), if_pos rfl]
theorem cF_on {K a b m d k : Nat} (h : k < K) : onI (cF c K a b m d) k = onI c k := by
  unfold onI
  rw [cF_far (by omega), cF_far (by omega)]
theorem cF_OK {a b m d : Nat} (hO : OKc N K c) (hK : K < 12) (ha : a ≤ 2) (hb : a = 0 → b < N) (hm1 : 1 ≤ m) (hm : m ≤ 9999999) (hd : d ≤ 999) : OKc N (K + 1) (cF c K a b m d) := by
  obtain ⟨h1, h2, h3, h4, h5⟩ := hO
  refine ⟨⟨h1.1, h1.2.1, by omega⟩, ?_, ?_, ?_, ?_⟩
  · rw [cF_far (z := 2) (by omega), cF_far (z := 3) (by omega), cF_far (z := 4) (by omega), cF_far (z := 5) (by omega), cF_far (z := 6) (by omega), cF_far (z := 7) (by omega), cF_far (z := 8) (by omega), cF_far (z := 9) (by omega)]
    exact h2
  · intro k hk
    rw [cF_far (z := 10 + 6 * k) (by omega), cF_far (z := 10 + 6 * k + 1) (by omega), cF_far (z := 10 + 6 * k + 2) (by omega), cF_far (z := 10 + 6 * k + 3) (by omega), cF_far (z := 10 + 6 * k + 4) (by omega), cF_far (z := 10 + 6 * k + 5) (by omega)]
    exact h3 k hk
  · exact (sN_eq fun k hk => cF_far (by omega)).trans h4
  · intro k hk
    by_cases q : k = K
    · subst q
      rw [cF_0, cF_1, cF_2, cF_3]
      exact ⟨ha, hb, hm1, hm, hd⟩
    · rw [cF_far (z := 34 + 4 * k) (by omega), cF_far (z := 34 + 4 * k + 1) (by omega), cF_far (z := 34 + 4 * k + 2) (by omega), cF_far (z := 34 + 4 * k + 3) (by omega)]
      exact h5 k (by omega)
def fT (f : Fin 48 → Int32) (K : Nat) (a o m d : Int32) : Fin 48 → Int32 := upI (upI (upI (upI f (4 * K) a) (4 * K + 1) o) (4 * K + 2) m) (4 * K + 3) d
def fR (r : Fin 82 → Int32) (K : Nat) (a o m d n : Int32) : Fin 82 → Int32 := upI (upI (upI (upI (upI r (34 + 4 * K) a) (34 + 4 * K + 1) o) (34 + 4 * K + 2) m) (34 + 4 * K + 3) d) 1 n
theorem fT_at {f : Fin 48 → Int32} {K : Nat} {a o m d : Int32} (hK : K < 12) (z : Nat) : exI (fT f K a o m d) z = if z = 4 * K + 3 then d else if z = 4 * K + 2 then m else if z = 4 * K + 1 then o else if z = 4 * K then a else exI f z := by
  unfold fT
  rw [exI_up _ (by omega), exI_up _ (by omega), exI_up _ (by omega), exI_up _ (by omega)]
theorem fR_at {r : Fin 82 → Int32} {K : Nat} {a o m d n : Int32} (hK : K < 12) (z : Nat) : exI (fR r K a o m d n) z = if z = 1 then n else if z = 34 + 4 * K + 3 then d else if z = 34 + 4 * K + 2 then m else if z = 34 + 4 * K + 1 then o else if z = 34 + 4 * K then a else exI r z := by
  unfold fR
  rw [exI_up _ (by omega), exI_up _ (by omega), exI_up _ (by omega), exI_up _ (by omega), exI_up _ (by omega)]
theorem on_new {a b m d : Nat} : onI (cF c K a b m d) K = if a = 0 then nI b else -2 := by
  unfold onI
  rw [cF_0, cF_1]
theorem cF_T {T : TS} {a b m d : Nat} {o : Int32} (hT : RowT T N K c) (hN : N ≤ 4) (hK : K < 12) (ho : o = if a = 0 then nI b else -2) : RowT (ts_claims (ts_claimRows T (fT (t_claimRows T) K (nI a) o (nI m) (nI d))) (nI (K + 1))) N (K + 1) (cF c K a b m d) := by
  obtain ⟨h1, h2, h3, h4, h5⟩ := hT
  refine ⟨h1, rfl, ?_, ?_, ?_⟩
  · intro x hx hx2
    rw [cF_far (by omega)]
    exact h3 x hx hx2
  · intro k hk x hx
    rw [cF_far (by omega)]
    exact h4 k hk x hx
  · intro k hk
    by_cases q : k = K
    · subst q
      refine ⟨fun x hx hx1 => ?_, ?_⟩
      · show exI (fT _ _ _ _ _ _) _ = _
        rw [fT_at hK]
        rcases (show x = 0 ∨ x = 2 ∨ x = 3 by omega) with rfl | rfl | rfl
        · rw [if_neg (by omega), if_neg (by omega), if_neg (by omega), if_pos (by omega)]
          exact congrArg nI cF_0.symm
        · rw [if_neg (by omega), if_pos rfl, cF_2]
        · rw [if_pos rfl, cF_3]
      · show exI (fT _ _ _ _ _ _) _ = _
        rw [fT_at hK, if_neg (by omega), if_neg (by omega), if_pos rfl, on_new, ho]
    · refine ⟨fun x hx hx1 => ?_, ?_⟩
      · show exI (fT _ _ _ _ _ _) _ = _
        rw [fT_at hK, if_neg (by omega), if_neg (by omega), if_neg (by omega), if_neg (by omega), cF_far (by omega)]
        exact (h5 k (by omega)).1 x hx hx1
      · show exI (fT _ _ _ _ _ _) _ = _
        rw [fT_at hK, if_neg (by omega), if_neg (by omega), if_neg (by omega), if_neg (by omega), cF_on (by omega)]
        exact (h5 k (by omega)).2
theorem cF_R {r : Fin 82 → Int32} {a b m d : Nat} {o : Int32} (hR : RowR r N K c) (hN : N ≤ 4) (hK : K < 12) (ho : o = if a = 0 then nI b else -2) : RowR (fR r K (nI a) o (nI m) (nI d) (nI (K + 1))) N (K + 1) (cF c K a b m d) := by
  obtain ⟨h1, h2, h3, h4, h5⟩ := hR
  have far : ∀ z, z < 34 + 4 * K → z ≠ 1 → exI (fR r K (nI a) o (nI m) (nI d) (nI (K + 1))) z = exI r z := fun z q q1 => by
    rw [fR_at hK, if_neg q1, if_neg (by omega), if_neg (by omega), if_neg (by omega), if_neg (by omega)]
  refine ⟨(far 0 (by omega) (by omega)).trans h1, ?_, ?_, ?_, ?_⟩
  · rw [fR_at hK, if_pos rfl]
  · intro x hx hx2
    rw [far x (by omega) (by omega), cF_far (by omega)]
    exact h3 x hx hx2
  · intro k hk x hx
    rw [far _ (by omega) (by omega), cF_far (by omega)]
    exact h4 k hk x hx
  · intro k hk
    by_cases q : k = K
    · subst q
      refine ⟨fun x hx hx1 => ?_, ?_⟩
      · rw [fR_at hK, if_neg (by omega)]
        rcases (show x = 0 ∨ x = 2 ∨ x = 3 by omega) with rfl | rfl | rfl
        · rw [if_neg (by omega), if_neg (by omega), if_neg (by omega), if_pos (by omega)]
          exact congrArg nI cF_0.symm
        · rw [if_neg (by omega), if_pos rfl, cF_2]
        · rw [if_pos rfl, cF_3]
      · rw [fR_at hK, if_neg (by omega), if_neg (by omega), if_neg (by omega), if_pos rfl, on_new, ho]
    · refine ⟨fun x hx hx1 => ?_, ?_⟩
      · rw [far _ (by omega) (by omega), cF_far (by omega)]
        exact (h5 k (by omega)).1 x hx hx1
      · rw [far _ (by omega) (by omega), cF_on (by omega)]
        exact (h5 k (by omega)).2
theorem tc_two (T : TS) (a b : Fin 48 → Int32) : ts_claimRows (ts_claimRows T a) b = ts_claimRows T b := rfl
theorem tc_l (T : TS) (a : Fin 48 → Int32) : t_claimRows (ts_claimRows T a) = a := rfl
theorem tc_c (T : TS) (a : Fin 48 → Int32) : t_claims (ts_claimRows T a) = t_claims T := rfl
theorem C_addClaim {T : TS} (hc : t_claims T = nI K) (hK : K < 12) (x y m d : Int32) : F_X2_addClaim T x y m d = some (ts_claims (ts_claimRows T (fT (t_claimRows T) K x (if x = 0 then y else -2) m d)) (nI (K + 1))) := by
  have j : ∀ (f : Fin 48 → Int32) (o : Int32), J_X2_addClaim_36 (ts_claimRows T f) m d (nI (4 * K)) o (nI (4 * K + 1)) = some (ts_claims (ts_claimRows T (upI (upI (upI f (4 * K + 1) o) (4 * K + 2) m) (4 * K + 3) d)) (nI (K + 1))) := by
    intro f o
    unfold J_X2_addClaim_36
    rw [tc_l, wI _ (by omega) (by omega), bs, nm_eq, tc_two, tc_l, show (2 : Int32) = nI 2 from rfl, nI_add, wI _ (by omega) (by omega), bs, nm_eq, tc_two, tc_l, show (3 : Int32) = nI 3 from rfl, nI_add, wI _ (by omega) (by omega), bs, nm_eq, tc_two, nm_eq, tc_c, hc, nI_1]
  unfold F_X2_addClaim
  rw [hc, show (4 : Int32) = nI 4 from rfl, pk_mul, nm_eq, show K * 4 = 4 * K by omega, show nI (4 * K) + (0 : Int32) = nI (4 * K) from Int32.add_zero _, wI _ (by omega) (by omega), bs, nm_eq, nI_1]
  by_cases h : x = 0
  · rw [if_pos h, if_pos h, j]
    rfl
  · rw [if_neg h, if_neg h, j]
    rfl
theorem M_file2 {M : MS} {s : Fin 82 → Int32} {p : Fin 820 → Int32} {a : Int32} {K : Nat} (hK : K < 12) (h1 : exI s 1 = nI K) (x o m d : Int32) : J_X5_file_159 (ma M (upI s (34 + 4 * K) x) p a) m d (nI (34 + 4 * K)) o (nI (34 + 4 * K + 1)) = some (nI K, ma M (fR s K x o m d (nI (K + 1))) p a) := by
  have e1 : exI (upI (upI (upI (upI s (34 + 4 * K) x) (34 + 4 * K + 1) o) (34 + 4 * K + 2) m) (34 + 4 * K + 3) d) 1 = nI K := by
    rw [exI_up _ (by omega), exI_up _ (by omega), exI_up _ (by omega), exI_up _ (by omega), if_neg (by omega), if_neg (by omega), if_neg (by omega), if_neg (by omega), h1]
  unfold J_X5_file_159
  rw [ma_s, wI _ (by omega) (by omega), bs, nm_eq, ma_ss, ma_s, show (2 : Int32) = nI 2 from rfl, nI_add, wI _ (by omega) (by omega), bs, nm_eq, ma_ss, ma_s, show (3 : Int32) = nI 3 from rfl, nI_add, wI _ (by omega) (by omega), bs, nm_eq, ma_ss, ma_s, show (1 : Int32) = nI 1 from rfl, rI _ (by omega) (by omega), bs, e1, nI_add, wI _ (by omega) (by omega), bs, nm_eq, ma_ss, ma_s, rI _ (by omega) (by omega), exI_up _ (by omega), if_pos rfl, bs]
  rw [show nI (K + 1) - nI 1 = nI K from nI_pred K]
  rfl
end FILE
section FILE2
variable {S : XS} {M : MS}
theorem A_file (hr : Rel S M) (x y z t : Int32) : StepR (F_X4_file S x y z t) (F_X5_file M x y z t) := by
  have h := hr.core
  have no : StepR (J_X4_file_28 S) (J_X5_file_36 (mB M) x y z t) := by
    refine AskR.step (S := S) (M := M) ?_ hr
    unfold J_X4_file_28 J_X5_file_36 J_X5_file_41
    rw [X_none, bs, M_ref1 (mB_tr M) (by decide), bs, if_neg n10]
    exact ask_no _ _
  have no2 : StepR (J_X4_file_56 S) (J_X5_file_76 (mB M) x y z t) := by
    refine AskR.step (S := S) (M := M) ?_ hr
    unfold J_X4_file_56 J_X5_file_76 J_X5_file_81
    rw [X_none, bs, M_ref1 (mB_tr M) (by decide), bs, if_neg n10]
    exact ask_no _ _
  have go : ∀ {N K : Nat} {c : Nat → Nat} {a b : Nat}, RowT (x_now S) N K c → RowR (m_s M) N K c → OKc N K c → a ≤ 2 → x = nI a → (a = 0 → y = nI b ∧ b < N) → StepR (J_X4_file_34 S x y z t) (J_X5_file_40 (mB M) x y z t) := by
    intro N K c a b hT hR hO ha hx hy
    have hN := hO.1
    unfold J_X4_file_34 J_X5_file_40 J_X5_file_41
    rw [M_ref0 (mB_tr M), bs, if_pos rfl, show F_X5_in z.toInt64 1 9999999 = F_X4_within z 1 9999999 from M_in2 z 1 9999999, show F_X5_in t.toInt64 0 999 = F_X4_within t 0 999 from M_in2 t 0 999]
    rcases W_casesL z (l := 1) (b := 9999999) (by omega) (by omega) with e | ⟨e, m, hm1, hm2, rfl⟩
    · have e' : F_X4_within z 1 9999999 = some 0 := e
      rw [e', bs, bs, if_pos rfl, if_pos rfl]
      exact no2
    · have e' : F_X4_within (nI m) 1 9999999 = some 1 := e
      rw [e', bs, bs, if_neg n10, if_neg n10]
      rcases W_casesL t (l := 0) (b := 999) (by omega) (by omega) with e2 | ⟨e2, d, hd1, hd2, rfl⟩
      · have e2' : F_X4_within t 0 999 = some 0 := e2
        rw [e2', bs, bs, if_pos rfl, if_pos rfl]
        exact no2
      · have e2' : F_X4_within (nI d) 0 999 = some 1 := e2
        unfold J_X5_file_81
        rw [e2', bs, bs, if_neg n10, if_neg n10, hT.2.1, M_ref0 (mB_tr M), bs, if_pos rfl, mB_s, R1 hR, bs, show (12 : Int32) = nI 12 from rfl]
        by_cases hK : K = 12
        · subst hK
          refine AskR.step (S := S) (M := M) ?_ hr
          unfold J_X5_file_105
          rw [if_neg (by decide), if_pos rfl, X_none, bs, M_ref1 (mB_tr M) (by decide), bs, if_neg n10]
          exact ask_no _ _
        · obtain ⟨h0, hc⟩ := core_case hr hT hO
          obtain ⟨E, u, n, p, b2, eb, ek, hrel⟩ := act_step hr hc h0
          have hTc : t_claims (x_now S) = nI K := hT.2.1
          have ho : (if x = 0 then y else (-2 : Int32)) = if a = 0 then nI b else -2 := by
            by_cases q : a = 0
            · rw [if_pos q, if_pos (by rw [hx, q]; rfl), (hy q).1]
            · rw [if_neg q, if_neg (by rw [hx]; exact nI_ne0 (by omega) (by omega))]
          have hT2 := cF_T (a := a) (b := b) (m := m) (d := d) hT hN.2.1 (show K < 12 by omega) ho
          have hR2 := cF_R (a := a) (b := b) (m := m) (d := d) hR hN.2.1 (show K < 12 by omega) ho
          have hO2 := cF_OK (a := a) (b := b) (m := m) (d := d) hO (by omega) ha (fun q => (hy q).2) hm1 hm2 hd2
          rw [← hx] at hT2 hR2
          unfold J_X5_file_105
          rw [if_pos ((nI_ltI (by omega) (by omega)).mpr (by omega)), eb, bs, xa_t, C_addClaim hTc (by omega), bs, nm_eq, xa_st, xa_t]
          rw [if_neg (fun q => hK ((nI_eq (by omega) (by omega)).mp q)), M_ref0 (mB_tr M), bs, if_pos rfl, ek, bs, ma_s, R1 hR, bs, nm_eq, show (34 : Int32) = nI 34 from rfl, show (4 : Int32) = nI 4 from rfl, pk_mul, nI_add, show nI (34 + 4 * K) + (0 : Int32) = nI (34 + 4 * K) from Int32.add_zero _, wI _ (by omega) (by omega), bs, nm_eq, ma_ss, nI_1]
          have hk1 : exI (m_s M) 1 = nI K := hR.2.1
          have ea : t_claims (ts_claims (ts_claimRows (x_now S) (fT (t_claimRows (x_now S)) K x (if x = 0 then y else -2) (nI m) (nI d))) (nI (K + 1))) - 1 = nI K := nI_pred K
          by_cases q : x = 0
          · rw [if_pos q] at hT2 hR2 ea
            rw [if_pos q, if_pos q, M_file2 (by omega) hk1, ea]
            exact ⟨_, _, _, rfl, rfl, hrel _ _ ⟨N, K + 1, _, hT2, hR2, hO2, case_names hc hT hO⟩⟩
          · rw [if_neg q] at hT2 hR2 ea
            rw [if_neg q, if_neg q, M_file2 (by omega) hk1, ea]
            exact ⟨_, _, _, rfl, rfl, hrel _ _ ⟨N, K + 1, _, hT2, hR2, hO2, case_names hc hT hO⟩⟩
  unfold F_X4_file F_X5_file
  rw [M_begins, bs]
  rcases A_text h with ⟨e1, e2⟩ | ⟨N, K, c, hT, hR, hO, e1, e2⟩
  · rw [e1, bs, if_pos rfl, if_pos e2]
    exact no
  · have hN := hO.1
    rw [e1, bs, if_neg n10, if_neg e2, show F_X5_in x.toInt64 0 2 = F_X4_within x 0 2 from M_in2 x 0 2]
    rcases W_cases x (b := 2) (by omega) with e | ⟨e, a, ha, hxa⟩
    · have e' : F_X4_within x 0 2 = some 0 := e
      rw [e', bs, bs, if_pos rfl, if_pos rfl]
      exact no
    · have e' : F_X4_within x 0 2 = some 1 := e
      rw [e', bs, bs, if_neg n10, if_neg n10]
      by_cases q : x = 0
      · rw [if_pos q, if_pos q]
        have ha0 : a = 0 := (nI_eq (b := 0) (by omega) (by omega)).mp (hxa.symm.trans q)
        rcases A_ship h y with ⟨e3, e4⟩ | ⟨N2, K2, c2, j, hT2, hR2, hO2, hj, hyj, e3, e4⟩
        · rw [e3, e4, bs, bs, if_pos rfl, if_pos rfl]
          exact no
        · rw [e3, e4, bs, bs, if_neg n10, if_neg n10]
          exact go hT2 hR2 hO2 ha hxa (fun _ => ⟨hyj, hj⟩)
      · rw [if_neg q, if_neg q]
        exact go (b := 0) hT hR hO ha hxa (fun q0 => absurd (by rw [hxa, q0]; rfl) q)
end FILE2
end
section
/-! ===== level 2: withdraw, undo, image, again; what is looked at ===== -/
section DROP
variable {N K : Nat} {c : Nat → Nat}
theorem cW_lo {k z : Nat} (h : z < 34 + 4 * k) : cW c k z = c z := if_neg (by omega)
theorem cW_hi {k z : Nat} (h : 34 + 4 * k ≤ z) : cW c k z = c (z + 4) := if_pos h
theorem cW_cl {k j x : Nat} (hx : x < 4) : cW c k (34 + 4 * j + x) = if k ≤ j then c (34 + 4 * (j + 1) + x) else c (34 + 4 * j + x) := by
  by_cases h : k ≤ j
  · rw [if_pos h, cW_hi (by omega)]
    exact congrArg c (by omega)
  · rw [if_neg h, cW_lo (by omega)]
theorem cW_on {k j : Nat} : onI (cW c k) j = if k ≤ j then onI c (j + 1) else onI c j := by
  have h0 : cW c k (34 + 4 * j) = _ := cW_cl (x := 0) (by decide)
  unfold onI
  rw [h0, cW_cl (x := 1) (by decide)]
  by_cases h : k ≤ j
  · rw [if_pos h, if_pos h, if_pos h]
    rfl
  · rw [if_neg h, if_neg h, if_neg h]
    rfl
theorem cW_OK {k : Nat} (hO : OKc N K c) (hk : k < K) : OKc N (K - 1) (cW c k) := by
  obtain ⟨h1, h2, h3, h4, h5⟩ := hO
  refine ⟨⟨h1.1, h1.2.1, by omega⟩, ?_, ?_, ?_, ?_⟩
  · rw [cW_lo (z := 2) (by omega), cW_lo (z := 3) (by omega), cW_lo (z := 4) (by omega), cW_lo (z := 5) (by omega), cW_lo (z := 6) (by omega), cW_lo (z := 7) (by omega), cW_lo (z := 8) (by omega), cW_lo (z := 9) (by omega)]
    exact h2
  · intro j hj
    rw [cW_lo (z := 10 + 6 * j) (by omega), cW_lo (z := 10 + 6 * j + 1) (by omega), cW_lo (z := 10 + 6 * j + 2) (by omega), cW_lo (z := 10 + 6 * j + 3) (by omega), cW_lo (z := 10 + 6 * j + 4) (by omega), cW_lo (z := 10 + 6 * j + 5) (by omega)]
    exact h3 j hj
  · exact (sN_eq fun j hj => cW_lo (by omega)).trans h4
  · intro j hj
    have e0 : cW c k (34 + 4 * j) = _ := cW_cl (x := 0) (by decide)
    rw [e0, cW_cl (x := 1) (by decide), cW_cl (x := 2) (by decide), cW_cl (x := 3) (by decide)]
    by_cases h : k ≤ j
    · rw [if_pos h, if_pos h, if_pos h, if_pos h]
      exact h5 (j + 1) (by omega)
    · rw [if_neg h, if_neg h, if_neg h, if_neg h]
      exact h5 j (by omega)
theorem cW_T {T : TS} {k : Nat} (hT : RowT T N K c) (hN : N ≤ 4) (hK : K ≤ 12) (hk : k < K) {f : Fin 48 → Int32} (hf : ∀ z, z < 48 → exI f z = if 4 * k ≤ z ∧ z < 4 * k + (4 * (K - 1) - 4 * k) then exI (t_claimRows T) (4 * k + (z - 4 * k) + 4) else exI (t_claimRows T) z) : RowT (ts_claimRows (ts_claims T (nI (K - 1))) f) N (K - 1) (cW c k) := by
  obtain ⟨h1, h2, h3, h4, h5⟩ := hT
  refine ⟨h1, rfl, ?_, ?_, ?_⟩
  · intro x hx hx2
    rw [cW_lo (by omega)]
    exact h3 x hx hx2
  · intro j hj x hx
    rw [cW_lo (by omega)]
    exact h4 j hj x hx
  · intro j hj
    refine ⟨fun x hx hx1 => ?_, ?_⟩
    · show exI f _ = _
      rw [hf _ (by omega), cW_cl hx]
      by_cases q : k ≤ j
      · rw [if_pos (by omega), if_pos q, show 4 * k + (4 * j + x - 4 * k) + 4 = 4 * (j + 1) + x by omega]
        exact (h5 (j + 1) (by omega)).1 x hx hx1
      · rw [if_neg (by omega), if_neg q]
        exact (h5 j (by omega)).1 x hx hx1
    · show exI f _ = _
      rw [hf _ (by omega), cW_on]
      by_cases q : k ≤ j
      · rw [if_pos (by omega), if_pos q, show 4 * k + (4 * j + 1 - 4 * k) + 4 = 4 * (j + 1) + 1 by omega]
        exact (h5 (j + 1) (by omega)).2
      · rw [if_neg (by omega), if_neg q]
        exact (h5 j (by omega)).2
theorem cW_R {r : Fin 82 → Int32} {k : Nat} (hR : RowR r N K c) (hN : N ≤ 4) (hK : K ≤ 12) (hk : k < K) {f : Fin 82 → Int32} (hf : ∀ z, z < 82 → exI f z = if 34 + 4 * k ≤ z ∧ z < 34 + 4 * k + (4 * (K - 1) - 4 * k) then exI r (34 + 4 * k + (z - (34 + 4 * k)) + 4) else exI (upI r 1 (nI (K - 1))) z) : RowR f N (K - 1) (cW c k) := by
  obtain ⟨h1, h2, h3, h4, h5⟩ := hR
  have far : ∀ z, z ≠ 1 → exI (upI r 1 (nI (K - 1))) z = exI r z := fun z q => by
    rw [exI_up _ (by omega), if_neg q]
  refine ⟨?_, ?_, ?_, ?_, ?_⟩
  · rw [hf 0 (by omega), if_neg (by omega), far 0 (by omega), h1]
  · rw [hf 1 (by omega), if_neg (by omega), exI_up _ (by omega), if_pos rfl]
  · intro x hx hx2
    rw [hf x (by omega), if_neg (by omega), far x (by omega), cW_lo (by omega)]
    exact h3 x hx hx2
  · intro j hj x hx
    rw [hf _ (by omega), if_neg (by omega), far _ (by omega), cW_lo (by omega)]
    exact h4 j hj x hx
  · intro j hj
    refine ⟨fun x hx hx1 => ?_, ?_⟩
    · rw [hf _ (by omega), cW_cl hx]
      by_cases q : k ≤ j
      · rw [if_pos (by omega), if_pos q, show 34 + 4 * k + (34 + 4 * j + x - (34 + 4 * k)) + 4 = 34 + 4 * (j + 1) + x by omega]
        exact (h5 (j + 1) (by omega)).1 x hx hx1
      · rw [if_neg (by omega), if_neg q, far _ (by omega)]
        exact (h5 j (by omega)).1 x hx hx1
    · rw [hf _ (by omega), cW_on]
      by_cases q : k ≤ j
      · rw [if_pos (by omega), if_pos q, show 34 + 4 * k + (34 + 4 * j + 1 - (34 + 4 * k)) + 4 = 34 + 4 * (j + 1) + 1 by omega]
        exact (h5 (j + 1) (by omega)).2
      · rw [if_neg (by omega), if_neg q, far _ (by omega)]
        exact (h5 j (by omega)).2
theorem td_c (T : TS) (v : Int32) (f : Fin 48 → Int32) : t_claims (ts_claimRows (ts_claims T v) f) = v := rfl
theorem td_0 (T : TS) (v : Int32) : ts_claims T v = ts_claimRows (ts_claims T v) (t_claimRows T) := rfl
theorem C_drop {T : TS} {k : Nat} (hc : t_claims T = nI K) (hK : K ≤ 12) (hk : k < K) : ∃ f : Fin 48 → Int32, (∀ z, z < 48 → exI f z = if 4 * k ≤ z ∧ z < 4 * k + (4 * (K - 1) - 4 * k) then exI (t_claimRows T) (4 * k + (z - 4 * k) + 4) else exI (t_claimRows T) z) ∧ F_X2_dropClaim T (nI k) = some (ts_claimRows (ts_claims T (nI (K - 1))) f) := by
  obtain ⟨f, hf, e⟩ := copyL (B_X2_dropClaim_14 (fun S7 => some S7)) (fun f => ts_claimRows (ts_claims T (nI (K - 1))) f) (fun S7 => some S7) (4 * k) (4 * k) (4 * (K - 1) - 4 * k) (fun i => exI (t_claimRows T) (4 * k + i + 4)) (by omega) (by omega) (t_claimRows T) (by
    intro rc f i hi hI
    have hz := hI (4 * k + i + 4) (by omega)
    rw [if_neg (by omega)] at hz
    unfold B_X2_dropClaim_14
    rw [td_c, show (4 : Int32) = nI 4 from rfl, pk_mul, if_neg (by rw [nI_leI (by omega) (by omega)]; omega), tc_l, nI_add, rI _ (by omega) (by omega), bs, hz, wI _ (by omega) (by omega), bs, nm_eq, tc_two, nm_eq, nI_1]) (by
    intro rc f hI
    unfold B_X2_dropClaim_14
    rw [td_c, show (4 : Int32) = nI 4 from rfl, pk_mul, if_pos (by rw [nI_leI (by omega) (by omega)]; omega)])
  refine ⟨f, hf, ?_⟩
  unfold F_X2_dropClaim
  rw [hc, nI_less (by omega), nm_eq, show (4 : Int32) = nI 4 from rfl, pk_mul, nm_eq, show k * 4 = 4 * k by omega, td_0]
  exact e
end DROP
section DROP2
variable {S : XS} {M : MS}
theorem A_withdraw (hr : Rel S M) (x : Int32) : StepR (F_X4_withdraw S x) (F_X5_withdraw M x) := by
  have h := hr.core
  unfold F_X4_withdraw F_X5_withdraw
  rw [M_begins, bs]
  rcases A_claim h x with ⟨e1, e2⟩ | ⟨N, K, c, k, hT, hR, hO, hk, rfl, e1, e2⟩
  · refine AskR.step (S := S) (M := M) ?_ hr
    unfold J_X5_withdraw_18
    rw [e1, e2, bs, bs, if_pos rfl, if_pos rfl, X_none, bs, M_ref1 (mB_tr M) (by decide), bs, if_neg n10]
    exact ask_no _ _
  · have hN := hO.1
    obtain ⟨h0, hc⟩ := core_case hr hT hO
    obtain ⟨E, u, n, p, b, eb, ek, hrel⟩ := act_step hr hc h0
    obtain ⟨f, hf, ed⟩ := C_drop hT.2.1 hN.2.2 hk
    unfold J_X5_withdraw_18
    rw [e1, e2, bs, bs, if_neg n10, if_neg n10, eb, bs, xa_t, ed, bs, nm_eq, xa_st, xa_t, td_c]
    rw [M_ref0 (mB_tr M), bs, if_pos rfl, ek, bs, ma_s, R1 hR, bs, nI_less (by omega), show (1 : Int32) = nI 1 from rfl, wI _ (by omega) (by omega), bs, nm_eq, ma_ss, show (34 : Int32) = nI 34 from rfl, show (4 : Int32) = nI 4 from rfl, pk_mul, nI_add, nm_eq]
    obtain ⟨g, hg, eg⟩ := copyL (B_X5_withdraw_48 (fun S14 => (rdI (m_s S14) (1 : Int32)).bind fun v15 => some (v15, S14))) (fun f => ma (mB M) f p b) (fun S14 => (rdI (m_s S14) (1 : Int32)).bind fun v15 => some (v15, S14)) (34 + 4 * k) (34 + 4 * k) (4 * (K - 1) - 4 * k) (fun i => exI (m_s M) (34 + 4 * k + i + 4)) (by omega) (by omega) (upI (m_s M) 1 (nI (K - 1))) (by
      intro rc f i hi hI
      have hz := hI (34 + 4 * k + i + 4) (by omega)
      rw [if_neg (by omega), exI_up _ (by omega), if_neg (by omega)] at hz
      have h1 := hI 1 (by omega)
      rw [if_neg (by omega), exI_up _ (by omega), if_pos rfl] at h1
      unfold B_X5_withdraw_48
      rw [ma_s, show (1 : Int32) = nI 1 from rfl, rI _ (by omega) (by omega), bs, h1, show (34 : Int32) = nI 34 from rfl, show (4 : Int32) = nI 4 from rfl, pk_mul, nI_add, if_neg (by rw [nI_leI (by omega) (by omega)]; omega), nI_add, rI _ (by omega) (by omega), bs, hz, wI _ (by omega) (by omega), bs, nm_eq, ma_ss, nm_eq, nI_add]) (by
      intro rc f hI
      have h1 := hI 1 (by omega)
      rw [if_neg (by omega), exI_up _ (by omega), if_pos rfl] at h1
      have key : ∀ (k9 : MS → Option (Int32 × MS)), B_X5_withdraw_48 k9 rc (ma (mB M) f p b) (nI (34 + 4 * k + (4 * (K - 1) - 4 * k))) = k9 (ma (mB M) f p b) := by
        intro k9
        unfold B_X5_withdraw_48
        rw [ma_s, show (1 : Int32) = nI 1 from rfl, rI _ (by omega) (by omega), bs, h1, show (34 : Int32) = nI 34 from rfl, show (4 : Int32) = nI 4 from rfl, pk_mul, nI_add, if_pos (by rw [nI_leI (by omega) (by omega)]; omega)]
      exact key _)
    have hR2 := cW_R hR hN.2.1 hN.2.2 hk hg
    have eg' : lo2 (B_X5_withdraw_48 (fun S14 => (rdI (m_s S14) (nI 1)).bind fun v15 => some (v15, S14))) FU (ma (mB M) (upI (m_s M) 1 (nI (K - 1))) p b) (nI (34 + 4 * k)) = _ := eg
    rw [eg', ma_s, R1 hR2, bs]
    exact ⟨_, _, _, rfl, rfl, hrel _ _ ⟨N, K - 1, _, cW_T hT hN.2.1 hN.2.2 hk hf, hR2, cW_OK hO hk, case_names hc hT hO⟩⟩
theorem rel_told (hr : Rel S M) (h0 : m_told M ≠ 0) : CaseR (x_now S) (m_s M) (m_names M) := by
  rcases hr.2.2.1 with ⟨h, -⟩ | h
  · exact absurd h h0
  · exact h.2
theorem A_undo (hr : Rel S M) : StepR (F_X4_undo S) (F_X5_undo M) := by
  have h := hr.core
  unfold F_X4_undo F_X5_undo
  rw [M_begins, bs]
  rcases A_text h with ⟨e1, e2⟩ | ⟨N, K, c, hT, hR, hO, e1, e2⟩
  · refine AskR.step (S := S) (M := M) ?_ hr
    unfold J_X5_undo_17
    rw [e1, bs, if_pos rfl, if_pos e2, X_none, bs, M_ref1 (mB_tr M) (by decide), bs, if_neg n10]
    exact ask_no _ _
  · obtain ⟨A, P, hu, ha, hn, hA, hP, hq⟩ := hr.2.2.2.1
    unfold J_X5_undo_17
    rw [e1, bs, if_neg n10, if_neg e2, M_ref0 (mB_tr M), bs, if_pos rfl, mB_a, hu, ha]
    by_cases h0 : A = 0
    · subst h0
      refine AskR.step (S := S) (M := M) ?_ hr
      unfold J_X5_undo_37
      rw [if_pos nI_0, if_pos nI_0, X_none, bs, M_ref1 (mB_tr M) (by decide), bs, if_neg n10]
      exact ask_no _ _
    · have hz : ¬ nI A = 0 := nI_ne0 (by omega) (by omega)
      have hu2 : x_undoable (xT S 0) = nI A := hu
      have hn2 : x_nextAct (xT S 0) = nI P := hn
      have he : x_earlier (xT S 0) = x_earlier S := rfl
      obtain ⟨g, hg, eg⟩ := copyL (B_X5_undo_58 (fun S9 => some (m_acts S9, S9))) (fun f => ma (mB M) f (m_past M) (nI (A - 1))) (fun S9 => some (m_acts S9, S9)) 0 0 82 (fun i => exI (m_past M) (82 * (A - 1) + i)) (by omega) (by omega) (m_s M) (by
        intro rc f i hi hI
        unfold B_X5_undo_58
        rw [show (82 : Int32) = nI 82 from rfl, if_neg (by rw [nI_leI (by omega) (by omega)]; omega), ma_p, ma_a, pk_mul, nI_add, ma_s, show 0 + i = i by omega, rI _ (by omega) (by omega), bs, wI _ (by omega) (by omega), bs, nm_eq, ma_ss, nm_eq, nI_1]) (by
        intro rc f hI
        unfold B_X5_undo_58
        rw [if_pos (by decide)])
      have hgr : g = rowP (m_past M) (A - 1) := ext_I fun z hz => by
        rw [hg z hz, if_pos (by omega), rowP_at _ _ hz]
        rfl
      have eg' : lo2 (B_X5_undo_58 (fun S9 => some (m_acts S9, S9))) FU (ma (mB M) (m_s M) (m_past M) (nI (A - 1))) 0 = _ := eg
      have e0 : ms_acts (mB M) (nI (A - 1)) = ma (mB M) (m_s M) (m_past M) (nI (A - 1)) := ma_sa (mB M) (m_s M) (m_past M) (m_acts M) (nI (A - 1))
      unfold J_X5_undo_37
      rw [if_neg hz, if_neg hz, X_accept, bs, hn2, show (10 : Int32) = nI 10 from rfl, nI_add, nI_less (by omega), rmI_N (by omega) (by omega) (by omega), bs, nm_eq, ← xa_self (xT S 0), xa_sn, nm_eq, xa_u, hu2, nI_less (by omega), xa_su, xa_n, ix_N (Nat.mod_lt _ (by decide)) (by omega), bs, C_copy, bs, nm_eq, xa_st, xa_u, xa_e, he]
      rw [M_ref0 (mB_tr M), bs, if_pos rfl, nm_eq, mB_a, ha, nI_less (by omega), e0, eg', ma_a, hgr]
      refine ⟨_, _, _, rfl, rfl, ⟨rfl, rfl, hr.1.2.2⟩, hr.2.1, Or.inr ⟨e2, ?_⟩, ⟨A - 1, (P + 10 - 1) % 10, rfl, rfl, rfl, by omega, by omega, fun q hql => ?_⟩, hr.2.2.2.2⟩
      · have := hq (A - 1) (by omega)
        rw [fin_at (x_earlier S) _ (Nat.mod_lt _ (by decide)) (show (P + 10 - A + (A - 1)) % 10 = (P + 10 - 1) % 10 by omega)] at this
        exact this
      · have := hq q (by omega)
        rw [fin_at (x_earlier S) _ (Nat.mod_lt _ (by decide)) (show (P + 10 - A + q) % 10 = ((P + 10 - 1) % 10 + 10 - (A - 1) + q) % 10 by omega)] at this
        exact this
theorem X_no0 (S : XS) : (F_X4_refuse S (1 : Int32)).bind (fun q2 => zz q2.1 <| some (q2.1, q2.2)) = some ((0 : Int32), xT S 1) := by
  rw [X_refuse, bs]
  rfl
theorem xk_at (hr : Rel S M) {m : Nat} (hm : m < 2) : exI (x_kept S) m = exI (m_isKept M) m := (hr.2.2.2.2 m hm).1
theorem A_image (hr : Rel S M) (x : Int32) : StepR (F_X4_image S x) (F_X5_image M x) := by
  have h := hr.core
  have no : StepR (J_X4_image_16 S) (J_X5_image_22 (mB M) x) := by
    refine AskR.step (S := S) (M := M) ?_ hr
    unfold J_X4_image_16 J_X5_image_22 J_X5_image_27
    rw [X_no0, M_ref1 (mB_tr M) (by decide), bs, if_neg n10]
    exact ask_no _ _
  unfold F_X4_image F_X5_image
  rw [M_begins, bs]
  rcases A_text h with ⟨e1, e2⟩ | ⟨N, K, c, hT, hR, hO, e1, e2⟩
  · rw [e1, bs, if_pos rfl, if_pos e2]
    exact no
  · rw [e1, bs, if_neg n10, if_neg e2, show F_X5_in x.toInt64 0 1 = F_X4_within x 0 1 from M_in2 x 0 1]
    rcases W_cases x (b := 1) (by omega) with e | ⟨e, i, hi, rfl⟩
    · have e' : F_X4_within x 0 1 = some 0 := e
      rw [e', bs, bs, if_pos rfl, if_pos rfl]
      exact no
    · have e' : F_X4_within (nI i) 0 1 = some 1 := e
      have hi2 : i < 2 := by omega
      obtain ⟨h0, hc⟩ := core_case hr hT hO
      obtain ⟨g, hg, eg⟩ := copyL (B_X5_image_38 (nI i) (fun S7 => (wrI (m_isKept S7) (nI i) (1 : Int32)).bind fun f8 => nm (ms_isKept S7 f8 : MS) fun S9 => some ((1 : Int32), S9))) (fun f => mk4 (mB M) (m_s M) (m_acts M) f (m_isKept M)) (fun S7 => (wrI (m_isKept S7) (nI i) (1 : Int32)).bind fun f8 => nm (ms_isKept S7 f8 : MS) fun S9 => some ((1 : Int32), S9)) 0 (82 * i) 82 (exI (m_s M)) (by omega) (by omega) (m_kept M) (by
        intro rc f j hj hI
        unfold B_X5_image_38
        rw [show (82 : Int32) = nI 82 from rfl, if_neg (by rw [nI_leI (by omega) (by omega)]; omega), mk_s, rI _ (by omega) (by omega), bs, mk_k, pk_mul, nI_add, show 0 + j = j by omega, wI _ (by omega) (by omega), bs, nm_eq, mk_sk, nm_eq, nI_1]) (by
        intro rc f hI
        unfold B_X5_image_38
        rw [if_pos (by decide)])
      have eg' : lo2 (B_X5_image_38 (nI i) (fun S7 => (wrI (m_isKept S7) (nI i) (1 : Int32)).bind fun f8 => nm (ms_isKept S7 f8 : MS) fun S9 => some ((1 : Int32), S9))) FU (mB M) 0 = _ := eg
      unfold J_X5_image_27
      rw [e', bs, bs, if_neg n10, if_neg n10, X_accept, bs, ix_N hi2 (by omega), bs, C_copy, bs, nm_eq, wI _ (by omega) (by omega), bs, nm_eq]
      rw [M_ref0 (mB_tr M), bs, if_pos rfl, eg', mk_b, wI _ (by omega) (by omega), bs, nm_eq, mk_sb]
      refine ⟨_, _, _, rfl, rfl, ⟨rfl, rfl, hr.1.2.2⟩, hr.2.1, hr.2.2.1, hr.2.2.2.1, fun m hm => ?_⟩
      show exI (upI (x_kept S) i 1) m = exI (upI (m_isKept M) i 1) m ∧ (exI (upI (x_kept S) i 1) m ≠ 0 → m_told M ≠ 0 ∧ CaseR (upT (x_images S) ⟨i, hi2⟩ (x_now S) ⟨m, hm⟩) (rowK g m) (m_names M))
      rw [exI_up _ (by omega), exI_up _ (by omega), upT_at]
      by_cases q : m = i
      · rw [if_pos q, if_pos q]
        refine ⟨rfl, fun _ => ⟨h0, ?_⟩⟩
        rw [if_pos q]
        have : rowK g m = m_s M := ext_I fun z hz => by
          rw [rowK_at g m hz, hg _ (by omega), if_pos (by omega)]
          exact congrArg (exI (m_s M)) (by omega)
        rw [this]
        exact hc
      · rw [if_neg q, if_neg q]
        refine ⟨xk_at hr hm, fun hk => ⟨h0, ?_⟩⟩
        rw [if_neg q]
        have : rowK g m = rowK (m_kept M) m := ext_I fun z hz => by
          rw [rowK_at g m hz, hg _ (by omega), if_neg (by omega), rowK_at _ m hz]
        rw [this]
        exact ((hr.2.2.2.2 m hm).2 hk).2
theorem A_again (hr : Rel S M) (x : Int32) : StepR (F_X4_again S x) (F_X5_again M x) := by
  have h := hr.core
  have no : StepR (J_X4_again_18 S) (J_X5_again_31 (mB M) x) := by
    refine AskR.step (S := S) (M := M) ?_ hr
    unfold J_X4_again_18 J_X5_again_31 J_X5_again_36
    rw [X_no0, M_ref1 (mB_tr M) (by decide), bs, if_neg n10]
    exact ask_no _ _
  unfold F_X4_again F_X5_again
  rw [M_begins, bs, show F_X5_in x.toInt64 0 1 = F_X4_within x 0 1 from M_in2 x 0 1]
  rcases W_cases x (b := 1) (by omega) with e | ⟨e, i, hi, rfl⟩
  · have e' : F_X4_within x 0 1 = some 0 := e
    rw [e', bs, bs, if_pos rfl]
    by_cases h0 : m_told (mB M) = 0
    · rw [if_pos h0]
      exact no
    · rw [if_neg h0, if_pos rfl]
      exact no
  · have e' : F_X4_within (nI i) 0 1 = some 1 := e
    have hi2 : i < 2 := by omega
    have hk := hr.2.2.2.2 i hi2
    have hmk : rdI (m_isKept (mB M)) (nI i) = some (exI (x_kept S) i) := by
      rw [hk.1]
      exact rI (m_isKept M) hi2 (by omega)
    rw [e', bs, bs, if_neg n10, rI _ hi2 (by omega), bs]
    by_cases q : exI (x_kept S) i = 0
    · rw [if_pos q]
      by_cases h0 : m_told (mB M) = 0
      · rw [if_pos h0]
        exact no
      · rw [if_neg h0, if_neg n10, hmk, bs, if_pos q]
        exact no
    · obtain ⟨h0, hc⟩ := hk.2 q
      have h0' : ¬ m_told (mB M) = 0 := h0
      obtain ⟨g, hg, eg⟩ := copyL (B_X5_again_47 (nI i) (fun S7 => nm (ms_acts S7 (0 : Int32) : MS) fun S8 => some ((1 : Int32), S8))) (fun f => mk4 (mB M) f (m_acts M) (m_kept M) (m_isKept M)) (fun S7 => nm (ms_acts S7 (0 : Int32) : MS) fun S8 => some ((1 : Int32), S8)) 0 0 82 (fun j => exI (m_kept M) (82 * i + j)) (by omega) (by omega) (m_s M) (by
        intro rc f j hj hI
        unfold B_X5_again_47
        rw [show (82 : Int32) = nI 82 from rfl, if_neg (by rw [nI_leI (by omega) (by omega)]; omega), mk_k, pk_mul, nI_add, mk_s, show 0 + j = j by omega, rI _ (by omega) (by omega), bs, wI _ (by omega) (by omega), bs, nm_eq, mk_ss, nm_eq, nI_1]) (by
        intro rc f hI
        unfold B_X5_again_47
        rw [if_pos (by decide)])
      have hgr : g = rowK (m_kept M) i := ext_I fun z hz => by
        rw [hg z hz, if_pos (by omega), rowK_at _ _ hz]
        rfl
      have eg' : lo2 (B_X5_again_47 (nI i) (fun S7 => nm (ms_acts S7 (0 : Int32) : MS) fun S8 => some ((1 : Int32), S8))) FU (mB M) 0 = _ := eg
      have hf : ∀ S : XS, F_X4_forgetActs S = some (xs_nextAct (xs_undoable S 0) 0) := fun S => rfl
      unfold J_X5_again_36
      rw [if_neg q, X_accept, bs, ix_N hi2 (by omega), bs, C_copy, bs, nm_eq, hf, bs, if_neg h0', if_neg n10, hmk, bs, if_neg q, M_ref0 (mB_tr M), bs, if_pos rfl, eg', nm_eq, mk_sa, hgr]
      exact ⟨_, _, _, rfl, rfl, ⟨rfl, rfl, hr.1.2.2⟩, hr.2.1, Or.inr ⟨h0, hc⟩, ⟨0, 0, rfl, rfl, rfl, by omega, by omega, fun q hq => absurd hq (Nat.not_lt_zero q)⟩, hr.2.2.2.2⟩
/-- what is only looked at -/
def PeekR (S : XS) (f : Option Int32) (g : Option (Int32 × MS)) : Prop := ∃ a M2, f = some a ∧ g = some (a, M2) ∧ Rel S M2
theorem peek (hr : Rel S M) {a b : Int32} (h : a = b) : PeekR S (some a) (some (b, ms_thrown M 0)) := ⟨a, ms_thrown M 0, rfl, by rw [h], hr⟩
theorem A_size (hr : Rel S M) : PeekR S (F_X4_size S) (F_X5_size M) := by
  obtain ⟨t, -, h1, h2, -⟩ := hr.2.1
  exact peek hr (h1.trans h2.symm)
theorem A_trouble (hr : Rel S M) : PeekR S (F_X4_trouble S) (F_X5_trouble M) := peek hr hr.1.1
theorem A_fault (hr : Rel S M) : PeekR S (F_X4_fault S) (F_X5_fault M) := peek hr hr.1.2.2
theorem A_where (hr : Rel S M) : PeekR S (F_X4_where S) (F_X5_where M) := peek hr hr.1.2.1
end DROP2
end
section
/-! ===== level 2: feed ===== -/
def mt (M : MS) (f : Fin 600 → Int32) (n : Int32) : MS := (M.1, M.2.1, M.2.2.1, M.2.2.2.1, M.2.2.2.2.1, M.2.2.2.2.2.1, M.2.2.2.2.2.2.1, M.2.2.2.2.2.2.2.1, M.2.2.2.2.2.2.2.2.1, M.2.2.2.2.2.2.2.2.2.1, M.2.2.2.2.2.2.2.2.2.2.1, M.2.2.2.2.2.2.2.2.2.2.2.1, M.2.2.2.2.2.2.2.2.2.2.2.2.1, M.2.2.2.2.2.2.2.2.2.2.2.2.2.1, f, n, M.2.2.2.2.2.2.2.2.2.2.2.2.2.2.2.2.1, M.2.2.2.2.2.2.2.2.2.2.2.2.2.2.2.2.2.1, M.2.2.2.2.2.2.2.2.2.2.2.2.2.2.2.2.2.2.1, M.2.2.2.2.2.2.2.2.2.2.2.2.2.2.2.2.2.2.2.1, M.2.2.2.2.2.2.2.2.2.2.2.2.2.2.2.2.2.2.2.2.1, M.2.2.2.2.2.2.2.2.2.2.2.2.2.2.2.2.2.2.2.2.2.1, M.2.2.2.2.2.2.2.2.2.2.2.2.2.2.2.2.2.2.2.2.2.2.1, M.2.2.2.2.2.2.2.2.2.2.2.2.2.2.2.2.2.2.2.2.2.2.2.1, M.2.2.2.2.2.2.2.2.2.2.2.2.2.2.2.2.2.2.2.2.2.2.2.2.1, M.2.2.2.2.2.2.2.2.2.2.2.2.2.2.2.2.2.2.2.2.2.2.2.2.2.1, M.2.2.2.2.2.2.2.2.2.2.2.2.2.2.2.2.2.2.2.2.2.2.2.2.2.2.1, M.2.2.2.2.2.2.2.2.2.2.2.2.2.2.2.2.2.2.2.2.2.2.2.2.2.2.2.1, M.2.2.2.2.2.2.2.2.2.2.2.2.2.2.2.2.2.2.2.2.2.2.2.2.2.2.2.2.1, M.2.2.2.2.2.2.2.2.2.2.2.2.2.2.2.2.2.2.2.2.2.2.2.2.2.2.2.2.2)
def xb (S : XS) (B : Fin 600 → Int32) (n : Int32) : XS := ((B, S.1.2), S.2.1, S.2.2.1, S.2.2.2.1, S.2.2.2.2.1, S.2.2.2.2.2.1, n, S.2.2.2.2.2.2.2.1, S.2.2.2.2.2.2.2.2.1, S.2.2.2.2.2.2.2.2.2.1, S.2.2.2.2.2.2.2.2.2.2.1, S.2.2.2.2.2.2.2.2.2.2.2)
section FEEDS
variable (M : MS) (S : XS) (f f2 B B2 : Fin 600 → Int32) (n n2 : Int32)
theorem mt_f : m_tape (mt M f n) = f := rfl
theorem mt_n : m_taped (mt M f n) = n := rfl
theorem mt_sf : ms_tape (mt M f n) f2 = mt M f2 n := rfl
theorem mt_sn : ms_taped (mt M f n) n2 = mt M f n2 := rfl
theorem mt_self : mt M (m_tape M) (m_taped M) = M := rfl
theorem xb_b : d_bytes (x_reader (xb S B n)) = B := rfl
theorem xb_n : x_tapeLength (xb S B n) = n := rfl
theorem xb_sb : xs_reader (xb S B n) (ds_bytes (x_reader (xb S B n)) B2) = xb S B2 n := rfl
theorem xb_sn : xs_tapeLength (xb S B n) n2 = xb S B n2 := rfl
theorem xb_self : xb S (d_bytes (x_reader S)) (x_tapeLength S) = S := rfl
end FEEDS
def bv (v : Int32) (j : Nat) : Int32 := (v >>> (((24 : Int32) - (8 : Int32) * nI j) &&& 31)).toInt8.toInt32
def pB (B : Fin 600 → Int32) (t : Nat) (v : Int32) : Fin 600 → Int32 := upI (upI (upI (upI B t (bv v 0)) (t + 1) (bv v 1)) (t + 2) (bv v 2)) (t + 3) (bv v 3)
theorem pB_at (B : Fin 600 → Int32) {t : Nat} (ht : t + 4 ≤ 600) (v : Int32) (z : Nat) : exI (pB B t v) z = if t ≤ z ∧ z < t + 4 then bv v (z - t) else exI B z := by
  unfold pB
  rw [exI_up _ (by omega), exI_up _ (by omega), exI_up _ (by omega), exI_up _ (by omega)]
  by_cases h3 : z = t + 3
  · rw [if_pos h3, if_pos (by omega), show z - t = 3 by omega]
  · rw [if_neg h3]
    by_cases h2 : z = t + 2
    · rw [if_pos h2, if_pos (by omega), show z - t = 2 by omega]
    · rw [if_neg h2]
      by_cases h1 : z = t + 1
      · rw [if_pos h1, if_pos (by omega), show z - t = 1 by omega]
      · rw [if_neg h1]
        by_cases h0 : z = t
        · rw [if_pos h0, if_pos (by omega), show z - t = 0 by omega]
        · rw [if_neg h0, if_neg (by omega)]
theorem X_putBytes (S : XS) (B : Fin 600 → Int32) {t : Nat} (ht : t + 4 ≤ 600) (v : Int32) : F_X4_putBytes (xb S B (nI t)) v = some (xb S (pB B t v) (nI (t + 4))) := by
  have st : ∀ (k9 : XS → Option XS) rc (B : Fin 600 → Int32) (t : Nat) (m : Int32), t < 600 → ¬ m < 0 → B_X4_putBytes_3 v k9 rc (xb S B (nI t)) m = rc (xb S (upI B t ((v >>> (m &&& 31)).toInt8.toInt32)) (nI (t + 1))) (m + (-8)) := by
    intro k9 rc B t m ht hm
    unfold B_X4_putBytes_3
    rw [if_neg hm, xb_n, show (600 : Int32) = nI 600 from rfl, if_neg (by rw [nI_leI (by omega) (by omega)]; omega), xb_b, wI _ ht (by omega), bs, nm_eq, xb_sb, nm_eq, xb_n, nI_1, xb_sn, nm_eq]
  have en : ∀ (k9 : XS → Option XS) rc S2, B_X4_putBytes_3 v k9 rc S2 (-8) = k9 S2 := by
    intro k9 rc S2
    unfold B_X4_putBytes_3
    rw [if_pos (by decide)]
  unfold F_X4_putBytes
  rw [FU_eq]
  refine ((lo2_s _ 999 _ _).trans (st _ _ _ t 24 (by omega) (by decide))).trans ?_
  rw [show (24 : Int32) + (-8) = 16 by decide]
  refine ((lo2_s _ 998 _ _).trans (st _ _ _ (t + 1) 16 (by omega) (by decide))).trans ?_
  rw [show (16 : Int32) + (-8) = 8 by decide]
  refine ((lo2_s _ 997 _ _).trans (st _ _ _ (t + 1 + 1) 8 (by omega) (by decide))).trans ?_
  rw [show (8 : Int32) + (-8) = 0 by decide]
  refine ((lo2_s _ 996 _ _).trans (st _ _ _ (t + 1 + 1 + 1) 0 (by omega) (by decide))).trans ?_
  rw [show (0 : Int32) + (-8) = -8 by decide]
  refine ((lo2_s _ 995 _ _).trans (en _ _ _)).trans ?_
  rfl
def selF (a b c d e : Int32) (j : Nat) : Int32 := if 4 ≤ j then (if 8 ≤ j then (if 12 ≤ j then (if 16 ≤ j then e else d) else c) else b) else a
section FEED2
variable {S : XS} {M : MS}
theorem A_feed (hr : Rel S M) (a b c d e : Int32) : StepR (F_X4_feed S a b c d e) (F_X5_feed M a b c d e) := by
  obtain ⟨t, ht, h1, h2, hb⟩ := hr.2.1
  have h2' : m_taped (ms_thrown M 0) = nI t := h2
  unfold F_X4_feed F_X5_feed
  rw [nm_eq, h1, h2', show (20 : Int32) = nI 20 from rfl, nI_add, show (600 : Int32) = nI 600 from rfl]
  by_cases hle : t + 20 ≤ 600
  · have hc : nI (t + 20) ≤ nI 600 := (nI_leI (by omega) (by omega)).mpr hle
    rw [if_pos hc, if_pos hc]
    obtain ⟨g, hg, eg⟩ := copyL (B_X5_feed_23 a b c d e (fun S6 => nm (ms_taped S6 ((m_taped S6) + (nI 20)) : MS) fun S7 => some (m_taped S7, S7))) (fun f => mt (ms_thrown M 0) f (nI t)) (fun S6 => nm (ms_taped S6 ((m_taped S6) + (nI 20)) : MS) fun S7 => some (m_taped S7, S7)) 0 t 20 (fun j => (selF a b c d e j >>> (((24 : Int32) - (8 : Int32) * nI (j % 4)) &&& 31)) &&& 255) (by omega) (by omega) (m_tape M) (by
      intro rc f j hj hI
      have key : ∀ (k9 : MS → Option (Int32 × MS)) (w : Int32), J_X5_feed_76 k9 rc (mt (ms_thrown M 0) f (nI t)) a b c d e (nI j) w = rc (mt (ms_thrown M 0) (upI f (t + j) ((w >>> (((24 : Int32) - (8 : Int32) * nI (j % 4)) &&& 31)) &&& 255)) (nI t)) (nI (j + 1)) := by
        intro k9 w
        unfold J_X5_feed_76
        rw [show (4 : Int32) = nI 4 from rfl, rmI_N (by omega) (by omega) (by omega), bs, mt_f, mt_n, nI_add, wI _ (by omega) (by omega), bs, nm_eq, mt_sf, nm_eq, nI_1]
      unfold B_X5_feed_23
      rw [show 0 + j = j by omega, key, key, key, key, key, show (20 : Int32) = nI 20 from rfl, show (4 : Int32) = nI 4 from rfl, show (8 : Int32) = nI 8 from rfl, show (12 : Int32) = nI 12 from rfl, show (16 : Int32) = nI 16 from rfl, if_neg (by rw [nI_leI (by omega) (by omega)]; omega)]
      unfold selF
      by_cases q4 : 4 ≤ j
      · rw [if_pos ((nI_leI (by omega) (by omega)).mpr q4), if_pos q4]
        by_cases q8 : 8 ≤ j
        · rw [if_pos ((nI_leI (by omega) (by omega)).mpr q8), if_pos q8]
          by_cases q12 : 12 ≤ j
          · rw [if_pos ((nI_leI (by omega) (by omega)).mpr q12), if_pos q12]
            by_cases q16 : 16 ≤ j
            · rw [if_pos ((nI_leI (by omega) (by omega)).mpr q16), if_pos q16]
            · rw [if_neg (by rw [nI_leI (by omega) (by omega)]; omega), if_neg q16]
          · rw [if_neg (by rw [nI_leI (by omega) (by omega)]; omega), if_neg q12]
        · rw [if_neg (by rw [nI_leI (by omega) (by omega)]; omega), if_neg q8]
      · rw [if_neg (by rw [nI_leI (by omega) (by omega)]; omega), if_neg q4]) (by
      intro rc f hI
      have key : ∀ (k9 : MS → Option (Int32 × MS)) S2, B_X5_feed_23 a b c d e k9 rc S2 (nI (0 + 20)) = k9 S2 := by
        intro k9 S2
        unfold B_X5_feed_23
        rw [if_pos (by decide)]
      exact key _ _)
    have e0 : mt (ms_thrown M 0) (m_tape M) (nI t) = ms_thrown M 0 := by
      rw [← h2']
      exact mt_self (ms_thrown M 0)
    rw [e0] at eg
    have es : S = xb S (d_bytes (x_reader S)) (nI t) := by
      rw [← h1]
      exact (xb_self S).symm
    have eg' : lo2 (B_X5_feed_23 a b c d e (fun S6 => nm (ms_taped S6 ((m_taped S6) + (nI 20)) : MS) fun S7 => some (m_taped S7, S7))) FU (ms_thrown M 0) 0 = _ := eg
    rw [eg', nm_eq, mt_n, nI_add, mt_sn, mt_n]
    have hp : ∀ k9 : XS → Option (Int32 × XS), (F_X4_putBytes S a).bind (fun q1 => (F_X4_putBytes q1 b).bind fun q2 => (F_X4_putBytes q2 c).bind fun q3 => (F_X4_putBytes q3 d).bind fun q4 => (F_X4_putBytes q4 e).bind k9) = k9 (xb S (pB (pB (pB (pB (pB (d_bytes (x_reader S)) t a) (t + 4) b) (t + 4 + 4) c) (t + 4 + 4 + 4) d) (t + 4 + 4 + 4 + 4) e) (nI (t + 4 + 4 + 4 + 4 + 4))) := by
      intro k9
      have ea := X_putBytes S (d_bytes (x_reader S)) (t := t) (by omega) a
      rw [← es] at ea
      rw [ea, bs, X_putBytes _ _ (by omega), bs, X_putBytes _ _ (by omega), bs, X_putBytes _ _ (by omega), bs, X_putBytes _ _ (by omega), bs]
    rw [hp, xb_n]
    refine ⟨_, _, _, rfl, rfl, hr.1, ⟨t + 20, hle, rfl, rfl, fun k hk => ?_⟩, hr.2.2⟩
    rw [xb_b, mt_f, hg k (by omega), pB_at _ (by omega), pB_at _ (by omega), pB_at _ (by omega), pB_at _ (by omega), pB_at _ (by omega)]
    by_cases q : k < t
    · rw [if_neg (by omega), if_neg (by omega), if_neg (by omega), if_neg (by omega), if_neg (by omega), if_neg (by omega)]
      exact hb k q
    · rw [if_pos (show t ≤ k ∧ k < t + 20 by omega)]
      unfold selF
      by_cases q16 : t + 16 ≤ k
      · rw [if_pos (by omega), if_pos (by omega), if_pos (by omega), if_pos (by omega), if_pos (by omega), show k - (t + 4 + 4 + 4 + 4) = (k - t) % 4 by omega]
        exact ⟨_, rfl, rfl⟩
      · rw [if_neg (by omega)]
        by_cases q12 : t + 12 ≤ k
        · rw [if_pos (by omega), if_pos (by omega), if_pos (by omega), if_pos (by omega), if_neg (by omega), show k - (t + 4 + 4 + 4) = (k - t) % 4 by omega]
          exact ⟨_, rfl, rfl⟩
        · rw [if_neg (by omega)]
          by_cases q8 : t + 8 ≤ k
          · rw [if_pos (by omega), if_pos (by omega), if_pos (by omega), if_neg (by omega), show k - (t + 4 + 4) = (k - t) % 4 by omega]
            exact ⟨_, rfl, rfl⟩
          · rw [if_neg (by omega)]
            by_cases q4 : t + 4 ≤ k
            · rw [if_pos (by omega), if_pos (by omega), if_neg (by omega), show k - (t + 4) = (k - t) % 4 by omega]
              exact ⟨_, rfl, rfl⟩
            · rw [if_neg (by omega), if_pos (by omega), if_neg (by omega), show k - t = (k - t) % 4 by omega, Nat.mod_mod]
              exact ⟨_, rfl, rfl⟩
  · have hc : ¬ nI (t + 20) ≤ nI 600 := by
      rw [nI_leI (by omega) (by omega)]
      exact hle
    rw [if_neg hc, if_neg hc]
    exact ⟨_, _, _, rfl, rfl, hr⟩
end FEED2
end
section
/-! ===== bits (from kit/laws/BITS.to-paste) ===== -/
theorem wb_tb (n : Nat) : (lN n).toBitVec = BitVec.ofNat 64 n := rfl
theorem wb_inj {a b : Int64} (h : a.toBitVec = b.toBitVec) : a = b := Int64.toBitVec_inj.mp h
theorem wb_tn {n : Nat} (h : n < 2 ^ 64) : (lN n).toBitVec.toNat = n := by rw [wb_tb, BitVec.toNat_ofNat, Nat.mod_eq_of_lt h]
theorem wb_of (x : Int64) : ∃ n, n < 2 ^ 64 ∧ x = lN n := ⟨x.toBitVec.toNat, x.toBitVec.isLt, wb_inj (by rw [wb_tb]; simp)⟩
theorem wb_of32 (x : Int32) : ∃ n, n < 2 ^ 32 ∧ x = nI n := ⟨x.toBitVec.toNat, x.toBitVec.isLt, Int32.toBitVec_inj.mp (by show _ = BitVec.ofNat 32 _; simp)⟩
theorem wb_c : ∀ k, k < 64 → ((nI k).toInt64 &&& 63) = lN k := by decide +kernel
theorem wb_cu : ∀ k, k < 64 → ((nI k).toInt64.toUInt64 &&& Int64.toUInt64 63) = UInt64.ofNat k := by decide +kernel
theorem wb_sm : ∀ k, k < 64 → (BitVec.ofNat 64 k).smod 64 = BitVec.ofNat 64 k := by decide +kernel
theorem wb_pw {a b : Nat} (h : a ≤ b) : 2 ^ b = 2 ^ a * 2 ^ (b - a) := by rw [← Nat.pow_add]; congr 1; omega
theorem wb_lt2 {a b : Nat} (h : a < b) : 2 ^ a < 2 ^ b := Nat.pow_lt_pow_right (by decide) h
theorem wb_mod (n : Nat) : lN n = lN (n % 2 ^ 64) := wb_inj (by rw [wb_tb, wb_tb]; apply BitVec.eq_of_toNat_eq; rw [BitVec.toNat_ofNat, BitVec.toNat_ofNat, Nat.mod_mod])
theorem wb_shl (n : Nat) {k : Nat} (hk : k < 64) : lN n <<< ((nI k).toInt64 &&& 63) = lN (n * 2 ^ k) := by
  rw [wb_c k hk]
  apply wb_inj
  rw [Int64.toBitVec_shiftLeft, wb_tb, wb_tb, wb_tb, wb_sm k hk]
  apply BitVec.eq_of_toNat_eq
  rw [BitVec.shiftLeft_eq', BitVec.toNat_shiftLeft, BitVec.toNat_ofNat, BitVec.toNat_ofNat, BitVec.toNat_ofNat, Nat.mod_eq_of_lt (show k < 2 ^ 64 by omega), Nat.shiftLeft_eq, Nat.mul_mod, Nat.mod_mod, ← Nat.mul_mod]
theorem wb_and {a b : Nat} (ha : a < 2 ^ 64) (hb : b < 2 ^ 64) : lN a &&& lN b = lN (a &&& b) := by
  apply wb_inj
  rw [Int64.toBitVec_and, wb_tb, wb_tb, wb_tb]
  apply BitVec.eq_of_toNat_eq
  rw [BitVec.toNat_and, BitVec.toNat_ofNat, BitVec.toNat_ofNat, BitVec.toNat_ofNat, Nat.mod_eq_of_lt ha, Nat.mod_eq_of_lt hb, Nat.mod_eq_of_lt (Nat.and_lt_two_pow _ hb)]
theorem wb_or {a b : Nat} (ha : a < 2 ^ 64) (hb : b < 2 ^ 64) : lN a ||| lN b = lN (a ||| b) := by
  apply wb_inj
  rw [Int64.toBitVec_or, wb_tb, wb_tb, wb_tb]
  apply BitVec.eq_of_toNat_eq
  rw [BitVec.toNat_or, BitVec.toNat_ofNat, BitVec.toNat_ofNat, BitVec.toNat_ofNat, Nat.mod_eq_of_lt ha, Nat.mod_eq_of_lt hb, Nat.mod_eq_of_lt (Nat.or_lt_two_pow ha hb)]
/-! ===== level 2: words as lists of letters; bytes ===== -/
def Let (ls : List Nat) : Prop := ∀ l, l ∈ ls → 1 ≤ l ∧ l ≤ 26
theorem Let.tail {l : Nat} {r : List Nat} (h : Let (l :: r)) : Let r := fun x hx => h x (List.mem_cons_of_mem _ hx)
theorem Let.head {l : Nat} {r : List Nat} (h : Let (l :: r)) : 1 ≤ l ∧ l ≤ 26 := h l List.mem_cons_self
theorem Let.snoc {ls : List Nat} {l : Nat} (h : Let ls) (h1 : 1 ≤ l) (h2 : l ≤ 26) : Let (ls ++ [l]) := by
  intro x hx
  rw [List.mem_append, List.mem_singleton] at hx
  rcases hx with hx | rfl
  · exact h x hx
  · exact ⟨h1, h2⟩
theorem nLo_lt : ∀ {ls : List Nat}, Let ls → nLo ls < 32 ^ ls.length
  | [], _ => by decide
  | l :: r, h => by
    have h1 := nLo_lt h.tail
    have h2 := h.head
    show l + 32 * nLo r < 32 ^ (r.length + 1)
    rw [Nat.pow_succ]
    omega
theorem nLo_snoc : ∀ (ls : List Nat) (l : Nat), nLo (ls ++ [l]) = nLo ls + l * 32 ^ ls.length
  | [], l => by simp [nLo]
  | a :: r, l => by
    show a + 32 * nLo (r ++ [l]) = a + 32 * nLo r + l * 32 ^ (r.length + 1)
    rw [nLo_snoc r l, Nat.pow_succ, Nat.mul_add]
    have : l * (32 ^ r.length * 32) = 32 * (l * 32 ^ r.length) := by
      rw [← Nat.mul_assoc, Nat.mul_comm]
    omega
theorem nHi_snoc (l : Nat) : ∀ (ls : List Nat) (a : Nat), nHi a (ls ++ [l]) = 32 * nHi a ls + l
  | [], a => rfl
  | x :: r, a => nHi_snoc l r (32 * a + x)
theorem nHi_rev : ∀ (ls rs : List Nat), nHi (nLo rs) ls = nLo (ls.reverse ++ rs)
  | [], rs => rfl
  | l :: r, rs => by
    have h := nHi_rev r (l :: rs)
    have e : nLo (l :: rs) = 32 * nLo rs + l := Nat.add_comm _ _
    rw [e] at h
    show nHi (32 * nLo rs + l) r = _
    rw [h, List.reverse_cons, List.append_assoc]
    rfl
theorem nHi_eq (ls : List Nat) : nHi 0 ls = nLo ls.reverse := by
  have h := nHi_rev ls []
  rw [List.append_nil] at h
  exact h
theorem Let.rev {ls : List Nat} (h : Let ls) : Let ls.reverse := fun x hx => h x (List.mem_reverse.mp hx)
theorem nHi_lt {ls : List Nat} (h : Let ls) : nHi 0 ls < 32 ^ ls.length := by
  have := nLo_lt h.rev
  rw [List.length_reverse] at this
  rw [nHi_eq]
  exact this
theorem nLo_inj : ∀ {a b : List Nat}, Let a → Let b → nLo a = nLo b → a = b
  | [], [], _, _, _ => rfl
  | [], l :: r, _, hb, h => by
    have h1 := hb.head
    have h2 : (0 : Nat) = l + 32 * nLo r := h
    omega
  | l :: r, [], ha, _, h => by
    have h1 := ha.head
    have h2 : l + 32 * nLo r = 0 := h
    omega
  | l :: r, x :: y, ha, hb, h => by
    have h1 := ha.head
    have h2 := hb.head
    have h3 : l + 32 * nLo r = x + 32 * nLo y := h
    have h4 : l = x := by omega
    have h5 : nLo r = nLo y := by omega
    rw [h4, nLo_inj ha.tail hb.tail h5]
theorem nHi_inj {a b : List Nat} (ha : Let a) (hb : Let b) (h : nHi 0 a = nHi 0 b) : a = b := by
  rw [nHi_eq, nHi_eq] at h
  have := nLo_inj ha.rev hb.rev h
  exact List.reverse_inj.mp this
theorem pw7 {n : Nat} (h : n ≤ 7) : 32 ^ n ≤ 34359738368 := Nat.pow_le_pow_right (n := 32) (by decide) h
theorem lN_inj {a b : Nat} (ha : a < 2 ^ 62) (hb : b < 2 ^ 62) (h : lN a = lN b) : a = b := by
  have h2 := congrArg (fun x : Int64 => x.toBitVec.toNat) h
  simp only [wb_tn (show a < 2 ^ 64 by omega), wb_tn (show b < 2 ^ 64 by omega)] at h2
  exact h2
theorem lo_eq {a b : List Nat} (ha : Let a) (hb : Let b) (la : a.length ≤ 7) (lb : b.length ≤ 7) : lN (nLo a) = lN (nLo b) ↔ a = b := by
  have h1 := nLo_lt ha
  have h2 := nLo_lt hb
  have h3 := pw7 la
  have h4 := pw7 lb
  exact ⟨fun h => nLo_inj ha hb (lN_inj (by omega) (by omega) h), fun h => by rw [h]⟩
theorem hi_eq {a b : List Nat} (ha : Let a) (hb : Let b) (la : a.length ≤ 7) (lb : b.length ≤ 7) : lN (nHi 0 a) = lN (nHi 0 b) ↔ a = b := by
  have h1 := nHi_lt ha
  have h2 := nHi_lt hb
  have h3 := pw7 la
  have h4 := pw7 lb
  exact ⟨fun h => nHi_inj ha hb (lN_inj (by omega) (by omega) h), fun h => by rw [h]⟩
/-- one letter more -/
theorem lo_more {ls : List Nat} (h : Let ls) (hl : ls.length < 7) {l : Nat} (h2 : l ≤ 26) : lN (nLo ls) ||| ((lN l) <<< (((5 : Int32) * nI ls.length).toInt64 &&& 63)) = lN (nLo (ls ++ [l])) := by
  have h1 := nLo_lt h
  have h3 := pw7 (n := ls.length) (by omega)
  have h4 := pw7 (n := ls.length + 1) (by omega)
  have e5 : 32 ^ ls.length = 2 ^ (5 * ls.length) := by rw [show (32 : Nat) = 2 ^ 5 from rfl, ← Nat.pow_mul]
  rw [Nat.pow_succ] at h4
  have h6 : l * 32 ^ ls.length ≤ 26 * 32 ^ ls.length := Nat.mul_le_mul_right _ h2
  rw [show (5 : Int32) = nI 5 from rfl, pk_mul, wb_shl l (by omega), ← e5, wb_or (by omega) (by omega), nLo_snoc]
  refine congrArg lN ?_
  rw [e5] at h1 ⊢
  rw [Nat.or_comm, Nat.mul_comm l, ← Nat.two_pow_add_eq_or_of_lt h1, Nat.add_comm]
theorem hi_more (ls : List Nat) {l : Nat} (h2 : l ≤ 26) : ((32 : Int64) * lN (nHi 0 ls) + (nI (l + 96)).toInt64) - (96 : Int64) = lN (nHi 0 (ls ++ [l])) := by
  rw [show (32 : Int64) = lN 32 from rfl, lN_mul, nI_l (by omega), lN_add, show (96 : Int64) = lN 96 from rfl, lN_sub (by omega), nHi_snoc]
  exact congrArg lN (by omega)
/-! bytes -/
def BR (b m : Int32) (y : Nat) : Prop := y < 256 ∧ m = nI y ∧ (y < 128 → b = nI y) ∧ (128 ≤ y → b < 0)
theorem BtR.br {b m : Int32} (h : BtR b m) : ∃ y, BR b m y := by
  obtain ⟨v, rfl, rfl⟩ := h
  refine ⟨v.toBitVec.toNat % 2 ^ 8, Nat.mod_lt _ (by decide), pk_and v 8 rfl, ?_, ?_⟩
  · intro hy
    have e1 : v.toInt8.toInt32.toInt = Int.bmod v.toInt (2 ^ 8) := by
      rw [Int8.toInt_toInt32, Int32.toInt_toInt8]
    have e2 : v.toInt = v.toBitVec.toInt := rfl
    have c := BitVec.toInt_eq_toNat_cond v.toBitVec
    have hl := v.toBitVec.isLt
    apply Int32.toInt_inj.mp
    rw [e1, nI_toInt (by omega), Int.bmod_def, e2]
    split at c <;> rw [c] <;> split <;> omega
  · intro hy
    have e1 : v.toInt8.toInt32.toInt = Int.bmod v.toInt (2 ^ 8) := by
      rw [Int8.toInt_toInt32, Int32.toInt_toInt8]
    have e2 : v.toInt = v.toBitVec.toInt := rfl
    have c := BitVec.toInt_eq_toNat_cond v.toBitVec
    have hl := v.toBitVec.isLt
    rw [Int32.lt_iff_toInt_lt, e1, show (0 : Int32).toInt = 0 from rfl, Int.bmod_def, e2]
    split at c <;> rw [c] <;> split <;> omega
section BYTE
variable {b m : Int32} {y : Nat}
theorem BR.eqc (h : BR b m y) {a : Nat} (ha : a < 128) : b = nI a ↔ y = a := by
  obtain ⟨h1, h2, h3, h4⟩ := h
  by_cases q : y < 128
  · rw [h3 q, nI_eq (by omega) (by omega)]
  · have := h4 (by omega)
    refine ⟨fun e => ?_, fun e => by omega⟩
    rw [e] at this
    exact absurd this (nI_pos (by omega))
theorem BR.eqm (h : BR b m y) {a : Nat} (ha : a < 128) : m = nI a ↔ y = a := by
  rw [h.2.1, nI_eq (by have := h.1; omega) (by omega)]
theorem BR.rng (h : BR b m y) {p q : Nat} (hp : p < 128) (hq : q < 128) : (if b < nI p then some (0 : Int32) else if nI q < b then some 0 else some 1) = some (if p ≤ y ∧ y ≤ q then (1 : Int32) else 0) := by
  obtain ⟨h1, h2, h3, h4⟩ := h
  by_cases z : y < 128
  · rw [h3 z]
    by_cases a1 : y < p
    · rw [if_pos ((nI_ltI (by omega) (by omega)).mpr a1), if_neg (by omega)]
    · rw [if_neg (by rw [nI_ltI (by omega) (by omega)]; exact a1)]
      by_cases a2 : q < y
      · rw [if_pos ((nI_ltI (by omega) (by omega)).mpr a2), if_neg (by omega)]
      · rw [if_neg (by rw [nI_ltI (by omega) (by omega)]; exact a2), if_pos (by omega)]
  · have h5 := h4 (by omega)
    have h6 : b < nI p := by
      rw [Int32.lt_iff_toInt_lt] at h5 ⊢
      rw [nI_toInt (by omega)]
      have h0 : (0 : Int32).toInt = 0 := rfl
      omega
    rw [if_pos h6, if_neg (by omega)]
theorem BR.rngm (h : BR b m y) {p q : Nat} (hp : p < 128) (hq : q < 128) : (if m < nI p then some (0 : Int32) else if nI q < m then some 0 else some 1) = some (if p ≤ y ∧ y ≤ q then (1 : Int32) else 0) := by
  obtain ⟨h1, h2, h3, h4⟩ := h
  rw [h2]
  by_cases a1 : y < p
  · rw [if_pos ((nI_ltI (by omega) (by omega)).mpr a1), if_neg (by omega)]
  · rw [if_neg (by rw [nI_ltI (by omega) (by omega)]; exact a1)]
    by_cases a2 : q < y
    · rw [if_pos ((nI_ltI (by omega) (by omega)).mpr a2), if_neg (by omega)]
    · rw [if_neg (by rw [nI_ltI (by omega) (by omega)]; exact a2), if_pos (by omega)]
theorem BR.letC (h : BR b m y) : F_X0_isLetter b = some (if 97 ≤ y ∧ y ≤ 122 then (1 : Int32) else 0) := h.rng (p := 97) (q := 122) (by decide) (by decide)
theorem BR.digC (h : BR b m y) : F_X0_isDigit b = some (if 48 ≤ y ∧ y ≤ 57 then (1 : Int32) else 0) := h.rng (p := 48) (q := 57) (by decide) (by decide)
theorem BR.letM (h : BR b m y) : F_X5_isLetter m = some (if 97 ≤ y ∧ y ≤ 122 then (1 : Int32) else 0) := h.rngm (p := 97) (q := 122) (by decide) (by decide)
theorem BR.digM (h : BR b m y) : F_X5_isDigit m = some (if 48 ≤ y ∧ y ≤ 57 then (1 : Int32) else 0) := h.rngm (p := 48) (q := 57) (by decide) (by decide)
end BYTE
end
section
/-! ===== level 2: the states while a text is read ===== -/
def mr (M : MS) (x f t L v : Int32) (w : Int64) (g ga o : Int32) (rd : Fin 82 → Int32) (rn : Fin 4 → Int64) : MS := (M.1, M.2.1, M.2.2.1, M.2.2.2.1, M.2.2.2.2.1, M.2.2.2.2.2.1, M.2.2.2.2.2.2.1, rd, M.2.2.2.2.2.2.2.2.1, M.2.2.2.2.2.2.2.2.2.1, M.2.2.2.2.2.2.2.2.2.2.1, M.2.2.2.2.2.2.2.2.2.2.2.1, M.2.2.2.2.2.2.2.2.2.2.2.2.1, rn, M.2.2.2.2.2.2.2.2.2.2.2.2.2.2.1, M.2.2.2.2.2.2.2.2.2.2.2.2.2.2.2.1, M.2.2.2.2.2.2.2.2.2.2.2.2.2.2.2.2.1, x, f, t, L, v, w, g, ga, o, M.2.2.2.2.2.2.2.2.2.2.2.2.2.2.2.2.2.2.2.2.2.2.2.2.2.2.1, M.2.2.2.2.2.2.2.2.2.2.2.2.2.2.2.2.2.2.2.2.2.2.2.2.2.2.2.1, M.2.2.2.2.2.2.2.2.2.2.2.2.2.2.2.2.2.2.2.2.2.2.2.2.2.2.2.2.1, M.2.2.2.2.2.2.2.2.2.2.2.2.2.2.2.2.2.2.2.2.2.2.2.2.2.2.2.2.2)
def dq (B : Fin 600 → Int32) (e : Int32) (T : TS) (lt : Fin 10 → Int32) (x fo s t L : Int32) (wl : Int64) (v : Int32) : DS := (B, T, lt, e, x, fo, s, t, L, wl, v)
section STS
variable (M : MS) (x f t L v : Int32) (w : Int64) (g ga o : Int32) (rd : Fin 82 → Int32) (rn : Fin 4 → Int64) (y : Int32) (y64 : Int64) (r2 : Fin 82 → Int32) (n2 : Fin 4 → Int64)
theorem gm_next : m_next (mr M x f t L v w g ga o rd rn) = x := rfl
theorem um_next : ms_next (mr M x f t L v w g ga o rd rn) y = mr M y f t L v w g ga o rd rn := rfl
theorem gm_from : m_from (mr M x f t L v w g ga o rd rn) = f := rfl
theorem um_from : ms_from (mr M x f t L v w g ga o rd rn) y = mr M x y t L v w g ga o rd rn := rfl
theorem gm_sort : m_sort (mr M x f t L v w g ga o rd rn) = t := rfl
theorem um_sort : ms_sort (mr M x f t L v w g ga o rd rn) y = mr M x f y L v w g ga o rd rn := rfl
theorem gm_many : m_many (mr M x f t L v w g ga o rd rn) = L := rfl
theorem um_many : ms_many (mr M x f t L v w g ga o rd rn) y = mr M x f t y v w g ga o rd rn := rfl
theorem gm_number : m_number (mr M x f t L v w g ga o rd rn) = v := rfl
theorem um_number : ms_number (mr M x f t L v w g ga o rd rn) y = mr M x f t L y w g ga o rd rn := rfl
theorem gm_word : m_word (mr M x f t L v w g ga o rd rn) = w := rfl
theorem um_word : ms_word (mr M x f t L v w g ga o rd rn) y64 = mr M x f t L v y64 g ga o rd rn := rfl
theorem gm_wrong : m_wrong (mr M x f t L v w g ga o rd rn) = g := rfl
theorem um_wrong : ms_wrong (mr M x f t L v w g ga o rd rn) y = mr M x f t L v w y ga o rd rn := rfl
theorem gm_wrongAt : m_wrongAt (mr M x f t L v w g ga o rd rn) = ga := rfl
theorem um_wrongAt : ms_wrongAt (mr M x f t L v w g ga o rd rn) y = mr M x f t L v w g y o rd rn := rfl
theorem gm_toldOnce : m_toldOnce (mr M x f t L v w g ga o rd rn) = o := rfl
theorem um_toldOnce : ms_toldOnce (mr M x f t L v w g ga o rd rn) y = mr M x f t L v w g ga y rd rn := rfl
theorem gm_read : m_read (mr M x f t L v w g ga o rd rn) = rd := rfl
theorem um_read : ms_read (mr M x f t L v w g ga o rd rn) r2 = mr M x f t L v w g ga o r2 rn := rfl
theorem gm_readNames : m_readNames (mr M x f t L v w g ga o rd rn) = rn := rfl
theorem um_readNames : ms_readNames (mr M x f t L v w g ga o rd rn) n2 = mr M x f t L v w g ga o rd n2 := rfl
theorem gm_tape : m_tape (mr M x f t L v w g ga o rd rn) = m_tape M := rfl
theorem gm_length : m_length (mr M x f t L v w g ga o rd rn) = m_length M := rfl
theorem mr_v : mv (mr M x f t L v w g ga o rd rn) = mv M := rfl
theorem mr_self : mr M (m_next M) (m_from M) (m_sort M) (m_many M) (m_number M) (m_word M) (m_wrong M) (m_wrongAt M) (m_toldOnce M) (m_read M) (m_readNames M) = M := rfl
end STS
section DTS
variable (B : Fin 600 → Int32) (e : Int32) (T T2 : TS) (lt lt2 : Fin 10 → Int32) (x fo s t L : Int32) (wl wl2 : Int64) (v y : Int32)
theorem gd_bytes : d_bytes (dq B e T lt x fo s t L wl v) = B := rfl
theorem gd_end : d_end (dq B e T lt x fo s t L wl v) = e := rfl
theorem ud_end : ds_end (dq B e T lt x fo s t L wl v) y = dq B y T lt x fo s t L wl v := rfl
theorem gd_told : d_told (dq B e T lt x fo s t L wl v) = T := rfl
theorem ud_told : ds_told (dq B e T lt x fo s t L wl v) T2 = dq B e T2 lt x fo s t L wl v := rfl
theorem gd_lawTold : d_lawTold (dq B e T lt x fo s t L wl v) = lt := rfl
theorem ud_lawTold : ds_lawTold (dq B e T lt x fo s t L wl v) lt2 = dq B e T lt2 x fo s t L wl v := rfl
theorem gd_next : d_next (dq B e T lt x fo s t L wl v) = x := rfl
theorem ud_next : ds_next (dq B e T lt x fo s t L wl v) y = dq B e T lt y fo s t L wl v := rfl
theorem gd_found : d_found (dq B e T lt x fo s t L wl v) = fo := rfl
theorem ud_found : ds_found (dq B e T lt x fo s t L wl v) y = dq B e T lt x y s t L wl v := rfl
theorem gd_start : d_start (dq B e T lt x fo s t L wl v) = s := rfl
theorem ud_start : ds_start (dq B e T lt x fo s t L wl v) y = dq B e T lt x fo y t L wl v := rfl
theorem gd_token : d_token (dq B e T lt x fo s t L wl v) = t := rfl
theorem ud_token : ds_token (dq B e T lt x fo s t L wl v) y = dq B e T lt x fo s y L wl v := rfl
theorem gd_length : d_length (dq B e T lt x fo s t L wl v) = L := rfl
theorem ud_length : ds_length (dq B e T lt x fo s t L wl v) y = dq B e T lt x fo s t y wl v := rfl
theorem gd_letters : d_letters (dq B e T lt x fo s t L wl v) = wl := rfl
theorem ud_letters : ds_letters (dq B e T lt x fo s t L wl v) wl2 = dq B e T lt x fo s t L wl2 v := rfl
theorem gd_number : d_number (dq B e T lt x fo s t L wl v) = v := rfl
theorem ud_number : ds_number (dq B e T lt x fo s t L wl v) y = dq B e T lt x fo s t L wl y := rfl
theorem dq_self (R : DS) : dq (d_bytes R) (d_end R) (d_told R) (d_lawTold R) (d_next R) (d_found R) (d_start R) (d_token R) (d_length R) (d_letters R) (d_number R) = R := rfl
end DTS
/-- a token's letters, its number, on both sides -/
def PW (L : Nat) (wl wm : Int64) : Prop := L ≤ 7 → ∃ ls : List Nat, ls.length = L ∧ Let ls ∧ wl = lN (nLo ls) ∧ wm = lN (nHi 0 ls)
def PV (L : Nat) (v vm : Int32) : Prop := L ≤ 7 → ∃ k, k < 10 ^ L ∧ v = nI k ∧ vm = nI k
def TokW (t : Nat) (L : Int32) (wl : Int64) (v Lm vm : Int32) (wm : Int64) : Prop := t ≤ 4 ∧ (t = 1 → ∃ ls : List Nat, 0 < ls.length ∧ ls.length ≤ 7 ∧ Let ls ∧ L = nI ls.length ∧ Lm = nI ls.length ∧ wl = lN (nLo ls) ∧ wm = lN (nHi 0 ls)) ∧ (t = 2 → ∃ k, k ≤ 9999999 ∧ v = nI k ∧ vm = nI k)
section TOK
variable {B : Fin 600 → Int32} {M : MS} {n : Nat} {Y : Nat → Nat}
theorem see_in (hl : m_length M = nI n) (hn : n ≤ 600) {z : Nat} (hz : z < n) (x f t L v : Int32) (w : Int64) (g ga o : Int32) (rd : Fin 82 → Int32) (rn : Fin 4 → Int64) : F_X5_seen (mr M x f t L v w g ga o rd rn) (nI z) = some (exI (m_tape M) z) := by
  unfold F_X5_seen
  rw [gm_length, hl, if_neg (by rw [nI_leI (by omega) (by omega)]; omega), gm_tape, rI _ (by omega) (by omega), bs]
theorem see_out (hl : m_length M = nI n) (x f t L v : Int32) (w : Int64) (g ga o : Int32) (rd : Fin 82 → Int32) (rn : Fin 4 → Int64) : F_X5_seen (mr M x f t L v w g ga o rd rn) (nI n) = some (-1) := by
  unfold F_X5_seen
  rw [gm_length, hl, if_pos (Int32.le_refl _)]
theorem blankW (hl : m_length M = nI n) (hn : n ≤ 600) (hB : ∀ k, k < n → BR (exI B k) (exI (m_tape M) k) (Y k)) : ∀ (d x fu fu2 : Nat), x + d = n → d < fu → d < fu2 → ∃ x', x ≤ x' ∧ x' ≤ n ∧
    (∀ k9 T lt fo s t L wl v, lo1 (B_X0_step_0 k9) fu (dq B (nI n) T lt (nI x) fo s t L wl v) = k9 (dq B (nI n) T lt (nI x') fo s t L wl v)) ∧
    (∀ k9 f t L v w g ga o rd rn, lo1 (B_X5_token_0 k9) fu2 (mr M (nI x) f t L v w g ga o rd rn) = k9 (mr M (nI x') f t L v w g ga o rd rn)) := by
  intro d
  induction d with
  | zero =>
    intro x fu fu2 hx hf hf2
    obtain ⟨fu, rfl⟩ : ∃ f, fu = f + 1 := ⟨fu - 1, by omega⟩
    obtain ⟨fu2, rfl⟩ : ∃ f, fu2 = f + 1 := ⟨fu2 - 1, by omega⟩
    have hx : x = n := by omega
    subst hx
    refine ⟨x, Nat.le_refl _, Nat.le_refl _, ?_, ?_⟩
    · intro k9 T lt fo s t L wl v
      refine (lo1_s _ _ _).trans ?_
      unfold B_X0_step_0
      rw [gd_end, gd_next, if_pos (Int32.le_refl _)]
    · intro k9 f t L v w g ga o rd rn
      refine (lo1_s _ _ _).trans ?_
      unfold B_X5_token_0
      rw [gm_next, see_out hl, bs, if_neg (by decide)]
  | succ d ih =>
    intro x fu fu2 hx hf hf2
    obtain ⟨fu, rfl⟩ : ∃ f, fu = f + 1 := ⟨fu - 1, by omega⟩
    obtain ⟨fu2, rfl⟩ : ∃ f, fu2 = f + 1 := ⟨fu2 - 1, by omega⟩
    have hb := hB x (by omega)
    have hle : ¬ nI n ≤ nI x := by
      rw [nI_leI (by omega) (by omega)]
      omega
    by_cases q : Y x = 32
    · obtain ⟨x', h1, h2, h3, h4⟩ := ih (x + 1) fu fu2 (by omega) (by omega) (by omega)
      refine ⟨x', by omega, h2, ?_, ?_⟩
      · intro k9 T lt fo s t L wl v
        refine (lo1_s _ _ _).trans (Eq.trans ?_ (h3 k9 T lt fo s t L wl v))
        unfold B_X0_step_0
        rw [gd_end, gd_next, if_neg hle, gd_bytes, rI _ (by omega) (by omega), bs, if_pos ((show exI B x = (32 : Int32) ↔ Y x = 32 from hb.eqc (a := 32) (by decide)).mpr q), nm_eq, nI_1, ud_next]
      · intro k9 f t L v w g ga o rd rn
        refine (lo1_s _ _ _).trans (Eq.trans ?_ (h4 k9 f t L v w g ga o rd rn))
        unfold B_X5_token_0
        rw [gm_next, see_in hl hn (by omega), bs, if_pos ((show exI (m_tape M) x = (32 : Int32) ↔ Y x = 32 from hb.eqm (a := 32) (by decide)).mpr q), nm_eq, nI_1, um_next]
    · refine ⟨x, Nat.le_refl _, by omega, ?_, ?_⟩
      · intro k9 T lt fo s t L wl v
        refine (lo1_s _ _ _).trans ?_
        unfold B_X0_step_0
        rw [gd_end, gd_next, if_neg hle, gd_bytes, rI _ (by omega) (by omega), bs, if_neg (fun e => q ((show exI B x = (32 : Int32) ↔ Y x = 32 from hb.eqc (a := 32) (by decide)).mp e))]
      · intro k9 f t L v w g ga o rd rn
        refine (lo1_s _ _ _).trans ?_
        unfold B_X5_token_0
        rw [gm_next, see_in hl hn (by omega), bs, if_neg (fun e => q ((show exI (m_tape M) x = (32 : Int32) ↔ Y x = 32 from hb.eqm (a := 32) (by decide)).mp e))]
theorem letW (hl : m_length M = nI n) (hn : n ≤ 600) (hB : ∀ k, k < n → BR (exI B k) (exI (m_tape M) k) (Y k)) : ∀ (d x L fu fu2 : Nat) (wl wm : Int64), x + d = n → d < fu → d < fu2 → L ≤ x → PW L wl wm → ∃ x' L' wl' wm', x ≤ x' ∧ x' ≤ n ∧ L' + x = L + x' ∧ PW L' wl' wm' ∧ (x < n → 97 ≤ Y x ∧ Y x ≤ 122 → x < x') ∧
    (∀ k9 T lt fo s t v, lo1 (B_X0_stepLetters_10 k9) fu (dq B (nI n) T lt (nI x) fo s t (nI L) wl v) = k9 (dq B (nI n) T lt (nI x') fo s t (nI L') wl' v)) ∧
    (∀ k9 f t v g ga o rd rn, lo1 (B_X5_token_73 k9) fu2 (mr M (nI x) f t (nI L) v wm g ga o rd rn) = k9 (mr M (nI x') f t (nI L') v wm' g ga o rd rn)) := by
  intro d
  induction d with
  | zero =>
    intro x L fu fu2 wl wm hx hf hf2 hL hP
    obtain ⟨fu, rfl⟩ : ∃ f, fu = f + 1 := ⟨fu - 1, by omega⟩
    obtain ⟨fu2, rfl⟩ : ∃ f, fu2 = f + 1 := ⟨fu2 - 1, by omega⟩
    have hx : x = n := by omega
    subst hx
    refine ⟨x, L, wl, wm, Nat.le_refl _, Nat.le_refl _, rfl, hP, fun h => absurd h (Nat.lt_irrefl _), ?_, ?_⟩
    · intro k9 T lt fo s t v
      refine (lo1_s _ _ _).trans ?_
      unfold B_X0_stepLetters_10
      rw [gd_end, gd_next, if_pos (Int32.le_refl _)]
    · intro k9 f t v g ga o rd rn
      refine (lo1_s _ _ _).trans ?_
      unfold B_X5_token_73
      rw [gm_next, see_out hl, bs, show F_X5_isLetter (-1) = some 0 from rfl, bs, if_pos rfl]
  | succ d ih =>
    intro x L fu fu2 wl wm hx hf hf2 hL hP
    obtain ⟨fu, rfl⟩ : ∃ f, fu = f + 1 := ⟨fu - 1, by omega⟩
    obtain ⟨fu2, rfl⟩ : ∃ f, fu2 = f + 1 := ⟨fu2 - 1, by omega⟩
    have hb := hB x (by omega)
    have hle : ¬ nI n ≤ nI x := by
      rw [nI_leI (by omega) (by omega)]
      omega
    by_cases q : 97 ≤ Y x ∧ Y x ≤ 122
    · have hc := hb.letC
      have hm := hb.letM
      rw [if_pos q] at hc hm
      by_cases h7 : 7 ≤ L
      · have h7c : (7 : Int32) ≤ nI L := (nI_leI (a := 7) (by omega) (by omega)).mpr h7
        obtain ⟨x', L', wl', wm', h1, h2, h3, h4, -, h6, h8⟩ := ih (x + 1) (L + 1) fu fu2 wl 0 (by omega) (by omega) (by omega) (by omega) (fun q => by omega)
        refine ⟨x', L', wl', wm', by omega, h2, by omega, h4, fun _ _ => by omega, ?_, ?_⟩
        · intro k9 T lt fo s t v
          refine (lo1_s _ _ _).trans (Eq.trans ?_ (h6 k9 T lt fo s t v))
          unfold B_X0_stepLetters_10 J_X0_stepLetters_76
          rw [gd_end, gd_next, if_neg hle, gd_bytes, rI _ (by omega) (by omega), bs, hc, bs, if_neg n10, gd_length, if_pos h7c, nm_eq, nI_1, ud_length, nm_eq, gd_next, nI_1, ud_next]
        · intro k9 f t v g ga o rd rn
          refine (lo1_s _ _ _).trans (Eq.trans ?_ (h8 k9 f t v g ga o rd rn))
          unfold B_X5_token_73 J_X5_token_123
          rw [gm_next, see_in hl hn (by omega), bs, hm, bs, if_neg n10, gm_many, if_pos h7c, nm_eq, um_word, nm_eq, gm_next, nI_1, um_next, nm_eq, gm_many, nI_1, um_many]
      · have h7c : ¬ (7 : Int32) ≤ nI L := by
          rw [show (7 : Int32) = nI 7 from rfl, nI_leI (by omega) (by omega)]
          exact h7
        obtain ⟨ls, e1, e2, rfl, rfl⟩ := hP (by omega)
        subst e1
        obtain ⟨x', L', wl', wm', h1, h2, h3, h4, -, h6, h8⟩ := ih (x + 1) (ls.length + 1) fu fu2 (lN (nLo (ls ++ [Y x - 96]))) (lN (nHi 0 (ls ++ [Y x - 96]))) (by omega) (by omega) (by omega) (by omega) (fun _ => ⟨ls ++ [Y x - 96], by rw [List.length_append]; rfl, e2.snoc (by omega) (by omega), rfl, rfl⟩)
        have hlo := lo_more e2 (by omega) (l := Y x - 96) (by omega)
        have hhi := hi_more ls (l := Y x - 96) (by omega)
        rw [show Y x - 96 + 96 = Y x by omega] at hhi
        have hbv : exI B x = nI (Y x) := hb.2.2.1 (by omega)
        have hv : (nI (Y x) - (97 : Int32) + (1 : Int32)).toInt64 = lN (Y x - 96) := by
          rw [show (97 : Int32) = nI 97 from rfl, nI_subI (by omega), nI_1, nI_l (by omega)]
          exact congrArg lN (by omega)
        refine ⟨x', L', wl', wm', by omega, h2, by omega, h4, fun _ _ => by omega, ?_, ?_⟩
        · intro k9 T lt fo s t v
          refine (lo1_s _ _ _).trans (Eq.trans ?_ (h6 k9 T lt fo s t v))
          unfold B_X0_stepLetters_10 J_X0_stepLetters_76
          rw [gd_end, gd_next, if_neg hle, gd_bytes, rI _ (by omega) (by omega), bs, hc, bs, if_neg n10, gd_length, if_neg h7c, bs, nm_eq, gd_letters, hbv, hv, hlo, ud_letters, nm_eq, gd_length, nI_1, ud_length, nm_eq, gd_next, nI_1, ud_next]
        · intro k9 f t v g ga o rd rn
          refine (lo1_s _ _ _).trans (Eq.trans ?_ (h8 k9 f t v g ga o rd rn))
          unfold B_X5_token_73 J_X5_token_123
          rw [gm_next, see_in hl hn (by omega), bs, hm, bs, if_neg n10, gm_many, if_neg h7c, bs, nm_eq, gm_word, hb.2.1, hhi, um_word, nm_eq, gm_next, nI_1, um_next, nm_eq, gm_many, nI_1, um_many]
    · have hc := hb.letC
      have hm := hb.letM
      rw [if_neg q] at hc hm
      refine ⟨x, L, wl, wm, Nat.le_refl _, by omega, rfl, hP, fun _ h => absurd h q, ?_, ?_⟩
      · intro k9 T lt fo s t v
        refine (lo1_s _ _ _).trans ?_
        unfold B_X0_stepLetters_10
        rw [gd_end, gd_next, if_neg hle, gd_bytes, rI _ (by omega) (by omega), bs, hc, bs, if_pos rfl]
      · intro k9 f t v g ga o rd rn
        refine (lo1_s _ _ _).trans ?_
        unfold B_X5_token_73
        rw [gm_next, see_in hl hn (by omega), bs, hm, bs, if_pos rfl]
theorem digW (hl : m_length M = nI n) (hn : n ≤ 600) (hB : ∀ k, k < n → BR (exI B k) (exI (m_tape M) k) (Y k)) : ∀ (d x L fu fu2 : Nat) (v vm : Int32), x + d = n → d < fu → d < fu2 → L ≤ x → PV L v vm → ∃ x' L' v' vm', x ≤ x' ∧ x' ≤ n ∧ L' + x = L + x' ∧ PV L' v' vm' ∧ (x < n → 48 ≤ Y x ∧ Y x ≤ 57 → x < x') ∧
    (∀ k9 T lt fo s t wl, lo1 (B_X0_stepDigits_10 k9) fu (dq B (nI n) T lt (nI x) fo s t (nI L) wl v) = k9 (dq B (nI n) T lt (nI x') fo s t (nI L') wl v')) ∧
    (∀ k9 f t w g ga o rd rn, lo1 (B_X5_token_182 k9) fu2 (mr M (nI x) f t (nI L) vm w g ga o rd rn) = k9 (mr M (nI x') f t (nI L') vm' w g ga o rd rn)) := by
  intro d
  induction d with
  | zero =>
    intro x L fu fu2 v vm hx hf hf2 hL hP
    obtain ⟨fu, rfl⟩ : ∃ f, fu = f + 1 := ⟨fu - 1, by omega⟩
    obtain ⟨fu2, rfl⟩ : ∃ f, fu2 = f + 1 := ⟨fu2 - 1, by omega⟩
    have hx : x = n := by omega
    subst hx
    refine ⟨x, L, v, vm, Nat.le_refl _, Nat.le_refl _, rfl, hP, fun h => absurd h (Nat.lt_irrefl _), ?_, ?_⟩
    · intro k9 T lt fo s t wl
      refine (lo1_s _ _ _).trans ?_
      unfold B_X0_stepDigits_10
      rw [gd_end, gd_next, if_pos (Int32.le_refl _)]
    · intro k9 f t w g ga o rd rn
      refine (lo1_s _ _ _).trans ?_
      unfold B_X5_token_182
      rw [gm_next, see_out hl, bs, show F_X5_isDigit (-1) = some 0 from rfl, bs, if_pos rfl]
  | succ d ih =>
    intro x L fu fu2 v vm hx hf hf2 hL hP
    obtain ⟨fu, rfl⟩ : ∃ f, fu = f + 1 := ⟨fu - 1, by omega⟩
    obtain ⟨fu2, rfl⟩ : ∃ f, fu2 = f + 1 := ⟨fu2 - 1, by omega⟩
    have hb := hB x (by omega)
    have hle : ¬ nI n ≤ nI x := by
      rw [nI_leI (by omega) (by omega)]
      omega
    by_cases q : 48 ≤ Y x ∧ Y x ≤ 57
    · have hc := hb.digC
      have hm := hb.digM
      rw [if_pos q] at hc hm
      by_cases h7 : 7 ≤ L
      · have h7c : (7 : Int32) ≤ nI L := (nI_leI (a := 7) (by omega) (by omega)).mpr h7
        obtain ⟨x', L', v', vm', h1, h2, h3, h4, -, h6, h8⟩ := ih (x + 1) (L + 1) fu fu2 v 0 (by omega) (by omega) (by omega) (by omega) (fun q => by omega)
        refine ⟨x', L', v', vm', by omega, h2, by omega, h4, fun _ _ => by omega, ?_, ?_⟩
        · intro k9 T lt fo s t wl
          refine (lo1_s _ _ _).trans (Eq.trans ?_ (h6 k9 T lt fo s t wl))
          unfold B_X0_stepDigits_10 J_X0_stepDigits_69
          rw [gd_end, gd_next, if_neg hle, gd_bytes, rI _ (by omega) (by omega), bs, hc, bs, if_neg n10, gd_length, if_pos h7c, nm_eq, nI_1, ud_length, nm_eq, gd_next, nI_1, ud_next]
        · intro k9 f t w g ga o rd rn
          refine (lo1_s _ _ _).trans (Eq.trans ?_ (h8 k9 f t w g ga o rd rn))
          unfold B_X5_token_182 J_X5_token_229
          rw [gm_next, see_in hl hn (by omega), bs, hm, bs, if_neg n10, gm_many, if_pos h7c, nm_eq, um_number, nm_eq, gm_next, nI_1, um_next, nm_eq, gm_many, nI_1, um_many]
      · have h7c : ¬ (7 : Int32) ≤ nI L := by
          rw [show (7 : Int32) = nI 7 from rfl, nI_leI (by omega) (by omega)]
          exact h7
        obtain ⟨k, e1, rfl, rfl⟩ := hP (by omega)
        have hp : 10 ^ L ≤ 1000000 := Nat.pow_le_pow_right (n := 10) (j := 6) (by decide) (by omega)
        have e3 : 10 * k + Y x - 48 < 10 ^ (L + 1) := by
          rw [Nat.pow_succ]
          omega
        obtain ⟨x', L', v', vm', h1, h2, h3, h4, -, h6, h8⟩ := ih (x + 1) (L + 1) fu fu2 (nI (10 * k + Y x - 48)) (nI (10 * k + Y x - 48)) (by omega) (by omega) (by omega) (by omega) (fun _ => ⟨_, e3, rfl, rfl⟩)
        have hbv : exI B x = nI (Y x) := hb.2.2.1 (by omega)
        have hv : nI k * (10 : Int32) + nI (Y x) - (48 : Int32) = nI (10 * k + Y x - 48) := by
          rw [show (10 : Int32) = nI 10 from rfl, pk_mul, nI_add, show (48 : Int32) = nI 48 from rfl, nI_subI (by omega)]
          exact congrArg nI (by omega)
        have hv2 : (10 : Int32) * nI k + nI (Y x) - (48 : Int32) = nI (10 * k + Y x - 48) := by
          rw [show (10 : Int32) = nI 10 from rfl, pk_mul, nI_add, show (48 : Int32) = nI 48 from rfl, nI_subI (by omega)]
        refine ⟨x', L', v', vm', by omega, h2, by omega, h4, fun _ _ => by omega, ?_, ?_⟩
        · intro k9 T lt fo s t wl
          refine (lo1_s _ _ _).trans (Eq.trans ?_ (h6 k9 T lt fo s t wl))
          unfold B_X0_stepDigits_10 J_X0_stepDigits_69
          rw [gd_end, gd_next, if_neg hle, gd_bytes, rI _ (by omega) (by omega), bs, hc, bs, if_neg n10, gd_length, if_neg h7c, bs, nm_eq, gd_number, hbv, hv, ud_number, nm_eq, gd_length, nI_1, ud_length, nm_eq, gd_next, nI_1, ud_next]
        · intro k9 f t w g ga o rd rn
          refine (lo1_s _ _ _).trans (Eq.trans ?_ (h8 k9 f t w g ga o rd rn))
          unfold B_X5_token_182 J_X5_token_229
          rw [gm_next, see_in hl hn (by omega), bs, hm, bs, if_neg n10, gm_many, if_neg h7c, bs, nm_eq, gm_number, hb.2.1, hv2, um_number, nm_eq, gm_next, nI_1, um_next, nm_eq, gm_many, nI_1, um_many]
    · have hc := hb.digC
      have hm := hb.digM
      rw [if_neg q] at hc hm
      refine ⟨x, L, v, vm, Nat.le_refl _, by omega, rfl, hP, fun _ h => absurd h q, ?_, ?_⟩
      · intro k9 T lt fo s t wl
        refine (lo1_s _ _ _).trans ?_
        unfold B_X0_stepDigits_10
        rw [gd_end, gd_next, if_neg hle, gd_bytes, rI _ (by omega) (by omega), bs, hc, bs, if_pos rfl]
      · intro k9 f t w g ga o rd rn
        refine (lo1_s _ _ _).trans ?_
        unfold B_X5_token_182
        rw [gm_next, see_in hl hn (by omega), bs, hm, bs, if_pos rfl]
theorem tok_step (hl : m_length M = nI n) (hn : n ≤ 600) (hB : ∀ k, k < n → BR (exI B k) (exI (m_tape M) k) (Y k)) {x : Nat} (hx : x ≤ n) (s0 t0 L0 : Int32) (wl0 : Int64) (v0 f1 t1 L1 v1 : Int32) (w1 : Int64) : ∃ x' s t L wl v Lm vm wm, x ≤ x' ∧ x' ≤ n ∧ s ≤ n ∧ (t ≠ 0 → x < x') ∧ TokW t L wl v Lm vm wm ∧
    (∀ T lt fo, F_X0_step (dq B (nI n) T lt (nI x) fo s0 t0 L0 wl0 v0) = some (dq B (nI n) T lt (nI x') fo (nI s) (nI t) L wl v)) ∧
    (∀ g ga o rd rn, F_X5_token (mr M (nI x) f1 t1 L1 v1 w1 g ga o rd rn) = some (mr M (nI x') (nI s) (nI t) Lm vm wm g ga o rd rn)) := by
  obtain ⟨z, z1, z2, hC, hM⟩ := blankW hl hn hB (n - x) x FU FU (by omega) (by rw [FU_eq]; omega) (by rw [FU_eq]; omega)
  by_cases hz : z = n
  · refine ⟨z, z, 0, L0, wl0, v0, 0, v1, w1, z1, z2, z2, fun h => absurd rfl h, ⟨by omega, fun h => by omega, fun h => by omega⟩, ?_, ?_⟩
    · intro T lt fo
      unfold F_X0_step
      rw [hC]
      unfold J_X0_step_38
      rw [nm_eq, gd_next, ud_start, gd_next, gd_end, if_neg (by rw [hz]; exact Int32.lt_irrefl), nm_eq, ud_token]
      rfl
    · intro g ga o rd rn
      unfold F_X5_token
      rw [hM, nm_eq, gm_next, um_from, nm_eq, um_many, gm_next, hz, see_out hl, bs, if_pos rfl, nm_eq, um_sort]
      rfl
  · have hb := hB z (by omega)
    have hlt : nI z < nI n := (nI_ltI (by omega) (by omega)).mpr (by omega)
    have hm1 : ¬ exI (m_tape M) z = -1 := by
      rw [hb.2.1]
      intro e
      have h1 := hb.1
      have h2 := congrArg Int32.toInt e
      rw [nI_toInt (by omega)] at h2
      have h3 : (-1 : Int32).toInt = -1 := by decide
      omega
    have hlc := hb.letC
    have hlm := hb.letM
    by_cases ql : 97 ≤ Y z ∧ Y z ≤ 122
    · rw [if_pos ql] at hlc hlm
      obtain ⟨x', L', wl', wm', h1, h2, h3, h4, h5, h6, h8⟩ := letW hl hn hB (n - z) z 0 FU FU 0 0 (by omega) (by rw [FU_eq]; omega) (by rw [FU_eq]; omega) (by omega) (fun _ => ⟨[], rfl, fun l hl => absurd hl List.not_mem_nil, rfl, rfl⟩)
      have h5' := h5 (by omega) ql
      refine ⟨x', z, if L' ≤ 7 then 1 else 4, nI L', wl', v0, nI L', v1, wm', by omega, h2, z2, fun _ => by omega, ⟨by split <;> omega, fun ht => ?_, fun ht => ?_⟩, ?_, ?_⟩
      · by_cases q7 : L' ≤ 7
        · obtain ⟨ls, e1, e2, e3, e4⟩ := h4 q7
          exact ⟨ls, by omega, by omega, e2, by rw [e1], by rw [e1], e3, e4⟩
        · rw [if_neg q7] at ht
          omega
      · split at ht <;> omega
      · intro T lt fo
        unfold F_X0_step
        rw [hC]
        unfold J_X0_step_38
        rw [nm_eq, gd_next, ud_start, gd_next, gd_end, if_pos hlt, gd_bytes, rI _ (by omega) (by omega), bs, hlc, bs, if_neg n10]
        unfold F_X0_stepLetters
        rw [nm_eq, ud_letters, nm_eq, ud_length, show (0 : Int32) = nI 0 from rfl, h6]
        unfold J_X0_stepLetters_99 J_X0_stepLetters_114
        rw [gd_length, show (7 : Int32) = nI 7 from rfl]
        by_cases q7 : L' ≤ 7
        · rw [if_neg (by rw [nI_ltI (by omega) (by omega)]; omega), if_pos q7, nm_eq, ud_token, bs]
          rfl
        · rw [if_pos (by rw [nI_ltI (by omega) (by omega)]; omega), if_neg q7, nm_eq, ud_token, bs]
          rfl
      · intro g ga o rd rn
        unfold F_X5_token
        rw [hM, nm_eq, gm_next, um_from, nm_eq, um_many, gm_next, see_in hl hn (by omega), bs, if_neg hm1, hlm, bs, if_neg n10, nm_eq, um_word, show (0 : Int32) = nI 0 from rfl, h8]
        unfold J_X5_token_164
        rw [gm_many, show (7 : Int32) = nI 7 from rfl]
        by_cases q7 : L' ≤ 7
        · rw [if_pos (by rw [nI_leI (by omega) (by omega)]; omega), if_pos q7, nm_eq, um_sort]
          rfl
        · rw [if_neg (by rw [nI_leI (by omega) (by omega)]; omega), if_neg q7, nm_eq, um_sort]
          rfl
    · rw [if_neg ql] at hlc hlm
      have hdc := hb.digC
      have hdm := hb.digM
      by_cases qd : 48 ≤ Y z ∧ Y z ≤ 57
      · rw [if_pos qd] at hdc hdm
        obtain ⟨x', L', v', vm', h1, h2, h3, h4, h5, h6, h8⟩ := digW hl hn hB (n - z) z 0 FU FU 0 0 (by omega) (by rw [FU_eq]; omega) (by rw [FU_eq]; omega) (by omega) (fun _ => ⟨0, by decide, rfl, rfl⟩)
        have h5' := h5 (by omega) qd
        refine ⟨x', z, if L' ≤ 7 then 2 else 4, nI L', wl0, v', nI L', vm', w1, by omega, h2, z2, fun _ => by omega, ⟨by split <;> omega, fun ht => ?_, fun ht => ?_⟩, ?_, ?_⟩
        · split at ht <;> omega
        · by_cases q7 : L' ≤ 7
          · obtain ⟨k, e1, e2, e3⟩ := h4 q7
            have hp : 10 ^ L' ≤ 10000000 := Nat.pow_le_pow_right (n := 10) (j := 7) (by decide) (by omega)
            exact ⟨k, by omega, e2, e3⟩
          · rw [if_neg q7] at ht
            omega
        · intro T lt fo
          unfold F_X0_step
          rw [hC]
          unfold J_X0_step_38
          rw [nm_eq, gd_next, ud_start, gd_next, gd_end, if_pos hlt, gd_bytes, rI _ (by omega) (by omega), bs, hlc, bs, if_pos rfl, bs, hdc, bs, if_neg n10]
          unfold F_X0_stepDigits
          rw [nm_eq, ud_number, nm_eq, ud_length]
          refine (congrArg (fun q => Option.bind q (fun q12 => some q12)) (h6 _ T lt fo (nI z) t0 wl0)).trans ?_
          unfold J_X0_stepDigits_92 J_X0_stepDigits_107
          rw [gd_length, show (7 : Int32) = nI 7 from rfl]
          by_cases q7 : L' ≤ 7
          · rw [if_neg (by rw [nI_ltI (by omega) (by omega)]; omega), if_pos q7, nm_eq, ud_token, bs]
            rfl
          · rw [if_pos (by rw [nI_ltI (by omega) (by omega)]; omega), if_neg q7, nm_eq, ud_token, bs]
            rfl
        · intro g ga o rd rn
          unfold F_X5_token
          rw [hM, nm_eq, gm_next, um_from, nm_eq, um_many, gm_next, see_in hl hn (by omega), bs, if_neg hm1, hlm, bs, if_pos rfl, hdm, bs, if_neg n10, nm_eq, um_number]
          refine (h8 _ (nI z) t1 w1 g ga o rd rn).trans ?_
          unfold J_X5_token_270
          rw [gm_many, show (7 : Int32) = nI 7 from rfl]
          by_cases q7 : L' ≤ 7
          · rw [if_pos (by rw [nI_leI (by omega) (by omega)]; omega), if_pos q7, nm_eq, um_sort]
            rfl
          · rw [if_neg (by rw [nI_leI (by omega) (by omega)]; omega), if_neg q7, nm_eq, um_sort]
            rfl
      · rw [if_neg qd] at hdc hdm
        refine ⟨z + 1, z, if Y z = 59 then 3 else 4, L0, wl0, v0, 0, v1, w1, by omega, by omega, z2, fun _ => by omega, ⟨by split <;> omega, fun ht => ?_, fun ht => ?_⟩, ?_, ?_⟩
        · split at ht <;> omega
        · split at ht <;> omega
        · intro T lt fo
          unfold F_X0_step
          rw [hC]
          unfold J_X0_step_38 J_X0_step_129
          rw [nm_eq, gd_next, ud_start, gd_next, gd_end, if_pos hlt, gd_bytes, rI _ (by omega) (by omega), bs, hlc, bs, if_pos rfl, bs, hdc, bs, if_pos rfl, bs]
          by_cases q : Y z = 59
          · rw [if_pos ((show exI B z = (59 : Int32) ↔ Y z = 59 from hb.eqc (a := 59) (by decide)).mpr q), if_pos q, nm_eq, ud_token, nm_eq, gd_next, nI_1, ud_next]
            rfl
          · rw [if_neg (fun e => q ((show exI B z = (59 : Int32) ↔ Y z = 59 from hb.eqc (a := 59) (by decide)).mp e)), if_neg q, nm_eq, ud_token, nm_eq, gd_next, nI_1, ud_next]
            rfl
        · intro g ga o rd rn
          unfold F_X5_token J_X5_token_288
          rw [hM, nm_eq, gm_next, um_from, nm_eq, um_many, gm_next, see_in hl hn (by omega), bs, if_neg hm1, hlm, bs, if_pos rfl, hdm, bs, if_pos rfl]
          by_cases q : Y z = 59
          · rw [if_pos ((show exI (m_tape M) z = (59 : Int32) ↔ Y z = 59 from hb.eqm (a := 59) (by decide)).mpr q), if_pos q, nm_eq, um_sort, nm_eq, gm_next, nI_1, um_next]
            rfl
          · rw [if_neg (fun e => q ((show exI (m_tape M) z = (59 : Int32) ↔ Y z = 59 from hb.eqm (a := 59) (by decide)).mp e)), if_neg q, nm_eq, um_sort, nm_eq, gm_next, nI_1, um_next]
            rfl
end TOK
end
section
/-! ===== level 2: the words of a text ===== -/
def wdL : List (List Nat) := [[19, 8, 9, 16], [20, 15, 14, 19], [6, 1, 21, 12, 20], [8, 21, 12, 12], [22, 1, 12, 21, 5], [3, 12, 1, 21, 19, 5], [2, 1, 18, 18, 5, 4], [4, 1, 25], [7, 15, 15, 4, 19], [16, 5, 18, 19, 15, 14, 19], [15, 20, 8, 5, 18, 19], [5, 17, 21, 1, 12], [23, 8, 15, 12, 5], [3, 18, 15, 19, 19], [18, 1, 20, 5], [12, 9, 22, 5, 19], [12, 5, 1, 19, 20], [4, 21, 5], [12, 1, 19, 20]]
def wdN (w : Nat) : List Nat := wdL.getD w []
def fwN (ls : List Nat) : Nat → Option Nat
  | 0 => none
  | d + 1 => if wdN (18 - d) = ls then some (18 - d) else fwN ls d
theorem wd_good : ∀ w, w < 19 → (wdN w).length ≤ 7 ∧ (∀ l, l ∈ wdN w → 1 ≤ l ∧ l ≤ 26) := by decide +kernel
theorem wd_Let {w : Nat} (h : w < 19) : Let (wdN w) := (wd_good w h).2
theorem wd_len {w : Nat} (h : w < 19) : (wdN w).length ≤ 7 := (wd_good w h).1
theorem wd_letN : ∀ w, w < 19 → wd_let[w]? = some (lN (nLo (wdN w))) := by decide +kernel
theorem wd_inj : ∀ w, w < 19 → ∀ u, u < 19 → wdN w = wdN u → w = u := by decide +kernel
theorem wd_long : ∀ w, w < 19 → (wdN w).length ≤ 6 → w ≠ 9 := by decide +kernel
theorem fw_some {ls : List Nat} {w : Nat} : ∀ {d : Nat}, d ≤ 19 → fwN ls d = some w → w < 19 ∧ wdN w = ls
  | 0, _, h => by cases h
  | d + 1, hd, h => by
    unfold fwN at h
    by_cases q : wdN (18 - d) = ls
    · rw [if_pos q] at h
      cases h
      exact ⟨by omega, q⟩
    · rw [if_neg q] at h
      exact fw_some (by omega) h
theorem fw_none {ls : List Nat} : ∀ {d : Nat}, d ≤ 19 → fwN ls d = none → ∀ w, 19 - d ≤ w → w < 19 → wdN w ≠ ls
  | 0, _, _, w, h1, h2 => by omega
  | d + 1, hd, h, w, h1, h2 => by
    unfold fwN at h
    by_cases q : wdN (18 - d) = ls
    · rw [if_pos q] at h
      cases h
    · rw [if_neg q] at h
      by_cases e : w = 18 - d
      · rw [e]
        exact q
      · exact fw_none (by omega) h w (by omega) h2
theorem fw_iff (ls : List Nat) {w : Nat} (hw : w < 19) : fwN ls 19 = some w ↔ ls = wdN w := by
  constructor
  · intro h
    exact (fw_some (Nat.le_refl _) h).2.symm
  · intro h
    cases e : fwN ls 19 with
    | none => exact absurd h.symm (fw_none (Nat.le_refl _) e w (by omega) hw)
    | some u =>
      have h2 := fw_some (Nat.le_refl _) e
      rw [wd_inj w hw u h2.1 (h.symm.trans h2.2.symm)]
theorem lg0 (x y : Int64) : lg_cmp x y = 0 ↔ x = y := lg_cmp_eq x y
theorem fixW {ls : List Nat} (hL : Let ls) (hl : ls.length ≤ 7) (S : DS) (hS : d_letters S = lN (nLo ls)) : ∀ d i fu, i + d = 19 → d < fu → lo1 (B_X0_fixedWord_12 S (fun _u => some none)) fu (nI i) = some (fwN ls d) := by
  intro d
  induction d with
  | zero =>
    intro i fu hi hf
    obtain ⟨fu, rfl⟩ : ∃ f, fu = f + 1 := ⟨fu - 1, by omega⟩
    have hi : i = 19 := by omega
    subst hi
    refine (lo1_s _ _ _).trans ?_
    unfold B_X0_fixedWord_12
    rw [if_pos (by decide)]
    rfl
  | succ d ih =>
    intro i fu hi hf
    obtain ⟨fu, rfl⟩ : ∃ f, fu = f + 1 := ⟨fu - 1, by omega⟩
    have h := ih (i + 1) fu (by omega) (by omega)
    have key : ∀ (k9 : Unit → Option (Option Nat)) rc, B_X0_fixedWord_12 S k9 rc (nI i) = if wdN i = ls then some (some i) else rc (nI (i + 1)) := by
      intro k9 rc
      unfold B_X0_fixedWord_12
      rw [show (19 : Int32) = nI 19 from rfl, if_neg (by rw [nI_leI (by omega) (by omega)]; omega), ix_N (by omega) (by omega), bs, wd_letN i (by omega), bs, hS]
      by_cases q : wdN i = ls
      · rw [if_pos ((lg0 _ _).mpr (by rw [q])), if_pos q, bs]
      · rw [if_neg (fun e => q ((lo_eq (wd_Let (by omega)) hL (wd_len (by omega)) hl).mp ((lg0 _ _).mp e))), if_neg q, nm_eq, nI_1]
    refine (lo1_s _ _ _).trans ((key _ _).trans ?_)
    unfold fwN
    rw [show 18 - d = i by omega]
    by_cases q : wdN i = ls
    · rw [if_pos q, if_pos q]
    · rw [if_neg q, if_neg q]
      exact h

theorem w_ship : F_X5_shipWord = some (lN (nHi 0 (wdN 0))) := by decide +kernel
theorem w_tons : F_X5_tonsWord = some (lN (nHi 0 (wdN 1))) := by decide +kernel
theorem w_fault : F_X5_faultWord = some (lN (nHi 0 (wdN 2))) := by decide +kernel
theorem w_hull : F_X5_hullWord = some (lN (nHi 0 (wdN 3))) := by decide +kernel
theorem w_value : F_X5_valueWord = some (lN (nHi 0 (wdN 4))) := by decide +kernel
theorem w_clause : F_X5_clauseWord = some (lN (nHi 0 (wdN 5))) := by decide +kernel
theorem w_barred : F_X5_barredWord = some (lN (nHi 0 (wdN 6))) := by decide +kernel
theorem w_day : F_X5_dayWord = some (lN (nHi 0 (wdN 7))) := by decide +kernel
theorem w_goods : F_X5_goodsWord = some (lN (nHi 0 (wdN 8))) := by decide +kernel
theorem w_persons : F_X5_personsWord = some (lN (nHi 0 (wdN 9))) := by decide +kernel
theorem w_others : F_X5_othersWord = some (lN (nHi 0 (wdN 10))) := by decide +kernel
theorem w_about : ∀ k, k < 10 → 2 ≤ k → F_X5_aboutWord (nI k) = some (lN (nHi 0 (wdN (k + 9)))) := by decide +kernel
/-- the word that a token is, on both sides -/
def RecR (t : Nat) (R : Option Nat) (L : Int32) (wl : Int64) (Lm : Int32) (wm : Int64) : Prop := (∀ w, R = some w → w < 19 ∧ t = 1) ∧ (t = 1 → ∃ ls : List Nat, 0 < ls.length ∧ ls.length ≤ 7 ∧ Let ls ∧ L = nI ls.length ∧ Lm = nI ls.length ∧ wl = lN (nLo ls) ∧ wm = lN (nHi 0 ls) ∧ R = fwN ls 19)
theorem TokW.rec {t : Nat} {L : Int32} {wl : Int64} {v Lm vm : Int32} {wm : Int64} (h : TokW t L wl v Lm vm wm) : ∃ R, RecR t R L wl Lm wm := by
  by_cases ht : t = 1
  · obtain ⟨ls, h1, h2, h3, h4, h5, h6, h7⟩ := h.2.1 ht
    exact ⟨fwN ls 19, fun w hw => ⟨(fw_some (Nat.le_refl _) hw).1, ht⟩, fun _ => ⟨ls, h1, h2, h3, h4, h5, h6, h7, rfl⟩⟩
  · refine ⟨none, ?_, fun q => absurd q ht⟩
    intro w hw
    cases hw
section WRD
variable {t : Nat} {R : Option Nat} {L : Int32} {wl : Int64} {Lm : Int32} {wm : Int64}
theorem RecR.fixed (h : RecR t R L wl Lm wm) (ht : t ≤ 4) (B : Fin 600 → Int32) (e : Int32) (T : TS) (lt : Fin 10 → Int32) (x fo s v : Int32) : F_X0_fixedWord (dq B e T lt x fo s (nI t) L wl v) = some R := by
  unfold F_X0_fixedWord
  by_cases q : t = 1
  · obtain ⟨ls, h1, h2, h3, h4, h5, h6, h7, h8⟩ := h.2 q
    rw [gd_token, if_pos (by rw [q]; rfl), h8]
    exact fixW h3 h2 (dq B e T lt x fo s (nI t) L wl v) h6 19 0 FU (by omega) (by rw [FU_eq]; omega)
  · rw [gd_token, if_neg (nI_n1 q (by omega))]
    cases hR : R with
    | none => rfl
    | some w => exact absurd (h.1 w hR).2 q
theorem RecR.is (h : RecR t R L wl Lm wm) (ht : t ≤ 4) {w : Nat} (hw : w < 19) (M : MS) (x f v ga o : Int32) (rd : Fin 82 → Int32) (rn : Fin 4 → Int64) : F_X5_isWord (mr M x f (nI t) Lm v wm 0 ga o rd rn) (lN (nHi 0 (wdN w))) = some (if R = some w then 1 else 0) := by
  unfold F_X5_isWord
  rw [gm_wrong, if_pos rfl, gm_sort, gm_word]
  by_cases q : t = 1
  · obtain ⟨ls, h1, h2, h3, h4, h5, h6, h7, h8⟩ := h.2 q
    rw [if_pos (by rw [q]; rfl), h7, h8]
    by_cases e : ls = wdN w
    · rw [if_pos ((lg0 _ _).mpr (by rw [e])), if_pos ((fw_iff ls hw).mpr e)]
    · rw [if_neg (fun z => e ((hi_eq h3 (wd_Let hw) h2 (wd_len hw)).mp ((lg0 _ _).mp z))), if_neg (fun z => e ((fw_iff ls hw).mp z))]
  · rw [if_neg (nI_n1 q (by omega)), if_neg (fun z => q (h.1 w z).2)]
def aboR (R : Option Nat) : Int32 := match R with
  | none => -1
  | some w => if 11 ≤ w then nI (w - 9) else -1
theorem RecR.abo (h : RecR t R L wl Lm wm) (ht : t ≤ 4) (M : MS) (x f v ga o : Int32) (rd : Fin 82 → Int32) (rn : Fin 4 → Int64) : F_X5_aboutHere (mr M x f (nI t) Lm v wm 0 ga o rd rn) = some (aboR R) := by
  have key : ∀ d k fu, k + d = 10 → d < fu → 2 ≤ k → (∀ w, R = some w → 11 ≤ w → k + 9 ≤ w) → lo1 (B_X5_aboutHere_2 (mr M x f (nI t) Lm v wm 0 ga o rd rn) (fun _u => some (-1 : Int32))) fu (nI k) = some (aboR R) := by
    intro d
    induction d with
    | zero =>
      intro k fu hk hf h2 hR
      obtain ⟨fu, rfl⟩ : ∃ f, fu = f + 1 := ⟨fu - 1, by omega⟩
      have hk : k = 10 := by omega
      subst hk
      refine (lo1_s _ _ _).trans ?_
      unfold B_X5_aboutHere_2
      rw [if_pos (by decide)]
      cases hr : R with
      | none => rfl
      | some w =>
        unfold aboR
        have h1 := (h.1 w hr).1
        by_cases q : 11 ≤ w
        · have := hR w hr q
          omega
        · simp only [if_neg q]
    | succ d ih =>
      intro k fu hk hf h2 hR
      obtain ⟨fu, rfl⟩ : ∃ f, fu = f + 1 := ⟨fu - 1, by omega⟩
      refine (lo1_s _ _ _).trans ?_
      unfold B_X5_aboutHere_2
      rw [show (9 : Int32) = nI 9 from rfl, if_neg (by rw [nI_ltI (by omega) (by omega)]; omega), w_about k (by omega) h2, bs, h.is ht (by omega), bs]
      by_cases q : R = some (k + 9)
      · rw [if_pos q, if_neg n10, q]
        unfold aboR
        simp only [if_pos (show 11 ≤ k + 9 by omega), show k + 9 - 9 = k by omega]
      · rw [if_neg q, if_pos rfl, nm_eq, nI_1]
        refine ih (k + 1) fu (by omega) (by omega) (by omega) (fun w hw h11 => ?_)
        have h3 := hR w hw h11
        have h4 : w ≠ k + 9 := fun e => q (by rw [hw, e])
        omega
  exact key 8 2 FU (by omega) (by rw [FU_eq]; omega) (by omega) (fun w _ h => by omega)
/-- is it a name -/
def isNm (t : Nat) (R : Option Nat) (L : Int32) : Prop := t = 1 ∧ R = none ∧ ¬ (6 : Int32) < L
theorem isNm_em (t : Nat) (R : Option Nat) (L : Int32) : isNm t R L ∨ ¬ isNm t R L := Classical.em _
theorem RecR.nameC (h : RecR t R L wl Lm wm) (ht : t ≤ 4) (B : Fin 600 → Int32) (e : Int32) (T : TS) (lt : Fin 10 → Int32) (x fo s v : Int32) : (isNm t R L → F_X0_isName (dq B e T lt x fo s (nI t) L wl v) = some 1) ∧ (¬ isNm t R L → F_X0_isName (dq B e T lt x fo s (nI t) L wl v) = some 0) := by
  unfold F_X0_isName
  rw [gd_token, gd_length, h.fixed ht, bs]
  constructor
  · rintro ⟨q1, q2, q3⟩
    rw [if_pos (by rw [q1]; rfl), if_neg q3, q2]
    rfl
  · intro q
    by_cases q1 : t = 1
    · rw [if_pos (by rw [q1]; rfl)]
      by_cases q3 : (6 : Int32) < L
      · rw [if_pos q3]
      · rw [if_neg q3]
        cases hr : R with
        | none => exact absurd ⟨q1, hr, q3⟩ q
        | some w => rfl
    · rw [if_neg (nI_n1 q1 (by omega))]
theorem RecR.nameM (h : RecR t R L wl Lm wm) (ht : t ≤ 4) (M : MS) (x f v ga o : Int32) (rd : Fin 82 → Int32) (rn : Fin 4 → Int64) : (isNm t R L → F_X5_isName (mr M x f (nI t) Lm v wm 0 ga o rd rn) = some 1) ∧ (¬ isNm t R L → F_X5_isName (mr M x f (nI t) Lm v wm 0 ga o rd rn) = some 0) := by
  unfold F_X5_isName
  rw [gm_wrong, if_pos rfl, gm_sort, gm_many, h.abo ht, bs]
  rw [w_ship, w_tons, w_fault, w_hull, w_value, w_clause, w_barred, w_goods, w_others, w_day]
  simp only [bs, h.is ht (w := 0) (by decide), h.is ht (w := 1) (by decide), h.is ht (w := 2) (by decide), h.is ht (w := 3) (by decide), h.is ht (w := 4) (by decide), h.is ht (w := 5) (by decide), h.is ht (w := 6) (by decide), h.is ht (w := 7) (by decide), h.is ht (w := 8) (by decide), h.is ht (w := 10) (by decide)]
  constructor
  · rintro ⟨q1, q2, q3⟩
    obtain ⟨ls, h1, h2, h3, h4, h5, h6, h7, h8⟩ := h.2 q1
    have q3' : ¬ (6 : Int32) < Lm := by rw [h5, ← h4]; exact q3
    rw [if_pos (by rw [q1]; rfl), if_neg q3', q2]
    rfl
  · intro q
    by_cases q1 : t = 1
    · obtain ⟨ls, h1, h2, h3, h4, h5, h6, h7, h8⟩ := h.2 q1
      rw [if_pos (by rw [q1]; rfl)]
      by_cases q3 : (6 : Int32) < Lm
      · rw [if_pos q3]
      · rw [if_neg q3]
        cases hr : R with
        | none => exact absurd ⟨q1, hr, by rw [h4, ← h5]; exact q3⟩ q
        | some w =>
          have hw := (h.1 w hr).1
          have hls : ls = wdN w := (fw_iff ls hw).mp (by rw [← h8]; exact hr)
          have h9 : w ≠ 9 := wd_long w hw (by
            rw [← hls]
            rw [h5, show (6 : Int32) = nI 6 from rfl, nI_ltI (by omega) (by omega)] at q3
            omega)
          have hz : ∀ z : Nat, z < 19 → z ≠ 9 → (if aboR (some z) = (-1 : Int32) then (if (if (some z : Option Nat) = some 0 then (1 : Int32) else 0) = 0 then (if (if (some z : Option Nat) = some 1 then (1 : Int32) else 0) = 0 then (if (if (some z : Option Nat) = some 2 then (1 : Int32) else 0) = 0 then (if (if (some z : Option Nat) = some 3 then (1 : Int32) else 0) = 0 then (if (if (some z : Option Nat) = some 4 then (1 : Int32) else 0) = 0 then (if (if (some z : Option Nat) = some 5 then (1 : Int32) else 0) = 0 then (if (if (some z : Option Nat) = some 6 then (1 : Int32) else 0) = 0 then (if (if (some z : Option Nat) = some 8 then (1 : Int32) else 0) = 0 then (if (if (some z : Option Nat) = some 10 then (1 : Int32) else 0) = 0 then (if (if (some z : Option Nat) = some 7 then (1 : Int32) else 0) = 0 then some (1 : Int32) else some 0) else some 0) else some 0) else some 0) else some 0) else some 0) else some 0) else some 0) else some 0) else some 0) else some 0) = some 0 := by decide +kernel
          exact hz w hw h9
    · rw [if_neg (nI_n1 q1 (by omega))]
end WRD
/-! names told -/
section NMD
variable {N : Nat} {T : TS} {M : MS}
theorem NmR.eqs {x y : Int64} (h : NmR x y) {ls : List Nat} (hl : ls.length ≤ 7) (hL : Let ls) : (x = lN (nLo ls) ↔ y = lN (nHi 0 ls)) := by
  obtain ⟨ks, h1, h2, h3, rfl, rfl⟩ := h
  rw [lo_eq h3 hL (by omega) hl, hi_eq h3 hL (by omega) hl]
theorem named (hN : N ≤ 4) (hT : t_ships T = nI N) {ls : List Nat} (hl : ls.length ≤ 7) (hL : Let ls) (x f t L v g ga o : Int32) (rd : Fin 82 → Int32) (rn : Fin 4 → Int64) (h0 : exI rd 0 = nI N) (hn : ∀ i, i < N → NmR (exL (t_names T) i) (exL rn i)) : ∃ r, F_X2_shipNamed T (lN (nLo ls)) = some r ∧ F_X5_shipNamed (mr M x f t L v (lN (nHi 0 ls)) g ga o rd rn) = some r ∧ (r = -1 ∨ ∃ i, i < N ∧ r = nI i) := by
  have hr0 : rdI rd 0 = some (nI N) := by
    rw [show (0 : Int32) = nI 0 from rfl, rI _ (by omega) (by omega), h0]
  have key : ∀ d i fu, i + d = N → d < fu → ∃ r, lo1 (B_X2_shipNamed_2 T (lN (nLo ls)) (fun _u => some (-1 : Int32))) fu (nI i) = some r ∧ lo1 (B_X5_shipNamed_2 (mr M x f t L v (lN (nHi 0 ls)) g ga o rd rn) (fun _u => some (-1 : Int32))) fu (nI i) = some r ∧ (r = -1 ∨ ∃ i, i < N ∧ r = nI i) := by
    intro d
    induction d with
    | zero =>
      intro i fu hi hf
      obtain ⟨fu, rfl⟩ : ∃ f, fu = f + 1 := ⟨fu - 1, by omega⟩
      refine ⟨-1, (lo1_s _ _ _).trans ?_, (lo1_s _ _ _).trans ?_, Or.inl rfl⟩
      · unfold B_X2_shipNamed_2
        rw [hT, if_pos (by rw [nI_leI (by omega) (by omega)]; omega)]
      · unfold B_X5_shipNamed_2
        rw [gm_read, hr0, bs, if_pos (by rw [nI_leI (by omega) (by omega)]; omega)]
    | succ d ih =>
      intro i fu hi hf
      obtain ⟨fu, rfl⟩ : ∃ f, fu = f + 1 := ⟨fu - 1, by omega⟩
      have he := (hn i (by omega)).eqs hl hL
      have hle : ¬ nI N ≤ nI i := by
        rw [nI_leI (by omega) (by omega)]
        omega
      by_cases q : exL (t_names T) i = lN (nLo ls)
      · refine ⟨nI i, (lo1_s _ _ _).trans ?_, (lo1_s _ _ _).trans ?_, Or.inr ⟨i, by omega, rfl⟩⟩
        · unfold B_X2_shipNamed_2
          rw [hT, if_neg hle, rL _ (by omega) (by omega), bs, if_pos ((lg0 _ _).mpr q)]
        · unfold B_X5_shipNamed_2
          rw [gm_read, hr0, bs, if_neg hle, gm_readNames, rL _ (by omega) (by omega), bs, gm_word, if_pos ((lg0 _ _).mpr (he.mp q))]
      · obtain ⟨r, e1, e2, e3⟩ := ih (i + 1) fu (by omega) (by omega)
        refine ⟨r, (lo1_s _ _ _).trans (Eq.trans ?_ e1), (lo1_s _ _ _).trans (Eq.trans ?_ e2), e3⟩
        · unfold B_X2_shipNamed_2
          rw [hT, if_neg hle, rL _ (by omega) (by omega), bs, if_neg (fun z => q ((lg0 _ _).mp z)), nm_eq, nI_1]
        · unfold B_X5_shipNamed_2
          rw [gm_read, hr0, bs, if_neg hle, gm_readNames, rL _ (by omega) (by omega), bs, gm_word, if_neg (fun z => q (he.mpr ((lg0 _ _).mp z))), nm_eq, nI_1]
  exact key N 0 FU (by omega) (by rw [FU_eq]; omega)
theorem named_any (hN : N ≤ 4) (x f t L v : Int32) (w : Int64) (g ga o : Int32) (rd : Fin 82 → Int32) (rn : Fin 4 → Int64) (h0 : exI rd 0 = nI N) : ∃ r, F_X5_shipNamed (mr M x f t L v w g ga o rd rn) = some r := by
  have hr0 : rdI rd 0 = some (nI N) := by
    rw [show (0 : Int32) = nI 0 from rfl, rI _ (by omega) (by omega), h0]
  have key : ∀ d i fu, i + d = N → d < fu → ∃ r, lo1 (B_X5_shipNamed_2 (mr M x f t L v w g ga o rd rn) (fun _u => some (-1 : Int32))) fu (nI i) = some r := by
    intro d
    induction d with
    | zero =>
      intro i fu hi hf
      obtain ⟨fu, rfl⟩ : ∃ f, fu = f + 1 := ⟨fu - 1, by omega⟩
      refine ⟨-1, (lo1_s _ _ _).trans ?_⟩
      unfold B_X5_shipNamed_2
      rw [gm_read, hr0, bs, if_pos (by rw [nI_leI (by omega) (by omega)]; omega)]
    | succ d ih =>
      intro i fu hi hf
      obtain ⟨fu, rfl⟩ : ∃ f, fu = f + 1 := ⟨fu - 1, by omega⟩
      have hle : ¬ nI N ≤ nI i := by
        rw [nI_leI (by omega) (by omega)]
        omega
      by_cases q : exL rn i = w
      · refine ⟨nI i, (lo1_s _ _ _).trans ?_⟩
        unfold B_X5_shipNamed_2
        rw [gm_read, hr0, bs, if_neg hle, gm_readNames, rL _ (by omega) (by omega), bs, gm_word, if_pos ((lg0 _ _).mpr q)]
      · obtain ⟨r, e2⟩ := ih (i + 1) fu (by omega) (by omega)
        refine ⟨r, (lo1_s _ _ _).trans (Eq.trans ?_ e2)⟩
        unfold B_X5_shipNamed_2
        rw [gm_read, hr0, bs, if_neg hle, gm_readNames, rL _ (by omega) (by omega), bs, gm_word, if_neg (fun z => q ((lg0 _ _).mp z)), nm_eq, nI_1]
  exact key N 0 FU (by omega) (by rw [FU_eq]; omega)
end NMD
end
section
/-! ===== level 2: reading, piece by piece ===== -/
def Pr (B : Fin 600 → Int32) (M : MS) (n : Nat) (T : TS) (lt : Fin 10 → Int32) (o : Int32) (rd : Fin 82 → Int32) (rn : Fin 4 → Int64) (x0 : Nat) (D : DS) (M2 : MS) : Prop := ∃ x s t L wl v Lm vm wm, x0 ≤ x ∧ x ≤ n ∧ s ≤ n ∧ TokW t L wl v Lm vm wm ∧ D = dq B (nI n) T lt (nI x) 0 (nI s) (nI t) L wl v ∧ M2 = mr M (nI x) (nI s) (nI t) Lm vm wm 0 (-1) o rd rn
def Fl (M : MS) (g s : Nat) (o : Int32) (rd : Fin 82 → Int32) (rn : Fin 4 → Int64) (M2 : MS) : Prop := 0 < g ∧ g < 8 ∧ s ≤ 600 ∧ ∃ x f t L v w, M2 = mr M x f t L v w (nI g) (nI s) o rd rn
def Ff (M : MS) (o : Int32) (rd : Fin 82 → Int32) (rn : Fin 4 → Int64) (D : DS) (M2 : MS) : Prop := ∃ g s, d_found D = nI g ∧ d_start D = nI s ∧ Fl M g s o rd rn M2
section FLS
variable {M : MS} {g s : Nat} {o : Int32} {rd : Fin 82 → Int32} {rn : Fin 4 → Int64} {M2 : MS}
theorem Fl.w (h : Fl M g s o rd rn M2) : ¬ m_wrong M2 = 0 := by
  obtain ⟨h1, h2, h3, x, f, t, L, v, w, rfl⟩ := h
  exact nI_ne0 h1 (by omega)
theorem Fl.fails (h : Fl M g s o rd rn M2) (a : Int32) : F_X5_fails M2 a = some M2 := by
  unfold F_X5_fails
  rw [if_neg h.w]
theorem Fl.goes (h : Fl M g s o rd rn M2) : F_X5_goesOn M2 = some M2 := by
  unfold F_X5_goesOn
  rw [if_neg h.w]
theorem Fl.isW (h : Fl M g s o rd rn M2) (w : Int64) : F_X5_isWord M2 w = some 0 := by
  unfold F_X5_isWord
  rw [if_neg h.w]
theorem Fl.isN (h : Fl M g s o rd rn M2) : F_X5_isName M2 = some 0 := by
  unfold F_X5_isName
  rw [if_neg h.w]
theorem Fl.takes (h : Fl M g s o rd rn M2) (w : Int64) : F_X5_takes M2 w = some M2 := by
  unfold F_X5_takes J_X5_takes_13
  rw [h.isW, bs, if_pos rfl, h.fails, bs, h.goes, bs]
theorem Fl.whole (h : Fl M g s o rd rn M2) (a b : Int32) : F_X5_whole M2 a b = some (m_number M2, M2) := by
  unfold F_X5_whole J_X5_whole_36
  by_cases q : m_sort M2 = 2
  · rw [if_pos q, M_in2]
    rcases W_any (m_number M2) a b with e | e
    · rw [e, bs, if_pos rfl, h.fails, bs, nm_eq, h.goes, bs]
    · rw [e, bs, if_neg n10, nm_eq, h.goes, bs]
  · rw [if_neg q, h.fails, bs, nm_eq, h.goes, bs]
theorem Fl.read (h : Fl M g s o rd rn M2) (r2 : Fin 82 → Int32) : Fl M g s o r2 rn (ms_read M2 r2) := by
  obtain ⟨h1, h2, h3, x, f, t, L, v, w, rfl⟩ := h
  exact ⟨h1, h2, h3, x, f, t, L, v, w, um_read ..⟩
theorem Fl.once (h : Fl M g s o rd rn M2) (o2 : Int32) : Fl M g s o2 rd rn (ms_toldOnce M2 o2) := by
  obtain ⟨h1, h2, h3, x, f, t, L, v, w, rfl⟩ := h
  exact ⟨h1, h2, h3, x, f, t, L, v, w, um_toldOnce ..⟩
theorem Fl.gR (h : Fl M g s o rd rn M2) : m_read M2 = rd := by
  obtain ⟨h1, h2, h3, x, f, t, L, v, w, rfl⟩ := h
  rfl
end FLS
section PRS
variable {B : Fin 600 → Int32} {M : MS} {n : Nat} {T : TS} {lt : Fin 10 → Int32} {o : Int32} {rd : Fin 82 → Int32} {rn : Fin 4 → Int64} {x0 : Nat} {D : DS} {M2 : MS}
theorem Pr.told (h : Pr B M n T lt o rd rn x0 D M2) (T2 : TS) : Pr B M n T2 lt o rd rn x0 (ds_told D T2) M2 := by
  obtain ⟨x, s, t, L, wl, v, Lm, vm, wm, h1, h2, h3, h4, rfl, rfl⟩ := h
  exact ⟨x, s, t, L, wl, v, Lm, vm, wm, h1, h2, h3, h4, ud_told .., rfl⟩
theorem Pr.law (h : Pr B M n T lt o rd rn x0 D M2) (lt2 : Fin 10 → Int32) : Pr B M n T lt2 o rd rn x0 (ds_lawTold D lt2) M2 := by
  obtain ⟨x, s, t, L, wl, v, Lm, vm, wm, h1, h2, h3, h4, rfl, rfl⟩ := h
  exact ⟨x, s, t, L, wl, v, Lm, vm, wm, h1, h2, h3, h4, ud_lawTold .., rfl⟩
theorem Pr.read (h : Pr B M n T lt o rd rn x0 D M2) (r2 : Fin 82 → Int32) : Pr B M n T lt o r2 rn x0 D (ms_read M2 r2) := by
  obtain ⟨x, s, t, L, wl, v, Lm, vm, wm, h1, h2, h3, h4, rfl, rfl⟩ := h
  exact ⟨x, s, t, L, wl, v, Lm, vm, wm, h1, h2, h3, h4, rfl, um_read ..⟩
theorem Pr.names (h : Pr B M n T lt o rd rn x0 D M2) (r2 : Fin 4 → Int64) : Pr B M n T lt o rd r2 x0 D (ms_readNames M2 r2) := by
  obtain ⟨x, s, t, L, wl, v, Lm, vm, wm, h1, h2, h3, h4, rfl, rfl⟩ := h
  exact ⟨x, s, t, L, wl, v, Lm, vm, wm, h1, h2, h3, h4, rfl, um_readNames ..⟩
theorem Pr.once (h : Pr B M n T lt o rd rn x0 D M2) (o2 : Int32) : Pr B M n T lt o2 rd rn x0 D (ms_toldOnce M2 o2) := by
  obtain ⟨x, s, t, L, wl, v, Lm, vm, wm, h1, h2, h3, h4, rfl, rfl⟩ := h
  exact ⟨x, s, t, L, wl, v, Lm, vm, wm, h1, h2, h3, h4, rfl, um_toldOnce ..⟩
theorem Pr.gT (h : Pr B M n T lt o rd rn x0 D M2) : d_told D = T := by
  obtain ⟨x, s, t, L, wl, v, Lm, vm, wm, h1, h2, h3, h4, rfl, rfl⟩ := h
  rfl
theorem Pr.gL (h : Pr B M n T lt o rd rn x0 D M2) : d_lawTold D = lt := by
  obtain ⟨x, s, t, L, wl, v, Lm, vm, wm, h1, h2, h3, h4, rfl, rfl⟩ := h
  rfl
theorem Pr.gR (h : Pr B M n T lt o rd rn x0 D M2) : m_read M2 = rd := by
  obtain ⟨x, s, t, L, wl, v, Lm, vm, wm, h1, h2, h3, h4, rfl, rfl⟩ := h
  rfl
theorem Pr.gN (h : Pr B M n T lt o rd rn x0 D M2) : m_readNames M2 = rn := by
  obtain ⟨x, s, t, L, wl, v, Lm, vm, wm, h1, h2, h3, h4, rfl, rfl⟩ := h
  rfl
theorem Pr.gO (h : Pr B M n T lt o rd rn x0 D M2) : m_toldOnce M2 = o := by
  obtain ⟨x, s, t, L, wl, v, Lm, vm, wm, h1, h2, h3, h4, rfl, rfl⟩ := h
  rfl
theorem Pr.w0 (h : Pr B M n T lt o rd rn x0 D M2) : m_wrong M2 = 0 := by
  obtain ⟨x, s, t, L, wl, v, Lm, vm, wm, h1, h2, h3, h4, rfl, rfl⟩ := h
  rfl
theorem Pr.goes (h : Pr B M n T lt o rd rn x0 D M2) : F_X5_goesOn M2 = (F_X5_token M2).bind fun q1 => some q1 := by
  unfold F_X5_goesOn
  rw [if_pos h.w0]
/-- both sides fail alike -/
theorem Pr.fail (h : Pr B M n T lt o rd rn x0 D M2) (hn : n ≤ 600) {g : Nat} (h0 : 0 < g) (h8 : g < 8) : ∃ D' M2', F_X0_fail D (nI g) = some (0, D') ∧ F_X5_fails M2 (nI g) = some M2' ∧ Ff M o rd rn D' M2' := by
  obtain ⟨x, s, t, L, wl, v, Lm, vm, wm, h1, h2, h3, h4, rfl, rfl⟩ := h
  refine ⟨dq B (nI n) T lt (nI x) (nI g) (nI s) (nI t) L wl v, mr M (nI x) (nI s) (nI t) Lm vm wm (nI g) (nI s) o rd rn, ?_, ?_, g, s, rfl, rfl, h0, h8, by omega, _, _, _, _, _, _, rfl⟩
  · unfold F_X0_fail
    rw [nm_eq, ud_found]
  · unfold F_X5_fails
    rw [gm_wrong, if_pos rfl, nm_eq, um_wrong, nm_eq, gm_from, um_wrongAt]
variable {Y : Nat → Nat} (hl : m_length M = nI n) (hn : n ≤ 600) (hB : ∀ k, k < n → BR (exI B k) (exI (m_tape M) k) (Y k))
theorem p_step (hl : m_length M = nI n) (hn : n ≤ 600) (hB : ∀ k, k < n → BR (exI B k) (exI (m_tape M) k) (Y k)) (h : Pr B M n T lt o rd rn x0 D M2) : ∃ D' M2', F_X0_step D = some D' ∧ F_X5_token M2 = some M2' ∧ Pr B M n T lt o rd rn x0 D' M2' := by
  obtain ⟨x, s, t, L, wl, v, Lm, vm, wm, h1, h2, h3, h4, rfl, rfl⟩ := h
  obtain ⟨x', s', t', L', wl', v', Lm', vm', wm', g1, g2, g3, g4, g5, g6, g7⟩ := tok_step hl hn hB h2 (nI s) (nI t) L wl v (nI s) (nI t) Lm vm wm
  exact ⟨_, _, g6 T lt 0, g7 0 (-1) o rd rn, x', s', t', L', wl', v', Lm', vm', wm', by omega, g2, g3, g5, rfl, rfl⟩
/-- one step that isn't the end goes on -/
theorem p_step1 (hl : m_length M = nI n) (hn : n ≤ 600) (hB : ∀ k, k < n → BR (exI B k) (exI (m_tape M) k) (Y k)) (h : Pr B M n T lt o rd rn x0 D M2) : ∃ D' M2', F_X0_step D = some D' ∧ F_X5_token M2 = some M2' ∧ Pr B M n T lt o rd rn x0 D' M2' ∧ (¬ d_token D' = 0 → Pr B M n T lt o rd rn (x0 + 1) D' M2') := by
  obtain ⟨x, s, t, L, wl, v, Lm, vm, wm, h1, h2, h3, h4, rfl, rfl⟩ := h
  obtain ⟨x', s', t', L', wl', v', Lm', vm', wm', g1, g2, g3, g4, g5, g6, g7⟩ := tok_step hl hn hB h2 (nI s) (nI t) L wl v (nI s) (nI t) Lm vm wm
  refine ⟨_, _, g6 T lt 0, g7 0 (-1) o rd rn, ⟨x', s', t', L', wl', v', Lm', vm', wm', by omega, g2, g3, g5, rfl, rfl⟩, fun hz => ?_⟩
  have ht : t' ≠ 0 := fun q => hz (by rw [q]; rfl)
  have := g4 ht
  exact ⟨x', s', t', L', wl', v', Lm', vm', wm', by omega, g2, g3, g5, rfl, rfl⟩
/-- a fixed word, and a step beyond it -/
def readWd (S : DS) (x1 : Nat) : Option (Int32 × DS) :=
  (F_X0_fixedWord S).bind fun q1 =>
  Option.elim q1
  ((F_X0_fail S (1 : Int32)).bind fun q3 =>
  zz q3.1 <|
  some (q3.1, q3.2))
  (fun w2 => (ltW w2 x1).bind fun u4 =>
  if w2 = x1 then
  ((F_X0_step S).bind fun q5 =>
  some ((1 : Int32), q5))
  else
  ((F_X0_fail S (1 : Int32)).bind fun q6 =>
  zz q6.1 <|
  some (q6.1, q6.2)))
theorem fail_bad (S : DS) (k : DS → Option (Int32 × DS)) : ((F_X0_fail S (1 : Int32)).bind fun q4 => zz q4.1 <| some (q4.1, q4.2)) = (((F_X0_fail S (1 : Int32)).bind fun q3 => zz q3.1 <| some (q3.1, q3.2)).bind fun q2 => if q2.1 = 0 then some ((0 : Int32), q2.2) else k q2.2) := by
  have hf : F_X0_fail S (1 : Int32) = some ((0 : Int32), ds_found S 1) := rfl
  have hz : ∀ D : DS, zz (0 : Int32) (some ((0 : Int32), D)) = some ((0 : Int32), D) := fun D => if_pos (Or.inl rfl)
  rw [hf, bs, hz, bs, if_pos rfl]
/-- a fixed word in a method's midst, with what follows -/
theorem wd_then (S : DS) (w : Nat) (k : DS → Option (Int32 × DS)) : ((F_X0_fixedWord S).bind fun q2 => Option.elim q2 ((F_X0_fail S (1 : Int32)).bind fun q4 => zz q4.1 <| some (q4.1, q4.2)) (fun w3 => (ltW w3 w).bind fun _ => if w3 = w then ((F_X0_step S).bind k) else ((F_X0_fail S (1 : Int32)).bind fun q13 => zz q13.1 <| some (q13.1, q13.2)))) = ((readWd S w).bind fun q2 => if q2.1 = 0 then some ((0 : Int32), q2.2) else k q2.2) := by
  unfold readWd
  cases F_X0_fixedWord S with
  | none => rfl
  | some q =>
    rw [bs, bs]
    cases q with
    | none => exact fail_bad S k
    | some u =>
      show (ltW u w).bind _ = ((ltW u w).bind _).bind _
      cases ltW u w with
      | none => rfl
      | some z =>
        rw [bs, bs]
        by_cases h : u = w
        · rw [if_pos h, if_pos h]
          cases F_X0_step S with
          | none => rfl
          | some D => rw [bs, bs, bs, if_neg n10]
        · rw [if_neg h, if_neg h]
          exact fail_bad S k
theorem p_word (hl : m_length M = nI n) (hn : n ≤ 600) (hB : ∀ k, k < n → BR (exI B k) (exI (m_tape M) k) (Y k)) (h : Pr B M n T lt o rd rn x0 D M2) {w : Nat} (hw : w < 19) : ∃ D' M2', F_X5_takes M2 (lN (nHi 0 (wdN w))) = some M2' ∧ ((readWd D w = some (1, D') ∧ Pr B M n T lt o rd rn x0 D' M2') ∨ (readWd D w = some (0, D') ∧ Ff M o rd rn D' M2')) := by
  have hp := h
  have hf := h.fail hn (g := 1) (by omega) (by omega)
  have hs := p_step hl hn hB h
  have hg := h.goes
  obtain ⟨x, s, t, L, wl, v, Lm, vm, wm, h1, h2, h3, h4, rfl, rfl⟩ := h
  obtain ⟨R, hR⟩ := h4.rec
  unfold F_X5_takes J_X5_takes_13 readWd
  rw [hR.is h4.1 hw, hR.fixed h4.1, bs]
  obtain ⟨D1, M1, e1, e2, e3⟩ := hf
  have e1' : F_X0_fail (dq B (nI n) T lt (nI x) 0 (nI s) (nI t) L wl v) 1 = some (0, D1) := e1
  have e2' : F_X5_fails (mr M (nI x) (nI s) (nI t) Lm vm wm 0 (-1) o rd rn) 1 = some M1 := e2
  have hgo : F_X5_goesOn M1 = some M1 := by
    obtain ⟨g, s1, -, -, q⟩ := e3
    exact q.goes
  by_cases q : R = some w
  · obtain ⟨D2, M3, f1, f2, f3⟩ := hs
    refine ⟨D2, M3, ?_, Or.inl ⟨?_, f3⟩⟩
    · rw [if_pos q, if_neg n10, hg, f2, bs, bs]
    · rw [q, bs]
      show (ltW w w).bind _ = _
      rw [show ltW w w = some () from if_pos ⟨hw, hw⟩, bs, if_pos rfl, f1, bs]
  · refine ⟨D1, M1, ?_, Or.inr ⟨?_, e3⟩⟩
    · rw [if_neg q, if_pos rfl, e2', bs, hgo, bs]
    · rw [bs]
      cases hr : R with
      | none =>
        show (F_X0_fail _ 1).bind _ = _
        rw [e1', bs]
      | some u =>
        have hu := (hR.1 u hr).1
        show (ltW u w).bind _ = _
        rw [show ltW u w = some () from if_pos ⟨hu, hw⟩, bs, if_neg (fun e => q (by rw [hr, e])), e1', bs]
        rfl
theorem p_whole (hl : m_length M = nI n) (hn : n ≤ 600) (hB : ∀ k, k < n → BR (exI B k) (exI (m_tape M) k) (Y k)) (h : Pr B M n T lt o rd rn x0 D M2) {a b : Nat} (ha : a < 2 ^ 31) (hb : b < 2 ^ 31) :
    (∃ v M2', a ≤ v ∧ v ≤ b ∧ d_number D = nI v ∧ F_X0_isWholeWithin D (nI a) (nI b) = some (1, D) ∧ F_X5_whole M2 (nI a) (nI b) = some (nI v, M2') ∧ ∀ T2, ∃ D', F_X0_step (ds_told D T2) = some D' ∧ Pr B M n T2 lt o rd rn x0 D' M2') ∨
    (∃ D' M2' v, F_X0_isWholeWithin D (nI a) (nI b) = some (0, D') ∧ F_X5_whole M2 (nI a) (nI b) = some (v, M2') ∧ Ff M o rd rn D' M2') := by
  have hp := h
  obtain ⟨D1, M1, e1, e2, e3⟩ := h.fail hn (g := 1) (by omega) (by omega)
  obtain ⟨D3, M3, c1, c2, c3⟩ := h.fail hn (g := 2) (by omega) (by omega)
  have hg := h.goes
  obtain ⟨x, s, t, L, wl, v, Lm, vm, wm, h1, h2, h3, h4, rfl, rfl⟩ := h
  have e1' : F_X0_fail (dq B (nI n) T lt (nI x) 0 (nI s) (nI t) L wl v) 1 = some (0, D1) := e1
  have e2' : F_X5_fails (mr M (nI x) (nI s) (nI t) Lm vm wm 0 (-1) o rd rn) 1 = some M1 := e2
  have c1' : F_X0_fail (dq B (nI n) T lt (nI x) 0 (nI s) (nI t) L wl v) 2 = some (0, D3) := c1
  have c2' : F_X5_fails (mr M (nI x) (nI s) (nI t) Lm vm wm 0 (-1) o rd rn) 2 = some M3 := c2
  unfold F_X0_isWholeWithin F_X5_whole J_X5_whole_36
  rw [gd_token, gm_sort, gd_number, gm_number, M_in2]
  by_cases ht : t = 2
  · obtain ⟨k, k1, rfl, rfl⟩ := h4.2.2 ht
    have ht' : nI t = 2 := by rw [ht]; rfl
    rw [if_pos ht', if_pos ht']
    rcases W_casesL (nI k) ha hb with e | ⟨e, z, z1, z2, z3⟩
    · right
      have hgo : F_X5_goesOn M3 = some M3 := by
        obtain ⟨g, s1, -, -, q⟩ := c3
        exact q.goes
      refine ⟨D3, M3, m_number M3, ?_, ?_, c3⟩
      · rw [e, bs, if_pos rfl, c1', bs, if_pos rfl]
      · rw [e, bs, if_pos rfl, c2', bs, nm_eq, hgo, bs]
    · left
      have hz : k = z := (nI_eq (by omega) (by omega)).mp z3
      subst hz
      obtain ⟨x', s', t', L', wl', v', Lm', vm', wm', g1, g2, g3, g4, g5, g6, g7⟩ := tok_step hl hn hB h2 (nI s) (nI t) L wl (nI k) (nI s) (nI t) Lm (nI k) wm
      refine ⟨k, _, z1, z2, rfl, ?_, ?_, fun T2 => ⟨_, g6 T2 lt 0, x', s', t', L', wl', v', Lm', vm', wm', by omega, g2, g3, g5, rfl, rfl⟩⟩
      · rw [e, bs, if_neg n10]
        rfl
      · rw [e, bs, if_neg n10, nm_eq, hg, g7 0 (-1) o rd rn, bs, bs]
  · right
    have ht' : ¬ nI t = 2 := fun q => ht ((nI_eq (b := 2) (by have := h4.1; omega) (by omega)).mp q)
    have hgo : F_X5_goesOn M1 = some M1 := by
      obtain ⟨g, s1, -, -, q⟩ := e3
      exact q.goes
    refine ⟨D1, M1, m_number M1, ?_, ?_, e3⟩
    · rw [if_neg ht', e1', bs]
      rfl
    · rw [if_neg ht', e2', bs, nm_eq, hgo, bs]
end PRS
end
section
/-! ===== level 2: names, columns, marks ===== -/
def cLo : Nat → Nat
  | 0 => 1
  | _ => 0
def cHi : Nat → Nat
  | 0 => 99999
  | 1 => 10
  | _ => 9999999
section COLS
variable {B : Fin 600 → Int32} {M : MS} {n : Nat} {T : TS} {lt : Fin 10 → Int32} {o : Int32} {rd : Fin 82 → Int32} {rn : Fin 4 → Int64} {x0 : Nat} {D : DS} {M2 : MS} {Y : Nat → Nat}
theorem p_name (h : Pr B M n T lt o rd rn x0 D M2) : ∃ b : Int32, F_X0_isName D = some b ∧ F_X5_isName M2 = some b ∧ (b = 0 ∨ (b = 1 ∧ ∃ ls : List Nat, 0 < ls.length ∧ ls.length ≤ 6 ∧ Let ls ∧ d_letters D = lN (nLo ls) ∧ m_word M2 = lN (nHi 0 ls))) := by
  obtain ⟨x, s, t, L, wl, v, Lm, vm, wm, h1, h2, h3, h4, rfl, rfl⟩ := h
  obtain ⟨R, hR⟩ := h4.rec
  rcases isNm_em t R L with q | q
  · refine ⟨1, (hR.nameC h4.1 ..).1 q, (hR.nameM h4.1 ..).1 q, Or.inr ⟨rfl, ?_⟩⟩
    obtain ⟨ls, g1, g2, g3, g4, g5, g6, g7, g8⟩ := hR.2 q.1
    refine ⟨ls, g1, ?_, g3, g6, g7⟩
    have := q.2.2
    rw [g4, show (6 : Int32) = nI 6 from rfl, nI_ltI (by omega) (by omega)] at this
    omega
  · exact ⟨0, (hR.nameC h4.1 ..).2 q, (hR.nameM h4.1 ..).2 q, Or.inl rfl⟩
theorem p_named (h : Pr B M n T lt o rd rn x0 D M2) {N : Nat} (hN : N ≤ 4) (hT : t_ships T = nI N) (h0 : exI rd 0 = nI N) (hn : ∀ i, i < N → NmR (exL (t_names T) i) (exL rn i)) {ls : List Nat} (hl : ls.length ≤ 7) (hL : Let ls) (e1 : d_letters D = lN (nLo ls)) (e2 : m_word M2 = lN (nHi 0 ls)) : ∃ r, F_X2_shipNamed (d_told D) (d_letters D) = some r ∧ F_X5_shipNamed M2 = some r ∧ (r = -1 ∨ ∃ i, i < N ∧ r = nI i) := by
  obtain ⟨x, s, t, L, wl, v, Lm, vm, wm, h1, h2, h3, h4, rfl, rfl⟩ := h
  have e1' : wl = lN (nLo ls) := e1
  have e2' : wm = lN (nHi 0 ls) := e2
  subst e1' e2'
  exact named hN hT hl hL _ _ _ _ _ _ _ _ _ _ h0 hn
theorem p_col (hl : m_length M = nI n) (hn : n ≤ 600) (hB : ∀ k, k < n → BR (exI B k) (exI (m_tape M) k) (Y k)) (h : Pr B M n T lt o rd rn x0 D M2) {N j : Nat} (hN : N < 4) (hT : t_ships T = nI (N + 1)) (hj : j < 4) : ∃ M2', (∀ k : MS → Option MS, (F_X5_takes M2 (lN (nHi 0 (wdN (j + 1))))).bind (fun q10 => (F_X5_whole q10 (nI (cLo j)) (nI (cHi j))).bind fun q11 => (wrI (m_read q11.2) (nI (10 + 6 * N) + nI j) q11.1).bind fun f12 => nm (ms_read q11.2 f12 : MS) k) = k M2') ∧
    ((∃ v D', cLo j ≤ v ∧ v ≤ cHi j ∧ F_X0_readColumn D (j + 1) = some (1, D') ∧ Pr B M n (ts_shipRows T (upI (t_shipRows T) (6 * N + j) (nI v))) lt o (upI rd (10 + 6 * N + j) (nI v)) rn x0 D' M2') ∨ (∃ D' rd', F_X0_readColumn D (j + 1) = some (0, D') ∧ exI rd' 0 = exI rd 0 ∧ Ff M o rd' rn D' M2')) := by
  have hcol : wd_col[j + 1]? = some (nI j) ∧ rdI (sAf 0) (nI j) = some (nI (cLo j)) ∧ rdI (sAf 1) (nI j) = some (nI (cHi j)) ∧ cLo j < 2 ^ 31 ∧ cHi j < 2 ^ 31 := by
    rcases (show j = 0 ∨ j = 1 ∨ j = 2 ∨ j = 3 by omega) with rfl | rfl | rfl | rfl
    · exact ⟨rfl, sAf_at (by decide) (by decide) (by decide), sAf_at (by decide) (by decide) (by decide), by decide, by decide⟩
    · exact ⟨rfl, sAf_at (by decide) (by decide) (by decide), sAf_at (by decide) (by decide) (by decide), by decide, by decide⟩
    · exact ⟨rfl, sAf_at (by decide) (by decide) (by decide), sAf_at (by decide) (by decide) (by decide), by decide, by decide⟩
    · exact ⟨rfl, sAf_at (by decide) (by decide) (by decide), sAf_at (by decide) (by decide) (by decide), by decide, by decide⟩
  obtain ⟨c1, c2, c3, c4, c5⟩ := hcol
  obtain ⟨D1, M1, e1, e2⟩ := p_word hl hn hB h (w := j + 1) (by omega)
  unfold F_X0_readColumn
  rw [c1, bs, wd_then, c2, c3, e1]
  rcases e2 with ⟨e2, e3⟩ | ⟨e2, e3⟩
  · rw [e2, bs, if_neg n10, bs, bs]
    rcases p_whole hl hn hB e3 c4 c5 with ⟨v, M3, a1, a2, a3, a4, a5, a6⟩ | ⟨D3, M3, v, a1, a2, a3⟩
    · obtain ⟨D4, b1, b2⟩ := a6 (ts_shipRows T (upI (t_shipRows T) (6 * N + j) (nI v)))
      refine ⟨ms_read M3 (upI rd (10 + 6 * N + j) (nI v)), ?_, Or.inl ⟨v, D4, a1, a2, ?_, b2.read _⟩⟩
      · intro k
        rw [bs, a5, bs, b2.gR, nI_add, wI _ (by omega) (by omega), bs, nm_eq]
      · rw [a4, bs, if_neg n10, e3.gT, hT, nI_less (by omega), show N + 1 - 1 = N by omega, C_set _ (by omega) (by omega), bs, nm_eq, a3, b1, bs]
    · obtain ⟨g, s, q1, q2, q3⟩ := a3
      refine ⟨ms_read M3 (upI rd (10 + 6 * N + j) v), ?_, Or.inr ⟨D3, upI rd (10 + 6 * N + j) v, ?_, ?_, g, s, q1, q2, q3.read _⟩⟩
      · intro k
        rw [bs, a2, bs, q3.gR, nI_add, wI _ (by omega) (by omega), bs, nm_eq]
      · rw [a1, bs, if_pos rfl]
      · rw [exI_up _ (by omega), if_neg (by omega)]
  · obtain ⟨g, s, q1, q2, q3⟩ := e3
    rw [e2, bs, if_pos rfl]
    refine ⟨ms_read M1 (upI rd (10 + 6 * N + j) (m_number M1)), ?_, Or.inr ⟨D1, upI rd (10 + 6 * N + j) (m_number M1), rfl, ?_, g, s, q1, q2, q3.read _⟩⟩
    · intro k
      rw [bs, q3.whole, bs, q3.gR, nI_add, wI _ (by omega) (by omega), bs, nm_eq]
    · rw [exI_up _ (by omega), if_neg (by omega)]
theorem fl_col {g s : Nat} (h : Fl M g s o rd rn M2) {N j : Nat} (hN : N < 4) (hj : j < 4) (w : Int64) (a b : Int32) : ∃ rd' M2', exI rd' 0 = exI rd 0 ∧ Fl M g s o rd' rn M2' ∧ ∀ k : MS → Option MS, (F_X5_takes M2 w).bind (fun q10 => (F_X5_whole q10 a b).bind fun q11 => (wrI (m_read q11.2) (nI (10 + 6 * N) + nI j) q11.1).bind fun f12 => nm (ms_read q11.2 f12 : MS) k) = k M2' := by
  refine ⟨upI rd (10 + 6 * N + j) (m_number M2), _, ?_, h.read _, ?_⟩
  · rw [exI_up _ (by omega), if_neg (by omega)]
  · intro k
    rw [h.takes, bs, h.whole, bs, h.gR, nI_add, wI _ (by omega) (by omega), bs, nm_eq]
theorem up_same {m : Nat} (f : Fin m → Int32) {k : Nat} (h : exI f k = 0) (hk : k < m) : upI f k 0 = f := ext_I fun z hz => by
  rw [exI_up _ hk]
  by_cases q : z = k
  · rw [if_pos q, q, h]
  · rw [if_neg q]
theorem ts_same (T : TS) : ts_shipRows T (t_shipRows T) = T := rfl
theorem ds_same (h : Pr B M n T lt o rd rn x0 D M2) : ds_told D T = D := by
  obtain ⟨x, s, t, L, wl, v, Lm, vm, wm, h1, h2, h3, h4, rfl, rfl⟩ := h
  rfl
/-- a mark on both sides -/
theorem p_mark (hl : m_length M = nI n) (hn : n ≤ 600) (hB : ∀ k, k < n → BR (exI B k) (exI (m_tape M) k) (Y k)) (h : Pr B M n T lt o rd rn x0 D M2) {N j : Nat} (hN : N < 4) (hT : t_ships T = nI (N + 1)) (hj : j = 4 ∨ j = 5) (hz : exI (t_shipRows T) (6 * N + j) = 0) : ∃ b D' M2', b ≤ 1 ∧ F_X0_readMark D (j + 1) = some D' ∧ F_X5_isWord M2 (lN (nHi 0 (wdN (j + 1)))) = some (nI b) ∧ (b = 0 → M2' = ms_read M2 (upI rd (10 + 6 * N + j) (nI b))) ∧ (b = 1 → F_X5_token (ms_read M2 (upI rd (10 + 6 * N + j) (nI b))) = some M2') ∧ Pr B M n (ts_shipRows T (upI (t_shipRows T) (6 * N + j) (nI b))) lt o (upI rd (10 + 6 * N + j) (nI b)) rn x0 D' M2' := by
  have hcol : wd_col[j + 1]? = some (nI j) := by
    rcases hj with rfl | rfl
    · rfl
    · rfl
  have hp := h
  obtain ⟨x, s, t, L, wl, v, Lm, vm, wm, h1, h2, h3, h4, rfl, rfl⟩ := h
  obtain ⟨R, hR⟩ := h4.rec
  unfold F_X0_readMark
  rw [hR.is h4.1 (w := j + 1) (by omega), hR.fixed h4.1, bs]
  by_cases q : R = some (j + 1)
  · have hp2 := (hp.told (ts_shipRows T (upI (t_shipRows T) (6 * N + j) (nI 1)))).read (upI rd (10 + 6 * N + j) (nI 1))
    obtain ⟨D2, M3, f1, f2, f3⟩ := p_step hl hn hB hp2
    refine ⟨1, D2, M3, by omega, ?_, by rw [if_pos q]; rfl, fun z => by omega, fun _ => f2, f3⟩
    rw [q]
    show (ltW (j + 1) (j + 1)).bind _ = _
    rw [show ltW (j + 1) (j + 1) = some () from if_pos ⟨by omega, by omega⟩, bs, if_pos rfl, hcol, bs, gd_told, hT, nI_less (by omega), show N + 1 - 1 = N by omega, C_set _ (by omega) (by omega), bs, nm_eq]
    have f1' : F_X0_step (ds_told (dq B (nI n) T lt (nI x) 0 (nI s) (nI t) L wl v) (ts_shipRows T (upI (t_shipRows T) (6 * N + j) 1))) = some D2 := f1
    rw [f1', bs]
  · have hs : ts_shipRows T (upI (t_shipRows T) (6 * N + j) (nI 0)) = T := by
      rw [nI_0, up_same _ hz (by omega), ts_same]
    refine ⟨0, dq B (nI n) T lt (nI x) 0 (nI s) (nI t) L wl v, _, by omega, ?_, by rw [if_neg q]; rfl, fun _ => rfl, fun z => by omega, ?_⟩
    · cases hr : R with
      | none => rfl
      | some u =>
        have hu := (hR.1 u hr).1
        show (ltW u (j + 1)).bind _ = _
        rw [show ltW u (j + 1) = some () from if_pos ⟨hu, by omega⟩, bs, if_neg (fun e => q (by rw [hr, e]))]
    · rw [hs]
      exact hp.read _
end COLS
end
section
/-! ===== level 2: a line of a ship ===== -/
def PK (N K : Nat) (c : Nat → Nat) : Prop := (N ≤ 4 ∧ K ≤ 12) ∧ (c 2 ≤ 1 ∧ c 3 ≤ 1 ∧ c 4 ≤ 1 ∧ c 5 ≤ 99999 ∧ c 6 ≤ 99999 ∧ 1 ≤ c 7 ∧ c 7 ≤ 99999 ∧ c 8 ≤ 999 ∧ c 9 ≤ 999) ∧
  (∀ i, i < N → 1 ≤ c (10 + 6 * i) ∧ c (10 + 6 * i) ≤ 99999 ∧ c (10 + 6 * i + 1) ≤ 10 ∧ c (10 + 6 * i + 2) ≤ 9999999 ∧ c (10 + 6 * i + 3) ≤ 9999999 ∧ c (10 + 6 * i + 4) ≤ 1 ∧ c (10 + 6 * i + 5) ≤ 1) ∧
  (∀ k, k < K → c (34 + 4 * k) ≤ 2 ∧ (c (34 + 4 * k) = 0 → c (34 + 4 * k + 1) < N) ∧ 1 ≤ c (34 + 4 * k + 2) ∧ c (34 + 4 * k + 2) ≤ 9999999 ∧ c (34 + 4 * k + 3) ≤ 999)
def LawR (lt : Fin 10 → Int32) (o : Int32) : Prop := ∃ m, m < 1024 ∧ o = nI m ∧ ∀ w, w < 10 → exI lt w = if m.testBit w then 1 else 0
def TB (N K : Nat) (c : Nat → Nat) (T : TS) (lt : Fin 10 → Int32) (o : Int32) (rd : Fin 82 → Int32) (rn : Fin 4 → Int64) : Prop := RowT T N K c ∧ RowR rd N K c ∧ PK N K c ∧ (∀ i, i < N → NmR (exL (t_names T) i) (exL rn i)) ∧ (∀ i, N ≤ i → i < 4 → ∀ w, w < 6 → exI rd (10 + 6 * i + w) = 0) ∧ LawR lt o
/-- a line is read on both sides -/
def OutP (B : Fin 600 → Int32) (M : MS) (n x0 : Nat) (r : Option (Int32 × DS)) (m : Option MS) : Prop := ∃ D' M2', m = some M2' ∧ ((r = some (1, D') ∧ ∃ N K c T lt o rd rn, Pr B M n T lt o rd rn x0 D' M2' ∧ TB N K c T lt o rd rn) ∨ (r = some (0, D') ∧ ∃ o rd rn i, i ≤ 4 ∧ exI rd 0 = nI i ∧ Ff M o rd rn D' M2'))
def Q5 (at' : Int32) (S : MS) : Option MS := (F_X5_clauseWord).bind fun q29 => (F_X5_isWord S q29).bind fun q30 => if q30 = 0 then (J_X5_shipLine_189 S at' (0 : Int32) (at' + (4 : Int32))) else (J_X5_shipLine_189 S at' (1 : Int32) (at' + (4 : Int32)))
def Q4 (at' : Int32) (S : MS) : Option MS := (F_X5_valueWord).bind fun q24 => (F_X5_takes S q24).bind fun q25 => (F_X5_whole q25 (0 : Int32) (9999999 : Int32)).bind fun q26 => (wrI (m_read q26.2) (at' + (3 : Int32)) q26.1).bind fun f27 => nm (ms_read q26.2 f27 : MS) fun S28 => Q5 at' S28
def Q3 (at' : Int32) (S : MS) : Option MS := (F_X5_hullWord).bind fun q24 => (F_X5_takes S q24).bind fun q25 => (F_X5_whole q25 (0 : Int32) (9999999 : Int32)).bind fun q26 => (wrI (m_read q26.2) (at' + (2 : Int32)) q26.1).bind fun f27 => nm (ms_read q26.2 f27 : MS) fun S28 => Q4 at' S28
def Q2 (at' : Int32) (S : MS) : Option MS := (F_X5_faultWord).bind fun q24 => (F_X5_takes S q24).bind fun q25 => (F_X5_whole q25 (0 : Int32) (10 : Int32)).bind fun q26 => (wrI (m_read q26.2) (at' + (1 : Int32)) q26.1).bind fun f27 => nm (ms_read q26.2 f27 : MS) fun S28 => Q3 at' S28
def Q1 (at' : Int32) (S : MS) : Option MS := (F_X5_tonsWord).bind fun q24 => (F_X5_takes S q24).bind fun q25 => (F_X5_whole q25 (1 : Int32) (99999 : Int32)).bind fun q26 => (wrI (m_read q26.2) (at' + (0 : Int32)) q26.1).bind fun f27 => nm (ms_read q26.2 f27 : MS) fun S28 => Q2 at' S28
theorem J49 (S : MS) (x : Int32) : J_X5_shipLine_49 S x = if m_wrong S = 0 then (wrL (m_readNames S) x (m_word S)).bind fun f5 => nm (ms_readNames S f5 : MS) fun S6 => nm (((10 : Int32) + ((6 : Int32) * x)) : Int32) fun v7 => (F_X5_token S6).bind fun q8 => Q1 v7 q8 else some S := rfl
section SHIPL
variable {B : Fin 600 → Int32} {M : MS} {n : Nat} {T : TS} {lt : Fin 10 → Int32} {o : Int32} {rd : Fin 82 → Int32} {rn : Fin 4 → Int64} {x0 : Nat} {D : DS} {M2 : MS} {Y : Nat → Nat} {N K : Nat} {c : Nat → Nat}
theorem e_up {m : Nat} (f : Fin m → Int32) {k : Nat} (hk : k < m) (v : Int32) : exI (upI f k v) k = v := by
  rw [exI_up _ hk, if_pos rfl]
theorem fl_end {g s : Nat} (h : Fl M g s o rd rn M2) (hN : N < 4) (h0 : exI rd 0 = nI N) : ∃ M2', J_X5_shipLine_245 M2 = some M2' ∧ ∃ rd', exI rd' 0 = nI (N + 1) ∧ Fl M g s o rd' rn M2' := by
  refine ⟨ms_read M2 (upI rd 0 (nI (N + 1))), ?_, upI rd 0 (nI (N + 1)), e_up _ (by omega) _, h.read _⟩
  unfold J_X5_shipLine_245
  rw [h.gR, show (0 : Int32) = nI 0 from rfl, rI _ (by omega) (by omega), bs, h0, nI_1, wI _ (by omega) (by omega), bs, nm_eq]
theorem fl_Q5 {g s : Nat} (h : Fl M g s o rd rn M2) (hN : N < 4) (h0 : exI rd 0 = nI N) : ∃ M2', Q5 (nI (10 + 6 * N)) M2 = some M2' ∧ ∃ rd', exI rd' 0 = nI (N + 1) ∧ Fl M g s o rd' rn M2' := by
  have h1 := h.read (upI rd (10 + 6 * N + 4) 0)
  have h2 := h1.read (upI (upI rd (10 + 6 * N + 4) 0) (10 + 6 * N + 5) 0)
  obtain ⟨M3, e, r⟩ := fl_end h2 hN (by rw [exI_up _ (by omega), if_neg (by omega), exI_up _ (by omega), if_neg (by omega), h0])
  refine ⟨M3, ?_, r⟩
  unfold Q5 J_X5_shipLine_189 J_X5_shipLine_206 J_X5_shipLine_228
  rw [w_clause, bs, h.isW, bs, if_pos rfl, h.gR, show (4 : Int32) = nI 4 from rfl, nI_add, wI _ (by omega) (by omega), bs, nm_eq, h1.gR, rI _ (by omega) (by omega), bs, e_up _ (by omega), if_neg (by decide), w_barred, bs, h1.isW, bs, if_pos rfl, show (5 : Int32) = nI 5 from rfl, nI_add, wI _ (by omega) (by omega), bs, nm_eq, h2.gR, rI _ (by omega) (by omega), bs, e_up _ (by omega), if_neg (by decide)]
  exact e
theorem fl_Q4 {g s : Nat} (h : Fl M g s o rd rn M2) (hN : N < 4) (h0 : exI rd 0 = nI N) : ∃ M2', Q4 (nI (10 + 6 * N)) M2 = some M2' ∧ ∃ rd', exI rd' 0 = nI (N + 1) ∧ Fl M g s o rd' rn M2' := by
  obtain ⟨r1, M1, z1, f1, e1⟩ := fl_col h hN (j := 3) (by omega) (lN (nHi 0 (wdN 4))) 0 9999999
  obtain ⟨M3, e, r⟩ := fl_Q5 f1 hN (z1.trans h0)
  refine ⟨M3, ?_, r⟩
  unfold Q4
  rw [w_value, bs]
  exact (e1 _).trans e
theorem fl_Q3 {g s : Nat} (h : Fl M g s o rd rn M2) (hN : N < 4) (h0 : exI rd 0 = nI N) : ∃ M2', Q3 (nI (10 + 6 * N)) M2 = some M2' ∧ ∃ rd', exI rd' 0 = nI (N + 1) ∧ Fl M g s o rd' rn M2' := by
  obtain ⟨r1, M1, z1, f1, e1⟩ := fl_col h hN (j := 2) (by omega) (lN (nHi 0 (wdN 3))) 0 9999999
  obtain ⟨M3, e, r⟩ := fl_Q4 f1 hN (z1.trans h0)
  refine ⟨M3, ?_, r⟩
  unfold Q3
  rw [w_hull, bs]
  exact (e1 _).trans e
theorem fl_Q2 {g s : Nat} (h : Fl M g s o rd rn M2) (hN : N < 4) (h0 : exI rd 0 = nI N) : ∃ M2', Q2 (nI (10 + 6 * N)) M2 = some M2' ∧ ∃ rd', exI rd' 0 = nI (N + 1) ∧ Fl M g s o rd' rn M2' := by
  obtain ⟨r1, M1, z1, f1, e1⟩ := fl_col h hN (j := 1) (by omega) (lN (nHi 0 (wdN 2))) 0 10
  obtain ⟨M3, e, r⟩ := fl_Q3 f1 hN (z1.trans h0)
  refine ⟨M3, ?_, r⟩
  unfold Q2
  rw [w_fault, bs]
  exact (e1 _).trans e
/-- the case while a ship is told -/
def ShR (N K : Nat) (c : Nat → Nat) (nm' : Fin 4 → Int64) (T : TS) (rd : Fin 82 → Int32) : Prop := RowT T (N + 1) K c ∧ RowR (upI rd 0 (nI (N + 1))) (N + 1) K c ∧ exI rd 0 = nI N ∧ (∀ i, N < i → i < 4 → ∀ w, w < 6 → exI rd (10 + 6 * i + w) = 0) ∧ t_names T = nm'
theorem up_comm {m : Nat} (f : Fin m → Int32) {i j : Nat} (hi : i < m) (hj : j < m) (h : i ≠ j) (a b : Int32) : upI (upI f i a) j b = upI (upI f j b) i a := ext_I fun z hz => by
  rw [exI_up _ hj, exI_up _ hi, exI_up _ hi, exI_up _ hj]
  by_cases q : z = j
  · rw [if_pos q, if_neg (by omega), if_pos q]
  · rw [if_neg q, if_neg q]
theorem ShR.up {nm' : Fin 4 → Int64} (h : ShR N K c nm' T rd) (hN : N < 4) (hK : K ≤ 12) {j : Nat} (hj : j < 6) (v : Nat) : ShR N K (cU c (10 + 6 * N + j) v) nm' (ts_shipRows T (upI (t_shipRows T) (6 * N + j) (nI v))) (upI rd (10 + 6 * N + j) (nI v)) := by
  obtain ⟨h1, h2, h3, h4, h5⟩ := h
  refine ⟨cU_Ts h1 (by omega) (by omega) hj, ?_, ?_, ?_, h5⟩
  · rw [up_comm _ (by omega) (by omega) (by omega)]
    exact cU_R h2 (by omega) hK (by omega) (by omega)
  · rw [exI_up _ (by omega), if_neg (by omega), h3]
  · intro i hi hi4 w hw
    rw [exI_up _ (by omega), if_neg (by omega)]
    exact h4 i hi hi4 w hw
def c0N (c : Nat → Nat) (N : Nat) : Nat → Nat := fun z => if 10 + 6 * N ≤ z ∧ z < 10 + 6 * N + 6 then 0 else c z
theorem c0_on (hN : N < 4) (k : Nat) : onI (c0N c N) k = onI c k := by
  have e1 : c0N c N (34 + 4 * k) = c (34 + 4 * k) := if_neg (by omega)
  have e2 : c0N c N (34 + 4 * k + 1) = c (34 + 4 * k + 1) := if_neg (by omega)
  unfold onI
  rw [e1, e2]
theorem tn_s (T : TS) (nm' : Fin 4 → Int64) (f : Fin 24 → Int32) : t_ships (ts_shipRows (ts_names T nm') f) = t_ships T := rfl
theorem C_addShip (hT : t_ships T = nI N) (hN : N < 4) (w : Int64) : ∃ f : Fin 24 → Int32, (∀ z, z < 24 → exI f z = if 6 * N ≤ z ∧ z < 6 * N + 6 then 0 else exI (t_shipRows T) z) ∧ F_X2_addShip T w = some (ts_ships (ts_shipRows (ts_names T (upL (t_names T) N w)) f) (nI (N + 1))) := by
  obtain ⟨f, hf, e⟩ := copyL (B_X2_addShip_12 (fun S5 => nm (ts_ships S5 ((t_ships S5) + (1 : Int32)) : TS) fun S6 => some S6)) (fun f => ts_shipRows (ts_names T (upL (t_names T) N w)) f) (fun S5 => nm (ts_ships S5 ((t_ships S5) + (1 : Int32)) : TS) fun S6 => some S6) 0 (6 * N) 6 (fun _ => 0) (by omega) (by omega) (t_shipRows T) (by
    intro rc f i hi hI
    unfold B_X2_addShip_12
    rw [show (6 : Int32) = nI 6 from rfl, if_neg (by rw [nI_leI (by omega) (by omega)]; omega), tn_s, hT, show 0 + i = i by omega, C_set _ hN (by omega), bs, nm_eq, nI_1]
    rfl) (by
    intro rc f hI
    have key : ∀ (k9 : TS → Option TS) S2, B_X2_addShip_12 k9 rc S2 (nI (0 + 6)) = k9 S2 := by
      intro k9 S2
      unfold B_X2_addShip_12
      rw [if_pos (by decide)]
    exact key _ _)
  refine ⟨f, hf, ?_⟩
  unfold F_X2_addShip
  rw [hT, wL _ (by omega) (by omega), bs, nm_eq]
  refine (show lo2 _ FU (ts_names T (upL (t_names T) N w)) (0 : Int32) = _ from e).trans ?_
  rw [nm_eq, tn_s, hT, nI_1]
theorem ShR.start (hT : RowT T N K c) (hR : RowR rd N K c) (hN : N < 4) (hK : K ≤ 12) (hz : ∀ i, N ≤ i → i < 4 → ∀ w, w < 6 → exI rd (10 + 6 * i + w) = 0) {f : Fin 24 → Int32} (hf : ∀ z, z < 24 → exI f z = if 6 * N ≤ z ∧ z < 6 * N + 6 then 0 else exI (t_shipRows T) z) (nm' : Fin 4 → Int64) : ShR N K (c0N c N) nm' (ts_ships (ts_shipRows (ts_names T nm') f) (nI (N + 1))) rd := by
  obtain ⟨h1, h2, h3, h4, h5⟩ := hT
  obtain ⟨g1, g2, g3, g4, g5⟩ := hR
  have far : ∀ z, z ≠ 0 → exI (upI rd 0 (nI (N + 1))) z = exI rd z := fun z q => by
    rw [exI_up _ (by omega), if_neg q]
  refine ⟨⟨rfl, h2, ?_, ?_, ?_⟩, ⟨e_up _ (by omega) _, (far 1 (by omega)).trans g2, ?_, ?_, ?_⟩, g1, fun i hi hi4 w hw => hz i (by omega) hi4 w hw, rfl⟩
  · intro w hw hw2
    unfold c0N
    rw [if_neg (by omega)]
    exact h3 w hw hw2
  · intro i hi w hw
    show exI f _ = _
    unfold c0N
    rw [hf _ (by omega)]
    by_cases q : i = N
    · subst q
      rw [if_pos (by omega), if_pos (by omega)]
      rfl
    · rw [if_neg (by omega), if_neg (by omega)]
      exact h4 i (by omega) w hw
  · intro k hk
    refine ⟨fun w hw hw1 => ?_, ?_⟩
    · unfold c0N
      rw [if_neg (by omega)]
      exact (h5 k hk).1 w hw hw1
    · rw [c0_on hN]
      exact (h5 k hk).2
  · intro w hw hw2
    unfold c0N
    rw [if_neg (by omega), far _ (by omega)]
    exact g3 w hw hw2
  · intro i hi w hw
    unfold c0N
    rw [far _ (by omega)]
    by_cases q : i = N
    · subst q
      rw [if_pos (by omega), hz i (Nat.le_refl _) hN w hw]
      rfl
    · rw [if_neg (by omega)]
      exact g4 i (by omega) w hw
  · intro k hk
    refine ⟨fun w hw hw1 => ?_, ?_⟩
    · unfold c0N
      rw [if_neg (by omega), far _ (by omega)]
      exact (g5 k hk).1 w hw hw1
    · rw [c0_on hN, far _ (by omega)]
      exact (g5 k hk).2
def c6N (c : Nat → Nat) (N v0 v1 v2 v3 v4 v5 : Nat) : Nat → Nat := cU (cU (cU (cU (cU (cU (c0N c N) (10 + 6 * N + 0) v0) (10 + 6 * N + 1) v1) (10 + 6 * N + 2) v2) (10 + 6 * N + 3) v3) (10 + 6 * N + 4) v4) (10 + 6 * N + 5) v5
theorem c6_far {v0 v1 v2 v3 v4 v5 z : Nat} (h : z < 10 + 6 * N ∨ 10 + 6 * N + 6 ≤ z) : c6N c N v0 v1 v2 v3 v4 v5 z = c z := by
  unfold c6N
  rw [cU_far (by omega), cU_far (by omega), cU_far (by omega), cU_far (by omega), cU_far (by omega), cU_far (by omega)]
  exact if_neg (by omega)
theorem PK.ship (h : PK N K c) (hN : N < 4) {v0 v1 v2 v3 v4 v5 : Nat} (a0 : 1 ≤ v0) (b0 : v0 ≤ 99999) (b1 : v1 ≤ 10) (b2 : v2 ≤ 9999999) (b3 : v3 ≤ 9999999) (b4 : v4 ≤ 1) (b5 : v5 ≤ 1) : PK (N + 1) K (c6N c N v0 v1 v2 v3 v4 v5) := by
  obtain ⟨h1, h2, h3, h4⟩ := h
  refine ⟨⟨by omega, h1.2⟩, ?_, ?_, ?_⟩
  · rw [c6_far (z := 2) (by omega), c6_far (z := 3) (by omega), c6_far (z := 4) (by omega), c6_far (z := 5) (by omega), c6_far (z := 6) (by omega), c6_far (z := 7) (by omega), c6_far (z := 8) (by omega), c6_far (z := 9) (by omega)]
    exact h2
  · intro i hi
    by_cases q : i = N
    · subst q
      have e0 : c6N c i v0 v1 v2 v3 v4 v5 (10 + 6 * i) = v0 := by
        unfold c6N
        rw [cU_far (by omega), cU_far (by omega), cU_far (by omega), cU_far (by omega), cU_far (by omega)]
        exact cU_at
      have e1 : c6N c i v0 v1 v2 v3 v4 v5 (10 + 6 * i + 1) = v1 := by
        unfold c6N
        rw [cU_far (by omega), cU_far (by omega), cU_far (by omega), cU_far (by omega), cU_at]
      have e2 : c6N c i v0 v1 v2 v3 v4 v5 (10 + 6 * i + 2) = v2 := by
        unfold c6N
        rw [cU_far (by omega), cU_far (by omega), cU_far (by omega), cU_at]
      have e3 : c6N c i v0 v1 v2 v3 v4 v5 (10 + 6 * i + 3) = v3 := by
        unfold c6N
        rw [cU_far (by omega), cU_far (by omega), cU_at]
      have e4 : c6N c i v0 v1 v2 v3 v4 v5 (10 + 6 * i + 4) = v4 := by
        unfold c6N
        rw [cU_far (by omega), cU_at]
      have e5 : c6N c i v0 v1 v2 v3 v4 v5 (10 + 6 * i + 5) = v5 := by
        unfold c6N
        rw [cU_at]
      rw [e0, e1, e2, e3, e4, e5]
      exact ⟨a0, b0, b1, b2, b3, b4, b5⟩
    · rw [c6_far (z := 10 + 6 * i) (by omega), c6_far (z := 10 + 6 * i + 1) (by omega), c6_far (z := 10 + 6 * i + 2) (by omega), c6_far (z := 10 + 6 * i + 3) (by omega), c6_far (z := 10 + 6 * i + 4) (by omega), c6_far (z := 10 + 6 * i + 5) (by omega)]
      exact h3 i (by omega)
  · intro k hk
    rw [c6_far (z := 34 + 4 * k) (by omega), c6_far (z := 34 + 4 * k + 1) (by omega), c6_far (z := 34 + 4 * k + 2) (by omega), c6_far (z := 34 + 4 * k + 3) (by omega)]
    have := h4 k hk
    exact ⟨this.1, fun q => by have := this.2.1 q; omega, this.2.2⟩
end SHIPL
end
section
/-! ===== level 2: a line of a ship, whole ===== -/
section SHIP2
variable {B : Fin 600 → Int32} {M : MS} {n : Nat} {T : TS} {lt : Fin 10 → Int32} {o : Int32} {rd : Fin 82 → Int32} {rn : Fin 4 → Int64} {x0 : Nat} {D : DS} {M2 : MS} {Y : Nat → Nat} {N K : Nat} {c : Nat → Nat}
theorem q5_mark (hN : N < 4) (hr : m_read M2 = rd) {b : Nat} (hb : b ≤ 1) {M2' : MS} (e : F_X5_isWord M2 (lN (nHi 0 (wdN (4 + 1)))) = some (nI b)) (e0 : b = 0 → M2' = ms_read M2 (upI rd (10 + 6 * N + 4) (nI b))) (e1 : b = 1 → F_X5_token (ms_read M2 (upI rd (10 + 6 * N + 4) (nI b))) = some M2') : Q5 (nI (10 + 6 * N)) M2 = J_X5_shipLine_206 M2' (nI (10 + 6 * N)) := by
  have e' : F_X5_isWord M2 (lN (nHi 0 (wdN 5))) = some (nI b) := e
  have hm : ∀ f, m_read (ms_read M2 f) = f := fun f => rfl
  unfold Q5 J_X5_shipLine_189
  rw [w_clause, bs, e', bs]
  rcases (show b = 0 ∨ b = 1 by omega) with rfl | rfl
  · rw [if_pos nI_0, hr, show (4 : Int32) = nI 4 from rfl, nI_add, wI _ (by omega) (by omega), bs, nm_eq, hm, rI _ (by omega) (by omega), bs, e_up _ (by omega), if_neg (by decide), e0 rfl]
    rfl
  · rw [if_neg (by decide), hr, show (4 : Int32) = nI 4 from rfl, nI_add, wI _ (by omega) (by omega), bs, nm_eq, hm, rI _ (by omega) (by omega), bs, e_up _ (by omega), if_pos rfl]
    have e1' : F_X5_token (ms_read M2 (upI rd (10 + 6 * N + 4) 1)) = some M2' := e1 rfl
    rw [e1', bs]
theorem q6_mark (hN : N < 4) (hr : m_read M2 = rd) {b : Nat} (hb : b ≤ 1) {M2' : MS} (e : F_X5_isWord M2 (lN (nHi 0 (wdN (5 + 1)))) = some (nI b)) (e0 : b = 0 → M2' = ms_read M2 (upI rd (10 + 6 * N + 5) (nI b))) (e1 : b = 1 → F_X5_token (ms_read M2 (upI rd (10 + 6 * N + 5) (nI b))) = some M2') : J_X5_shipLine_206 M2 (nI (10 + 6 * N)) = J_X5_shipLine_245 M2' := by
  have e' : F_X5_isWord M2 (lN (nHi 0 (wdN 6))) = some (nI b) := e
  have hm : ∀ f, m_read (ms_read M2 f) = f := fun f => rfl
  unfold J_X5_shipLine_206 J_X5_shipLine_228
  rw [w_barred, bs, e', bs]
  rcases (show b = 0 ∨ b = 1 by omega) with rfl | rfl
  · rw [if_pos nI_0, hr, show (5 : Int32) = nI 5 from rfl, nI_add, wI _ (by omega) (by omega), bs, nm_eq, hm, rI _ (by omega) (by omega), bs, e_up _ (by omega), if_neg (by decide), e0 rfl]
    rfl
  · rw [if_neg (by decide), hr, show (5 : Int32) = nI 5 from rfl, nI_add, wI _ (by omega) (by omega), bs, nm_eq, hm, rI _ (by omega) (by omega), bs, e_up _ (by omega), if_pos rfl]
    have e1' : F_X5_token (ms_read M2 (upI rd (10 + 6 * N + 5) 1)) = some M2' := e1 rfl
    rw [e1', bs]
theorem p_ship (hl : m_length M = nI n) (hn : n ≤ 600) (hB : ∀ k, k < n → BR (exI B k) (exI (m_tape M) k) (Y k)) (h : Pr B M n T lt o rd rn x0 D M2) (hb : TB N K c T lt o rd rn) : OutP B M n x0 (F_X0_readShip D) (F_X5_shipLine M2) := by
  obtain ⟨hT, hR, hP, hNm, hZ, hLw⟩ := hb
  have hr0 : exI rd 0 = nI N := hR.1
  have hN4 := hP.1.1
  have hK := hP.1.2
  unfold F_X0_readShip F_X5_shipLine
  rw [h.gT, hT.1, h.gR, R0 hR, bs]
  by_cases h4 : N = 4
  · obtain ⟨D1, M1, e1, e2, g, s, q1, q2, q3⟩ := h.fail hn (g := 4) (by omega) (by omega)
    have e1' : F_X0_fail D 4 = some (0, D1) := e1
    have e2' : F_X5_fails M2 4 = some M1 := e2
    refine ⟨D1, M1, ?_, Or.inr ⟨?_, o, rd, rn, N, hN4, hr0, g, s, q1, q2, q3⟩⟩
    · unfold J_X5_shipLine_17
      rw [if_pos (by rw [h4]; rfl), e2', bs, q3.goes, bs, q3.isN, bs, if_pos rfl, q3.fails, bs, J49, if_neg q3.w]
    · rw [if_neg (by rw [h4]; decide), e1', bs]
      rfl
  · have hN : N < 4 := by omega
    obtain ⟨D1, M1, s1, s2, hp1⟩ := p_step hl hn hB h
    rw [if_pos (show nI N < (4 : Int32) from (nI_ltI (b := 4) (by omega) (by omega)).mpr hN), if_neg (show ¬ nI N = (4 : Int32) from fun q => h4 ((nI_eq (b := 4) (by omega) (by omega)).mp q)), s1, bs]
    unfold J_X5_shipLine_17
    rw [h.goes, s2, bs, bs]
    obtain ⟨b, n1, n2, nb⟩ := p_name hp1
    rw [n1, n2, bs, bs]
    rcases nb with rfl | ⟨rfl, ls, l1, l2, l3, l4, l5⟩
    · obtain ⟨D2, M3, e1, e2, g, s, q1, q2, q3⟩ := hp1.fail hn (g := 1) (by omega) (by omega)
      have e1' : F_X0_fail D1 1 = some (0, D2) := e1
      have e2' : F_X5_fails M1 1 = some M3 := e2
      refine ⟨D2, M3, ?_, Or.inr ⟨?_, o, rd, rn, N, hN4, hr0, g, s, q1, q2, q3⟩⟩
      · rw [if_pos rfl, e2', bs, J49, if_neg q3.w]
      · rw [if_pos rfl, e1', bs]
        rfl
    · obtain ⟨r, r1, r2, r3⟩ := p_named hp1 hN4 hT.1 hr0 hNm (by omega) l3 l4 l5
      rw [if_neg n10, if_neg n10, r1, r2, bs, bs]
      by_cases hr : r = -1
      · rw [if_pos hr, if_pos hr, hp1.gT, l4]
        obtain ⟨f, hf, ea⟩ := C_addShip hT.1 hN (lN (nLo ls))
        rw [ea, bs, nm_eq, J49, if_pos hp1.w0, hp1.gN, l5, wL _ (by omega) (by omega), bs, nm_eq, nm_eq, show (10 : Int32) + (6 : Int32) * nI N = nI (10 + 6 * N) by rw [show (10 : Int32) = nI 10 from rfl, show (6 : Int32) = nI 6 from rfl, pk_mul, nI_add]]
        have hs0 := ShR.start hT hR hN hK hZ hf (upL (t_names T) N (lN (nLo ls)))
        have hnames : ∀ i, i < N + 1 → NmR (exL (upL (t_names T) N (lN (nLo ls))) i) (exL (upL rn N (lN (nHi 0 ls))) i) := by
          intro i hi
          rw [exL_up _ (by omega), exL_up _ (by omega)]
          by_cases q : i = N
          · rw [if_pos q, if_pos q]
            exact ⟨ls, l1, l2, l3, rfl, rfl⟩
          · rw [if_neg q, if_neg q]
            exact hNm i (by omega)
        have hp2 := (hp1.told (ts_ships (ts_shipRows (ts_names T (upL (t_names T) N (lN (nLo ls)))) f) (nI (N + 1)))).names (upL rn N (lN (nHi 0 ls)))
        obtain ⟨D3, M3, s3, s4, hp3⟩ := p_step hl hn hB hp2
        rw [s3, s4, bs, bs]
        obtain ⟨Ma, ka, oa⟩ := p_col hl hn hB hp3 hN hs0.1.1 (j := 0) (by omega)
        have kq : Q1 (nI (10 + 6 * N)) M3 = Q2 (nI (10 + 6 * N)) Ma := by
          unfold Q1
          rw [w_tons, bs]
          exact ka _
        rw [kq]
        rcases oa with ⟨v0, Da, a1, a2, ea, pa⟩ | ⟨Da, ra, ea, za, g, s, q1, q2, q3⟩
        · have hs1 := hs0.up hN hK (j := 0) (by omega) v0
          have ea' : F_X0_readColumn D3 1 = some (1, Da) := ea
          rw [ea', bs, if_neg n10]
          obtain ⟨Mb, kb, ob⟩ := p_col hl hn hB pa hN hs1.1.1 (j := 1) (by omega)
          have kq2 : Q2 (nI (10 + 6 * N)) Ma = Q3 (nI (10 + 6 * N)) Mb := by
            unfold Q2
            rw [w_fault, bs]
            exact kb _
          rw [kq2]
          rcases ob with ⟨v1, Db, b1, b2, eb, pb⟩ | ⟨Db, rb, eb, zb, g, s, q1, q2, q3⟩
          · have hs2 := hs1.up hN hK (j := 1) (by omega) v1
            have eb' : F_X0_readColumn Da 2 = some (1, Db) := eb
            rw [eb', bs, if_neg n10]
            obtain ⟨Mc, kc, oc⟩ := p_col hl hn hB pb hN hs2.1.1 (j := 2) (by omega)
            have kq3 : Q3 (nI (10 + 6 * N)) Mb = Q4 (nI (10 + 6 * N)) Mc := by
              unfold Q3
              rw [w_hull, bs]
              exact kc _
            rw [kq3]
            rcases oc with ⟨v2, Dc, c1, c2, ec, pc⟩ | ⟨Dc, rc, ec, zc, g, s, q1, q2, q3⟩
            · have hs3 := hs2.up hN hK (j := 2) (by omega) v2
              have ec' : F_X0_readColumn Db 3 = some (1, Dc) := ec
              rw [ec', bs, if_neg n10]
              obtain ⟨Md, kd, od⟩ := p_col hl hn hB pc hN hs3.1.1 (j := 3) (by omega)
              have kq4 : Q4 (nI (10 + 6 * N)) Mc = Q5 (nI (10 + 6 * N)) Md := by
                unfold Q4
                rw [w_value, bs]
                exact kd _
              rw [kq4]
              rcases od with ⟨v3, Dd, d1, d2, ed, pd⟩ | ⟨Dd, rd', ed, zd, g, s, q1, q2, q3⟩
              · have hs4 := hs3.up hN hK (j := 3) (by omega) v3
                have ed' : F_X0_readColumn Dc 4 = some (1, Dd) := ed
                rw [ed', bs, if_neg n10]
                have hz4 := hs4.1.2.2.2.1 N (by omega) 4 (by omega)
                rw [cU_far (by omega), cU_far (by omega), cU_far (by omega), cU_far (by omega), show c0N c N (10 + 6 * N + 4) = 0 from if_pos (by omega)] at hz4
                obtain ⟨b4, De, Me, m1, m2, m3, m4, m5, pe⟩ := p_mark hl hn hB pd hN hs4.1.1 (Or.inl rfl) hz4
                have hs5 := hs4.up hN hK (j := 4) (by omega) b4
                have m2' : F_X0_readMark Dd 5 = some De := m2
                rw [m2', bs, q5_mark hN pd.gR m1 m3 m4 m5]
                have hz5 := hs5.1.2.2.2.1 N (by omega) 5 (by omega)
                rw [cU_far (by omega), cU_far (by omega), cU_far (by omega), cU_far (by omega), cU_far (by omega), show c0N c N (10 + 6 * N + 5) = 0 from if_pos (by omega)] at hz5
                obtain ⟨b5, Dg, Mg, k1, k2, k3, k4, k5, pg⟩ := p_mark hl hn hB pe hN hs5.1.1 (Or.inr rfl) hz5
                have hs6 := hs5.up hN hK (j := 5) (by omega) b5
                have k2' : F_X0_readMark De 6 = some Dg := k2
                rw [k2', bs, q6_mark hN pe.gR k1 k3 k4 k5]
                have h60 := hs6.2.2.1
                refine ⟨Dg, ms_read Mg (upI _ 0 (nI (N + 1))), ?_, Or.inl ⟨rfl, N + 1, K, _, _, lt, o, _, _, pg.read _, hs6.1, hs6.2.1, hP.ship hN a1 a2 b2 c2 d2 m1 k1, ?_, ?_, hLw⟩⟩
                · unfold J_X5_shipLine_245
                  rw [pg.gR, show (0 : Int32) = nI 0 from rfl, rI _ (by omega) (by omega), bs, h60, nI_1, wI _ (by omega) (by omega), bs, nm_eq]
                · rw [hs6.2.2.2.2]
                  exact hnames
                · intro i hi hi4 w hw
                  rw [exI_up _ (by omega), if_neg (by omega)]
                  exact hs6.2.2.2.1 i (by omega) hi4 w hw
              · have ed' : F_X0_readColumn Dc 4 = some (0, Dd) := ed
                obtain ⟨Mz, ez, rz, z1, z2⟩ := fl_Q5 q3 hN (zd.trans hs3.2.2.1)
                exact ⟨Dd, Mz, ez, Or.inr ⟨by rw [ed', bs, if_pos rfl], o, rz, _, N + 1, by omega, z1, g, s, q1, q2, z2⟩⟩
            · have ec' : F_X0_readColumn Db 3 = some (0, Dc) := ec
              obtain ⟨Mz, ez, rz, z1, z2⟩ := fl_Q4 q3 hN (zc.trans hs2.2.2.1)
              exact ⟨Dc, Mz, ez, Or.inr ⟨by rw [ec', bs, if_pos rfl], o, rz, _, N + 1, by omega, z1, g, s, q1, q2, z2⟩⟩
          · have eb' : F_X0_readColumn Da 2 = some (0, Db) := eb
            obtain ⟨Mz, ez, rz, z1, z2⟩ := fl_Q3 q3 hN (zb.trans hs1.2.2.1)
            exact ⟨Db, Mz, ez, Or.inr ⟨by rw [eb', bs, if_pos rfl], o, rz, _, N + 1, by omega, z1, g, s, q1, q2, z2⟩⟩
        · have ea' : F_X0_readColumn D3 1 = some (0, Da) := ea
          obtain ⟨Mz, ez, rz, z1, z2⟩ := fl_Q2 q3 hN (za.trans hr0)
          exact ⟨Da, Mz, ez, Or.inr ⟨by rw [ea', bs, if_pos rfl], o, rz, _, N + 1, by omega, z1, g, s, q1, q2, z2⟩⟩
      · obtain ⟨D2, M3, e1, e2, g, s, q1, q2, q3⟩ := hp1.fail hn (g := 3) (by omega) (by omega)
        have e1' : F_X0_fail D1 3 = some (0, D2) := e1
        have e2' : F_X5_fails M1 3 = some M3 := e2
        refine ⟨D2, M3, ?_, Or.inr ⟨?_, o, rd, rn, N, hN4, hr0, g, s, q1, q2, q3⟩⟩
        · rw [if_neg hr, e2', bs, J49, if_neg q3.w]
        · rw [if_neg hr, e1', bs]
          rfl
end SHIP2
end
section
/-! ===== level 2: lines of claims, of laws ===== -/
def R2c (at' : Int32) (S : MS) : Option MS := (F_X5_dayWord).bind fun q11 => (F_X5_takes S q11).bind fun q12 => (F_X5_whole q12 (0 : Int32) (999 : Int32)).bind fun q13 => (wrI (m_read q13.2) (at' + (3 : Int32)) q13.1).bind fun f14 => nm (ms_read q13.2 f14 : MS) fun S15 => (rdI (m_read S15) (1 : Int32)).bind fun v16 => (wrI (m_read S15) (1 : Int32) (v16 + (1 : Int32))).bind fun f17 => nm (ms_read S15 f17 : MS) fun S18 => some S18
theorem J104 (S : MS) (x : Int32) : J_X5_claimLine_104 S x = (F_X5_whole S (1 : Int32) (9999999 : Int32)).bind fun q8 => (wrI (m_read q8.2) (x + (2 : Int32)) q8.1).bind fun f9 => nm (ms_read q8.2 f9 : MS) fun S10 => R2c x S10 := rfl
section CLML
variable {B : Fin 600 → Int32} {M : MS} {n : Nat} {T : TS} {lt : Fin 10 → Int32} {o : Int32} {rd : Fin 82 → Int32} {rn : Fin 4 → Int64} {x0 : Nat} {D : DS} {M2 : MS} {Y : Nat → Nat} {N K : Nat} {c : Nat → Nat}
theorem rm_rd (S : MS) (f : Fin 82 → Int32) : m_read (ms_read S f) = f := rfl
theorem fl_R2e {g s : Nat} (h : Fl M g s o rd rn M2) (hK : K < 12) (h0 : exI rd 0 = nI N) (h1 : exI rd 1 = nI K) (v : Int32) : ∃ M2', ((wrI (m_read M2) (nI (34 + 4 * K) + (3 : Int32)) v).bind fun f14 => nm (ms_read M2 f14 : MS) fun S15 => (rdI (m_read S15) (1 : Int32)).bind fun v16 => (wrI (m_read S15) (1 : Int32) (v16 + (1 : Int32))).bind fun f17 => nm (ms_read S15 f17 : MS) fun S18 => some S18) = some M2' ∧ ∃ rd', exI rd' 0 = nI N ∧ Fl M g s o rd' rn M2' := by
  refine ⟨_, ?_, _, ?_, (h.read (upI rd (34 + 4 * K + 3) v)).read (upI (upI rd (34 + 4 * K + 3) v) 1 (nI (K + 1)))⟩
  · rw [h.gR, show (3 : Int32) = nI 3 from rfl, nI_add, wI _ (by omega) (by omega), bs, nm_eq, rm_rd, show (1 : Int32) = nI 1 from rfl, rI _ (by omega) (by omega), bs, exI_up _ (by omega), if_neg (by omega), h1, nI_add, wI _ (by omega) (by omega), bs, nm_eq]
  · rw [exI_up _ (by omega), if_neg (by omega), exI_up _ (by omega), if_neg (by omega), h0]
theorem fl_R2 {g s : Nat} (h : Fl M g s o rd rn M2) (hK : K < 12) (h0 : exI rd 0 = nI N) (h1 : exI rd 1 = nI K) : ∃ M2', R2c (nI (34 + 4 * K)) M2 = some M2' ∧ ∃ rd', exI rd' 0 = nI N ∧ Fl M g s o rd' rn M2' := by
  obtain ⟨M3, e, r⟩ := fl_R2e h hK h0 h1 (m_number M2)
  refine ⟨M3, ?_, r⟩
  unfold R2c
  rw [w_day, bs, h.takes, bs, h.whole, bs]
  exact e
theorem fl_104 {g s : Nat} (h : Fl M g s o rd rn M2) (hK : K < 12) (h0 : exI rd 0 = nI N) (h1 : exI rd 1 = nI K) : ∃ M2', J_X5_claimLine_104 M2 (nI (34 + 4 * K)) = some M2' ∧ ∃ rd', exI rd' 0 = nI N ∧ Fl M g s o rd' rn M2' := by
  obtain ⟨M3, e, r⟩ := fl_R2 (h.read (upI rd (34 + 4 * K + 2) (m_number M2))) hK (by rw [exI_up _ (by omega), if_neg (by omega), h0]) (by rw [exI_up _ (by omega), if_neg (by omega), h1])
  refine ⟨M3, ?_, r⟩
  rw [J104, h.whole, bs, h.gR, show (2 : Int32) = nI 2 from rfl, nI_add, wI _ (by omega) (by omega), bs, nm_eq]
  exact e
theorem fl_88 {g s : Nat} (h : Fl M g s o rd rn M2) (hN : N ≤ 4) (hK : K < 12) (h0 : exI rd 0 = nI N) (h1 : exI rd 1 = nI K) : ∃ M2', J_X5_claimLine_88 M2 (nI (34 + 4 * K)) = some M2' ∧ ∃ rd', exI rd' 0 = nI N ∧ Fl M g s o rd' rn M2' := by
  have hx := h
  obtain ⟨a1, a2, a3, x, f, t, L, v, w, rfl⟩ := hx
  obtain ⟨r, er⟩ := named_any (M := M) hN x f t L v w (nI g) (nI s) o rd rn h0
  have h2 := h.read (upI rd (34 + 4 * K + 1) r)
  obtain ⟨M3, e, q⟩ := fl_104 h2 hK (by rw [exI_up _ (by omega), if_neg (by omega), h0]) (by rw [exI_up _ (by omega), if_neg (by omega), h1])
  refine ⟨M3, ?_, q⟩
  unfold J_X5_claimLine_88
  rw [er, bs, h.gR, nI_1, wI _ (by omega) (by omega), bs, nm_eq, h2.goes, bs]
  exact e
theorem up_up {m : Nat} (f : Fin m → Int32) {k : Nat} (hk : k < m) (a b : Int32) : upI (upI f k a) k b = upI f k b := ext_I fun z hz => by
  rw [exI_up _ hk, exI_up _ hk, exI_up _ hk]
  by_cases q : z = k
  · rw [if_pos q, if_pos q]
  · rw [if_neg q, if_neg q, if_neg q]
theorem PK.claim (h : PK N K c) (hK : K < 12) {a b m d : Nat} (ha : a ≤ 2) (hb : a = 0 → b < N) (hm1 : 1 ≤ m) (hm : m ≤ 9999999) (hd : d ≤ 999) : PK N (K + 1) (cF c K a b m d) := by
  obtain ⟨h1, h2, h3, h5⟩ := h
  refine ⟨⟨h1.1, by omega⟩, ?_, ?_, ?_⟩
  · rw [cF_far (z := 2) (by omega), cF_far (z := 3) (by omega), cF_far (z := 4) (by omega), cF_far (z := 5) (by omega), cF_far (z := 6) (by omega), cF_far (z := 7) (by omega), cF_far (z := 8) (by omega), cF_far (z := 9) (by omega)]
    exact h2
  · intro k hk
    rw [cF_far (z := 10 + 6 * k) (by omega), cF_far (z := 10 + 6 * k + 1) (by omega), cF_far (z := 10 + 6 * k + 2) (by omega), cF_far (z := 10 + 6 * k + 3) (by omega), cF_far (z := 10 + 6 * k + 4) (by omega), cF_far (z := 10 + 6 * k + 5) (by omega)]
    exact h3 k hk
  · intro k hk
    by_cases q : k = K
    · subst q
      rw [cF_0, cF_1, cF_2, cF_3]
      exact ⟨ha, hb, hm1, hm, hd⟩
    · rw [cF_far (z := 34 + 4 * k) (by omega), cF_far (z := 34 + 4 * k + 1) (by omega), cF_far (z := 34 + 4 * k + 2) (by omega), cF_far (z := 34 + 4 * k + 3) (by omega)]
      exact h5 k (by omega)
/-- from the amount on -/
theorem p_104 (hl : m_length M = nI n) (hn : n ≤ 600) (hB : ∀ k, k < n → BR (exI B k) (exI (m_tape M) k) (Y k)) (hb : TB N K c T lt o rd rn) (hK : K < 12) {a b : Nat} (ha : a ≤ 2) (hab : a = 0 → b < N) {y : Int32} (hy : y = if a = 0 then nI b else -2) (h : Pr B M n T lt o (upI (upI rd (34 + 4 * K) (nI a)) (34 + 4 * K + 1) y) rn x0 D M2) : OutP B M n x0 (J_X0_readClaim_69 D (nI a) y) (J_X5_claimLine_104 M2 (nI (34 + 4 * K))) := by
  obtain ⟨hT, hR, hP, hNm, hZ, hLw⟩ := hb
  have hN4 := hP.1.1
  have z0 : exI (upI (upI rd (34 + 4 * K) (nI a)) (34 + 4 * K + 1) y) 0 = nI N := by
    rw [exI_up _ (by omega), if_neg (by omega), exI_up _ (by omega), if_neg (by omega), hR.1]
  have z1 : exI (upI (upI rd (34 + 4 * K) (nI a)) (34 + 4 * K + 1) y) 1 = nI K := by
    rw [exI_up _ (by omega), if_neg (by omega), exI_up _ (by omega), if_neg (by omega), hR.2.1]
  unfold J_X0_readClaim_69
  rw [J104]
  rcases p_whole hl hn hB h (a := 1) (b := 9999999) (by omega) (by omega) with ⟨m, M3, a1, a2, a3, a4, a5, a6⟩ | ⟨D3, M3, v, a1, a2, g, s, q1, q2, q3⟩
  · have a4' : F_X0_isWholeWithin D 1 9999999 = some (1, D) := a4
    have a5' : F_X5_whole M2 1 9999999 = some (nI m, M3) := a5
    obtain ⟨D4, b1, b2⟩ := a6 T
    rw [ds_same h] at b1
    rw [a4', a5', bs, bs, if_neg n10, nm_eq, a3, b1, bs, b2.gR, show (2 : Int32) = nI 2 from rfl, nI_add, wI _ (by omega) (by omega), bs, nm_eq]
    have b3 := b2.read (upI (upI (upI rd (34 + 4 * K) (nI a)) (34 + 4 * K + 1) y) (34 + 4 * K + 2) (nI m))
    have y0 : exI (upI (upI (upI rd (34 + 4 * K) (nI a)) (34 + 4 * K + 1) y) (34 + 4 * K + 2) (nI m)) 0 = nI N := by
      rw [exI_up _ (by omega), if_neg (by omega), z0]
    have y1 : exI (upI (upI (upI rd (34 + 4 * K) (nI a)) (34 + 4 * K + 1) y) (34 + 4 * K + 2) (nI m)) 1 = nI K := by
      rw [exI_up _ (by omega), if_neg (by omega), z1]
    unfold R2c
    rw [w_day, bs]
    obtain ⟨D5, M5, e1, e2⟩ := p_word hl hn hB b3 (w := 7) (by omega)
    rw [e1, bs, wd_then]
    rcases e2 with ⟨e2, e3⟩ | ⟨e2, g, s, q1, q2, q3⟩
    · rw [e2, bs, if_neg n10]
      rcases p_whole hl hn hB e3 (a := 0) (b := 999) (by omega) (by omega) with ⟨d, M6, c1, c2, c3, c4, c5, c6⟩ | ⟨D6, M6, v, c1, c2, g, s, q1, q2, q3⟩
      · have c4' : F_X0_isWholeWithin D5 0 999 = some (1, D5) := c4
        have c5' : F_X5_whole M5 0 999 = some (nI d, M6) := c5
        have ho : (if nI a = 0 then y else (-2 : Int32)) = y := by
          by_cases q : a = 0
          · rw [if_pos (by rw [q]; rfl)]
          · rw [if_neg (nI_ne0 (by omega) (by omega)), hy, if_neg q]
        obtain ⟨D7, f1, f2⟩ := c6 (ts_claims (ts_claimRows T (fT (t_claimRows T) K (nI a) y (nI m) (nI d))) (nI (K + 1)))
        rw [c4', c5', bs, bs, if_neg n10, e3.gT, C_addClaim hT.2.1 hK, ho, bs, nm_eq, c3, f1, bs, f2.gR, show (3 : Int32) = nI 3 from rfl, nI_add, wI _ (by omega) (by omega), bs, nm_eq, rm_rd, show (1 : Int32) = nI 1 from rfl, rI _ (by omega) (by omega), bs, exI_up _ (by omega), if_neg (by omega), y1, nI_add, wI _ (by omega) (by omega), bs, nm_eq]
        have f3 := (f2.read (upI (upI (upI (upI rd (34 + 4 * K) (nI a)) (34 + 4 * K + 1) y) (34 + 4 * K + 2) (nI m)) (34 + 4 * K + 3) (nI d))).read (fR rd K (nI a) y (nI m) (nI d) (nI (K + 1)))
        refine ⟨D7, _, rfl, Or.inl ⟨rfl, N, K + 1, cF c K a b m d, _, lt, o, _, rn, f3, cF_T hT hN4 hK hy, cF_R hR hN4 hK hy, hP.claim hK ha hab a1 a2 c2, hNm, ?_, hLw⟩⟩
        intro i hi hi4 w hw
        rw [fR_at hK, if_neg (by omega), if_neg (by omega), if_neg (by omega), if_neg (by omega), if_neg (by omega)]
        exact hZ i hi hi4 w hw
      · have c1' : F_X0_isWholeWithin D5 0 999 = some (0, D6) := c1
        have c2' : F_X5_whole M5 0 999 = some (v, M6) := c2
        obtain ⟨M8, ez, r8, x1, x2⟩ := fl_R2e q3 hK y0 y1 v
        rw [c1', c2', bs, bs, if_pos rfl]
        exact ⟨D6, M8, ez, Or.inr ⟨rfl, o, r8, rn, N, hN4, x1, g, s, q1, q2, x2⟩⟩
    · rw [e2, bs, if_pos rfl, q3.whole, bs]
      obtain ⟨M8, ez, r8, x1, x2⟩ := fl_R2e q3 hK y0 y1 (m_number M5)
      exact ⟨D5, M8, ez, Or.inr ⟨rfl, o, r8, rn, N, hN4, x1, g, s, q1, q2, x2⟩⟩
  · have a1' : F_X0_isWholeWithin D 1 9999999 = some (0, D3) := a1
    have a2' : F_X5_whole M2 1 9999999 = some (v, M3) := a2
    rw [a1', a2', bs, bs, if_pos rfl, q3.gR, show (2 : Int32) = nI 2 from rfl, nI_add, wI _ (by omega) (by omega), bs, nm_eq]
    obtain ⟨M8, ez, r8, x1, x2⟩ := fl_R2 (q3.read (upI (upI (upI rd (34 + 4 * K) (nI a)) (34 + 4 * K + 1) y) (34 + 4 * K + 2) v)) hK (by rw [exI_up _ (by omega), if_neg (by omega), z0]) (by rw [exI_up _ (by omega), if_neg (by omega), z1])
    exact ⟨D3, M8, ez, Or.inr ⟨rfl, o, r8, rn, N, hN4, x1, g, s, q1, q2, x2⟩⟩
theorem p_claim (hl : m_length M = nI n) (hn : n ≤ 600) (hB : ∀ k, k < n → BR (exI B k) (exI (m_tape M) k) (Y k)) (h : Pr B M n T lt o rd rn x0 D M2) (hb : TB N K c T lt o rd rn) {a : Nat} (ha : a ≤ 2) : OutP B M n x0 (F_X0_readClaim D (nI a)) (F_X5_claimLine M2 (nI a)) := by
  have hb' := hb
  obtain ⟨hT, hR, hP, hNm, hZ, hLw⟩ := hb
  have hr0 : exI rd 0 = nI N := hR.1
  have hN4 := hP.1.1
  have hK12 := hP.1.2
  unfold F_X0_readClaim F_X5_claimLine
  rw [h.gT, hT.2.1, h.gR, R1 hR, bs]
  by_cases h4 : K = 12
  · obtain ⟨D1, M1, e1, e2, g, s, q1, q2, q3⟩ := h.fail hn (g := 4) (by omega) (by omega)
    have e1' : F_X0_fail D 4 = some (0, D1) := e1
    have e2' : F_X5_fails M2 4 = some M1 := e2
    refine ⟨D1, M1, ?_, Or.inr ⟨?_, o, rd, rn, N, hN4, hr0, g, s, q1, q2, q3⟩⟩
    · unfold J_X5_claimLine_18
      rw [if_pos (by rw [h4]; rfl), e2', bs, q3.goes, bs, if_neg q3.w]
    · rw [if_neg (by rw [h4]; decide), e1', bs]
      rfl
  · have hK : K < 12 := by omega
    obtain ⟨D1, M1, s1, s2, hp1⟩ := p_step hl hn hB h
    rw [if_pos (show nI K < (12 : Int32) from (nI_ltI (b := 12) (by omega) (by omega)).mpr hK), if_neg (show ¬ nI K = (12 : Int32) from fun q => h4 ((nI_eq (b := 12) (by omega) (by omega)).mp q)), s1, bs]
    unfold J_X5_claimLine_18
    have hx2 := (hp1.read (upI rd (34 + 4 * K) (nI a))).read (upI (upI rd (34 + 4 * K) (nI a)) (34 + 4 * K + 1) (-2))
    have z0 : exI (upI (upI rd (34 + 4 * K) (nI a)) (34 + 4 * K + 1) (-2)) 0 = nI N := by
      rw [exI_up _ (by omega), if_neg (by omega), exI_up _ (by omega), if_neg (by omega), hR.1]
    have z1 : exI (upI (upI rd (34 + 4 * K) (nI a)) (34 + 4 * K + 1) (-2)) 1 = nI K := by
      rw [exI_up _ (by omega), if_neg (by omega), exI_up _ (by omega), if_neg (by omega), hR.2.1]
    rw [h.goes, s2, bs, bs, if_pos hp1.w0, show (34 : Int32) + (4 : Int32) * nI K = nI (34 + 4 * K) by rw [show (34 : Int32) = nI 34 from rfl, show (4 : Int32) = nI 4 from rfl, pk_mul, nI_add], nm_eq, hp1.gR, show nI (34 + 4 * K) + (0 : Int32) = nI (34 + 4 * K) from Int32.add_zero _, wI _ (by omega) (by omega), bs, nm_eq, rm_rd, nI_1, wI _ (by omega) (by omega), bs, nm_eq]
    by_cases ha0 : a = 0
    · subst ha0
      rw [if_pos nI_0, if_pos nI_0]
      obtain ⟨b, n1, n2, nb⟩ := p_name hx2
      rw [n1, n2, bs, bs]
      rcases nb with rfl | ⟨rfl, ls, l1, l2, l3, l4, l5⟩
      · obtain ⟨D2, M3, e1, e2, g, s, q1, q2, q3⟩ := hx2.fail hn (g := 1) (by omega) (by omega)
        have e1' : F_X0_fail D1 1 = some (0, D2) := e1
        have e2' : F_X5_fails (ms_read (ms_read M1 (upI rd (34 + 4 * K) (nI 0))) (upI (upI rd (34 + 4 * K) (nI 0)) (34 + 4 * K + 1) (-2))) 1 = some M3 := e2
        obtain ⟨M8, ez, r8, x1, x2⟩ := fl_88 q3 hN4 hK z0 z1
        refine ⟨D2, M8, ?_, Or.inr ⟨?_, o, r8, rn, N, hN4, x1, g, s, q1, q2, x2⟩⟩
        · rw [if_pos rfl, e2', bs, ez]
        · rw [if_pos rfl, e1', bs]
          rfl
      · obtain ⟨r, r1, r2, r3⟩ := p_named hx2 hN4 hT.1 z0 hNm (by omega) l3 l4 l5
        rw [if_neg n10, if_neg n10, r1, r2, bs, bs]
        by_cases hr : r = -1
        · obtain ⟨D2, M3, e1, e2, g, s, q1, q2, q3⟩ := hx2.fail hn (g := 3) (by omega) (by omega)
          have e1' : F_X0_fail D1 3 = some (0, D2) := e1
          have e2' : F_X5_fails (ms_read (ms_read M1 (upI rd (34 + 4 * K) (nI 0))) (upI (upI rd (34 + 4 * K) (nI 0)) (34 + 4 * K + 1) (-2))) 3 = some M3 := e2
          obtain ⟨M8, ez, r8, x1, x2⟩ := fl_88 q3 hN4 hK z0 z1
          refine ⟨D2, M8, ?_, Or.inr ⟨?_, o, r8, rn, N, hN4, x1, g, s, q1, q2, x2⟩⟩
          · rw [if_pos hr, e2', bs, ez]
          · rw [if_pos hr, e1', bs]
            rfl
        · rcases r3 with r3 | ⟨i, hi, r3⟩
          · exact absurd r3 hr
          · have hx3 := hx2.read (upI (upI rd (34 + 4 * K) (nI 0)) (34 + 4 * K + 1) r)
            obtain ⟨D4, M4, s3, s4, hp4⟩ := p_step hl hn hB hx3
            rw [if_neg hr, if_neg hr, s3, bs]
            unfold J_X5_claimLine_88
            rw [r2, bs, hx2.gR, nI_1, wI _ (by omega) (by omega), bs, up_up _ (by omega), nm_eq, hx3.goes, s4, bs, bs]
            exact p_104 hl hn hB hb' hK (a := 0) (b := i) (by omega) (fun _ => hi) (by rw [if_pos rfl, r3]) hp4
    · have hna : ¬ nI a = 0 := nI_ne0 (by omega) (by omega)
      rw [if_neg hna, if_neg hna]
      exact p_104 hl hn hB hb' hK (a := a) (b := 0) ha (fun q => absurd q ha0) (by rw [if_neg ha0]) hx2
end CLML
end
section
/-! ===== level 2: lines of laws; one line ===== -/
set_option maxRecDepth 100000 in
theorem lw_bit : ∀ m, m < 1024 → ∀ w, w < 10 → ((nI m >>> (nI w &&& 31)) &&& (1 : Int32)) = if m.testBit w then 1 else 0 := by decide +kernel
set_option maxRecDepth 100000 in
theorem lw_or : ∀ m, m < 1024 → ∀ w, w < 10 → nI m ||| ((1 : Int32) <<< (nI w &&& 31)) = nI (m ||| 2 ^ w) := by decide +kernel
def lawOK (w v : Nat) : Prop := (w ≤ 4 → v ≤ 1) ∧ (w = 5 ∨ w = 6 → v ≤ 99999) ∧ (w = 7 → 1 ≤ v ∧ v ≤ 99999) ∧ (w = 8 ∨ w = 9 → v ≤ 999)
theorem lawB (w : Nat) (h1 : 5 ≤ w) (h2 : w ≤ 9) : ∃ l b : Nat, l < 2 ^ 31 ∧ b < 2 ^ 31 ∧ rdI (sAf 2) (nI w) = some (nI l) ∧ rdI (sAf 3) (nI w) = some (nI b) ∧ F_X5_lowOf (nI w) = some (nI l) ∧ F_X5_highOf (nI w) = some (nI b) ∧ ∀ v, l ≤ v → v ≤ b → lawOK w v := by
  unfold lawOK
  rcases (show w = 5 ∨ w = 6 ∨ w = 7 ∨ w = 8 ∨ w = 9 by omega) with rfl | rfl | rfl | rfl | rfl
  · exact ⟨0, 99999, by omega, by omega, sAf_at (by decide) (by decide) (by decide), sAf_at (by decide) (by decide) (by decide), rfl, rfl, fun v _ _ => by omega⟩
  · exact ⟨0, 99999, by omega, by omega, sAf_at (by decide) (by decide) (by decide), sAf_at (by decide) (by decide) (by decide), rfl, rfl, fun v _ _ => by omega⟩
  · exact ⟨1, 99999, by omega, by omega, sAf_at (by decide) (by decide) (by decide), sAf_at (by decide) (by decide) (by decide), rfl, rfl, fun v _ _ => by omega⟩
  · exact ⟨0, 999, by omega, by omega, sAf_at (by decide) (by decide) (by decide), sAf_at (by decide) (by decide) (by decide), rfl, rfl, fun v _ _ => by omega⟩
  · exact ⟨0, 999, by omega, by omega, sAf_at (by decide) (by decide) (by decide), sAf_at (by decide) (by decide) (by decide), rfl, rfl, fun v _ _ => by omega⟩
section LAWL
variable {B : Fin 600 → Int32} {M : MS} {n : Nat} {T : TS} {lt : Fin 10 → Int32} {o : Int32} {rd : Fin 82 → Int32} {rn : Fin 4 → Int64} {x0 : Nat} {D : DS} {M2 : MS} {Y : Nat → Nat} {N K : Nat} {c : Nat → Nat}
theorem PK.law (h : PK N K c) {w v : Nat} (h1 : 2 ≤ w) (h2 : w < 10) (hv : lawOK w v) : PK N K (cU c w v) := by
  obtain ⟨a1, a2, a3, a4⟩ := h
  unfold lawOK at hv
  refine ⟨a1, ?_, ?_, ?_⟩
  · unfold cU
    refine ⟨?_, ?_, ?_, ?_, ?_, ?_, ?_, ?_, ?_⟩
    · split <;> omega
    · split <;> omega
    · split <;> omega
    · split <;> omega
    · split <;> omega
    · split <;> omega
    · split <;> omega
    · split <;> omega
    · split <;> omega
  · intro k hk
    rw [cU_far (z := 10 + 6 * k) (by omega), cU_far (z := 10 + 6 * k + 1) (by omega), cU_far (z := 10 + 6 * k + 2) (by omega), cU_far (z := 10 + 6 * k + 3) (by omega), cU_far (z := 10 + 6 * k + 4) (by omega), cU_far (z := 10 + 6 * k + 5) (by omega)]
    exact a3 k hk
  · intro k hk
    rw [cU_far (z := 34 + 4 * k) (by omega), cU_far (z := 34 + 4 * k + 1) (by omega), cU_far (z := 34 + 4 * k + 2) (by omega), cU_far (z := 34 + 4 * k + 3) (by omega)]
    exact a4 k hk
theorem TB.law (hb : TB N K c T lt o rd rn) {lt2 : Fin 10 → Int32} {o2 : Int32} (hL : LawR lt2 o2) {w v : Nat} (h1 : 2 ≤ w) (h2 : w < 10) (hv : lawOK w v) : TB N K (cU c w v) (ts_laws T (upI (t_laws T) w (nI v))) lt2 o2 (upI rd w (nI v)) rn := by
  obtain ⟨hT, hR, hP, hNm, hZ, hLw⟩ := hb
  refine ⟨cU_Tl hT h2, cU_R hR hP.1.1 hP.1.2 h1 (by omega), hP.law h1 h2 hv, hNm, ?_, hL⟩
  intro i hi hi4 z hz
  rw [exI_up _ (by omega), if_neg (by omega)]
  exact hZ i hi hi4 z hz
theorem p_law (hl : m_length M = nI n) (hn : n ≤ 600) (hB : ∀ k, k < n → BR (exI B k) (exI (m_tape M) k) (Y k)) (h : Pr B M n T lt o rd rn x0 D M2) (hb : TB N K c T lt o rd rn) {w : Nat} (hw1 : 2 ≤ w) (hw2 : w ≤ 9) : OutP B M n x0 (F_X0_readLaw D (nI w)) (F_X5_aboutLine M2 (nI w)) := by
  have hb' := hb
  obtain ⟨hT, hR, hP, hNm, hZ, m, hm, rfl, hbit⟩ := hb
  have hr0 : exI rd 0 = nI N := hR.1
  have hN4 := hP.1.1
  have hw10 : w < 10 := by omega
  unfold F_X0_readLaw F_X5_aboutLine
  rw [h.gL, rI _ hw10 (by omega), bs, hbit w hw10, h.gO, lw_bit m hm w hw10]
  by_cases q : m.testBit w = true
  · obtain ⟨D1, M1, e1, e2, g, s, q1, q2, q3⟩ := h.fail hn (g := 3) (by omega) (by omega)
    have e1' : F_X0_fail D 3 = some (0, D1) := e1
    have e2' : F_X5_fails M2 3 = some M1 := e2
    refine ⟨D1, ms_toldOnce M1 (m_toldOnce M1 ||| ((1 : Int32) <<< (nI w &&& 31))), ?_, Or.inr ⟨?_, _, rd, rn, N, hN4, hr0, g, s, q1, q2, q3.once _⟩⟩
    · unfold J_X5_aboutLine_17
      rw [if_pos q, if_pos rfl, e2', bs, nm_eq, (q3.once _).goes, bs, if_neg (q3.once _).w]
    · rw [if_pos q, if_neg n10, e1', bs]
      rfl
  · have hx := (h.law (upI lt w 1)).once (nI (m ||| 2 ^ w))
    obtain ⟨D1, M1, s1, s2, hp1⟩ := p_step hl hn hB hx
    have hLw : LawR (upI lt w 1) (nI (m ||| 2 ^ w)) := by
      refine ⟨m ||| 2 ^ w, Nat.or_lt_two_pow (n := 10) hm (Nat.pow_lt_pow_right (a := 2) (by omega) hw10), rfl, fun u hu => ?_⟩
      rw [exI_up _ hw10, Nat.testBit_or, Nat.testBit_two_pow]
      by_cases e : u = w
      · rw [if_pos e, if_pos (by simp [e])]
      · rw [if_neg e, hbit u hu]
        have : ¬ w = u := fun z => e z.symm
        simp [this]
    unfold J_X5_aboutLine_17
    rw [if_neg q, if_pos rfl, wI _ hw10 (by omega), bs, nm_eq, s1, bs, if_neg (show ¬ (0 : Int32) = 1 by decide), h.gO, lw_or m hm w hw10, nm_eq, hx.goes, s2, bs, bs, if_pos hp1.w0]
    unfold J_X5_aboutLine_67
    by_cases h5 : 5 ≤ w
    · have h5c : (5 : Int32) ≤ nI w := (nI_leI (a := 5) (by omega) (by omega)).mpr h5
      obtain ⟨l, b, b1, b2, b3, b4, b5, b6, b7⟩ := lawB w h5 hw2
      rw [if_pos h5c, if_pos h5c, b3, b4, b5, b6, bs, bs, bs, bs]
      rcases p_whole hl hn hB hp1 b1 b2 with ⟨v, M3, a1, a2, a3, a4, a5, a6⟩ | ⟨D3, M3, v, a1, a2, g, s, q1, q2, q3⟩
      · obtain ⟨D4, f1, f2⟩ := a6 (ts_laws T (upI (t_laws T) w (nI v)))
        rw [a4, a5, bs, bs, if_neg n10, hp1.gT, a3, wI _ hw10 (by omega), bs, nm_eq, f1, bs, f2.gR, wI _ (by omega) (by omega), bs, nm_eq]
        exact ⟨D4, _, rfl, Or.inl ⟨rfl, N, K, _, _, _, _, _, rn, f2.read _, hb'.law hLw hw1 hw10 (b7 v a1 a2)⟩⟩
      · rw [a1, a2, bs, bs, if_pos rfl, q3.gR, wI _ (by omega) (by omega), bs, nm_eq]
        exact ⟨D3, _, rfl, Or.inr ⟨rfl, _, _, rn, N, hN4, by rw [exI_up _ (by omega), if_neg (by omega), hr0], g, s, q1, q2, q3.read _⟩⟩
    · have h5c : ¬ (5 : Int32) ≤ nI w := by
        rw [show (5 : Int32) = nI 5 from rfl, nI_leI (by omega) (by omega)]
        exact h5
      rw [if_neg h5c, if_neg h5c, hp1.gT, wI _ hw10 (by omega), bs, nm_eq, hp1.gR, wI _ (by omega) (by omega), bs, nm_eq]
      exact ⟨_, _, rfl, Or.inl ⟨rfl, N, K, _, _, _, _, _, rn, (hp1.told _).read _, hb'.law hLw hw1 hw10 (v := 1) (by unfold lawOK; omega)⟩⟩
theorem OutP.zz {x1 : Nat} {r : Option (Int32 × DS)} {m : Option MS} (h : OutP B M n x1 r m) : OutP B M n x1 (r.bind fun q => zz q.1 <| some (q.1, q.2)) (m.bind fun q => some q) := by
  obtain ⟨D', M2', rfl, h⟩ := h
  refine ⟨D', M2', rfl, ?_⟩
  rcases h with ⟨rfl, h⟩ | ⟨rfl, h⟩
  · exact Or.inl ⟨rfl, h⟩
  · exact Or.inr ⟨rfl, h⟩
theorem p_line (hl : m_length M = nI n) (hn : n ≤ 600) (hB : ∀ k, k < n → BR (exI B k) (exI (m_tape M) k) (Y k)) (h : Pr B M n T lt o rd rn x0 D M2) (hb : TB N K c T lt o rd rn) : OutP B M n x0 (F_X0_readLine D) (F_X5_line M2) := by
  have hp := h
  have hr0 : exI rd 0 = nI N := hb.2.1.1
  have hN4 := hb.2.2.1.1.1
  obtain ⟨D1, M1, e1, e2, g, s1, q1, q2, q3⟩ := h.fail hn (g := 1) (by omega) (by omega)
  have cship := p_ship hl hn hB h hb
  have c0 : OutP B M n x0 (F_X0_readClaim D 0) (F_X5_claimLine M2 0) := p_claim hl hn hB h hb (a := 0) (by omega)
  have c1 : OutP B M n x0 (F_X0_readClaim D 1) (F_X5_claimLine M2 1) := p_claim hl hn hB h hb (a := 1) (by omega)
  have c2 : OutP B M n x0 (F_X0_readClaim D 2) (F_X5_claimLine M2 2) := p_claim hl hn hB h hb (a := 2) (by omega)
  have claw := fun w hw1 hw2 => p_law (w := w) hl hn hB h hb hw1 hw2
  obtain ⟨x, s, t, L, wl, v, Lm, vm, wm, h1, h2, h3, h4, hD, hM⟩ := h
  obtain ⟨R, hR⟩ := h4.rec
  have hfix : F_X0_fixedWord D = some R := by
    rw [hD]
    exact hR.fixed h4.1 ..
  have his : ∀ w, w < 19 → F_X5_isWord M2 (lN (nHi 0 (wdN w))) = some (if R = some w then 1 else 0) := by
    intro w hw
    rw [hM]
    exact hR.is h4.1 hw ..
  have habo : F_X5_aboutHere M2 = some (aboR R) := by
    rw [hM]
    exact hR.abo h4.1 ..
  have e1' : F_X0_fail D 1 = some (0, D1) := e1
  have e2' : F_X5_fails M2 1 = some M1 := e2
  have bad : OutP B M n x0 (J_X0_readLine_16 D) ((F_X5_fails M2 (1 : Int32)).bind fun q10 => some q10) := by
    refine ⟨D1, M1, by rw [e2', bs], Or.inr ⟨?_, o, rd, rn, N, hN4, hr0, g, s1, q1, q2, q3⟩⟩
    unfold J_X0_readLine_16
    rw [e1', bs]
    rfl
  unfold F_X0_readLine F_X5_line
  rw [hfix, bs, habo, bs, w_ship, bs, his 0 (by omega), bs, w_goods, w_persons, w_others]
  simp only [bs, his 8 (by omega), his 9 (by omega), his 10 (by omega)]
  cases hr : R with
  | none => exact bad
  | some w =>
    have hw := (hR.1 w hr).1
    rcases (show w = 0 ∨ (1 ≤ w ∧ w ≤ 7) ∨ w = 8 ∨ w = 9 ∨ w = 10 ∨ 11 ≤ w by omega) with rfl | hw' | rfl | rfl | rfl | hw'
    · exact cship.zz
    · rcases (show w = 1 ∨ w = 2 ∨ w = 3 ∨ w = 4 ∨ w = 5 ∨ w = 6 ∨ w = 7 by omega) with rfl | rfl | rfl | rfl | rfl | rfl | rfl <;> exact bad
    · exact c0.zz
    · exact c1.zz
    · exact c2.zz
    · rcases (show w = 11 ∨ w = 12 ∨ w = 13 ∨ w = 14 ∨ w = 15 ∨ w = 16 ∨ w = 17 ∨ w = 18 by omega) with rfl | rfl | rfl | rfl | rfl | rfl | rfl | rfl
      · exact (claw 2 (by omega) (by omega)).zz
      · exact (claw 3 (by omega) (by omega)).zz
      · exact (claw 4 (by omega) (by omega)).zz
      · exact (claw 5 (by omega) (by omega)).zz
      · exact (claw 6 (by omega) (by omega)).zz
      · exact (claw 7 (by omega) (by omega)).zz
      · exact (claw 8 (by omega) (by omega)).zz
      · exact (claw 9 (by omega) (by omega)).zz
end LAWL
end
section
/-! ===== level 2: all lines; a text read ===== -/
def Pre (B : Fin 600 → Int32) (M : MS) (n : Nat) (T : TS) (lt : Fin 10 → Int32) (o : Int32) (rd : Fin 82 → Int32) (rn : Fin 4 → Int64) (x0 : Nat) (D : DS) (M2 : MS) : Prop := ∃ x s0 t0 L0 wl0 v0 f1 t1 L1 v1 w1, x0 ≤ x ∧ x ≤ n ∧ D = dq B (nI n) T lt (nI x) 0 s0 t0 L0 wl0 v0 ∧ M2 = mr M (nI x) f1 t1 L1 v1 w1 0 (-1) o rd rn
def OutQ (B : Fin 600 → Int32) (M : MS) (n : Nat) (r : Option (Int32 × DS)) (m : Option MS) : Prop := ∃ D' M', m = J_X5_reads_89 M' ∧ ((r = ((F_X0_fitsTogether D').bind fun q5 => if q5 = 0 then some ((5 : Int32), D') else some ((0 : Int32), D')) ∧ ∃ N K c T lt o rd rn, Pr B M n T lt o rd rn 0 D' M' ∧ TB N K c T lt o rd rn) ∨ (∃ D9, r = some (d_found D9, D') ∧ d_start D' = d_start D9 ∧ ∃ o rd rn i, i ≤ 4 ∧ exI rd 0 = nI i ∧ Ff M o rd rn D9 M'))
section LNS
variable {B : Fin 600 → Int32} {M : MS} {n : Nat} {Y : Nat → Nat}
theorem Pr.pre {T : TS} {lt : Fin 10 → Int32} {o : Int32} {rd : Fin 82 → Int32} {rn : Fin 4 → Int64} {x0 : Nat} {D : DS} {M2 : MS} (h : Pr B M n T lt o rd rn x0 D M2) : Pre B M n T lt o rd rn x0 D M2 := by
  obtain ⟨x, s, t, L, wl, v, Lm, vm, wm, h1, h2, h3, h4, rfl, rfl⟩ := h
  exact ⟨x, _, _, L, wl, v, _, _, Lm, vm, wm, h1, h2, rfl, rfl⟩
theorem Pr.weak {T : TS} {lt : Fin 10 → Int32} {o : Int32} {rd : Fin 82 → Int32} {rn : Fin 4 → Int64} {x0 : Nat} {D : DS} {M2 : MS} (h : Pr B M n T lt o rd rn x0 D M2) : Pr B M n T lt o rd rn 0 D M2 := by
  obtain ⟨x, s, t, L, wl, v, Lm, vm, wm, h1, h2, h3, h4, rfl, rfl⟩ := h
  exact ⟨x, s, t, L, wl, v, Lm, vm, wm, Nat.zero_le _, h2, h3, h4, rfl, rfl⟩
theorem pre_step (hl : m_length M = nI n) (hn : n ≤ 600) (hB : ∀ k, k < n → BR (exI B k) (exI (m_tape M) k) (Y k)) {T : TS} {lt : Fin 10 → Int32} {o : Int32} {rd : Fin 82 → Int32} {rn : Fin 4 → Int64} {x0 : Nat} {D : DS} {M2 : MS} (h : Pre B M n T lt o rd rn x0 D M2) : ∃ D' M2', F_X0_step D = some D' ∧ F_X5_token M2 = some M2' ∧ Pr B M n T lt o rd rn x0 D' M2' ∧ (¬ d_token D' = 0 → Pr B M n T lt o rd rn (x0 + 1) D' M2') := by
  obtain ⟨x, s0, t0, L0, wl0, v0, f1, t1, L1, v1, w1, h1, h2, rfl, rfl⟩ := h
  obtain ⟨x', s', t', L', wl', v', Lm', vm', wm', g1, g2, g3, g4, g5, g6, g7⟩ := tok_step hl hn hB h2 s0 t0 L0 wl0 v0 f1 t1 L1 v1 w1
  refine ⟨_, _, g6 T lt 0, g7 0 (-1) o rd rn, ⟨x', s', t', L', wl', v', Lm', vm', wm', by omega, g2, g3, g5, rfl, rfl⟩, fun hz => ?_⟩
  have ht : t' ≠ 0 := fun q => hz (by rw [q]; rfl)
  have := g4 ht
  exact ⟨x', s', t', L', wl', v', Lm', vm', wm', by omega, g2, g3, g5, rfl, rfl⟩
theorem end_line {D : DS} {D' : DS} (h : d_token D = 0) : ¬ F_X0_readLine D = some (1, D') := by
  have e : F_X0_fixedWord D = some none := by
    unfold F_X0_fixedWord
    rw [h, if_neg (by decide)]
  have e2 : F_X0_readLine D = some (0, ds_found D 1) := by
    unfold F_X0_readLine
    rw [e, bs]
    rfl
  rw [e2]
  intro q
  have q2 : (0 : Int32) = 1 := congrArg Prod.fst (Option.some.inj q)
  exact absurd q2 (by decide)
theorem rd77 {g s : Nat} {o : Int32} {rd : Fin 82 → Int32} {rn : Fin 4 → Int64} {M2 : MS} (h : Fl M g s o rd rn M2) : J_X5_reads_77 M2 = J_X5_reads_89 M2 := by
  unfold J_X5_reads_77
  by_cases q : m_sort M2 = 0
  · rw [if_pos q]
  · rw [if_neg q, h.fails, bs]
theorem lines (hl : m_length M = nI n) (hn : n ≤ 600) (hB : ∀ k, k < n → BR (exI B k) (exI (m_tape M) k) (Y k)) (kC : DS → Option (Int32 × DS)) : ∀ (d l fu fu2 : Nat), l + d = n + 1 → d < fu → d + 1 < fu2 → ∀ (T : TS) (lt : Fin 10 → Int32) (o : Int32) (rd : Fin 82 → Int32) (rn : Fin 4 → Int64) (D : DS) (M2 : MS) (N K : Nat) (c : Nat → Nat), Pre B M n T lt o rd rn l D M2 → TB N K c T lt o rd rn → OutQ B M n (lo2 (B_X0_read_7 kC) fu D (nI l)) ((F_X5_token M2).bind fun q => lo2 (B_X5_reads_30 (fun S9 => J_X5_reads_77 S9)) fu2 q (1 : Int32)) := by
  intro d
  induction d with
  | zero =>
    intro l fu fu2 h1 h2 h3 T lt o rd rn D M2 N K c hp hb
    obtain ⟨x, s0, t0, L0, wl0, v0, f1, t1, L1, v1, w1, g1, g2, -, -⟩ := hp
    omega
  | succ d ih =>
    intro l fu fu2 h1 h2 h3 T lt o rd rn D M2 N K c hp hb
    obtain ⟨fu, rfl⟩ : ∃ f, fu = f + 1 := ⟨fu - 1, by omega⟩
    obtain ⟨fu2, rfl⟩ : ∃ f, fu2 = f + 1 + 1 := ⟨fu2 - 2, by omega⟩
    obtain ⟨D1, M1, s1, s2, hp1, hp1'⟩ := pre_step hl hn hB hp
    have hend : ¬ d_end D < nI l := by
      obtain ⟨x, s0, t0, L0, wl0, v0, f1, t1, L1, v1, w1, g1, g2, rfl, -⟩ := hp
      rw [gd_end, nI_ltI (by omega) (by omega)]
      omega
    rw [s2, bs]
    have out : OutP B M n (l + 1) (F_X0_readLine D1) (F_X5_line M1) ∨ (∃ D2 M3, F_X5_line M1 = some M3 ∧ F_X0_readLine D1 = some (0, D2) ∧ ∃ o rd rn i, i ≤ 4 ∧ exI rd 0 = nI i ∧ Ff M o rd rn D2 M3) := by
      by_cases q : d_token D1 = 0
      · obtain ⟨D2, M3, e1, e2⟩ := p_line hl hn hB hp1 hb
        rcases e2 with ⟨e2, -⟩ | ⟨e2, e3⟩
        · exact absurd e2 (end_line q)
        · exact Or.inr ⟨D2, M3, e1, e2, e3⟩
      · exact Or.inl (p_line hl hn hB (hp1' q) hb)
    have badC : ∀ (D2 : DS) (M3 : MS), F_X5_line M1 = some M3 → F_X0_readLine D1 = some (0, D2) → (∃ o rd rn i, i ≤ 4 ∧ exI rd 0 = nI i ∧ Ff M o rd rn D2 M3) → OutQ B M n (lo2 (B_X0_read_7 kC) (fu + 1) D (nI l)) (lo2 (B_X5_reads_30 (fun S9 => J_X5_reads_77 S9)) (fu2 + 1 + 1) M1 (1 : Int32)) := by
      intro D2 M3 e1 e2 e3
      obtain ⟨o', rd', rn', i, i4, hi, g, s, q1, q2, q3⟩ := e3
      have k1 : ∀ rc, B_X0_read_7 kC rc D (nI l) = some (d_found D2, D2) := by
        intro rc
        unfold B_X0_read_7
        rw [if_neg hend, s1, bs, e2, bs, if_pos rfl]
      have k2 : ∀ (k9 : MS → Option MS) rc, B_X5_reads_30 k9 rc M1 1 = rc M3 0 := by
        intro k9 rc
        unfold B_X5_reads_30 J_X5_reads_64 J_X5_reads_65
        rw [if_neg n10, if_pos hp1.w0, e1, bs, if_neg q3.w, if_pos rfl]
      have k3 : ∀ (k9 : MS → Option MS) rc, B_X5_reads_30 k9 rc M3 0 = k9 M3 := by
        intro k9 rc
        unfold B_X5_reads_30
        rw [if_pos rfl]
      refine ⟨D2, M3, ((lo2_s _ _ _ _).trans (k2 _ _)).trans (((lo2_s _ _ _ _).trans (k3 _ _)).trans (rd77 q3)), Or.inr ⟨D2, (lo2_s _ _ _ _).trans (k1 _), rfl, o', rd', rn', i, i4, hi, g, s, q1, q2, q3⟩⟩
    rcases out with ⟨D2, M3, e1, e2⟩ | ⟨D2, M3, e1, e2, e3⟩
    · rcases e2 with ⟨e2, N2, K2, c2, T2, lt2, o2, rd2, rn2, p2, b2⟩ | ⟨e2, e3⟩
      · have p2' := p2
        obtain ⟨x, s, t, L, wl, v, Lm, vm, wm, a1, a2, a3, a4, hD, hM⟩ := p2'
        have ht : d_token D2 = nI t := by rw [hD]; rfl
        have hs : m_sort M3 = nI t := by rw [hM]; rfl
        have h4 := a4.1
        by_cases t3 : t = 3
        · have k1 : ∀ rc, B_X0_read_7 kC rc D (nI l) = rc D2 (nI (l + 1)) := by
            intro rc
            unfold B_X0_read_7
            rw [if_neg hend, s1, bs, e2, bs, if_neg n10, ht, if_neg (nI_ne0 (by omega) (by omega)), if_pos (by rw [t3]; rfl), nm_eq, nI_1]
          have k2 : ∀ (k9 : MS → Option MS) rc, B_X5_reads_30 k9 rc M1 1 = (F_X5_token M3).bind fun q8 => rc q8 1 := by
            intro k9 rc
            unfold B_X5_reads_30 J_X5_reads_65
            rw [if_neg n10, if_pos hp1.w0, e1, bs, if_pos p2.w0, hs, if_pos (by rw [t3]; rfl), if_neg n10]
          have h := ih (l + 1) fu (fu2 + 1) (by omega) (by omega) (by omega) T2 lt2 o2 rd2 rn2 D2 M3 N2 K2 c2 p2.pre b2
          obtain ⟨D', M', r1, r2⟩ := h
          refine ⟨D', M', ((lo2_s _ _ _ _).trans (k2 _ _)).trans r1, ?_⟩
          rcases r2 with ⟨r2, r3⟩ | ⟨D9, r2, r3⟩
          · exact Or.inl ⟨((lo2_s _ _ _ _).trans (k1 _)).trans r2, r3⟩
          · exact Or.inr ⟨D9, ((lo2_s _ _ _ _).trans (k1 _)).trans r2, r3⟩
        · have n3 : ¬ nI t = 3 := fun q => t3 ((nI_eq (b := 3) (by omega) (by omega)).mp q)
          have k2 : ∀ (k9 : MS → Option MS) rc, B_X5_reads_30 k9 rc M1 1 = rc M3 0 := by
            intro k9 rc
            unfold B_X5_reads_30 J_X5_reads_64 J_X5_reads_65
            rw [if_neg n10, if_pos hp1.w0, e1, bs, if_pos p2.w0, hs, if_neg n3, if_pos rfl]
          have k3 : ∀ (k9 : MS → Option MS) rc, B_X5_reads_30 k9 rc M3 0 = k9 M3 := by
            intro k9 rc
            unfold B_X5_reads_30
            rw [if_pos rfl]
          by_cases t0 : t = 0
          · have k1 : ∀ rc, B_X0_read_7 kC rc D (nI l) = ((F_X0_fitsTogether D2).bind fun q5 => if q5 = 0 then some ((5 : Int32), D2) else some ((0 : Int32), D2)) := by
              intro rc
              unfold B_X0_read_7
              rw [if_neg hend, s1, bs, e2, bs, if_neg n10, ht, if_pos (by rw [t0]; rfl)]
            refine ⟨D2, M3, ((lo2_s _ _ _ _).trans (k2 _ _)).trans (((lo2_s _ _ _ _).trans (k3 _ _)).trans ?_), Or.inl ⟨(lo2_s _ _ _ _).trans (k1 _), N2, K2, c2, T2, lt2, o2, rd2, rn2, p2.weak, b2⟩⟩
            unfold J_X5_reads_77
            rw [hs, if_pos (by rw [t0]; rfl)]
          · obtain ⟨D4, M4, f1, f2, ff⟩ := p2.fail hn (g := 1) (by omega) (by omega)
            have f1' : F_X0_fail D2 1 = some (0, D4) := f1
            have f2' : F_X5_fails M3 1 = some M4 := f2
            have n0 : ¬ nI t = 0 := nI_ne0 (by omega) (by omega)
            have h4d : ds_found D2 1 = D4 := by
              unfold F_X0_fail at f1'
              rw [nm_eq] at f1'
              exact congrArg Prod.snd (Option.some.inj f1')
            have k1 : ∀ rc, B_X0_read_7 kC rc D (nI l) = some (d_found D4, D2) := by
              intro rc
              unfold B_X0_read_7
              rw [if_neg hend, s1, bs, e2, bs, if_neg n10, ht, if_neg n0, if_neg n3, ← h4d]
              rfl
            refine ⟨D2, M4, ((lo2_s _ _ _ _).trans (k2 _ _)).trans (((lo2_s _ _ _ _).trans (k3 _ _)).trans ?_), Or.inr ⟨D4, (lo2_s _ _ _ _).trans (k1 _), by rw [← h4d]; rfl, o2, rd2, rn2, N2, b2.2.2.1.1.1, b2.2.1.1, ff⟩⟩
            unfold J_X5_reads_77
            rw [hs, if_neg n0, f2', bs]
      · exact badC D2 M3 e1 e2 e3
    · exact badC D2 M3 e1 e2 e3
/-! the tenths together, and whether all fits -/
theorem ten_any {o : Int32} {rd : Fin 82 → Int32} {rn : Fin 4 → Int64} {M2 : MS} (hr : m_read M2 = rd) {i : Nat} (hi : i ≤ 4) (h0 : exI rd 0 = nI i) : ∃ r, F_X5_tenths M2 = some r := by
  have hr0 : rdI rd 0 = some (nI i) := by
    rw [show (0 : Int32) = nI 0 from rfl, rI _ (by omega) (by omega), h0]
  have key : ∀ d j fu v, j + d = i → d < fu → ∃ r, lo2 (B_X5_tenths_4 M2 (fun z5 => some z5)) fu v (nI j) = some r := by
    intro d
    induction d with
    | zero =>
      intro j fu v hj hf
      obtain ⟨fu, rfl⟩ : ∃ f, fu = f + 1 := ⟨fu - 1, by omega⟩
      refine ⟨v, (lo2_s _ _ _ _).trans ?_⟩
      unfold B_X5_tenths_4
      rw [hr, hr0, bs, if_pos (by rw [nI_leI (by omega) (by omega)]; omega)]
    | succ d ih =>
      intro j fu v hj hf
      obtain ⟨fu, rfl⟩ : ∃ f, fu = f + 1 := ⟨fu - 1, by omega⟩
      obtain ⟨r, e⟩ := ih (j + 1) fu (v + exI rd (10 + 6 * j + 1)) (by omega) (by omega)
      refine ⟨r, (lo2_s _ _ _ _).trans (Eq.trans ?_ e)⟩
      unfold B_X5_tenths_4
      rw [hr, hr0, bs, if_neg (by rw [nI_leI (by omega) (by omega)]; omega), show (10 : Int32) + (6 : Int32) * nI j + (1 : Int32) = nI (10 + 6 * j + 1) from ix6 j 1, rI _ (by omega) (by omega), bs, nm_eq, nm_eq, nI_1]
  exact key i 0 FU 0 (by omega) (by rw [FU_eq]; omega)
theorem ten_M {N K : Nat} {c : Nat → Nat} {rd : Fin 82 → Int32} {M2 : MS} (hr : m_read M2 = rd) (hR : RowR rd N K c) (hN : N ≤ 4) : F_X5_tenths M2 = some (nI (sN (fun i => c (10 + 6 * i + 1)) N)) := by
  unfold F_X5_tenths
  refine loopR (fun fu j (a : Int32) => lo2 (B_X5_tenths_4 M2 (fun z5 => some z5)) fu a (nI j)) _ N (fun j a => a = nI (sN (fun i => c (10 + 6 * i + 1)) j)) ?_ ?_ N FU 0 0 (by omega) (by rw [FU_eq]; omega) rfl
  · intro fu j a hj e
    refine ⟨_, rfl, (lo2_s _ _ _ _).trans ?_⟩
    unfold B_X5_tenths_4
    rw [hr, R0 hR, bs, if_neg (by rw [nI_leI (by omega) (by omega)]; omega), show (10 : Int32) + (6 : Int32) * nI j + (1 : Int32) = nI (10 + 6 * j + 1) from ix6 j 1, rI _ (by omega) (by omega), bs, nm_eq, nm_eq, nI_1, e, hR.2.2.2.1 j hj 1 (by omega), nI_add]
    rfl
  · intro fu a e
    refine (lo2_s _ _ _ _).trans ?_
    unfold B_X5_tenths_4
    rw [hr, R0 hR, bs, if_pos (by rw [nI_leI (by omega) (by omega)]; omega), e]
theorem ten_C {N K : Nat} {c : Nat → Nat} {T : TS} (hT : RowT T N K c) (hN : N ≤ 4) : F_X2_faultsTogether T = some (nI (sN (fun i => c (10 + 6 * i + 1)) N)) := by
  unfold F_X2_faultsTogether
  refine loopR (fun fu j (a : Int32) => lo2 (B_X2_faultsTogether_4 T (fun z4 => some z4)) fu a (nI j)) _ N (fun j a => a = nI (sN (fun i => c (10 + 6 * i + 1)) j)) ?_ ?_ N FU 0 0 (by omega) (by rw [FU_eq]; omega) rfl
  · intro fu j a hj e
    refine ⟨_, rfl, (lo2_s _ _ _ _).trans ?_⟩
    unfold B_X2_faultsTogether_4
    rw [hT.1, if_neg (by rw [nI_leI (by omega) (by omega)]; omega), X_of1 hT hN hj, bs, nm_eq, nm_eq, nI_1, e, nI_add]
    rfl
  · intro fu a e
    refine (lo2_s _ _ _ _).trans ?_
    unfold B_X2_faultsTogether_4
    rw [hT.1, if_pos (by rw [nI_leI (by omega) (by omega)]; omega), e]
end LNS
end
section
/-! ===== level 2: a text, read whole ===== -/
def cP : Nat → Nat := fun z => if z = 9 then 730 else if z = 8 then 365 else if z = 7 then 300 else if z = 6 then 200 else if z = 5 then 100 else 0
def rP (f : Fin 82 → Int32) : Fin 82 → Int32 := upI (upI (upI (upI (upI f 5 100) 6 200) 7 300) 8 365) 9 730
theorem cP_0 {z : Nat} (h : z < 5 ∨ 9 < z) : cP z = 0 := by
  unfold cP
  rw [if_neg (by omega), if_neg (by omega), if_neg (by omega), if_neg (by omega), if_neg (by omega)]
theorem rP_at {f : Fin 82 → Int32} (hf : ∀ z, z < 82 → exI f z = 0) {z : Nat} (hz : z < 82) : exI (rP f) z = nI (cP z) := by
  unfold rP
  rw [exI_up _ (by omega), exI_up _ (by omega), exI_up _ (by omega), exI_up _ (by omega), exI_up _ (by omega), hf z hz]
  by_cases q9 : z = 9
  · rw [if_pos q9, q9]
    rfl
  · rw [if_neg q9]
    by_cases q8 : z = 8
    · rw [if_pos q8, q8]
      rfl
    · rw [if_neg q8]
      by_cases q7 : z = 7
      · rw [if_pos q7, q7]
        rfl
      · rw [if_neg q7]
        by_cases q6 : z = 6
        · rw [if_pos q6, q6]
          rfl
        · rw [if_neg q6]
          by_cases q5 : z = 5
          · rw [if_pos q5, q5]
            rfl
          · rw [if_neg q5, cP_0 (by omega)]
            rfl
theorem PK0 : PK 0 0 cP := ⟨⟨by omega, by omega⟩, by decide, fun i hi => absurd hi (Nat.not_lt_zero i), fun i hi => absurd hi (Nat.not_lt_zero i)⟩
theorem un_at : ∀ w, w < 10 → exI (sAf 4) w = nI (cP w) := by decide +kernel
theorem C_clear (T : TS) : ∃ f : Fin 10 → Int32, (∀ w, w < 10 → exI f w = nI (cP w)) ∧ F_X2_clear T = some (ts_laws (ts_claims (ts_ships T 0) 0) f) := by
  refine ⟨fun j => va_cpy (exI (sAf 4)) (exI (t_laws (ts_claims (ts_ships T 0) 0))) 0 0 10 j.1, fun w hw => ?_, ?_⟩
  · rw [← un_at w hw]
    unfold exI
    rw [dif_pos hw]
    show va_cpy (exI (sAf 4)) _ 0 0 10 w = exI (sAf 4) w
    unfold va_cpy
    rw [if_pos ⟨by omega, by omega⟩]
    exact congrArg (exI (sAf 4)) (by omega)
  · unfold F_X2_clear cpI
    rw [nm_eq, nm_eq, if_pos (by decide), bs, nm_eq]
    rfl
theorem M_plain (M : MS) (x f t L v : Int32) (w : Int64) (g ga o : Int32) (rd : Fin 82 → Int32) (rn : Fin 4 → Int64) : ∃ z, (∀ k, k < 82 → exI z k = 0) ∧ F_X5_plain (mr M x f t L v w g ga o rd rn) = some (mr M x f t L v w g ga 0 (rP z) rn) := by
  obtain ⟨z, hz, e⟩ := copyL (B_X5_plain_2 (fun S4 => (wrI (m_read S4) (5 : Int32) (100 : Int32)).bind fun f5 => nm (ms_read S4 f5 : MS) fun S6 => (wrI (m_read S6) (6 : Int32) (200 : Int32)).bind fun f7 => nm (ms_read S6 f7 : MS) fun S8 => (wrI (m_read S8) (7 : Int32) (300 : Int32)).bind fun f9 => nm (ms_read S8 f9 : MS) fun S10 => (wrI (m_read S10) (8 : Int32) (365 : Int32)).bind fun f11 => nm (ms_read S10 f11 : MS) fun S12 => (wrI (m_read S12) (9 : Int32) (730 : Int32)).bind fun f13 => nm (ms_read S12 f13 : MS) fun S14 => nm (ms_toldOnce S14 (0 : Int32) : MS) fun S15 => some S15)) (fun r => mr M x f t L v w g ga o r rn) (fun S4 => (wrI (m_read S4) (5 : Int32) (100 : Int32)).bind fun f5 => nm (ms_read S4 f5 : MS) fun S6 => (wrI (m_read S6) (6 : Int32) (200 : Int32)).bind fun f7 => nm (ms_read S6 f7 : MS) fun S8 => (wrI (m_read S8) (7 : Int32) (300 : Int32)).bind fun f9 => nm (ms_read S8 f9 : MS) fun S10 => (wrI (m_read S10) (8 : Int32) (365 : Int32)).bind fun f11 => nm (ms_read S10 f11 : MS) fun S12 => (wrI (m_read S12) (9 : Int32) (730 : Int32)).bind fun f13 => nm (ms_read S12 f13 : MS) fun S14 => nm (ms_toldOnce S14 (0 : Int32) : MS) fun S15 => some S15) 0 0 82 (fun _ => 0) (by omega) (by omega) rd (by
    intro rc r i hi hI
    unfold B_X5_plain_2
    rw [show (82 : Int32) = nI 82 from rfl, if_neg (by rw [nI_leI (by omega) (by omega)]; omega), gm_read, wI _ (by omega) (by omega), bs, nm_eq, um_read, nm_eq, nI_1]) (by
    intro rc r hI
    have key : ∀ (k9 : MS → Option MS) S2, B_X5_plain_2 k9 rc S2 (nI (0 + 82)) = k9 S2 := by
      intro k9 S2
      unfold B_X5_plain_2
      rw [if_pos (by decide)]
    exact key _ _)
  refine ⟨z, fun k hk => by rw [hz k hk, if_pos (by omega)], ?_⟩
  unfold F_X5_plain
  refine (show lo2 _ FU (mr M x f t L v w g ga o rd rn) (0 : Int32) = _ from e).trans ?_
  rw [gm_read, show (5 : Int32) = nI 5 from rfl, wI _ (by omega) (by omega), bs, nm_eq, um_read, gm_read, show (6 : Int32) = nI 6 from rfl, wI _ (by omega) (by omega), bs, nm_eq, um_read, gm_read, show (7 : Int32) = nI 7 from rfl, wI _ (by omega) (by omega), bs, nm_eq, um_read, gm_read, show (8 : Int32) = nI 8 from rfl, wI _ (by omega) (by omega), bs, nm_eq, um_read, gm_read, show (9 : Int32) = nI 9 from rfl, wI _ (by omega) (by omega), bs, nm_eq, um_read, nm_eq, um_toldOnce]
  rfl
section TXT
variable {B : Fin 600 → Int32} {M : MS} {n : Nat} {Y : Nat → Nat}
theorem TB0 {T : TS} {f l0 : Fin 10 → Int32} {z : Fin 82 → Int32} (hf : ∀ w, w < 10 → exI f w = nI (cP w)) (hz : ∀ k, k < 82 → exI z k = 0) (hl0 : ∀ w, w < 10 → exI l0 w = 0) (rn : Fin 4 → Int64) : TB 0 0 cP (ts_laws (ts_claims (ts_ships T 0) 0) f) l0 0 (rP z) rn := by
  refine ⟨⟨rfl, rfl, fun w _ hw => hf w hw, fun i hi => absurd hi (Nat.not_lt_zero i), fun i hi => absurd hi (Nat.not_lt_zero i)⟩, ⟨rP_at hz (by omega), rP_at hz (by omega), fun w _ hw => rP_at hz (by omega), fun i hi => absurd hi (Nat.not_lt_zero i), fun i hi => absurd hi (Nat.not_lt_zero i)⟩, PK0, fun i hi => absurd hi (Nat.not_lt_zero i), ?_, 0, by omega, rfl, fun w hw => ?_⟩
  · intro i _ hi w hw
    rw [rP_at hz (by omega), cP_0 (by omega)]
    rfl
  · rw [hl0 w hw, Nat.zero_testBit]
    rfl
theorem fl_89 {g s : Nat} {o : Int32} {rd : Fin 82 → Int32} {rn : Fin 4 → Int64} {M2 : MS} (h : Fl M g s o rd rn M2) {i : Nat} (hi : i ≤ 4) (h0 : exI rd 0 = nI i) : J_X5_reads_89 M2 = some M2 := by
  have hr0 : rdI rd 0 = some (nI i) := by
    rw [show (0 : Int32) = nI 0 from rfl, rI _ (by omega) (by omega), h0]
  have h125 : J_X5_reads_125 M2 = some M2 := by
    unfold J_X5_reads_125
    rw [h.fails, bs]
  obtain ⟨r, er⟩ := ten_any (o := o) (rn := rn) h.gR hi h0
  unfold J_X5_reads_89
  rw [h125, h.gR, hr0, bs, er, bs]
  by_cases q1 : nI i < 2
  · rw [if_pos q1]
  · rw [if_neg q1]
    by_cases q2 : r = 10
    · rw [if_pos q2, show (9 : Int32) = nI 9 from rfl, rI _ (by omega) (by omega), bs, show (8 : Int32) = nI 8 from rfl, rI _ (by omega) (by omega), bs]
      split <;> rfl
    · rw [if_neg q2]
/-- what a text comes to -/
def ReadR (M : MS) (D' : DS) (M' : MS) (fa : Nat) : Prop := (fa = 0 ∧ m_wrong M' = 0 ∧ ∃ N K c, RowT (d_told D') N K c ∧ RowR (m_read M') N K c ∧ OKc N K c ∧ ∀ i, i < N → NmR (exL (t_names (d_told D')) i) (exL (m_readNames M') i)) ∨ (0 < fa ∧ fa < 8 ∧ m_wrong M' = nI fa ∧ d_start D' = m_wrongAt M')
theorem read_end (hn : n ≤ 600) {r : Option (Int32 × DS)} {m : Option MS} (h : OutQ B M n r m) : ∃ fa D' M', r = some (nI fa, D') ∧ m = some M' ∧ (∃ x f t L v w g ga o rd rn, M' = mr M x f t L v w g ga o rd rn) ∧ ReadR M D' M' fa := by
  obtain ⟨D', M', rfl, h⟩ := h
  rcases h with ⟨rfl, N, K, c, T, lt, o, rd, rn, hp, hT, hR, hP, hNm, hZ, hL⟩ | ⟨D9, rfl, hst, o, rd, rn, i, i4, hi, g, s, q1, q2, q3⟩
  · have hN4 := hP.1.1
    obtain ⟨D5, M5, f1, f2, g, s, q1, q2, q3⟩ := hp.fail hn (g := 5) (by omega) (by omega)
    have f1' : F_X0_fail D' 5 = some (0, D5) := f1
    have f2' : F_X5_fails M' 5 = some M5 := f2
    have h5d : ds_found D' 5 = D5 := by
      have h2 := f1'
      unfold F_X0_fail at h2
      rw [nm_eq] at h2
      exact congrArg Prod.snd (Option.some.inj h2)
    have hg : g = 5 := by
      have e : d_found D5 = nI 5 := by
        rw [← h5d]
        rfl
      exact (nI_eq (by have := q3.2.1; omega) (by omega)).mp (q1.symm.trans e)
    subst hg
    have h125 : J_X5_reads_125 M' = some M5 := by
      unfold J_X5_reads_125
      rw [f2', bs]
    have bad : ∀ fit : Option Int32, fit = some 0 → F_X0_fitsTogether D' = fit → J_X5_reads_89 M' = some M5 → ∃ fa D'' M'', ((F_X0_fitsTogether D').bind fun q5 => if q5 = 0 then some ((5 : Int32), D') else some ((0 : Int32), D')) = some (nI fa, D'') ∧ J_X5_reads_89 M' = some M'' ∧ (∃ x f t L v w g ga o rd rn, M'' = mr M x f t L v w g ga o rd rn) ∧ ReadR M D'' M'' fa := by
      intro fit e1 e2 e3
      obtain ⟨y1, y2, y3, x, f, t, L, v, w, rfl⟩ := q3
      refine ⟨5, D', _, ?_, e3, ⟨x, f, t, L, v, w, _, _, o, rd, rn, rfl⟩, Or.inr ⟨by omega, by omega, rfl, ?_⟩⟩
      · rw [e2, e1, bs, if_pos rfl]
        rfl
      · rw [← h5d] at q2
        exact q2
    have hr0 : rdI rd 0 = some (nI N) := R0 hR
    have hs40 : sN (fun i => c (10 + 6 * i + 1)) N ≤ N * 10 := sN_bd fun k hk => (hP.2.2.1 k hk).2.2.1
    have hl8 := hP.2.1
    have g8 : rdI rd 8 = some (nI (c 8)) := Rw hR (w := 8) (by decide) (by decide)
    have g9 : rdI rd 9 = some (nI (c 9)) := Rw hR (w := 9) (by decide) (by decide)
    have t8 : rdI (t_laws T) 8 = some (nI (c 8)) := C_law hT (w := 8) (by decide) (by decide)
    have t9 : rdI (t_laws T) 9 = some (nI (c 9)) := C_law hT (w := 9) (by decide) (by decide)
    by_cases a1 : N < 2
    · have a1' : nI N < (2 : Int32) := (nI_ltI (b := 2) (by omega) (by omega)).mpr a1
      refine bad _ rfl ?_ ?_
      · unfold F_X0_fitsTogether
        rw [hp.gT, hT.1, if_pos a1']
      · unfold J_X5_reads_89
        rw [hp.gR, hr0, bs, if_pos a1', h125]
    · have a1' : ¬ nI N < (2 : Int32) := by
        rw [show (2 : Int32) = nI 2 from rfl, nI_ltI (by omega) (by omega)]
        exact a1
      by_cases a2 : sN (fun i => c (10 + 6 * i + 1)) N = 10
      · have a2' : nI (sN (fun i => c (10 + 6 * i + 1)) N) = (10 : Int32) := by rw [a2]; rfl
        by_cases a3 : c 8 ≤ c 9
        · have hO : OKc N K c := ⟨⟨by omega, hP.1.1, hP.1.2⟩, ⟨hl8.1, hl8.2.1, hl8.2.2.1, hl8.2.2.2.1, hl8.2.2.2.2.1, hl8.2.2.2.2.2.1, hl8.2.2.2.2.2.2.1, a3, hl8.2.2.2.2.2.2.2.2⟩, hP.2.2.1, a2, hP.2.2.2⟩
          have hfit : F_X0_fitsTogether D' = some 1 := by
            unfold F_X0_fitsTogether
            rw [hp.gT, hT.1, if_neg a1', ten_C hT hN4, bs, if_pos a2', t9, bs, t8, bs, if_neg (by rw [nI_ltI (by omega) (by omega)]; omega)]
          refine ⟨0, D', M', ?_, ?_, ?_, Or.inl ⟨rfl, hp.w0, N, K, c, ?_, ?_, hO, ?_⟩⟩
          · rw [hfit, bs, if_neg n10]
            rfl
          · unfold J_X5_reads_89
            rw [hp.gR, hr0, bs, if_neg a1', ten_M hp.gR hR hN4, bs, if_pos a2', g9, bs, g8, bs, if_pos ((nI_leI (by omega) (by omega)).mpr a3)]
          · obtain ⟨x, s, t, L, wl, v, Lm, vm, wm, -, -, -, -, -, rfl⟩ := hp
            exact ⟨_, _, _, _, _, _, _, _, _, _, _, rfl⟩
          · rw [hp.gT]
            exact hT
          · rw [hp.gR]
            exact hR
          · rw [hp.gT, hp.gN]
            exact hNm
        · refine bad _ rfl ?_ ?_
          · unfold F_X0_fitsTogether
            rw [hp.gT, hT.1, if_neg a1', ten_C hT hN4, bs, if_pos a2', t9, bs, t8, bs, if_pos (by rw [nI_ltI (by omega) (by omega)]; omega)]
          · unfold J_X5_reads_89
            rw [hp.gR, hr0, bs, if_neg a1', ten_M hp.gR hR hN4, bs, if_pos a2', g9, bs, g8, bs, if_neg (by rw [nI_leI (by omega) (by omega)]; omega), h125]
      · have a2' : ¬ nI (sN (fun i => c (10 + 6 * i + 1)) N) = (10 : Int32) := fun q => a2 ((nI_eq (b := 10) (by omega) (by omega)).mp q)
        refine bad _ rfl ?_ ?_
        · unfold F_X0_fitsTogether
          rw [hp.gT, hT.1, if_neg a1', ten_C hT hN4, bs, if_neg a2']
        · unfold J_X5_reads_89
          rw [hp.gR, hr0, bs, if_neg a1', ten_M hp.gR hR hN4, bs, if_neg a2', h125]
  · have e89 := fl_89 q3 i4 hi
    obtain ⟨y1, y2, y3, x, f, t, L, v, w, rfl⟩ := q3
    refine ⟨g, D', _, ?_, e89, ⟨x, f, t, L, v, w, _, _, o, rd, rn, rfl⟩, Or.inr ⟨y1, y2, rfl, hst.trans q2⟩⟩
    rw [q1]
/-- both sides read the first n bytes -/
theorem R_read (D : DS) (S : MS) (hn : n ≤ 600) (hB : ∀ k, k < n → BR (exI (d_bytes D) k) (exI (m_tape S) k) (Y k)) : ∃ fa D' M', F_X0_read D (nI n) = some (nI fa, D') ∧ F_X5_reads S (nI n) = some M' ∧ (∃ x f t L v w g ga o rd rn, M' = mr (ms_length S (nI n)) x f t L v w g ga o rd rn) ∧ ReadR (ms_length S (nI n)) D' M' fa := by
  obtain ⟨M, hM⟩ : ∃ M, M = ms_length S (nI n) := ⟨_, rfl⟩
  have hl : m_length M = nI n := by rw [hM]; rfl
  have ht : m_tape M = m_tape S := by rw [hM]; rfl
  obtain ⟨B, T, lt, e, x, fo, s, t, L, wl, v⟩ := D
  have hB2 : ∀ k, k < n → BR (exI B k) (exI (m_tape M) k) (Y k) := by
    rw [ht]
    exact hB
  obtain ⟨f, hf, ec⟩ := C_clear T
  obtain ⟨l0, h0, el⟩ := copyL (B_X0_begin_24 (fun S9 => some S9)) (fun lt => dq B (nI n) (ts_laws (ts_claims (ts_ships T 0) 0) f) lt 0 0 s t L wl v) (fun S9 => some S9) 0 0 10 (fun _ => 0) (by omega) (by omega) lt (by
    intro rc r i hi hI
    unfold B_X0_begin_24
    rw [show (10 : Int32) = nI 10 from rfl, if_neg (by rw [nI_leI (by omega) (by omega)]; omega), gd_lawTold, wI _ (by omega) (by omega), bs, nm_eq, ud_lawTold, nm_eq, nI_1]) (by
    intro rc r hI
    have key : ∀ (k9 : DS → Option DS) S2, B_X0_begin_24 k9 rc S2 (nI (0 + 10)) = k9 S2 := by
      intro k9 S2
      unfold B_X0_begin_24
      rw [if_pos (by decide)]
    exact key _ _)
  have h0' : ∀ w, w < 10 → exI l0 w = 0 := fun w hw => by rw [h0 w hw, if_pos (by omega)]
  obtain ⟨z, hz, ep⟩ := M_plain M 0 (m_from M) (m_sort M) (m_many M) (m_number M) (m_word M) 0 (-1) (m_toldOnce M) (m_read M) (m_readNames M)
  have hq := lines hl hn hB2 (fun S6 => some ((1 : Int32), S6)) (n + 1) 0 FU FU (by omega) (by rw [FU_eq]; omega) (by rw [FU_eq]; omega) (ts_laws (ts_claims (ts_ships T 0) 0) f) l0 0 (rP z) (m_readNames M) (dq B (nI n) (ts_laws (ts_claims (ts_ships T 0) 0) f) l0 0 0 s t L wl v) (mr M 0 (m_from M) (m_sort M) (m_many M) (m_number M) (m_word M) 0 (-1) 0 (rP z) (m_readNames M)) 0 0 cP ⟨0, s, t, L, wl, v, _, _, _, _, _, Nat.le_refl _, Nat.zero_le _, rfl, rfl⟩ (TB0 hf hz h0' _)
  obtain ⟨fa, D', M', r1, r2, r3, r4⟩ := read_end hn hq
  refine ⟨fa, D', M', ?_, ?_, ?_, ?_⟩
  · unfold F_X0_read F_X0_begin
    have a1 : ds_end (B, T, lt, e, x, fo, s, t, L, wl, v) (nI n) = dq B (nI n) T lt x fo s t L wl v := rfl
    rw [nm_eq, a1, nm_eq, ud_next, nm_eq, ud_found, gd_told, ec, bs, nm_eq, ud_told]
    rw [show lo2 (B_X0_begin_24 (fun S9 => some S9)) FU (dq B (nI n) (ts_laws (ts_claims (ts_ships T 0) 0) f) lt 0 0 s t L wl v) (0 : Int32) = some (dq B (nI n) (ts_laws (ts_claims (ts_ships T 0) 0) f) l0 0 0 s t L wl v) from el, bs]
    exact r1
  · unfold F_X5_reads
    have a1 : ms_next M 0 = mr M 0 (m_from M) (m_sort M) (m_many M) (m_number M) (m_word M) (m_wrong M) (m_wrongAt M) (m_toldOnce M) (m_read M) (m_readNames M) := um_next M (m_next M) (m_from M) (m_sort M) (m_many M) (m_number M) (m_word M) (m_wrong M) (m_wrongAt M) (m_toldOnce M) (m_read M) (m_readNames M) 0
    rw [nm_eq, ← hM, nm_eq, a1, nm_eq, um_wrong, nm_eq, um_wrongAt, ep, bs]
    exact r2
  · rw [← hM]
    exact r3
  · rw [← hM]
    exact r4
end TXT
end
section
/-! ===== level 2: text ===== -/
theorem copyLL {β σ : Type} {n : Nat} (B : (σ → Int32 → Option β) → σ → Int32 → Option β) (mk : (Fin n → Int64) → σ) (k9 : σ → Option β) (src : Nat → Int64) (hn : n < 900) (f0 : Fin n → Int64)
    (h1 : ∀ rc f i, i < n → B rc (mk f) (nI i) = rc (mk (upL f i (src i))) (nI (i + 1)))
    (h3 : ∀ rc f, B rc (mk f) (nI n) = k9 (mk f)) :
    ∃ f2, (∀ z, z < n → exL f2 z = src z) ∧ lo2 B FU (mk f0) 0 = k9 (mk f2) := by
  obtain ⟨f2, h, e⟩ := loopE (fun fu i (f : Fin n → Int64) => lo2 B fu (mk f) (nI i)) (fun f => k9 (mk f)) n (fun i f => ∀ z, z < i → exL f z = src z) (by
    intro fu i f hi hI
    refine ⟨upL f i (src i), fun z hz => ?_, (lo2_s _ _ _ _).trans (h1 _ f i hi)⟩
    rw [exL_up _ hi]
    by_cases q : z = i
    · rw [if_pos q, q]
    · rw [if_neg q, hI z (by omega)]) (by
    intro fu f hI
    exact (lo2_s _ _ _ _).trans (h3 _ f)) n FU 0 f0 (by omega) (by rw [FU_eq]; omega) (fun z hz => absurd hz (Nat.not_lt_zero z))
  exact ⟨f2, h, e⟩
section MVS
variable (M : MS) (v : Int32)
theorem mv_len : mv (ms_length M v) = mv M := rfl
theorem mv_tpd : mv (ms_taped M v) = (m_fault M, m_told M, m_s M, m_past M, m_acts M, m_kept M, m_isKept M, m_names M, m_tape M, v) := rfl
theorem tr_len : m_trouble (ms_length M v) = m_trouble M := rfl
theorem tr_tpd : m_trouble (ms_taped M v) = m_trouble M := rfl
theorem pl_len : m_place (ms_length M v) = m_place M := rfl
theorem pl_tpd : m_place (ms_taped M v) = m_place M := rfl
end MVS
theorem tr_mr (M : MS) (x f t L v : Int32) (w : Int64) (g ga o : Int32) (rd : Fin 82 → Int32) (rn : Fin 4 → Int64) : m_trouble (mr M x f t L v w g ga o rd rn) = m_trouble M := rfl
theorem pl_mr (M : MS) (x f t L v : Int32) (w : Int64) (g ga o : Int32) (rd : Fin 82 → Int32) (rn : Fin 4 → Int64) : m_place (mr M x f t L v w g ga o rd rn) = m_place M := rfl
section TOK2
variable (X : MS) (f f2 : Fin 82 → Int32) (g g2 : Fin 4 → Int64) (b b2 : Fin 2 → Int32)
theorem ts_rd : m_read (ms_s X f) = m_read X := rfl
theorem ts_s : m_s (ms_s X f) = f := rfl
theorem ts_ss : ms_s (ms_s X f) f2 = ms_s X f2 := rfl
theorem tn_rn : m_readNames (ms_names X g) = m_readNames X := rfl
theorem tn_n : m_names (ms_names X g) = g := rfl
theorem tn_nn : ms_names (ms_names X g) g2 = ms_names X g2 := rfl
theorem tn_rs : m_readNames (ms_s X f) = m_readNames X := rfl
theorem tk_b : m_isKept (ms_isKept X b) = b := rfl
theorem tk_bb : ms_isKept (ms_isKept X b) b2 = ms_isKept X b2 := rfl
end TOK2
theorem M_textOK (X : MS) (h : m_trouble X = 0) : ∃ b : Fin 2 → Int32, (∀ m, m < 2 → exI b m = 0) ∧ J_X5_text_64 X 0 = some (exI (m_read X) 0, ms_isKept (ms_acts (ms_told (ms_names (ms_s X (m_read X)) (m_readNames X)) 1) 0) b) := by
  obtain ⟨K1, hK1⟩ : ∃ K1 : MS → Option (Int32 × MS), K1 = fun S17 => nm (ms_told S17 (1 : Int32) : MS) fun S18 => nm (ms_acts S18 (0 : Int32) : MS) fun S19 => (wrI (m_isKept S19) (0 : Int32) (0 : Int32)).bind fun f20 => nm (ms_isKept S19 f20 : MS) fun S21 => (wrI (m_isKept S21) (1 : Int32) (0 : Int32)).bind fun f22 => nm (ms_isKept S21 f22 : MS) fun S23 => (rdI (m_s S23) (0 : Int32)).bind fun v24 => some (v24, S23) := ⟨_, rfl⟩
  obtain ⟨f, hf, e1⟩ := copyL (B_X5_text_83 (fun S12 => lo2 (B_X5_text_109 K1) FU S12 (0 : Int32))) (fun f => ms_s X f) (fun S12 => lo2 (B_X5_text_109 K1) FU S12 (0 : Int32)) 0 0 82 (exI (m_read X)) (by omega) (by omega) (m_s X) (by
    intro rc f i hi hI
    unfold B_X5_text_83
    rw [show (82 : Int32) = nI 82 from rfl, if_neg (by rw [nI_leI (by omega) (by omega)]; omega), ts_rd, show 0 + i = i by omega, rI _ (by omega) (by omega), bs, ts_s, wI _ (by omega) (by omega), bs, nm_eq, ts_ss, nm_eq, nI_1]) (by
    intro rc f hI
    have key : ∀ (k9 : MS → Option (Int32 × MS)) S2, B_X5_text_83 k9 rc S2 (nI (0 + 82)) = k9 S2 := by
      intro k9 S2
      unfold B_X5_text_83
      rw [if_pos (by decide)]
    exact key _ _)
  have hfr : f = m_read X := ext_I fun z hz => by
    rw [hf z hz, if_pos (by omega)]
    rfl
  obtain ⟨g, hg, e2⟩ := copyLL (B_X5_text_109 K1) (fun g => ms_names (ms_s X (m_read X)) g) K1 (exL (m_readNames X)) (by omega) (m_names (ms_s X (m_read X))) (by
    intro rc f i hi
    unfold B_X5_text_109
    rw [show (4 : Int32) = nI 4 from rfl, if_neg (by rw [nI_leI (by omega) (by omega)]; omega), tn_rn, tn_rs, rL _ (by omega) (by omega), bs, tn_n, wL _ (by omega) (by omega), bs, nm_eq, tn_nn, nm_eq, nI_1]) (by
    intro rc f
    unfold B_X5_text_109
    rw [if_pos (by decide)])
  have hgr : g = m_readNames X := ext_L fun z hz => hg z hz
  have e2' : lo2 (B_X5_text_109 K1) FU (ms_s X (m_read X)) (0 : Int32) = K1 (ms_names (ms_s X (m_read X)) g) := e2
  refine ⟨upI (upI (m_isKept X) 0 0) 1 0, fun m hm => ?_, ?_⟩
  · rw [exI_up _ (by omega), exI_up _ (by omega)]
    by_cases q : m = 1
    · rw [if_pos q]
    · rw [if_neg q, if_pos (by omega)]
  · unfold J_X5_text_64
    rw [M_ref0 h, bs, if_pos rfl]
    rw [← hK1]
    refine (show lo2 _ FU X (0 : Int32) = _ from e1).trans ?_
    rw [hfr, e2', hK1, hgr]
    show nm _ _ = _
    rw [nm_eq, nm_eq]
    have k0 : m_isKept (ms_acts (ms_told (ms_names (ms_s X (m_read X)) (m_readNames X)) 1) 0) = m_isKept X := rfl
    have k1 : ∀ Z b, m_s (ms_isKept Z b) = m_s Z := fun Z b => rfl
    have k2 : m_s (ms_acts (ms_told (ms_names (ms_s X (m_read X)) (m_readNames X)) 1) 0) = m_read X := rfl
    rw [k0, show (0 : Int32) = nI 0 from rfl, wI _ (by omega) (by omega), bs, nm_eq, tk_b, show (1 : Int32) = nI 1 from rfl, wI _ (by omega) (by omega), bs, nm_eq, tk_bb, k1]
    have k2' : m_s (ms_acts (ms_told (ms_names (ms_s X (m_read X)) (m_readNames X)) (nI 1)) (nI 0)) = m_read X := k2
    rw [k2', rI _ (by omega) (by omega), bs]
section TXA
variable {S : XS} {M : MS}
theorem A_textAct (hr : Rel S M) (x : Int32) : StepR (F_X4_text S x) (F_X5_text M x) := by
  obtain ⟨hr1, ⟨t, ht, h1, h2, hb⟩, hr3, hr4, hr5⟩ := hr
  have hr' : Rel S M := ⟨hr1, ⟨t, ht, h1, h2, hb⟩, hr3, hr4, hr5⟩
  have h2' : m_taped (mB M) = nI t := h2
  unfold F_X4_text F_X5_text J_X5_text_24
  rw [M_begins, bs, h1, h2', show F_X5_in x.toInt64 0 (nI t).toInt64 = F_X4_within x 0 (nI t) from M_in x (nI t)]
  rcases W_cases x (b := t) (by omega) with e | ⟨e, n, hn, rfl⟩
  · refine AskR.step (S := S) (M := M) ?_ hr'
    rw [e, bs, bs, if_pos rfl, if_pos rfl, X_none, bs, M_ref1 (mB_tr M) (by decide), bs, if_neg n10]
    exact ask_no _ _
  · rw [e, bs, bs, if_neg n10, if_neg n10, M_ref0 (mB_tr M), bs, if_pos rfl, nm_eq, nm_eq]
    have hrd : x_reader (xs_tapeLength S 0) = x_reader S := rfl
    have hY : ∃ Y : Nat → Nat, ∀ k, k < n → BR (exI (d_bytes (x_reader S)) k) (exI (m_tape (ms_taped (mB M) 0)) k) (Y k) := by
      have hq : ∀ k, ∃ y, k < n → BR (exI (d_bytes (x_reader S)) k) (exI (m_tape (ms_taped (mB M) 0)) k) y := by
        intro k
        by_cases q : k < n
        · obtain ⟨y, hy⟩ := (hb k (by omega)).br
          exact ⟨y, fun _ => hy⟩
        · exact ⟨0, fun q2 => absurd q2 q⟩
      exact ⟨fun k => (hq k).choose, fun k => (hq k).choose_spec⟩
    obtain ⟨Y, hY⟩ := hY
    obtain ⟨fa, D', M', r1, r2, ⟨x1, f1, t1, L1, v1, w1, g1, ga1, o1, rd1, rn1, rM⟩, r4⟩ := R_read (x_reader S) (ms_taped (mB M) 0) (by omega) hY
    have hmv : mv M' = (m_fault M, m_told M, m_s M, m_past M, m_acts M, m_kept M, m_isKept M, m_names M, m_tape M, 0) := by
      rw [rM, mr_v, mv_len, mv_tpd]
      rfl
    have htr : m_trouble M' = 0 := by
      rw [rM, tr_mr, tr_len, tr_tpd]
      rfl
    have hpl : m_place M' = -1 := by
      rw [rM, pl_mr, pl_len, pl_tpd]
      rfl
    simp only [mv, Prod.mk.injEq] at hmv
    obtain ⟨m1, m2, m3, m4, m5, m6, m7, m8, m9, m10⟩ := hmv
    rw [hrd, r1, r2, bs, bs, nm_eq, nm_eq, nm_eq, nm_eq, nm_eq]
    have hlf : x_latestFault (xs_latestFault (xs_reader (xs_tapeLength S 0) D') (nI fa)) = nI fa := rfl
    have hwr : m_wrong (ms_fault M' (m_wrong M')) = m_wrong M' := rfl
    have htr6 : m_trouble (ms_fault M' (m_wrong M')) = 0 := htr
    rw [hlf, hwr]
    rcases r4 with ⟨rfl, hw, N, K, c, hT, hR, hO, hNm⟩ | ⟨p1, p2, hw, hs⟩
    · rw [if_pos nI_0, if_pos hw]
      obtain ⟨b, hb2, em⟩ := M_textOK (ms_fault M' (m_wrong M')) htr6
      rw [em]
      have hf : ∀ Z : XS, F_X4_forgetActs Z = some (xs_nextAct (xs_undoable Z 0) 0) := fun Z => rfl
      rw [X_accept, bs, C_copy, bs, nm_eq, hf, bs]
      obtain ⟨Z, hZ⟩ : ∃ Z, Z = xs_nextAct (xs_undoable (xs_now (xT (xs_latestFault (xs_reader (xs_tapeLength S 0) D') (nI 0)) 0) (d_told (x_reader (xT (xs_latestFault (xs_reader (xs_tapeLength S 0) D') (nI 0)) 0)))) 0) 0 := ⟨_, rfl⟩
      rw [← hZ]
      obtain ⟨f, hf2, ef⟩ := copyL (B_X4_text_84 (fun S13 => some (t_ships (x_now S13), S13))) (fun f => xs_kept Z f) (fun S13 => some (t_ships (x_now S13), S13)) 0 0 2 (fun _ => 0) (by omega) (by omega) (x_kept Z) (by
        intro rc f i hi hI
        have a1 : x_kept (xs_kept Z f) = f := rfl
        have a2 : ∀ g, xs_kept (xs_kept Z f) g = xs_kept Z g := fun g => rfl
        unfold B_X4_text_84
        rw [show (2 : Int32) = nI 2 from rfl, if_neg (by rw [nI_leI (by omega) (by omega)]; omega), a1, wI _ (by omega) (by omega), bs, nm_eq, a2, nm_eq, nI_1]) (by
        intro rc f hI
        unfold B_X4_text_84
        rw [if_pos (by decide)])
      have ef' : lo2 (B_X4_text_84 (fun S13 => some (t_ships (x_now S13), S13))) FU Z (0 : Int32) = _ := ef
      rw [ef']
      have hnow : x_now (xs_kept Z f) = d_told D' := by rw [hZ]; rfl
      have hred : m_read (ms_fault M' (m_wrong M')) = m_read M' := rfl
      have hrn : m_readNames (ms_fault M' (m_wrong M')) = m_readNames M' := rfl
      rw [hnow, hT.1, hred, hR.1, hrn]
      refine ⟨_, _, _, rfl, rfl, ?_⟩
      · refine ⟨⟨?_, ?_, ?_⟩, ⟨0, by omega, ?_, ?_, fun k hk => absurd hk (Nat.not_lt_zero k)⟩, Or.inr ⟨?_, ?_⟩, ⟨0, 0, ?_, ?_, ?_, by omega, by omega, fun q hq => absurd hq (Nat.not_lt_zero q)⟩, fun m hm => ⟨?_, fun hk => ?_⟩⟩
        · show x_latestTrouble (xs_kept Z f) = m_trouble M'
          rw [htr, hZ]
          rfl
        · show x_latestPlace (xs_kept Z f) = m_place M'
          rw [hpl, hZ]
          rfl
        · show x_latestFault (xs_kept Z f) = m_wrong M'
          rw [hw, hZ]
          rfl
        · rw [hZ]
          rfl
        · show m_taped M' = nI 0
          exact m10
        · show (1 : Int32) ≠ 0
          decide
        · show CaseR (x_now (xs_kept Z f)) (m_read M') (m_readNames M')
          rw [hnow]
          exact ⟨N, K, c, hT, hR, hO, hNm⟩
        · rw [hZ]
          rfl
        · rfl
        · rw [hZ]
          rfl
        · show exI f m = exI b m
          rw [hf2 m hm, if_pos (by omega), hb2 m hm]
        · exfalso
          have hk2 : exI f m ≠ 0 := hk
          rw [hf2 m hm, if_pos (by omega)] at hk2
          exact hk2 rfl
    · have hne : ¬ nI fa = 0 := nI_ne0 p1 (by omega)
      rw [if_neg hne, if_neg (by rw [hw]; exact hne)]
      unfold J_X5_text_64
      rw [M_ref1 htr6 (by decide), bs, if_neg n10, nm_eq]
      refine ⟨_, _, _, rfl, rfl, ⟨rfl, ?_, ?_⟩, ⟨0, by omega, rfl, m10, fun k hk => absurd hk (Nat.not_lt_zero k)⟩, ?_, ?_, ?_⟩
      · exact hs
      · exact hw.symm
      · show NowR (x_now S) (m_told M') (m_s M') (m_names M')
        rw [m2, m3, m8]
        exact hr3
      · obtain ⟨A, P, u1, u2, u3, u4⟩ := hr4
        refine ⟨A, P, u1, ?_, u3, ?_⟩
        · show m_acts M' = nI A
          rw [m5]
          exact u2
        · show RingR (x_earlier S) P A (m_past M') (m_names M')
          rw [m4, m8]
          exact u4
      · intro m hm
        show exI (x_kept S) m = exI (m_isKept M') m ∧ (exI (x_kept S) m ≠ 0 → m_told M' ≠ 0 ∧ CaseR (x_images S ⟨m, hm⟩) (rowK (m_kept M') m) (m_names M'))
        rw [m7, m2, m6, m8]
        exact hr5 m hm
end TXA
end
section
/-! ===== level 2: letter ===== -/
def L_X4 (S : XS) (x1 x2 : Int32) : Option (Option Int32) :=
  (F_X4_hasShip S x1).bind fun q1 => if q1 = 0 then some none else
  (F_X4_within x2 (0 : Int32) (5 : Int32)).bind fun q2 => if q2 = 0 then some none else
  (rdL (t_names (x_now S)) x1).bind fun v3 => nm (((v3 >>> (((5 : Int32) * x2).toInt64 &&& 63)).toInt32 &&& (31 : Int32)) : Int32) fun v4 =>
  if v4 = 0 then some none else some (some (v4 - (1 : Int32)))
theorem sar64 (x n : Int64) {k : Nat} (hn : (n.toBitVec.smod 64).toNat = k) : (x >>> n).toInt = x.toInt / 2 ^ k := by
  have e : (x >>> n).toInt = (x.toBitVec.sshiftRight' (n.toBitVec.smod 64)).toInt := rfl
  rw [e, BitVec.toInt_sshiftRight', hn, Int.shiftRight_eq_div_pow]
  rfl
theorem lsr_N {a : Nat} (ha : a < 2 ^ 62) {k : Nat} (hk : k < 64) : lN a >>> ((nI k).toInt64 &&& 63) = lN (a / 2 ^ k) := by
  have h2 : a / 2 ^ k ≤ a := Nat.div_le_self _ _
  apply Int64.toInt_inj.mp
  rw [wb_c k hk, sar64 (lN a) (lN k) (k := k) (by rw [wb_tb, wb_sm k hk, BitVec.toNat_ofNat, Nat.mod_eq_of_lt (by omega)])]
  rw [show (lN a).toInt = (a : Int) from lg_ofNat_toInt (by omega), show (lN (a / 2 ^ k)).toInt = ((a / 2 ^ k : Nat) : Int) from lg_ofNat_toInt (by omega)]
  rw [Int.natCast_ediv, Int.natCast_pow]
  rfl
theorem lo_div {l : Nat} {r : List Nat} (h : l ≤ 26) : nLo (l :: r) / 32 = nLo r := by
  show (l + 32 * nLo r) / 32 = nLo r
  omega
theorem lo_mod {l : Nat} {r : List Nat} (h : l ≤ 26) : nLo (l :: r) % 32 = l := by
  show (l + 32 * nLo r) % 32 = l
  omega
theorem lo_dig : ∀ (k : Nat) {ls : List Nat}, Let ls → nLo ls / 2 ^ (5 * k) % 32 = ls.getD k 0
  | 0, [], _ => rfl
  | 0, l :: r, h => by
    rw [Nat.mul_zero, Nat.pow_zero, Nat.div_one]
    exact lo_mod h.head.2
  | k + 1, [], _ => by
    show 0 / _ % 32 = 0
    rw [Nat.zero_div]
  | k + 1, l :: r, h => by
    have e : 2 ^ (5 * (k + 1)) = 32 * 2 ^ (5 * k) := by
      rw [show 5 * (k + 1) = 5 + 5 * k by omega, Nat.pow_add]
    rw [e, ← Nat.div_div_eq_div_mul, lo_div h.head.2, lo_dig k h.tail]
    rfl
theorem gd_get {ls : List Nat} {k : Nat} (h : k < ls.length) : ls.getD k 0 = ls[k] := by simp [h]
theorem gd_in {ls : List Nat} (h : Let ls) : ∀ {k : Nat}, k < ls.length → 1 ≤ ls.getD k 0 ∧ ls.getD k 0 ≤ 26 := by
  intro k hk
  have e : ls.getD k 0 = ls[k] := by simp [hk]
  rw [e]
  exact h _ (List.getElem_mem hk)
theorem gd_out {ls : List Nat} {k : Nat} (hk : ls.length ≤ k) : ls.getD k 0 = 0 := by simp [hk]
theorem lo_drop : ∀ (k : Nat) {ls : List Nat}, Let ls → nLo ls / 32 ^ k = nLo (ls.drop k)
  | 0, ls, _ => by
    rw [Nat.pow_zero, Nat.div_one]
    rfl
  | k + 1, [], _ => Nat.zero_div _
  | k + 1, l :: r, h => by
    rw [Nat.pow_succ, Nat.mul_comm, ← Nat.div_div_eq_div_mul, lo_div h.head.2, lo_drop k h.tail]
    rfl
section LETR
variable {S : XS} {M : MS}
/-- how many letters -/
theorem let_cnt (x1 x2 : Int32) (k9 : MS → Int32 → Option (Int32 × MS)) (Z : MS) : ∀ (rs : List Nat) (j fu : Nat), Let rs → rs.length ≤ 7 → rs.length < fu → lo3 (B_X5_letter_30 x1 x2 k9) fu Z (nI j) (lN (nLo rs)) = k9 Z (nI (j + rs.length))
  | [], j, fu, _, _, hf => by
    obtain ⟨fu, rfl⟩ : ∃ f, fu = f + 1 := ⟨fu - 1, by have := hf; omega⟩
    refine (lo3_s _ _ _ _ _).trans ?_
    unfold B_X5_letter_30
    rw [if_pos ((lg_cmp_le _ _).mpr (by decide))]
    rfl
  | l :: r, j, fu, h, hl, hf => by
    obtain ⟨fu, rfl⟩ : ∃ f, fu = f + 1 := ⟨fu - 1, by omega⟩
    have h1 := nLo_lt h
    have h2 := pw7 hl
    have h3 := h.head
    have h4 : 1 ≤ nLo (l :: r) := by
      show 1 ≤ l + 32 * nLo r
      omega
    have hl' : r.length + 1 ≤ 7 := hl
    have hf' : r.length + 1 < fu + 1 := hf
    have ih := let_cnt x1 x2 k9 Z r (j + 1) fu h.tail (by omega) (by omega)
    have hpos : ¬ lg_cmp (lN (nLo (l :: r))) 0 ≤ 0 := by
      intro q
      have q1 := (lg_cmp_le _ _).mp q
      rw [Int64.le_iff_toInt_le] at q1
      rw [show (lN (nLo (l :: r))).toInt = ((nLo (l :: r) : Nat) : Int) from lg_ofNat_toInt (by omega)] at q1
      have q2 : (0 : Int64).toInt = 0 := rfl
      omega
    refine (lo3_s _ _ _ _ _).trans ?_
    unfold B_X5_letter_30
    rw [if_neg hpos, nm_eq, nI_1, show (32 : Int64) = lN 32 from rfl, dvL_N (by omega) (by omega) (by omega), bs, lo_div h3.2]
    refine ih.trans ?_
    rw [show j + 1 + r.length = j + (l :: r).length by show _ = j + (r.length + 1); omega]
theorem let_at (k : Nat) (hk7 : k ≤ 7) (k9 : MS → Int64 → Option (Int32 × MS)) (Z : MS) : ∀ (d : Nat) (v fu : Nat), d ≤ 7 → d < fu → v < 2 ^ 40 → lo3 (B_X5_letter_84 (nI k) k9) fu Z (lN v) (nI (k + d)) = k9 Z (lN (v / 32 ^ d))
  | 0, v, fu, _, hf, hv => by
    obtain ⟨fu, rfl⟩ : ∃ f, fu = f + 1 := ⟨fu - 1, by omega⟩
    refine (lo3_s _ _ _ _ _).trans ?_
    unfold B_X5_letter_84
    rw [if_pos (show nI (k + 0) ≤ nI k from Int32.le_refl _), Nat.pow_zero, Nat.div_one]
  | d + 1, v, fu, hd, hf, hv => by
    obtain ⟨fu, rfl⟩ : ∃ f, fu = f + 1 := ⟨fu - 1, by omega⟩
    have h1 : v / 32 ≤ v := Nat.div_le_self _ _
    have ih := let_at k hk7 k9 Z d (v / 32) fu (by omega) (by omega) (by omega)
    refine (lo3_s _ _ _ _ _).trans ?_
    unfold B_X5_letter_84
    rw [if_neg (by rw [nI_leI (by omega) (by omega)]; omega), show (32 : Int64) = lN 32 from rfl, dvL_N (by omega) (by omega) (by omega), bs, nm_eq, show k + (d + 1) = k + d + 1 by omega, pk_m1]
    refine ih.trans ?_
    rw [Nat.div_div_eq_div_mul, Nat.pow_succ, Nat.mul_comm]
theorem th_n (M : MS) (v : Int32) : m_names (ms_thrown M v) = m_names M := rfl
theorem th_th (M : MS) (v v2 : Int32) : ms_thrown (ms_thrown M v) v2 = ms_thrown M v2 := rfl
theorem th_rel (h : Rel S M) (v : Int32) : Rel S (ms_thrown M v) := h
theorem A_letter (hr : Rel S M) (x y : Int32) : ∃ r a M2, L_X4 S x y = some r ∧ F_X5_letter M x y = some (a, M2) ∧ Rel S M2 ∧ ((r = none ∧ m_thrown M2 = 1) ∨ (r = some a ∧ m_thrown M2 = 0)) := by
  have his : F_X5_isShip (ms_thrown M 0) x = F_X5_isShip (mB M) x := rfl
  unfold L_X4 F_X5_letter
  rw [nm_eq, his]
  rcases A_ship hr.core x with ⟨e1, e2⟩ | ⟨N, K, c, i, hT, hR, hO, hi, rfl, e1, e2⟩
  · refine ⟨none, 0, ms_thrown M 1, ?_, ?_, th_rel hr 1, Or.inl ⟨rfl, rfl⟩⟩
    · rw [e1, bs, if_pos rfl]
    · rw [e2, bs, if_pos rfl, nm_eq, th_th]
  · have hN := hO.1
    obtain ⟨h0, hc⟩ := core_case hr hT hO
    obtain ⟨ls, l1, l2, l3, l4, l5⟩ := case_names hc hT hO i hi
    have l3 : Let ls := l3
    have hlt := nLo_lt l3
    have hlt2 := nHi_lt l3
    have hp7 := pw7 (n := ls.length) (by omega)
    have hp6 : 32 ^ ls.length ≤ 32 ^ 6 := Nat.pow_le_pow_right (by decide) l2
    have hp6' : (32 : Nat) ^ 6 = 1073741824 := by decide
    have hcnt := fun k9 => let_cnt (nI i) y k9 (ms_thrown M 0) ls.reverse 0 FU l3.rev (by rw [List.length_reverse]; omega) (by rw [List.length_reverse, FU_eq]; omega)
    rw [← nHi_eq, List.length_reverse, Nat.zero_add] at hcnt
    have hcnt' : ∀ k9, lo3 (B_X5_letter_30 (nI i) y k9) FU (ms_thrown M 0) 0 (lN (nHi 0 ls)) = k9 (ms_thrown M 0) (nI ls.length) := hcnt
    have hrn : rdL (m_names M) (nI i) = some (lN (nHi 0 ls)) := by
      rw [rL _ (by omega) (by omega), l5]
    rw [e1, e2, bs, bs, if_neg n10, if_neg n10, th_n, hrn, bs, hcnt', nI_less (by omega), show F_X5_in y.toInt64 0 (nI (ls.length - 1)).toInt64 = F_X4_within y 0 (nI (ls.length - 1)) from M_in y _, rL (t_names (x_now S)) (show i < 4 by omega) (by omega), l4]
    have bigK : ∀ k, ls.length ≤ k → k < 6 → ((lN (nLo ls) >>> (((5 : Int32) * nI k).toInt64 &&& 63)).toInt32 &&& (31 : Int32)) = 0 := by
      intro k hk hk6
      rw [show (5 : Int32) = nI 5 from rfl, pk_mul, lsr_N (by omega) (by omega), lN_i]
      have hdl : nLo ls / 2 ^ (5 * k) ≤ nLo ls := Nat.div_le_self _ _
      rw [pk_andN (by omega) 5 rfl, show (2 : Nat) ^ 5 = 32 from rfl, lo_dig k l3, gd_out hk]
      rfl
    rcases W_cases y (b := ls.length - 1) (by omega) with e | ⟨e, k, hk, rfl⟩
    · refine ⟨none, 0, ms_thrown M 1, ?_, ?_, th_rel hr 1, Or.inl ⟨rfl, rfl⟩⟩
      · rcases W_cases y (b := 5) (by omega) with e5 | ⟨e5, k, hk, rfl⟩
        · have e5' : F_X4_within y 0 5 = some 0 := e5
          rw [e5', bs, if_pos rfl]
        · have e5' : F_X4_within (nI k) 0 5 = some 1 := e5
          have hk2 : ls.length ≤ k := by
            rcases Nat.lt_or_ge k ls.length with q | q
            · exfalso
              unfold F_X4_within at e
              rw [if_neg (nI_pos (by omega)), if_neg (by rw [nI_ltI (by omega) (by omega)]; omega)] at e
              exact absurd (Option.some.inj e) n10
            · exact q
          rw [e5', bs, if_neg n10, bs, nm_eq, bigK k hk2 (by omega), if_pos rfl]
      · rw [e, bs, if_pos rfl, nm_eq, th_th]
    · have hk1 : k < ls.length := by omega
      have e5' : F_X4_within (nI k) 0 5 = some 1 := by
        unfold F_X4_within
        rw [if_neg (nI_pos (by omega)), if_neg (by rw [show (5 : Int32) = nI 5 from rfl, nI_ltI (by omega) (by omega)]; omega)]
      have hg := gd_in l3 hk1
      have hsig : ((lN (nLo ls) >>> (((5 : Int32) * nI k).toInt64 &&& 63)).toInt32 &&& (31 : Int32)) = nI (ls.getD k 0) := by
        rw [show (5 : Int32) = nI 5 from rfl, pk_mul, lsr_N (by omega) (by omega), lN_i]
        have hdl : nLo ls / 2 ^ (5 * k) ≤ nLo ls := Nat.div_le_self _ _
        rw [pk_andN (by omega) 5 rfl, show (2 : Nat) ^ 5 = 32 from rfl, lo_dig k l3]
      have hat := fun k9 => let_at k (by omega) k9 (ms_thrown M 0) (ls.length - 1 - k) (nHi 0 ls) FU (by omega) (by rw [FU_eq]; omega) (by omega)
      rw [show k + (ls.length - 1 - k) = ls.length - 1 by omega] at hat
      have hdiv : nHi 0 ls / 32 ^ (ls.length - 1 - k) ≤ nHi 0 ls := Nat.div_le_self _ _
      have hdig : nHi 0 ls / 32 ^ (ls.length - 1 - k) % 32 = ls.getD k 0 := by
        rw [nHi_eq, show (32 : Nat) ^ (ls.length - 1 - k) = 2 ^ (5 * (ls.length - 1 - k)) by rw [show (32 : Nat) = 2 ^ 5 from rfl, ← Nat.pow_mul], lo_dig _ l3.rev]
        have hlr : ls.length - 1 - k < ls.reverse.length := by rw [List.length_reverse]; omega
        have ea : ls.reverse.getD (ls.length - 1 - k) 0 = ls.reverse[ls.length - 1 - k] := gd_get hlr
        have eb : ls.getD k 0 = ls[k] := by simp [hk1]
        rw [ea, eb, List.getElem_reverse]
        congr 1
        omega
      refine ⟨some (nI (ls.getD k 0) - 1), nI (ls.getD k 0) - 1, ms_thrown M 0, ?_, ?_, th_rel hr 0, Or.inr ⟨rfl, rfl⟩⟩
      · rw [e5', bs, if_neg n10, bs, nm_eq, hsig, if_neg (nI_ne0 (by omega) (by omega))]
      · rw [e, bs, if_neg n10, th_n, hrn, bs, nm_eq, hat, show (32 : Int64) = lN 32 from rfl, rmL_N (by omega) (by omega) (by omega), bs, lN_i, hdig]
end LETR
end
