def sA_n : Nat → String
  | 0 => "SHIP_LOW" | 1 => "SHIP_HIGH" | 2 => "LAW_LOW" | 3 => "LAW_HIGH" | _ => "LAW_UNTOLD"
def sA_v : Nat → List Int32
  | 0 => [1, 0, 0, 0, 0, 0] | 1 => [99999, 10, 9999999, 9999999, 1, 1] | 2 => [0, 0, 0, 0, 0, 0, 0, 1, 0, 0]
  | 3 => [0, 0, 1, 1, 1, 99999, 99999, 99999, 999, 999] | _ => [0, 0, 0, 0, 0, 100, 200, 300, 365, 730]
def wd_n : List String := ["SHIP_WORD", "TONS_WORD", "FAULT_WORD", "HULL_WORD", "VALUE_WORD", "CLAUSE_WORD", "BARRED_WORD", "DAY_WORD", "GOODS_WORD", "PERSONS_WORD", "OTHERS_WORD", "EQUAL_WORD", "WHOLE_WORD", "CROSS_WORD", "RATE_WORD", "LIVES_WORD", "LEAST_WORD", "DUE_WORD", "LAST_WORD"]
def wd_role : List Int32 := [1, 0, 0, 0, 0, 0, 0, 0, 2, 2, 2, 3, 3, 3, 3, 3, 3, 3, 3]
def wd_col : List Int32 := [0, 0, 1, 2, 3, 4, 5, 3, 0, 1, 2, 2, 3, 4, 5, 6, 7, 8, 9]
def wd_let : List Int64 := [533779, 637428, 21386278, 406184, 5943350, 188384643, 140068898, 25636, 20069863, 20887226544, 656581263, 12637733, 5651735, 20561475, 184370, 20109612, 21595308, 5796, 674860]
def inB (i : Int32) (n : Nat) : Bool := decide (0 ≤ i) && decide (i.toNatClampNeg < n)
theorem inB_in {i : Int32} {n : Nat} (h : inB i n = true) : vp_in i n ∧ i.toNatClampNeg < n := by
  simp only [inB, Bool.and_eq_true, decide_eq_true_eq] at h
  refine ⟨fun q => ?_, h.2⟩
  rcases q with q | q
  · have h1 := Int32.le_iff_toInt_le.mp h.1
    have h2 := Int32.lt_iff_toInt_lt.mp q
    omega
  · omega
def exI {n : Nat} (f : Fin n → Int32) : Nat → Int32 := fun k => if h : k < n then f ⟨k, h⟩ else 0
def exL {n : Nat} (f : Fin n → Int64) : Nat → Int64 := fun k => if h : k < n then f ⟨k, h⟩ else 0
def upI {n : Nat} (f : Fin n → Int32) (k : Nat) (v : Int32) : Fin n → Int32 := fun j => if j.1 = k then v else f j
def upL {n : Nat} (f : Fin n → Int64) (k : Nat) (v : Int64) : Fin n → Int64 := fun j => if j.1 = k then v else f j
theorem upd_exI {n : Nat} (f : Fin n → Int32) {k : Nat} (hk : k < n) (v : Int32) : upd (exI f) k v = exI (upI f k v) := by
  funext j
  by_cases hj : j = k
  · subst hj; simp [upd, exI, upI, hk]
  · by_cases hn : j < n
    · simp [upd, exI, upI, hj, hn]
    · simp [upd, exI, hj, hn]
theorem upd_exL {n : Nat} (f : Fin n → Int64) {k : Nat} (hk : k < n) (v : Int64) : vp_updL (exL f) k v = exL (upL f k v) := by
  funext j
  by_cases hj : j = k
  · subst hj; simp [vp_updL, exL, upL, hk]
  · by_cases hn : j < n
    · simp [vp_updL, exL, upL, hj, hn]
    · simp [vp_updL, exL, hj, hn]
def rdI {n : Nat} (f : Fin n → Int32) (i : Int32) : Option Int32 := if inB i n = true then some (exI f i.toNatClampNeg) else none
def rdL {n : Nat} (f : Fin n → Int64) (i : Int32) : Option Int64 := if inB i n = true then some (exL f i.toNatClampNeg) else none
def wrI {n : Nat} (f : Fin n → Int32) (i : Int32) (v : Int32) : Option (Fin n → Int32) := if inB i n = true then some (upI f i.toNatClampNeg v) else none
def wrL {n : Nat} (f : Fin n → Int64) (i : Int32) (v : Int64) : Option (Fin n → Int64) := if inB i n = true then some (upL f i.toNatClampNeg v) else none
theorem rdI_some {n : Nat} {f : Fin n → Int32} {i v : Int32} (h : rdI f i = some v) : vp_in i n ∧ exI f i.toNatClampNeg = v := by
  unfold rdI at h
  split at h
  · rename_i h1; exact ⟨(inB_in h1).1, Option.some.inj h⟩
  · cases h
theorem rdL_some {n : Nat} {f : Fin n → Int64} {i : Int32} {v : Int64} (h : rdL f i = some v) : vp_in i n ∧ exL f i.toNatClampNeg = v := by
  unfold rdL at h
  split at h
  · rename_i h1; exact ⟨(inB_in h1).1, Option.some.inj h⟩
  · cases h
theorem wrI_some {n : Nat} {f f2 : Fin n → Int32} {i v : Int32} (h : wrI f i v = some f2) : vp_in i n ∧ upd (exI f) i.toNatClampNeg v = exI f2 := by
  unfold wrI at h
  split at h
  · rename_i h1; exact ⟨(inB_in h1).1, by rw [upd_exI f (inB_in h1).2, Option.some.inj h]⟩
  · cases h
theorem wrL_some {n : Nat} {f f2 : Fin n → Int64} {i : Int32} {v : Int64} (h : wrL f i v = some f2) : vp_in i n ∧ vp_updL (exL f) i.toNatClampNeg v = exL f2 := by
  unfold wrL at h
  split at h
  · rename_i h1; exact ⟨(inB_in h1).1, by rw [upd_exL f (inB_in h1).2, Option.some.inj h]⟩
  · cases h
def cpOK (n0 n1 : Nat) (sp dp n : Int32) : Bool := decide (0 ≤ sp) && decide (0 ≤ dp) && decide (0 ≤ n) && decide (sp.toNatClampNeg + n.toNatClampNeg ≤ n0) && decide (dp.toNatClampNeg + n.toNatClampNeg ≤ n1)
def cpI {n0 n1 : Nat} (f : Nat → Int32) (g : Fin n1 → Int32) (sp dp n : Int32) : Option (Fin n1 → Int32) := if cpOK n0 n1 sp dp n = true then some (fun j => va_cpy f (exI g) sp.toNatClampNeg dp.toNatClampNeg n.toNatClampNeg j.1) else none
def cpL {n0 n1 : Nat} (f : Nat → Int64) (g : Fin n1 → Int64) (sp dp n : Int32) : Option (Fin n1 → Int64) := if cpOK n0 n1 sp dp n = true then some (fun j => va_cpy f (exL g) sp.toNatClampNeg dp.toNatClampNeg n.toNatClampNeg j.1) else none
theorem i32_nn {x : Int32} (h : 0 ≤ x) : ¬ x < 0 := by
  intro q
  have h1 := Int32.le_iff_toInt_le.mp h
  have h2 := Int32.lt_iff_toInt_lt.mp q
  omega
theorem cpOK_in {n0 n1 : Nat} {sp dp n : Int32} (h : cpOK n0 n1 sp dp n = true) : ¬ sp < 0 ∧ ¬ dp < 0 ∧ ¬ n < 0 ∧ sp.toNatClampNeg + n.toNatClampNeg ≤ n0 ∧ dp.toNatClampNeg + n.toNatClampNeg ≤ n1 := by
  simp only [cpOK, Bool.and_eq_true, decide_eq_true_eq] at h
  exact ⟨i32_nn h.1.1.1.1, i32_nn h.1.1.1.2, i32_nn h.1.1.2, h.1.2, h.2⟩
theorem cpI_some {n0 n1 : Nat} {f : Nat → Int32} {g g2 : Fin n1 → Int32} {sp dp n : Int32} (h : cpI (n0 := n0) f g sp dp n = some g2) : cpOK n0 n1 sp dp n = true ∧ va_cpy f (exI g) sp.toNatClampNeg dp.toNatClampNeg n.toNatClampNeg = exI g2 := by
  unfold cpI at h
  split at h
  · rename_i h1
    refine ⟨h1, ?_⟩
    have h2 := (cpOK_in h1).2.2.2.2
    rw [← Option.some.inj h]
    funext j
    by_cases hj : j < n1
    · simp [exI, hj]
    · have : ¬ (dp.toNatClampNeg ≤ j ∧ j < dp.toNatClampNeg + n.toNatClampNeg) := by omega
      simp [exI, hj, va_cpy, this]
  · cases h
theorem cpL_some {n0 n1 : Nat} {f : Nat → Int64} {g g2 : Fin n1 → Int64} {sp dp n : Int32} (h : cpL (n0 := n0) f g sp dp n = some g2) : cpOK n0 n1 sp dp n = true ∧ va_cpy f (exL g) sp.toNatClampNeg dp.toNatClampNeg n.toNatClampNeg = exL g2 := by
  unfold cpL at h
  split at h
  · rename_i h1
    refine ⟨h1, ?_⟩
    have h2 := (cpOK_in h1).2.2.2.2
    rw [← Option.some.inj h]
    funext j
    by_cases hj : j < n1
    · simp [exL, hj]
    · have : ¬ (dp.toNatClampNeg ≤ j ∧ j < dp.toNatClampNeg + n.toNatClampNeg) := by omega
      simp [exL, hj, va_cpy, this]
  · cases h
def nm {α β : Type} (e : α) (k : α → β) : β := k e
theorem nm_some {α β : Type} {e : α} {k : α → Option β} {r : β} (h : nm e k = some r) : ∃ x, x = e ∧ k x = some r := ⟨e, rfl, h⟩
theorem bd {α β : Type} {x : Option α} {f : α → Option β} {r : β} (h : x.bind f = some r) : ∃ a, x = some a ∧ f a = some r := by
  cases x with
  | none => cases h
  | some a => exact ⟨a, rfl, h⟩
def zz {β : Type} (r : Int32) (k : Option β) : Option β := if r = 0 ∨ r = 1 then k else none
theorem zz_some {β : Type} {r : Int32} {k : Option β} {x : β} (h : zz r k = some x) : (r = 0 ∨ r = 1) ∧ k = some x := by
  unfold zz at h
  split at h
  · exact ⟨by assumption, h⟩
  · cases h
def dvI (x y : Int32) : Option Int32 := if y = 0 then none else some (x / y)
def rmI (x y : Int32) : Option Int32 := if y = 0 then none else some (x - x / y * y)
def dvL (x y : Int64) : Option Int64 := if y = 0 then none else some (x / y)
def rmL (x y : Int64) : Option Int64 := if y = 0 then none else some (x - x / y * y)
theorem ite_none {α : Type} {c : Prop} [Decidable c] {a : α} {v : α} (h : (if c then none else some a) = some v) : ¬ c ∧ a = v := by
  split at h
  · cases h
  · exact ⟨by assumption, Option.some.inj h⟩
/-- loops: by fuel -/
def lo1 {A β : Type} (F : (A → Option β) → A → Option β) : Nat → A → Option β
  | 0 => fun _ => none
  | n + 1 => F (lo1 F n)
def lo2 {A B β : Type} (F : (A → B → Option β) → A → B → Option β) : Nat → A → B → Option β
  | 0 => fun _ _ => none
  | n + 1 => F (lo2 F n)
def lo3 {A B C β : Type} (F : (A → B → C → Option β) → A → B → C → Option β) : Nat → A → B → C → Option β
  | 0 => fun _ _ _ => none
  | n + 1 => F (lo3 F n)
def lo4 {A B C D β : Type} (F : (A → B → C → D → Option β) → A → B → C → D → Option β) : Nat → A → B → C → D → Option β
  | 0 => fun _ _ _ _ => none
  | n + 1 => F (lo4 F n)
def lo5 {A B C D E β : Type} (F : (A → B → C → D → E → Option β) → A → B → C → D → E → Option β) : Nat → A → B → C → D → E → Option β
  | 0 => fun _ _ _ _ _ => none
  | n + 1 => F (lo5 F n)
def lo6 {A B C D E X β : Type} (F : (A → B → C → D → E → X → Option β) → A → B → C → D → E → X → Option β) : Nat → A → B → C → D → E → X → Option β
  | 0 => fun _ _ _ _ _ _ => none
  | n + 1 => F (lo6 F n)
def FU : Nat := 1000

def sAf (k : Nat) : Fin (sA_v k).length → Int32 := fun j => (sA_v k).getD j.1 0
def ixB (i : Int32) (n : Nat) : Option (Fin n) := if h : inB i n = true then some ⟨i.toNatClampNeg, (inB_in h).2⟩ else none
def ltW (k w : Nat) : Option Unit := if k < 19 ∧ w < 19 then some () else none

/-! ===== the states: what the cells of each class hold; the worlds: lists of cells ===== -/
abbrev TS : Type := Int32 × Int32 × (Fin 4 → Int64) × (Fin 24 → Int32) × (Fin 48 → Int32) × (Fin 10 → Int32)
def t_ships (S : TS) : Int32 := S.1
def ts_ships (S : TS) (v : Int32) : TS := (v, S.2)
def t_claims (S : TS) : Int32 := S.2.1
def ts_claims (S : TS) (v : Int32) : TS := (S.1, v, S.2.2)
def t_names (S : TS) : (Fin 4 → Int64) := S.2.2.1
def ts_names (S : TS) (v : (Fin 4 → Int64)) : TS := (S.1, S.2.1, v, S.2.2.2)
def t_shipRows (S : TS) : (Fin 24 → Int32) := S.2.2.2.1
def ts_shipRows (S : TS) (v : (Fin 24 → Int32)) : TS := (S.1, S.2.1, S.2.2.1, v, S.2.2.2.2)
def t_claimRows (S : TS) : (Fin 48 → Int32) := S.2.2.2.2.1
def ts_claimRows (S : TS) (v : (Fin 48 → Int32)) : TS := (S.1, S.2.1, S.2.2.1, S.2.2.2.1, v, S.2.2.2.2.2)
def t_laws (S : TS) : (Fin 10 → Int32) := S.2.2.2.2.2
def ts_laws (S : TS) (v : (Fin 10 → Int32)) : TS := (S.1, S.2.1, S.2.2.1, S.2.2.2.1, S.2.2.2.2.1, v)
abbrev RS : Type := TS × (Fin 4 → Int32) × (Fin 16 → Int64) × (Fin 64 → Int64) × (Fin 64 → Int64) × (Fin 16 → Int64) × Int32
def r_told (S : RS) : TS := S.1
def rs_told (S : RS) (v : TS) : RS := (v, S.2)
def r_weight (S : RS) : (Fin 4 → Int32) := S.2.1
def rs_weight (S : RS) (v : (Fin 4 → Int32)) : RS := (S.1, v, S.2.2)
def r_backs (S : RS) : (Fin 16 → Int64) := S.2.2.1
def rs_backs (S : RS) (v : (Fin 16 → Int64)) : RS := (S.1, S.2.1, v, S.2.2.2)
def r_owed (S : RS) : (Fin 64 → Int64) := S.2.2.2.1
def rs_owed (S : RS) (v : (Fin 64 → Int64)) : RS := (S.1, S.2.1, S.2.2.1, v, S.2.2.2.2)
def r_paid (S : RS) : (Fin 64 → Int64) := S.2.2.2.2.1
def rs_paid (S : RS) (v : (Fin 64 → Int64)) : RS := (S.1, S.2.1, S.2.2.1, S.2.2.2.1, v, S.2.2.2.2.2)
def r_lacked (S : RS) : (Fin 16 → Int64) := S.2.2.2.2.2.1
def rs_lacked (S : RS) (v : (Fin 16 → Int64)) : RS := (S.1, S.2.1, S.2.2.1, S.2.2.2.1, S.2.2.2.2.1, v, S.2.2.2.2.2.2)
def r_weights (S : RS) : Int32 := S.2.2.2.2.2.2
def rs_weights (S : RS) (v : Int32) : RS := (S.1, S.2.1, S.2.2.1, S.2.2.2.1, S.2.2.2.2.1, S.2.2.2.2.2.1, v)
abbrev DS : Type := (Fin 600 → Int32) × TS × (Fin 10 → Int32) × Int32 × Int32 × Int32 × Int32 × Int32 × Int32 × Int64 × Int32
def d_bytes (S : DS) : (Fin 600 → Int32) := S.1
def ds_bytes (S : DS) (v : (Fin 600 → Int32)) : DS := (v, S.2)
def d_told (S : DS) : TS := S.2.1
def ds_told (S : DS) (v : TS) : DS := (S.1, v, S.2.2)
def d_lawTold (S : DS) : (Fin 10 → Int32) := S.2.2.1
def ds_lawTold (S : DS) (v : (Fin 10 → Int32)) : DS := (S.1, S.2.1, v, S.2.2.2)
def d_end (S : DS) : Int32 := S.2.2.2.1
def ds_end (S : DS) (v : Int32) : DS := (S.1, S.2.1, S.2.2.1, v, S.2.2.2.2)
def d_next (S : DS) : Int32 := S.2.2.2.2.1
def ds_next (S : DS) (v : Int32) : DS := (S.1, S.2.1, S.2.2.1, S.2.2.2.1, v, S.2.2.2.2.2)
def d_found (S : DS) : Int32 := S.2.2.2.2.2.1
def ds_found (S : DS) (v : Int32) : DS := (S.1, S.2.1, S.2.2.1, S.2.2.2.1, S.2.2.2.2.1, v, S.2.2.2.2.2.2)
def d_start (S : DS) : Int32 := S.2.2.2.2.2.2.1
def ds_start (S : DS) (v : Int32) : DS := (S.1, S.2.1, S.2.2.1, S.2.2.2.1, S.2.2.2.2.1, S.2.2.2.2.2.1, v, S.2.2.2.2.2.2.2)
def d_token (S : DS) : Int32 := S.2.2.2.2.2.2.2.1
def ds_token (S : DS) (v : Int32) : DS := (S.1, S.2.1, S.2.2.1, S.2.2.2.1, S.2.2.2.2.1, S.2.2.2.2.2.1, S.2.2.2.2.2.2.1, v, S.2.2.2.2.2.2.2.2)
def d_length (S : DS) : Int32 := S.2.2.2.2.2.2.2.2.1
def ds_length (S : DS) (v : Int32) : DS := (S.1, S.2.1, S.2.2.1, S.2.2.2.1, S.2.2.2.2.1, S.2.2.2.2.2.1, S.2.2.2.2.2.2.1, S.2.2.2.2.2.2.2.1, v, S.2.2.2.2.2.2.2.2.2)
def d_letters (S : DS) : Int64 := S.2.2.2.2.2.2.2.2.2.1
def ds_letters (S : DS) (v : Int64) : DS := (S.1, S.2.1, S.2.2.1, S.2.2.2.1, S.2.2.2.2.1, S.2.2.2.2.2.1, S.2.2.2.2.2.2.1, S.2.2.2.2.2.2.2.1, S.2.2.2.2.2.2.2.2.1, v, S.2.2.2.2.2.2.2.2.2.2)
def d_number (S : DS) : Int32 := S.2.2.2.2.2.2.2.2.2.2
def ds_number (S : DS) (v : Int32) : DS := (S.1, S.2.1, S.2.2.1, S.2.2.2.1, S.2.2.2.2.1, S.2.2.2.2.2.1, S.2.2.2.2.2.2.1, S.2.2.2.2.2.2.2.1, S.2.2.2.2.2.2.2.2.1, S.2.2.2.2.2.2.2.2.2.1, v)
abbrev XS : Type := DS × TS × RS × (Fin 10 → TS) × (Fin 2 → TS) × (Fin 2 → Int32) × Int32 × Int32 × Int32 × Int32 × Int32 × Int32
def x_reader (S : XS) : DS := S.1
def xs_reader (S : XS) (v : DS) : XS := (v, S.2)
def x_now (S : XS) : TS := S.2.1
def xs_now (S : XS) (v : TS) : XS := (S.1, v, S.2.2)
def x_reckoning (S : XS) : RS := S.2.2.1
def xs_reckoning (S : XS) (v : RS) : XS := (S.1, S.2.1, v, S.2.2.2)
def x_earlier (S : XS) : (Fin 10 → TS) := S.2.2.2.1
def xs_earlier (S : XS) (v : (Fin 10 → TS)) : XS := (S.1, S.2.1, S.2.2.1, v, S.2.2.2.2)
def x_images (S : XS) : (Fin 2 → TS) := S.2.2.2.2.1
def xs_images (S : XS) (v : (Fin 2 → TS)) : XS := (S.1, S.2.1, S.2.2.1, S.2.2.2.1, v, S.2.2.2.2.2)
def x_kept (S : XS) : (Fin 2 → Int32) := S.2.2.2.2.2.1
def xs_kept (S : XS) (v : (Fin 2 → Int32)) : XS := (S.1, S.2.1, S.2.2.1, S.2.2.2.1, S.2.2.2.2.1, v, S.2.2.2.2.2.2)
def x_tapeLength (S : XS) : Int32 := S.2.2.2.2.2.2.1
def xs_tapeLength (S : XS) (v : Int32) : XS := (S.1, S.2.1, S.2.2.1, S.2.2.2.1, S.2.2.2.2.1, S.2.2.2.2.2.1, v, S.2.2.2.2.2.2.2)
def x_undoable (S : XS) : Int32 := S.2.2.2.2.2.2.2.1
def xs_undoable (S : XS) (v : Int32) : XS := (S.1, S.2.1, S.2.2.1, S.2.2.2.1, S.2.2.2.2.1, S.2.2.2.2.2.1, S.2.2.2.2.2.2.1, v, S.2.2.2.2.2.2.2.2)
def x_nextAct (S : XS) : Int32 := S.2.2.2.2.2.2.2.2.1
def xs_nextAct (S : XS) (v : Int32) : XS := (S.1, S.2.1, S.2.2.1, S.2.2.2.1, S.2.2.2.2.1, S.2.2.2.2.2.1, S.2.2.2.2.2.2.1, S.2.2.2.2.2.2.2.1, v, S.2.2.2.2.2.2.2.2.2)
def x_latestTrouble (S : XS) : Int32 := S.2.2.2.2.2.2.2.2.2.1
def xs_latestTrouble (S : XS) (v : Int32) : XS := (S.1, S.2.1, S.2.2.1, S.2.2.2.1, S.2.2.2.2.1, S.2.2.2.2.2.1, S.2.2.2.2.2.2.1, S.2.2.2.2.2.2.2.1, S.2.2.2.2.2.2.2.2.1, v, S.2.2.2.2.2.2.2.2.2.2)
def x_latestPlace (S : XS) : Int32 := S.2.2.2.2.2.2.2.2.2.2.1
def xs_latestPlace (S : XS) (v : Int32) : XS := (S.1, S.2.1, S.2.2.1, S.2.2.2.1, S.2.2.2.2.1, S.2.2.2.2.2.1, S.2.2.2.2.2.2.1, S.2.2.2.2.2.2.2.1, S.2.2.2.2.2.2.2.2.1, S.2.2.2.2.2.2.2.2.2.1, v, S.2.2.2.2.2.2.2.2.2.2.2)
def x_latestFault (S : XS) : Int32 := S.2.2.2.2.2.2.2.2.2.2.2
def xs_latestFault (S : XS) (v : Int32) : XS := (S.1, S.2.1, S.2.2.1, S.2.2.2.1, S.2.2.2.2.1, S.2.2.2.2.2.1, S.2.2.2.2.2.2.1, S.2.2.2.2.2.2.2.1, S.2.2.2.2.2.2.2.2.1, S.2.2.2.2.2.2.2.2.2.1, S.2.2.2.2.2.2.2.2.2.2.1, v)
def upT {n : Nat} (E : Fin n → TS) (j : Fin n) (T : TS) : Fin n → TS := fun i => if i = j then T else E i
abbrev MS : Type := Int32 × Int32 × Int32 × Int32 × Int32 × (Fin 82 → Int32) × (Fin 82 → Int32) × (Fin 82 → Int32) × (Fin 820 → Int32) × Int32 × (Fin 164 → Int32) × (Fin 2 → Int32) × (Fin 4 → Int64) × (Fin 4 → Int64) × (Fin 600 → Int32) × Int32 × Int32 × Int32 × Int32 × Int32 × Int32 × Int32 × Int64 × Int32 × Int32 × Int32 × (Fin 16 → Int64) × (Fin 16 → Int64) × (Fin 64 → Int64) × Int64
def m_thrown (S : MS) : Int32 := S.1
def ms_thrown (S : MS) (v : Int32) : MS := (v, S.2)
def m_trouble (S : MS) : Int32 := S.2.1
def ms_trouble (S : MS) (v : Int32) : MS := (S.1, v, S.2.2)
def m_place (S : MS) : Int32 := S.2.2.1
def ms_place (S : MS) (v : Int32) : MS := (S.1, S.2.1, v, S.2.2.2)
def m_fault (S : MS) : Int32 := S.2.2.2.1
def ms_fault (S : MS) (v : Int32) : MS := (S.1, S.2.1, S.2.2.1, v, S.2.2.2.2)
def m_told (S : MS) : Int32 := S.2.2.2.2.1
def ms_told (S : MS) (v : Int32) : MS := (S.1, S.2.1, S.2.2.1, S.2.2.2.1, v, S.2.2.2.2.2)
def m_s (S : MS) : (Fin 82 → Int32) := S.2.2.2.2.2.1
def ms_s (S : MS) (v : (Fin 82 → Int32)) : MS := (S.1, S.2.1, S.2.2.1, S.2.2.2.1, S.2.2.2.2.1, v, S.2.2.2.2.2.2)
def m_w (S : MS) : (Fin 82 → Int32) := S.2.2.2.2.2.2.1
def ms_w (S : MS) (v : (Fin 82 → Int32)) : MS := (S.1, S.2.1, S.2.2.1, S.2.2.2.1, S.2.2.2.2.1, S.2.2.2.2.2.1, v, S.2.2.2.2.2.2.2)
def m_read (S : MS) : (Fin 82 → Int32) := S.2.2.2.2.2.2.2.1
def ms_read (S : MS) (v : (Fin 82 → Int32)) : MS := (S.1, S.2.1, S.2.2.1, S.2.2.2.1, S.2.2.2.2.1, S.2.2.2.2.2.1, S.2.2.2.2.2.2.1, v, S.2.2.2.2.2.2.2.2)
def m_past (S : MS) : (Fin 820 → Int32) := S.2.2.2.2.2.2.2.2.1
def ms_past (S : MS) (v : (Fin 820 → Int32)) : MS := (S.1, S.2.1, S.2.2.1, S.2.2.2.1, S.2.2.2.2.1, S.2.2.2.2.2.1, S.2.2.2.2.2.2.1, S.2.2.2.2.2.2.2.1, v, S.2.2.2.2.2.2.2.2.2)
def m_acts (S : MS) : Int32 := S.2.2.2.2.2.2.2.2.2.1
def ms_acts (S : MS) (v : Int32) : MS := (S.1, S.2.1, S.2.2.1, S.2.2.2.1, S.2.2.2.2.1, S.2.2.2.2.2.1, S.2.2.2.2.2.2.1, S.2.2.2.2.2.2.2.1, S.2.2.2.2.2.2.2.2.1, v, S.2.2.2.2.2.2.2.2.2.2)
def m_kept (S : MS) : (Fin 164 → Int32) := S.2.2.2.2.2.2.2.2.2.2.1
def ms_kept (S : MS) (v : (Fin 164 → Int32)) : MS := (S.1, S.2.1, S.2.2.1, S.2.2.2.1, S.2.2.2.2.1, S.2.2.2.2.2.1, S.2.2.2.2.2.2.1, S.2.2.2.2.2.2.2.1, S.2.2.2.2.2.2.2.2.1, S.2.2.2.2.2.2.2.2.2.1, v, S.2.2.2.2.2.2.2.2.2.2.2)
def m_isKept (S : MS) : (Fin 2 → Int32) := S.2.2.2.2.2.2.2.2.2.2.2.1
def ms_isKept (S : MS) (v : (Fin 2 → Int32)) : MS := (S.1, S.2.1, S.2.2.1, S.2.2.2.1, S.2.2.2.2.1, S.2.2.2.2.2.1, S.2.2.2.2.2.2.1, S.2.2.2.2.2.2.2.1, S.2.2.2.2.2.2.2.2.1, S.2.2.2.2.2.2.2.2.2.1, S.2.2.2.2.2.2.2.2.2.2.1, v, S.2.2.2.2.2.2.2.2.2.2.2.2)
def m_names (S : MS) : (Fin 4 → Int64) := S.2.2.2.2.2.2.2.2.2.2.2.2.1
def ms_names (S : MS) (v : (Fin 4 → Int64)) : MS := (S.1, S.2.1, S.2.2.1, S.2.2.2.1, S.2.2.2.2.1, S.2.2.2.2.2.1, S.2.2.2.2.2.2.1, S.2.2.2.2.2.2.2.1, S.2.2.2.2.2.2.2.2.1, S.2.2.2.2.2.2.2.2.2.1, S.2.2.2.2.2.2.2.2.2.2.1, S.2.2.2.2.2.2.2.2.2.2.2.1, v, S.2.2.2.2.2.2.2.2.2.2.2.2.2)
def m_readNames (S : MS) : (Fin 4 → Int64) := S.2.2.2.2.2.2.2.2.2.2.2.2.2.1
def ms_readNames (S : MS) (v : (Fin 4 → Int64)) : MS := (S.1, S.2.1, S.2.2.1, S.2.2.2.1, S.2.2.2.2.1, S.2.2.2.2.2.1, S.2.2.2.2.2.2.1, S.2.2.2.2.2.2.2.1, S.2.2.2.2.2.2.2.2.1, S.2.2.2.2.2.2.2.2.2.1, S.2.2.2.2.2.2.2.2.2.2.1, S.2.2.2.2.2.2.2.2.2.2.2.1, S.2.2.2.2.2.2.2.2.2.2.2.2.1, v, S.2.2.2.2.2.2.2.2.2.2.2.2.2.2)
def m_tape (S : MS) : (Fin 600 → Int32) := S.2.2.2.2.2.2.2.2.2.2.2.2.2.2.1
def ms_tape (S : MS) (v : (Fin 600 → Int32)) : MS := (S.1, S.2.1, S.2.2.1, S.2.2.2.1, S.2.2.2.2.1, S.2.2.2.2.2.1, S.2.2.2.2.2.2.1, S.2.2.2.2.2.2.2.1, S.2.2.2.2.2.2.2.2.1, S.2.2.2.2.2.2.2.2.2.1, S.2.2.2.2.2.2.2.2.2.2.1, S.2.2.2.2.2.2.2.2.2.2.2.1, S.2.2.2.2.2.2.2.2.2.2.2.2.1, S.2.2.2.2.2.2.2.2.2.2.2.2.2.1, v, S.2.2.2.2.2.2.2.2.2.2.2.2.2.2.2)
def m_taped (S : MS) : Int32 := S.2.2.2.2.2.2.2.2.2.2.2.2.2.2.2.1
def ms_taped (S : MS) (v : Int32) : MS := (S.1, S.2.1, S.2.2.1, S.2.2.2.1, S.2.2.2.2.1, S.2.2.2.2.2.1, S.2.2.2.2.2.2.1, S.2.2.2.2.2.2.2.1, S.2.2.2.2.2.2.2.2.1, S.2.2.2.2.2.2.2.2.2.1, S.2.2.2.2.2.2.2.2.2.2.1, S.2.2.2.2.2.2.2.2.2.2.2.1, S.2.2.2.2.2.2.2.2.2.2.2.2.1, S.2.2.2.2.2.2.2.2.2.2.2.2.2.1, S.2.2.2.2.2.2.2.2.2.2.2.2.2.2.1, v, S.2.2.2.2.2.2.2.2.2.2.2.2.2.2.2.2)
def m_length (S : MS) : Int32 := S.2.2.2.2.2.2.2.2.2.2.2.2.2.2.2.2.1
def ms_length (S : MS) (v : Int32) : MS := (S.1, S.2.1, S.2.2.1, S.2.2.2.1, S.2.2.2.2.1, S.2.2.2.2.2.1, S.2.2.2.2.2.2.1, S.2.2.2.2.2.2.2.1, S.2.2.2.2.2.2.2.2.1, S.2.2.2.2.2.2.2.2.2.1, S.2.2.2.2.2.2.2.2.2.2.1, S.2.2.2.2.2.2.2.2.2.2.2.1, S.2.2.2.2.2.2.2.2.2.2.2.2.1, S.2.2.2.2.2.2.2.2.2.2.2.2.2.1, S.2.2.2.2.2.2.2.2.2.2.2.2.2.2.1, S.2.2.2.2.2.2.2.2.2.2.2.2.2.2.2.1, v, S.2.2.2.2.2.2.2.2.2.2.2.2.2.2.2.2.2)
def m_next (S : MS) : Int32 := S.2.2.2.2.2.2.2.2.2.2.2.2.2.2.2.2.2.1
def ms_next (S : MS) (v : Int32) : MS := (S.1, S.2.1, S.2.2.1, S.2.2.2.1, S.2.2.2.2.1, S.2.2.2.2.2.1, S.2.2.2.2.2.2.1, S.2.2.2.2.2.2.2.1, S.2.2.2.2.2.2.2.2.1, S.2.2.2.2.2.2.2.2.2.1, S.2.2.2.2.2.2.2.2.2.2.1, S.2.2.2.2.2.2.2.2.2.2.2.1, S.2.2.2.2.2.2.2.2.2.2.2.2.1, S.2.2.2.2.2.2.2.2.2.2.2.2.2.1, S.2.2.2.2.2.2.2.2.2.2.2.2.2.2.1, S.2.2.2.2.2.2.2.2.2.2.2.2.2.2.2.1, S.2.2.2.2.2.2.2.2.2.2.2.2.2.2.2.2.1, v, S.2.2.2.2.2.2.2.2.2.2.2.2.2.2.2.2.2.2)
def m_from (S : MS) : Int32 := S.2.2.2.2.2.2.2.2.2.2.2.2.2.2.2.2.2.2.1
def ms_from (S : MS) (v : Int32) : MS := (S.1, S.2.1, S.2.2.1, S.2.2.2.1, S.2.2.2.2.1, S.2.2.2.2.2.1, S.2.2.2.2.2.2.1, S.2.2.2.2.2.2.2.1, S.2.2.2.2.2.2.2.2.1, S.2.2.2.2.2.2.2.2.2.1, S.2.2.2.2.2.2.2.2.2.2.1, S.2.2.2.2.2.2.2.2.2.2.2.1, S.2.2.2.2.2.2.2.2.2.2.2.2.1, S.2.2.2.2.2.2.2.2.2.2.2.2.2.1, S.2.2.2.2.2.2.2.2.2.2.2.2.2.2.1, S.2.2.2.2.2.2.2.2.2.2.2.2.2.2.2.1, S.2.2.2.2.2.2.2.2.2.2.2.2.2.2.2.2.1, S.2.2.2.2.2.2.2.2.2.2.2.2.2.2.2.2.2.1, v, S.2.2.2.2.2.2.2.2.2.2.2.2.2.2.2.2.2.2.2)
def m_sort (S : MS) : Int32 := S.2.2.2.2.2.2.2.2.2.2.2.2.2.2.2.2.2.2.2.1
def ms_sort (S : MS) (v : Int32) : MS := (S.1, S.2.1, S.2.2.1, S.2.2.2.1, S.2.2.2.2.1, S.2.2.2.2.2.1, S.2.2.2.2.2.2.1, S.2.2.2.2.2.2.2.1, S.2.2.2.2.2.2.2.2.1, S.2.2.2.2.2.2.2.2.2.1, S.2.2.2.2.2.2.2.2.2.2.1, S.2.2.2.2.2.2.2.2.2.2.2.1, S.2.2.2.2.2.2.2.2.2.2.2.2.1, S.2.2.2.2.2.2.2.2.2.2.2.2.2.1, S.2.2.2.2.2.2.2.2.2.2.2.2.2.2.1, S.2.2.2.2.2.2.2.2.2.2.2.2.2.2.2.1, S.2.2.2.2.2.2.2.2.2.2.2.2.2.2.2.2.1, S.2.2.2.2.2.2.2.2.2.2.2.2.2.2.2.2.2.1, S.2.2.2.2.2.2.2.2.2.2.2.2.2.2.2.2.2.2.1, v, S.2.2.2.2.2.2.2.2.2.2.2.2.2.2.2.2.2.2.2.2)
def m_many (S : MS) : Int32 := S.2.2.2.2.2.2.2.2.2.2.2.2.2.2.2.2.2.2.2.2.1
def ms_many (S : MS) (v : Int32) : MS := (S.1, S.2.1, S.2.2.1, S.2.2.2.1, S.2.2.2.2.1, S.2.2.2.2.2.1, S.2.2.2.2.2.2.1, S.2.2.2.2.2.2.2.1, S.2.2.2.2.2.2.2.2.1, S.2.2.2.2.2.2.2.2.2.1, S.2.2.2.2.2.2.2.2.2.2.1, S.2.2.2.2.2.2.2.2.2.2.2.1, S.2.2.2.2.2.2.2.2.2.2.2.2.1, S.2.2.2.2.2.2.2.2.2.2.2.2.2.1, S.2.2.2.2.2.2.2.2.2.2.2.2.2.2.1, S.2.2.2.2.2.2.2.2.2.2.2.2.2.2.2.1, S.2.2.2.2.2.2.2.2.2.2.2.2.2.2.2.2.1, S.2.2.2.2.2.2.2.2.2.2.2.2.2.2.2.2.2.1, S.2.2.2.2.2.2.2.2.2.2.2.2.2.2.2.2.2.2.1, S.2.2.2.2.2.2.2.2.2.2.2.2.2.2.2.2.2.2.2.1, v, S.2.2.2.2.2.2.2.2.2.2.2.2.2.2.2.2.2.2.2.2.2)
def m_number (S : MS) : Int32 := S.2.2.2.2.2.2.2.2.2.2.2.2.2.2.2.2.2.2.2.2.2.1
def ms_number (S : MS) (v : Int32) : MS := (S.1, S.2.1, S.2.2.1, S.2.2.2.1, S.2.2.2.2.1, S.2.2.2.2.2.1, S.2.2.2.2.2.2.1, S.2.2.2.2.2.2.2.1, S.2.2.2.2.2.2.2.2.1, S.2.2.2.2.2.2.2.2.2.1, S.2.2.2.2.2.2.2.2.2.2.1, S.2.2.2.2.2.2.2.2.2.2.2.1, S.2.2.2.2.2.2.2.2.2.2.2.2.1, S.2.2.2.2.2.2.2.2.2.2.2.2.2.1, S.2.2.2.2.2.2.2.2.2.2.2.2.2.2.1, S.2.2.2.2.2.2.2.2.2.2.2.2.2.2.2.1, S.2.2.2.2.2.2.2.2.2.2.2.2.2.2.2.2.1, S.2.2.2.2.2.2.2.2.2.2.2.2.2.2.2.2.2.1, S.2.2.2.2.2.2.2.2.2.2.2.2.2.2.2.2.2.2.1, S.2.2.2.2.2.2.2.2.2.2.2.2.2.2.2.2.2.2.2.1, S.2.2.2.2.2.2.2.2.2.2.2.2.2.2.2.2.2.2.2.2.1, v, S.2.2.2.2.2.2.2.2.2.2.2.2.2.2.2.2.2.2.2.2.2.2)
def m_word (S : MS) : Int64 := S.2.2.2.2.2.2.2.2.2.2.2.2.2.2.2.2.2.2.2.2.2.2.1
def ms_word (S : MS) (v : Int64) : MS := (S.1, S.2.1, S.2.2.1, S.2.2.2.1, S.2.2.2.2.1, S.2.2.2.2.2.1, S.2.2.2.2.2.2.1, S.2.2.2.2.2.2.2.1, S.2.2.2.2.2.2.2.2.1, S.2.2.2.2.2.2.2.2.2.1, S.2.2.2.2.2.2.2.2.2.2.1, S.2.2.2.2.2.2.2.2.2.2.2.1, S.2.2.2.2.2.2.2.2.2.2.2.2.1, S.2.2.2.2.2.2.2.2.2.2.2.2.2.1, S.2.2.2.2.2.2.2.2.2.2.2.2.2.2.1, S.2.2.2.2.2.2.2.2.2.2.2.2.2.2.2.1, S.2.2.2.2.2.2.2.2.2.2.2.2.2.2.2.2.1, S.2.2.2.2.2.2.2.2.2.2.2.2.2.2.2.2.2.1, S.2.2.2.2.2.2.2.2.2.2.2.2.2.2.2.2.2.2.1, S.2.2.2.2.2.2.2.2.2.2.2.2.2.2.2.2.2.2.2.1, S.2.2.2.2.2.2.2.2.2.2.2.2.2.2.2.2.2.2.2.2.1, S.2.2.2.2.2.2.2.2.2.2.2.2.2.2.2.2.2.2.2.2.2.1, v, S.2.2.2.2.2.2.2.2.2.2.2.2.2.2.2.2.2.2.2.2.2.2.2)
def m_wrong (S : MS) : Int32 := S.2.2.2.2.2.2.2.2.2.2.2.2.2.2.2.2.2.2.2.2.2.2.2.1
def ms_wrong (S : MS) (v : Int32) : MS := (S.1, S.2.1, S.2.2.1, S.2.2.2.1, S.2.2.2.2.1, S.2.2.2.2.2.1, S.2.2.2.2.2.2.1, S.2.2.2.2.2.2.2.1, S.2.2.2.2.2.2.2.2.1, S.2.2.2.2.2.2.2.2.2.1, S.2.2.2.2.2.2.2.2.2.2.1, S.2.2.2.2.2.2.2.2.2.2.2.1, S.2.2.2.2.2.2.2.2.2.2.2.2.1, S.2.2.2.2.2.2.2.2.2.2.2.2.2.1, S.2.2.2.2.2.2.2.2.2.2.2.2.2.2.1, S.2.2.2.2.2.2.2.2.2.2.2.2.2.2.2.1, S.2.2.2.2.2.2.2.2.2.2.2.2.2.2.2.2.1, S.2.2.2.2.2.2.2.2.2.2.2.2.2.2.2.2.2.1, S.2.2.2.2.2.2.2.2.2.2.2.2.2.2.2.2.2.2.1, S.2.2.2.2.2.2.2.2.2.2.2.2.2.2.2.2.2.2.2.1, S.2.2.2.2.2.2.2.2.2.2.2.2.2.2.2.2.2.2.2.2.1, S.2.2.2.2.2.2.2.2.2.2.2.2.2.2.2.2.2.2.2.2.2.1, S.2.2.2.2.2.2.2.2.2.2.2.2.2.2.2.2.2.2.2.2.2.2.1, v, S.2.2.2.2.2.2.2.2.2.2.2.2.2.2.2.2.2.2.2.2.2.2.2.2)
def m_wrongAt (S : MS) : Int32 := S.2.2.2.2.2.2.2.2.2.2.2.2.2.2.2.2.2.2.2.2.2.2.2.2.1
def ms_wrongAt (S : MS) (v : Int32) : MS := (S.1, S.2.1, S.2.2.1, S.2.2.2.1, S.2.2.2.2.1, S.2.2.2.2.2.1, S.2.2.2.2.2.2.1, S.2.2.2.2.2.2.2.1, S.2.2.2.2.2.2.2.2.1, S.2.2.2.2.2.2.2.2.2.1, S.2.2.2.2.2.2.2.2.2.2.1, S.2.2.2.2.2.2.2.2.2.2.2.1, S.2.2.2.2.2.2.2.2.2.2.2.2.1, S.2.2.2.2.2.2.2.2.2.2.2.2.2.1, S.2.2.2.2.2.2.2.2.2.2.2.2.2.2.1, S.2.2.2.2.2.2.2.2.2.2.2.2.2.2.2.1, S.2.2.2.2.2.2.2.2.2.2.2.2.2.2.2.2.1, S.2.2.2.2.2.2.2.2.2.2.2.2.2.2.2.2.2.1, S.2.2.2.2.2.2.2.2.2.2.2.2.2.2.2.2.2.2.1, S.2.2.2.2.2.2.2.2.2.2.2.2.2.2.2.2.2.2.2.1, S.2.2.2.2.2.2.2.2.2.2.2.2.2.2.2.2.2.2.2.2.1, S.2.2.2.2.2.2.2.2.2.2.2.2.2.2.2.2.2.2.2.2.2.1, S.2.2.2.2.2.2.2.2.2.2.2.2.2.2.2.2.2.2.2.2.2.2.1, S.2.2.2.2.2.2.2.2.2.2.2.2.2.2.2.2.2.2.2.2.2.2.2.1, v, S.2.2.2.2.2.2.2.2.2.2.2.2.2.2.2.2.2.2.2.2.2.2.2.2.2)
def m_toldOnce (S : MS) : Int32 := S.2.2.2.2.2.2.2.2.2.2.2.2.2.2.2.2.2.2.2.2.2.2.2.2.2.1
def ms_toldOnce (S : MS) (v : Int32) : MS := (S.1, S.2.1, S.2.2.1, S.2.2.2.1, S.2.2.2.2.1, S.2.2.2.2.2.1, S.2.2.2.2.2.2.1, S.2.2.2.2.2.2.2.1, S.2.2.2.2.2.2.2.2.1, S.2.2.2.2.2.2.2.2.2.1, S.2.2.2.2.2.2.2.2.2.2.1, S.2.2.2.2.2.2.2.2.2.2.2.1, S.2.2.2.2.2.2.2.2.2.2.2.2.1, S.2.2.2.2.2.2.2.2.2.2.2.2.2.1, S.2.2.2.2.2.2.2.2.2.2.2.2.2.2.1, S.2.2.2.2.2.2.2.2.2.2.2.2.2.2.2.1, S.2.2.2.2.2.2.2.2.2.2.2.2.2.2.2.2.1, S.2.2.2.2.2.2.2.2.2.2.2.2.2.2.2.2.2.1, S.2.2.2.2.2.2.2.2.2.2.2.2.2.2.2.2.2.2.1, S.2.2.2.2.2.2.2.2.2.2.2.2.2.2.2.2.2.2.2.1, S.2.2.2.2.2.2.2.2.2.2.2.2.2.2.2.2.2.2.2.2.1, S.2.2.2.2.2.2.2.2.2.2.2.2.2.2.2.2.2.2.2.2.2.1, S.2.2.2.2.2.2.2.2.2.2.2.2.2.2.2.2.2.2.2.2.2.2.1, S.2.2.2.2.2.2.2.2.2.2.2.2.2.2.2.2.2.2.2.2.2.2.2.1, S.2.2.2.2.2.2.2.2.2.2.2.2.2.2.2.2.2.2.2.2.2.2.2.2.1, v, S.2.2.2.2.2.2.2.2.2.2.2.2.2.2.2.2.2.2.2.2.2.2.2.2.2.2)
def m_owed (S : MS) : (Fin 16 → Int64) := S.2.2.2.2.2.2.2.2.2.2.2.2.2.2.2.2.2.2.2.2.2.2.2.2.2.2.1
def ms_owed (S : MS) (v : (Fin 16 → Int64)) : MS := (S.1, S.2.1, S.2.2.1, S.2.2.2.1, S.2.2.2.2.1, S.2.2.2.2.2.1, S.2.2.2.2.2.2.1, S.2.2.2.2.2.2.2.1, S.2.2.2.2.2.2.2.2.1, S.2.2.2.2.2.2.2.2.2.1, S.2.2.2.2.2.2.2.2.2.2.1, S.2.2.2.2.2.2.2.2.2.2.2.1, S.2.2.2.2.2.2.2.2.2.2.2.2.1, S.2.2.2.2.2.2.2.2.2.2.2.2.2.1, S.2.2.2.2.2.2.2.2.2.2.2.2.2.2.1, S.2.2.2.2.2.2.2.2.2.2.2.2.2.2.2.1, S.2.2.2.2.2.2.2.2.2.2.2.2.2.2.2.2.1, S.2.2.2.2.2.2.2.2.2.2.2.2.2.2.2.2.2.1, S.2.2.2.2.2.2.2.2.2.2.2.2.2.2.2.2.2.2.1, S.2.2.2.2.2.2.2.2.2.2.2.2.2.2.2.2.2.2.2.1, S.2.2.2.2.2.2.2.2.2.2.2.2.2.2.2.2.2.2.2.2.1, S.2.2.2.2.2.2.2.2.2.2.2.2.2.2.2.2.2.2.2.2.2.1, S.2.2.2.2.2.2.2.2.2.2.2.2.2.2.2.2.2.2.2.2.2.2.1, S.2.2.2.2.2.2.2.2.2.2.2.2.2.2.2.2.2.2.2.2.2.2.2.1, S.2.2.2.2.2.2.2.2.2.2.2.2.2.2.2.2.2.2.2.2.2.2.2.2.1, S.2.2.2.2.2.2.2.2.2.2.2.2.2.2.2.2.2.2.2.2.2.2.2.2.2.1, v, S.2.2.2.2.2.2.2.2.2.2.2.2.2.2.2.2.2.2.2.2.2.2.2.2.2.2.2)
def m_out (S : MS) : (Fin 16 → Int64) := S.2.2.2.2.2.2.2.2.2.2.2.2.2.2.2.2.2.2.2.2.2.2.2.2.2.2.2.1
def ms_out (S : MS) (v : (Fin 16 → Int64)) : MS := (S.1, S.2.1, S.2.2.1, S.2.2.2.1, S.2.2.2.2.1, S.2.2.2.2.2.1, S.2.2.2.2.2.2.1, S.2.2.2.2.2.2.2.1, S.2.2.2.2.2.2.2.2.1, S.2.2.2.2.2.2.2.2.2.1, S.2.2.2.2.2.2.2.2.2.2.1, S.2.2.2.2.2.2.2.2.2.2.2.1, S.2.2.2.2.2.2.2.2.2.2.2.2.1, S.2.2.2.2.2.2.2.2.2.2.2.2.2.1, S.2.2.2.2.2.2.2.2.2.2.2.2.2.2.1, S.2.2.2.2.2.2.2.2.2.2.2.2.2.2.2.1, S.2.2.2.2.2.2.2.2.2.2.2.2.2.2.2.2.1, S.2.2.2.2.2.2.2.2.2.2.2.2.2.2.2.2.2.1, S.2.2.2.2.2.2.2.2.2.2.2.2.2.2.2.2.2.2.1, S.2.2.2.2.2.2.2.2.2.2.2.2.2.2.2.2.2.2.2.1, S.2.2.2.2.2.2.2.2.2.2.2.2.2.2.2.2.2.2.2.2.1, S.2.2.2.2.2.2.2.2.2.2.2.2.2.2.2.2.2.2.2.2.2.1, S.2.2.2.2.2.2.2.2.2.2.2.2.2.2.2.2.2.2.2.2.2.2.1, S.2.2.2.2.2.2.2.2.2.2.2.2.2.2.2.2.2.2.2.2.2.2.2.1, S.2.2.2.2.2.2.2.2.2.2.2.2.2.2.2.2.2.2.2.2.2.2.2.2.1, S.2.2.2.2.2.2.2.2.2.2.2.2.2.2.2.2.2.2.2.2.2.2.2.2.2.1, S.2.2.2.2.2.2.2.2.2.2.2.2.2.2.2.2.2.2.2.2.2.2.2.2.2.2.1, v, S.2.2.2.2.2.2.2.2.2.2.2.2.2.2.2.2.2.2.2.2.2.2.2.2.2.2.2.2)
def m_paid (S : MS) : (Fin 64 → Int64) := S.2.2.2.2.2.2.2.2.2.2.2.2.2.2.2.2.2.2.2.2.2.2.2.2.2.2.2.2.1
def ms_paid (S : MS) (v : (Fin 64 → Int64)) : MS := (S.1, S.2.1, S.2.2.1, S.2.2.2.1, S.2.2.2.2.1, S.2.2.2.2.2.1, S.2.2.2.2.2.2.1, S.2.2.2.2.2.2.2.1, S.2.2.2.2.2.2.2.2.1, S.2.2.2.2.2.2.2.2.2.1, S.2.2.2.2.2.2.2.2.2.2.1, S.2.2.2.2.2.2.2.2.2.2.2.1, S.2.2.2.2.2.2.2.2.2.2.2.2.1, S.2.2.2.2.2.2.2.2.2.2.2.2.2.1, S.2.2.2.2.2.2.2.2.2.2.2.2.2.2.1, S.2.2.2.2.2.2.2.2.2.2.2.2.2.2.2.1, S.2.2.2.2.2.2.2.2.2.2.2.2.2.2.2.2.1, S.2.2.2.2.2.2.2.2.2.2.2.2.2.2.2.2.2.1, S.2.2.2.2.2.2.2.2.2.2.2.2.2.2.2.2.2.2.1, S.2.2.2.2.2.2.2.2.2.2.2.2.2.2.2.2.2.2.2.1, S.2.2.2.2.2.2.2.2.2.2.2.2.2.2.2.2.2.2.2.2.1, S.2.2.2.2.2.2.2.2.2.2.2.2.2.2.2.2.2.2.2.2.2.1, S.2.2.2.2.2.2.2.2.2.2.2.2.2.2.2.2.2.2.2.2.2.2.1, S.2.2.2.2.2.2.2.2.2.2.2.2.2.2.2.2.2.2.2.2.2.2.2.1, S.2.2.2.2.2.2.2.2.2.2.2.2.2.2.2.2.2.2.2.2.2.2.2.2.1, S.2.2.2.2.2.2.2.2.2.2.2.2.2.2.2.2.2.2.2.2.2.2.2.2.2.1, S.2.2.2.2.2.2.2.2.2.2.2.2.2.2.2.2.2.2.2.2.2.2.2.2.2.2.1, S.2.2.2.2.2.2.2.2.2.2.2.2.2.2.2.2.2.2.2.2.2.2.2.2.2.2.2.1, v, S.2.2.2.2.2.2.2.2.2.2.2.2.2.2.2.2.2.2.2.2.2.2.2.2.2.2.2.2.2)
def m_drawn (S : MS) : Int64 := S.2.2.2.2.2.2.2.2.2.2.2.2.2.2.2.2.2.2.2.2.2.2.2.2.2.2.2.2.2
def ms_drawn (S : MS) (v : Int64) : MS := (S.1, S.2.1, S.2.2.1, S.2.2.2.1, S.2.2.2.2.1, S.2.2.2.2.2.1, S.2.2.2.2.2.2.1, S.2.2.2.2.2.2.2.1, S.2.2.2.2.2.2.2.2.1, S.2.2.2.2.2.2.2.2.2.1, S.2.2.2.2.2.2.2.2.2.2.1, S.2.2.2.2.2.2.2.2.2.2.2.1, S.2.2.2.2.2.2.2.2.2.2.2.2.1, S.2.2.2.2.2.2.2.2.2.2.2.2.2.1, S.2.2.2.2.2.2.2.2.2.2.2.2.2.2.1, S.2.2.2.2.2.2.2.2.2.2.2.2.2.2.2.1, S.2.2.2.2.2.2.2.2.2.2.2.2.2.2.2.2.1, S.2.2.2.2.2.2.2.2.2.2.2.2.2.2.2.2.2.1, S.2.2.2.2.2.2.2.2.2.2.2.2.2.2.2.2.2.2.1, S.2.2.2.2.2.2.2.2.2.2.2.2.2.2.2.2.2.2.2.1, S.2.2.2.2.2.2.2.2.2.2.2.2.2.2.2.2.2.2.2.2.1, S.2.2.2.2.2.2.2.2.2.2.2.2.2.2.2.2.2.2.2.2.2.1, S.2.2.2.2.2.2.2.2.2.2.2.2.2.2.2.2.2.2.2.2.2.2.1, S.2.2.2.2.2.2.2.2.2.2.2.2.2.2.2.2.2.2.2.2.2.2.2.1, S.2.2.2.2.2.2.2.2.2.2.2.2.2.2.2.2.2.2.2.2.2.2.2.2.1, S.2.2.2.2.2.2.2.2.2.2.2.2.2.2.2.2.2.2.2.2.2.2.2.2.2.1, S.2.2.2.2.2.2.2.2.2.2.2.2.2.2.2.2.2.2.2.2.2.2.2.2.2.2.1, S.2.2.2.2.2.2.2.2.2.2.2.2.2.2.2.2.2.2.2.2.2.2.2.2.2.2.2.1, S.2.2.2.2.2.2.2.2.2.2.2.2.2.2.2.2.2.2.2.2.2.2.2.2.2.2.2.2.1, v)
