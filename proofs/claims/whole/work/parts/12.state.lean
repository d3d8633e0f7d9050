/-! ===== the states: what the cells of each class hold; the worlds: lists of cells ===== -/
abbrev TS : Type := Int32 × Int32 × (Fin 4 → Int64) × (Fin 24 → Int32) × (Fin 48 → Int32) × (Fin 10 → Int32)
def t_ships (S : TS) : Int32 := S.1
def ts_ships (S : TS) (v : Int32) : TS := (v, S.2)
def t_claims (S : TS) : Int32 := S.2.1
def ts_claims (S : TS) (v : Int32) : TS := (S.1, v, S.2.2)
def t_names (S : TS) : (Fin 4 → Int64) := S.2.2.1
def ts_names (S : TS) (v : (Fin 4 → Int64)) : TS := (S.1, S.2.1, v, S.2.2.2)
def t_shipRows (S : TS) : (Fin 24 → Int32) := S.2.2.2.1
def ts_shipRows (S : TS) (v : (Fin 24 → Int32)) : TS := (S.1, S.2.1, S.2.2.1, v, S.2.2.2.2)
def t_claimRows (S : TS) : (Fin 48 → Int32) := S.2.2.2.2.1
def ts_claimRows (S : TS) (v : (Fin 48 → Int32)) : TS := (S.1, S.2.1, S.2.2.1, S.2.2.2.1, v, S.2.2.2.2.2)
def t_laws (S : TS) : (Fin 10 → Int32) := S.2.2.2.2.2
def ts_laws (S : TS) (v : (Fin 10 → Int32)) : TS := (S.1, S.2.1, S.2.2.1, S.2.2.2.1, S.2.2.2.2.1, v)
def WT (G : GT) (a : Nat → Nat) (S : TS) : va_W := [(a 0, .inr (2, [.int (t_ships S), .int (t_claims S), .ref (a 1), .ref (a 2), .ref (a 3), .ref (a 4)])), (a 1, .inl (G.2.1 1, 4, .inr (.inl (exL (t_names S))))), (a 2, .inl (G.2.1 0, 24, .inl (exI (t_shipRows S)))), (a 3, .inl (G.2.1 0, 48, .inl (exI (t_claimRows S)))), (a 4, .inl (G.2.1 0, 10, .inl (exI (t_laws S))))]
abbrev RS : Type := TS × (Fin 4 → Int32) × (Fin 16 → Int64) × (Fin 64 → Int64) × (Fin 64 → Int64) × (Fin 16 → Int64) × Int32
def r_told (S : RS) : TS := S.1
def rs_told (S : RS) (v : TS) : RS := (v, S.2)
def r_weight (S : RS) : (Fin 4 → Int32) := S.2.1
def rs_weight (S : RS) (v : (Fin 4 → Int32)) : RS := (S.1, v, S.2.2)
def r_backs (S : RS) : (Fin 16 → Int64) := S.2.2.1
def rs_backs (S : RS) (v : (Fin 16 → Int64)) : RS := (S.1, S.2.1, v, S.2.2.2)
def r_owed (S : RS) : (Fin 64 → Int64) := S.2.2.2.1
def rs_owed (S : RS) (v : (Fin 64 → Int64)) : RS := (S.1, S.2.1, S.2.2.1, v, S.2.2.2.2)
def r_paid (S : RS) : (Fin 64 → Int64) := S.2.2.2.2.1
def rs_paid (S : RS) (v : (Fin 64 → Int64)) : RS := (S.1, S.2.1, S.2.2.1, S.2.2.2.1, v, S.2.2.2.2.2)
def r_lacked (S : RS) : (Fin 16 → Int64) := S.2.2.2.2.2.1
def rs_lacked (S : RS) (v : (Fin 16 → Int64)) : RS := (S.1, S.2.1, S.2.2.1, S.2.2.2.1, S.2.2.2.2.1, v, S.2.2.2.2.2.2)
def r_weights (S : RS) : Int32 := S.2.2.2.2.2.2
def rs_weights (S : RS) (v : Int32) : RS := (S.1, S.2.1, S.2.2.1, S.2.2.2.1, S.2.2.2.2.1, S.2.2.2.2.2.1, v)
def WRr (G : GT) (a : Nat → Nat) (S : RS) : va_W := [(a 0, .inr (1, [.ref (a 6), .ref (a 1), .ref (a 2), .ref (a 3), .ref (a 4), .ref (a 5), .int (r_weights S)])), (a 1, .inl (G.2.1 0, 4, .inl (exI (r_weight S)))), (a 2, .inl (G.2.1 1, 16, .inr (.inl (exL (r_backs S))))), (a 3, .inl (G.2.1 1, 64, .inr (.inl (exL (r_owed S))))), (a 4, .inl (G.2.1 1, 64, .inr (.inl (exL (r_paid S))))), (a 5, .inl (G.2.1 1, 16, .inr (.inl (exL (r_lacked S)))))]
def WR (G : GT) (a : Nat → Nat) (S : RS) : va_W := WT G (fun k => a (6 + k)) (r_told S) ++ WRr G a S
abbrev DS : Type := (Fin 600 → Int32) × TS × (Fin 10 → Int32) × Int32 × Int32 × Int32 × Int32 × Int32 × Int32 × Int64 × Int32
def d_bytes (S : DS) : (Fin 600 → Int32) := S.1
def ds_bytes (S : DS) (v : (Fin 600 → Int32)) : DS := (v, S.2)
def d_told (S : DS) : TS := S.2.1
def ds_told (S : DS) (v : TS) : DS := (S.1, v, S.2.2)
def d_lawTold (S : DS) : (Fin 10 → Int32) := S.2.2.1
def ds_lawTold (S : DS) (v : (Fin 10 → Int32)) : DS := (S.1, S.2.1, v, S.2.2.2)
def d_end (S : DS) : Int32 := S.2.2.2.1
def ds_end (S : DS) (v : Int32) : DS := (S.1, S.2.1, S.2.2.1, v, S.2.2.2.2)
def d_next (S : DS) : Int32 := S.2.2.2.2.1
def ds_next (S : DS) (v : Int32) : DS := (S.1, S.2.1, S.2.2.1, S.2.2.2.1, v, S.2.2.2.2.2)
def d_found (S : DS) : Int32 := S.2.2.2.2.2.1
def ds_found (S : DS) (v : Int32) : DS := (S.1, S.2.1, S.2.2.1, S.2.2.2.1, S.2.2.2.2.1, v, S.2.2.2.2.2.2)
def d_start (S : DS) : Int32 := S.2.2.2.2.2.2.1
def ds_start (S : DS) (v : Int32) : DS := (S.1, S.2.1, S.2.2.1, S.2.2.2.1, S.2.2.2.2.1, S.2.2.2.2.2.1, v, S.2.2.2.2.2.2.2)
def d_token (S : DS) : Int32 := S.2.2.2.2.2.2.2.1
def ds_token (S : DS) (v : Int32) : DS := (S.1, S.2.1, S.2.2.1, S.2.2.2.1, S.2.2.2.2.1, S.2.2.2.2.2.1, S.2.2.2.2.2.2.1, v, S.2.2.2.2.2.2.2.2)
def d_length (S : DS) : Int32 := S.2.2.2.2.2.2.2.2.1
def ds_length (S : DS) (v : Int32) : DS := (S.1, S.2.1, S.2.2.1, S.2.2.2.1, S.2.2.2.2.1, S.2.2.2.2.2.1, S.2.2.2.2.2.2.1, S.2.2.2.2.2.2.2.1, v, S.2.2.2.2.2.2.2.2.2)
def d_letters (S : DS) : Int64 := S.2.2.2.2.2.2.2.2.2.1
def ds_letters (S : DS) (v : Int64) : DS := (S.1, S.2.1, S.2.2.1, S.2.2.2.1, S.2.2.2.2.1, S.2.2.2.2.2.1, S.2.2.2.2.2.2.1, S.2.2.2.2.2.2.2.1, S.2.2.2.2.2.2.2.2.1, v, S.2.2.2.2.2.2.2.2.2.2)
def d_number (S : DS) : Int32 := S.2.2.2.2.2.2.2.2.2.2
def ds_number (S : DS) (v : Int32) : DS := (S.1, S.2.1, S.2.2.1, S.2.2.2.1, S.2.2.2.2.1, S.2.2.2.2.2.1, S.2.2.2.2.2.2.1, S.2.2.2.2.2.2.2.1, S.2.2.2.2.2.2.2.2.1, S.2.2.2.2.2.2.2.2.2.1, v)
def WDr (G : GT) (a : Nat → Nat) (S : DS) : va_W := [(a 0, .inr (0, [.ref (a 1), .ref (a 3), .ref (a 2), .int (d_end S), .int (d_next S), .int (d_found S), .int (d_start S), .int (d_token S), .int (d_length S), .long (d_letters S), .int (d_number S)])), (a 1, .inl (G.2.1 2, 600, .inl (exI (d_bytes S)))), (a 2, .inl (G.2.1 3, 10, .inl (exI (d_lawTold S))))]
def WD (G : GT) (a : Nat → Nat) (S : DS) : va_W := WT G (fun k => a (3 + k)) (d_told S) ++ WDr G a S
abbrev XS : Type := DS × TS × RS × (Fin 10 → TS) × (Fin 2 → TS) × (Fin 2 → Int32) × Int32 × Int32 × Int32 × Int32 × Int32 × Int32
def x_reader (S : XS) : DS := S.1
def xs_reader (S : XS) (v : DS) : XS := (v, S.2)
def x_now (S : XS) : TS := S.2.1
def xs_now (S : XS) (v : TS) : XS := (S.1, v, S.2.2)
def x_reckoning (S : XS) : RS := S.2.2.1
def xs_reckoning (S : XS) (v : RS) : XS := (S.1, S.2.1, v, S.2.2.2)
def x_earlier (S : XS) : (Fin 10 → TS) := S.2.2.2.1
def xs_earlier (S : XS) (v : (Fin 10 → TS)) : XS := (S.1, S.2.1, S.2.2.1, v, S.2.2.2.2)
def x_images (S : XS) : (Fin 2 → TS) := S.2.2.2.2.1
def xs_images (S : XS) (v : (Fin 2 → TS)) : XS := (S.1, S.2.1, S.2.2.1, S.2.2.2.1, v, S.2.2.2.2.2)
def x_kept (S : XS) : (Fin 2 → Int32) := S.2.2.2.2.2.1
def xs_kept (S : XS) (v : (Fin 2 → Int32)) : XS := (S.1, S.2.1, S.2.2.1, S.2.2.2.1, S.2.2.2.2.1, v, S.2.2.2.2.2.2)
def x_tapeLength (S : XS) : Int32 := S.2.2.2.2.2.2.1
def xs_tapeLength (S : XS) (v : Int32) : XS := (S.1, S.2.1, S.2.2.1, S.2.2.2.1, S.2.2.2.2.1, S.2.2.2.2.2.1, v, S.2.2.2.2.2.2.2)
def x_undoable (S : XS) : Int32 := S.2.2.2.2.2.2.2.1
def xs_undoable (S : XS) (v : Int32) : XS := (S.1, S.2.1, S.2.2.1, S.2.2.2.1, S.2.2.2.2.1, S.2.2.2.2.2.1, S.2.2.2.2.2.2.1, v, S.2.2.2.2.2.2.2.2)
def x_nextAct (S : XS) : Int32 := S.2.2.2.2.2.2.2.2.1
def xs_nextAct (S : XS) (v : Int32) : XS := (S.1, S.2.1, S.2.2.1, S.2.2.2.1, S.2.2.2.2.1, S.2.2.2.2.2.1, S.2.2.2.2.2.2.1, S.2.2.2.2.2.2.2.1, v, S.2.2.2.2.2.2.2.2.2)
def x_latestTrouble (S : XS) : Int32 := S.2.2.2.2.2.2.2.2.2.1
def xs_latestTrouble (S : XS) (v : Int32) : XS := (S.1, S.2.1, S.2.2.1, S.2.2.2.1, S.2.2.2.2.1, S.2.2.2.2.2.1, S.2.2.2.2.2.2.1, S.2.2.2.2.2.2.2.1, S.2.2.2.2.2.2.2.2.1, v, S.2.2.2.2.2.2.2.2.2.2)
def x_latestPlace (S : XS) : Int32 := S.2.2.2.2.2.2.2.2.2.2.1
def xs_latestPlace (S : XS) (v : Int32) : XS := (S.1, S.2.1, S.2.2.1, S.2.2.2.1, S.2.2.2.2.1, S.2.2.2.2.2.1, S.2.2.2.2.2.2.1, S.2.2.2.2.2.2.2.1, S.2.2.2.2.2.2.2.2.1, S.2.2.2.2.2.2.2.2.2.1, v, S.2.2.2.2.2.2.2.2.2.2.2)
def x_latestFault (S : XS) : Int32 := S.2.2.2.2.2.2.2.2.2.2.2
def xs_latestFault (S : XS) (v : Int32) : XS := (S.1, S.2.1, S.2.2.1, S.2.2.2.1, S.2.2.2.2.1, S.2.2.2.2.2.1, S.2.2.2.2.2.2.1, S.2.2.2.2.2.2.2.1, S.2.2.2.2.2.2.2.2.1, S.2.2.2.2.2.2.2.2.2.1, S.2.2.2.2.2.2.2.2.2.2.1, v)
def WX0 (G : GT) (a : Nat → Nat) (S : XS) : va_W := [(a 0, .inr (3, [.ref (a 4), .ref (a 12), .ref (a 17), .ref (a 1), .ref (a 2), .ref (a 3), .int (x_tapeLength S), .int (x_undoable S), .int (x_nextAct S), .int (x_latestTrouble S), .int (x_latestPlace S), .int (x_latestFault S)])), (a 1, .inl (G.2.1 4, 10, .inr (.inr (.inr (.inr (fun j => some (a (28 + 5 * j)))))))), (a 2, .inl (G.2.1 4, 2, .inr (.inr (.inr (.inr (fun j => some (a (78 + 5 * j)))))))), (a 3, .inl (G.2.1 3, 2, .inl (exI (x_kept S))))]
def WP (G : GT) (a : Nat → Nat) (b : Nat) {n : Nat} (E : Fin n → TS) : va_W := (List.finRange n).flatMap (fun j => WT G (fun k => a (b + 5 * j.1 + k)) (E j))
def WPr (G : GT) (a : Nat → Nat) (b : Nat) {n : Nat} (E : Fin n → TS) (j : Fin n) : va_W := ((List.finRange n).erase j).flatMap (fun j => WT G (fun k => a (b + 5 * j.1 + k)) (E j))
def upT {n : Nat} (E : Fin n → TS) (j : Fin n) (T : TS) : Fin n → TS := fun i => if i = j then T else E i
theorem WP_split (G : GT) (a : Nat → Nat) (b : Nat) {n : Nat} (E : Fin n → TS) (j : Fin n) : (WT G (fun k => a (b + 5 * j.1 + k)) (E j) ++ WPr G a b E j).Perm (WP G a b E) := by
  have h := ((List.perm_cons_erase (List.mem_finRange j)).flatMap_right (fun j => WT G (fun k => a (b + 5 * j.1 + k)) (E j))).symm
  rw [List.flatMap_cons] at h
  exact h
theorem WPr_up (G : GT) (a : Nat → Nat) (b : Nat) {n : Nat} (E : Fin n → TS) (j : Fin n) (T : TS) : WPr G a b (upT E j T) j = WPr G a b E j := by
  unfold WPr
  rw [List.flatMap_def, List.flatMap_def]
  refine congrArg List.flatten (List.map_congr_left fun i hi => ?_)
  have h : i ≠ j := fun e => (List.nodup_finRange n).not_mem_erase (e ▸ hi)
  simp [upT, h]
theorem WP_put (G : GT) (a : Nat → Nat) (b : Nat) {n : Nat} (E : Fin n → TS) (j : Fin n) (T : TS) : (WT G (fun k => a (b + 5 * j.1 + k)) T ++ WPr G a b E j).Perm (WP G a b (upT E j T)) := by
  have h := WP_split G a b (upT E j T) j
  rw [WPr_up] at h
  simpa [upT] using h
def WXe (G : GT) (a : Nat → Nat) (E : Fin 10 → TS) : va_W := WP G a 28 E
def WXi (G : GT) (a : Nat → Nat) (E : Fin 2 → TS) : va_W := WP G a 78 E
def WX (G : GT) (a : Nat → Nat) (S : XS) : va_W := WX0 G a S ++ (WD G (fun k => a (4 + k)) (x_reader S) ++ (WT G (fun k => a (12 + k)) (x_now S) ++ (WR G (fun k => a (17 + k)) (x_reckoning S) ++ (WXe G a (x_earlier S) ++ WXi G a (x_images S)))))
abbrev MS : Type := Int32 × Int32 × Int32 × Int32 × Int32 × (Fin 82 → Int32) × (Fin 82 → Int32) × (Fin 82 → Int32) × (Fin 820 → Int32) × Int32 × (Fin 164 → Int32) × (Fin 2 → Int32) × (Fin 4 → Int64) × (Fin 4 → Int64) × (Fin 600 → Int32) × Int32 × Int32 × Int32 × Int32 × Int32 × Int32 × Int32 × Int64 × Int32 × Int32 × Int32 × (Fin 16 → Int64) × (Fin 16 → Int64) × (Fin 64 → Int64) × Int64
def m_thrown (S : MS) : Int32 := S.1
def ms_thrown (S : MS) (v : Int32) : MS := (v, S.2)
def m_trouble (S : MS) : Int32 := S.2.1
def ms_trouble (S : MS) (v : Int32) : MS := (S.1, v, S.2.2)
def m_place (S : MS) : Int32 := S.2.2.1
def ms_place (S : MS) (v : Int32) : MS := (S.1, S.2.1, v, S.2.2.2)
def m_fault (S : MS) : Int32 := S.2.2.2.1
def ms_fault (S : MS) (v : Int32) : MS := (S.1, S.2.1, S.2.2.1, v, S.2.2.2.2)
def m_told (S : MS) : Int32 := S.2.2.2.2.1
def ms_told (S : MS) (v : Int32) : MS := (S.1, S.2.1, S.2.2.1, S.2.2.2.1, v, S.2.2.2.2.2)
def m_s (S : MS) : (Fin 82 → Int32) := S.2.2.2.2.2.1
def ms_s (S : MS) (v : (Fin 82 → Int32)) : MS := (S.1, S.2.1, S.2.2.1, S.2.2.2.1, S.2.2.2.2.1, v, S.2.2.2.2.2.2)
def m_w (S : MS) : (Fin 82 → Int32) := S.2.2.2.2.2.2.1
def ms_w (S : MS) (v : (Fin 82 → Int32)) : MS := (S.1, S.2.1, S.2.2.1, S.2.2.2.1, S.2.2.2.2.1, S.2.2.2.2.2.1, v, S.2.2.2.2.2.2.2)
def m_read (S : MS) : (Fin 82 → Int32) := S.2.2.2.2.2.2.2.1
def ms_read (S : MS) (v : (Fin 82 → Int32)) : MS := (S.1, S.2.1, S.2.2.1, S.2.2.2.1, S.2.2.2.2.1, S.2.2.2.2.2.1, S.2.2.2.2.2.2.1, v, S.2.2.2.2.2.2.2.2)
def m_past (S : MS) : (Fin 820 → Int32) := S.2.2.2.2.2.2.2.2.1
def ms_past (S : MS) (v : (Fin 820 → Int32)) : MS := (S.1, S.2.1, S.2.2.1, S.2.2.2.1, S.2.2.2.2.1, S.2.2.2.2.2.1, S.2.2.2.2.2.2.1, S.2.2.2.2.2.2.2.1, v, S.2.2.2.2.2.2.2.2.2)
def m_acts (S : MS) : Int32 := S.2.2.2.2.2.2.2.2.2.1
def ms_acts (S : MS) (v : Int32) : MS := (S.1, S.2.1, S.2.2.1, S.2.2.2.1, S.2.2.2.2.1, S.2.2.2.2.2.1, S.2.2.2.2.2.2.1, S.2.2.2.2.2.2.2.1, S.2.2.2.2.2.2.2.2.1, v, S.2.2.2.2.2.2.2.2.2.2)
def m_kept (S : MS) : (Fin 164 → Int32) := S.2.2.2.2.2.2.2.2.2.2.1
def ms_kept (S : MS) (v : (Fin 164 → Int32)) : MS := (S.1, S.2.1, S.2.2.1, S.2.2.2.1, S.2.2.2.2.1, S.2.2.2.2.2.1, S.2.2.2.2.2.2.1, S.2.2.2.2.2.2.2.1, S.2.2.2.2.2.2.2.2.1, S.2.2.2.2.2.2.2.2.2.1, v, S.2.2.2.2.2.2.2.2.2.2.2)
def m_isKept (S : MS) : (Fin 2 → Int32) := S.2.2.2.2.2.2.2.2.2.2.2.1
def ms_isKept (S : MS) (v : (Fin 2 → Int32)) : MS := (S.1, S.2.1, S.2.2.1, S.2.2.2.1, S.2.2.2.2.1, S.2.2.2.2.2.1, S.2.2.2.2.2.2.1, S.2.2.2.2.2.2.2.1, S.2.2.2.2.2.2.2.2.1, S.2.2.2.2.2.2.2.2.2.1, S.2.2.2.2.2.2.2.2.2.2.1, v, S.2.2.2.2.2.2.2.2.2.2.2.2)
def m_names (S : MS) : (Fin 4 → Int64) := S.2.2.2.2.2.2.2.2.2.2.2.2.1
def ms_names (S : MS) (v : (Fin 4 → Int64)) : MS := (S.1, S.2.1, S.2.2.1, S.2.2.2.1, S.2.2.2.2.1, S.2.2.2.2.2.1, S.2.2.2.2.2.2.1, S.2.2.2.2.2.2.2.1, S.2.2.2.2.2.2.2.2.1, S.2.2.2.2.2.2.2.2.2.1, S.2.2.2.2.2.2.2.2.2.2.1, S.2.2.2.2.2.2.2.2.2.2.2.1, v, S.2.2.2.2.2.2.2.2.2.2.2.2.2)
def m_readNames (S : MS) : (Fin 4 → Int64) := S.2.2.2.2.2.2.2.2.2.2.2.2.2.1
def ms_readNames (S : MS) (v : (Fin 4 → Int64)) : MS := (S.1, S.2.1, S.2.2.1, S.2.2.2.1, S.2.2.2.2.1, S.2.2.2.2.2.1, S.2.2.2.2.2.2.1, S.2.2.2.2.2.2.2.1, S.2.2.2.2.2.2.2.2.1, S.2.2.2.2.2.2.2.2.2.1, S.2.2.2.2.2.2.2.2.2.2.1, S.2.2.2.2.2.2.2.2.2.2.2.1, S.2.2.2.2.2.2.2.2.2.2.2.2.1, v, S.2.2.2.2.2.2.2.2.2.2.2.2.2.2)
def m_tape (S : MS) : (Fin 600 → Int32) := S.2.2.2.2.2.2.2.2.2.2.2.2.2.2.1
def ms_tape (S : MS) (v : (Fin 600 → Int32)) : MS := (S.1, S.2.1, S.2.2.1, S.2.2.2.1, S.2.2.2.2.1, S.2.2.2.2.2.1, S.2.2.2.2.2.2.1, S.2.2.2.2.2.2.2.1, S.2.2.2.2.2.2.2.2.1, S.2.2.2.2.2.2.2.2.2.1, S.2.2.2.2.2.2.2.2.2.2.1, S.2.2.2.2.2.2.2.2.2.2.2.1, S.2.2.2.2.2.2.2.2.2.2.2.2.1, S.2.2.2.2.2.2.2.2.2.2.2.2.2.1, v, S.2.2.2.2.2.2.2.2.2.2.2.2.2.2.2)
def m_taped (S : MS) : Int32 := S.2.2.2.2.2.2.2.2.2.2.2.2.2.2.2.1
def ms_taped (S : MS) (v : Int32) : MS := (S.1, S.2.1, S.2.2.1, S.2.2.2.1, S.2.2.2.2.1, S.2.2.2.2.2.1, S.2.2.2.2.2.2.1, S.2.2.2.2.2.2.2.1, S.2.2.2.2.2.2.2.2.1, S.2.2.2.2.2.2.2.2.2.1, S.2.2.2.2.2.2.2.2.2.2.1, S.2.2.2.2.2.2.2.2.2.2.2.1, S.2.2.2.2.2.2.2.2.2.2.2.2.1, S.2.2.2.2.2.2.2.2.2.2.2.2.2.1, S.2.2.2.2.2.2.2.2.2.2.2.2.2.2.1, v, S.2.2.2.2.2.2.2.2.2.2.2.2.2.2.2.2)
def m_length (S : MS) : Int32 := S.2.2.2.2.2.2.2.2.2.2.2.2.2.2.2.2.1
def ms_length (S : MS) (v : Int32) : MS := (S.1, S.2.1, S.2.2.1, S.2.2.2.1, S.2.2.2.2.1, S.2.2.2.2.2.1, S.2.2.2.2.2.2.1, S.2.2.2.2.2.2.2.1, S.2.2.2.2.2.2.2.2.1, S.2.2.2.2.2.2.2.2.2.1, S.2.2.2.2.2.2.2.2.2.2.1, S.2.2.2.2.2.2.2.2.2.2.2.1, S.2.2.2.2.2.2.2.2.2.2.2.2.1, S.2.2.2.2.2.2.2.2.2.2.2.2.2.1, S.2.2.2.2.2.2.2.2.2.2.2.2.2.2.1, S.2.2.2.2.2.2.2.2.2.2.2.2.2.2.2.1, v, S.2.2.2.2.2.2.2.2.2.2.2.2.2.2.2.2.2)
def m_next (S : MS) : Int32 := S.2.2.2.2.2.2.2.2.2.2.2.2.2.2.2.2.2.1
def ms_next (S : MS) (v : Int32) : MS := (S.1, S.2.1, S.2.2.1, S.2.2.2.1, S.2.2.2.2.1, S.2.2.2.2.2.1, S.2.2.2.2.2.2.1, S.2.2.2.2.2.2.2.1, S.2.2.2.2.2.2.2.2.1, S.2.2.2.2.2.2.2.2.2.1, S.2.2.2.2.2.2.2.2.2.2.1, S.2.2.2.2.2.2.2.2.2.2.2.1, S.2.2.2.2.2.2.2.2.2.2.2.2.1, S.2.2.2.2.2.2.2.2.2.2.2.2.2.1, S.2.2.2.2.2.2.2.2.2.2.2.2.2.2.1, S.2.2.2.2.2.2.2.2.2.2.2.2.2.2.2.1, S.2.2.2.2.2.2.2.2.2.2.2.2.2.2.2.2.1, v, S.2.2.2.2.2.2.2.2.2.2.2.2.2.2.2.2.2.2)
def m_from (S : MS) : Int32 := S.2.2.2.2.2.2.2.2.2.2.2.2.2.2.2.2.2.2.1
def ms_from (S : MS) (v : Int32) : MS := (S.1, S.2.1, S.2.2.1, S.2.2.2.1, S.2.2.2.2.1, S.2.2.2.2.2.1, S.2.2.2.2.2.2.1, S.2.2.2.2.2.2.2.1, S.2.2.2.2.2.2.2.2.1, S.2.2.2.2.2.2.2.2.2.1, S.2.2.2.2.2.2.2.2.2.2.1, S.2.2.2.2.2.2.2.2.2.2.2.1, S.2.2.2.2.2.2.2.2.2.2.2.2.1, S.2.2.2.2.2.2.2.2.2.2.2.2.2.1, S.2.2.2.2.2.2.2.2.2.2.2.2.2.2.1, S.2.2.2.2.2.2.2.2.2.2.2.2.2.2.2.1, S.2.2.2.2.2.2.2.2.2.2.2.2.2.2.2.2.1, S.2.2.2.2.2.2.2.2.2.2.2.2.2.2.2.2.2.1, v, S.2.2.2.2.2.2.2.2.2.2.2.2.2.2.2.2.2.2.2)
def m_sort (S : MS) : Int32 := S.2.2.2.2.2.2.2.2.2.2.2.2.2.2.2.2.2.2.2.1
def ms_sort (S : MS) (v : Int32) : MS := (S.1, S.2.1, S.2.2.1, S.2.2.2.1, S.2.2.2.2.1, S.2.2.2.2.2.1, S.2.2.2.2.2.2.1, S.2.2.2.2.2.2.2.1, S.2.2.2.2.2.2.2.2.1, S.2.2.2.2.2.2.2.2.2.1, S.2.2.2.2.2.2.2.2.2.2.1, S.2.2.2.2.2.2.2.2.2.2.2.1, S.2.2.2.2.2.2.2.2.2.2.2.2.1, S.2.2.2.2.2.2.2.2.2.2.2.2.2.1, S.2.2.2.2.2.2.2.2.2.2.2.2.2.2.1, S.2.2.2.2.2.2.2.2.2.2.2.2.2.2.2.1, S.2.2.2.2.2.2.2.2.2.2.2.2.2.2.2.2.1, S.2.2.2.2.2.2.2.2.2.2.2.2.2.2.2.2.2.1, S.2.2.2.2.2.2.2.2.2.2.2.2.2.2.2.2.2.2.1, v, S.2.2.2.2.2.2.2.2.2.2.2.2.2.2.2.2.2.2.2.2)
def m_many (S : MS) : Int32 := S.2.2.2.2.2.2.2.2.2.2.2.2.2.2.2.2.2.2.2.2.1
def ms_many (S : MS) (v : Int32) : MS := (S.1, S.2.1, S.2.2.1, S.2.2.2.1, S.2.2.2.2.1, S.2.2.2.2.2.1, S.2.2.2.2.2.2.1, S.2.2.2.2.2.2.2.1, S.2.2.2.2.2.2.2.2.1, S.2.2.2.2.2.2.2.2.2.1, S.2.2.2.2.2.2.2.2.2.2.1, S.2.2.2.2.2.2.2.2.2.2.2.1, S.2.2.2.2.2.2.2.2.2.2.2.2.1, S.2.2.2.2.2.2.2.2.2.2.2.2.2.1, S.2.2.2.2.2.2.2.2.2.2.2.2.2.2.1, S.2.2.2.2.2.2.2.2.2.2.2.2.2.2.2.1, S.2.2.2.2.2.2.2.2.2.2.2.2.2.2.2.2.1, S.2.2.2.2.2.2.2.2.2.2.2.2.2.2.2.2.2.1, S.2.2.2.2.2.2.2.2.2.2.2.2.2.2.2.2.2.2.1, S.2.2.2.2.2.2.2.2.2.2.2.2.2.2.2.2.2.2.2.1, v, S.2.2.2.2.2.2.2.2.2.2.2.2.2.2.2.2.2.2.2.2.2)
def m_number (S : MS) : Int32 := S.2.2.2.2.2.2.2.2.2.2.2.2.2.2.2.2.2.2.2.2.2.1
def ms_number (S : MS) (v : Int32) : MS := (S.1, S.2.1, S.2.2.1, S.2.2.2.1, S.2.2.2.2.1, S.2.2.2.2.2.1, S.2.2.2.2.2.2.1, S.2.2.2.2.2.2.2.1, S.2.2.2.2.2.2.2.2.1, S.2.2.2.2.2.2.2.2.2.1, S.2.2.2.2.2.2.2.2.2.2.1, S.2.2.2.2.2.2.2.2.2.2.2.1, S.2.2.2.2.2.2.2.2.2.2.2.2.1, S.2.2.2.2.2.2.2.2.2.2.2.2.2.1, S.2.2.2.2.2.2.2.2.2.2.2.2.2.2.1, S.2.2.2.2.2.2.2.2.2.2.2.2.2.2.2.1, S.2.2.2.2.2.2.2.2.2.2.2.2.2.2.2.2.1, S.2.2.2.2.2.2.2.2.2.2.2.2.2.2.2.2.2.1, S.2.2.2.2.2.2.2.2.2.2.2.2.2.2.2.2.2.2.1, S.2.2.2.2.2.2.2.2.2.2.2.2.2.2.2.2.2.2.2.1, S.2.2.2.2.2.2.2.2.2.2.2.2.2.2.2.2.2.2.2.2.1, v, S.2.2.2.2.2.2.2.2.2.2.2.2.2.2.2.2.2.2.2.2.2.2)
def m_word (S : MS) : Int64 := S.2.2.2.2.2.2.2.2.2.2.2.2.2.2.2.2.2.2.2.2.2.2.1
def ms_word (S : MS) (v : Int64) : MS := (S.1, S.2.1, S.2.2.1, S.2.2.2.1, S.2.2.2.2.1, S.2.2.2.2.2.1, S.2.2.2.2.2.2.1, S.2.2.2.2.2.2.2.1, S.2.2.2.2.2.2.2.2.1, S.2.2.2.2.2.2.2.2.2.1, S.2.2.2.2.2.2.2.2.2.2.1, S.2.2.2.2.2.2.2.2.2.2.2.1, S.2.2.2.2.2.2.2.2.2.2.2.2.1, S.2.2.2.2.2.2.2.2.2.2.2.2.2.1, S.2.2.2.2.2.2.2.2.2.2.2.2.2.2.1, S.2.2.2.2.2.2.2.2.2.2.2.2.2.2.2.1, S.2.2.2.2.2.2.2.2.2.2.2.2.2.2.2.2.1, S.2.2.2.2.2.2.2.2.2.2.2.2.2.2.2.2.2.1, S.2.2.2.2.2.2.2.2.2.2.2.2.2.2.2.2.2.2.1, S.2.2.2.2.2.2.2.2.2.2.2.2.2.2.2.2.2.2.2.1, S.2.2.2.2.2.2.2.2.2.2.2.2.2.2.2.2.2.2.2.2.1, S.2.2.2.2.2.2.2.2.2.2.2.2.2.2.2.2.2.2.2.2.2.1, v, S.2.2.2.2.2.2.2.2.2.2.2.2.2.2.2.2.2.2.2.2.2.2.2)
def m_wrong (S : MS) : Int32 := S.2.2.2.2.2.2.2.2.2.2.2.2.2.2.2.2.2.2.2.2.2.2.2.1
def ms_wrong (S : MS) (v : Int32) : MS := (S.1, S.2.1, S.2.2.1, S.2.2.2.1, S.2.2.2.2.1, S.2.2.2.2.2.1, S.2.2.2.2.2.2.1, S.2.2.2.2.2.2.2.1, S.2.2.2.2.2.2.2.2.1, S.2.2.2.2.2.2.2.2.2.1, S.2.2.2.2.2.2.2.2.2.2.1, S.2.2.2.2.2.2.2.2.2.2.2.1, S.2.2.2.2.2.2.2.2.2.2.2.2.1, S.2.2.2.2.2.2.2.2.2.2.2.2.2.1, S.2.2.2.2.2.2.2.2.2.2.2.2.2.2.1, S.2.2.2.2.2.2.2.2.2.2.2.2.2.2.2.1, S.2.2.2.2.2.2.2.2.2.2.2.2.2.2.2.2.1, S.2.2.2.2.2.2.2.2.2.2.2.2.2.2.2.2.2.1, S.2.2.2.2.2.2.2.2.2.2.2.2.2.2.2.2.2.2.1, S.2.2.2.2.2.2.2.2.2.2.2.2.2.2.2.2.2.2.2.1, S.2.2.2.2.2.2.2.2.2.2.2.2.2.2.2.2.2.2.2.2.1, S.2.2.2.2.2.2.2.2.2.2.2.2.2.2.2.2.2.2.2.2.2.1, S.2.2.2.2.2.2.2.2.2.2.2.2.2.2.2.2.2.2.2.2.2.2.1, v, S.2.2.2.2.2.2.2.2.2.2.2.2.2.2.2.2.2.2.2.2.2.2.2.2)
def m_wrongAt (S : MS) : Int32 := S.2.2.2.2.2.2.2.2.2.2.2.2.2.2.2.2.2.2.2.2.2.2.2.2.1
def ms_wrongAt (S : MS) (v : Int32) : MS := (S.1, S.2.1, S.2.2.1, S.2.2.2.1, S.2.2.2.2.1, S.2.2.2.2.2.1, S.2.2.2.2.2.2.1, S.2.2.2.2.2.2.2.1, S.2.2.2.2.2.2.2.2.1, S.2.2.2.2.2.2.2.2.2.1, S.2.2.2.2.2.2.2.2.2.2.1, S.2.2.2.2.2.2.2.2.2.2.2.1, S.2.2.2.2.2.2.2.2.2.2.2.2.1, S.2.2.2.2.2.2.2.2.2.2.2.2.2.1, S.2.2.2.2.2.2.2.2.2.2.2.2.2.2.1, S.2.2.2.2.2.2.2.2.2.2.2.2.2.2.2.1, S.2.2.2.2.2.2.2.2.2.2.2.2.2.2.2.2.1, S.2.2.2.2.2.2.2.2.2.2.2.2.2.2.2.2.2.1, S.2.2.2.2.2.2.2.2.2.2.2.2.2.2.2.2.2.2.1, S.2.2.2.2.2.2.2.2.2.2.2.2.2.2.2.2.2.2.2.1, S.2.2.2.2.2.2.2.2.2.2.2.2.2.2.2.2.2.2.2.2.1, S.2.2.2.2.2.2.2.2.2.2.2.2.2.2.2.2.2.2.2.2.2.1, S.2.2.2.2.2.2.2.2.2.2.2.2.2.2.2.2.2.2.2.2.2.2.1, S.2.2.2.2.2.2.2.2.2.2.2.2.2.2.2.2.2.2.2.2.2.2.2.1, v, S.2.2.2.2.2.2.2.2.2.2.2.2.2.2.2.2.2.2.2.2.2.2.2.2.2)
def m_toldOnce (S : MS) : Int32 := S.2.2.2.2.2.2.2.2.2.2.2.2.2.2.2.2.2.2.2.2.2.2.2.2.2.1
def ms_toldOnce (S : MS) (v : Int32) : MS := (S.1, S.2.1, S.2.2.1, S.2.2.2.1, S.2.2.2.2.1, S.2.2.2.2.2.1, S.2.2.2.2.2.2.1, S.2.2.2.2.2.2.2.1, S.2.2.2.2.2.2.2.2.1, S.2.2.2.2.2.2.2.2.2.1, S.2.2.2.2.2.2.2.2.2.2.1, S.2.2.2.2.2.2.2.2.2.2.2.1, S.2.2.2.2.2.2.2.2.2.2.2.2.1, S.2.2.2.2.2.2.2.2.2.2.2.2.2.1, S.2.2.2.2.2.2.2.2.2.2.2.2.2.2.1, S.2.2.2.2.2.2.2.2.2.2.2.2.2.2.2.1, S.2.2.2.2.2.2.2.2.2.2.2.2.2.2.2.2.1, S.2.2.2.2.2.2.2.2.2.2.2.2.2.2.2.2.2.1, S.2.2.2.2.2.2.2.2.2.2.2.2.2.2.2.2.2.2.1, S.2.2.2.2.2.2.2.2.2.2.2.2.2.2.2.2.2.2.2.1, S.2.2.2.2.2.2.2.2.2.2.2.2.2.2.2.2.2.2.2.2.1, S.2.2.2.2.2.2.2.2.2.2.2.2.2.2.2.2.2.2.2.2.2.1, S.2.2.2.2.2.2.2.2.2.2.2.2.2.2.2.2.2.2.2.2.2.2.1, S.2.2.2.2.2.2.2.2.2.2.2.2.2.2.2.2.2.2.2.2.2.2.2.1, S.2.2.2.2.2.2.2.2.2.2.2.2.2.2.2.2.2.2.2.2.2.2.2.2.1, v, S.2.2.2.2.2.2.2.2.2.2.2.2.2.2.2.2.2.2.2.2.2.2.2.2.2.2)
def m_owed (S : MS) : (Fin 16 → Int64) := S.2.2.2.2.2.2.2.2.2.2.2.2.2.2.2.2.2.2.2.2.2.2.2.2.2.2.1
def ms_owed (S : MS) (v : (Fin 16 → Int64)) : MS := (S.1, S.2.1, S.2.2.1, S.2.2.2.1, S.2.2.2.2.1, S.2.2.2.2.2.1, S.2.2.2.2.2.2.1, S.2.2.2.2.2.2.2.1, S.2.2.2.2.2.2.2.2.1, S.2.2.2.2.2.2.2.2.2.1, S.2.2.2.2.2.2.2.2.2.2.1, S.2.2.2.2.2.2.2.2.2.2.2.1, S.2.2.2.2.2.2.2.2.2.2.2.2.1, S.2.2.2.2.2.2.2.2.2.2.2.2.2.1, S.2.2.2.2.2.2.2.2.2.2.2.2.2.2.1, S.2.2.2.2.2.2.2.2.2.2.2.2.2.2.2.1, S.2.2.2.2.2.2.2.2.2.2.2.2.2.2.2.2.1, S.2.2.2.2.2.2.2.2.2.2.2.2.2.2.2.2.2.1, S.2.2.2.2.2.2.2.2.2.2.2.2.2.2.2.2.2.2.1, S.2.2.2.2.2.2.2.2.2.2.2.2.2.2.2.2.2.2.2.1, S.2.2.2.2.2.2.2.2.2.2.2.2.2.2.2.2.2.2.2.2.1, S.2.2.2.2.2.2.2.2.2.2.2.2.2.2.2.2.2.2.2.2.2.1, S.2.2.2.2.2.2.2.2.2.2.2.2.2.2.2.2.2.2.2.2.2.2.1, S.2.2.2.2.2.2.2.2.2.2.2.2.2.2.2.2.2.2.2.2.2.2.2.1, S.2.2.2.2.2.2.2.2.2.2.2.2.2.2.2.2.2.2.2.2.2.2.2.2.1, S.2.2.2.2.2.2.2.2.2.2.2.2.2.2.2.2.2.2.2.2.2.2.2.2.2.1, v, S.2.2.2.2.2.2.2.2.2.2.2.2.2.2.2.2.2.2.2.2.2.2.2.2.2.2.2)
def m_out (S : MS) : (Fin 16 → Int64) := S.2.2.2.2.2.2.2.2.2.2.2.2.2.2.2.2.2.2.2.2.2.2.2.2.2.2.2.1
def ms_out (S : MS) (v : (Fin 16 → Int64)) : MS := (S.1, S.2.1, S.2.2.1, S.2.2.2.1, S.2.2.2.2.1, S.2.2.2.2.2.1, S.2.2.2.2.2.2.1, S.2.2.2.2.2.2.2.1, S.2.2.2.2.2.2.2.2.1, S.2.2.2.2.2.2.2.2.2.1, S.2.2.2.2.2.2.2.2.2.2.1, S.2.2.2.2.2.2.2.2.2.2.2.1, S.2.2.2.2.2.2.2.2.2.2.2.2.1, S.2.2.2.2.2.2.2.2.2.2.2.2.2.1, S.2.2.2.2.2.2.2.2.2.2.2.2.2.2.1, S.2.2.2.2.2.2.2.2.2.2.2.2.2.2.2.1, S.2.2.2.2.2.2.2.2.2.2.2.2.2.2.2.2.1, S.2.2.2.2.2.2.2.2.2.2.2.2.2.2.2.2.2.1, S.2.2.2.2.2.2.2.2.2.2.2.2.2.2.2.2.2.2.1, S.2.2.2.2.2.2.2.2.2.2.2.2.2.2.2.2.2.2.2.1, S.2.2.2.2.2.2.2.2.2.2.2.2.2.2.2.2.2.2.2.2.1, S.2.2.2.2.2.2.2.2.2.2.2.2.2.2.2.2.2.2.2.2.2.1, S.2.2.2.2.2.2.2.2.2.2.2.2.2.2.2.2.2.2.2.2.2.2.1, S.2.2.2.2.2.2.2.2.2.2.2.2.2.2.2.2.2.2.2.2.2.2.2.1, S.2.2.2.2.2.2.2.2.2.2.2.2.2.2.2.2.2.2.2.2.2.2.2.2.1, S.2.2.2.2.2.2.2.2.2.2.2.2.2.2.2.2.2.2.2.2.2.2.2.2.2.1, S.2.2.2.2.2.2.2.2.2.2.2.2.2.2.2.2.2.2.2.2.2.2.2.2.2.2.1, v, S.2.2.2.2.2.2.2.2.2.2.2.2.2.2.2.2.2.2.2.2.2.2.2.2.2.2.2.2)
def m_paid (S : MS) : (Fin 64 → Int64) := S.2.2.2.2.2.2.2.2.2.2.2.2.2.2.2.2.2.2.2.2.2.2.2.2.2.2.2.2.1
def ms_paid (S : MS) (v : (Fin 64 → Int64)) : MS := (S.1, S.2.1, S.2.2.1, S.2.2.2.1, S.2.2.2.2.1, S.2.2.2.2.2.1, S.2.2.2.2.2.2.1, S.2.2.2.2.2.2.2.1, S.2.2.2.2.2.2.2.2.1, S.2.2.2.2.2.2.2.2.2.1, S.2.2.2.2.2.2.2.2.2.2.1, S.2.2.2.2.2.2.2.2.2.2.2.1, S.2.2.2.2.2.2.2.2.2.2.2.2.1, S.2.2.2.2.2.2.2.2.2.2.2.2.2.1, S.2.2.2.2.2.2.2.2.2.2.2.2.2.2.1, S.2.2.2.2.2.2.2.2.2.2.2.2.2.2.2.1, S.2.2.2.2.2.2.2.2.2.2.2.2.2.2.2.2.1, S.2.2.2.2.2.2.2.2.2.2.2.2.2.2.2.2.2.1, S.2.2.2.2.2.2.2.2.2.2.2.2.2.2.2.2.2.2.1, S.2.2.2.2.2.2.2.2.2.2.2.2.2.2.2.2.2.2.2.1, S.2.2.2.2.2.2.2.2.2.2.2.2.2.2.2.2.2.2.2.2.1, S.2.2.2.2.2.2.2.2.2.2.2.2.2.2.2.2.2.2.2.2.2.1, S.2.2.2.2.2.2.2.2.2.2.2.2.2.2.2.2.2.2.2.2.2.2.1, S.2.2.2.2.2.2.2.2.2.2.2.2.2.2.2.2.2.2.2.2.2.2.2.1, S.2.2.2.2.2.2.2.2.2.2.2.2.2.2.2.2.2.2.2.2.2.2.2.2.1, S.2.2.2.2.2.2.2.2.2.2.2.2.2.2.2.2.2.2.2.2.2.2.2.2.2.1, S.2.2.2.2.2.2.2.2.2.2.2.2.2.2.2.2.2.2.2.2.2.2.2.2.2.2.1, S.2.2.2.2.2.2.2.2.2.2.2.2.2.2.2.2.2.2.2.2.2.2.2.2.2.2.2.1, v, S.2.2.2.2.2.2.2.2.2.2.2.2.2.2.2.2.2.2.2.2.2.2.2.2.2.2.2.2.2)
def m_drawn (S : MS) : Int64 := S.2.2.2.2.2.2.2.2.2.2.2.2.2.2.2.2.2.2.2.2.2.2.2.2.2.2.2.2.2
def ms_drawn (S : MS) (v : Int64) : MS := (S.1, S.2.1, S.2.2.1, S.2.2.2.1, S.2.2.2.2.1, S.2.2.2.2.2.1, S.2.2.2.2.2.2.1, S.2.2.2.2.2.2.2.1, S.2.2.2.2.2.2.2.2.1, S.2.2.2.2.2.2.2.2.2.1, S.2.2.2.2.2.2.2.2.2.2.1, S.2.2.2.2.2.2.2.2.2.2.2.1, S.2.2.2.2.2.2.2.2.2.2.2.2.1, S.2.2.2.2.2.2.2.2.2.2.2.2.2.1, S.2.2.2.2.2.2.2.2.2.2.2.2.2.2.1, S.2.2.2.2.2.2.2.2.2.2.2.2.2.2.2.1, S.2.2.2.2.2.2.2.2.2.2.2.2.2.2.2.2.1, S.2.2.2.2.2.2.2.2.2.2.2.2.2.2.2.2.2.1, S.2.2.2.2.2.2.2.2.2.2.2.2.2.2.2.2.2.2.1, S.2.2.2.2.2.2.2.2.2.2.2.2.2.2.2.2.2.2.2.1, S.2.2.2.2.2.2.2.2.2.2.2.2.2.2.2.2.2.2.2.2.1, S.2.2.2.2.2.2.2.2.2.2.2.2.2.2.2.2.2.2.2.2.2.1, S.2.2.2.2.2.2.2.2.2.2.2.2.2.2.2.2.2.2.2.2.2.2.1, S.2.2.2.2.2.2.2.2.2.2.2.2.2.2.2.2.2.2.2.2.2.2.2.1, S.2.2.2.2.2.2.2.2.2.2.2.2.2.2.2.2.2.2.2.2.2.2.2.2.1, S.2.2.2.2.2.2.2.2.2.2.2.2.2.2.2.2.2.2.2.2.2.2.2.2.2.1, S.2.2.2.2.2.2.2.2.2.2.2.2.2.2.2.2.2.2.2.2.2.2.2.2.2.2.1, S.2.2.2.2.2.2.2.2.2.2.2.2.2.2.2.2.2.2.2.2.2.2.2.2.2.2.2.1, S.2.2.2.2.2.2.2.2.2.2.2.2.2.2.2.2.2.2.2.2.2.2.2.2.2.2.2.2.1, v)
def WM (G : GT) (a : Nat → Nat) (S : MS) : va_W := [(a 0, .inr (4, [.int (m_thrown S), .int (m_trouble S), .int (m_place S), .int (m_fault S), .int (m_told S), .ref (a 1), .ref (a 2), .ref (a 3), .ref (a 4), .int (m_acts S), .ref (a 5), .ref (a 6), .ref (a 7), .ref (a 8), .ref (a 9), .int (m_taped S), .int (m_length S), .int (m_next S), .int (m_from S), .int (m_sort S), .int (m_many S), .int (m_number S), .long (m_word S), .int (m_wrong S), .int (m_wrongAt S), .int (m_toldOnce S), .ref (a 10), .ref (a 11), .ref (a 12), .long (m_drawn S)])), (a 1, .inl (G.2.1 0, 82, .inl (exI (m_s S)))), (a 2, .inl (G.2.1 0, 82, .inl (exI (m_w S)))), (a 3, .inl (G.2.1 0, 82, .inl (exI (m_read S)))), (a 4, .inl (G.2.1 0, 820, .inl (exI (m_past S)))), (a 5, .inl (G.2.1 0, 164, .inl (exI (m_kept S)))), (a 6, .inl (G.2.1 3, 2, .inl (exI (m_isKept S)))), (a 7, .inl (G.2.1 1, 4, .inr (.inl (exL (m_names S))))), (a 8, .inl (G.2.1 1, 4, .inr (.inl (exL (m_readNames S))))), (a 9, .inl (G.2.1 0, 600, .inl (exI (m_tape S)))), (a 10, .inl (G.2.1 1, 16, .inr (.inl (exL (m_owed S))))), (a 11, .inl (G.2.1 1, 16, .inr (.inl (exL (m_out S))))), (a 12, .inl (G.2.1 1, 64, .inr (.inl (exL (m_paid S)))))]
theorem pR_told (G : GT) (a : Nat → Nat) (S : RS) (T : TS) : (WT G (fun k => a (6 + k)) T ++ WRr G a S).Perm (WR G a (rs_told S T)) := List.Perm.refl _
theorem pD_told (G : GT) (a : Nat → Nat) (S : DS) (T : TS) : (WT G (fun k => a (3 + k)) T ++ WDr G a S).Perm (WD G a (ds_told S T)) := List.Perm.refl _
theorem pR_owed (G : GT) (a : Nat → Nat) (S : RS) (f : (Fin 64 → Int64)) : (([(a 3, .inl (G.2.1 1, 64, .inr (.inl (exL f))))] : va_W) ++ ((WT G (fun k => a (6 + k)) (r_told S) ++ ([(a 0, .inr (1, [.ref (a 6), .ref (a 1), .ref (a 2), .ref (a 3), .ref (a 4), .ref (a 5), .int (r_weights S)])), (a 1, .inl (G.2.1 0, 4, .inl (exI (r_weight S)))), (a 2, .inl (G.2.1 1, 16, .inr (.inl (exL (r_backs S)))))] : va_W)) ++ ([(a 4, .inl (G.2.1 1, 64, .inr (.inl (exL (r_paid S))))), (a 5, .inl (G.2.1 1, 16, .inr (.inl (exL (r_lacked S)))))] : va_W))).Perm (WR G a (rs_owed S f)) := pm1 _ _ _
theorem pR_paid (G : GT) (a : Nat → Nat) (S : RS) (f : (Fin 64 → Int64)) : (([(a 4, .inl (G.2.1 1, 64, .inr (.inl (exL f))))] : va_W) ++ ((WT G (fun k => a (6 + k)) (r_told S) ++ ([(a 0, .inr (1, [.ref (a 6), .ref (a 1), .ref (a 2), .ref (a 3), .ref (a 4), .ref (a 5), .int (r_weights S)])), (a 1, .inl (G.2.1 0, 4, .inl (exI (r_weight S)))), (a 2, .inl (G.2.1 1, 16, .inr (.inl (exL (r_backs S))))), (a 3, .inl (G.2.1 1, 64, .inr (.inl (exL (r_owed S)))))] : va_W)) ++ ([(a 5, .inl (G.2.1 1, 16, .inr (.inl (exL (r_lacked S)))))] : va_W))).Perm (WR G a (rs_paid S f)) := pm1 _ _ _
theorem pR_backs (G : GT) (a : Nat → Nat) (S : RS) (f : (Fin 16 → Int64)) : (([(a 2, .inl (G.2.1 1, 16, .inr (.inl (exL f))))] : va_W) ++ ((WT G (fun k => a (6 + k)) (r_told S) ++ ([(a 0, .inr (1, [.ref (a 6), .ref (a 1), .ref (a 2), .ref (a 3), .ref (a 4), .ref (a 5), .int (r_weights S)])), (a 1, .inl (G.2.1 0, 4, .inl (exI (r_weight S))))] : va_W)) ++ ([(a 3, .inl (G.2.1 1, 64, .inr (.inl (exL (r_owed S))))), (a 4, .inl (G.2.1 1, 64, .inr (.inl (exL (r_paid S))))), (a 5, .inl (G.2.1 1, 16, .inr (.inl (exL (r_lacked S)))))] : va_W))).Perm (WR G a (rs_backs S f)) := pm1 _ _ _
theorem pM_s (G : GT) (a : Nat → Nat) (S : MS) (f : (Fin 82 → Int32)) : (([(a 1, .inl (G.2.1 0, 82, .inl (exI f)))] : va_W) ++ (([(a 0, .inr (4, [.int (m_thrown S), .int (m_trouble S), .int (m_place S), .int (m_fault S), .int (m_told S), .ref (a 1), .ref (a 2), .ref (a 3), .ref (a 4), .int (m_acts S), .ref (a 5), .ref (a 6), .ref (a 7), .ref (a 8), .ref (a 9), .int (m_taped S), .int (m_length S), .int (m_next S), .int (m_from S), .int (m_sort S), .int (m_many S), .int (m_number S), .long (m_word S), .int (m_wrong S), .int (m_wrongAt S), .int (m_toldOnce S), .ref (a 10), .ref (a 11), .ref (a 12), .long (m_drawn S)]))] : va_W) ++ ([(a 2, .inl (G.2.1 0, 82, .inl (exI (m_w S)))), (a 3, .inl (G.2.1 0, 82, .inl (exI (m_read S)))), (a 4, .inl (G.2.1 0, 820, .inl (exI (m_past S)))), (a 5, .inl (G.2.1 0, 164, .inl (exI (m_kept S)))), (a 6, .inl (G.2.1 3, 2, .inl (exI (m_isKept S)))), (a 7, .inl (G.2.1 1, 4, .inr (.inl (exL (m_names S))))), (a 8, .inl (G.2.1 1, 4, .inr (.inl (exL (m_readNames S))))), (a 9, .inl (G.2.1 0, 600, .inl (exI (m_tape S)))), (a 10, .inl (G.2.1 1, 16, .inr (.inl (exL (m_owed S))))), (a 11, .inl (G.2.1 1, 16, .inr (.inl (exL (m_out S))))), (a 12, .inl (G.2.1 1, 64, .inr (.inl (exL (m_paid S)))))] : va_W))).Perm (WM G a (ms_s S f)) := pm1 _ _ _
theorem pM_w (G : GT) (a : Nat → Nat) (S : MS) (f : (Fin 82 → Int32)) : (([(a 2, .inl (G.2.1 0, 82, .inl (exI f)))] : va_W) ++ (([(a 0, .inr (4, [.int (m_thrown S), .int (m_trouble S), .int (m_place S), .int (m_fault S), .int (m_told S), .ref (a 1), .ref (a 2), .ref (a 3), .ref (a 4), .int (m_acts S), .ref (a 5), .ref (a 6), .ref (a 7), .ref (a 8), .ref (a 9), .int (m_taped S), .int (m_length S), .int (m_next S), .int (m_from S), .int (m_sort S), .int (m_many S), .int (m_number S), .long (m_word S), .int (m_wrong S), .int (m_wrongAt S), .int (m_toldOnce S), .ref (a 10), .ref (a 11), .ref (a 12), .long (m_drawn S)])), (a 1, .inl (G.2.1 0, 82, .inl (exI (m_s S))))] : va_W) ++ ([(a 3, .inl (G.2.1 0, 82, .inl (exI (m_read S)))), (a 4, .inl (G.2.1 0, 820, .inl (exI (m_past S)))), (a 5, .inl (G.2.1 0, 164, .inl (exI (m_kept S)))), (a 6, .inl (G.2.1 3, 2, .inl (exI (m_isKept S)))), (a 7, .inl (G.2.1 1, 4, .inr (.inl (exL (m_names S))))), (a 8, .inl (G.2.1 1, 4, .inr (.inl (exL (m_readNames S))))), (a 9, .inl (G.2.1 0, 600, .inl (exI (m_tape S)))), (a 10, .inl (G.2.1 1, 16, .inr (.inl (exL (m_owed S))))), (a 11, .inl (G.2.1 1, 16, .inr (.inl (exL (m_out S))))), (a 12, .inl (G.2.1 1, 64, .inr (.inl (exL (m_paid S)))))] : va_W))).Perm (WM G a (ms_w S f)) := pm1 _ _ _
theorem pM_owed (G : GT) (a : Nat → Nat) (S : MS) (f : (Fin 16 → Int64)) : (([(a 10, .inl (G.2.1 1, 16, .inr (.inl (exL f))))] : va_W) ++ (([(a 0, .inr (4, [.int (m_thrown S), .int (m_trouble S), .int (m_place S), .int (m_fault S), .int (m_told S), .ref (a 1), .ref (a 2), .ref (a 3), .ref (a 4), .int (m_acts S), .ref (a 5), .ref (a 6), .ref (a 7), .ref (a 8), .ref (a 9), .int (m_taped S), .int (m_length S), .int (m_next S), .int (m_from S), .int (m_sort S), .int (m_many S), .int (m_number S), .long (m_word S), .int (m_wrong S), .int (m_wrongAt S), .int (m_toldOnce S), .ref (a 10), .ref (a 11), .ref (a 12), .long (m_drawn S)])), (a 1, .inl (G.2.1 0, 82, .inl (exI (m_s S)))), (a 2, .inl (G.2.1 0, 82, .inl (exI (m_w S)))), (a 3, .inl (G.2.1 0, 82, .inl (exI (m_read S)))), (a 4, .inl (G.2.1 0, 820, .inl (exI (m_past S)))), (a 5, .inl (G.2.1 0, 164, .inl (exI (m_kept S)))), (a 6, .inl (G.2.1 3, 2, .inl (exI (m_isKept S)))), (a 7, .inl (G.2.1 1, 4, .inr (.inl (exL (m_names S))))), (a 8, .inl (G.2.1 1, 4, .inr (.inl (exL (m_readNames S))))), (a 9, .inl (G.2.1 0, 600, .inl (exI (m_tape S))))] : va_W) ++ ([(a 11, .inl (G.2.1 1, 16, .inr (.inl (exL (m_out S))))), (a 12, .inl (G.2.1 1, 64, .inr (.inl (exL (m_paid S)))))] : va_W))).Perm (WM G a (ms_owed S f)) := pm1 _ _ _
theorem pM_out (G : GT) (a : Nat → Nat) (S : MS) (f : (Fin 16 → Int64)) : (([(a 11, .inl (G.2.1 1, 16, .inr (.inl (exL f))))] : va_W) ++ (([(a 0, .inr (4, [.int (m_thrown S), .int (m_trouble S), .int (m_place S), .int (m_fault S), .int (m_told S), .ref (a 1), .ref (a 2), .ref (a 3), .ref (a 4), .int (m_acts S), .ref (a 5), .ref (a 6), .ref (a 7), .ref (a 8), .ref (a 9), .int (m_taped S), .int (m_length S), .int (m_next S), .int (m_from S), .int (m_sort S), .int (m_many S), .int (m_number S), .long (m_word S), .int (m_wrong S), .int (m_wrongAt S), .int (m_toldOnce S), .ref (a 10), .ref (a 11), .ref (a 12), .long (m_drawn S)])), (a 1, .inl (G.2.1 0, 82, .inl (exI (m_s S)))), (a 2, .inl (G.2.1 0, 82, .inl (exI (m_w S)))), (a 3, .inl (G.2.1 0, 82, .inl (exI (m_read S)))), (a 4, .inl (G.2.1 0, 820, .inl (exI (m_past S)))), (a 5, .inl (G.2.1 0, 164, .inl (exI (m_kept S)))), (a 6, .inl (G.2.1 3, 2, .inl (exI (m_isKept S)))), (a 7, .inl (G.2.1 1, 4, .inr (.inl (exL (m_names S))))), (a 8, .inl (G.2.1 1, 4, .inr (.inl (exL (m_readNames S))))), (a 9, .inl (G.2.1 0, 600, .inl (exI (m_tape S)))), (a 10, .inl (G.2.1 1, 16, .inr (.inl (exL (m_owed S)))))] : va_W) ++ ([(a 12, .inl (G.2.1 1, 64, .inr (.inl (exL (m_paid S)))))] : va_W))).Perm (WM G a (ms_out S f)) := pm1 _ _ _
theorem pm2 (a b w r : va_W) : (w ++ (a ++ (b ++ r))).Perm (a ++ (b ++ (w ++ r))) := (pm1 a w (b ++ r)).trans ((pm1 b w r).append_left a)
theorem pm3 (a b c w r : va_W) : (w ++ (a ++ (b ++ (c ++ r)))).Perm (a ++ (b ++ (c ++ (w ++ r)))) := (pm1 a w _).trans ((pm2 b c w r).append_left a)
theorem pX_reader (G : GT) (a : Nat → Nat) (S : XS) (T : DS) : (WD G (fun k => a (4 + k)) T ++ (WX0 G a S ++ (WT G (fun k => a (12 + k)) (x_now S) ++ (WR G (fun k => a (17 + k)) (x_reckoning S) ++ (WXe G a (x_earlier S) ++ WXi G a (x_images S)))))).Perm (WX G a (xs_reader S T)) := pm1 _ _ _
theorem pX_now (G : GT) (a : Nat → Nat) (S : XS) (T : TS) : (WT G (fun k => a (12 + k)) T ++ (WX0 G a S ++ (WD G (fun k => a (4 + k)) (x_reader S) ++ (WR G (fun k => a (17 + k)) (x_reckoning S) ++ (WXe G a (x_earlier S) ++ WXi G a (x_images S)))))).Perm (WX G a (xs_now S T)) := pm2 _ _ _ _
theorem pX_reckoning (G : GT) (a : Nat → Nat) (S : XS) (T : RS) : (WR G (fun k => a (17 + k)) T ++ (WX0 G a S ++ (WD G (fun k => a (4 + k)) (x_reader S) ++ (WT G (fun k => a (12 + k)) (x_now S) ++ (WXe G a (x_earlier S) ++ WXi G a (x_images S)))))).Perm (WX G a (xs_reckoning S T)) := pm3 _ _ _ _ _
theorem pX_reckoning_told (G : GT) (a : Nat → Nat) (S : XS) (T : TS) : (WT G (fun k => a (17 + (6 + k))) T ++ (WX0 G a S ++ (WD G (fun k => a (4 + k)) (x_reader S) ++ (WT G (fun k => a (12 + k)) (x_now S) ++ (WRr G (fun k => a (17 + k)) (x_reckoning S) ++ (WXe G a (x_earlier S) ++ WXi G a (x_images S))))))).Perm (WX G a (xs_reckoning S (rs_told (x_reckoning S) T))) := pm3 _ _ _ _ _
theorem pRo_told (G : GT) (a b : Nat → Nat) (S : RS) (T T2 : TS) : ((WT G (fun k => a (6 + k)) T ++ WT G b T2) ++ WRr G a S).Perm (WR G a (rs_told S T) ++ WT G b T2) := by
  show ((WT G (fun k => a (6 + k)) T ++ WT G b T2) ++ WRr G a S).Perm ((WT G (fun k => a (6 + k)) T ++ WRr G a S) ++ WT G b T2)
  rw [List.append_assoc, List.append_assoc]
  exact List.perm_append_comm.append_left _
theorem pX_reckoning_now (G : GT) (a : Nat → Nat) (S : XS) (T : RS) : ((WR G (fun k => a (17 + k)) T ++ WT G (fun k => a (12 + k)) (x_now S)) ++ (WX0 G a S ++ (WD G (fun k => a (4 + k)) (x_reader S) ++ (WXe G a (x_earlier S) ++ WXi G a (x_images S))))).Perm (WX G a (xs_reckoning S T)) := (pm2 (WX0 G a S) (WD G (fun k => a (4 + k)) (x_reader S)) (WR G (fun k => a (17 + k)) T ++ WT G (fun k => a (12 + k)) (x_now S)) (WXe G a (x_earlier S) ++ WXi G a (x_images S))).trans (by
  rw [List.append_assoc]
  exact ((pm1 _ _ _).append_left _).append_left _)
theorem pX_now_reader_told (G : GT) (a : Nat → Nat) (S : XS) (T : TS) : ((WT G (fun k => a (12 + k)) T ++ WT G (fun k => a (4 + (3 + k))) (d_told (x_reader S))) ++ (WX0 G a S ++ (WDr G (fun k => a (4 + k)) (x_reader S) ++ (WR G (fun k => a (17 + k)) (x_reckoning S) ++ (WXe G a (x_earlier S) ++ WXi G a (x_images S)))))).Perm (WX G a (xs_now S T)) := (pm1 (WX0 G a S) (WT G (fun k => a (12 + k)) T ++ WT G (fun k => a (4 + (3 + k))) (d_told (x_reader S))) _).trans (by
  show (WX0 G a S ++ ((WT G (fun k => a (12 + k)) T ++ WT G (fun k => a (4 + (3 + k))) (d_told (x_reader S))) ++ (WDr G (fun k => a (4 + k)) (x_reader S) ++ (WR G (fun k => a (17 + k)) (x_reckoning S) ++ (WXe G a (x_earlier S) ++ WXi G a (x_images S)))))).Perm (WX0 G a S ++ ((WT G (fun k => a (4 + (3 + k))) (d_told (x_reader S)) ++ WDr G (fun k => a (4 + k)) (x_reader S)) ++ (WT G (fun k => a (12 + k)) T ++ (WR G (fun k => a (17 + k)) (x_reckoning S) ++ (WXe G a (x_earlier S) ++ WXi G a (x_images S))))))
  rw [List.append_assoc, List.append_assoc]
  exact (pm2 _ _ _ _).append_left _)
theorem pmA (c d t r er i T : va_W) : ((T ++ t) ++ (c ++ (d ++ (r ++ (er ++ i))))).Perm (c ++ (d ++ (t ++ (r ++ ((T ++ er) ++ i))))) := (pm2 c d (T ++ t) _).trans ((((by
  rw [List.append_assoc, List.append_assoc]
  exact (pm1 _ _ _).trans ((pm1 _ _ _).append_left _) : ((T ++ t) ++ (r ++ (er ++ i))).Perm (t ++ (r ++ ((T ++ er) ++ i))))).append_left d).append_left c)
theorem pmB (c d t r er i T : va_W) : ((T ++ t) ++ (c ++ (d ++ (r ++ (i ++ er))))).Perm (c ++ (d ++ (t ++ (r ++ (i ++ (T ++ er)))))) := (pm2 c d (T ++ t) _).trans ((((by
  rw [List.append_assoc]
  exact (pm1 _ _ _).trans (((pm1 _ _ _).trans ((pm1 _ _ _).append_left _)).append_left _) : ((T ++ t) ++ (r ++ (i ++ er))).Perm (t ++ (r ++ (i ++ (T ++ er)))))).append_left d).append_left c)
theorem pX_earlier_now (G : GT) (a : Nat → Nat) (S : XS) (j : Fin 10) (T : TS) : ((WT G (fun k => a (28 + 5 * j.1 + k)) T ++ WT G (fun k => a (12 + k)) (x_now S)) ++ (WX0 G a S ++ (WD G (fun k => a (4 + k)) (x_reader S) ++ (WR G (fun k => a (17 + k)) (x_reckoning S) ++ (WPr G a 28 (x_earlier S) j ++ WXi G a (x_images S)))))).Perm (WX G a (xs_earlier S (upT (x_earlier S) j T))) := (pmA _ _ _ _ _ _ _).trans ((((((WP_put G a 28 (x_earlier S) j T).append_right _).append_left _).append_left _).append_left _).append_left _)
theorem pX_now_earlier (G : GT) (a : Nat → Nat) (S : XS) (j : Fin 10) (T : TS) : ((WT G (fun k => a (12 + k)) T ++ WT G (fun k => a (28 + 5 * j.1 + k)) (x_earlier S j)) ++ (WX0 G a S ++ (WD G (fun k => a (4 + k)) (x_reader S) ++ (WR G (fun k => a (17 + k)) (x_reckoning S) ++ (WPr G a 28 (x_earlier S) j ++ WXi G a (x_images S)))))).Perm (WX G a (xs_now S T)) := (List.perm_append_comm.append_right _).trans ((pmA _ _ (WT G (fun k => a (12 + k)) T) _ _ _ (WT G (fun k => a (28 + 5 * j.1 + k)) (x_earlier S j))).trans ((((((WP_split G a 28 (x_earlier S) j).append_right _).append_left _).append_left _).append_left _).append_left _))
theorem upT_self_earlier (S : XS) (j : Fin 10) : xs_earlier S (upT (x_earlier S) j (x_earlier S j)) = S := by
  have h : upT (x_earlier S) j (x_earlier S j) = x_earlier S := by
    funext i
    by_cases e : i = j
    · subst e; simp [upT]
    · simp [upT, e]
  rw [h]
  rfl
theorem aX_earlier (G : GT) (a : Nat → Nat) (S : XS) (j : Fin 10) : ∃ q0 : Nat, (WX G a S)[q0]? = some (a (28 + 5 * j.1), .inr (2, [.int (t_ships (x_earlier S j)), .int (t_claims (x_earlier S j)), .ref (a (28 + 5 * j.1 + 1)), .ref (a (28 + 5 * j.1 + 2)), .ref (a (28 + 5 * j.1 + 3)), .ref (a (28 + 5 * j.1 + 4))])) := by
  refine List.getElem?_of_mem ?_
  have h := pX_earlier_now G a S j (x_earlier S j)
  rw [upT_self_earlier] at h
  exact h.mem_iff.mp (List.mem_append_left _ (List.mem_append_left _ List.mem_cons_self))
theorem pX_images_now (G : GT) (a : Nat → Nat) (S : XS) (j : Fin 2) (T : TS) : ((WT G (fun k => a (78 + 5 * j.1 + k)) T ++ WT G (fun k => a (12 + k)) (x_now S)) ++ (WX0 G a S ++ (WD G (fun k => a (4 + k)) (x_reader S) ++ (WR G (fun k => a (17 + k)) (x_reckoning S) ++ (WXe G a (x_earlier S) ++ WPr G a 78 (x_images S) j))))).Perm (WX G a (xs_images S (upT (x_images S) j T))) := (pmB _ _ _ _ _ _ _).trans ((((((WP_put G a 78 (x_images S) j T).append_left _).append_left _).append_left _).append_left _).append_left _)
theorem pX_now_images (G : GT) (a : Nat → Nat) (S : XS) (j : Fin 2) (T : TS) : ((WT G (fun k => a (12 + k)) T ++ WT G (fun k => a (78 + 5 * j.1 + k)) (x_images S j)) ++ (WX0 G a S ++ (WD G (fun k => a (4 + k)) (x_reader S) ++ (WR G (fun k => a (17 + k)) (x_reckoning S) ++ (WXe G a (x_earlier S) ++ WPr G a 78 (x_images S) j))))).Perm (WX G a (xs_now S T)) := (List.perm_append_comm.append_right _).trans ((pmB _ _ (WT G (fun k => a (12 + k)) T) _ _ _ (WT G (fun k => a (78 + 5 * j.1 + k)) (x_images S j))).trans ((((((WP_split G a 78 (x_images S) j).append_left _).append_left _).append_left _).append_left _).append_left _))
theorem upT_self_images (S : XS) (j : Fin 2) : xs_images S (upT (x_images S) j (x_images S j)) = S := by
  have h : upT (x_images S) j (x_images S j) = x_images S := by
    funext i
    by_cases e : i = j
    · subst e; simp [upT]
    · simp [upT, e]
  rw [h]
  rfl
theorem aX_images (G : GT) (a : Nat → Nat) (S : XS) (j : Fin 2) : ∃ q0 : Nat, (WX G a S)[q0]? = some (a (78 + 5 * j.1), .inr (2, [.int (t_ships (x_images S j)), .int (t_claims (x_images S j)), .ref (a (78 + 5 * j.1 + 1)), .ref (a (78 + 5 * j.1 + 2)), .ref (a (78 + 5 * j.1 + 3)), .ref (a (78 + 5 * j.1 + 4))])) := by
  refine List.getElem?_of_mem ?_
  have h := pX_images_now G a S j (x_images S j)
  rw [upT_self_images] at h
  exact h.mem_iff.mp (List.mem_append_left _ (List.mem_append_left _ List.mem_cons_self))
theorem rs_told_self (S : RS) : rs_told S (r_told S) = S := rfl
theorem ds_told_self (S : DS) : ds_told S (d_told S) = S := rfl
