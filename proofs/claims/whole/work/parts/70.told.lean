set_option maxHeartbeats 4000000 in
set_option maxRecDepth 100000 in
theorem c_X2_clear (G : GT) (l : Launch) (a : Nat → Nat) (S : TS) (r : TS) (hF : F_X2_clear S = some r) : MT G l yX2_clear cX2_clear 1 (none) 1 40 [.ref (a 0)] (WT G a S) none (WT G a r) := by
  refine MT.of (by decide) (Nat.le_of_ble_eq_true rfl) ?_
  intro p e s m args below meth c A ls hx hb hr hml hown hts hlk hE hA hs hl Q hQ
  have hl : lv_has ls 1 [(0, .ref (a 0))] := hl
  unfold F_X2_clear at hF
  refine lv_aload_n hx hb dX2_clear_0 rfl (lv_at hl 0 rfl) ?_
  refine lv_iconst (v := (0 : Int32)) hx hb dX2_clear_1 (by decide) ?_
  obtain ⟨S1, eS1, hF⟩ := nm_some hF
  refine fp_X2_9 hx hb hown hts hE hs 0 rfl (ws' := WT G a S1) (Nat.le_of_ble_eq_true rfl) (by subst eS1; rfl) dX2_clear_2 (fun H locs hs => ?_)
  refine lv_aload_n hx hb dX2_clear_5 rfl (lv_at hl 0 rfl) ?_
  refine lv_iconst (v := (0 : Int32)) hx hb dX2_clear_6 (by decide) ?_
  obtain ⟨S2, eS2, hF⟩ := nm_some hF
  refine fp_X2_15 hx hb hown hts hE hs 0 rfl (ws' := WT G a S2) (Nat.le_of_ble_eq_true rfl) (by subst eS2; rfl) dX2_clear_7 (fun H locs hs => ?_)
  refine va_getsN (v := .ref (G.2.2.1 4)) hx hb (hE.2.2.1 4 (by decide)).1 hs.2.2 hown (va_Nw.use rfl (hE.2.1 _ g332)) (fun _ h9 => h9) dX2_clear_10 ?_
  refine lv_iconst (v := (0 : Int32)) hx hb dX2_clear_13 (by decide) ?_
  refine lv_aload_n hx hb dX2_clear_14 rfl (lv_at hl 0 rfl) ?_
  refine fg_X2_29 hx hb hown hts hE hs 0 rfl (v := .ref (a 4)) rfl dX2_clear_15 ?_
  refine lv_iconst (v := (0 : Int32)) hx hb dX2_clear_18 (by decide) ?_
  refine lv_bipush (v := (10 : Int32)) hx hb dX2_clear_19 (by decide) ?_
  obtain ⟨f3, hf3, hF⟩ := bd hF
  obtain ⟨S4, eS4, hF⟩ := nm_some hF
  refine sx_copyt hx hb (hml.trans hl.1.symm) hown (hts _ g334) (hts _ g336) (hts _ g335) (hts _ g128) hE hs 4 (by decide) rfl 4 (g := t_laws S2) rfl hf3 (ws' := WT G a S4) (by subst eS4; rfl) (Nat.le_of_ble_eq_true rfl) (Nat.le_of_ble_eq_true rfl) dX2_clear_21 (fun H locs hs => ?_)
  exact sx_vret hx hb hr hlk hQ (congrArg (fun z => WT G a z) (Option.some.inj hF)) hs dX2_clear_24
set_option maxHeartbeats 4000000 in
set_option maxRecDepth 100000 in
theorem c_X2_shipNamed (G : GT) (l : Launch) (a : Nat → Nat) (S : TS) (x1 : Int64) (r : Int32) (hF : F_X2_shipNamed S x1 = some r) : MT G l yX2_shipNamed cX2_shipNamed 4 (some .int) 0 0 [.ref (a 0), .long x1] (WT G a S) (some (.int r)) (WT G a S) := by
  refine MT.of (by decide) (Nat.le_of_ble_eq_true rfl) ?_
  intro p e s m args below meth c A ls hx hb hr hml hown hts hlk hE hA hs hl Q hQ
  have hl : lv_has ls 4 [(0, .ref (a 0)), (1, .long x1)] := hl
  have hL2 : ∀ (x1 : Int64) (k : Unit → Option (Int32)) (hk : ∀ (_u : Unit) (H : Heap) (locs : List Loc) (ls : Array Slot), k _u = some r → SI G A s H locs (WT G a S) → lv_has ls 4 [] → W p l e (RM 0 0) s m args below meth c H locs 0 0 Q (F0 m 29 ls [])) (fu : Nat) (x3 : Int32) (H : Heap) (locs : List Loc) (ls : Array Slot), lo1 (B_X2_shipNamed_2 S x1 k) fu x3 = some r → SI G A s H locs (WT G a S) → lv_has ls 4 [(0, .ref (a 0)), (1, .long x1), (3, .int x3)] → W p l e (RM 0 0) s m args below meth c H locs 0 0 Q (F0 m 2 ls []) := by
    intro x1 k hk fu
    induction fu with
    | zero =>
      intro x3 H locs ls hF hs hl
      exact nomatch (show (none : Option (Int32)) = some r from hF)
    | succ fu hrec =>
      intro x3 H locs ls hF hs hl
      have hF : (B_X2_shipNamed_2 S x1 k) (lo1 (B_X2_shipNamed_2 S x1 k) fu) x3 = some r := hF
      unfold B_X2_shipNamed_2 at hF
      refine lv_iload_n hx hb dX2_shipNamed_2 rfl (lv_at hl 2 rfl) ?_
      refine lv_aload_n hx hb dX2_shipNamed_3 rfl (lv_at hl 0 rfl) ?_
      refine fg_X2_9 hx hb hown hts hE hs 0 rfl (v := .int (t_ships S)) rfl dX2_shipNamed_4 ?_
      refine lv_icmp_ge (tgt := 29) hx hb dX2_shipNamed_7 (by decide) (fun hc => ?_) (fun hc => ?_)
      · have hF := (if_pos hc).symm.trans hF
        exact hk () _ _ _ hF hs (lv_sub hl [] rfl)
      · have hF := (if_neg hc).symm.trans hF
        refine lv_aload_n hx hb dX2_shipNamed_10 rfl (lv_at hl 0 rfl) ?_
        refine fg_X2_18 hx hb hown hts hE hs 0 rfl (v := .ref (a 1)) rfl dX2_shipNamed_11 ?_
        refine lv_iload_n hx hb dX2_shipNamed_14 rfl (lv_at hl 2 rfl) ?_
        obtain ⟨v1, hv1, hF⟩ := bd hF
        refine sx_lald hx hb hE hs 1 (f := t_names S) rfl hv1 dX2_shipNamed_15 ?_
        refine lv_lload_n hx hb dX2_shipNamed_16 rfl (lv_at hl 1 rfl) ?_
        refine W.lcmp hx hb dX2_shipNamed_17 ?_
        refine lv_if_ne (tgt := 23) hx hb dX2_shipNamed_18 (by decide) (fun hc => ?_) (fun hc => ?_)
        · have hF := (if_neg hc).symm.trans hF
          obtain ⟨v2, ev2, hF⟩ := nm_some hF
          refine lv_iinc (v := v2) (lv' := [(3, .int v2), (0, .ref (a 0)), (1, .long x1)]) hx hb dX2_shipNamed_23 hl (k := 2) rfl (by rw [ev2]; rfl) (by decide) rfl (fun ls hl => ?_)
          refine lv_goto (tgt := 2) hx hb dX2_shipNamed_26 (by decide) ?_
          exact hrec v2 _ _ _ hF hs (lv_sub hl [1, 2, 0] rfl)
        · have hF := (if_pos hc).symm.trans hF
          refine lv_iload_n hx hb dX2_shipNamed_21 rfl (lv_at hl 2 rfl) ?_
          exact sx_iret hx hb hr hlk hQ (Option.some.inj hF) rfl hs dX2_shipNamed_22
  unfold F_X2_shipNamed at hF
  refine lv_iconst (v := (0 : Int32)) hx hb dX2_shipNamed_0 (by decide) ?_
  refine lv_istore_n (lv' := [(3, .int (0 : Int32)), (0, .ref (a 0)), (1, .long x1)]) hx hb dX2_shipNamed_1 rfl hl (by decide) rfl (fun ls hl => ?_)
  refine hL2 x1 _ (fun _u H locs ls hF hs hl => ?_) FU (0 : Int32) _ _ _ hF hs (lv_sub hl [1, 2, 0] rfl)
  refine lv_iconst (v := (-1 : Int32)) hx hb dX2_shipNamed_29 (by decide) ?_
  exact sx_iret hx hb hr hlk hQ (Option.some.inj hF) rfl hs dX2_shipNamed_30
set_option maxHeartbeats 4000000 in
set_option maxRecDepth 100000 in
theorem c_X2_setShip (G : GT) (l : Launch) (a : Nat → Nat) (S : TS) (x1 : Int32) (x2 : Int32) (x3 : Int32) (r : TS) (hF : F_X2_setShip S x1 x2 x3 = some r) : MT G l yX2_setShip cX2_setShip 4 (none) 0 0 [.ref (a 0), .int x1, .int x2, .int x3] (WT G a S) none (WT G a r) := by
  refine MT.of (by decide) (Nat.le_of_ble_eq_true rfl) ?_
  intro p e s m args below meth c A ls hx hb hr hml hown hts hlk hE hA hs hl Q hQ
  have hl : lv_has ls 4 [(0, .ref (a 0)), (1, .int x1), (2, .int x2), (3, .int x3)] := hl
  unfold F_X2_setShip at hF
  refine lv_aload_n hx hb dX2_setShip_0 rfl (lv_at hl 0 rfl) ?_
  refine fg_X2_22 hx hb hown hts hE hs 0 rfl (v := .ref (a 2)) rfl dX2_setShip_1 ?_
  refine lv_iload_n hx hb dX2_setShip_4 rfl (lv_at hl 1 rfl) ?_
  refine lv_bipush (v := (6 : Int32)) hx hb dX2_setShip_5 (by decide) ?_
  refine lv_imul hx hb dX2_setShip_7 ?_
  refine lv_iload_n hx hb dX2_setShip_8 rfl (lv_at hl 2 rfl) ?_
  refine lv_iadd hx hb dX2_setShip_9 ?_
  refine lv_iload_n hx hb dX2_setShip_10 rfl (lv_at hl 3 rfl) ?_
  obtain ⟨f1, hf1, hF⟩ := bd hF
  obtain ⟨S2, eS2, hF⟩ := nm_some hF
  refine sx_iast hx hb hE hs 2 (f := t_shipRows S) rfl hf1 (ws' := WT G a S2) (by subst eS2; rfl) dX2_setShip_11 (fun H locs hs => ?_)
  exact sx_vret hx hb hr hlk hQ (congrArg (fun z => WT G a z) (Option.some.inj hF)) hs dX2_setShip_12
set_option maxHeartbeats 4000000 in
set_option maxRecDepth 100000 in
theorem c_X2_addShip (G : GT) (l : Launch) (a : Nat → Nat) (S : TS) (x1 : Int64) (r : TS) (hF : F_X2_addShip S x1 = some r) : MT G l yX2_addShip cX2_addShip 4 (none) 1 23 [.ref (a 0), .long x1] (WT G a S) none (WT G a r) := by
  refine MT.of (by decide) (Nat.le_of_ble_eq_true rfl) ?_
  intro p e s m args below meth c A ls hx hb hr hml hown hts hlk hE hA hs hl Q hQ
  have hl : lv_has ls 4 [(0, .ref (a 0)), (1, .long x1)] := hl
  have hL12 : ∀ (k : TS → Option (TS)) (hk : ∀ (S : TS) (H : Heap) (locs : List Loc) (ls : Array Slot), k S = some r → SI G A s H locs (WT G a S) → lv_has ls 4 [(0, .ref (a 0))] → W p l e (RM 1 23) s m args below meth c H locs 0 0 Q (F0 m 34 ls [])) (fu : Nat) (S : TS) (x3 : Int32) (H : Heap) (locs : List Loc) (ls : Array Slot), lo2 (B_X2_addShip_12 k) fu S x3 = some r → SI G A s H locs (WT G a S) → lv_has ls 4 [(0, .ref (a 0)), (3, .int x3)] → W p l e (RM 1 23) s m args below meth c H locs 0 0 Q (F0 m 12 ls []) := by
    intro k hk fu
    induction fu with
    | zero =>
      intro S x3 H locs ls hF hs hl
      exact nomatch (show (none : Option (TS)) = some r from hF)
    | succ fu hrec =>
      intro S x3 H locs ls hF hs hl
      have hF : (B_X2_addShip_12 k) (lo2 (B_X2_addShip_12 k) fu) S x3 = some r := hF
      unfold B_X2_addShip_12 at hF
      refine lv_iload_n hx hb dX2_addShip_12 rfl (lv_at hl 1 rfl) ?_
      refine lv_bipush (v := (6 : Int32)) hx hb dX2_addShip_13 (by decide) ?_
      refine lv_icmp_ge (tgt := 34) hx hb dX2_addShip_15 (by decide) (fun hc => ?_) (fun hc => ?_)
      · have hF := (if_pos hc).symm.trans hF
        exact hk S _ _ _ hF hs (lv_sub hl [0] rfl)
      · have hF := (if_neg hc).symm.trans hF
        refine lv_aload_n hx hb dX2_addShip_18 rfl (lv_at hl 0 rfl) ?_
        refine lv_aload_n hx hb dX2_addShip_19 rfl (lv_at hl 0 rfl) ?_
        refine fg_X2_9 hx hb hown hts hE hs 0 rfl (v := .int (t_ships S)) rfl dX2_addShip_20 ?_
        refine lv_iload_n hx hb dX2_addShip_23 rfl (lv_at hl 1 rfl) ?_
        refine lv_iconst (v := (0 : Int32)) hx hb dX2_addShip_24 (by decide) ?_
        obtain ⟨q3, hq3, hF⟩ := bd hF
        refine sx_V (As := [.int (t_ships S), .int x3, .int (0 : Int32)]) (rest := []) (st1 := []) (c_X2_setShip G l a S (t_ships S) x3 (0 : Int32) q3 hq3) v_X2_45 ⟨(Nat.le_of_ble_eq_true rfl), (Nat.le_of_ble_eq_true rfl)⟩ hx hb hml hown hts hE hA hs ⟨Nat.le_refl 0, Nat.le_refl 0⟩ 0 rfl rfl rfl rfl rfl hl.1 (Nat.le_of_ble_eq_true rfl) dX2_addShip_25 (pmW _) (ws' := WT G a q3) (pmW _) (fun H locs hs => ?_)
        obtain ⟨v4, ev4, hF⟩ := nm_some hF
        refine lv_iinc (v := v4) (lv' := [(3, .int v4), (0, .ref (a 0))]) hx hb dX2_addShip_28 hl (k := 1) rfl (by rw [ev4]; rfl) (by decide) rfl (fun ls hl => ?_)
        refine lv_goto (tgt := 12) hx hb dX2_addShip_31 (by decide) ?_
        exact hrec q3 v4 _ _ _ hF hs (lv_sub hl [1, 0] rfl)
  unfold F_X2_addShip at hF
  refine lv_aload_n hx hb dX2_addShip_0 rfl (lv_at hl 0 rfl) ?_
  refine fg_X2_18 hx hb hown hts hE hs 0 rfl (v := .ref (a 1)) rfl dX2_addShip_1 ?_
  refine lv_aload_n hx hb dX2_addShip_4 rfl (lv_at hl 0 rfl) ?_
  refine fg_X2_9 hx hb hown hts hE hs 0 rfl (v := .int (t_ships S)) rfl dX2_addShip_5 ?_
  refine lv_lload_n hx hb dX2_addShip_8 rfl (lv_at hl 1 rfl) ?_
  obtain ⟨f1, hf1, hF⟩ := bd hF
  obtain ⟨S2, eS2, hF⟩ := nm_some hF
  refine sx_last hx hb hE hs 1 (f := t_names S) rfl hf1 (ws' := WT G a S2) (by subst eS2; rfl) dX2_addShip_9 (fun H locs hs => ?_)
  refine lv_iconst (v := (0 : Int32)) hx hb dX2_addShip_10 (by decide) ?_
  refine lv_istore_n (lv' := [(3, .int (0 : Int32)), (0, .ref (a 0)), (1, .long x1)]) hx hb dX2_addShip_11 rfl hl (by decide) rfl (fun ls hl => ?_)
  refine hL12 _ (fun S5 H locs ls hF hs hl => ?_) FU S2 (0 : Int32) _ _ _ hF hs (lv_sub hl [1, 0] rfl)
  refine lv_aload_n hx hb dX2_addShip_34 rfl (lv_at hl 0 rfl) ?_
  refine lv_dup hx hb dX2_addShip_35 rfl ?_
  refine fg_X2_9 hx hb hown hts hE hs 0 rfl (v := .int (t_ships S5)) rfl dX2_addShip_36 ?_
  refine lv_iconst (v := (1 : Int32)) hx hb dX2_addShip_39 (by decide) ?_
  refine lv_iadd hx hb dX2_addShip_40 ?_
  obtain ⟨S6, eS6, hF⟩ := nm_some hF
  refine fp_X2_9 hx hb hown hts hE hs 0 rfl (ws' := WT G a S6) (Nat.le_of_ble_eq_true rfl) (by subst eS6; rfl) dX2_addShip_41 (fun H locs hs => ?_)
  exact sx_vret hx hb hr hlk hQ (congrArg (fun z => WT G a z) (Option.some.inj hF)) hs dX2_addShip_44
set_option maxHeartbeats 4000000 in
set_option maxRecDepth 100000 in
theorem c_X2_addClaim (G : GT) (l : Launch) (a : Nat → Nat) (S : TS) (x1 : Int32) (x2 : Int32) (x3 : Int32) (x4 : Int32) (r : TS) (hF : F_X2_addClaim S x1 x2 x3 x4 = some r) : MT G l yX2_addClaim cX2_addClaim 6 (none) 0 0 [.ref (a 0), .int x1, .int x2, .int x3, .int x4] (WT G a S) none (WT G a r) := by
  refine MT.of (by decide) (Nat.le_of_ble_eq_true rfl) ?_
  intro p e s m args below meth c A ls hx hb hr hml hown hts hlk hE hA hs hl Q hQ
  have hl : lv_has ls 6 [(0, .ref (a 0)), (1, .int x1), (2, .int x2), (3, .int x3), (4, .int x4)] := hl
  have hJ36_n : ∀ (S : TS) (x3 : Int32) (x4 : Int32) (x5 : Int32) (y0 : Int32) (y1 : Int32) (H : Heap) (locs : List Loc) (ls : Array Slot), J_X2_addClaim_36 S x3 x4 x5 y0 y1 = some r → SI G A s H locs (WT G a S) → lv_has ls 6 [(0, .ref (a 0)), (3, .int x3), (4, .int x4), (5, .int x5)] → W p l e (RM 0 0) s m args below meth c H locs 0 0 Q (F0 m 36 ls [.int y0, .int y1, .ref (a 3)]) := by
    intro S x3 x4 x5 y0 y1 H locs ls hF hs hl
    unfold J_X2_addClaim_36 at hF
    obtain ⟨f4, hf4, hF⟩ := bd hF
    obtain ⟨S5, eS5, hF⟩ := nm_some hF
    refine sx_iast hx hb hE hs 3 (f := t_claimRows S) rfl hf4 (ws' := WT G a S5) (by subst eS5; rfl) dX2_addClaim_36 (fun H locs hs => ?_)
    refine lv_aload_n hx hb dX2_addClaim_37 rfl (lv_at hl 0 rfl) ?_
    refine fg_X2_26 hx hb hown hts hE hs 0 rfl (v := .ref (a 3)) rfl dX2_addClaim_38 ?_
    refine lv_iload hx hb dX2_addClaim_41 (lv_at hl 3 rfl) ?_
    refine lv_iconst (v := (2 : Int32)) hx hb dX2_addClaim_43 (by decide) ?_
    refine lv_iadd hx hb dX2_addClaim_44 ?_
    refine lv_iload_n hx hb dX2_addClaim_45 rfl (lv_at hl 1 rfl) ?_
    obtain ⟨f6, hf6, hF⟩ := bd hF
    obtain ⟨S7, eS7, hF⟩ := nm_some hF
    refine sx_iast hx hb hE hs 3 (f := t_claimRows S5) rfl hf6 (ws' := WT G a S7) (by subst eS7; rfl) dX2_addClaim_46 (fun H locs hs => ?_)
    refine lv_aload_n hx hb dX2_addClaim_47 rfl (lv_at hl 0 rfl) ?_
    refine fg_X2_26 hx hb hown hts hE hs 0 rfl (v := .ref (a 3)) rfl dX2_addClaim_48 ?_
    refine lv_iload hx hb dX2_addClaim_51 (lv_at hl 3 rfl) ?_
    refine lv_iconst (v := (3 : Int32)) hx hb dX2_addClaim_53 (by decide) ?_
    refine lv_iadd hx hb dX2_addClaim_54 ?_
    refine lv_iload hx hb dX2_addClaim_55 (lv_at hl 2 rfl) ?_
    obtain ⟨f8, hf8, hF⟩ := bd hF
    obtain ⟨S9, eS9, hF⟩ := nm_some hF
    refine sx_iast hx hb hE hs 3 (f := t_claimRows S7) rfl hf8 (ws' := WT G a S9) (by subst eS9; rfl) dX2_addClaim_57 (fun H locs hs => ?_)
    refine lv_aload_n hx hb dX2_addClaim_58 rfl (lv_at hl 0 rfl) ?_
    refine lv_dup hx hb dX2_addClaim_59 rfl ?_
    refine fg_X2_15 hx hb hown hts hE hs 0 rfl (v := .int (t_claims S9)) rfl dX2_addClaim_60 ?_
    refine lv_iconst (v := (1 : Int32)) hx hb dX2_addClaim_63 (by decide) ?_
    refine lv_iadd hx hb dX2_addClaim_64 ?_
    obtain ⟨S10, eS10, hF⟩ := nm_some hF
    refine fp_X2_15 hx hb hown hts hE hs 0 rfl (ws' := WT G a S10) (Nat.le_of_ble_eq_true rfl) (by subst eS10; rfl) dX2_addClaim_65 (fun H locs hs => ?_)
    exact sx_vret hx hb hr hlk hQ (congrArg (fun z => WT G a z) (Option.some.inj hF)) hs dX2_addClaim_68
  unfold F_X2_addClaim at hF
  refine lv_aload_n hx hb dX2_addClaim_0 rfl (lv_at hl 0 rfl) ?_
  refine fg_X2_15 hx hb hown hts hE hs 0 rfl (v := .int (t_claims S)) rfl dX2_addClaim_1 ?_
  refine lv_iconst (v := (4 : Int32)) hx hb dX2_addClaim_4 (by decide) ?_
  refine lv_imul hx hb dX2_addClaim_5 ?_
  obtain ⟨v1, ev1, hF⟩ := nm_some hF
  refine sx_topi ev1 ?_
  refine lv_istore (lv' := [(5, .int v1), (0, .ref (a 0)), (1, .int x1), (2, .int x2), (3, .int x3), (4, .int x4)]) hx hb dX2_addClaim_6 hl (by decide) rfl (fun ls hl => ?_)
  refine lv_aload_n hx hb dX2_addClaim_8 rfl (lv_at hl 1 rfl) ?_
  refine fg_X2_26 hx hb hown hts hE hs 0 rfl (v := .ref (a 3)) rfl dX2_addClaim_9 ?_
  refine lv_iload hx hb dX2_addClaim_12 (lv_at hl 0 rfl) ?_
  refine lv_iconst (v := (0 : Int32)) hx hb dX2_addClaim_14 (by decide) ?_
  refine lv_iadd hx hb dX2_addClaim_15 ?_
  refine lv_iload_n hx hb dX2_addClaim_16 rfl (lv_at hl 2 rfl) ?_
  obtain ⟨f2, hf2, hF⟩ := bd hF
  obtain ⟨S3, eS3, hF⟩ := nm_some hF
  refine sx_iast hx hb hE hs 3 (f := t_claimRows S) rfl hf2 (ws' := WT G a S3) (by subst eS3; rfl) dX2_addClaim_17 (fun H locs hs => ?_)
  refine lv_aload_n hx hb dX2_addClaim_18 rfl (lv_at hl 1 rfl) ?_
  refine fg_X2_26 hx hb hown hts hE hs 0 rfl (v := .ref (a 3)) rfl dX2_addClaim_19 ?_
  refine lv_iload hx hb dX2_addClaim_22 (lv_at hl 0 rfl) ?_
  refine lv_iconst (v := (1 : Int32)) hx hb dX2_addClaim_24 (by decide) ?_
  refine lv_iadd hx hb dX2_addClaim_25 ?_
  refine lv_iload_n hx hb dX2_addClaim_26 rfl (lv_at hl 2 rfl) ?_
  refine lv_if_ne (tgt := 34) hx hb dX2_addClaim_27 (by decide) (fun hc => ?_) (fun hc => ?_)
  · have hF := (if_neg hc).symm.trans hF
    refine lv_bipush (v := (-2 : Int32)) hx hb dX2_addClaim_34 (by decide) ?_
    exact hJ36_n S3 x3 x4 v1 (-2 : Int32) (v1 + (1 : Int32)) _ _ _ hF hs (lv_sub hl [1, 4, 5, 0] rfl)
  · have hF := (if_pos hc).symm.trans hF
    refine lv_iload_n hx hb dX2_addClaim_30 rfl (lv_at hl 3 rfl) ?_
    refine lv_goto (tgt := 36) hx hb dX2_addClaim_31 (by decide) ?_
    exact hJ36_n S3 x3 x4 v1 x2 (v1 + (1 : Int32)) _ _ _ hF hs (lv_sub hl [1, 4, 5, 0] rfl)
set_option maxHeartbeats 4000000 in
set_option maxRecDepth 100000 in
theorem c_X2_ofShip (G : GT) (l : Launch) (a : Nat → Nat) (S : TS) (x1 : Int32) (x2 : Int32) (r : Int32) (hF : F_X2_ofShip S x1 x2 = some r) : MT G l yX2_ofShip cX2_ofShip 3 (some .int) 0 0 [.ref (a 0), .int x1, .int x2] (WT G a S) (some (.int r)) (WT G a S) := by
  refine MT.of (by decide) (Nat.le_of_ble_eq_true rfl) ?_
  intro p e s m args below meth c A ls hx hb hr hml hown hts hlk hE hA hs hl Q hQ
  have hl : lv_has ls 3 [(0, .ref (a 0)), (1, .int x1), (2, .int x2)] := hl
  unfold F_X2_ofShip at hF
  refine lv_aload_n hx hb dX2_ofShip_0 rfl (lv_at hl 0 rfl) ?_
  refine fg_X2_22 hx hb hown hts hE hs 0 rfl (v := .ref (a 2)) rfl dX2_ofShip_1 ?_
  refine lv_iload_n hx hb dX2_ofShip_4 rfl (lv_at hl 1 rfl) ?_
  refine lv_bipush (v := (6 : Int32)) hx hb dX2_ofShip_5 (by decide) ?_
  refine lv_imul hx hb dX2_ofShip_7 ?_
  refine lv_iload_n hx hb dX2_ofShip_8 rfl (lv_at hl 2 rfl) ?_
  refine lv_iadd hx hb dX2_ofShip_9 ?_
  obtain ⟨v1, hv1, hF⟩ := bd hF
  refine sx_iald hx hb hE hs 2 (f := t_shipRows S) rfl hv1 dX2_ofShip_10 ?_
  exact sx_iret hx hb hr hlk hQ (Option.some.inj hF) rfl hs dX2_ofShip_11
set_option maxHeartbeats 4000000 in
set_option maxRecDepth 100000 in
theorem c_X2_faultsTogether (G : GT) (l : Launch) (a : Nat → Nat) (S : TS) (r : Int32) (hF : F_X2_faultsTogether S = some r) : MT G l yX2_faultsTogether cX2_faultsTogether 3 (some .int) 1 22 [.ref (a 0)] (WT G a S) (some (.int r)) (WT G a S) := by
  refine MT.of (by decide) (Nat.le_of_ble_eq_true rfl) ?_
  intro p e s m args below meth c A ls hx hb hr hml hown hts hlk hE hA hs hl Q hQ
  have hl : lv_has ls 3 [(0, .ref (a 0))] := hl
  have hL4 : ∀ (k : Int32 → Option (Int32)) (hk : ∀ (x1 : Int32) (H : Heap) (locs : List Loc) (ls : Array Slot), k x1 = some r → SI G A s H locs (WT G a S) → lv_has ls 3 [(1, .int x1)] → W p l e (RM 1 22) s m args below meth c H locs 0 0 Q (F0 m 27 ls [])) (fu : Nat) (x1 : Int32) (x2 : Int32) (H : Heap) (locs : List Loc) (ls : Array Slot), lo2 (B_X2_faultsTogether_4 S k) fu x1 x2 = some r → SI G A s H locs (WT G a S) → lv_has ls 3 [(0, .ref (a 0)), (1, .int x1), (2, .int x2)] → W p l e (RM 1 22) s m args below meth c H locs 0 0 Q (F0 m 4 ls []) := by
    intro k hk fu
    induction fu with
    | zero =>
      intro x1 x2 H locs ls hF hs hl
      exact nomatch (show (none : Option (Int32)) = some r from hF)
    | succ fu hrec =>
      intro x1 x2 H locs ls hF hs hl
      have hF : (B_X2_faultsTogether_4 S k) (lo2 (B_X2_faultsTogether_4 S k) fu) x1 x2 = some r := hF
      unfold B_X2_faultsTogether_4 at hF
      refine lv_iload_n hx hb dX2_faultsTogether_4 rfl (lv_at hl 2 rfl) ?_
      refine lv_aload_n hx hb dX2_faultsTogether_5 rfl (lv_at hl 0 rfl) ?_
      refine fg_X2_9 hx hb hown hts hE hs 0 rfl (v := .int (t_ships S)) rfl dX2_faultsTogether_6 ?_
      refine lv_icmp_ge (tgt := 27) hx hb dX2_faultsTogether_9 (by decide) (fun hc => ?_) (fun hc => ?_)
      · have hF := (if_pos hc).symm.trans hF
        exact hk x1 _ _ _ hF hs (lv_sub hl [1] rfl)
      · have hF := (if_neg hc).symm.trans hF
        refine lv_iload_n hx hb dX2_faultsTogether_12 rfl (lv_at hl 1 rfl) ?_
        refine lv_aload_n hx hb dX2_faultsTogether_13 rfl (lv_at hl 0 rfl) ?_
        refine lv_iload_n hx hb dX2_faultsTogether_14 rfl (lv_at hl 2 rfl) ?_
        refine lv_iconst (v := (1 : Int32)) hx hb dX2_faultsTogether_15 (by decide) ?_
        obtain ⟨q1, hq1, hF⟩ := bd hF
        refine sx_V (As := [.int x2, .int (1 : Int32)]) (rest := [.int x1]) (st1 := [.int q1, .int x1]) (c_X2_ofShip G l a S x2 (1 : Int32) q1 hq1) v_X2_49 ⟨(Nat.le_of_ble_eq_true rfl), (Nat.le_of_ble_eq_true rfl)⟩ hx hb hml hown hts hE hA hs ⟨Nat.le_refl 0, Nat.le_refl 0⟩ 0 rfl rfl rfl rfl rfl hl.1 (Nat.le_of_ble_eq_true rfl) dX2_faultsTogether_16 (pmW _) (ws' := WT G a S) (pmW _) (fun H locs hs => ?_)
        refine lv_iadd hx hb dX2_faultsTogether_19 ?_
        obtain ⟨v2, ev2, hF⟩ := nm_some hF
        refine sx_topi ev2 ?_
        refine lv_istore_n (lv' := [(1, .int v2), (0, .ref (a 0)), (2, .int x2)]) hx hb dX2_faultsTogether_20 rfl hl (by decide) rfl (fun ls hl => ?_)
        obtain ⟨v3, ev3, hF⟩ := nm_some hF
        refine lv_iinc (v := v3) (lv' := [(2, .int v3), (1, .int v2), (0, .ref (a 0))]) hx hb dX2_faultsTogether_21 hl (k := 2) rfl (by rw [ev3]; rfl) (by decide) rfl (fun ls hl => ?_)
        refine lv_goto (tgt := 4) hx hb dX2_faultsTogether_24 (by decide) ?_
        exact hrec v2 v3 _ _ _ hF hs (lv_sub hl [2, 1, 0] rfl)
  unfold F_X2_faultsTogether at hF
  refine lv_iconst (v := (0 : Int32)) hx hb dX2_faultsTogether_0 (by decide) ?_
  refine lv_istore_n (lv' := [(1, .int (0 : Int32)), (0, .ref (a 0))]) hx hb dX2_faultsTogether_1 rfl hl (by decide) rfl (fun ls hl => ?_)
  refine lv_iconst (v := (0 : Int32)) hx hb dX2_faultsTogether_2 (by decide) ?_
  refine lv_istore_n (lv' := [(2, .int (0 : Int32)), (1, .int (0 : Int32)), (0, .ref (a 0))]) hx hb dX2_faultsTogether_3 rfl hl (by decide) rfl (fun ls hl => ?_)
  refine hL4 _ (fun z4 H locs ls hF hs hl => ?_) FU (0 : Int32) (0 : Int32) _ _ _ hF hs (lv_sub hl [2, 1, 0] rfl)
  refine lv_iload_n hx hb dX2_faultsTogether_27 rfl (lv_at hl 0 rfl) ?_
  exact sx_iret hx hb hr hlk hQ (Option.some.inj hF) rfl hs dX2_faultsTogether_28
set_option maxHeartbeats 4000000 in
set_option maxRecDepth 100000 in
theorem c_X2_copyFrom (G : GT) (l : Launch) (a : Nat → Nat) (b : Nat → Nat) (S : TS) (T2 : TS) (r : TS) (hF : F_X2_copyFrom S T2 = some r) : MT G l yX2_copyFrom cX2_copyFrom 2 (none) 1 40 [.ref (a 0), .ref (b 0)] ((WT G a S ++ WT G b T2)) none ((WT G a r ++ WT G b T2)) := by
  refine MT.of (by decide) (Nat.le_of_ble_eq_true rfl) ?_
  intro p e s m args below meth c A ls hx hb hr hml hown hts hlk hE hA hs hl Q hQ
  have hl : lv_has ls 2 [(0, .ref (a 0)), (1, .ref (b 0))] := hl
  unfold F_X2_copyFrom at hF
  refine lv_aload_n hx hb dX2_copyFrom_0 rfl (lv_at hl 0 rfl) ?_
  refine lv_aload_n hx hb dX2_copyFrom_1 rfl (lv_at hl 1 rfl) ?_
  refine fg_X2_9 hx hb hown hts hE hs 5 rfl (v := .int (t_ships T2)) rfl dX2_copyFrom_2 ?_
  obtain ⟨S1, eS1, hF⟩ := nm_some hF
  refine fp_X2_9 hx hb hown hts hE hs 0 rfl (ws' := (WT G a S1 ++ WT G b T2)) (Nat.le_of_ble_eq_true rfl) (by subst eS1; rfl) dX2_copyFrom_5 (fun H locs hs => ?_)
  refine lv_aload_n hx hb dX2_copyFrom_8 rfl (lv_at hl 0 rfl) ?_
  refine lv_aload_n hx hb dX2_copyFrom_9 rfl (lv_at hl 1 rfl) ?_
  refine fg_X2_15 hx hb hown hts hE hs 5 rfl (v := .int (t_claims T2)) rfl dX2_copyFrom_10 ?_
  obtain ⟨S2, eS2, hF⟩ := nm_some hF
  refine fp_X2_15 hx hb hown hts hE hs 0 rfl (ws' := (WT G a S2 ++ WT G b T2)) (Nat.le_of_ble_eq_true rfl) (by subst eS2; rfl) dX2_copyFrom_13 (fun H locs hs => ?_)
  refine lv_aload_n hx hb dX2_copyFrom_16 rfl (lv_at hl 1 rfl) ?_
  refine fg_X2_18 hx hb hown hts hE hs 5 rfl (v := .ref (b 1)) rfl dX2_copyFrom_17 ?_
  refine lv_iconst (v := (0 : Int32)) hx hb dX2_copyFrom_20 (by decide) ?_
  refine lv_aload_n hx hb dX2_copyFrom_21 rfl (lv_at hl 0 rfl) ?_
  refine fg_X2_18 hx hb hown hts hE hs 0 rfl (v := .ref (a 1)) rfl dX2_copyFrom_22 ?_
  refine lv_iconst (v := (0 : Int32)) hx hb dX2_copyFrom_25 (by decide) ?_
  refine lv_aload_n hx hb dX2_copyFrom_26 rfl (lv_at hl 0 rfl) ?_
  refine fg_X2_18 hx hb hown hts hE hs 0 rfl (v := .ref (a 1)) rfl dX2_copyFrom_27 ?_
  refine va_alen hx hb hE.1 hs.1 1 1 rfl rfl (v := (4 : Int32)) rfl dX2_copyFrom_30 ?_
  obtain ⟨f3, hf3, hF⟩ := bd hF
  obtain ⟨S4, eS4, hF⟩ := nm_some hF
  refine sx_copyl hx hb (hml.trans hl.1.symm) hown (hts _ g334) (hts _ g336) (hts _ g335) (hts _ g128) hE hs 6 1 (f := t_names T2) (g := t_names S2) rfl rfl hf3 (ws' := (WT G a S4 ++ WT G b T2)) (by subst eS4; rfl) (Nat.le_of_ble_eq_true rfl) (Nat.le_of_ble_eq_true rfl) dX2_copyFrom_31 (fun H locs hs => ?_)
  refine lv_aload_n hx hb dX2_copyFrom_34 rfl (lv_at hl 1 rfl) ?_
  refine fg_X2_22 hx hb hown hts hE hs 5 rfl (v := .ref (b 2)) rfl dX2_copyFrom_35 ?_
  refine lv_iconst (v := (0 : Int32)) hx hb dX2_copyFrom_38 (by decide) ?_
  refine lv_aload_n hx hb dX2_copyFrom_39 rfl (lv_at hl 0 rfl) ?_
  refine fg_X2_22 hx hb hown hts hE hs 0 rfl (v := .ref (a 2)) rfl dX2_copyFrom_40 ?_
  refine lv_iconst (v := (0 : Int32)) hx hb dX2_copyFrom_43 (by decide) ?_
  refine lv_aload_n hx hb dX2_copyFrom_44 rfl (lv_at hl 0 rfl) ?_
  refine fg_X2_22 hx hb hown hts hE hs 0 rfl (v := .ref (a 2)) rfl dX2_copyFrom_45 ?_
  refine va_alen hx hb hE.1 hs.1 2 0 rfl rfl (v := (24 : Int32)) rfl dX2_copyFrom_48 ?_
  obtain ⟨f5, hf5, hF⟩ := bd hF
  obtain ⟨S6, eS6, hF⟩ := nm_some hF
  refine sx_copyi hx hb (hml.trans hl.1.symm) hown (hts _ g334) (hts _ g336) (hts _ g335) (hts _ g128) hE hs 7 2 (f := t_shipRows T2) (g := t_shipRows S4) rfl rfl hf5 (ws' := (WT G a S6 ++ WT G b T2)) (by subst eS6; rfl) (Nat.le_of_ble_eq_true rfl) (Nat.le_of_ble_eq_true rfl) dX2_copyFrom_49 (fun H locs hs => ?_)
  refine lv_aload_n hx hb dX2_copyFrom_52 rfl (lv_at hl 1 rfl) ?_
  refine fg_X2_26 hx hb hown hts hE hs 5 rfl (v := .ref (b 3)) rfl dX2_copyFrom_53 ?_
  refine lv_iconst (v := (0 : Int32)) hx hb dX2_copyFrom_56 (by decide) ?_
  refine lv_aload_n hx hb dX2_copyFrom_57 rfl (lv_at hl 0 rfl) ?_
  refine fg_X2_26 hx hb hown hts hE hs 0 rfl (v := .ref (a 3)) rfl dX2_copyFrom_58 ?_
  refine lv_iconst (v := (0 : Int32)) hx hb dX2_copyFrom_61 (by decide) ?_
  refine lv_aload_n hx hb dX2_copyFrom_62 rfl (lv_at hl 0 rfl) ?_
  refine fg_X2_26 hx hb hown hts hE hs 0 rfl (v := .ref (a 3)) rfl dX2_copyFrom_63 ?_
  refine va_alen hx hb hE.1 hs.1 3 0 rfl rfl (v := (48 : Int32)) rfl dX2_copyFrom_66 ?_
  obtain ⟨f7, hf7, hF⟩ := bd hF
  obtain ⟨S8, eS8, hF⟩ := nm_some hF
  refine sx_copyi hx hb (hml.trans hl.1.symm) hown (hts _ g334) (hts _ g336) (hts _ g335) (hts _ g128) hE hs 8 3 (f := t_claimRows T2) (g := t_claimRows S6) rfl rfl hf7 (ws' := (WT G a S8 ++ WT G b T2)) (by subst eS8; rfl) (Nat.le_of_ble_eq_true rfl) (Nat.le_of_ble_eq_true rfl) dX2_copyFrom_67 (fun H locs hs => ?_)
  refine lv_aload_n hx hb dX2_copyFrom_70 rfl (lv_at hl 1 rfl) ?_
  refine fg_X2_29 hx hb hown hts hE hs 5 rfl (v := .ref (b 4)) rfl dX2_copyFrom_71 ?_
  refine lv_iconst (v := (0 : Int32)) hx hb dX2_copyFrom_74 (by decide) ?_
  refine lv_aload_n hx hb dX2_copyFrom_75 rfl (lv_at hl 0 rfl) ?_
  refine fg_X2_29 hx hb hown hts hE hs 0 rfl (v := .ref (a 4)) rfl dX2_copyFrom_76 ?_
  refine lv_iconst (v := (0 : Int32)) hx hb dX2_copyFrom_79 (by decide) ?_
  refine lv_aload_n hx hb dX2_copyFrom_80 rfl (lv_at hl 0 rfl) ?_
  refine fg_X2_29 hx hb hown hts hE hs 0 rfl (v := .ref (a 4)) rfl dX2_copyFrom_81 ?_
  refine va_alen hx hb hE.1 hs.1 4 0 rfl rfl (v := (10 : Int32)) rfl dX2_copyFrom_84 ?_
  obtain ⟨f9, hf9, hF⟩ := bd hF
  obtain ⟨S10, eS10, hF⟩ := nm_some hF
  refine sx_copyi hx hb (hml.trans hl.1.symm) hown (hts _ g334) (hts _ g336) (hts _ g335) (hts _ g128) hE hs 9 4 (f := t_laws T2) (g := t_laws S8) rfl rfl hf9 (ws' := (WT G a S10 ++ WT G b T2)) (by subst eS10; rfl) (Nat.le_of_ble_eq_true rfl) (Nat.le_of_ble_eq_true rfl) dX2_copyFrom_85 (fun H locs hs => ?_)
  exact sx_vret hx hb hr hlk hQ (congrArg (fun z => (WT G a z ++ WT G b T2)) (Option.some.inj hF)) hs dX2_copyFrom_88
set_option maxHeartbeats 4000000 in
set_option maxRecDepth 100000 in
theorem c_X2_holds (G : GT) (l : Launch) (a : Nat → Nat) (S : TS) (x1 : Int32) (r : Int32) (hF : F_X2_holds S x1 = some r) : MT G l yX2_holds cX2_holds 2 (some .boolean) 0 0 [.ref (a 0), .int x1] (WT G a S) (some (.int r)) (WT G a S) := by
  refine MT.of (by decide) (Nat.le_of_ble_eq_true rfl) ?_
  intro p e s m args below meth c A ls hx hb hr hml hown hts hlk hE hA hs hl Q hQ
  have hl : lv_has ls 2 [(0, .ref (a 0)), (1, .int x1)] := hl
  unfold F_X2_holds at hF
  refine lv_aload_n hx hb dX2_holds_0 rfl (lv_at hl 0 rfl) ?_
  refine fg_X2_29 hx hb hown hts hE hs 0 rfl (v := .ref (a 4)) rfl dX2_holds_1 ?_
  refine lv_iload_n hx hb dX2_holds_4 rfl (lv_at hl 1 rfl) ?_
  obtain ⟨v1, hv1, hF⟩ := bd hF
  refine sx_iald hx hb hE hs 4 (f := t_laws S) rfl hv1 dX2_holds_5 ?_
  refine lv_iconst (v := (1 : Int32)) hx hb dX2_holds_6 (by decide) ?_
  refine lv_icmp_ne (tgt := 14) hx hb dX2_holds_7 (by decide) (fun hc => ?_) (fun hc => ?_)
  · have hF := (if_neg hc).symm.trans hF
    refine lv_iconst (v := (0 : Int32)) hx hb dX2_holds_14 (by decide) ?_
    exact sx_zret hx hb hr hlk hQ (Or.inl rfl) (Option.some.inj hF) rfl hs dX2_holds_15
  · have hF := (if_pos hc).symm.trans hF
    refine lv_iconst (v := (1 : Int32)) hx hb dX2_holds_10 (by decide) ?_
    refine lv_goto (tgt := 15) hx hb dX2_holds_11 (by decide) ?_
    exact sx_zret hx hb hr hlk hQ (Or.inr rfl) (Option.some.inj hF) rfl hs dX2_holds_15
set_option maxHeartbeats 4000000 in
set_option maxRecDepth 100000 in
theorem c_X2_weightOf (G : GT) (l : Launch) (a : Nat → Nat) (S : TS) (x1 : Int32) (r : Int32) (hF : F_X2_weightOf S x1 = some r) : MT G l yX2_weightOf cX2_weightOf 3 (some .int) 1 24 [.ref (a 0), .int x1] (WT G a S) (some (.int r)) (WT G a S) := by
  refine MT.of (by decide) (Nat.le_of_ble_eq_true rfl) ?_
  intro p e s m args below meth c A ls hx hb hr hml hown hts hlk hE hA hs hl Q hQ
  have hl : lv_has ls 3 [(0, .ref (a 0)), (1, .int x1)] := hl
  unfold F_X2_weightOf at hF
  refine lv_aload_n hx hb dX2_weightOf_0 rfl (lv_at hl 0 rfl) ?_
  refine lv_iload_n hx hb dX2_weightOf_1 rfl (lv_at hl 1 rfl) ?_
  refine lv_iconst (v := (1 : Int32)) hx hb dX2_weightOf_2 (by decide) ?_
  obtain ⟨q1, hq1, hF⟩ := bd hF
  refine sx_V (As := [.int x1, .int (1 : Int32)]) (rest := []) (st1 := [.int q1]) (c_X2_ofShip G l a S x1 (1 : Int32) q1 hq1) v_X2_49 ⟨(Nat.le_of_ble_eq_true rfl), (Nat.le_of_ble_eq_true rfl)⟩ hx hb hml hown hts hE hA hs ⟨Nat.le_refl 0, Nat.le_refl 0⟩ 0 rfl rfl rfl rfl rfl hl.1 (Nat.le_of_ble_eq_true rfl) dX2_weightOf_3 (pmW _) (ws' := WT G a S) (pmW _) (fun H locs hs => ?_)
  refine lv_istore_n (lv' := [(2, .int q1), (0, .ref (a 0)), (1, .int x1)]) hx hb dX2_weightOf_6 rfl hl (by decide) rfl (fun ls hl => ?_)
  refine lv_aload_n hx hb dX2_weightOf_7 rfl (lv_at hl 1 rfl) ?_
  refine lv_iconst (v := (2 : Int32)) hx hb dX2_weightOf_8 (by decide) ?_
  obtain ⟨q2, hq2, hF⟩ := bd hF
  refine sx_V (As := [.int (2 : Int32)]) (rest := []) (st1 := [.int q2]) (c_X2_holds G l a S (2 : Int32) q2 hq2) v_X2_52 ⟨(Nat.le_of_ble_eq_true rfl), (Nat.le_of_ble_eq_true rfl)⟩ hx hb hml hown hts hE hA hs ⟨Nat.le_refl 0, Nat.le_refl 0⟩ 0 rfl rfl rfl rfl rfl hl.1 (Nat.le_of_ble_eq_true rfl) dX2_weightOf_9 (pmW _) (ws' := WT G a S) (pmW _) (fun H locs hs => ?_)
  refine lv_if_eq (tgt := 23) hx hb dX2_weightOf_12 (by decide) (fun hc => ?_) (fun hc => ?_)
  · have hF := (if_pos hc).symm.trans hF
    refine lv_iload_n hx hb dX2_weightOf_23 rfl (lv_at hl 0 rfl) ?_
    exact sx_iret hx hb hr hlk hQ (Option.some.inj hF) rfl hs dX2_weightOf_24
  · have hF := (if_neg hc).symm.trans hF
    refine lv_iload_n hx hb dX2_weightOf_15 rfl (lv_at hl 0 rfl) ?_
    refine lv_iconst (v := (1 : Int32)) hx hb dX2_weightOf_16 (by decide) ?_
    refine va_mmin hx hb (hml.trans hl.1.symm) hown (hts _ g494) (hts _ g495) (hts _ g131) (hts _ g496) (Nat.le_of_ble_eq_true rfl) (Nat.le_of_ble_eq_true rfl) (Nat.le_refl 0) (Nat.le_refl 0) dX2_weightOf_17 ?_
    obtain ⟨v3, ev3, hF⟩ := nm_some hF
    refine sx_topi ev3 ?_
    refine lv_goto (tgt := 24) hx hb dX2_weightOf_20 (by decide) ?_
    exact sx_iret hx hb hr hlk hQ (Option.some.inj hF) rfl hs dX2_weightOf_24
set_option maxHeartbeats 4000000 in
set_option maxRecDepth 100000 in
theorem c_X2_ofClaim (G : GT) (l : Launch) (a : Nat → Nat) (S : TS) (x1 : Int32) (x2 : Int32) (r : Int32) (hF : F_X2_ofClaim S x1 x2 = some r) : MT G l yX2_ofClaim cX2_ofClaim 3 (some .int) 0 0 [.ref (a 0), .int x1, .int x2] (WT G a S) (some (.int r)) (WT G a S) := by
  refine MT.of (by decide) (Nat.le_of_ble_eq_true rfl) ?_
  intro p e s m args below meth c A ls hx hb hr hml hown hts hlk hE hA hs hl Q hQ
  have hl : lv_has ls 3 [(0, .ref (a 0)), (1, .int x1), (2, .int x2)] := hl
  unfold F_X2_ofClaim at hF
  refine lv_aload_n hx hb dX2_ofClaim_0 rfl (lv_at hl 0 rfl) ?_
  refine fg_X2_26 hx hb hown hts hE hs 0 rfl (v := .ref (a 3)) rfl dX2_ofClaim_1 ?_
  refine lv_iload_n hx hb dX2_ofClaim_4 rfl (lv_at hl 1 rfl) ?_
  refine lv_iconst (v := (4 : Int32)) hx hb dX2_ofClaim_5 (by decide) ?_
  refine lv_imul hx hb dX2_ofClaim_6 ?_
  refine lv_iload_n hx hb dX2_ofClaim_7 rfl (lv_at hl 2 rfl) ?_
  refine lv_iadd hx hb dX2_ofClaim_8 ?_
  obtain ⟨v1, hv1, hF⟩ := bd hF
  refine sx_iald hx hb hE hs 3 (f := t_claimRows S) rfl hv1 dX2_ofClaim_9 ?_
  exact sx_iret hx hb hr hlk hQ (Option.some.inj hF) rfl hs dX2_ofClaim_10
set_option maxHeartbeats 4000000 in
set_option maxRecDepth 100000 in
theorem c_X2_roundOf (G : GT) (l : Launch) (a : Nat → Nat) (S : TS) (x1 : Int32) (r : Int32) (hF : F_X2_roundOf S x1 = some r) : MT G l yX2_roundOf cX2_roundOf 3 (some .int) 1 22 [.ref (a 0), .int x1] (WT G a S) (some (.int r)) (WT G a S) := by
  refine MT.of (by decide) (Nat.le_of_ble_eq_true rfl) ?_
  intro p e s m args below meth c A ls hx hb hr hml hown hts hlk hE hA hs hl Q hQ
  have hl : lv_has ls 3 [(0, .ref (a 0)), (1, .int x1)] := hl
  unfold F_X2_roundOf at hF
  refine lv_aload_n hx hb dX2_roundOf_0 rfl (lv_at hl 0 rfl) ?_
  refine lv_iload_n hx hb dX2_roundOf_1 rfl (lv_at hl 1 rfl) ?_
  refine lv_iconst (v := (3 : Int32)) hx hb dX2_roundOf_2 (by decide) ?_
  obtain ⟨q1, hq1, hF⟩ := bd hF
  refine sx_V (As := [.int x1, .int (3 : Int32)]) (rest := []) (st1 := [.int q1]) (c_X2_ofClaim G l a S x1 (3 : Int32) q1 hq1) v_X2_41 ⟨(Nat.le_of_ble_eq_true rfl), (Nat.le_of_ble_eq_true rfl)⟩ hx hb hml hown hts hE hA hs ⟨Nat.le_refl 0, Nat.le_refl 0⟩ 0 rfl rfl rfl rfl rfl hl.1 (Nat.le_of_ble_eq_true rfl) dX2_roundOf_3 (pmW _) (ws' := WT G a S) (pmW _) (fun H locs hs => ?_)
  refine lv_istore_n (lv' := [(2, .int q1), (0, .ref (a 0)), (1, .int x1)]) hx hb dX2_roundOf_6 rfl hl (by decide) rfl (fun ls hl => ?_)
  refine lv_iload_n hx hb dX2_roundOf_7 rfl (lv_at hl 0 rfl) ?_
  refine lv_aload_n hx hb dX2_roundOf_8 rfl (lv_at hl 1 rfl) ?_
  refine fg_X2_29 hx hb hown hts hE hs 0 rfl (v := .ref (a 4)) rfl dX2_roundOf_9 ?_
  refine lv_bipush (v := (9 : Int32)) hx hb dX2_roundOf_12 (by decide) ?_
  obtain ⟨v2, hv2, hF⟩ := bd hF
  refine sx_iald hx hb hE hs 4 (f := t_laws S) rfl hv2 dX2_roundOf_14 ?_
  refine lv_icmp_le (tgt := 21) hx hb dX2_roundOf_15 (by decide) (fun hc => ?_) (fun hc => ?_)
  · have hF := (if_pos hc).symm.trans hF
    refine lv_iload_n hx hb dX2_roundOf_21 rfl (lv_at hl 0 rfl) ?_
    refine lv_aload_n hx hb dX2_roundOf_22 rfl (lv_at hl 1 rfl) ?_
    refine fg_X2_29 hx hb hown hts hE hs 0 rfl (v := .ref (a 4)) rfl dX2_roundOf_23 ?_
    refine lv_bipush (v := (8 : Int32)) hx hb dX2_roundOf_26 (by decide) ?_
    obtain ⟨v3, hv3, hF⟩ := bd hF
    refine sx_iald hx hb hE hs 4 (f := t_laws S) rfl hv3 dX2_roundOf_28 ?_
    refine lv_icmp_le (tgt := 36) hx hb dX2_roundOf_29 (by decide) (fun hc => ?_) (fun hc => ?_)
    · have hF := (if_pos hc).symm.trans hF
      refine lv_iconst (v := (0 : Int32)) hx hb dX2_roundOf_36 (by decide) ?_
      exact sx_iret hx hb hr hlk hQ (Option.some.inj hF) rfl hs dX2_roundOf_37
    · have hF := (if_neg hc).symm.trans hF
      refine lv_iconst (v := (1 : Int32)) hx hb dX2_roundOf_32 (by decide) ?_
      refine lv_goto (tgt := 37) hx hb dX2_roundOf_33 (by decide) ?_
      exact sx_iret hx hb hr hlk hQ (Option.some.inj hF) rfl hs dX2_roundOf_37
  · have hF := (if_neg hc).symm.trans hF
    refine lv_bipush (v := (-2 : Int32)) hx hb dX2_roundOf_18 (by decide) ?_
    exact sx_iret hx hb hr hlk hQ (Option.some.inj hF) rfl hs dX2_roundOf_20
set_option maxHeartbeats 4000000 in
set_option maxRecDepth 100000 in
theorem c_X2_isGoods (G : GT) (l : Launch) (a : Nat → Nat) (S : TS) (x1 : Int32) (r : Int32) (hF : F_X2_isGoods S x1 = some r) : MT G l yX2_isGoods cX2_isGoods 2 (some .boolean) 1 22 [.ref (a 0), .int x1] (WT G a S) (some (.int r)) (WT G a S) := by
  refine MT.of (by decide) (Nat.le_of_ble_eq_true rfl) ?_
  intro p e s m args below meth c A ls hx hb hr hml hown hts hlk hE hA hs hl Q hQ
  have hl : lv_has ls 2 [(0, .ref (a 0)), (1, .int x1)] := hl
  unfold F_X2_isGoods at hF
  refine lv_aload_n hx hb dX2_isGoods_0 rfl (lv_at hl 0 rfl) ?_
  refine lv_iload_n hx hb dX2_isGoods_1 rfl (lv_at hl 1 rfl) ?_
  refine lv_iconst (v := (0 : Int32)) hx hb dX2_isGoods_2 (by decide) ?_
  obtain ⟨q1, hq1, hF⟩ := bd hF
  refine sx_V (As := [.int x1, .int (0 : Int32)]) (rest := []) (st1 := [.int q1]) (c_X2_ofClaim G l a S x1 (0 : Int32) q1 hq1) v_X2_41 ⟨(Nat.le_of_ble_eq_true rfl), (Nat.le_of_ble_eq_true rfl)⟩ hx hb hml hown hts hE hA hs ⟨Nat.le_refl 0, Nat.le_refl 0⟩ 0 rfl rfl rfl rfl rfl hl.1 (Nat.le_of_ble_eq_true rfl) dX2_isGoods_3 (pmW _) (ws' := WT G a S) (pmW _) (fun H locs hs => ?_)
  refine lv_if_ne (tgt := 13) hx hb dX2_isGoods_6 (by decide) (fun hc => ?_) (fun hc => ?_)
  · have hF := (if_neg hc).symm.trans hF
    refine lv_iconst (v := (0 : Int32)) hx hb dX2_isGoods_13 (by decide) ?_
    exact sx_zret hx hb hr hlk hQ (Or.inl rfl) (Option.some.inj hF) rfl hs dX2_isGoods_14
  · have hF := (if_pos hc).symm.trans hF
    refine lv_iconst (v := (1 : Int32)) hx hb dX2_isGoods_9 (by decide) ?_
    refine lv_goto (tgt := 14) hx hb dX2_isGoods_10 (by decide) ?_
    exact sx_zret hx hb hr hlk hQ (Or.inr rfl) (Option.some.inj hF) rfl hs dX2_isGoods_14
set_option maxHeartbeats 4000000 in
set_option maxRecDepth 100000 in
theorem c_X2_fundTons (G : GT) (l : Launch) (a : Nat → Nat) (S : TS) (x1 : Int32) (r : Int64) (hF : F_X2_fundTons S x1 = some r) : MT G l yX2_fundTons cX2_fundTons 2 (some .long) 1 24 [.ref (a 0), .int x1] (WT G a S) (some (.long r)) (WT G a S) := by
  refine MT.of (by decide) (Nat.le_of_ble_eq_true rfl) ?_
  intro p e s m args below meth c A ls hx hb hr hml hown hts hlk hE hA hs hl Q hQ
  have hl : lv_has ls 2 [(0, .ref (a 0)), (1, .int x1)] := hl
  unfold F_X2_fundTons at hF
  refine lv_aload_n hx hb dX2_fundTons_0 rfl (lv_at hl 0 rfl) ?_
  refine lv_iload_n hx hb dX2_fundTons_1 rfl (lv_at hl 1 rfl) ?_
  refine lv_iconst (v := (0 : Int32)) hx hb dX2_fundTons_2 (by decide) ?_
  obtain ⟨q1, hq1, hF⟩ := bd hF
  refine sx_V (As := [.int x1, .int (0 : Int32)]) (rest := []) (st1 := [.int q1]) (c_X2_ofShip G l a S x1 (0 : Int32) q1 hq1) v_X2_49 ⟨(Nat.le_of_ble_eq_true rfl), (Nat.le_of_ble_eq_true rfl)⟩ hx hb hml hown hts hE hA hs ⟨Nat.le_refl 0, Nat.le_refl 0⟩ 0 rfl rfl rfl rfl rfl hl.1 (Nat.le_of_ble_eq_true rfl) dX2_fundTons_3 (pmW _) (ws' := WT G a S) (pmW _) (fun H locs hs => ?_)
  refine lv_aload_n hx hb dX2_fundTons_6 rfl (lv_at hl 0 rfl) ?_
  refine fg_X2_29 hx hb hown hts hE hs 0 rfl (v := .ref (a 4)) rfl dX2_fundTons_7 ?_
  refine lv_bipush (v := (7 : Int32)) hx hb dX2_fundTons_10 (by decide) ?_
  obtain ⟨v2, hv2, hF⟩ := bd hF
  refine sx_iald hx hb hE hs 4 (f := t_laws S) rfl hv2 dX2_fundTons_12 ?_
  refine va_mmax hx hb (hml.trans hl.1.symm) hown (hts _ g612) (hts _ g613) (hts _ g131) (hts _ g614) (Nat.le_of_ble_eq_true rfl) (Nat.le_of_ble_eq_true rfl) (Nat.le_refl 0) (Nat.le_refl 0) dX2_fundTons_13 ?_
  obtain ⟨v3, ev3, hF⟩ := nm_some hF
  refine sx_topi ev3 ?_
  refine lv_i2l hx hb dX2_fundTons_16 rfl ?_
  exact sx_lret hx hb hr hlk hQ (Option.some.inj hF) rfl hs dX2_fundTons_17
set_option maxHeartbeats 4000000 in
set_option maxRecDepth 100000 in
theorem c_X2_fundOf (G : GT) (l : Launch) (a : Nat → Nat) (S : TS) (x1 : Int32) (x2 : Int32) (r : Int64) (hF : F_X2_fundOf S x1 x2 = some r) : MT G l yX2_fundOf cX2_fundOf 3 (some .long) 2 45 [.ref (a 0), .int x1, .int x2] (WT G a S) (some (.long r)) (WT G a S) := by
  refine MT.of (by decide) (Nat.le_of_ble_eq_true rfl) ?_
  intro p e s m args below meth c A ls hx hb hr hml hown hts hlk hE hA hs hl Q hQ
  have hl : lv_has ls 3 [(0, .ref (a 0)), (1, .int x1), (2, .int x2)] := hl
  unfold F_X2_fundOf at hF
  refine lv_aload_n hx hb dX2_fundOf_0 rfl (lv_at hl 0 rfl) ?_
  refine lv_iload_n hx hb dX2_fundOf_1 rfl (lv_at hl 1 rfl) ?_
  obtain ⟨q1, hq1, hF⟩ := bd hF
  refine sx_V (As := [.int x1]) (rest := []) (st1 := [.long q1]) (c_X2_fundTons G l a S x1 q1 hq1) v_X2_64 ⟨(Nat.le_of_ble_eq_true rfl), (Nat.le_of_ble_eq_true rfl)⟩ hx hb hml hown hts hE hA hs ⟨Nat.le_refl 0, Nat.le_refl 0⟩ 0 rfl rfl rfl rfl rfl hl.1 (Nat.le_of_ble_eq_true rfl) dX2_fundOf_2 (pmW _) (ws' := WT G a S) (pmW _) (fun H locs hs => ?_)
  refine lv_aload_n hx hb dX2_fundOf_5 rfl (lv_at hl 0 rfl) ?_
  refine fg_X2_29 hx hb hown hts hE hs 0 rfl (v := .ref (a 4)) rfl dX2_fundOf_6 ?_
  refine lv_iload_n hx hb dX2_fundOf_9 rfl (lv_at hl 2 rfl) ?_
  obtain ⟨v2, hv2, hF⟩ := bd hF
  refine sx_iald hx hb hE hs 4 (f := t_laws S) rfl hv2 dX2_fundOf_10 ?_
  refine lv_i2l hx hb dX2_fundOf_11 rfl ?_
  refine lv_lmul hx hb dX2_fundOf_12 ?_
  refine lv_ldc2 (v := (2000000000 : Int64)) hx hb hown (hts _ g615) dX2_fundOf_13 ?_
  refine va_mmin_long hx hb (hml.trans hl.1.symm) hown (hts _ g616) (hts _ g593) (hts _ g131) (hts _ g594) (Nat.le_of_ble_eq_true rfl) (Nat.le_of_ble_eq_true rfl) (Nat.le_refl 0) (Nat.le_refl 0) dX2_fundOf_16 ?_
  obtain ⟨v3, ev3, hF⟩ := nm_some hF
  refine sx_topl ev3 ?_
  exact sx_lret hx hb hr hlk hQ (Option.some.inj hF) rfl hs dX2_fundOf_19
set_option maxHeartbeats 4000000 in
set_option maxRecDepth 100000 in
theorem c_X2_dropClaim (G : GT) (l : Launch) (a : Nat → Nat) (S : TS) (x1 : Int32) (r : TS) (hF : F_X2_dropClaim S x1 = some r) : MT G l yX2_dropClaim cX2_dropClaim 3 (none) 0 0 [.ref (a 0), .int x1] (WT G a S) none (WT G a r) := by
  refine MT.of (by decide) (Nat.le_of_ble_eq_true rfl) ?_
  intro p e s m args below meth c A ls hx hb hr hml hown hts hlk hE hA hs hl Q hQ
  have hl : lv_has ls 3 [(0, .ref (a 0)), (1, .int x1)] := hl
  have hL14 : ∀ (k : TS → Option (TS)) (hk : ∀ (S : TS) (H : Heap) (locs : List Loc) (ls : Array Slot), k S = some r → SI G A s H locs (WT G a S) → lv_has ls 3 [] → W p l e (RM 0 0) s m args below meth c H locs 0 0 Q (F0 m 44 ls [])) (fu : Nat) (S : TS) (x2 : Int32) (H : Heap) (locs : List Loc) (ls : Array Slot), lo2 (B_X2_dropClaim_14 k) fu S x2 = some r → SI G A s H locs (WT G a S) → lv_has ls 3 [(0, .ref (a 0)), (2, .int x2)] → W p l e (RM 0 0) s m args below meth c H locs 0 0 Q (F0 m 14 ls []) := by
    intro k hk fu
    induction fu with
    | zero =>
      intro S x2 H locs ls hF hs hl
      exact nomatch (show (none : Option (TS)) = some r from hF)
    | succ fu hrec =>
      intro S x2 H locs ls hF hs hl
      have hF : (B_X2_dropClaim_14 k) (lo2 (B_X2_dropClaim_14 k) fu) S x2 = some r := hF
      unfold B_X2_dropClaim_14 at hF
      refine lv_iload_n hx hb dX2_dropClaim_14 rfl (lv_at hl 1 rfl) ?_
      refine lv_aload_n hx hb dX2_dropClaim_15 rfl (lv_at hl 0 rfl) ?_
      refine fg_X2_15 hx hb hown hts hE hs 0 rfl (v := .int (t_claims S)) rfl dX2_dropClaim_16 ?_
      refine lv_iconst (v := (4 : Int32)) hx hb dX2_dropClaim_19 (by decide) ?_
      refine lv_imul hx hb dX2_dropClaim_20 ?_
      refine lv_icmp_ge (tgt := 44) hx hb dX2_dropClaim_21 (by decide) (fun hc => ?_) (fun hc => ?_)
      · have hF := (if_pos hc).symm.trans hF
        exact hk S _ _ _ hF hs (lv_sub hl [] rfl)
      · have hF := (if_neg hc).symm.trans hF
        refine lv_aload_n hx hb dX2_dropClaim_24 rfl (lv_at hl 0 rfl) ?_
        refine fg_X2_26 hx hb hown hts hE hs 0 rfl (v := .ref (a 3)) rfl dX2_dropClaim_25 ?_
        refine lv_iload_n hx hb dX2_dropClaim_28 rfl (lv_at hl 1 rfl) ?_
        refine lv_aload_n hx hb dX2_dropClaim_29 rfl (lv_at hl 0 rfl) ?_
        refine fg_X2_26 hx hb hown hts hE hs 0 rfl (v := .ref (a 3)) rfl dX2_dropClaim_30 ?_
        refine lv_iload_n hx hb dX2_dropClaim_33 rfl (lv_at hl 1 rfl) ?_
        refine lv_iconst (v := (4 : Int32)) hx hb dX2_dropClaim_34 (by decide) ?_
        refine lv_iadd hx hb dX2_dropClaim_35 ?_
        obtain ⟨v3, hv3, hF⟩ := bd hF
        refine sx_iald hx hb hE hs 3 (f := t_claimRows S) rfl hv3 dX2_dropClaim_36 ?_
        obtain ⟨f4, hf4, hF⟩ := bd hF
        obtain ⟨S5, eS5, hF⟩ := nm_some hF
        refine sx_iast hx hb hE hs 3 (f := t_claimRows S) rfl hf4 (ws' := WT G a S5) (by subst eS5; rfl) dX2_dropClaim_37 (fun H locs hs => ?_)
        obtain ⟨v6, ev6, hF⟩ := nm_some hF
        refine lv_iinc (v := v6) (lv' := [(2, .int v6), (0, .ref (a 0))]) hx hb dX2_dropClaim_38 hl (k := 1) rfl (by rw [ev6]; rfl) (by decide) rfl (fun ls hl => ?_)
        refine lv_goto (tgt := 14) hx hb dX2_dropClaim_41 (by decide) ?_
        exact hrec S5 v6 _ _ _ hF hs (lv_sub hl [1, 0] rfl)
  unfold F_X2_dropClaim at hF
  refine lv_aload_n hx hb dX2_dropClaim_0 rfl (lv_at hl 0 rfl) ?_
  refine lv_dup hx hb dX2_dropClaim_1 rfl ?_
  refine fg_X2_15 hx hb hown hts hE hs 0 rfl (v := .int (t_claims S)) rfl dX2_dropClaim_2 ?_
  refine lv_iconst (v := (1 : Int32)) hx hb dX2_dropClaim_5 (by decide) ?_
  refine lv_isub hx hb dX2_dropClaim_6 ?_
  obtain ⟨S1, eS1, hF⟩ := nm_some hF
  refine fp_X2_15 hx hb hown hts hE hs 0 rfl (ws' := WT G a S1) (Nat.le_of_ble_eq_true rfl) (by subst eS1; rfl) dX2_dropClaim_7 (fun H locs hs => ?_)
  refine lv_iload_n hx hb dX2_dropClaim_10 rfl (lv_at hl 1 rfl) ?_
  refine lv_iconst (v := (4 : Int32)) hx hb dX2_dropClaim_11 (by decide) ?_
  refine lv_imul hx hb dX2_dropClaim_12 ?_
  obtain ⟨v2, ev2, hF⟩ := nm_some hF
  refine sx_topi ev2 ?_
  refine lv_istore_n (lv' := [(2, .int v2), (0, .ref (a 0)), (1, .int x1)]) hx hb dX2_dropClaim_13 rfl hl (by decide) rfl (fun ls hl => ?_)
  refine hL14 _ (fun S7 H locs ls hF hs hl => ?_) FU S1 v2 _ _ _ hF hs (lv_sub hl [1, 0] rfl)
  exact sx_vret hx hb hr hlk hQ (congrArg (fun z => WT G a z) (Option.some.inj hF)) hs dX2_dropClaim_44
set_option maxHeartbeats 4000000 in
set_option maxRecDepth 100000 in
theorem c_X2_drawFaults (G : GT) (l : Launch) (a : Nat → Nat) (S : TS) (x1 : Int64) (r : Int64 × TS) (hF : F_X2_drawFaults S x1 = some r) : MT G l yX2_drawFaults cX2_drawFaults 7 (some .long) 1 23 [.ref (a 0), .long x1] (WT G a S) (some (.long r.1)) (WT G a r.2) := by
  refine MT.of (by decide) (Nat.le_of_ble_eq_true rfl) ?_
  intro p e s m args below meth c A ls hx hb hr hml hown hts hlk hE hA hs hl Q hQ
  have hl : lv_has ls 7 [(0, .ref (a 0)), (1, .long x1)] := hl
  have hL2 : ∀ (x1 : Int64) (k : TS → Option (Int64 × TS)) (hk : ∀ (S : TS) (H : Heap) (locs : List Loc) (ls : Array Slot), k S = some r → SI G A s H locs (WT G a S) → lv_has ls 7 [(0, .ref (a 0)), (1, .long x1)] → W p l e (RM 1 23) s m args below meth c H locs 0 0 Q (F0 m 23 ls [])) (fu : Nat) (S : TS) (x3 : Int32) (H : Heap) (locs : List Loc) (ls : Array Slot), lo2 (B_X2_drawFaults_2 x1 k) fu S x3 = some r → SI G A s H locs (WT G a S) → lv_has ls 7 [(0, .ref (a 0)), (1, .long x1), (3, .int x3)] → W p l e (RM 1 23) s m args below meth c H locs 0 0 Q (F0 m 2 ls []) := by
    intro x1 k hk fu
    induction fu with
    | zero =>
      intro S x3 H locs ls hF hs hl
      exact nomatch (show (none : Option (Int64 × TS)) = some r from hF)
    | succ fu hrec =>
      intro S x3 H locs ls hF hs hl
      have hF : (B_X2_drawFaults_2 x1 k) (lo2 (B_X2_drawFaults_2 x1 k) fu) S x3 = some r := hF
      unfold B_X2_drawFaults_2 at hF
      refine lv_iload_n hx hb dX2_drawFaults_2 rfl (lv_at hl 2 rfl) ?_
      refine lv_aload_n hx hb dX2_drawFaults_3 rfl (lv_at hl 0 rfl) ?_
      refine fg_X2_9 hx hb hown hts hE hs 0 rfl (v := .int (t_ships S)) rfl dX2_drawFaults_4 ?_
      refine lv_icmp_ge (tgt := 23) hx hb dX2_drawFaults_7 (by decide) (fun hc => ?_) (fun hc => ?_)
      · have hF := (if_pos hc).symm.trans hF
        exact hk S _ _ _ hF hs (lv_sub hl [0, 1] rfl)
      · have hF := (if_neg hc).symm.trans hF
        refine lv_aload_n hx hb dX2_drawFaults_10 rfl (lv_at hl 0 rfl) ?_
        refine lv_iload_n hx hb dX2_drawFaults_11 rfl (lv_at hl 2 rfl) ?_
        refine lv_iconst (v := (1 : Int32)) hx hb dX2_drawFaults_12 (by decide) ?_
        refine lv_iconst (v := (0 : Int32)) hx hb dX2_drawFaults_13 (by decide) ?_
        obtain ⟨q1, hq1, hF⟩ := bd hF
        refine sx_V (As := [.int x3, .int (1 : Int32), .int (0 : Int32)]) (rest := []) (st1 := []) (c_X2_setShip G l a S x3 (1 : Int32) (0 : Int32) q1 hq1) v_X2_45 ⟨(Nat.le_of_ble_eq_true rfl), (Nat.le_of_ble_eq_true rfl)⟩ hx hb hml hown hts hE hA hs ⟨Nat.le_refl 0, Nat.le_refl 0⟩ 0 rfl rfl rfl rfl rfl hl.1 (Nat.le_of_ble_eq_true rfl) dX2_drawFaults_14 (pmW _) (ws' := WT G a q1) (pmW _) (fun H locs hs => ?_)
        obtain ⟨v2, ev2, hF⟩ := nm_some hF
        refine lv_iinc (v := v2) (lv' := [(3, .int v2), (0, .ref (a 0)), (1, .long x1)]) hx hb dX2_drawFaults_17 hl (k := 2) rfl (by rw [ev2]; rfl) (by decide) rfl (fun ls hl => ?_)
        refine lv_goto (tgt := 2) hx hb dX2_drawFaults_20 (by decide) ?_
        exact hrec q1 v2 _ _ _ hF hs (lv_sub hl [1, 2, 0] rfl)
  have hL28 : ∀ (k : TS → Int64 → Option (Int64 × TS)) (hk : ∀ (S : TS) (x3 : Int64) (H : Heap) (locs : List Loc) (ls : Array Slot), k S x3 = some r → SI G A s H locs (WT G a S) → lv_has ls 7 [(3, .long x3)] → W p l e (RM 1 23) s m args below meth c H locs 0 0 Q (F0 m 84 ls [])) (fu : Nat) (S : TS) (x3 : Int64) (x5 : Int32) (H : Heap) (locs : List Loc) (ls : Array Slot), lo3 (B_X2_drawFaults_28 k) fu S x3 x5 = some r → SI G A s H locs (WT G a S) → lv_has ls 7 [(0, .ref (a 0)), (3, .long x3), (5, .int x5)] → W p l e (RM 1 23) s m args below meth c H locs 0 0 Q (F0 m 28 ls []) := by
    intro k hk fu
    induction fu with
    | zero =>
      intro S x3 x5 H locs ls hF hs hl
      exact nomatch (show (none : Option (Int64 × TS)) = some r from hF)
    | succ fu hrec =>
      intro S x3 x5 H locs ls hF hs hl
      have hF : (B_X2_drawFaults_28 k) (lo3 (B_X2_drawFaults_28 k) fu) S x3 x5 = some r := hF
      unfold B_X2_drawFaults_28 at hF
      refine lv_iload hx hb dX2_drawFaults_28 (lv_at hl 2 rfl) ?_
      refine lv_bipush (v := (10 : Int32)) hx hb dX2_drawFaults_30 (by decide) ?_
      refine lv_icmp_ge (tgt := 84) hx hb dX2_drawFaults_32 (by decide) (fun hc => ?_) (fun hc => ?_)
      · have hF := (if_pos hc).symm.trans hF
        exact hk S x3 _ _ _ hF hs (lv_sub hl [1] rfl)
      · have hF := (if_neg hc).symm.trans hF
        refine lv_aload_n hx hb dX2_drawFaults_35 rfl (lv_at hl 0 rfl) ?_
        refine fg_X2_9 hx hb hown hts hE hs 0 rfl (v := .int (t_ships S)) rfl dX2_drawFaults_36 ?_
        refine lv_if_le (tgt := 84) hx hb dX2_drawFaults_39 (by decide) (fun hc => ?_) (fun hc => ?_)
        · have hF := (if_pos hc).symm.trans hF
          exact hk S x3 _ _ _ hF hs (lv_sub hl [1] rfl)
        · have hF := (if_neg hc).symm.trans hF
          refine lv_ldc2 (v := (48271 : Int64)) hx hb hown (hts _ g812) dX2_drawFaults_42 ?_
          refine lv_lload_n hx hb dX2_drawFaults_45 rfl (lv_at hl 1 rfl) ?_
          refine lv_lmul hx hb dX2_drawFaults_46 ?_
          refine lv_ldc2 (v := (2147483647 : Int64)) hx hb hown (hts _ g813) dX2_drawFaults_47 ?_
          obtain ⟨v4, hv4, hF⟩ := bd hF
          refine sx_lrem hx hb hv4 dX2_drawFaults_50 ?_
          refine lv_lstore_n (lv' := [(3, .long v4), (0, .ref (a 0)), (5, .int x5)]) hx hb dX2_drawFaults_51 rfl hl (by decide) rfl (fun ls hl => ?_)
          refine lv_lload_n hx hb dX2_drawFaults_52 rfl (lv_at hl 0 rfl) ?_
          refine lv_aload_n hx hb dX2_drawFaults_53 rfl (lv_at hl 1 rfl) ?_
          refine fg_X2_9 hx hb hown hts hE hs 0 rfl (v := .int (t_ships S)) rfl dX2_drawFaults_54 ?_
          refine lv_i2l hx hb dX2_drawFaults_57 rfl ?_
          obtain ⟨v5, hv5, hF⟩ := bd hF
          refine sx_lrem hx hb hv5 dX2_drawFaults_58 ?_
          refine lv_l2i hx hb dX2_drawFaults_59 rfl ?_
          obtain ⟨v6, ev6, hF⟩ := nm_some hF
          refine sx_topi ev6 ?_
          refine lv_istore (lv' := [(6, .int v6), (3, .long v4), (0, .ref (a 0)), (5, .int x5)]) hx hb dX2_drawFaults_60 hl (by decide) rfl (fun ls hl => ?_)
          refine lv_aload_n hx hb dX2_drawFaults_62 rfl (lv_at hl 2 rfl) ?_
          refine lv_iload hx hb dX2_drawFaults_63 (lv_at hl 0 rfl) ?_
          refine lv_iconst (v := (1 : Int32)) hx hb dX2_drawFaults_65 (by decide) ?_
          refine lv_aload_n hx hb dX2_drawFaults_66 rfl (lv_at hl 2 rfl) ?_
          refine lv_iload hx hb dX2_drawFaults_67 (lv_at hl 0 rfl) ?_
          refine lv_iconst (v := (1 : Int32)) hx hb dX2_drawFaults_69 (by decide) ?_
          obtain ⟨q7, hq7, hF⟩ := bd hF
          refine sx_V (As := [.int v6, .int (1 : Int32)]) (rest := [.int (1 : Int32), .int v6, .ref (a 0)]) (st1 := [.int q7, .int (1 : Int32), .int v6, .ref (a 0)]) (c_X2_ofShip G l a S v6 (1 : Int32) q7 hq7) v_X2_49 ⟨(Nat.le_of_ble_eq_true rfl), (Nat.le_of_ble_eq_true rfl)⟩ hx hb hml hown hts hE hA hs ⟨Nat.le_refl 0, Nat.le_refl 0⟩ 0 rfl rfl rfl rfl rfl hl.1 (Nat.le_of_ble_eq_true rfl) dX2_drawFaults_70 (pmW _) (ws' := WT G a S) (pmW _) (fun H locs hs => ?_)
          refine lv_iconst (v := (1 : Int32)) hx hb dX2_drawFaults_73 (by decide) ?_
          refine lv_iadd hx hb dX2_drawFaults_74 ?_
          obtain ⟨q8, hq8, hF⟩ := bd hF
          refine sx_V (As := [.int v6, .int (1 : Int32), .int (q7 + (1 : Int32))]) (rest := []) (st1 := []) (c_X2_setShip G l a S v6 (1 : Int32) (q7 + (1 : Int32)) q8 hq8) v_X2_45 ⟨(Nat.le_of_ble_eq_true rfl), (Nat.le_of_ble_eq_true rfl)⟩ hx hb hml hown hts hE hA hs ⟨Nat.le_refl 0, Nat.le_refl 0⟩ 0 rfl rfl rfl rfl rfl hl.1 (Nat.le_of_ble_eq_true rfl) dX2_drawFaults_75 (pmW _) (ws' := WT G a q8) (pmW _) (fun H locs hs => ?_)
          obtain ⟨v9, ev9, hF⟩ := nm_some hF
          refine lv_iinc (v := v9) (lv' := [(5, .int v9), (6, .int v6), (3, .long v4), (0, .ref (a 0))]) hx hb dX2_drawFaults_78 hl (k := 3) rfl (by rw [ev9]; rfl) (by decide) rfl (fun ls hl => ?_)
          refine lv_goto (tgt := 28) hx hb dX2_drawFaults_81 (by decide) ?_
          exact hrec q8 v4 v9 _ _ _ hF hs (lv_sub hl [3, 2, 0] rfl)
  have hJ84_n : ∀ (S : TS) (x3 : Int64) (H : Heap) (locs : List Loc) (ls : Array Slot), J_X2_drawFaults_84 S x3 = some r → SI G A s H locs (WT G a S) → lv_has ls 7 [(3, .long x3)] → W p l e (RM 1 23) s m args below meth c H locs 0 0 Q (F0 m 84 ls []) := by
    intro S x3 H locs ls hF hs hl
    unfold J_X2_drawFaults_84 at hF
    refine lv_lload_n hx hb dX2_drawFaults_84 rfl (lv_at hl 0 rfl) ?_
    exact sx_lret hx hb hr hlk hQ (congrArg Prod.fst (Option.some.inj hF)) (congrArg (fun z => WT G a z) (congrArg Prod.snd (Option.some.inj hF))) hs dX2_drawFaults_85
  unfold F_X2_drawFaults at hF
  refine lv_iconst (v := (0 : Int32)) hx hb dX2_drawFaults_0 (by decide) ?_
  refine lv_istore_n (lv' := [(3, .int (0 : Int32)), (0, .ref (a 0)), (1, .long x1)]) hx hb dX2_drawFaults_1 rfl hl (by decide) rfl (fun ls hl => ?_)
  refine hL2 x1 _ (fun S3 H locs ls hF hs hl => ?_) FU S (0 : Int32) _ _ _ hF hs (lv_sub hl [1, 2, 0] rfl)
  refine lv_lload_n hx hb dX2_drawFaults_23 rfl (lv_at hl 1 rfl) ?_
  refine lv_lstore_n (lv' := [(3, .long x1), (0, .ref (a 0)), (1, .long x1)]) hx hb dX2_drawFaults_24 rfl hl (by decide) rfl (fun ls hl => ?_)
  refine lv_iconst (v := (0 : Int32)) hx hb dX2_drawFaults_25 (by decide) ?_
  refine lv_istore (lv' := [(5, .int (0 : Int32)), (3, .long x1), (0, .ref (a 0)), (1, .long x1)]) hx hb dX2_drawFaults_26 hl (by decide) rfl (fun ls hl => ?_)
  refine hL28 _ (fun S10 z11 H locs ls hF hs hl => ?_) FU S3 x1 (0 : Int32) _ _ _ hF hs (lv_sub hl [2, 1, 0] rfl)
  exact hJ84_n S10 z11 _ _ _ hF hs (lv_sub hl [0] rfl)
