set_option maxHeartbeats 4000000 in
set_option maxRecDepth 100000 in
theorem c_X1_take (G : GT) (l : Launch) (a : Nat → Nat) (b : Nat → Nat) (S : RS) (T2 : TS) (r : RS) (hF : F_X1_take S T2 = some r) : MT G l yX1_take cX1_take 2 (none) 2 61 [.ref (a 0), .ref (b 0)] ((WR G a S ++ WT G b T2)) none ((WR G a r ++ WT G b T2)) := by
  refine MT.of (by decide) (Nat.le_of_ble_eq_true rfl) ?_
  intro p e s m args below meth c A ls hx hb hr hml hown hts hlk hE hA hs hl Q hQ
  have hl : lv_has ls 2 [(0, .ref (a 0)), (1, .ref (b 0))] := hl
  unfold F_X1_take at hF
  refine lv_aload_n hx hb dX1_take_0 rfl (lv_at hl 0 rfl) ?_
  refine fg_X1_12 hx hb hown hts hE hs 5 rfl (v := .ref (a 6)) rfl dX1_take_1 ?_
  refine lv_aload_n hx hb dX1_take_4 rfl (lv_at hl 1 rfl) ?_
  obtain ⟨q1, hq1, hF⟩ := bd hF
  obtain ⟨S2, eS2, hF⟩ := nm_some hF
  refine sx_N (As := [.ref (b 0)]) (rest := []) (st1 := []) (c_X2_copyFrom G l (fun k => a (6 + k)) b (r_told S) T2 q1 hq1) v_X1_39 ⟨(Nat.le_of_ble_eq_true rfl), (Nat.le_of_ble_eq_true rfl)⟩ hx hb hml hown hts hE hA hs ⟨Nat.le_refl 0, Nat.le_refl 0⟩ 0 rfl rfl rfl rfl rfl hl.1 (Nat.le_of_ble_eq_true rfl) dX1_take_5 (pRo_told G a b S (r_told S) T2) (ws' := (WR G a S2 ++ WT G b T2)) (by subst eS2; exact pRo_told G a b S q1 T2) (fun H locs hs => ?_)
  exact sx_vret hx hb hr hlk hQ (congrArg (fun z => (WR G a z ++ WT G b T2)) (Option.some.inj hF)) hs dX1_take_8
set_option maxHeartbeats 4000000 in
set_option maxRecDepth 100000 in
theorem c_J7_fill_d0a16 (G : GT) (l : Launch) (b : Nat) {n : Nat} (S : (Fin n → Int64)) (x1 : Int64) (r : (Fin n → Int64)) (hF : F_J7_fill_d0a16 S x1 = some r) : MT G l yJ7_fill_d0a16 cJ7_fill_d0a16 5 (none) 0 0 [.ref (b), .long x1] (([(b, .inl (G.2.1 1, n, .inr (.inl (exL S))))] : va_W)) none (([(b, .inl (G.2.1 1, n, .inr (.inl (exL r))))] : va_W)) := by
  refine MT.of (by decide) (Nat.le_of_ble_eq_true rfl) ?_
  intro p e s m args below meth c A ls hx hb hr hml hown hts hlk hE hA hs hl Q hQ
  have hl : lv_has ls 5 [(0, .ref (b)), (1, .long x1)] := hl
  have hL6 : ∀ (x1 : Int64) (x4 : Int32) (k : (Fin n → Int64) → Option ((Fin n → Int64))) (hk : ∀ (S : (Fin n → Int64)) (H : Heap) (locs : List Loc) (ls : Array Slot), k S = some r → SI G A s H locs (([(b, .inl (G.2.1 1, n, .inr (.inl (exL S))))] : va_W)) → lv_has ls 5 [] → W p l e (RM 0 0) s m args below meth c H locs 0 0 Q (F0 m 22 ls [])) (fu : Nat) (S : (Fin n → Int64)) (x3 : Int32) (H : Heap) (locs : List Loc) (ls : Array Slot), lo2 (B_J7_fill_d0a16_6 x1 x4 k) fu S x3 = some r → SI G A s H locs (([(b, .inl (G.2.1 1, n, .inr (.inl (exL S))))] : va_W)) → lv_has ls 5 [(0, .ref (b)), (1, .long x1), (3, .int x3), (4, .int x4)] → W p l e (RM 0 0) s m args below meth c H locs 0 0 Q (F0 m 6 ls []) := by
    intro x1 x4 k hk fu
    induction fu with
    | zero =>
      intro S x3 H locs ls hF hs hl
      exact nomatch (show (none : Option ((Fin n → Int64))) = some r from hF)
    | succ fu hrec =>
      intro S x3 H locs ls hF hs hl
      have hF : (B_J7_fill_d0a16_6 x1 x4 k) (lo2 (B_J7_fill_d0a16_6 x1 x4 k) fu) S x3 = some r := hF
      unfold B_J7_fill_d0a16_6 at hF
      refine lv_iload_n hx hb dJ7_fill_d0a16_6 rfl (lv_at hl 2 rfl) ?_
      refine lv_iload hx hb dJ7_fill_d0a16_7 (lv_at hl 3 rfl) ?_
      refine lv_icmp_ge (tgt := 22) hx hb dJ7_fill_d0a16_9 (by decide) (fun hc => ?_) (fun hc => ?_)
      · have hF := (if_pos hc).symm.trans hF
        exact hk S _ _ _ hF hs (lv_sub hl [] rfl)
      · have hF := (if_neg hc).symm.trans hF
        refine lv_aload_n hx hb dJ7_fill_d0a16_12 rfl (lv_at hl 0 rfl) ?_
        refine lv_iload_n hx hb dJ7_fill_d0a16_13 rfl (lv_at hl 2 rfl) ?_
        refine lv_lload_n hx hb dJ7_fill_d0a16_14 rfl (lv_at hl 1 rfl) ?_
        obtain ⟨f1, hf1, hF⟩ := bd hF
        obtain ⟨S2, eS2, hF⟩ := nm_some hF
        refine sx_last hx hb hE hs 0 (f := S) rfl hf1 (ws' := ([(b, .inl (G.2.1 1, n, .inr (.inl (exL S2))))] : va_W)) (by subst eS2; rfl) dJ7_fill_d0a16_15 (fun H locs hs => ?_)
        obtain ⟨v3, ev3, hF⟩ := nm_some hF
        refine lv_iinc (v := v3) (lv' := [(3, .int v3), (0, .ref (b)), (1, .long x1), (4, .int x4)]) hx hb dJ7_fill_d0a16_16 hl (k := 2) rfl (by rw [ev3]; rfl) (by decide) rfl (fun ls hl => ?_)
        refine lv_goto (tgt := 6) hx hb dJ7_fill_d0a16_19 (by decide) ?_
        exact hrec S2 v3 _ _ _ hF hs (lv_sub hl [1, 2, 0, 3] rfl)
  unfold F_J7_fill_d0a16 at hF
  refine lv_iconst (v := (0 : Int32)) hx hb dJ7_fill_d0a16_0 (by decide) ?_
  refine lv_istore_n (lv' := [(3, .int (0 : Int32)), (0, .ref (b)), (1, .long x1)]) hx hb dJ7_fill_d0a16_1 rfl hl (by decide) rfl (fun ls hl => ?_)
  refine lv_aload_n hx hb dJ7_fill_d0a16_2 rfl (lv_at hl 1 rfl) ?_
  refine va_alen hx hb hE.1 hs.1 0 1 rfl rfl (v := (Int32.ofNat n)) rfl dJ7_fill_d0a16_3 ?_
  refine lv_istore (lv' := [(4, .int (Int32.ofNat n)), (3, .int (0 : Int32)), (0, .ref (b)), (1, .long x1)]) hx hb dJ7_fill_d0a16_4 hl (by decide) rfl (fun ls hl => ?_)
  refine hL6 x1 (Int32.ofNat n) _ (fun S4 H locs ls hF hs hl => ?_) FU S (0 : Int32) _ _ _ hF hs (lv_sub hl [2, 3, 1, 0] rfl)
  exact sx_vret hx hb hr hlk hQ (congrArg (fun z => ([(b, .inl (G.2.1 1, n, .inr (.inl (exL z))))] : va_W)) (Option.some.inj hF)) hs dJ7_fill_d0a16_22
set_option maxHeartbeats 4000000 in
set_option maxRecDepth 100000 in
theorem c_X1_weigh (G : GT) (l : Launch) (a : Nat → Nat) (S : RS) (r : RS) (hF : F_X1_weigh S = some r) : MT G l yX1_weigh cX1_weigh 2 (none) 2 46 [.ref (a 0)] (WR G a S) none (WR G a r) := by
  refine MT.of (by decide) (Nat.le_of_ble_eq_true rfl) ?_
  intro p e s m args below meth c A ls hx hb hr hml hown hts hlk hE hA hs hl Q hQ
  have hl : lv_has ls 2 [(0, .ref (a 0))] := hl
  have hL7 : ∀ (k : RS → Option (RS)) (hk : ∀ (S : RS) (H : Heap) (locs : List Loc) (ls : Array Slot), k S = some r → SI G A s H locs (WR G a S) → lv_has ls 2 [] → W p l e (RM 2 46) s m args below meth c H locs 0 0 Q (F0 m 53 ls [])) (fu : Nat) (S : RS) (x1 : Int32) (H : Heap) (locs : List Loc) (ls : Array Slot), lo2 (B_X1_weigh_7 k) fu S x1 = some r → SI G A s H locs (WR G a S) → lv_has ls 2 [(0, .ref (a 0)), (1, .int x1)] → W p l e (RM 2 46) s m args below meth c H locs 0 0 Q (F0 m 7 ls []) := by
    intro k hk fu
    induction fu with
    | zero =>
      intro S x1 H locs ls hF hs hl
      exact nomatch (show (none : Option (RS)) = some r from hF)
    | succ fu hrec =>
      intro S x1 H locs ls hF hs hl
      have hF : (B_X1_weigh_7 k) (lo2 (B_X1_weigh_7 k) fu) S x1 = some r := hF
      unfold B_X1_weigh_7 at hF
      refine lv_iload_n hx hb dX1_weigh_7 rfl (lv_at hl 1 rfl) ?_
      refine lv_aload_n hx hb dX1_weigh_8 rfl (lv_at hl 0 rfl) ?_
      refine fg_X1_12 hx hb hown hts hE hs 5 rfl (v := .ref (a 6)) rfl dX1_weigh_9 ?_
      refine fg_X1_61 hx hb hown hts hE hs 0 rfl (v := .int (t_ships (r_told S))) rfl dX1_weigh_12 ?_
      refine lv_icmp_ge (tgt := 53) hx hb dX1_weigh_15 (by decide) (fun hc => ?_) (fun hc => ?_)
      · have hF := (if_pos hc).symm.trans hF
        exact hk S _ _ _ hF hs (lv_sub hl [] rfl)
      · have hF := (if_neg hc).symm.trans hF
        refine lv_aload_n hx hb dX1_weigh_18 rfl (lv_at hl 0 rfl) ?_
        refine fg_X1_18 hx hb hown hts hE hs 5 rfl (v := .ref (a 1)) rfl dX1_weigh_19 ?_
        refine lv_iload_n hx hb dX1_weigh_22 rfl (lv_at hl 1 rfl) ?_
        refine lv_aload_n hx hb dX1_weigh_23 rfl (lv_at hl 0 rfl) ?_
        refine fg_X1_12 hx hb hown hts hE hs 5 rfl (v := .ref (a 6)) rfl dX1_weigh_24 ?_
        refine lv_iload_n hx hb dX1_weigh_27 rfl (lv_at hl 1 rfl) ?_
        obtain ⟨q2, hq2, hF⟩ := bd hF
        refine sx_N (As := [.int x1]) (rest := [.int x1, .ref (a 1)]) (st1 := [.int q2, .int x1, .ref (a 1)]) (c_X2_weightOf G l (fun k => a (6 + k)) (r_told S) x1 q2 hq2) v_X1_76 ⟨(Nat.le_of_ble_eq_true rfl), (Nat.le_of_ble_eq_true rfl)⟩ hx hb hml hown hts hE hA hs ⟨Nat.le_refl 0, Nat.le_refl 0⟩ 0 rfl rfl rfl rfl rfl hl.1 (Nat.le_of_ble_eq_true rfl) dX1_weigh_28 (pR_told G a S (r_told S)) (ws' := WR G a S) (pR_told G a S (r_told S)) (fun H locs hs => ?_)
        obtain ⟨f3, hf3, hF⟩ := bd hF
        obtain ⟨S4, eS4, hF⟩ := nm_some hF
        refine sx_iast hx hb hE hs 6 (f := r_weight S) rfl hf3 (ws' := WR G a S4) (by subst eS4; rfl) dX1_weigh_31 (fun H locs hs => ?_)
        refine lv_aload_n hx hb dX1_weigh_32 rfl (lv_at hl 0 rfl) ?_
        refine lv_dup hx hb dX1_weigh_33 rfl ?_
        refine fg_X1_35 hx hb hown hts hE hs 5 rfl (v := .int (r_weights S4)) rfl dX1_weigh_34 ?_
        refine lv_aload_n hx hb dX1_weigh_37 rfl (lv_at hl 0 rfl) ?_
        refine fg_X1_18 hx hb hown hts hE hs 5 rfl (v := .ref (a 1)) rfl dX1_weigh_38 ?_
        refine lv_iload_n hx hb dX1_weigh_41 rfl (lv_at hl 1 rfl) ?_
        obtain ⟨v5, hv5, hF⟩ := bd hF
        refine sx_iald hx hb hE hs 6 (f := r_weight S4) rfl hv5 dX1_weigh_42 ?_
        refine lv_iadd hx hb dX1_weigh_43 ?_
        obtain ⟨S6, eS6, hF⟩ := nm_some hF
        refine fp_X1_35 hx hb hown hts hE hs 5 rfl (ws' := WR G a S6) (Nat.le_of_ble_eq_true rfl) (by subst eS6; rfl) dX1_weigh_44 (fun H locs hs => ?_)
        obtain ⟨v7, ev7, hF⟩ := nm_some hF
        refine lv_iinc (v := v7) (lv' := [(1, .int v7), (0, .ref (a 0))]) hx hb dX1_weigh_47 hl (k := 1) rfl (by rw [ev7]; rfl) (by decide) rfl (fun ls hl => ?_)
        refine lv_goto (tgt := 7) hx hb dX1_weigh_50 (by decide) ?_
        exact hrec S6 v7 _ _ _ hF hs (lv_sub hl [1, 0] rfl)
  unfold F_X1_weigh at hF
  refine lv_aload_n hx hb dX1_weigh_0 rfl (lv_at hl 0 rfl) ?_
  refine lv_iconst (v := (0 : Int32)) hx hb dX1_weigh_1 (by decide) ?_
  obtain ⟨S1, eS1, hF⟩ := nm_some hF
  refine fp_X1_35 hx hb hown hts hE hs 5 rfl (ws' := WR G a S1) (Nat.le_of_ble_eq_true rfl) (by subst eS1; rfl) dX1_weigh_2 (fun H locs hs => ?_)
  refine lv_iconst (v := (0 : Int32)) hx hb dX1_weigh_5 (by decide) ?_
  refine lv_istore_n (lv' := [(1, .int (0 : Int32)), (0, .ref (a 0))]) hx hb dX1_weigh_6 rfl hl (by decide) rfl (fun ls hl => ?_)
  refine hL7 _ (fun S8 H locs ls hF hs hl => ?_) FU S1 (0 : Int32) _ _ _ hF hs (lv_sub hl [1, 0] rfl)
  exact sx_vret hx hb hr hlk hQ (congrArg (fun z => WR G a z) (Option.some.inj hF)) hs dX1_weigh_53
set_option maxHeartbeats 4000000 in
set_option maxRecDepth 100000 in
theorem c_X1_cut (G : GT) (l : Launch) (x0 : Int64) (x2 : Int64) (r : Int64) (hF : F_X1_cut x0 x2 = some r) : MT G l yX1_cut cX1_cut 4 (some .long) 0 0 [.long x0, .long x2] (([] : va_W)) (some (.long r)) (([] : va_W)) := by
  refine MT.of (by decide) (Nat.le_of_ble_eq_true rfl) ?_
  intro p e s m args below meth c A ls hx hb hr hml hown hts hlk hE hA hs hl Q hQ
  have hl : lv_has ls 4 [(0, .long x0), (2, .long x2)] := hl
  unfold F_X1_cut at hF
  refine lv_lload_n hx hb dX1_cut_0 rfl (lv_at hl 1 rfl) ?_
  refine lv_lconst (v := (0 : Int64)) hx hb dX1_cut_1 (by decide) ?_
  refine W.lcmp hx hb dX1_cut_2 ?_
  refine lv_if_ne (tgt := 10) hx hb dX1_cut_3 (by decide) (fun hc => ?_) (fun hc => ?_)
  · have hF := (if_neg hc).symm.trans hF
    refine lv_lload_n hx hb dX1_cut_10 rfl (lv_at hl 0 rfl) ?_
    refine lv_lload_n hx hb dX1_cut_11 rfl (lv_at hl 1 rfl) ?_
    obtain ⟨v1, hv1, hF⟩ := bd hF
    refine sx_ldiv hx hb hv1 dX1_cut_12 ?_
    exact sx_lret hx hb hr hlk hQ (Option.some.inj hF) rfl hs dX1_cut_13
  · have hF := (if_pos hc).symm.trans hF
    refine lv_lconst (v := (0 : Int64)) hx hb dX1_cut_6 (by decide) ?_
    refine lv_goto (tgt := 13) hx hb dX1_cut_7 (by decide) ?_
    exact sx_lret hx hb hr hlk hQ (Option.some.inj hF) rfl hs dX1_cut_13
set_option maxHeartbeats 4000000 in
set_option maxRecDepth 100000 in
theorem c_X1_partOf (G : GT) (l : Launch) (a : Nat → Nat) (S : RS) (x1 : Int32) (x2 : Int64) (r : Int64) (hF : F_X1_partOf S x1 x2 = some r) : MT G l yX1_partOf cX1_partOf 4 (some .long) 1 23 [.ref (a 0), .int x1, .long x2] (WR G a S) (some (.long r)) (WR G a S) := by
  refine MT.of (by decide) (Nat.le_of_ble_eq_true rfl) ?_
  intro p e s m args below meth c A ls hx hb hr hml hown hts hlk hE hA hs hl Q hQ
  have hl : lv_has ls 4 [(0, .ref (a 0)), (1, .int x1), (2, .long x2)] := hl
  unfold F_X1_partOf at hF
  refine lv_lload_n hx hb dX1_partOf_0 rfl (lv_at hl 2 rfl) ?_
  refine lv_aload_n hx hb dX1_partOf_1 rfl (lv_at hl 0 rfl) ?_
  refine fg_X1_18 hx hb hown hts hE hs 5 rfl (v := .ref (a 1)) rfl dX1_partOf_2 ?_
  refine lv_iload_n hx hb dX1_partOf_5 rfl (lv_at hl 1 rfl) ?_
  obtain ⟨v1, hv1, hF⟩ := bd hF
  refine sx_iald hx hb hE hs 6 (f := r_weight S) rfl hv1 dX1_partOf_6 ?_
  refine lv_i2l hx hb dX1_partOf_7 rfl ?_
  refine lv_lmul hx hb dX1_partOf_8 ?_
  refine lv_aload_n hx hb dX1_partOf_9 rfl (lv_at hl 0 rfl) ?_
  refine fg_X1_35 hx hb hown hts hE hs 5 rfl (v := .int (r_weights S)) rfl dX1_partOf_10 ?_
  refine lv_i2l hx hb dX1_partOf_13 rfl ?_
  obtain ⟨q2, hq2, hF⟩ := bd hF
  refine sx_S (As := [.long (x2 * v1.toInt64), .long ((r_weights S).toInt64)]) (rest := []) (st1 := [.long q2]) (c_X1_cut G l  (x2 * v1.toInt64) ((r_weights S).toInt64) q2 hq2) v_X1_80 ⟨(Nat.le_of_ble_eq_true rfl), (Nat.le_of_ble_eq_true rfl)⟩ hx hb hml hown hts hE hA hs ⟨Nat.le_refl 0, Nat.le_refl 0⟩ rfl rfl rfl hl.1 (Nat.le_of_ble_eq_true rfl) dX1_partOf_14 (List.Perm.refl _) (ws' := WR G a S) (List.Perm.refl _) (fun H locs hs => ?_)
  exact sx_lret hx hb hr hlk hQ (Option.some.inj hF) rfl hs dX1_partOf_17
set_option maxHeartbeats 4000000 in
set_option maxRecDepth 100000 in
theorem c_X1_debt (G : GT) (l : Launch) (a : Nat → Nat) (S : RS) (x1 : Int32) (x2 : Int32) (r : Int64) (hF : F_X1_debt S x1 x2 = some r) : MT G l yX1_debt cX1_debt 6 (some .long) 2 46 [.ref (a 0), .int x1, .int x2] (WR G a S) (some (.long r)) (WR G a S) := by
  refine MT.of (by decide) (Nat.le_of_ble_eq_true rfl) ?_
  intro p e s m args below meth c A ls hx hb hr hml hown hts hlk hE hA hs hl Q hQ
  have hl : lv_has ls 6 [(0, .ref (a 0)), (1, .int x1), (2, .int x2)] := hl
  unfold F_X1_debt at hF
  refine lv_aload_n hx hb dX1_debt_0 rfl (lv_at hl 0 rfl) ?_
  refine fg_X1_12 hx hb hown hts hE hs 5 rfl (v := .ref (a 6)) rfl dX1_debt_1 ?_
  refine lv_iload_n hx hb dX1_debt_4 rfl (lv_at hl 2 rfl) ?_
  obtain ⟨q1, hq1, hF⟩ := bd hF
  refine sx_N (As := [.int x2]) (rest := []) (st1 := [.int q1]) (c_X2_roundOf G l (fun k => a (6 + k)) (r_told S) x2 q1 hq1) v_X1_91 ⟨(Nat.le_of_ble_eq_true rfl), (Nat.le_of_ble_eq_true rfl)⟩ hx hb hml hown hts hE hA hs ⟨Nat.le_refl 0, Nat.le_refl 0⟩ 0 rfl rfl rfl rfl rfl hl.1 (Nat.le_of_ble_eq_true rfl) dX1_debt_5 (pR_told G a S (r_told S)) (ws' := WR G a S) (pR_told G a S (r_told S)) (fun H locs hs => ?_)
  refine lv_bipush (v := (-2 : Int32)) hx hb dX1_debt_8 (by decide) ?_
  refine lv_icmp_ne (tgt := 15) hx hb dX1_debt_10 (by decide) (fun hc => ?_) (fun hc => ?_)
  · have hF := (if_neg hc).symm.trans hF
    refine lv_aload_n hx hb dX1_debt_15 rfl (lv_at hl 0 rfl) ?_
    refine fg_X1_12 hx hb hown hts hE hs 5 rfl (v := .ref (a 6)) rfl dX1_debt_16 ?_
    refine lv_iload_n hx hb dX1_debt_19 rfl (lv_at hl 2 rfl) ?_
    refine lv_iconst (v := (2 : Int32)) hx hb dX1_debt_20 (by decide) ?_
    obtain ⟨q2, hq2, hF⟩ := bd hF
    refine sx_N (As := [.int x2, .int (2 : Int32)]) (rest := []) (st1 := [.int q2]) (c_X2_ofClaim G l (fun k => a (6 + k)) (r_told S) x2 (2 : Int32) q2 hq2) v_X1_94 ⟨(Nat.le_of_ble_eq_true rfl), (Nat.le_of_ble_eq_true rfl)⟩ hx hb hml hown hts hE hA hs ⟨Nat.le_refl 0, Nat.le_refl 0⟩ 0 rfl rfl rfl rfl rfl hl.1 (Nat.le_of_ble_eq_true rfl) dX1_debt_21 (pR_told G a S (r_told S)) (ws' := WR G a S) (pR_told G a S (r_told S)) (fun H locs hs => ?_)
    refine lv_i2l hx hb dX1_debt_24 rfl ?_
    obtain ⟨v3, ev3, hF⟩ := nm_some hF
    refine sx_topl ev3 ?_
    refine lv_lstore_n (lv' := [(3, .long v3), (0, .ref (a 0)), (1, .int x1), (2, .int x2)]) hx hb dX1_debt_25 rfl hl (by decide) rfl (fun ls hl => ?_)
    refine lv_aload_n hx hb dX1_debt_26 rfl (lv_at hl 1 rfl) ?_
    refine fg_X1_12 hx hb hown hts hE hs 5 rfl (v := .ref (a 6)) rfl dX1_debt_27 ?_
    refine lv_iload_n hx hb dX1_debt_30 rfl (lv_at hl 3 rfl) ?_
    obtain ⟨q4, hq4, hF⟩ := bd hF
    refine sx_N (As := [.int x2]) (rest := []) (st1 := [.int q4]) (c_X2_isGoods G l (fun k => a (6 + k)) (r_told S) x2 q4 hq4) v_X1_97 ⟨(Nat.le_of_ble_eq_true rfl), (Nat.le_of_ble_eq_true rfl)⟩ hx hb hml hown hts hE hA hs ⟨Nat.le_refl 0, Nat.le_refl 0⟩ 0 rfl rfl rfl rfl rfl hl.1 (Nat.le_of_ble_eq_true rfl) dX1_debt_31 (pR_told G a S (r_told S)) (ws' := WR G a S) (pR_told G a S (r_told S)) (fun H locs hs => ?_)
    refine lv_if_ne (tgt := 44) hx hb dX1_debt_34 (by decide) (fun hc => ?_) (fun hc => ?_)
    · have hF := (if_neg hc).symm.trans hF
      refine lv_aload_n hx hb dX1_debt_44 rfl (lv_at hl 1 rfl) ?_
      refine fg_X1_12 hx hb hown hts hE hs 5 rfl (v := .ref (a 6)) rfl dX1_debt_45 ?_
      refine lv_iload_n hx hb dX1_debt_48 rfl (lv_at hl 3 rfl) ?_
      refine lv_iconst (v := (1 : Int32)) hx hb dX1_debt_49 (by decide) ?_
      obtain ⟨q5, hq5, hF⟩ := bd hF
      refine sx_N (As := [.int x2, .int (1 : Int32)]) (rest := []) (st1 := [.int q5]) (c_X2_ofClaim G l (fun k => a (6 + k)) (r_told S) x2 (1 : Int32) q5 hq5) v_X1_94 ⟨(Nat.le_of_ble_eq_true rfl), (Nat.le_of_ble_eq_true rfl)⟩ hx hb hml hown hts hE hA hs ⟨Nat.le_refl 0, Nat.le_refl 0⟩ 0 rfl rfl rfl rfl rfl hl.1 (Nat.le_of_ble_eq_true rfl) dX1_debt_50 (pR_told G a S (r_told S)) (ws' := WR G a S) (pR_told G a S (r_told S)) (fun H locs hs => ?_)
      refine lv_istore (lv' := [(5, .int q5), (3, .long v3), (0, .ref (a 0)), (1, .int x1), (2, .int x2)]) hx hb dX1_debt_53 hl (by decide) rfl (fun ls hl => ?_)
      refine lv_iload hx hb dX1_debt_55 (lv_at hl 0 rfl) ?_
      refine lv_iload_n hx hb dX1_debt_57 rfl (lv_at hl 3 rfl) ?_
      refine lv_icmp_ne (tgt := 63) hx hb dX1_debt_58 (by decide) (fun hc => ?_) (fun hc => ?_)
      · have hF := (if_neg hc).symm.trans hF
        refine lv_aload_n hx hb dX1_debt_63 rfl (lv_at hl 2 rfl) ?_
        refine fg_X1_12 hx hb hown hts hE hs 5 rfl (v := .ref (a 6)) rfl dX1_debt_64 ?_
        refine lv_iconst (v := (3 : Int32)) hx hb dX1_debt_67 (by decide) ?_
        obtain ⟨q6, hq6, hF⟩ := bd hF
        refine sx_N (As := [.int (3 : Int32)]) (rest := []) (st1 := [.int q6]) (c_X2_holds G l (fun k => a (6 + k)) (r_told S) (3 : Int32) q6 hq6) v_X1_105 ⟨(Nat.le_of_ble_eq_true rfl), (Nat.le_of_ble_eq_true rfl)⟩ hx hb hml hown hts hE hA hs ⟨Nat.le_refl 0, Nat.le_refl 0⟩ 0 rfl rfl rfl rfl rfl hl.1 (Nat.le_of_ble_eq_true rfl) dX1_debt_68 (pR_told G a S (r_told S)) (ws' := WR G a S) (pR_told G a S (r_told S)) (fun H locs hs => ?_)
        refine lv_if_ne (tgt := 81) hx hb dX1_debt_71 (by decide) (fun hc => ?_) (fun hc => ?_)
        · have hF := (if_neg hc).symm.trans hF
          refine lv_lload_n hx hb dX1_debt_81 rfl (lv_at hl 1 rfl) ?_
          refine lv_aload_n hx hb dX1_debt_82 rfl (lv_at hl 2 rfl) ?_
          refine fg_X1_18 hx hb hown hts hE hs 5 rfl (v := .ref (a 1)) rfl dX1_debt_83 ?_
          refine lv_iload_n hx hb dX1_debt_86 rfl (lv_at hl 3 rfl) ?_
          obtain ⟨v7, hv7, hF⟩ := bd hF
          refine sx_iald hx hb hE hs 6 (f := r_weight S) rfl hv7 dX1_debt_87 ?_
          refine lv_i2l hx hb dX1_debt_88 rfl ?_
          refine lv_lmul hx hb dX1_debt_89 ?_
          refine lv_aload_n hx hb dX1_debt_90 rfl (lv_at hl 2 rfl) ?_
          refine fg_X1_35 hx hb hown hts hE hs 5 rfl (v := .int (r_weights S)) rfl dX1_debt_91 ?_
          refine lv_aload_n hx hb dX1_debt_94 rfl (lv_at hl 2 rfl) ?_
          refine fg_X1_18 hx hb hown hts hE hs 5 rfl (v := .ref (a 1)) rfl dX1_debt_95 ?_
          refine lv_iload hx hb dX1_debt_98 (lv_at hl 0 rfl) ?_
          obtain ⟨v8, hv8, hF⟩ := bd hF
          refine sx_iald hx hb hE hs 6 (f := r_weight S) rfl hv8 dX1_debt_100 ?_
          refine lv_isub hx hb dX1_debt_101 ?_
          refine lv_i2l hx hb dX1_debt_102 rfl ?_
          obtain ⟨q9, hq9, hF⟩ := bd hF
          refine sx_S (As := [.long (v3 * v7.toInt64), .long (((r_weights S) - v8).toInt64)]) (rest := []) (st1 := [.long q9]) (c_X1_cut G l  (v3 * v7.toInt64) (((r_weights S) - v8).toInt64) q9 hq9) v_X1_80 ⟨(Nat.le_of_ble_eq_true rfl), (Nat.le_of_ble_eq_true rfl)⟩ hx hb hml hown hts hE hA hs ⟨Nat.le_refl 0, Nat.le_refl 0⟩ rfl rfl rfl hl.1 (Nat.le_of_ble_eq_true rfl) dX1_debt_103 (List.Perm.refl _) (ws' := WR G a S) (List.Perm.refl _) (fun H locs hs => ?_)
          exact sx_lret hx hb hr hlk hQ (Option.some.inj hF) rfl hs dX1_debt_106
        · have hF := (if_pos hc).symm.trans hF
          refine lv_aload_n hx hb dX1_debt_74 rfl (lv_at hl 2 rfl) ?_
          refine lv_iload_n hx hb dX1_debt_75 rfl (lv_at hl 3 rfl) ?_
          refine lv_lload_n hx hb dX1_debt_76 rfl (lv_at hl 1 rfl) ?_
          obtain ⟨q10, hq10, hF⟩ := bd hF
          refine sx_V (As := [.int x1, .long v3]) (rest := []) (st1 := [.long q10]) (c_X1_partOf G l a S x1 v3 q10 hq10) v_X1_101 ⟨(Nat.le_of_ble_eq_true rfl), (Nat.le_of_ble_eq_true rfl)⟩ hx hb hml hown hts hE hA hs ⟨Nat.le_refl 0, Nat.le_refl 0⟩ 5 rfl rfl rfl rfl rfl hl.1 (Nat.le_of_ble_eq_true rfl) dX1_debt_77 (pmW _) (ws' := WR G a S) (pmW _) (fun H locs hs => ?_)
          exact sx_lret hx hb hr hlk hQ (Option.some.inj hF) rfl hs dX1_debt_80
      · have hF := (if_pos hc).symm.trans hF
        refine lv_lconst (v := (0 : Int64)) hx hb dX1_debt_61 (by decide) ?_
        exact sx_lret hx hb hr hlk hQ (Option.some.inj hF) rfl hs dX1_debt_62
    · have hF := (if_pos hc).symm.trans hF
      refine lv_aload_n hx hb dX1_debt_37 rfl (lv_at hl 1 rfl) ?_
      refine lv_iload_n hx hb dX1_debt_38 rfl (lv_at hl 2 rfl) ?_
      refine lv_lload_n hx hb dX1_debt_39 rfl (lv_at hl 0 rfl) ?_
      obtain ⟨q11, hq11, hF⟩ := bd hF
      refine sx_V (As := [.int x1, .long v3]) (rest := []) (st1 := [.long q11]) (c_X1_partOf G l a S x1 v3 q11 hq11) v_X1_101 ⟨(Nat.le_of_ble_eq_true rfl), (Nat.le_of_ble_eq_true rfl)⟩ hx hb hml hown hts hE hA hs ⟨Nat.le_refl 0, Nat.le_refl 0⟩ 5 rfl rfl rfl rfl rfl hl.1 (Nat.le_of_ble_eq_true rfl) dX1_debt_40 (pmW _) (ws' := WR G a S) (pmW _) (fun H locs hs => ?_)
      exact sx_lret hx hb hr hlk hQ (Option.some.inj hF) rfl hs dX1_debt_43
  · have hF := (if_pos hc).symm.trans hF
    refine lv_lconst (v := (0 : Int64)) hx hb dX1_debt_13 (by decide) ?_
    exact sx_lret hx hb hr hlk hQ (Option.some.inj hF) rfl hs dX1_debt_14
set_option maxHeartbeats 4000000 in
set_option maxRecDepth 100000 in
theorem c_X1_oweClaims (G : GT) (l : Launch) (a : Nat → Nat) (S : RS) (r : RS) (hF : F_X1_oweClaims S = some r) : MT G l yX1_oweClaims cX1_oweClaims 3 (none) 3 71 [.ref (a 0)] (WR G a S) none (WR G a r) := by
  refine MT.of (by decide) (Nat.le_of_ble_eq_true rfl) ?_
  intro p e s m args below meth c A ls hx hb hr hml hown hts hlk hE hA hs hl Q hQ
  have hl : lv_has ls 3 [(0, .ref (a 0))] := hl
  have hL15 : ∀ (x1 : Int32) (k : RS → Option (RS)) (hk : ∀ (S : RS) (H : Heap) (locs : List Loc) (ls : Array Slot), k S = some r → SI G A s H locs (WR G a S) → lv_has ls 3 [(0, .ref (a 0)), (1, .int x1)] → W p l e (RM 3 71) s m args below meth c H locs 0 0 Q (F0 m 51 ls [])) (fu : Nat) (S : RS) (x2 : Int32) (H : Heap) (locs : List Loc) (ls : Array Slot), lo2 (B_X1_oweClaims_15 x1 k) fu S x2 = some r → SI G A s H locs (WR G a S) → lv_has ls 3 [(0, .ref (a 0)), (1, .int x1), (2, .int x2)] → W p l e (RM 3 71) s m args below meth c H locs 0 0 Q (F0 m 15 ls []) := by
    intro x1 k hk fu
    induction fu with
    | zero =>
      intro S x2 H locs ls hF hs hl
      exact nomatch (show (none : Option (RS)) = some r from hF)
    | succ fu hrec =>
      intro S x2 H locs ls hF hs hl
      have hF : (B_X1_oweClaims_15 x1 k) (lo2 (B_X1_oweClaims_15 x1 k) fu) S x2 = some r := hF
      unfold B_X1_oweClaims_15 at hF
      refine lv_iload_n hx hb dX1_oweClaims_15 rfl (lv_at hl 2 rfl) ?_
      refine lv_aload_n hx hb dX1_oweClaims_16 rfl (lv_at hl 0 rfl) ?_
      refine fg_X1_12 hx hb hown hts hE hs 5 rfl (v := .ref (a 6)) rfl dX1_oweClaims_17 ?_
      refine fg_X1_84 hx hb hown hts hE hs 0 rfl (v := .int (t_claims (r_told S))) rfl dX1_oweClaims_20 ?_
      refine lv_icmp_ge (tgt := 51) hx hb dX1_oweClaims_23 (by decide) (fun hc => ?_) (fun hc => ?_)
      · have hF := (if_pos hc).symm.trans hF
        exact hk S _ _ _ hF hs (lv_sub hl [0, 1] rfl)
      · have hF := (if_neg hc).symm.trans hF
        refine lv_aload_n hx hb dX1_oweClaims_26 rfl (lv_at hl 0 rfl) ?_
        refine fg_X1_26 hx hb hown hts hE hs 5 rfl (v := .ref (a 3)) rfl dX1_oweClaims_27 ?_
        refine lv_iload_n hx hb dX1_oweClaims_30 rfl (lv_at hl 1 rfl) ?_
        refine lv_bipush (v := (16 : Int32)) hx hb dX1_oweClaims_31 (by decide) ?_
        refine lv_imul hx hb dX1_oweClaims_33 ?_
        refine lv_iconst (v := (4 : Int32)) hx hb dX1_oweClaims_34 (by decide) ?_
        refine lv_iadd hx hb dX1_oweClaims_35 ?_
        refine lv_iload_n hx hb dX1_oweClaims_36 rfl (lv_at hl 2 rfl) ?_
        refine lv_iadd hx hb dX1_oweClaims_37 ?_
        refine lv_aload_n hx hb dX1_oweClaims_38 rfl (lv_at hl 0 rfl) ?_
        refine lv_iload_n hx hb dX1_oweClaims_39 rfl (lv_at hl 1 rfl) ?_
        refine lv_iload_n hx hb dX1_oweClaims_40 rfl (lv_at hl 2 rfl) ?_
        obtain ⟨q1, hq1, hF⟩ := bd hF
        refine sx_V (As := [.int x1, .int x2]) (rest := [.int (((x1 * (16 : Int32)) + (4 : Int32)) + x2), .ref (a 3)]) (st1 := [.long q1, .int (((x1 * (16 : Int32)) + (4 : Int32)) + x2), .ref (a 3)]) (c_X1_debt G l a S x1 x2 q1 hq1) v_X1_87 ⟨(Nat.le_of_ble_eq_true rfl), (Nat.le_of_ble_eq_true rfl)⟩ hx hb hml hown hts hE hA hs ⟨Nat.le_refl 0, Nat.le_refl 0⟩ 5 rfl rfl rfl rfl rfl hl.1 (Nat.le_of_ble_eq_true rfl) dX1_oweClaims_41 (pmW _) (ws' := WR G a S) (pmW _) (fun H locs hs => ?_)
        obtain ⟨f2, hf2, hF⟩ := bd hF
        obtain ⟨S3, eS3, hF⟩ := nm_some hF
        refine sx_last hx hb hE hs 8 (f := r_owed S) rfl hf2 (ws' := WR G a S3) (by subst eS3; rfl) dX1_oweClaims_44 (fun H locs hs => ?_)
        obtain ⟨v4, ev4, hF⟩ := nm_some hF
        refine lv_iinc (v := v4) (lv' := [(2, .int v4), (0, .ref (a 0)), (1, .int x1)]) hx hb dX1_oweClaims_45 hl (k := 2) rfl (by rw [ev4]; rfl) (by decide) rfl (fun ls hl => ?_)
        refine lv_goto (tgt := 15) hx hb dX1_oweClaims_48 (by decide) ?_
        exact hrec S3 v4 _ _ _ hF hs (lv_sub hl [1, 2, 0] rfl)
  have hL2 : ∀ (k : RS → Option (RS)) (hk : ∀ (S : RS) (H : Heap) (locs : List Loc) (ls : Array Slot), k S = some r → SI G A s H locs (WR G a S) → lv_has ls 3 [] → W p l e (RM 3 71) s m args below meth c H locs 0 0 Q (F0 m 57 ls [])) (fu : Nat) (S : RS) (x1 : Int32) (H : Heap) (locs : List Loc) (ls : Array Slot), lo2 (B_X1_oweClaims_2 k) fu S x1 = some r → SI G A s H locs (WR G a S) → lv_has ls 3 [(0, .ref (a 0)), (1, .int x1)] → W p l e (RM 3 71) s m args below meth c H locs 0 0 Q (F0 m 2 ls []) := by
    intro k hk fu
    induction fu with
    | zero =>
      intro S x1 H locs ls hF hs hl
      exact nomatch (show (none : Option (RS)) = some r from hF)
    | succ fu hrec =>
      intro S x1 H locs ls hF hs hl
      have hF : (B_X1_oweClaims_2 k) (lo2 (B_X1_oweClaims_2 k) fu) S x1 = some r := hF
      unfold B_X1_oweClaims_2 at hF
      refine lv_iload_n hx hb dX1_oweClaims_2 rfl (lv_at hl 1 rfl) ?_
      refine lv_aload_n hx hb dX1_oweClaims_3 rfl (lv_at hl 0 rfl) ?_
      refine fg_X1_12 hx hb hown hts hE hs 5 rfl (v := .ref (a 6)) rfl dX1_oweClaims_4 ?_
      refine fg_X1_61 hx hb hown hts hE hs 0 rfl (v := .int (t_ships (r_told S))) rfl dX1_oweClaims_7 ?_
      refine lv_icmp_ge (tgt := 57) hx hb dX1_oweClaims_10 (by decide) (fun hc => ?_) (fun hc => ?_)
      · have hF := (if_pos hc).symm.trans hF
        exact hk S _ _ _ hF hs (lv_sub hl [] rfl)
      · have hF := (if_neg hc).symm.trans hF
        refine lv_iconst (v := (0 : Int32)) hx hb dX1_oweClaims_13 (by decide) ?_
        refine lv_istore_n (lv' := [(2, .int (0 : Int32)), (0, .ref (a 0)), (1, .int x1)]) hx hb dX1_oweClaims_14 rfl hl (by decide) rfl (fun ls hl => ?_)
        refine hL15 x1 _ (fun S5 H locs ls hF hs hl => ?_) FU S (0 : Int32) _ _ _ hF hs (lv_sub hl [1, 2, 0] rfl)
        obtain ⟨v6, ev6, hF⟩ := nm_some hF
        refine lv_iinc (v := v6) (lv' := [(1, .int v6), (0, .ref (a 0))]) hx hb dX1_oweClaims_51 hl (k := 1) rfl (by rw [ev6]; rfl) (by decide) rfl (fun ls hl => ?_)
        refine lv_goto (tgt := 2) hx hb dX1_oweClaims_54 (by decide) ?_
        exact hrec S5 v6 _ _ _ hF hs (lv_sub hl [1, 0] rfl)
  unfold F_X1_oweClaims at hF
  refine lv_iconst (v := (0 : Int32)) hx hb dX1_oweClaims_0 (by decide) ?_
  refine lv_istore_n (lv' := [(1, .int (0 : Int32)), (0, .ref (a 0))]) hx hb dX1_oweClaims_1 rfl hl (by decide) rfl (fun ls hl => ?_)
  refine hL2 _ (fun S7 H locs ls hF hs hl => ?_) FU S (0 : Int32) _ _ _ hF hs (lv_sub hl [1, 0] rfl)
  exact sx_vret hx hb hr hlk hQ (congrArg (fun z => WR G a z) (Option.some.inj hF)) hs dX1_oweClaims_57
set_option maxHeartbeats 4000000 in
set_option maxRecDepth 100000 in
theorem c_X1_owedToClaim (G : GT) (l : Launch) (a : Nat → Nat) (S : RS) (x1 : Int32) (x2 : Int32) (r : Int64) (hF : F_X1_owedToClaim S x1 x2 = some r) : MT G l yX1_owedToClaim cX1_owedToClaim 3 (some .long) 0 0 [.ref (a 0), .int x1, .int x2] (WR G a S) (some (.long r)) (WR G a S) := by
  refine MT.of (by decide) (Nat.le_of_ble_eq_true rfl) ?_
  intro p e s m args below meth c A ls hx hb hr hml hown hts hlk hE hA hs hl Q hQ
  have hl : lv_has ls 3 [(0, .ref (a 0)), (1, .int x1), (2, .int x2)] := hl
  unfold F_X1_owedToClaim at hF
  refine lv_aload_n hx hb dX1_owedToClaim_0 rfl (lv_at hl 0 rfl) ?_
  refine fg_X1_26 hx hb hown hts hE hs 5 rfl (v := .ref (a 3)) rfl dX1_owedToClaim_1 ?_
  refine lv_iload_n hx hb dX1_owedToClaim_4 rfl (lv_at hl 1 rfl) ?_
  refine lv_bipush (v := (16 : Int32)) hx hb dX1_owedToClaim_5 (by decide) ?_
  refine lv_imul hx hb dX1_owedToClaim_7 ?_
  refine lv_iconst (v := (4 : Int32)) hx hb dX1_owedToClaim_8 (by decide) ?_
  refine lv_iadd hx hb dX1_owedToClaim_9 ?_
  refine lv_iload_n hx hb dX1_owedToClaim_10 rfl (lv_at hl 2 rfl) ?_
  refine lv_iadd hx hb dX1_owedToClaim_11 ?_
  obtain ⟨v1, hv1, hF⟩ := bd hF
  refine sx_lald hx hb hE hs 8 (f := r_owed S) rfl hv1 dX1_owedToClaim_12 ?_
  exact sx_lret hx hb hr hlk hQ (Option.some.inj hF) rfl hs dX1_owedToClaim_13
set_option maxHeartbeats 4000000 in
set_option maxRecDepth 100000 in
theorem c_X1_backFor (G : GT) (l : Launch) (a : Nat → Nat) (S : RS) (x1 : Int32) (x2 : Int32) (r : Int64) (hF : F_X1_backFor S x1 x2 = some r) : MT G l yX1_backFor cX1_backFor 4 (some .long) 2 46 [.ref (a 0), .int x1, .int x2] (WR G a S) (some (.long r)) (WR G a S) := by
  refine MT.of (by decide) (Nat.le_of_ble_eq_true rfl) ?_
  intro p e s m args below meth c A ls hx hb hr hml hown hts hlk hE hA hs hl Q hQ
  have hl : lv_has ls 4 [(0, .ref (a 0)), (1, .int x1), (2, .int x2)] := hl
  have hJ40_n : ∀ (x1 : Int32) (x2 : Int32) (y0 : Int32) (H : Heap) (locs : List Loc) (ls : Array Slot), J_X1_backFor_40 S x1 x2 y0 = some r → SI G A s H locs (WR G a S) → lv_has ls 4 [(0, .ref (a 0)), (1, .int x1), (2, .int x2)] → W p l e (RM 2 46) s m args below meth c H locs 0 0 Q (F0 m 40 ls [.int y0]) := by
    intro x1 x2 y0 H locs ls hF hs hl
    unfold J_X1_backFor_40 at hF
    refine lv_istore_n (lv' := [(3, .int y0), (0, .ref (a 0)), (1, .int x1), (2, .int x2)]) hx hb dX1_backFor_40 rfl hl (by decide) rfl (fun ls hl => ?_)
    refine lv_iload_n hx hb dX1_backFor_41 rfl (lv_at hl 0 rfl) ?_
    refine lv_if_eq (tgt := 58) hx hb dX1_backFor_42 (by decide) (fun hc => ?_) (fun hc => ?_)
    · have hF := (if_pos hc).symm.trans hF
      refine lv_lconst (v := (0 : Int64)) hx hb dX1_backFor_58 (by decide) ?_
      exact sx_lret hx hb hr hlk hQ (Option.some.inj hF) rfl hs dX1_backFor_59
    · have hF := (if_neg hc).symm.trans hF
      refine lv_aload_n hx hb dX1_backFor_45 rfl (lv_at hl 1 rfl) ?_
      refine fg_X1_12 hx hb hown hts hE hs 5 rfl (v := .ref (a 6)) rfl dX1_backFor_46 ?_
      refine lv_iload_n hx hb dX1_backFor_49 rfl (lv_at hl 2 rfl) ?_
      refine lv_iconst (v := (1 : Int32)) hx hb dX1_backFor_50 (by decide) ?_
      obtain ⟨q2, hq2, hF⟩ := bd hF
      refine sx_N (As := [.int x1, .int (1 : Int32)]) (rest := []) (st1 := [.int q2]) (c_X2_ofClaim G l (fun k => a (6 + k)) (r_told S) x1 (1 : Int32) q2 hq2) v_X1_94 ⟨(Nat.le_of_ble_eq_true rfl), (Nat.le_of_ble_eq_true rfl)⟩ hx hb hml hown hts hE hA hs ⟨Nat.le_refl 0, Nat.le_refl 0⟩ 0 rfl rfl rfl rfl rfl hl.1 (Nat.le_of_ble_eq_true rfl) dX1_backFor_51 (pR_told G a S (r_told S)) (ws' := WR G a S) (pR_told G a S (r_told S)) (fun H locs hs => ?_)
      refine lv_iload_n hx hb dX1_backFor_54 rfl (lv_at hl 3 rfl) ?_
      refine lv_icmp_ne (tgt := 60) hx hb dX1_backFor_55 (by decide) (fun hc => ?_) (fun hc => ?_)
      · have hF := (if_neg hc).symm.trans hF
        refine lv_aload_n hx hb dX1_backFor_60 rfl (lv_at hl 1 rfl) ?_
        refine lv_iload_n hx hb dX1_backFor_61 rfl (lv_at hl 3 rfl) ?_
        refine lv_iload_n hx hb dX1_backFor_62 rfl (lv_at hl 2 rfl) ?_
        obtain ⟨q3, hq3, hF⟩ := bd hF
        refine sx_V (As := [.int x2, .int x1]) (rest := []) (st1 := [.long q3]) (c_X1_owedToClaim G l a S x2 x1 q3 hq3) v_X1_108 ⟨(Nat.le_of_ble_eq_true rfl), (Nat.le_of_ble_eq_true rfl)⟩ hx hb hml hown hts hE hA hs ⟨Nat.le_refl 0, Nat.le_refl 0⟩ 5 rfl rfl rfl rfl rfl hl.1 (Nat.le_of_ble_eq_true rfl) dX1_backFor_63 (pmW _) (ws' := WR G a S) (pmW _) (fun H locs hs => ?_)
        refine lv_aload_n hx hb dX1_backFor_66 rfl (lv_at hl 1 rfl) ?_
        refine lv_iload_n hx hb dX1_backFor_67 rfl (lv_at hl 3 rfl) ?_
        refine lv_aload_n hx hb dX1_backFor_68 rfl (lv_at hl 1 rfl) ?_
        refine fg_X1_12 hx hb hown hts hE hs 5 rfl (v := .ref (a 6)) rfl dX1_backFor_69 ?_
        refine lv_iload_n hx hb dX1_backFor_72 rfl (lv_at hl 2 rfl) ?_
        refine lv_iconst (v := (2 : Int32)) hx hb dX1_backFor_73 (by decide) ?_
        obtain ⟨q4, hq4, hF⟩ := bd hF
        refine sx_N (As := [.int x1, .int (2 : Int32)]) (rest := [.int x2, .ref (a 0), .long q3]) (st1 := [.int q4, .int x2, .ref (a 0), .long q3]) (c_X2_ofClaim G l (fun k => a (6 + k)) (r_told S) x1 (2 : Int32) q4 hq4) v_X1_94 ⟨(Nat.le_of_ble_eq_true rfl), (Nat.le_of_ble_eq_true rfl)⟩ hx hb hml hown hts hE hA hs ⟨Nat.le_refl 0, Nat.le_refl 0⟩ 0 rfl rfl rfl rfl rfl hl.1 (Nat.le_of_ble_eq_true rfl) dX1_backFor_74 (pR_told G a S (r_told S)) (ws' := WR G a S) (pR_told G a S (r_told S)) (fun H locs hs => ?_)
        refine lv_i2l hx hb dX1_backFor_77 rfl ?_
        obtain ⟨q5, hq5, hF⟩ := bd hF
        refine sx_V (As := [.int x2, .long q4.toInt64]) (rest := [.long q3]) (st1 := [.long q5, .long q3]) (c_X1_partOf G l a S x2 q4.toInt64 q5 hq5) v_X1_101 ⟨(Nat.le_of_ble_eq_true rfl), (Nat.le_of_ble_eq_true rfl)⟩ hx hb hml hown hts hE hA hs ⟨Nat.le_refl 0, Nat.le_refl 0⟩ 5 rfl rfl rfl rfl rfl hl.1 (Nat.le_of_ble_eq_true rfl) dX1_backFor_78 (pmW _) (ws' := WR G a S) (pmW _) (fun H locs hs => ?_)
        refine lv_lsub hx hb dX1_backFor_81 ?_
        exact sx_lret hx hb hr hlk hQ (Option.some.inj hF) rfl hs dX1_backFor_82
      · have hF := (if_pos hc).symm.trans hF
        refine lv_lconst (v := (0 : Int64)) hx hb dX1_backFor_58 (by decide) ?_
        exact sx_lret hx hb hr hlk hQ (Option.some.inj hF) rfl hs dX1_backFor_59
  have hJ39_n : ∀ (x1 : Int32) (x2 : Int32) (H : Heap) (locs : List Loc) (ls : Array Slot), J_X1_backFor_39 S x1 x2 = some r → SI G A s H locs (WR G a S) → lv_has ls 4 [(0, .ref (a 0)), (1, .int x1), (2, .int x2)] → W p l e (RM 2 46) s m args below meth c H locs 0 0 Q (F0 m 39 ls []) := by
    intro x1 x2 H locs ls hF hs hl
    unfold J_X1_backFor_39 at hF
    refine lv_iconst (v := (0 : Int32)) hx hb dX1_backFor_39 (by decide) ?_
    exact hJ40_n x1 x2 (0 : Int32) _ _ _ hF hs (lv_sub hl [0, 1, 2] rfl)
  unfold F_X1_backFor at hF
  refine lv_aload_n hx hb dX1_backFor_0 rfl (lv_at hl 0 rfl) ?_
  refine fg_X1_12 hx hb hown hts hE hs 5 rfl (v := .ref (a 6)) rfl dX1_backFor_1 ?_
  refine lv_iconst (v := (3 : Int32)) hx hb dX1_backFor_4 (by decide) ?_
  obtain ⟨q1, hq1, hF⟩ := bd hF
  refine sx_N (As := [.int (3 : Int32)]) (rest := []) (st1 := [.int q1]) (c_X2_holds G l (fun k => a (6 + k)) (r_told S) (3 : Int32) q1 hq1) v_X1_105 ⟨(Nat.le_of_ble_eq_true rfl), (Nat.le_of_ble_eq_true rfl)⟩ hx hb hml hown hts hE hA hs ⟨Nat.le_refl 0, Nat.le_refl 0⟩ 0 rfl rfl rfl rfl rfl hl.1 (Nat.le_of_ble_eq_true rfl) dX1_backFor_5 (pR_told G a S (r_told S)) (ws' := WR G a S) (pR_told G a S (r_told S)) (fun H locs hs => ?_)
  refine lv_if_eq (tgt := 39) hx hb dX1_backFor_8 (by decide) (fun hc => ?_) (fun hc => ?_)
  · have hF := (if_pos hc).symm.trans hF
    exact hJ39_n x1 x2 _ _ _ hF hs (lv_sub hl [0, 1, 2] rfl)
  · have hF := (if_neg hc).symm.trans hF
    refine lv_aload_n hx hb dX1_backFor_11 rfl (lv_at hl 0 rfl) ?_
    refine fg_X1_12 hx hb hown hts hE hs 5 rfl (v := .ref (a 6)) rfl dX1_backFor_12 ?_
    refine lv_iload_n hx hb dX1_backFor_15 rfl (lv_at hl 1 rfl) ?_
    obtain ⟨q6, hq6, hF⟩ := bd hF
    refine sx_N (As := [.int x1]) (rest := []) (st1 := [.int q6]) (c_X2_isGoods G l (fun k => a (6 + k)) (r_told S) x1 q6 hq6) v_X1_97 ⟨(Nat.le_of_ble_eq_true rfl), (Nat.le_of_ble_eq_true rfl)⟩ hx hb hml hown hts hE hA hs ⟨Nat.le_refl 0, Nat.le_refl 0⟩ 0 rfl rfl rfl rfl rfl hl.1 (Nat.le_of_ble_eq_true rfl) dX1_backFor_16 (pR_told G a S (r_told S)) (ws' := WR G a S) (pR_told G a S (r_told S)) (fun H locs hs => ?_)
    refine lv_if_eq (tgt := 39) hx hb dX1_backFor_19 (by decide) (fun hc => ?_) (fun hc => ?_)
    · have hF := (if_pos hc).symm.trans hF
      exact hJ39_n x1 x2 _ _ _ hF hs (lv_sub hl [0, 1, 2] rfl)
    · have hF := (if_neg hc).symm.trans hF
      refine lv_aload_n hx hb dX1_backFor_22 rfl (lv_at hl 0 rfl) ?_
      refine fg_X1_12 hx hb hown hts hE hs 5 rfl (v := .ref (a 6)) rfl dX1_backFor_23 ?_
      refine lv_iload_n hx hb dX1_backFor_26 rfl (lv_at hl 1 rfl) ?_
      obtain ⟨q7, hq7, hF⟩ := bd hF
      refine sx_N (As := [.int x1]) (rest := []) (st1 := [.int q7]) (c_X2_roundOf G l (fun k => a (6 + k)) (r_told S) x1 q7 hq7) v_X1_91 ⟨(Nat.le_of_ble_eq_true rfl), (Nat.le_of_ble_eq_true rfl)⟩ hx hb hml hown hts hE hA hs ⟨Nat.le_refl 0, Nat.le_refl 0⟩ 0 rfl rfl rfl rfl rfl hl.1 (Nat.le_of_ble_eq_true rfl) dX1_backFor_27 (pR_told G a S (r_told S)) (ws' := WR G a S) (pR_told G a S (r_told S)) (fun H locs hs => ?_)
      refine lv_bipush (v := (-2 : Int32)) hx hb dX1_backFor_30 (by decide) ?_
      refine lv_icmp_eq (tgt := 39) hx hb dX1_backFor_32 (by decide) (fun hc => ?_) (fun hc => ?_)
      · have hF := (if_pos hc).symm.trans hF
        exact hJ39_n x1 x2 _ _ _ hF hs (lv_sub hl [0, 1, 2] rfl)
      · have hF := (if_neg hc).symm.trans hF
        refine lv_iconst (v := (1 : Int32)) hx hb dX1_backFor_35 (by decide) ?_
        refine lv_goto (tgt := 40) hx hb dX1_backFor_36 (by decide) ?_
        exact hJ40_n x1 x2 (1 : Int32) _ _ _ hF hs (lv_sub hl [0, 1, 2] rfl)
set_option maxHeartbeats 4000000 in
set_option maxRecDepth 100000 in
theorem c_X1_oweBack (G : GT) (l : Launch) (a : Nat → Nat) (S : RS) (r : RS) (hF : F_X1_oweBack S = some r) : MT G l yX1_oweBack cX1_oweBack 3 (none) 3 69 [.ref (a 0)] (WR G a S) none (WR G a r) := by
  refine MT.of (by decide) (Nat.le_of_ble_eq_true rfl) ?_
  intro p e s m args below meth c A ls hx hb hr hml hown hts hlk hE hA hs hl Q hQ
  have hl : lv_has ls 3 [(0, .ref (a 0))] := hl
  have hJ70_2 : ∀ (k : RS → Option (RS)) (rc : RS → Int32 → Option (RS)) (hk : ∀ (S : RS) (H : Heap) (locs : List Loc) (ls : Array Slot), k S = some r → SI G A s H locs (WR G a S) → lv_has ls 3 [] → W p l e (RM 3 69) s m args below meth c H locs 0 0 Q (F0 m 76 ls [])) (hrec : ∀ (S : RS) (x1 : Int32) (H : Heap) (locs : List Loc) (ls : Array Slot), rc S x1 = some r → SI G A s H locs (WR G a S) → lv_has ls 3 [(0, .ref (a 0)), (1, .int x1)] → W p l e (RM 3 69) s m args below meth c H locs 0 0 Q (F0 m 2 ls [])) (S : RS) (x1 : Int32) (H : Heap) (locs : List Loc) (ls : Array Slot), J_X1_oweBack_70 k rc S x1 = some r → SI G A s H locs (WR G a S) → lv_has ls 3 [(0, .ref (a 0)), (1, .int x1)] → W p l e (RM 3 69) s m args below meth c H locs 0 0 Q (F0 m 70 ls []) := by
    intro k rc hk hrec S x1 H locs ls hF hs hl
    unfold J_X1_oweBack_70 at hF
    obtain ⟨v2, ev2, hF⟩ := nm_some hF
    refine lv_iinc (v := v2) (lv' := [(1, .int v2), (0, .ref (a 0))]) hx hb dX1_oweBack_70 hl (k := 1) rfl (by rw [ev2]; rfl) (by decide) rfl (fun ls hl => ?_)
    refine lv_goto (tgt := 2) hx hb dX1_oweBack_73 (by decide) ?_
    exact hrec S v2 _ _ _ hF hs (lv_sub hl [1, 0] rfl)
  have hL26 : ∀ (x1 : Int32) (k : RS → Option (RS)) (hk : ∀ (S : RS) (H : Heap) (locs : List Loc) (ls : Array Slot), k S = some r → SI G A s H locs (WR G a S) → lv_has ls 3 [(0, .ref (a 0)), (1, .int x1)] → W p l e (RM 3 69) s m args below meth c H locs 0 0 Q (F0 m 70 ls [])) (fu : Nat) (S : RS) (x2 : Int32) (H : Heap) (locs : List Loc) (ls : Array Slot), lo2 (B_X1_oweBack_26 x1 k) fu S x2 = some r → SI G A s H locs (WR G a S) → lv_has ls 3 [(0, .ref (a 0)), (1, .int x1), (2, .int x2)] → W p l e (RM 3 69) s m args below meth c H locs 0 0 Q (F0 m 26 ls []) := by
    intro x1 k hk fu
    induction fu with
    | zero =>
      intro S x2 H locs ls hF hs hl
      exact nomatch (show (none : Option (RS)) = some r from hF)
    | succ fu hrec =>
      intro S x2 H locs ls hF hs hl
      have hF : (B_X1_oweBack_26 x1 k) (lo2 (B_X1_oweBack_26 x1 k) fu) S x2 = some r := hF
      unfold B_X1_oweBack_26 at hF
      refine lv_iload_n hx hb dX1_oweBack_26 rfl (lv_at hl 2 rfl) ?_
      refine lv_aload_n hx hb dX1_oweBack_27 rfl (lv_at hl 0 rfl) ?_
      refine fg_X1_12 hx hb hown hts hE hs 5 rfl (v := .ref (a 6)) rfl dX1_oweBack_28 ?_
      refine fg_X1_61 hx hb hown hts hE hs 0 rfl (v := .int (t_ships (r_told S))) rfl dX1_oweBack_31 ?_
      refine lv_icmp_ge (tgt := 70) hx hb dX1_oweBack_34 (by decide) (fun hc => ?_) (fun hc => ?_)
      · have hF := (if_pos hc).symm.trans hF
        exact hk S _ _ _ hF hs (lv_sub hl [0, 1] rfl)
      · have hF := (if_neg hc).symm.trans hF
        refine lv_aload_n hx hb dX1_oweBack_37 rfl (lv_at hl 0 rfl) ?_
        refine fg_X1_22 hx hb hown hts hE hs 5 rfl (v := .ref (a 2)) rfl dX1_oweBack_38 ?_
        refine lv_aload_n hx hb dX1_oweBack_41 rfl (lv_at hl 0 rfl) ?_
        refine fg_X1_12 hx hb hown hts hE hs 5 rfl (v := .ref (a 6)) rfl dX1_oweBack_42 ?_
        refine lv_iload_n hx hb dX1_oweBack_45 rfl (lv_at hl 1 rfl) ?_
        refine lv_iconst (v := (1 : Int32)) hx hb dX1_oweBack_46 (by decide) ?_
        obtain ⟨q3, hq3, hF⟩ := bd hF
        refine sx_N (As := [.int x1, .int (1 : Int32)]) (rest := [.ref (a 2)]) (st1 := [.int q3, .ref (a 2)]) (c_X2_ofClaim G l (fun k => a (6 + k)) (r_told S) x1 (1 : Int32) q3 hq3) v_X1_94 ⟨(Nat.le_of_ble_eq_true rfl), (Nat.le_of_ble_eq_true rfl)⟩ hx hb hml hown hts hE hA hs ⟨Nat.le_refl 0, Nat.le_refl 0⟩ 0 rfl rfl rfl rfl rfl hl.1 (Nat.le_of_ble_eq_true rfl) dX1_oweBack_47 (pR_told G a S (r_told S)) (ws' := WR G a S) (pR_told G a S (r_told S)) (fun H locs hs => ?_)
        refine lv_iconst (v := (4 : Int32)) hx hb dX1_oweBack_50 (by decide) ?_
        refine lv_imul hx hb dX1_oweBack_51 ?_
        refine lv_iload_n hx hb dX1_oweBack_52 rfl (lv_at hl 2 rfl) ?_
        refine lv_iadd hx hb dX1_oweBack_53 ?_
        obtain ⟨v4, ev4, hF⟩ := nm_some hF
        refine sx_topi ev4 ?_
        refine lv_dup2_11 hx hb dX1_oweBack_54 rfl rfl ?_
        obtain ⟨v5, hv5, hF⟩ := bd hF
        refine sx_lald hx hb hE hs 7 (f := r_backs S) rfl hv5 dX1_oweBack_55 ?_
        refine lv_aload_n hx hb dX1_oweBack_56 rfl (lv_at hl 0 rfl) ?_
        refine lv_iload_n hx hb dX1_oweBack_57 rfl (lv_at hl 1 rfl) ?_
        refine lv_iload_n hx hb dX1_oweBack_58 rfl (lv_at hl 2 rfl) ?_
        obtain ⟨q6, hq6, hF⟩ := bd hF
        refine sx_V (As := [.int x1, .int x2]) (rest := [.long v5, .int v4, .ref (a 2)]) (st1 := [.long q6, .long v5, .int v4, .ref (a 2)]) (c_X1_backFor G l a S x1 x2 q6 hq6) v_X1_111 ⟨(Nat.le_of_ble_eq_true rfl), (Nat.le_of_ble_eq_true rfl)⟩ hx hb hml hown hts hE hA hs ⟨Nat.le_refl 0, Nat.le_refl 0⟩ 5 rfl rfl rfl rfl rfl hl.1 (Nat.le_of_ble_eq_true rfl) dX1_oweBack_59 (pmW _) (ws' := WR G a S) (pmW _) (fun H locs hs => ?_)
        refine lv_ladd hx hb dX1_oweBack_62 ?_
        obtain ⟨f7, hf7, hF⟩ := bd hF
        obtain ⟨S8, eS8, hF⟩ := nm_some hF
        refine sx_last hx hb hE hs 7 (f := r_backs S) rfl hf7 (ws' := WR G a S8) (by subst eS8; rfl) dX1_oweBack_63 (fun H locs hs => ?_)
        obtain ⟨v9, ev9, hF⟩ := nm_some hF
        refine lv_iinc (v := v9) (lv' := [(2, .int v9), (0, .ref (a 0)), (1, .int x1)]) hx hb dX1_oweBack_64 hl (k := 2) rfl (by rw [ev9]; rfl) (by decide) rfl (fun ls hl => ?_)
        refine lv_goto (tgt := 26) hx hb dX1_oweBack_67 (by decide) ?_
        exact hrec S8 v9 _ _ _ hF hs (lv_sub hl [1, 2, 0] rfl)
  have hL2 : ∀ (k : RS → Option (RS)) (hk : ∀ (S : RS) (H : Heap) (locs : List Loc) (ls : Array Slot), k S = some r → SI G A s H locs (WR G a S) → lv_has ls 3 [] → W p l e (RM 3 69) s m args below meth c H locs 0 0 Q (F0 m 76 ls [])) (fu : Nat) (S : RS) (x1 : Int32) (H : Heap) (locs : List Loc) (ls : Array Slot), lo2 (B_X1_oweBack_2 k) fu S x1 = some r → SI G A s H locs (WR G a S) → lv_has ls 3 [(0, .ref (a 0)), (1, .int x1)] → W p l e (RM 3 69) s m args below meth c H locs 0 0 Q (F0 m 2 ls []) := by
    intro k hk fu
    induction fu with
    | zero =>
      intro S x1 H locs ls hF hs hl
      exact nomatch (show (none : Option (RS)) = some r from hF)
    | succ fu hrec =>
      intro S x1 H locs ls hF hs hl
      have hF : (B_X1_oweBack_2 k) (lo2 (B_X1_oweBack_2 k) fu) S x1 = some r := hF
      unfold B_X1_oweBack_2 at hF
      refine lv_iload_n hx hb dX1_oweBack_2 rfl (lv_at hl 1 rfl) ?_
      refine lv_aload_n hx hb dX1_oweBack_3 rfl (lv_at hl 0 rfl) ?_
      refine fg_X1_12 hx hb hown hts hE hs 5 rfl (v := .ref (a 6)) rfl dX1_oweBack_4 ?_
      refine fg_X1_84 hx hb hown hts hE hs 0 rfl (v := .int (t_claims (r_told S))) rfl dX1_oweBack_7 ?_
      refine lv_icmp_ge (tgt := 76) hx hb dX1_oweBack_10 (by decide) (fun hc => ?_) (fun hc => ?_)
      · have hF := (if_pos hc).symm.trans hF
        exact hk S _ _ _ hF hs (lv_sub hl [] rfl)
      · have hF := (if_neg hc).symm.trans hF
        refine lv_aload_n hx hb dX1_oweBack_13 rfl (lv_at hl 0 rfl) ?_
        refine fg_X1_12 hx hb hown hts hE hs 5 rfl (v := .ref (a 6)) rfl dX1_oweBack_14 ?_
        refine lv_iload_n hx hb dX1_oweBack_17 rfl (lv_at hl 1 rfl) ?_
        obtain ⟨q1, hq1, hF⟩ := bd hF
        refine sx_N (As := [.int x1]) (rest := []) (st1 := [.int q1]) (c_X2_isGoods G l (fun k => a (6 + k)) (r_told S) x1 q1 hq1) v_X1_97 ⟨(Nat.le_of_ble_eq_true rfl), (Nat.le_of_ble_eq_true rfl)⟩ hx hb hml hown hts hE hA hs ⟨Nat.le_refl 0, Nat.le_refl 0⟩ 0 rfl rfl rfl rfl rfl hl.1 (Nat.le_of_ble_eq_true rfl) dX1_oweBack_18 (pR_told G a S (r_told S)) (ws' := WR G a S) (pR_told G a S (r_told S)) (fun H locs hs => ?_)
        refine lv_if_eq (tgt := 70) hx hb dX1_oweBack_21 (by decide) (fun hc => ?_) (fun hc => ?_)
        · have hF := (if_pos hc).symm.trans hF
          exact hJ70_2 _ _ hk hrec S x1 _ _ _ hF hs (lv_sub hl [0, 1] rfl)
        · have hF := (if_neg hc).symm.trans hF
          refine lv_iconst (v := (0 : Int32)) hx hb dX1_oweBack_24 (by decide) ?_
          refine lv_istore_n (lv' := [(2, .int (0 : Int32)), (0, .ref (a 0)), (1, .int x1)]) hx hb dX1_oweBack_25 rfl hl (by decide) rfl (fun ls hl => ?_)
          refine hL26 x1 _ (fun S10 H locs ls hF hs hl => ?_) FU S (0 : Int32) _ _ _ hF hs (lv_sub hl [1, 2, 0] rfl)
          exact hJ70_2 _ _ hk hrec S10 x1 _ _ _ hF hs (lv_sub hl [0, 1] rfl)
  unfold F_X1_oweBack at hF
  refine lv_iconst (v := (0 : Int32)) hx hb dX1_oweBack_0 (by decide) ?_
  refine lv_istore_n (lv' := [(1, .int (0 : Int32)), (0, .ref (a 0))]) hx hb dX1_oweBack_1 rfl hl (by decide) rfl (fun ls hl => ?_)
  refine hL2 _ (fun S11 H locs ls hF hs hl => ?_) FU S (0 : Int32) _ _ _ hF hs (lv_sub hl [1, 0] rfl)
  exact sx_vret hx hb hr hlk hQ (congrArg (fun z => WR G a z) (Option.some.inj hF)) hs dX1_oweBack_76
set_option maxHeartbeats 4000000 in
set_option maxRecDepth 100000 in
theorem c_X1_hullDebt (G : GT) (l : Launch) (a : Nat → Nat) (S : RS) (x1 : Int32) (x2 : Int32) (r : Int64) (hF : F_X1_hullDebt S x1 x2 = some r) : MT G l yX1_hullDebt cX1_hullDebt 3 (some .long) 2 46 [.ref (a 0), .int x1, .int x2] (WR G a S) (some (.long r)) (WR G a S) := by
  refine MT.of (by decide) (Nat.le_of_ble_eq_true rfl) ?_
  intro p e s m args below meth c A ls hx hb hr hml hown hts hlk hE hA hs hl Q hQ
  have hl : lv_has ls 3 [(0, .ref (a 0)), (1, .int x1), (2, .int x2)] := hl
  unfold F_X1_hullDebt at hF
  refine lv_aload_n hx hb dX1_hullDebt_0 rfl (lv_at hl 0 rfl) ?_
  refine lv_iload_n hx hb dX1_hullDebt_1 rfl (lv_at hl 1 rfl) ?_
  refine lv_aload_n hx hb dX1_hullDebt_2 rfl (lv_at hl 0 rfl) ?_
  refine fg_X1_12 hx hb hown hts hE hs 5 rfl (v := .ref (a 6)) rfl dX1_hullDebt_3 ?_
  refine lv_iload_n hx hb dX1_hullDebt_6 rfl (lv_at hl 2 rfl) ?_
  refine lv_iconst (v := (2 : Int32)) hx hb dX1_hullDebt_7 (by decide) ?_
  obtain ⟨q1, hq1, hF⟩ := bd hF
  refine sx_N (As := [.int x2, .int (2 : Int32)]) (rest := [.int x1, .ref (a 0)]) (st1 := [.int q1, .int x1, .ref (a 0)]) (c_X2_ofShip G l (fun k => a (6 + k)) (r_told S) x2 (2 : Int32) q1 hq1) v_X1_64 ⟨(Nat.le_of_ble_eq_true rfl), (Nat.le_of_ble_eq_true rfl)⟩ hx hb hml hown hts hE hA hs ⟨Nat.le_refl 0, Nat.le_refl 0⟩ 0 rfl rfl rfl rfl rfl hl.1 (Nat.le_of_ble_eq_true rfl) dX1_hullDebt_8 (pR_told G a S (r_told S)) (ws' := WR G a S) (pR_told G a S (r_told S)) (fun H locs hs => ?_)
  refine lv_i2l hx hb dX1_hullDebt_11 rfl ?_
  obtain ⟨q2, hq2, hF⟩ := bd hF
  refine sx_V (As := [.int x1, .long q1.toInt64]) (rest := []) (st1 := [.long q2]) (c_X1_partOf G l a S x1 q1.toInt64 q2 hq2) v_X1_101 ⟨(Nat.le_of_ble_eq_true rfl), (Nat.le_of_ble_eq_true rfl)⟩ hx hb hml hown hts hE hA hs ⟨Nat.le_refl 0, Nat.le_refl 0⟩ 5 rfl rfl rfl rfl rfl hl.1 (Nat.le_of_ble_eq_true rfl) dX1_hullDebt_12 (pmW _) (ws' := WR G a S) (pmW _) (fun H locs hs => ?_)
  exact sx_lret hx hb hr hlk hQ (Option.some.inj hF) rfl hs dX1_hullDebt_15
set_option maxHeartbeats 4000000 in
set_option maxRecDepth 100000 in
theorem c_X1_backTo (G : GT) (l : Launch) (a : Nat → Nat) (S : RS) (x1 : Int32) (x2 : Int32) (r : Int64) (hF : F_X1_backTo S x1 x2 = some r) : MT G l yX1_backTo cX1_backTo 3 (some .long) 0 0 [.ref (a 0), .int x1, .int x2] (WR G a S) (some (.long r)) (WR G a S) := by
  refine MT.of (by decide) (Nat.le_of_ble_eq_true rfl) ?_
  intro p e s m args below meth c A ls hx hb hr hml hown hts hlk hE hA hs hl Q hQ
  have hl : lv_has ls 3 [(0, .ref (a 0)), (1, .int x1), (2, .int x2)] := hl
  unfold F_X1_backTo at hF
  refine lv_aload_n hx hb dX1_backTo_0 rfl (lv_at hl 0 rfl) ?_
  refine fg_X1_22 hx hb hown hts hE hs 5 rfl (v := .ref (a 2)) rfl dX1_backTo_1 ?_
  refine lv_iload_n hx hb dX1_backTo_4 rfl (lv_at hl 1 rfl) ?_
  refine lv_iconst (v := (4 : Int32)) hx hb dX1_backTo_5 (by decide) ?_
  refine lv_imul hx hb dX1_backTo_6 ?_
  refine lv_iload_n hx hb dX1_backTo_7 rfl (lv_at hl 2 rfl) ?_
  refine lv_iadd hx hb dX1_backTo_8 ?_
  obtain ⟨v1, hv1, hF⟩ := bd hF
  refine sx_lald hx hb hE hs 7 (f := r_backs S) rfl hv1 dX1_backTo_9 ?_
  exact sx_lret hx hb hr hlk hQ (Option.some.inj hF) rfl hs dX1_backTo_10
set_option maxHeartbeats 4000000 in
set_option maxRecDepth 100000 in
theorem c_X1_crossDebt (G : GT) (l : Launch) (a : Nat → Nat) (S : RS) (x1 : Int32) (x2 : Int32) (r : Int64) (hF : F_X1_crossDebt S x1 x2 = some r) : MT G l yX1_crossDebt cX1_crossDebt 3 (some .long) 3 68 [.ref (a 0), .int x1, .int x2] (WR G a S) (some (.long r)) (WR G a S) := by
  refine MT.of (by decide) (Nat.le_of_ble_eq_true rfl) ?_
  intro p e s m args below meth c A ls hx hb hr hml hown hts hlk hE hA hs hl Q hQ
  have hl : lv_has ls 3 [(0, .ref (a 0)), (1, .int x1), (2, .int x2)] := hl
  unfold F_X1_crossDebt at hF
  refine lv_aload_n hx hb dX1_crossDebt_0 rfl (lv_at hl 0 rfl) ?_
  refine lv_iload_n hx hb dX1_crossDebt_1 rfl (lv_at hl 1 rfl) ?_
  refine lv_iload_n hx hb dX1_crossDebt_2 rfl (lv_at hl 2 rfl) ?_
  obtain ⟨q1, hq1, hF⟩ := bd hF
  refine sx_V (As := [.int x1, .int x2]) (rest := []) (st1 := [.long q1]) (c_X1_hullDebt G l a S x1 x2 q1 hq1) v_X1_122 ⟨(Nat.le_of_ble_eq_true rfl), (Nat.le_of_ble_eq_true rfl)⟩ hx hb hml hown hts hE hA hs ⟨Nat.le_refl 0, Nat.le_refl 0⟩ 5 rfl rfl rfl rfl rfl hl.1 (Nat.le_of_ble_eq_true rfl) dX1_crossDebt_3 (pmW _) (ws' := WR G a S) (pmW _) (fun H locs hs => ?_)
  refine lv_aload_n hx hb dX1_crossDebt_6 rfl (lv_at hl 0 rfl) ?_
  refine lv_iload_n hx hb dX1_crossDebt_7 rfl (lv_at hl 1 rfl) ?_
  refine lv_iload_n hx hb dX1_crossDebt_8 rfl (lv_at hl 2 rfl) ?_
  obtain ⟨q2, hq2, hF⟩ := bd hF
  refine sx_V (As := [.int x1, .int x2]) (rest := [.long q1]) (st1 := [.long q2, .long q1]) (c_X1_backTo G l a S x1 x2 q2 hq2) v_X1_125 ⟨(Nat.le_of_ble_eq_true rfl), (Nat.le_of_ble_eq_true rfl)⟩ hx hb hml hown hts hE hA hs ⟨Nat.le_refl 0, Nat.le_refl 0⟩ 5 rfl rfl rfl rfl rfl hl.1 (Nat.le_of_ble_eq_true rfl) dX1_crossDebt_9 (pmW _) (ws' := WR G a S) (pmW _) (fun H locs hs => ?_)
  refine lv_ladd hx hb dX1_crossDebt_12 ?_
  exact sx_lret hx hb hr hlk hQ (Option.some.inj hF) rfl hs dX1_crossDebt_13
set_option maxHeartbeats 4000000 in
set_option maxRecDepth 100000 in
theorem c_X1_oweShips (G : GT) (l : Launch) (a : Nat → Nat) (S : RS) (r : RS) (hF : F_X1_oweShips S = some r) : MT G l yX1_oweShips cX1_oweShips 7 (none) 4 90 [.ref (a 0)] (WR G a S) none (WR G a r) := by
  refine MT.of (by decide) (Nat.le_of_ble_eq_true rfl) ?_
  intro p e s m args below meth c A ls hx hb hr hml hown hts hlk hE hA hs hl Q hQ
  have hl : lv_has ls 7 [(0, .ref (a 0))] := hl
  have hJ80_15 : ∀ (x1 : Int32) (k : RS → Option (RS)) (rc : RS → Int32 → Option (RS)) (hk : ∀ (S : RS) (H : Heap) (locs : List Loc) (ls : Array Slot), k S = some r → SI G A s H locs (WR G a S) → lv_has ls 7 [(0, .ref (a 0)), (1, .int x1)] → W p l e (RM 4 90) s m args below meth c H locs 0 0 Q (F0 m 86 ls [])) (hrec : ∀ (S : RS) (x2 : Int32) (H : Heap) (locs : List Loc) (ls : Array Slot), rc S x2 = some r → SI G A s H locs (WR G a S) → lv_has ls 7 [(0, .ref (a 0)), (1, .int x1), (2, .int x2)] → W p l e (RM 4 90) s m args below meth c H locs 0 0 Q (F0 m 15 ls [])) (S : RS) (x2 : Int32) (H : Heap) (locs : List Loc) (ls : Array Slot), J_X1_oweShips_80 k rc S x1 x2 = some r → SI G A s H locs (WR G a S) → lv_has ls 7 [(0, .ref (a 0)), (1, .int x1), (2, .int x2)] → W p l e (RM 4 90) s m args below meth c H locs 0 0 Q (F0 m 80 ls []) := by
    intro x1 k rc hk hrec S x2 H locs ls hF hs hl
    unfold J_X1_oweShips_80 at hF
    obtain ⟨v1, ev1, hF⟩ := nm_some hF
    refine lv_iinc (v := v1) (lv' := [(2, .int v1), (0, .ref (a 0)), (1, .int x1)]) hx hb dX1_oweShips_80 hl (k := 2) rfl (by rw [ev1]; rfl) (by decide) rfl (fun ls hl => ?_)
    refine lv_goto (tgt := 15) hx hb dX1_oweShips_83 (by decide) ?_
    exact hrec S v1 _ _ _ hF hs (lv_sub hl [1, 2, 0] rfl)
  have hJ63_15 : ∀ (x1 : Int32) (k : RS → Option (RS)) (rc : RS → Int32 → Option (RS)) (hk : ∀ (S : RS) (H : Heap) (locs : List Loc) (ls : Array Slot), k S = some r → SI G A s H locs (WR G a S) → lv_has ls 7 [(0, .ref (a 0)), (1, .int x1)] → W p l e (RM 4 90) s m args below meth c H locs 0 0 Q (F0 m 86 ls [])) (hrec : ∀ (S : RS) (x2 : Int32) (H : Heap) (locs : List Loc) (ls : Array Slot), rc S x2 = some r → SI G A s H locs (WR G a S) → lv_has ls 7 [(0, .ref (a 0)), (1, .int x1), (2, .int x2)] → W p l e (RM 4 90) s m args below meth c H locs 0 0 Q (F0 m 15 ls [])) (S : RS) (x2 : Int32) (x3 : Int64) (y0 : Int64) (H : Heap) (locs : List Loc) (ls : Array Slot), J_X1_oweShips_63 k rc S x1 x2 x3 y0 = some r → SI G A s H locs (WR G a S) → lv_has ls 7 [(0, .ref (a 0)), (1, .int x1), (2, .int x2), (3, .long x3)] → W p l e (RM 4 90) s m args below meth c H locs 0 0 Q (F0 m 63 ls [.long y0]) := by
    intro x1 k rc hk hrec S x2 x3 y0 H locs ls hF hs hl
    unfold J_X1_oweShips_63 at hF
    refine lv_lstore (lv' := [(5, .long y0), (0, .ref (a 0)), (1, .int x1), (2, .int x2), (3, .long x3)]) hx hb dX1_oweShips_63 hl (by decide) rfl (fun ls hl => ?_)
    refine lv_aload_n hx hb dX1_oweShips_65 rfl (lv_at hl 1 rfl) ?_
    refine fg_X1_26 hx hb hown hts hE hs 5 rfl (v := .ref (a 3)) rfl dX1_oweShips_66 ?_
    refine lv_iload_n hx hb dX1_oweShips_69 rfl (lv_at hl 2 rfl) ?_
    refine lv_bipush (v := (16 : Int32)) hx hb dX1_oweShips_70 (by decide) ?_
    refine lv_imul hx hb dX1_oweShips_72 ?_
    refine lv_iload_n hx hb dX1_oweShips_73 rfl (lv_at hl 3 rfl) ?_
    refine lv_iadd hx hb dX1_oweShips_74 ?_
    refine lv_lload_n hx hb dX1_oweShips_75 rfl (lv_at hl 4 rfl) ?_
    refine lv_lload hx hb dX1_oweShips_76 (lv_at hl 0 rfl) ?_
    refine lv_lsub hx hb dX1_oweShips_78 ?_
    obtain ⟨f6, hf6, hF⟩ := bd hF
    obtain ⟨S7, eS7, hF⟩ := nm_some hF
    refine sx_last hx hb hE hs 8 (f := r_owed S) rfl hf6 (ws' := WR G a S7) (by subst eS7; rfl) dX1_oweShips_79 (fun H locs hs => ?_)
    exact hJ80_15 x1 _ _ hk hrec S7 x2 _ _ _ hF hs (lv_sub hl [1, 2, 3] rfl)
  have hL15 : ∀ (x1 : Int32) (k : RS → Option (RS)) (hk : ∀ (S : RS) (H : Heap) (locs : List Loc) (ls : Array Slot), k S = some r → SI G A s H locs (WR G a S) → lv_has ls 7 [(0, .ref (a 0)), (1, .int x1)] → W p l e (RM 4 90) s m args below meth c H locs 0 0 Q (F0 m 86 ls [])) (fu : Nat) (S : RS) (x2 : Int32) (H : Heap) (locs : List Loc) (ls : Array Slot), lo2 (B_X1_oweShips_15 x1 k) fu S x2 = some r → SI G A s H locs (WR G a S) → lv_has ls 7 [(0, .ref (a 0)), (1, .int x1), (2, .int x2)] → W p l e (RM 4 90) s m args below meth c H locs 0 0 Q (F0 m 15 ls []) := by
    intro x1 k hk fu
    induction fu with
    | zero =>
      intro S x2 H locs ls hF hs hl
      exact nomatch (show (none : Option (RS)) = some r from hF)
    | succ fu hrec =>
      intro S x2 H locs ls hF hs hl
      have hF : (B_X1_oweShips_15 x1 k) (lo2 (B_X1_oweShips_15 x1 k) fu) S x2 = some r := hF
      unfold B_X1_oweShips_15 at hF
      refine lv_iload_n hx hb dX1_oweShips_15 rfl (lv_at hl 2 rfl) ?_
      refine lv_aload_n hx hb dX1_oweShips_16 rfl (lv_at hl 0 rfl) ?_
      refine fg_X1_12 hx hb hown hts hE hs 5 rfl (v := .ref (a 6)) rfl dX1_oweShips_17 ?_
      refine fg_X1_61 hx hb hown hts hE hs 0 rfl (v := .int (t_ships (r_told S))) rfl dX1_oweShips_20 ?_
      refine lv_icmp_ge (tgt := 86) hx hb dX1_oweShips_23 (by decide) (fun hc => ?_) (fun hc => ?_)
      · have hF := (if_pos hc).symm.trans hF
        exact hk S _ _ _ hF hs (lv_sub hl [0, 1] rfl)
      · have hF := (if_neg hc).symm.trans hF
        refine lv_iload_n hx hb dX1_oweShips_26 rfl (lv_at hl 1 rfl) ?_
        refine lv_iload_n hx hb dX1_oweShips_27 rfl (lv_at hl 2 rfl) ?_
        refine lv_icmp_eq (tgt := 80) hx hb dX1_oweShips_28 (by decide) (fun hc => ?_) (fun hc => ?_)
        · have hF := (if_pos hc).symm.trans hF
          exact hJ80_15 x1 _ _ hk hrec S x2 _ _ _ hF hs (lv_sub hl [0, 1, 2] rfl)
        · have hF := (if_neg hc).symm.trans hF
          refine lv_aload_n hx hb dX1_oweShips_31 rfl (lv_at hl 0 rfl) ?_
          refine lv_iload_n hx hb dX1_oweShips_32 rfl (lv_at hl 1 rfl) ?_
          refine lv_iload_n hx hb dX1_oweShips_33 rfl (lv_at hl 2 rfl) ?_
          obtain ⟨q2, hq2, hF⟩ := bd hF
          refine sx_V (As := [.int x1, .int x2]) (rest := []) (st1 := [.long q2]) (c_X1_crossDebt G l a S x1 x2 q2 hq2) v_X1_114 ⟨(Nat.le_of_ble_eq_true rfl), (Nat.le_of_ble_eq_true rfl)⟩ hx hb hml hown hts hE hA hs ⟨Nat.le_refl 0, Nat.le_refl 0⟩ 5 rfl rfl rfl rfl rfl hl.1 (Nat.le_of_ble_eq_true rfl) dX1_oweShips_34 (pmW _) (ws' := WR G a S) (pmW _) (fun H locs hs => ?_)
          refine lv_lstore_n (lv' := [(3, .long q2), (0, .ref (a 0)), (1, .int x1), (2, .int x2)]) hx hb dX1_oweShips_37 rfl hl (by decide) rfl (fun ls hl => ?_)
          refine lv_aload_n hx hb dX1_oweShips_38 rfl (lv_at hl 1 rfl) ?_
          refine fg_X1_12 hx hb hown hts hE hs 5 rfl (v := .ref (a 6)) rfl dX1_oweShips_39 ?_
          refine lv_iconst (v := (4 : Int32)) hx hb dX1_oweShips_42 (by decide) ?_
          obtain ⟨q3, hq3, hF⟩ := bd hF
          refine sx_N (As := [.int (4 : Int32)]) (rest := []) (st1 := [.int q3]) (c_X2_holds G l (fun k => a (6 + k)) (r_told S) (4 : Int32) q3 hq3) v_X1_105 ⟨(Nat.le_of_ble_eq_true rfl), (Nat.le_of_ble_eq_true rfl)⟩ hx hb hml hown hts hE hA hs ⟨Nat.le_refl 0, Nat.le_refl 0⟩ 0 rfl rfl rfl rfl rfl hl.1 (Nat.le_of_ble_eq_true rfl) dX1_oweShips_43 (pR_told G a S (r_told S)) (ws' := WR G a S) (pR_told G a S (r_told S)) (fun H locs hs => ?_)
          refine lv_if_eq (tgt := 53) hx hb dX1_oweShips_46 (by decide) (fun hc => ?_) (fun hc => ?_)
          · have hF := (if_pos hc).symm.trans hF
            refine lv_lload_n hx hb dX1_oweShips_53 rfl (lv_at hl 0 rfl) ?_
            refine lv_aload_n hx hb dX1_oweShips_54 rfl (lv_at hl 1 rfl) ?_
            refine lv_iload_n hx hb dX1_oweShips_55 rfl (lv_at hl 3 rfl) ?_
            refine lv_iload_n hx hb dX1_oweShips_56 rfl (lv_at hl 2 rfl) ?_
            obtain ⟨q4, hq4, hF⟩ := bd hF
            refine sx_V (As := [.int x2, .int x1]) (rest := [.long q2]) (st1 := [.long q4, .long q2]) (c_X1_crossDebt G l a S x2 x1 q4 hq4) v_X1_114 ⟨(Nat.le_of_ble_eq_true rfl), (Nat.le_of_ble_eq_true rfl)⟩ hx hb hml hown hts hE hA hs ⟨Nat.le_refl 0, Nat.le_refl 0⟩ 5 rfl rfl rfl rfl rfl hl.1 (Nat.le_of_ble_eq_true rfl) dX1_oweShips_57 (pmW _) (ws' := WR G a S) (pmW _) (fun H locs hs => ?_)
            refine va_mmin_long hx hb (hml.trans hl.1.symm) hown (hts _ g592) (hts _ g593) (hts _ g131) (hts _ g594) (Nat.le_of_ble_eq_true rfl) (Nat.le_of_ble_eq_true rfl) (Nat.le_refl 0) (Nat.le_refl 0) dX1_oweShips_60 ?_
            obtain ⟨v5, ev5, hF⟩ := nm_some hF
            refine sx_topl ev5 ?_
            exact hJ63_15 x1 _ _ hk hrec S x2 q2 v5 _ _ _ hF hs (lv_sub hl [1, 2, 3, 0] rfl)
          · have hF := (if_neg hc).symm.trans hF
            refine lv_lconst (v := (0 : Int64)) hx hb dX1_oweShips_49 (by decide) ?_
            refine lv_goto (tgt := 63) hx hb dX1_oweShips_50 (by decide) ?_
            exact hJ63_15 x1 _ _ hk hrec S x2 q2 (0 : Int64) _ _ _ hF hs (lv_sub hl [1, 2, 3, 0] rfl)
  have hL2 : ∀ (k : RS → Option (RS)) (hk : ∀ (S : RS) (H : Heap) (locs : List Loc) (ls : Array Slot), k S = some r → SI G A s H locs (WR G a S) → lv_has ls 7 [] → W p l e (RM 4 90) s m args below meth c H locs 0 0 Q (F0 m 92 ls [])) (fu : Nat) (S : RS) (x1 : Int32) (H : Heap) (locs : List Loc) (ls : Array Slot), lo2 (B_X1_oweShips_2 k) fu S x1 = some r → SI G A s H locs (WR G a S) → lv_has ls 7 [(0, .ref (a 0)), (1, .int x1)] → W p l e (RM 4 90) s m args below meth c H locs 0 0 Q (F0 m 2 ls []) := by
    intro k hk fu
    induction fu with
    | zero =>
      intro S x1 H locs ls hF hs hl
      exact nomatch (show (none : Option (RS)) = some r from hF)
    | succ fu hrec =>
      intro S x1 H locs ls hF hs hl
      have hF : (B_X1_oweShips_2 k) (lo2 (B_X1_oweShips_2 k) fu) S x1 = some r := hF
      unfold B_X1_oweShips_2 at hF
      refine lv_iload_n hx hb dX1_oweShips_2 rfl (lv_at hl 1 rfl) ?_
      refine lv_aload_n hx hb dX1_oweShips_3 rfl (lv_at hl 0 rfl) ?_
      refine fg_X1_12 hx hb hown hts hE hs 5 rfl (v := .ref (a 6)) rfl dX1_oweShips_4 ?_
      refine fg_X1_61 hx hb hown hts hE hs 0 rfl (v := .int (t_ships (r_told S))) rfl dX1_oweShips_7 ?_
      refine lv_icmp_ge (tgt := 92) hx hb dX1_oweShips_10 (by decide) (fun hc => ?_) (fun hc => ?_)
      · have hF := (if_pos hc).symm.trans hF
        exact hk S _ _ _ hF hs (lv_sub hl [] rfl)
      · have hF := (if_neg hc).symm.trans hF
        refine lv_iconst (v := (0 : Int32)) hx hb dX1_oweShips_13 (by decide) ?_
        refine lv_istore_n (lv' := [(2, .int (0 : Int32)), (0, .ref (a 0)), (1, .int x1)]) hx hb dX1_oweShips_14 rfl hl (by decide) rfl (fun ls hl => ?_)
        refine hL15 x1 _ (fun S8 H locs ls hF hs hl => ?_) FU S (0 : Int32) _ _ _ hF hs (lv_sub hl [1, 2, 0] rfl)
        obtain ⟨v9, ev9, hF⟩ := nm_some hF
        refine lv_iinc (v := v9) (lv' := [(1, .int v9), (0, .ref (a 0))]) hx hb dX1_oweShips_86 hl (k := 1) rfl (by rw [ev9]; rfl) (by decide) rfl (fun ls hl => ?_)
        refine lv_goto (tgt := 2) hx hb dX1_oweShips_89 (by decide) ?_
        exact hrec S8 v9 _ _ _ hF hs (lv_sub hl [1, 0] rfl)
  unfold F_X1_oweShips at hF
  refine lv_iconst (v := (0 : Int32)) hx hb dX1_oweShips_0 (by decide) ?_
  refine lv_istore_n (lv' := [(1, .int (0 : Int32)), (0, .ref (a 0))]) hx hb dX1_oweShips_1 rfl hl (by decide) rfl (fun ls hl => ?_)
  refine hL2 _ (fun S10 H locs ls hF hs hl => ?_) FU S (0 : Int32) _ _ _ hF hs (lv_sub hl [1, 0] rfl)
  exact sx_vret hx hb hr hlk hQ (congrArg (fun z => WR G a z) (Option.some.inj hF)) hs dX1_oweShips_92
set_option maxHeartbeats 4000000 in
set_option maxRecDepth 100000 in
theorem c_X1_payAll (G : GT) (l : Launch) (a : Nat → Nat) (S : RS) (x1 : Int32) (r : RS) (hF : F_X1_payAll S x1 = some r) : MT G l yX1_payAll cX1_payAll 2 (none) 1 40 [.ref (a 0), .int x1] (WR G a S) none (WR G a r) := by
  refine MT.of (by decide) (Nat.le_of_ble_eq_true rfl) ?_
  intro p e s m args below meth c A ls hx hb hr hml hown hts hlk hE hA hs hl Q hQ
  have hl : lv_has ls 2 [(0, .ref (a 0)), (1, .int x1)] := hl
  unfold F_X1_payAll at hF
  refine lv_aload_n hx hb dX1_payAll_0 rfl (lv_at hl 0 rfl) ?_
  refine fg_X1_26 hx hb hown hts hE hs 5 rfl (v := .ref (a 3)) rfl dX1_payAll_1 ?_
  refine lv_iload_n hx hb dX1_payAll_4 rfl (lv_at hl 1 rfl) ?_
  refine lv_bipush (v := (16 : Int32)) hx hb dX1_payAll_5 (by decide) ?_
  refine lv_imul hx hb dX1_payAll_7 ?_
  refine lv_aload_n hx hb dX1_payAll_8 rfl (lv_at hl 0 rfl) ?_
  refine fg_X1_29 hx hb hown hts hE hs 5 rfl (v := .ref (a 4)) rfl dX1_payAll_9 ?_
  refine lv_iload_n hx hb dX1_payAll_12 rfl (lv_at hl 1 rfl) ?_
  refine lv_bipush (v := (16 : Int32)) hx hb dX1_payAll_13 (by decide) ?_
  refine lv_imul hx hb dX1_payAll_15 ?_
  refine lv_bipush (v := (16 : Int32)) hx hb dX1_payAll_16 (by decide) ?_
  obtain ⟨f1, hf1, hF⟩ := bd hF
  obtain ⟨S2, eS2, hF⟩ := nm_some hF
  refine sx_copyl hx hb (hml.trans hl.1.symm) hown (hts _ g599) (hts _ g336) (hts _ g335) (hts _ g128) hE hs 8 9 (f := r_owed S) (g := r_paid S) rfl rfl hf1 (ws' := WR G a S2) (by subst eS2; rfl) (Nat.le_of_ble_eq_true rfl) (Nat.le_of_ble_eq_true rfl) dX1_payAll_18 (fun H locs hs => ?_)
  exact sx_vret hx hb hr hlk hQ (congrArg (fun z => WR G a z) (Option.some.inj hF)) hs dX1_payAll_21
set_option maxHeartbeats 4000000 in
set_option maxRecDepth 100000 in
theorem c_X1_takesPart (G : GT) (l : Launch) (a : Nat → Nat) (S : RS) (x1 : Int32) (x2 : Int32) (x3 : Int32) (r : Int32) (hF : F_X1_takesPart S x1 x2 x3 = some r) : MT G l yX1_takesPart cX1_takesPart 5 (some .boolean) 2 44 [.ref (a 0), .int x1, .int x2, .int x3] (WR G a S) (some (.int r)) (WR G a S) := by
  refine MT.of (by decide) (Nat.le_of_ble_eq_true rfl) ?_
  intro p e s m args below meth c A ls hx hb hr hml hown hts hlk hE hA hs hl Q hQ
  have hl : lv_has ls 5 [(0, .ref (a 0)), (1, .int x1), (2, .int x2), (3, .int x3)] := hl
  have hJ82_n : ∀ (H : Heap) (locs : List Loc) (ls : Array Slot), J_X1_takesPart_82 S = some r → SI G A s H locs (WR G a S) → lv_has ls 5 [] → W p l e (RM 2 44) s m args below meth c H locs 0 0 Q (F0 m 82 ls []) := by
    intro H locs ls hF hs hl
    unfold J_X1_takesPart_82 at hF
    refine lv_iconst (v := (1 : Int32)) hx hb dX1_takesPart_82 (by decide) ?_
    refine lv_goto (tgt := 87) hx hb dX1_takesPart_83 (by decide) ?_
    exact sx_zret hx hb hr hlk hQ (Or.inr rfl) (Option.some.inj hF) rfl hs dX1_takesPart_87
  unfold F_X1_takesPart at hF
  refine lv_iload_n hx hb dX1_takesPart_0 rfl (lv_at hl 1 rfl) ?_
  refine lv_iconst (v := (4 : Int32)) hx hb dX1_takesPart_1 (by decide) ?_
  refine lv_icmp_ge (tgt := 31) hx hb dX1_takesPart_2 (by decide) (fun hc => ?_) (fun hc => ?_)
  · have hF := (if_pos hc).symm.trans hF
    refine lv_iload_n hx hb dX1_takesPart_31 rfl (lv_at hl 1 rfl) ?_
    refine lv_iconst (v := (4 : Int32)) hx hb dX1_takesPart_32 (by decide) ?_
    refine lv_isub hx hb dX1_takesPart_33 ?_
    obtain ⟨v1, ev1, hF⟩ := nm_some hF
    refine sx_topi ev1 ?_
    refine lv_istore (lv' := [(4, .int v1), (0, .ref (a 0)), (1, .int x1), (2, .int x2), (3, .int x3)]) hx hb dX1_takesPart_34 hl (by decide) rfl (fun ls hl => ?_)
    refine lv_iload hx hb dX1_takesPart_36 (lv_at hl 0 rfl) ?_
    refine lv_aload_n hx hb dX1_takesPart_38 rfl (lv_at hl 1 rfl) ?_
    refine fg_X1_12 hx hb hown hts hE hs 5 rfl (v := .ref (a 6)) rfl dX1_takesPart_39 ?_
    refine fg_X1_84 hx hb hown hts hE hs 0 rfl (v := .int (t_claims (r_told S))) rfl dX1_takesPart_42 ?_
    refine lv_icmp_ge (tgt := 61) hx hb dX1_takesPart_45 (by decide) (fun hc => ?_) (fun hc => ?_)
    · have hF := (if_pos hc).symm.trans hF
      refine lv_iconst (v := (0 : Int32)) hx hb dX1_takesPart_61 (by decide) ?_
      exact sx_zret hx hb hr hlk hQ (Or.inl rfl) (Option.some.inj hF) rfl hs dX1_takesPart_62
    · have hF := (if_neg hc).symm.trans hF
      refine lv_aload_n hx hb dX1_takesPart_48 rfl (lv_at hl 1 rfl) ?_
      refine fg_X1_12 hx hb hown hts hE hs 5 rfl (v := .ref (a 6)) rfl dX1_takesPart_49 ?_
      refine lv_iload hx hb dX1_takesPart_52 (lv_at hl 0 rfl) ?_
      obtain ⟨q2, hq2, hF⟩ := bd hF
      refine sx_N (As := [.int v1]) (rest := []) (st1 := [.int q2]) (c_X2_roundOf G l (fun k => a (6 + k)) (r_told S) v1 q2 hq2) v_X1_91 ⟨(Nat.le_of_ble_eq_true rfl), (Nat.le_of_ble_eq_true rfl)⟩ hx hb hml hown hts hE hA hs ⟨Nat.le_refl 0, Nat.le_refl 0⟩ 0 rfl rfl rfl rfl rfl hl.1 (Nat.le_of_ble_eq_true rfl) dX1_takesPart_54 (pR_told G a S (r_told S)) (ws' := WR G a S) (pR_told G a S (r_told S)) (fun H locs hs => ?_)
      refine lv_iload_n hx hb dX1_takesPart_57 rfl (lv_at hl 4 rfl) ?_
      refine lv_icmp_eq (tgt := 63) hx hb dX1_takesPart_58 (by decide) (fun hc => ?_) (fun hc => ?_)
      · have hF := (if_pos hc).symm.trans hF
        refine lv_iload_n hx hb dX1_takesPart_63 rfl (lv_at hl 3 rfl) ?_
        refine lv_iconst (v := (5 : Int32)) hx hb dX1_takesPart_64 (by decide) ?_
        refine lv_icmp_eq (tgt := 82) hx hb dX1_takesPart_65 (by decide) (fun hc => ?_) (fun hc => ?_)
        · have hF := (if_pos hc).symm.trans hF
          exact hJ82_n _ _ _ hF hs (lv_sub hl [] rfl)
        · have hF := (if_neg hc).symm.trans hF
          refine lv_aload_n hx hb dX1_takesPart_68 rfl (lv_at hl 1 rfl) ?_
          refine fg_X1_12 hx hb hown hts hE hs 5 rfl (v := .ref (a 6)) rfl dX1_takesPart_69 ?_
          refine lv_iload hx hb dX1_takesPart_72 (lv_at hl 0 rfl) ?_
          refine lv_iconst (v := (0 : Int32)) hx hb dX1_takesPart_74 (by decide) ?_
          obtain ⟨q3, hq3, hF⟩ := bd hF
          refine sx_N (As := [.int v1, .int (0 : Int32)]) (rest := []) (st1 := [.int q3]) (c_X2_ofClaim G l (fun k => a (6 + k)) (r_told S) v1 (0 : Int32) q3 hq3) v_X1_94 ⟨(Nat.le_of_ble_eq_true rfl), (Nat.le_of_ble_eq_true rfl)⟩ hx hb hml hown hts hE hA hs ⟨Nat.le_refl 0, Nat.le_refl 0⟩ 0 rfl rfl rfl rfl rfl hl.1 (Nat.le_of_ble_eq_true rfl) dX1_takesPart_75 (pR_told G a S (r_told S)) (ws' := WR G a S) (pR_told G a S (r_told S)) (fun H locs hs => ?_)
          refine lv_iconst (v := (1 : Int32)) hx hb dX1_takesPart_78 (by decide) ?_
          refine lv_icmp_ne (tgt := 86) hx hb dX1_takesPart_79 (by decide) (fun hc => ?_) (fun hc => ?_)
          · have hF := (if_neg hc).symm.trans hF
            refine lv_iconst (v := (0 : Int32)) hx hb dX1_takesPart_86 (by decide) ?_
            exact sx_zret hx hb hr hlk hQ (Or.inl rfl) (Option.some.inj hF) rfl hs dX1_takesPart_87
          · have hF := (if_pos hc).symm.trans hF
            exact hJ82_n _ _ _ hF hs (lv_sub hl [] rfl)
      · have hF := (if_neg hc).symm.trans hF
        refine lv_iconst (v := (0 : Int32)) hx hb dX1_takesPart_61 (by decide) ?_
        exact sx_zret hx hb hr hlk hQ (Or.inl rfl) (Option.some.inj hF) rfl hs dX1_takesPart_62
  · have hF := (if_neg hc).symm.trans hF
    refine lv_iload_n hx hb dX1_takesPart_5 rfl (lv_at hl 1 rfl) ?_
    refine lv_aload_n hx hb dX1_takesPart_6 rfl (lv_at hl 0 rfl) ?_
    refine fg_X1_12 hx hb hown hts hE hs 5 rfl (v := .ref (a 6)) rfl dX1_takesPart_7 ?_
    refine fg_X1_61 hx hb hown hts hE hs 0 rfl (v := .int (t_ships (r_told S))) rfl dX1_takesPart_10 ?_
    refine lv_icmp_ge (tgt := 29) hx hb dX1_takesPart_13 (by decide) (fun hc => ?_) (fun hc => ?_)
    · have hF := (if_pos hc).symm.trans hF
      refine lv_iconst (v := (0 : Int32)) hx hb dX1_takesPart_29 (by decide) ?_
      exact sx_zret hx hb hr hlk hQ (Or.inl rfl) (Option.some.inj hF) rfl hs dX1_takesPart_30
    · have hF := (if_neg hc).symm.trans hF
      refine lv_iload_n hx hb dX1_takesPart_16 rfl (lv_at hl 2 rfl) ?_
      refine lv_iconst (v := (5 : Int32)) hx hb dX1_takesPart_17 (by decide) ?_
      refine lv_icmp_ne (tgt := 29) hx hb dX1_takesPart_18 (by decide) (fun hc => ?_) (fun hc => ?_)
      · have hF := (if_neg hc).symm.trans hF
        refine lv_iconst (v := (0 : Int32)) hx hb dX1_takesPart_29 (by decide) ?_
        exact sx_zret hx hb hr hlk hQ (Or.inl rfl) (Option.some.inj hF) rfl hs dX1_takesPart_30
      · have hF := (if_pos hc).symm.trans hF
        refine lv_iload_n hx hb dX1_takesPart_21 rfl (lv_at hl 3 rfl) ?_
        refine lv_if_ne (tgt := 29) hx hb dX1_takesPart_22 (by decide) (fun hc => ?_) (fun hc => ?_)
        · have hF := (if_neg hc).symm.trans hF
          refine lv_iconst (v := (0 : Int32)) hx hb dX1_takesPart_29 (by decide) ?_
          exact sx_zret hx hb hr hlk hQ (Or.inl rfl) (Option.some.inj hF) rfl hs dX1_takesPart_30
        · have hF := (if_pos hc).symm.trans hF
          refine lv_iconst (v := (1 : Int32)) hx hb dX1_takesPart_25 (by decide) ?_
          refine lv_goto (tgt := 30) hx hb dX1_takesPart_26 (by decide) ?_
          exact sx_zret hx hb hr hlk hQ (Or.inr rfl) (Option.some.inj hF) rfl hs dX1_takesPart_30
set_option maxHeartbeats 4000000 in
set_option maxRecDepth 100000 in
theorem c_X1_findLacks (G : GT) (l : Launch) (a : Nat → Nat) (S : RS) (x1 : Int32) (x2 : Int32) (x3 : Int32) (r : Int64 × RS) (hF : F_X1_findLacks S x1 x2 x3 = some r) : MT G l yX1_findLacks cX1_findLacks 7 (some .long) 3 68 [.ref (a 0), .int x1, .int x2, .int x3] (WR G a S) (some (.long r.1)) (WR G a r.2) := by
  refine MT.of (by decide) (Nat.le_of_ble_eq_true rfl) ?_
  intro p e s m args below meth c A ls hx hb hr hml hown hts hlk hE hA hs hl Q hQ
  have hl : lv_has ls 7 [(0, .ref (a 0)), (1, .int x1), (2, .int x2), (3, .int x3)] := hl
  have hJ76_6 : ∀ (x1 : Int32) (x2 : Int32) (x3 : Int32) (k : RS → Int64 → Option (Int64 × RS)) (rc : RS → Int64 → Int32 → Option (Int64 × RS)) (hk : ∀ (S : RS) (x4 : Int64) (H : Heap) (locs : List Loc) (ls : Array Slot), k S x4 = some r → SI G A s H locs (WR G a S) → lv_has ls 7 [(4, .long x4)] → W p l e (RM 3 68) s m args below meth c H locs 0 0 Q (F0 m 82 ls [])) (hrec : ∀ (S : RS) (x4 : Int64) (x6 : Int32) (H : Heap) (locs : List Loc) (ls : Array Slot), rc S x4 x6 = some r → SI G A s H locs (WR G a S) → lv_has ls 7 [(0, .ref (a 0)), (1, .int x1), (2, .int x2), (3, .int x3), (4, .long x4), (6, .int x6)] → W p l e (RM 3 68) s m args below meth c H locs 0 0 Q (F0 m 6 ls [])) (S : RS) (x4 : Int64) (x6 : Int32) (H : Heap) (locs : List Loc) (ls : Array Slot), J_X1_findLacks_76 k rc S x1 x2 x3 x4 x6 = some r → SI G A s H locs (WR G a S) → lv_has ls 7 [(0, .ref (a 0)), (1, .int x1), (2, .int x2), (3, .int x3), (4, .long x4), (6, .int x6)] → W p l e (RM 3 68) s m args below meth c H locs 0 0 Q (F0 m 76 ls []) := by
    intro x1 x2 x3 k rc hk hrec S x4 x6 H locs ls hF hs hl
    unfold J_X1_findLacks_76 at hF
    obtain ⟨v4, ev4, hF⟩ := nm_some hF
    refine lv_iinc (v := v4) (lv' := [(6, .int v4), (0, .ref (a 0)), (1, .int x1), (2, .int x2), (3, .int x3), (4, .long x4)]) hx hb dX1_findLacks_76 hl (k := 5) rfl (by rw [ev4]; rfl) (by decide) rfl (fun ls hl => ?_)
    refine lv_goto (tgt := 6) hx hb dX1_findLacks_79 (by decide) ?_
    exact hrec S x4 v4 _ _ _ hF hs (lv_sub hl [1, 2, 3, 4, 5, 0] rfl)
  have hL6 : ∀ (x1 : Int32) (x2 : Int32) (x3 : Int32) (k : RS → Int64 → Option (Int64 × RS)) (hk : ∀ (S : RS) (x4 : Int64) (H : Heap) (locs : List Loc) (ls : Array Slot), k S x4 = some r → SI G A s H locs (WR G a S) → lv_has ls 7 [(4, .long x4)] → W p l e (RM 3 68) s m args below meth c H locs 0 0 Q (F0 m 82 ls [])) (fu : Nat) (S : RS) (x4 : Int64) (x6 : Int32) (H : Heap) (locs : List Loc) (ls : Array Slot), lo3 (B_X1_findLacks_6 x1 x2 x3 k) fu S x4 x6 = some r → SI G A s H locs (WR G a S) → lv_has ls 7 [(0, .ref (a 0)), (1, .int x1), (2, .int x2), (3, .int x3), (4, .long x4), (6, .int x6)] → W p l e (RM 3 68) s m args below meth c H locs 0 0 Q (F0 m 6 ls []) := by
    intro x1 x2 x3 k hk fu
    induction fu with
    | zero =>
      intro S x4 x6 H locs ls hF hs hl
      exact nomatch (show (none : Option (Int64 × RS)) = some r from hF)
    | succ fu hrec =>
      intro S x4 x6 H locs ls hF hs hl
      have hF : (B_X1_findLacks_6 x1 x2 x3 k) (lo3 (B_X1_findLacks_6 x1 x2 x3 k) fu) S x4 x6 = some r := hF
      unfold B_X1_findLacks_6 at hF
      refine lv_iload hx hb dX1_findLacks_6 (lv_at hl 5 rfl) ?_
      refine lv_bipush (v := (16 : Int32)) hx hb dX1_findLacks_8 (by decide) ?_
      refine lv_icmp_ge (tgt := 82) hx hb dX1_findLacks_10 (by decide) (fun hc => ?_) (fun hc => ?_)
      · have hF := (if_pos hc).symm.trans hF
        exact hk S x4 _ _ _ hF hs (lv_sub hl [4] rfl)
      · have hF := (if_neg hc).symm.trans hF
        refine lv_aload_n hx hb dX1_findLacks_13 rfl (lv_at hl 0 rfl) ?_
        refine fg_X1_32 hx hb hown hts hE hs 5 rfl (v := .ref (a 5)) rfl dX1_findLacks_14 ?_
        refine lv_iload hx hb dX1_findLacks_17 (lv_at hl 5 rfl) ?_
        refine lv_lconst (v := (0 : Int64)) hx hb dX1_findLacks_19 (by decide) ?_
        obtain ⟨f1, hf1, hF⟩ := bd hF
        obtain ⟨S2, eS2, hF⟩ := nm_some hF
        refine sx_last hx hb hE hs 10 (f := r_lacked S) rfl hf1 (ws' := WR G a S2) (by subst eS2; rfl) dX1_findLacks_20 (fun H locs hs => ?_)
        refine lv_aload_n hx hb dX1_findLacks_21 rfl (lv_at hl 0 rfl) ?_
        refine lv_iload hx hb dX1_findLacks_22 (lv_at hl 5 rfl) ?_
        refine lv_iload_n hx hb dX1_findLacks_24 rfl (lv_at hl 2 rfl) ?_
        refine lv_iload_n hx hb dX1_findLacks_25 rfl (lv_at hl 3 rfl) ?_
        obtain ⟨q3, hq3, hF⟩ := bd hF
        refine sx_V (As := [.int x6, .int x2, .int x3]) (rest := []) (st1 := [.int q3]) (c_X1_takesPart G l a S2 x6 x2 x3 q3 hq3) v_X1_148 ⟨(Nat.le_of_ble_eq_true rfl), (Nat.le_of_ble_eq_true rfl)⟩ hx hb hml hown hts hE hA hs ⟨Nat.le_refl 0, Nat.le_refl 0⟩ 5 rfl rfl rfl rfl rfl hl.1 (Nat.le_of_ble_eq_true rfl) dX1_findLacks_26 (pmW _) (ws' := WR G a S2) (pmW _) (fun H locs hs => ?_)
        refine lv_if_eq (tgt := 76) hx hb dX1_findLacks_29 (by decide) (fun hc => ?_) (fun hc => ?_)
        · have hF := (if_pos hc).symm.trans hF
          exact hJ76_6 x1 x2 x3 _ _ hk hrec S2 x4 x6 _ _ _ hF hs (lv_sub hl [0, 1, 2, 3, 4, 5] rfl)
        · have hF := (if_neg hc).symm.trans hF
          refine lv_aload_n hx hb dX1_findLacks_32 rfl (lv_at hl 0 rfl) ?_
          refine fg_X1_32 hx hb hown hts hE hs 5 rfl (v := .ref (a 5)) rfl dX1_findLacks_33 ?_
          refine lv_iload hx hb dX1_findLacks_36 (lv_at hl 5 rfl) ?_
          refine lv_aload_n hx hb dX1_findLacks_38 rfl (lv_at hl 0 rfl) ?_
          refine fg_X1_26 hx hb hown hts hE hs 5 rfl (v := .ref (a 3)) rfl dX1_findLacks_39 ?_
          refine lv_iload_n hx hb dX1_findLacks_42 rfl (lv_at hl 1 rfl) ?_
          refine lv_bipush (v := (16 : Int32)) hx hb dX1_findLacks_43 (by decide) ?_
          refine lv_imul hx hb dX1_findLacks_45 ?_
          refine lv_iload hx hb dX1_findLacks_46 (lv_at hl 5 rfl) ?_
          refine lv_iadd hx hb dX1_findLacks_48 ?_
          obtain ⟨v5, hv5, hF⟩ := bd hF
          refine sx_lald hx hb hE hs 8 (f := r_owed S2) rfl hv5 dX1_findLacks_49 ?_
          refine lv_aload_n hx hb dX1_findLacks_50 rfl (lv_at hl 0 rfl) ?_
          refine fg_X1_29 hx hb hown hts hE hs 5 rfl (v := .ref (a 4)) rfl dX1_findLacks_51 ?_
          refine lv_iload_n hx hb dX1_findLacks_54 rfl (lv_at hl 1 rfl) ?_
          refine lv_bipush (v := (16 : Int32)) hx hb dX1_findLacks_55 (by decide) ?_
          refine lv_imul hx hb dX1_findLacks_57 ?_
          refine lv_iload hx hb dX1_findLacks_58 (lv_at hl 5 rfl) ?_
          refine lv_iadd hx hb dX1_findLacks_60 ?_
          obtain ⟨v6, hv6, hF⟩ := bd hF
          refine sx_lald hx hb hE hs 9 (f := r_paid S2) rfl hv6 dX1_findLacks_61 ?_
          refine lv_lsub hx hb dX1_findLacks_62 ?_
          obtain ⟨f7, hf7, hF⟩ := bd hF
          obtain ⟨S8, eS8, hF⟩ := nm_some hF
          refine sx_last hx hb hE hs 10 (f := r_lacked S2) rfl hf7 (ws' := WR G a S8) (by subst eS8; rfl) dX1_findLacks_63 (fun H locs hs => ?_)
          refine lv_lload hx hb dX1_findLacks_64 (lv_at hl 4 rfl) ?_
          refine lv_aload_n hx hb dX1_findLacks_66 rfl (lv_at hl 0 rfl) ?_
          refine fg_X1_32 hx hb hown hts hE hs 5 rfl (v := .ref (a 5)) rfl dX1_findLacks_67 ?_
          refine lv_iload hx hb dX1_findLacks_70 (lv_at hl 5 rfl) ?_
          obtain ⟨v9, hv9, hF⟩ := bd hF
          refine sx_lald hx hb hE hs 10 (f := r_lacked S8) rfl hv9 dX1_findLacks_72 ?_
          refine lv_ladd hx hb dX1_findLacks_73 ?_
          obtain ⟨v10, ev10, hF⟩ := nm_some hF
          refine sx_topl ev10 ?_
          refine lv_lstore (lv' := [(4, .long v10), (0, .ref (a 0)), (1, .int x1), (2, .int x2), (3, .int x3), (6, .int x6)]) hx hb dX1_findLacks_74 hl (by decide) rfl (fun ls hl => ?_)
          exact hJ76_6 x1 x2 x3 _ _ hk hrec S8 v10 x6 _ _ _ hF hs (lv_sub hl [1, 2, 3, 4, 0, 5] rfl)
  unfold F_X1_findLacks at hF
  refine lv_lconst (v := (0 : Int64)) hx hb dX1_findLacks_0 (by decide) ?_
  refine lv_lstore (lv' := [(4, .long (0 : Int64)), (0, .ref (a 0)), (1, .int x1), (2, .int x2), (3, .int x3)]) hx hb dX1_findLacks_1 hl (by decide) rfl (fun ls hl => ?_)
  refine lv_iconst (v := (0 : Int32)) hx hb dX1_findLacks_3 (by decide) ?_
  refine lv_istore (lv' := [(6, .int (0 : Int32)), (4, .long (0 : Int64)), (0, .ref (a 0)), (1, .int x1), (2, .int x2), (3, .int x3)]) hx hb dX1_findLacks_4 hl (by decide) rfl (fun ls hl => ?_)
  refine hL6 x1 x2 x3 _ (fun S11 z12 H locs ls hF hs hl => ?_) FU S (0 : Int64) (0 : Int32) _ _ _ hF hs (lv_sub hl [2, 3, 4, 5, 1, 0] rfl)
  refine lv_lload hx hb dX1_findLacks_82 (lv_at hl 0 rfl) ?_
  exact sx_lret hx hb hr hlk hQ (congrArg Prod.fst (Option.some.inj hF)) (congrArg (fun z => WR G a z) (congrArg Prod.snd (Option.some.inj hF))) hs dX1_findLacks_84
set_option maxHeartbeats 4000000 in
set_option maxRecDepth 100000 in
theorem c_X1_shareScarce (G : GT) (l : Launch) (a : Nat → Nat) (S : RS) (x1 : Int32) (x2 : Int64) (x4 : Int64) (r : RS) (hF : F_X1_shareScarce S x1 x2 x4 = some r) : MT G l yX1_shareScarce cX1_shareScarce 11 (none) 1 23 [.ref (a 0), .int x1, .long x2, .long x4] (WR G a S) none (WR G a r) := by
  refine MT.of (by decide) (Nat.le_of_ble_eq_true rfl) ?_
  intro p e s m args below meth c A ls hx hb hr hml hown hts hlk hE hA hs hl Q hQ
  have hl : lv_has ls 11 [(0, .ref (a 0)), (1, .int x1), (2, .long x2), (4, .long x4)] := hl
  have hL6 : ∀ (x1 : Int32) (x2 : Int64) (x4 : Int64) (k : RS → Int64 → Option (RS)) (hk : ∀ (S : RS) (x6 : Int64) (H : Heap) (locs : List Loc) (ls : Array Slot), k S x6 = some r → SI G A s H locs (WR G a S) → lv_has ls 11 [(0, .ref (a 0)), (1, .int x1), (6, .long x6)] → W p l e (RM 1 23) s m args below meth c H locs 0 0 Q (F0 m 71 ls [])) (fu : Nat) (S : RS) (x6 : Int64) (x8 : Int32) (H : Heap) (locs : List Loc) (ls : Array Slot), lo3 (B_X1_shareScarce_6 x1 x2 x4 k) fu S x6 x8 = some r → SI G A s H locs (WR G a S) → lv_has ls 11 [(0, .ref (a 0)), (1, .int x1), (2, .long x2), (4, .long x4), (6, .long x6), (8, .int x8)] → W p l e (RM 1 23) s m args below meth c H locs 0 0 Q (F0 m 6 ls []) := by
    intro x1 x2 x4 k hk fu
    induction fu with
    | zero =>
      intro S x6 x8 H locs ls hF hs hl
      exact nomatch (show (none : Option (RS)) = some r from hF)
    | succ fu hrec =>
      intro S x6 x8 H locs ls hF hs hl
      have hF : (B_X1_shareScarce_6 x1 x2 x4 k) (lo3 (B_X1_shareScarce_6 x1 x2 x4 k) fu) S x6 x8 = some r := hF
      unfold B_X1_shareScarce_6 at hF
      refine lv_iload hx hb dX1_shareScarce_6 (lv_at hl 5 rfl) ?_
      refine lv_bipush (v := (16 : Int32)) hx hb dX1_shareScarce_8 (by decide) ?_
      refine lv_icmp_ge (tgt := 71) hx hb dX1_shareScarce_10 (by decide) (fun hc => ?_) (fun hc => ?_)
      · have hF := (if_pos hc).symm.trans hF
        exact hk S x6 _ _ _ hF hs (lv_sub hl [0, 1, 4] rfl)
      · have hF := (if_neg hc).symm.trans hF
        refine lv_aload_n hx hb dX1_shareScarce_13 rfl (lv_at hl 0 rfl) ?_
        refine fg_X1_32 hx hb hown hts hE hs 5 rfl (v := .ref (a 5)) rfl dX1_shareScarce_14 ?_
        refine lv_iload hx hb dX1_shareScarce_17 (lv_at hl 5 rfl) ?_
        obtain ⟨v1, hv1, hF⟩ := bd hF
        refine sx_lald hx hb hE hs 10 (f := r_lacked S) rfl hv1 dX1_shareScarce_19 ?_
        refine lv_lload_n hx hb dX1_shareScarce_20 rfl (lv_at hl 2 rfl) ?_
        refine lv_lmul hx hb dX1_shareScarce_21 ?_
        refine lv_lload hx hb dX1_shareScarce_22 (lv_at hl 3 rfl) ?_
        obtain ⟨q2, hq2, hF⟩ := bd hF
        refine sx_S (As := [.long (v1 * x2), .long x4]) (rest := []) (st1 := [.long q2]) (c_X1_cut G l  (v1 * x2) x4 q2 hq2) v_X1_80 ⟨(Nat.le_of_ble_eq_true rfl), (Nat.le_of_ble_eq_true rfl)⟩ hx hb hml hown hts hE hA hs ⟨Nat.le_refl 0, Nat.le_refl 0⟩ rfl rfl rfl hl.1 (Nat.le_of_ble_eq_true rfl) dX1_shareScarce_24 (List.Perm.refl _) (ws' := WR G a S) (List.Perm.refl _) (fun H locs hs => ?_)
        refine lv_lstore (lv' := [(9, .long q2), (0, .ref (a 0)), (1, .int x1), (2, .long x2), (4, .long x4), (6, .long x6), (8, .int x8)]) hx hb dX1_shareScarce_27 hl (by decide) rfl (fun ls hl => ?_)
        refine lv_aload_n hx hb dX1_shareScarce_29 rfl (lv_at hl 1 rfl) ?_
        refine fg_X1_29 hx hb hown hts hE hs 5 rfl (v := .ref (a 4)) rfl dX1_shareScarce_30 ?_
        refine lv_iload_n hx hb dX1_shareScarce_33 rfl (lv_at hl 2 rfl) ?_
        refine lv_bipush (v := (16 : Int32)) hx hb dX1_shareScarce_34 (by decide) ?_
        refine lv_imul hx hb dX1_shareScarce_36 ?_
        refine lv_iload hx hb dX1_shareScarce_37 (lv_at hl 6 rfl) ?_
        refine lv_iadd hx hb dX1_shareScarce_39 ?_
        obtain ⟨v3, ev3, hF⟩ := nm_some hF
        refine sx_topi ev3 ?_
        refine lv_dup2_11 hx hb dX1_shareScarce_40 rfl rfl ?_
        obtain ⟨v4, hv4, hF⟩ := bd hF
        refine sx_lald hx hb hE hs 9 (f := r_paid S) rfl hv4 dX1_shareScarce_41 ?_
        refine lv_lload hx hb dX1_shareScarce_42 (lv_at hl 0 rfl) ?_
        refine lv_ladd hx hb dX1_shareScarce_44 ?_
        obtain ⟨f5, hf5, hF⟩ := bd hF
        obtain ⟨S6, eS6, hF⟩ := nm_some hF
        refine sx_last hx hb hE hs 9 (f := r_paid S) rfl hf5 (ws' := WR G a S6) (by subst eS6; rfl) dX1_shareScarce_45 (fun H locs hs => ?_)
        refine lv_aload_n hx hb dX1_shareScarce_46 rfl (lv_at hl 1 rfl) ?_
        refine fg_X1_32 hx hb hown hts hE hs 5 rfl (v := .ref (a 5)) rfl dX1_shareScarce_47 ?_
        refine lv_iload hx hb dX1_shareScarce_50 (lv_at hl 6 rfl) ?_
        refine lv_dup2_11 hx hb dX1_shareScarce_52 rfl rfl ?_
        obtain ⟨v7, hv7, hF⟩ := bd hF
        refine sx_lald hx hb hE hs 10 (f := r_lacked S6) rfl hv7 dX1_shareScarce_53 ?_
        refine lv_lload hx hb dX1_shareScarce_54 (lv_at hl 0 rfl) ?_
        refine lv_lsub hx hb dX1_shareScarce_56 ?_
        obtain ⟨f8, hf8, hF⟩ := bd hF
        obtain ⟨S9, eS9, hF⟩ := nm_some hF
        refine sx_last hx hb hE hs 10 (f := r_lacked S6) rfl hf8 (ws' := WR G a S9) (by subst eS9; rfl) dX1_shareScarce_57 (fun H locs hs => ?_)
        refine lv_lload hx hb dX1_shareScarce_58 (lv_at hl 5 rfl) ?_
        refine lv_lload hx hb dX1_shareScarce_60 (lv_at hl 0 rfl) ?_
        refine lv_lsub hx hb dX1_shareScarce_62 ?_
        obtain ⟨v10, ev10, hF⟩ := nm_some hF
        refine sx_topl ev10 ?_
        refine lv_lstore (lv' := [(6, .long v10), (9, .long q2), (0, .ref (a 0)), (1, .int x1), (2, .long x2), (4, .long x4), (8, .int x8)]) hx hb dX1_shareScarce_63 hl (by decide) rfl (fun ls hl => ?_)
        obtain ⟨v11, ev11, hF⟩ := nm_some hF
        refine lv_iinc (v := v11) (lv' := [(8, .int v11), (6, .long v10), (9, .long q2), (0, .ref (a 0)), (1, .int x1), (2, .long x2), (4, .long x4)]) hx hb dX1_shareScarce_65 hl (k := 6) rfl (by rw [ev11]; rfl) (by decide) rfl (fun ls hl => ?_)
        refine lv_goto (tgt := 6) hx hb dX1_shareScarce_68 (by decide) ?_
        exact hrec S9 v10 v11 _ _ _ hF hs (lv_sub hl [3, 4, 5, 6, 1, 0] rfl)
  have hJ122_74 : ∀ (x1 : Int32) (k : RS → Option (RS)) (rc : RS → Int64 → Int32 → Option (RS)) (hk : ∀ (S : RS) (H : Heap) (locs : List Loc) (ls : Array Slot), k S = some r → SI G A s H locs (WR G a S) → lv_has ls 11 [] → W p l e (RM 1 23) s m args below meth c H locs 0 0 Q (F0 m 128 ls [])) (hrec : ∀ (S : RS) (x6 : Int64) (x8 : Int32) (H : Heap) (locs : List Loc) (ls : Array Slot), rc S x6 x8 = some r → SI G A s H locs (WR G a S) → lv_has ls 11 [(0, .ref (a 0)), (1, .int x1), (6, .long x6), (8, .int x8)] → W p l e (RM 1 23) s m args below meth c H locs 0 0 Q (F0 m 74 ls [])) (S : RS) (x6 : Int64) (x8 : Int32) (H : Heap) (locs : List Loc) (ls : Array Slot), J_X1_shareScarce_122 k rc S x1 x6 x8 = some r → SI G A s H locs (WR G a S) → lv_has ls 11 [(0, .ref (a 0)), (1, .int x1), (6, .long x6), (8, .int x8)] → W p l e (RM 1 23) s m args below meth c H locs 0 0 Q (F0 m 122 ls []) := by
    intro x1 k rc hk hrec S x6 x8 H locs ls hF hs hl
    unfold J_X1_shareScarce_122 at hF
    obtain ⟨v15, ev15, hF⟩ := nm_some hF
    refine lv_iinc (v := v15) (lv' := [(8, .int v15), (0, .ref (a 0)), (1, .int x1), (6, .long x6)]) hx hb dX1_shareScarce_122 hl (k := 3) rfl (by rw [ev15]; rfl) (by decide) rfl (fun ls hl => ?_)
    refine lv_goto (tgt := 74) hx hb dX1_shareScarce_125 (by decide) ?_
    exact hrec S x6 v15 _ _ _ hF hs (lv_sub hl [1, 2, 3, 0] rfl)
  have hL74 : ∀ (x1 : Int32) (k : RS → Option (RS)) (hk : ∀ (S : RS) (H : Heap) (locs : List Loc) (ls : Array Slot), k S = some r → SI G A s H locs (WR G a S) → lv_has ls 11 [] → W p l e (RM 1 23) s m args below meth c H locs 0 0 Q (F0 m 128 ls [])) (fu : Nat) (S : RS) (x6 : Int64) (x8 : Int32) (H : Heap) (locs : List Loc) (ls : Array Slot), lo3 (B_X1_shareScarce_74 x1 k) fu S x6 x8 = some r → SI G A s H locs (WR G a S) → lv_has ls 11 [(0, .ref (a 0)), (1, .int x1), (6, .long x6), (8, .int x8)] → W p l e (RM 1 23) s m args below meth c H locs 0 0 Q (F0 m 74 ls []) := by
    intro x1 k hk fu
    induction fu with
    | zero =>
      intro S x6 x8 H locs ls hF hs hl
      exact nomatch (show (none : Option (RS)) = some r from hF)
    | succ fu hrec =>
      intro S x6 x8 H locs ls hF hs hl
      have hF : (B_X1_shareScarce_74 x1 k) (lo3 (B_X1_shareScarce_74 x1 k) fu) S x6 x8 = some r := hF
      unfold B_X1_shareScarce_74 at hF
      refine lv_iload hx hb dX1_shareScarce_74 (lv_at hl 3 rfl) ?_
      refine lv_bipush (v := (16 : Int32)) hx hb dX1_shareScarce_76 (by decide) ?_
      refine lv_icmp_ge (tgt := 128) hx hb dX1_shareScarce_78 (by decide) (fun hc => ?_) (fun hc => ?_)
      · have hF := (if_pos hc).symm.trans hF
        exact hk S _ _ _ hF hs (lv_sub hl [] rfl)
      · have hF := (if_neg hc).symm.trans hF
        refine lv_lload hx hb dX1_shareScarce_81 (lv_at hl 2 rfl) ?_
        refine lv_lconst (v := (0 : Int64)) hx hb dX1_shareScarce_83 (by decide) ?_
        refine W.lcmp hx hb dX1_shareScarce_84 ?_
        refine lv_if_le (tgt := 128) hx hb dX1_shareScarce_85 (by decide) (fun hc => ?_) (fun hc => ?_)
        · have hF := (if_pos hc).symm.trans hF
          exact hk S _ _ _ hF hs (lv_sub hl [] rfl)
        · have hF := (if_neg hc).symm.trans hF
          refine lv_aload_n hx hb dX1_shareScarce_88 rfl (lv_at hl 0 rfl) ?_
          refine fg_X1_32 hx hb hown hts hE hs 5 rfl (v := .ref (a 5)) rfl dX1_shareScarce_89 ?_
          refine lv_iload hx hb dX1_shareScarce_92 (lv_at hl 3 rfl) ?_
          obtain ⟨v14, hv14, hF⟩ := bd hF
          refine sx_lald hx hb hE hs 10 (f := r_lacked S) rfl hv14 dX1_shareScarce_94 ?_
          refine lv_lconst (v := (0 : Int64)) hx hb dX1_shareScarce_95 (by decide) ?_
          refine W.lcmp hx hb dX1_shareScarce_96 ?_
          refine lv_if_le (tgt := 122) hx hb dX1_shareScarce_97 (by decide) (fun hc => ?_) (fun hc => ?_)
          · have hF := (if_pos hc).symm.trans hF
            exact hJ122_74 x1 _ _ hk hrec S x6 x8 _ _ _ hF hs (lv_sub hl [0, 1, 2, 3] rfl)
          · have hF := (if_neg hc).symm.trans hF
            refine lv_aload_n hx hb dX1_shareScarce_100 rfl (lv_at hl 0 rfl) ?_
            refine fg_X1_29 hx hb hown hts hE hs 5 rfl (v := .ref (a 4)) rfl dX1_shareScarce_101 ?_
            refine lv_iload_n hx hb dX1_shareScarce_104 rfl (lv_at hl 1 rfl) ?_
            refine lv_bipush (v := (16 : Int32)) hx hb dX1_shareScarce_105 (by decide) ?_
            refine lv_imul hx hb dX1_shareScarce_107 ?_
            refine lv_iload hx hb dX1_shareScarce_108 (lv_at hl 3 rfl) ?_
            refine lv_iadd hx hb dX1_shareScarce_110 ?_
            obtain ⟨v16, ev16, hF⟩ := nm_some hF
            refine sx_topi ev16 ?_
            refine lv_dup2_11 hx hb dX1_shareScarce_111 rfl rfl ?_
            obtain ⟨v17, hv17, hF⟩ := bd hF
            refine sx_lald hx hb hE hs 9 (f := r_paid S) rfl hv17 dX1_shareScarce_112 ?_
            refine lv_lconst (v := (1 : Int64)) hx hb dX1_shareScarce_113 (by decide) ?_
            refine lv_ladd hx hb dX1_shareScarce_114 ?_
            obtain ⟨f18, hf18, hF⟩ := bd hF
            obtain ⟨S19, eS19, hF⟩ := nm_some hF
            refine sx_last hx hb hE hs 9 (f := r_paid S) rfl hf18 (ws' := WR G a S19) (by subst eS19; rfl) dX1_shareScarce_115 (fun H locs hs => ?_)
            refine lv_lload hx hb dX1_shareScarce_116 (lv_at hl 2 rfl) ?_
            refine lv_lconst (v := (1 : Int64)) hx hb dX1_shareScarce_118 (by decide) ?_
            refine lv_lsub hx hb dX1_shareScarce_119 ?_
            obtain ⟨v20, ev20, hF⟩ := nm_some hF
            refine sx_topl ev20 ?_
            refine lv_lstore (lv' := [(6, .long v20), (0, .ref (a 0)), (1, .int x1), (8, .int x8)]) hx hb dX1_shareScarce_120 hl (by decide) rfl (fun ls hl => ?_)
            exact hJ122_74 x1 _ _ hk hrec S19 v20 x8 _ _ _ hF hs (lv_sub hl [1, 2, 0, 3] rfl)
  unfold F_X1_shareScarce at hF
  refine lv_lload_n hx hb dX1_shareScarce_0 rfl (lv_at hl 2 rfl) ?_
  refine lv_lstore (lv' := [(6, .long x2), (0, .ref (a 0)), (1, .int x1), (2, .long x2), (4, .long x4)]) hx hb dX1_shareScarce_1 hl (by decide) rfl (fun ls hl => ?_)
  refine lv_iconst (v := (0 : Int32)) hx hb dX1_shareScarce_3 (by decide) ?_
  refine lv_istore (lv' := [(8, .int (0 : Int32)), (6, .long x2), (0, .ref (a 0)), (1, .int x1), (2, .long x2), (4, .long x4)]) hx hb dX1_shareScarce_4 hl (by decide) rfl (fun ls hl => ?_)
  refine hL6 x1 x2 x4 _ (fun S12 z13 H locs ls hF hs hl => ?_) FU S x2 (0 : Int32) _ _ _ hF hs (lv_sub hl [2, 3, 4, 5, 1, 0] rfl)
  refine lv_iconst (v := (0 : Int32)) hx hb dX1_shareScarce_71 (by decide) ?_
  refine lv_istore (lv' := [(8, .int (0 : Int32)), (0, .ref (a 0)), (1, .int x1), (6, .long z13)]) hx hb dX1_shareScarce_72 hl (by decide) rfl (fun ls hl => ?_)
  refine hL74 x1 _ (fun S21 H locs ls hF hs hl => ?_) FU S12 z13 (0 : Int32) _ _ _ hF hs (lv_sub hl [1, 2, 3, 0] rfl)
  exact sx_vret hx hb hr hlk hQ (congrArg (fun z => WR G a z) (Option.some.inj hF)) hs dX1_shareScarce_128
set_option maxHeartbeats 4000000 in
set_option maxRecDepth 100000 in
theorem c_X1_payLacks (G : GT) (l : Launch) (a : Nat → Nat) (S : RS) (x1 : Int32) (r : RS) (hF : F_X1_payLacks S x1 = some r) : MT G l yX1_payLacks cX1_payLacks 3 (none) 0 0 [.ref (a 0), .int x1] (WR G a S) none (WR G a r) := by
  refine MT.of (by decide) (Nat.le_of_ble_eq_true rfl) ?_
  intro p e s m args below meth c A ls hx hb hr hml hown hts hlk hE hA hs hl Q hQ
  have hl : lv_has ls 3 [(0, .ref (a 0)), (1, .int x1)] := hl
  have hL2 : ∀ (x1 : Int32) (k : RS → Option (RS)) (hk : ∀ (S : RS) (H : Heap) (locs : List Loc) (ls : Array Slot), k S = some r → SI G A s H locs (WR G a S) → lv_has ls 3 [] → W p l e (RM 0 0) s m args below meth c H locs 0 0 Q (F0 m 34 ls [])) (fu : Nat) (S : RS) (x2 : Int32) (H : Heap) (locs : List Loc) (ls : Array Slot), lo2 (B_X1_payLacks_2 x1 k) fu S x2 = some r → SI G A s H locs (WR G a S) → lv_has ls 3 [(0, .ref (a 0)), (1, .int x1), (2, .int x2)] → W p l e (RM 0 0) s m args below meth c H locs 0 0 Q (F0 m 2 ls []) := by
    intro x1 k hk fu
    induction fu with
    | zero =>
      intro S x2 H locs ls hF hs hl
      exact nomatch (show (none : Option (RS)) = some r from hF)
    | succ fu hrec =>
      intro S x2 H locs ls hF hs hl
      have hF : (B_X1_payLacks_2 x1 k) (lo2 (B_X1_payLacks_2 x1 k) fu) S x2 = some r := hF
      unfold B_X1_payLacks_2 at hF
      refine lv_iload_n hx hb dX1_payLacks_2 rfl (lv_at hl 2 rfl) ?_
      refine lv_bipush (v := (16 : Int32)) hx hb dX1_payLacks_3 (by decide) ?_
      refine lv_icmp_ge (tgt := 34) hx hb dX1_payLacks_5 (by decide) (fun hc => ?_) (fun hc => ?_)
      · have hF := (if_pos hc).symm.trans hF
        exact hk S _ _ _ hF hs (lv_sub hl [] rfl)
      · have hF := (if_neg hc).symm.trans hF
        refine lv_aload_n hx hb dX1_payLacks_8 rfl (lv_at hl 0 rfl) ?_
        refine fg_X1_29 hx hb hown hts hE hs 5 rfl (v := .ref (a 4)) rfl dX1_payLacks_9 ?_
        refine lv_iload_n hx hb dX1_payLacks_12 rfl (lv_at hl 1 rfl) ?_
        refine lv_bipush (v := (16 : Int32)) hx hb dX1_payLacks_13 (by decide) ?_
        refine lv_imul hx hb dX1_payLacks_15 ?_
        refine lv_iload_n hx hb dX1_payLacks_16 rfl (lv_at hl 2 rfl) ?_
        refine lv_iadd hx hb dX1_payLacks_17 ?_
        obtain ⟨v1, ev1, hF⟩ := nm_some hF
        refine sx_topi ev1 ?_
        refine lv_dup2_11 hx hb dX1_payLacks_18 rfl rfl ?_
        obtain ⟨v2, hv2, hF⟩ := bd hF
        refine sx_lald hx hb hE hs 9 (f := r_paid S) rfl hv2 dX1_payLacks_19 ?_
        refine lv_aload_n hx hb dX1_payLacks_20 rfl (lv_at hl 0 rfl) ?_
        refine fg_X1_32 hx hb hown hts hE hs 5 rfl (v := .ref (a 5)) rfl dX1_payLacks_21 ?_
        refine lv_iload_n hx hb dX1_payLacks_24 rfl (lv_at hl 2 rfl) ?_
        obtain ⟨v3, hv3, hF⟩ := bd hF
        refine sx_lald hx hb hE hs 10 (f := r_lacked S) rfl hv3 dX1_payLacks_25 ?_
        refine lv_ladd hx hb dX1_payLacks_26 ?_
        obtain ⟨f4, hf4, hF⟩ := bd hF
        obtain ⟨S5, eS5, hF⟩ := nm_some hF
        refine sx_last hx hb hE hs 9 (f := r_paid S) rfl hf4 (ws' := WR G a S5) (by subst eS5; rfl) dX1_payLacks_27 (fun H locs hs => ?_)
        obtain ⟨v6, ev6, hF⟩ := nm_some hF
        refine lv_iinc (v := v6) (lv' := [(2, .int v6), (0, .ref (a 0)), (1, .int x1)]) hx hb dX1_payLacks_28 hl (k := 2) rfl (by rw [ev6]; rfl) (by decide) rfl (fun ls hl => ?_)
        refine lv_goto (tgt := 2) hx hb dX1_payLacks_31 (by decide) ?_
        exact hrec S5 v6 _ _ _ hF hs (lv_sub hl [1, 2, 0] rfl)
  unfold F_X1_payLacks at hF
  refine lv_iconst (v := (0 : Int32)) hx hb dX1_payLacks_0 (by decide) ?_
  refine lv_istore_n (lv' := [(2, .int (0 : Int32)), (0, .ref (a 0)), (1, .int x1)]) hx hb dX1_payLacks_1 rfl hl (by decide) rfl (fun ls hl => ?_)
  refine hL2 x1 _ (fun S7 H locs ls hF hs hl => ?_) FU S (0 : Int32) _ _ _ hF hs (lv_sub hl [1, 2, 0] rfl)
  exact sx_vret hx hb hr hlk hQ (congrArg (fun z => WR G a z) (Option.some.inj hF)) hs dX1_payLacks_34
set_option maxHeartbeats 4000000 in
set_option maxRecDepth 100000 in
theorem c_X1_payOutOf (G : GT) (l : Launch) (a : Nat → Nat) (S : RS) (x1 : Int32) (x2 : Int32) (r : RS) (hF : F_X1_payOutOf S x1 x2 = some r) : MT G l yX1_payOutOf cX1_payOutOf 8 (none) 4 94 [.ref (a 0), .int x1, .int x2] (WR G a S) none (WR G a r) := by
  refine MT.of (by decide) (Nat.le_of_ble_eq_true rfl) ?_
  intro p e s m args below meth c A ls hx hb hr hml hown hts hlk hE hA hs hl Q hQ
  have hl : lv_has ls 8 [(0, .ref (a 0)), (1, .int x1), (2, .int x2)] := hl
  have hJ59_13 : ∀ (x1 : Int32) (x2 : Int32) (k : RS → Option (RS)) (rc : RS → Int64 → Int32 → Option (RS)) (hk : ∀ (S : RS) (H : Heap) (locs : List Loc) (ls : Array Slot), k S = some r → SI G A s H locs (WR G a S) → lv_has ls 8 [] → W p l e (RM 4 94) s m args below meth c H locs 0 0 Q (F0 m 65 ls [])) (hrec : ∀ (S : RS) (x3 : Int64) (x5 : Int32) (H : Heap) (locs : List Loc) (ls : Array Slot), rc S x3 x5 = some r → SI G A s H locs (WR G a S) → lv_has ls 8 [(0, .ref (a 0)), (1, .int x1), (2, .int x2), (3, .long x3), (5, .int x5)] → W p l e (RM 4 94) s m args below meth c H locs 0 0 Q (F0 m 13 ls [])) (S : RS) (x3 : Int64) (x5 : Int32) (H : Heap) (locs : List Loc) (ls : Array Slot), J_X1_payOutOf_59 k rc S x1 x2 x3 x5 = some r → SI G A s H locs (WR G a S) → lv_has ls 8 [(0, .ref (a 0)), (1, .int x1), (2, .int x2), (3, .long x3), (5, .int x5)] → W p l e (RM 4 94) s m args below meth c H locs 0 0 Q (F0 m 59 ls []) := by
    intro x1 x2 k rc hk hrec S x3 x5 H locs ls hF hs hl
    unfold J_X1_payOutOf_59 at hF
    obtain ⟨v5, ev5, hF⟩ := nm_some hF
    refine lv_iinc (v := v5) (lv' := [(5, .int v5), (0, .ref (a 0)), (1, .int x1), (2, .int x2), (3, .long x3)]) hx hb dX1_payOutOf_59 hl (k := 4) rfl (by rw [ev5]; rfl) (by decide) rfl (fun ls hl => ?_)
    refine lv_goto (tgt := 13) hx hb dX1_payOutOf_62 (by decide) ?_
    exact hrec S x3 v5 _ _ _ hF hs (lv_sub hl [1, 2, 3, 4, 0] rfl)
  have hL13 : ∀ (x1 : Int32) (x2 : Int32) (k : RS → Option (RS)) (hk : ∀ (S : RS) (H : Heap) (locs : List Loc) (ls : Array Slot), k S = some r → SI G A s H locs (WR G a S) → lv_has ls 8 [] → W p l e (RM 4 94) s m args below meth c H locs 0 0 Q (F0 m 65 ls [])) (fu : Nat) (S : RS) (x3 : Int64) (x5 : Int32) (H : Heap) (locs : List Loc) (ls : Array Slot), lo3 (B_X1_payOutOf_13 x1 x2 k) fu S x3 x5 = some r → SI G A s H locs (WR G a S) → lv_has ls 8 [(0, .ref (a 0)), (1, .int x1), (2, .int x2), (3, .long x3), (5, .int x5)] → W p l e (RM 4 94) s m args below meth c H locs 0 0 Q (F0 m 13 ls []) := by
    intro x1 x2 k hk fu
    induction fu with
    | zero =>
      intro S x3 x5 H locs ls hF hs hl
      exact nomatch (show (none : Option (RS)) = some r from hF)
    | succ fu hrec =>
      intro S x3 x5 H locs ls hF hs hl
      have hF : (B_X1_payOutOf_13 x1 x2 k) (lo3 (B_X1_payOutOf_13 x1 x2 k) fu) S x3 x5 = some r := hF
      unfold B_X1_payOutOf_13 at hF
      refine lv_iload hx hb dX1_payOutOf_13 (lv_at hl 4 rfl) ?_
      refine lv_iconst (v := (1 : Int32)) hx hb dX1_payOutOf_15 (by decide) ?_
      refine lv_icmp_gt (tgt := 65) hx hb dX1_payOutOf_16 (by decide) (fun hc => ?_) (fun hc => ?_)
      · have hF := (if_pos hc).symm.trans hF
        exact hk S _ _ _ hF hs (lv_sub hl [] rfl)
      · have hF := (if_neg hc).symm.trans hF
        refine lv_aload_n hx hb dX1_payOutOf_19 rfl (lv_at hl 0 rfl) ?_
        refine lv_iload_n hx hb dX1_payOutOf_20 rfl (lv_at hl 1 rfl) ?_
        refine lv_iload_n hx hb dX1_payOutOf_21 rfl (lv_at hl 2 rfl) ?_
        refine lv_iload hx hb dX1_payOutOf_22 (lv_at hl 4 rfl) ?_
        obtain ⟨q2, hq2, hF⟩ := bd hF
        refine sx_V (As := [.int x1, .int x2, .int x5]) (rest := []) (st1 := [.long q2.1]) (c_X1_findLacks G l a S x1 x2 x5 q2 hq2) v_X1_137 ⟨(Nat.le_of_ble_eq_true rfl), (Nat.le_of_ble_eq_true rfl)⟩ hx hb hml hown hts hE hA hs ⟨Nat.le_refl 0, Nat.le_refl 0⟩ 5 rfl rfl rfl rfl rfl hl.1 (Nat.le_of_ble_eq_true rfl) dX1_payOutOf_24 (pmW _) (ws' := WR G a q2.2) (pmW _) (fun H locs hs => ?_)
        refine lv_lstore (lv' := [(6, .long q2.1), (0, .ref (a 0)), (1, .int x1), (2, .int x2), (3, .long x3), (5, .int x5)]) hx hb dX1_payOutOf_27 hl (by decide) rfl (fun ls hl => ?_)
        refine lv_lload hx hb dX1_payOutOf_29 (lv_at hl 0 rfl) ?_
        refine lv_lload_n hx hb dX1_payOutOf_31 rfl (lv_at hl 4 rfl) ?_
        refine W.lcmp hx hb dX1_payOutOf_32 ?_
        refine lv_if_le (tgt := 49) hx hb dX1_payOutOf_33 (by decide) (fun hc => ?_) (fun hc => ?_)
        · have hF := (if_pos hc).symm.trans hF
          refine lv_aload_n hx hb dX1_payOutOf_49 rfl (lv_at hl 1 rfl) ?_
          refine lv_iload_n hx hb dX1_payOutOf_50 rfl (lv_at hl 2 rfl) ?_
          obtain ⟨q3, hq3, hF⟩ := bd hF
          refine sx_V (As := [.int x1]) (rest := []) (st1 := []) (c_X1_payLacks G l a q2.2 x1 q3 hq3) v_X1_145 ⟨(Nat.le_of_ble_eq_true rfl), (Nat.le_of_ble_eq_true rfl)⟩ hx hb hml hown hts hE hA hs ⟨Nat.le_refl 0, Nat.le_refl 0⟩ 5 rfl rfl rfl rfl rfl hl.1 (Nat.le_of_ble_eq_true rfl) dX1_payOutOf_51 (pmW _) (ws' := WR G a q3) (pmW _) (fun H locs hs => ?_)
          refine lv_lload_n hx hb dX1_payOutOf_54 rfl (lv_at hl 4 rfl) ?_
          refine lv_lload hx hb dX1_payOutOf_55 (lv_at hl 0 rfl) ?_
          refine lv_lsub hx hb dX1_payOutOf_57 ?_
          obtain ⟨v4, ev4, hF⟩ := nm_some hF
          refine sx_topl ev4 ?_
          refine lv_lstore_n (lv' := [(3, .long v4), (6, .long q2.1), (0, .ref (a 0)), (1, .int x1), (2, .int x2), (5, .int x5)]) hx hb dX1_payOutOf_58 rfl hl (by decide) rfl (fun ls hl => ?_)
          exact hJ59_13 x1 x2 _ _ hk hrec q3 v4 x5 _ _ _ hF hs (lv_sub hl [2, 3, 4, 0, 5] rfl)
        · have hF := (if_neg hc).symm.trans hF
          refine lv_aload_n hx hb dX1_payOutOf_36 rfl (lv_at hl 1 rfl) ?_
          refine lv_iload_n hx hb dX1_payOutOf_37 rfl (lv_at hl 2 rfl) ?_
          refine lv_lload_n hx hb dX1_payOutOf_38 rfl (lv_at hl 4 rfl) ?_
          refine lv_lload hx hb dX1_payOutOf_39 (lv_at hl 0 rfl) ?_
          obtain ⟨q6, hq6, hF⟩ := bd hF
          refine sx_V (As := [.int x1, .long x3, .long q2.1]) (rest := []) (st1 := []) (c_X1_shareScarce G l a q2.2 x1 x3 q2.1 q6 hq6) v_X1_141 ⟨(Nat.le_of_ble_eq_true rfl), (Nat.le_of_ble_eq_true rfl)⟩ hx hb hml hown hts hE hA hs ⟨Nat.le_refl 0, Nat.le_refl 0⟩ 5 rfl rfl rfl rfl rfl hl.1 (Nat.le_of_ble_eq_true rfl) dX1_payOutOf_41 (pmW _) (ws' := WR G a q6) (pmW _) (fun H locs hs => ?_)
          refine lv_lconst (v := (0 : Int64)) hx hb dX1_payOutOf_44 (by decide) ?_
          refine lv_lstore_n (lv' := [(3, .long (0 : Int64)), (6, .long q2.1), (0, .ref (a 0)), (1, .int x1), (2, .int x2), (5, .int x5)]) hx hb dX1_payOutOf_45 rfl hl (by decide) rfl (fun ls hl => ?_)
          refine lv_goto (tgt := 59) hx hb dX1_payOutOf_46 (by decide) ?_
          exact hJ59_13 x1 x2 _ _ hk hrec q6 (0 : Int64) x5 _ _ _ hF hs (lv_sub hl [2, 3, 4, 0, 5] rfl)
  unfold F_X1_payOutOf at hF
  refine lv_aload_n hx hb dX1_payOutOf_0 rfl (lv_at hl 0 rfl) ?_
  refine fg_X1_12 hx hb hown hts hE hs 5 rfl (v := .ref (a 6)) rfl dX1_payOutOf_1 ?_
  refine lv_iload_n hx hb dX1_payOutOf_4 rfl (lv_at hl 1 rfl) ?_
  refine lv_iload_n hx hb dX1_payOutOf_5 rfl (lv_at hl 2 rfl) ?_
  obtain ⟨q1, hq1, hF⟩ := bd hF
  refine sx_N (As := [.int x1, .int x2]) (rest := []) (st1 := [.long q1]) (c_X2_fundOf G l (fun k => a (6 + k)) (r_told S) x1 x2 q1 hq1) v_X1_134 ⟨(Nat.le_of_ble_eq_true rfl), (Nat.le_of_ble_eq_true rfl)⟩ hx hb hml hown hts hE hA hs ⟨Nat.le_refl 0, Nat.le_refl 0⟩ 0 rfl rfl rfl rfl rfl hl.1 (Nat.le_of_ble_eq_true rfl) dX1_payOutOf_6 (pR_told G a S (r_told S)) (ws' := WR G a S) (pR_told G a S (r_told S)) (fun H locs hs => ?_)
  refine lv_lstore_n (lv' := [(3, .long q1), (0, .ref (a 0)), (1, .int x1), (2, .int x2)]) hx hb dX1_payOutOf_9 rfl hl (by decide) rfl (fun ls hl => ?_)
  refine lv_iconst (v := (0 : Int32)) hx hb dX1_payOutOf_10 (by decide) ?_
  refine lv_istore (lv' := [(5, .int (0 : Int32)), (3, .long q1), (0, .ref (a 0)), (1, .int x1), (2, .int x2)]) hx hb dX1_payOutOf_11 hl (by decide) rfl (fun ls hl => ?_)
  refine hL13 x1 x2 _ (fun S7 H locs ls hF hs hl => ?_) FU S q1 (0 : Int32) _ _ _ hF hs (lv_sub hl [2, 3, 4, 1, 0] rfl)
  exact sx_vret hx hb hr hlk hQ (congrArg (fun z => WR G a z) (Option.some.inj hF)) hs dX1_payOutOf_65
set_option maxHeartbeats 4000000 in
set_option maxRecDepth 100000 in
theorem c_X1_settle (G : GT) (l : Launch) (a : Nat → Nat) (S : RS) (r : RS) (hF : F_X1_settle S = some r) : MT G l yX1_settle cX1_settle 2 (none) 5 121 [.ref (a 0)] (WR G a S) none (WR G a r) := by
  refine MT.of (by decide) (Nat.le_of_ble_eq_true rfl) ?_
  intro p e s m args below meth c A ls hx hb hr hml hown hts hlk hE hA hs hl Q hQ
  have hl : lv_has ls 2 [(0, .ref (a 0))] := hl
  have hJ87_42 : ∀ (k : RS → Option (RS)) (rc : RS → Int32 → Option (RS)) (hk : ∀ (S : RS) (H : Heap) (locs : List Loc) (ls : Array Slot), k S = some r → SI G A s H locs (WR G a S) → lv_has ls 2 [] → W p l e (RM 5 121) s m args below meth c H locs 0 0 Q (F0 m 93 ls [])) (hrec : ∀ (S : RS) (x1 : Int32) (H : Heap) (locs : List Loc) (ls : Array Slot), rc S x1 = some r → SI G A s H locs (WR G a S) → lv_has ls 2 [(0, .ref (a 0)), (1, .int x1)] → W p l e (RM 5 121) s m args below meth c H locs 0 0 Q (F0 m 42 ls [])) (S : RS) (x1 : Int32) (H : Heap) (locs : List Loc) (ls : Array Slot), J_X1_settle_87 k rc S x1 = some r → SI G A s H locs (WR G a S) → lv_has ls 2 [(0, .ref (a 0)), (1, .int x1)] → W p l e (RM 5 121) s m args below meth c H locs 0 0 Q (F0 m 87 ls []) := by
    intro k rc hk hrec S x1 H locs ls hF hs hl
    unfold J_X1_settle_87 at hF
    obtain ⟨v14, ev14, hF⟩ := nm_some hF
    refine lv_iinc (v := v14) (lv' := [(1, .int v14), (0, .ref (a 0))]) hx hb dX1_settle_87 hl (k := 1) rfl (by rw [ev14]; rfl) (by decide) rfl (fun ls hl => ?_)
    refine lv_goto (tgt := 42) hx hb dX1_settle_90 (by decide) ?_
    exact hrec S v14 _ _ _ hF hs (lv_sub hl [1, 0] rfl)
  have hL42 : ∀ (k : RS → Option (RS)) (hk : ∀ (S : RS) (H : Heap) (locs : List Loc) (ls : Array Slot), k S = some r → SI G A s H locs (WR G a S) → lv_has ls 2 [] → W p l e (RM 5 121) s m args below meth c H locs 0 0 Q (F0 m 93 ls [])) (fu : Nat) (S : RS) (x1 : Int32) (H : Heap) (locs : List Loc) (ls : Array Slot), lo2 (B_X1_settle_42 k) fu S x1 = some r → SI G A s H locs (WR G a S) → lv_has ls 2 [(0, .ref (a 0)), (1, .int x1)] → W p l e (RM 5 121) s m args below meth c H locs 0 0 Q (F0 m 42 ls []) := by
    intro k hk fu
    induction fu with
    | zero =>
      intro S x1 H locs ls hF hs hl
      exact nomatch (show (none : Option (RS)) = some r from hF)
    | succ fu hrec =>
      intro S x1 H locs ls hF hs hl
      have hF : (B_X1_settle_42 k) (lo2 (B_X1_settle_42 k) fu) S x1 = some r := hF
      unfold B_X1_settle_42 at hF
      refine lv_iload_n hx hb dX1_settle_42 rfl (lv_at hl 1 rfl) ?_
      refine lv_aload_n hx hb dX1_settle_43 rfl (lv_at hl 0 rfl) ?_
      refine fg_X1_12 hx hb hown hts hE hs 5 rfl (v := .ref (a 6)) rfl dX1_settle_44 ?_
      refine fg_X1_61 hx hb hown hts hE hs 0 rfl (v := .int (t_ships (r_told S))) rfl dX1_settle_47 ?_
      refine lv_icmp_ge (tgt := 93) hx hb dX1_settle_50 (by decide) (fun hc => ?_) (fun hc => ?_)
      · have hF := (if_pos hc).symm.trans hF
        exact hk S _ _ _ hF hs (lv_sub hl [] rfl)
      · have hF := (if_neg hc).symm.trans hF
        refine lv_aload_n hx hb dX1_settle_53 rfl (lv_at hl 0 rfl) ?_
        refine fg_X1_12 hx hb hown hts hE hs 5 rfl (v := .ref (a 6)) rfl dX1_settle_54 ?_
        refine lv_iload_n hx hb dX1_settle_57 rfl (lv_at hl 1 rfl) ?_
        refine lv_iconst (v := (5 : Int32)) hx hb dX1_settle_58 (by decide) ?_
        obtain ⟨q11, hq11, hF⟩ := bd hF
        refine sx_N (As := [.int x1, .int (5 : Int32)]) (rest := []) (st1 := [.int q11]) (c_X2_ofShip G l (fun k => a (6 + k)) (r_told S) x1 (5 : Int32) q11 hq11) v_X1_64 ⟨(Nat.le_of_ble_eq_true rfl), (Nat.le_of_ble_eq_true rfl)⟩ hx hb hml hown hts hE hA hs ⟨Nat.le_refl 0, Nat.le_refl 0⟩ 0 rfl rfl rfl rfl rfl hl.1 (Nat.le_of_ble_eq_true rfl) dX1_settle_59 (pR_told G a S (r_told S)) (ws' := WR G a S) (pR_told G a S (r_told S)) (fun H locs hs => ?_)
        refine lv_iconst (v := (1 : Int32)) hx hb dX1_settle_62 (by decide) ?_
        refine lv_icmp_ne (tgt := 74) hx hb dX1_settle_63 (by decide) (fun hc => ?_) (fun hc => ?_)
        · have hF := (if_neg hc).symm.trans hF
          refine lv_aload_n hx hb dX1_settle_74 rfl (lv_at hl 0 rfl) ?_
          refine lv_iload_n hx hb dX1_settle_75 rfl (lv_at hl 1 rfl) ?_
          refine lv_bipush (v := (6 : Int32)) hx hb dX1_settle_76 (by decide) ?_
          obtain ⟨q12, hq12, hF⟩ := bd hF
          refine sx_V (As := [.int x1, .int (6 : Int32)]) (rest := []) (st1 := []) (c_X1_payOutOf G l a S x1 (6 : Int32) q12 hq12) v_X1_72 ⟨(Nat.le_of_ble_eq_true rfl), (Nat.le_of_ble_eq_true rfl)⟩ hx hb hml hown hts hE hA hs ⟨Nat.le_refl 0, Nat.le_refl 0⟩ 5 rfl rfl rfl rfl rfl hl.1 (Nat.le_of_ble_eq_true rfl) dX1_settle_78 (pmW _) (ws' := WR G a q12) (pmW _) (fun H locs hs => ?_)
          refine lv_aload_n hx hb dX1_settle_81 rfl (lv_at hl 0 rfl) ?_
          refine lv_iload_n hx hb dX1_settle_82 rfl (lv_at hl 1 rfl) ?_
          refine lv_iconst (v := (5 : Int32)) hx hb dX1_settle_83 (by decide) ?_
          obtain ⟨q13, hq13, hF⟩ := bd hF
          refine sx_V (As := [.int x1, .int (5 : Int32)]) (rest := []) (st1 := []) (c_X1_payOutOf G l a q12 x1 (5 : Int32) q13 hq13) v_X1_72 ⟨(Nat.le_of_ble_eq_true rfl), (Nat.le_of_ble_eq_true rfl)⟩ hx hb hml hown hts hE hA hs ⟨Nat.le_refl 0, Nat.le_refl 0⟩ 5 rfl rfl rfl rfl rfl hl.1 (Nat.le_of_ble_eq_true rfl) dX1_settle_84 (pmW _) (ws' := WR G a q13) (pmW _) (fun H locs hs => ?_)
          exact hJ87_42 _ _ hk hrec q13 x1 _ _ _ hF hs (lv_sub hl [0, 1] rfl)
        · have hF := (if_pos hc).symm.trans hF
          refine lv_aload_n hx hb dX1_settle_66 rfl (lv_at hl 0 rfl) ?_
          refine lv_iload_n hx hb dX1_settle_67 rfl (lv_at hl 1 rfl) ?_
          obtain ⟨q15, hq15, hF⟩ := bd hF
          refine sx_V (As := [.int x1]) (rest := []) (st1 := []) (c_X1_payAll G l a S x1 q15 hq15) v_X1_68 ⟨(Nat.le_of_ble_eq_true rfl), (Nat.le_of_ble_eq_true rfl)⟩ hx hb hml hown hts hE hA hs ⟨Nat.le_refl 0, Nat.le_refl 0⟩ 5 rfl rfl rfl rfl rfl hl.1 (Nat.le_of_ble_eq_true rfl) dX1_settle_68 (pmW _) (ws' := WR G a q15) (pmW _) (fun H locs hs => ?_)
          refine lv_goto (tgt := 87) hx hb dX1_settle_71 (by decide) ?_
          exact hJ87_42 _ _ hk hrec q15 x1 _ _ _ hF hs (lv_sub hl [0, 1] rfl)
  unfold F_X1_settle at hF
  refine lv_aload_n hx hb dX1_settle_0 rfl (lv_at hl 0 rfl) ?_
  refine fg_X1_26 hx hb hown hts hE hs 5 rfl (v := .ref (a 3)) rfl dX1_settle_1 ?_
  refine lv_lconst (v := (0 : Int64)) hx hb dX1_settle_4 (by decide) ?_
  obtain ⟨q1, hq1, hF⟩ := bd hF
  obtain ⟨S2, eS2, hF⟩ := nm_some hF
  refine sx_S (As := [.ref (a 3), .long (0 : Int64)]) (rest := []) (st1 := []) (c_J7_fill_d0a16 G l (a 3) (r_owed S) (0 : Int64) q1 hq1) v_X1_43 ⟨(Nat.le_of_ble_eq_true rfl), (Nat.le_of_ble_eq_true rfl)⟩ hx hb hml hown hts hE hA hs ⟨Nat.le_refl 0, Nat.le_refl 0⟩ rfl rfl rfl hl.1 (Nat.le_of_ble_eq_true rfl) dX1_settle_5 (pR_owed G a S (r_owed S)) (ws' := WR G a S2) (by subst eS2; exact pR_owed G a S q1) (fun H locs hs => ?_)
  refine lv_aload_n hx hb dX1_settle_8 rfl (lv_at hl 0 rfl) ?_
  refine fg_X1_29 hx hb hown hts hE hs 5 rfl (v := .ref (a 4)) rfl dX1_settle_9 ?_
  refine lv_lconst (v := (0 : Int64)) hx hb dX1_settle_12 (by decide) ?_
  obtain ⟨q3, hq3, hF⟩ := bd hF
  obtain ⟨S4, eS4, hF⟩ := nm_some hF
  refine sx_S (As := [.ref (a 4), .long (0 : Int64)]) (rest := []) (st1 := []) (c_J7_fill_d0a16 G l (a 4) (r_paid S2) (0 : Int64) q3 hq3) v_X1_43 ⟨(Nat.le_of_ble_eq_true rfl), (Nat.le_of_ble_eq_true rfl)⟩ hx hb hml hown hts hE hA hs ⟨Nat.le_refl 0, Nat.le_refl 0⟩ rfl rfl rfl hl.1 (Nat.le_of_ble_eq_true rfl) dX1_settle_13 (pR_paid G a S2 (r_paid S2)) (ws' := WR G a S4) (by subst eS4; exact pR_paid G a S2 q3) (fun H locs hs => ?_)
  refine lv_aload_n hx hb dX1_settle_16 rfl (lv_at hl 0 rfl) ?_
  refine fg_X1_22 hx hb hown hts hE hs 5 rfl (v := .ref (a 2)) rfl dX1_settle_17 ?_
  refine lv_lconst (v := (0 : Int64)) hx hb dX1_settle_20 (by decide) ?_
  obtain ⟨q5, hq5, hF⟩ := bd hF
  obtain ⟨S6, eS6, hF⟩ := nm_some hF
  refine sx_S (As := [.ref (a 2), .long (0 : Int64)]) (rest := []) (st1 := []) (c_J7_fill_d0a16 G l (a 2) (r_backs S4) (0 : Int64) q5 hq5) v_X1_43 ⟨(Nat.le_of_ble_eq_true rfl), (Nat.le_of_ble_eq_true rfl)⟩ hx hb hml hown hts hE hA hs ⟨Nat.le_refl 0, Nat.le_refl 0⟩ rfl rfl rfl hl.1 (Nat.le_of_ble_eq_true rfl) dX1_settle_21 (pR_backs G a S4 (r_backs S4)) (ws' := WR G a S6) (by subst eS6; exact pR_backs G a S4 q5) (fun H locs hs => ?_)
  refine lv_aload_n hx hb dX1_settle_24 rfl (lv_at hl 0 rfl) ?_
  obtain ⟨q7, hq7, hF⟩ := bd hF
  refine sx_V (As := []) (rest := []) (st1 := []) (c_X1_weigh G l a S6 q7 hq7) v_X1_49 ⟨(Nat.le_of_ble_eq_true rfl), (Nat.le_of_ble_eq_true rfl)⟩ hx hb hml hown hts hE hA hs ⟨Nat.le_refl 0, Nat.le_refl 0⟩ 5 rfl rfl rfl rfl rfl hl.1 (Nat.le_of_ble_eq_true rfl) dX1_settle_25 (pmW _) (ws' := WR G a q7) (pmW _) (fun H locs hs => ?_)
  refine lv_aload_n hx hb dX1_settle_28 rfl (lv_at hl 0 rfl) ?_
  obtain ⟨q8, hq8, hF⟩ := bd hF
  refine sx_V (As := []) (rest := []) (st1 := []) (c_X1_oweClaims G l a q7 q8 hq8) v_X1_52 ⟨(Nat.le_of_ble_eq_true rfl), (Nat.le_of_ble_eq_true rfl)⟩ hx hb hml hown hts hE hA hs ⟨Nat.le_refl 0, Nat.le_refl 0⟩ 5 rfl rfl rfl rfl rfl hl.1 (Nat.le_of_ble_eq_true rfl) dX1_settle_29 (pmW _) (ws' := WR G a q8) (pmW _) (fun H locs hs => ?_)
  refine lv_aload_n hx hb dX1_settle_32 rfl (lv_at hl 0 rfl) ?_
  obtain ⟨q9, hq9, hF⟩ := bd hF
  refine sx_V (As := []) (rest := []) (st1 := []) (c_X1_oweBack G l a q8 q9 hq9) v_X1_55 ⟨(Nat.le_of_ble_eq_true rfl), (Nat.le_of_ble_eq_true rfl)⟩ hx hb hml hown hts hE hA hs ⟨Nat.le_refl 0, Nat.le_refl 0⟩ 5 rfl rfl rfl rfl rfl hl.1 (Nat.le_of_ble_eq_true rfl) dX1_settle_33 (pmW _) (ws' := WR G a q9) (pmW _) (fun H locs hs => ?_)
  refine lv_aload_n hx hb dX1_settle_36 rfl (lv_at hl 0 rfl) ?_
  obtain ⟨q10, hq10, hF⟩ := bd hF
  refine sx_V (As := []) (rest := []) (st1 := []) (c_X1_oweShips G l a q9 q10 hq10) v_X1_58 ⟨(Nat.le_of_ble_eq_true rfl), (Nat.le_of_ble_eq_true rfl)⟩ hx hb hml hown hts hE hA hs ⟨Nat.le_refl 0, Nat.le_refl 0⟩ 5 rfl rfl rfl rfl rfl hl.1 (Nat.le_of_ble_eq_true rfl) dX1_settle_37 (pmW _) (ws' := WR G a q10) (pmW _) (fun H locs hs => ?_)
  refine lv_iconst (v := (0 : Int32)) hx hb dX1_settle_40 (by decide) ?_
  refine lv_istore_n (lv' := [(1, .int (0 : Int32)), (0, .ref (a 0))]) hx hb dX1_settle_41 rfl hl (by decide) rfl (fun ls hl => ?_)
  refine hL42 _ (fun S16 H locs ls hF hs hl => ?_) FU q10 (0 : Int32) _ _ _ hF hs (lv_sub hl [1, 0] rfl)
  exact sx_vret hx hb hr hlk hQ (congrArg (fun z => WR G a z) (Option.some.inj hF)) hs dX1_settle_93
set_option maxHeartbeats 4000000 in
set_option maxRecDepth 100000 in
theorem c_X1_backForClaim (G : GT) (l : Launch) (a : Nat → Nat) (S : RS) (x1 : Int32) (r : Int64) (hF : F_X1_backForClaim S x1 = some r) : MT G l yX1_backForClaim cX1_backForClaim 5 (some .long) 3 69 [.ref (a 0), .int x1] (WR G a S) (some (.long r)) (WR G a S) := by
  refine MT.of (by decide) (Nat.le_of_ble_eq_true rfl) ?_
  intro p e s m args below meth c A ls hx hb hr hml hown hts hlk hE hA hs hl Q hQ
  have hl : lv_has ls 5 [(0, .ref (a 0)), (1, .int x1)] := hl
  have hL5 : ∀ (x1 : Int32) (k : Int64 → Option (Int64)) (hk : ∀ (x2 : Int64) (H : Heap) (locs : List Loc) (ls : Array Slot), k x2 = some r → SI G A s H locs (WR G a S) → lv_has ls 5 [(2, .long x2)] → W p l e (RM 3 69) s m args below meth c H locs 0 0 Q (F0 m 33 ls [])) (fu : Nat) (x2 : Int64) (x4 : Int32) (H : Heap) (locs : List Loc) (ls : Array Slot), lo2 (B_X1_backForClaim_5 S x1 k) fu x2 x4 = some r → SI G A s H locs (WR G a S) → lv_has ls 5 [(0, .ref (a 0)), (1, .int x1), (2, .long x2), (4, .int x4)] → W p l e (RM 3 69) s m args below meth c H locs 0 0 Q (F0 m 5 ls []) := by
    intro x1 k hk fu
    induction fu with
    | zero =>
      intro x2 x4 H locs ls hF hs hl
      exact nomatch (show (none : Option (Int64)) = some r from hF)
    | succ fu hrec =>
      intro x2 x4 H locs ls hF hs hl
      have hF : (B_X1_backForClaim_5 S x1 k) (lo2 (B_X1_backForClaim_5 S x1 k) fu) x2 x4 = some r := hF
      unfold B_X1_backForClaim_5 at hF
      refine lv_iload hx hb dX1_backForClaim_5 (lv_at hl 3 rfl) ?_
      refine lv_aload_n hx hb dX1_backForClaim_7 rfl (lv_at hl 0 rfl) ?_
      refine fg_X1_12 hx hb hown hts hE hs 5 rfl (v := .ref (a 6)) rfl dX1_backForClaim_8 ?_
      refine fg_X1_61 hx hb hown hts hE hs 0 rfl (v := .int (t_ships (r_told S))) rfl dX1_backForClaim_11 ?_
      refine lv_icmp_ge (tgt := 33) hx hb dX1_backForClaim_14 (by decide) (fun hc => ?_) (fun hc => ?_)
      · have hF := (if_pos hc).symm.trans hF
        exact hk x2 _ _ _ hF hs (lv_sub hl [2] rfl)
      · have hF := (if_neg hc).symm.trans hF
        refine lv_lload_n hx hb dX1_backForClaim_17 rfl (lv_at hl 2 rfl) ?_
        refine lv_aload_n hx hb dX1_backForClaim_18 rfl (lv_at hl 0 rfl) ?_
        refine lv_iload_n hx hb dX1_backForClaim_19 rfl (lv_at hl 1 rfl) ?_
        refine lv_iload hx hb dX1_backForClaim_20 (lv_at hl 3 rfl) ?_
        obtain ⟨q1, hq1, hF⟩ := bd hF
        refine sx_V (As := [.int x1, .int x4]) (rest := [.long x2]) (st1 := [.long q1, .long x2]) (c_X1_backFor G l a S x1 x4 q1 hq1) v_X1_111 ⟨(Nat.le_of_ble_eq_true rfl), (Nat.le_of_ble_eq_true rfl)⟩ hx hb hml hown hts hE hA hs ⟨Nat.le_refl 0, Nat.le_refl 0⟩ 5 rfl rfl rfl rfl rfl hl.1 (Nat.le_of_ble_eq_true rfl) dX1_backForClaim_22 (pmW _) (ws' := WR G a S) (pmW _) (fun H locs hs => ?_)
        refine lv_ladd hx hb dX1_backForClaim_25 ?_
        obtain ⟨v2, ev2, hF⟩ := nm_some hF
        refine sx_topl ev2 ?_
        refine lv_lstore_n (lv' := [(2, .long v2), (0, .ref (a 0)), (1, .int x1), (4, .int x4)]) hx hb dX1_backForClaim_26 rfl hl (by decide) rfl (fun ls hl => ?_)
        obtain ⟨v3, ev3, hF⟩ := nm_some hF
        refine lv_iinc (v := v3) (lv' := [(4, .int v3), (2, .long v2), (0, .ref (a 0)), (1, .int x1)]) hx hb dX1_backForClaim_27 hl (k := 3) rfl (by rw [ev3]; rfl) (by decide) rfl (fun ls hl => ?_)
        refine lv_goto (tgt := 5) hx hb dX1_backForClaim_30 (by decide) ?_
        exact hrec v2 v3 _ _ _ hF hs (lv_sub hl [2, 3, 1, 0] rfl)
  unfold F_X1_backForClaim at hF
  refine lv_lconst (v := (0 : Int64)) hx hb dX1_backForClaim_0 (by decide) ?_
  refine lv_lstore_n (lv' := [(2, .long (0 : Int64)), (0, .ref (a 0)), (1, .int x1)]) hx hb dX1_backForClaim_1 rfl hl (by decide) rfl (fun ls hl => ?_)
  refine lv_iconst (v := (0 : Int32)) hx hb dX1_backForClaim_2 (by decide) ?_
  refine lv_istore (lv' := [(4, .int (0 : Int32)), (2, .long (0 : Int64)), (0, .ref (a 0)), (1, .int x1)]) hx hb dX1_backForClaim_3 hl (by decide) rfl (fun ls hl => ?_)
  refine hL5 x1 _ (fun z4 H locs ls hF hs hl => ?_) FU (0 : Int64) (0 : Int32) _ _ _ hF hs (lv_sub hl [2, 3, 1, 0] rfl)
  refine lv_lload_n hx hb dX1_backForClaim_33 rfl (lv_at hl 0 rfl) ?_
  exact sx_lret hx hb hr hlk hQ (Option.some.inj hF) rfl hs dX1_backForClaim_34
set_option maxHeartbeats 4000000 in
set_option maxRecDepth 100000 in
theorem c_X1_owedToShip (G : GT) (l : Launch) (a : Nat → Nat) (S : RS) (x1 : Int32) (x2 : Int32) (r : Int64) (hF : F_X1_owedToShip S x1 x2 = some r) : MT G l yX1_owedToShip cX1_owedToShip 3 (some .long) 0 0 [.ref (a 0), .int x1, .int x2] (WR G a S) (some (.long r)) (WR G a S) := by
  refine MT.of (by decide) (Nat.le_of_ble_eq_true rfl) ?_
  intro p e s m args below meth c A ls hx hb hr hml hown hts hlk hE hA hs hl Q hQ
  have hl : lv_has ls 3 [(0, .ref (a 0)), (1, .int x1), (2, .int x2)] := hl
  unfold F_X1_owedToShip at hF
  refine lv_aload_n hx hb dX1_owedToShip_0 rfl (lv_at hl 0 rfl) ?_
  refine fg_X1_26 hx hb hown hts hE hs 5 rfl (v := .ref (a 3)) rfl dX1_owedToShip_1 ?_
  refine lv_iload_n hx hb dX1_owedToShip_4 rfl (lv_at hl 1 rfl) ?_
  refine lv_bipush (v := (16 : Int32)) hx hb dX1_owedToShip_5 (by decide) ?_
  refine lv_imul hx hb dX1_owedToShip_7 ?_
  refine lv_iload_n hx hb dX1_owedToShip_8 rfl (lv_at hl 2 rfl) ?_
  refine lv_iadd hx hb dX1_owedToShip_9 ?_
  obtain ⟨v1, hv1, hF⟩ := bd hF
  refine sx_lald hx hb hE hs 8 (f := r_owed S) rfl hv1 dX1_owedToShip_10 ?_
  exact sx_lret hx hb hr hlk hQ (Option.some.inj hF) rfl hs dX1_owedToShip_11
set_option maxHeartbeats 4000000 in
set_option maxRecDepth 100000 in
theorem c_X1_rowTogether (G : GT) (l : Launch) (b : Nat) (S : (Fin 64 → Int64)) (x1 : Int32) (r : Int64) (hF : F_X1_rowTogether S x1 = some r) : MT G l yX1_rowTogether cX1_rowTogether 5 (some .long) 0 0 [.ref (b), .int x1] (([(b, .inl (G.2.1 1, 64, .inr (.inl (exL S))))] : va_W)) (some (.long r)) (([(b, .inl (G.2.1 1, 64, .inr (.inl (exL S))))] : va_W)) := by
  refine MT.of (by decide) (Nat.le_of_ble_eq_true rfl) ?_
  intro p e s m args below meth c A ls hx hb hr hml hown hts hlk hE hA hs hl Q hQ
  have hl : lv_has ls 5 [(0, .ref (b)), (1, .int x1)] := hl
  have hL5 : ∀ (x1 : Int32) (k : Int64 → Option (Int64)) (hk : ∀ (x2 : Int64) (H : Heap) (locs : List Loc) (ls : Array Slot), k x2 = some r → SI G A s H locs (([(b, .inl (G.2.1 1, 64, .inr (.inl (exL S))))] : va_W)) → lv_has ls 5 [(2, .long x2)] → W p l e (RM 0 0) s m args below meth c H locs 0 0 Q (F0 m 30 ls [])) (fu : Nat) (x2 : Int64) (x4 : Int32) (H : Heap) (locs : List Loc) (ls : Array Slot), lo2 (B_X1_rowTogether_5 S x1 k) fu x2 x4 = some r → SI G A s H locs (([(b, .inl (G.2.1 1, 64, .inr (.inl (exL S))))] : va_W)) → lv_has ls 5 [(0, .ref (b)), (1, .int x1), (2, .long x2), (4, .int x4)] → W p l e (RM 0 0) s m args below meth c H locs 0 0 Q (F0 m 5 ls []) := by
    intro x1 k hk fu
    induction fu with
    | zero =>
      intro x2 x4 H locs ls hF hs hl
      exact nomatch (show (none : Option (Int64)) = some r from hF)
    | succ fu hrec =>
      intro x2 x4 H locs ls hF hs hl
      have hF : (B_X1_rowTogether_5 S x1 k) (lo2 (B_X1_rowTogether_5 S x1 k) fu) x2 x4 = some r := hF
      unfold B_X1_rowTogether_5 at hF
      refine lv_iload hx hb dX1_rowTogether_5 (lv_at hl 3 rfl) ?_
      refine lv_bipush (v := (16 : Int32)) hx hb dX1_rowTogether_7 (by decide) ?_
      refine lv_icmp_ge (tgt := 30) hx hb dX1_rowTogether_9 (by decide) (fun hc => ?_) (fun hc => ?_)
      · have hF := (if_pos hc).symm.trans hF
        exact hk x2 _ _ _ hF hs (lv_sub hl [2] rfl)
      · have hF := (if_neg hc).symm.trans hF
        refine lv_lload_n hx hb dX1_rowTogether_12 rfl (lv_at hl 2 rfl) ?_
        refine lv_aload_n hx hb dX1_rowTogether_13 rfl (lv_at hl 0 rfl) ?_
        refine lv_iload_n hx hb dX1_rowTogether_14 rfl (lv_at hl 1 rfl) ?_
        refine lv_bipush (v := (16 : Int32)) hx hb dX1_rowTogether_15 (by decide) ?_
        refine lv_imul hx hb dX1_rowTogether_17 ?_
        refine lv_iload hx hb dX1_rowTogether_18 (lv_at hl 3 rfl) ?_
        refine lv_iadd hx hb dX1_rowTogether_20 ?_
        obtain ⟨v1, hv1, hF⟩ := bd hF
        refine sx_lald hx hb hE hs 0 (f := S) rfl hv1 dX1_rowTogether_21 ?_
        refine lv_ladd hx hb dX1_rowTogether_22 ?_
        obtain ⟨v2, ev2, hF⟩ := nm_some hF
        refine sx_topl ev2 ?_
        refine lv_lstore_n (lv' := [(2, .long v2), (0, .ref (b)), (1, .int x1), (4, .int x4)]) hx hb dX1_rowTogether_23 rfl hl (by decide) rfl (fun ls hl => ?_)
        obtain ⟨v3, ev3, hF⟩ := nm_some hF
        refine lv_iinc (v := v3) (lv' := [(4, .int v3), (2, .long v2), (0, .ref (b)), (1, .int x1)]) hx hb dX1_rowTogether_24 hl (k := 3) rfl (by rw [ev3]; rfl) (by decide) rfl (fun ls hl => ?_)
        refine lv_goto (tgt := 5) hx hb dX1_rowTogether_27 (by decide) ?_
        exact hrec v2 v3 _ _ _ hF hs (lv_sub hl [2, 3, 1, 0] rfl)
  unfold F_X1_rowTogether at hF
  refine lv_lconst (v := (0 : Int64)) hx hb dX1_rowTogether_0 (by decide) ?_
  refine lv_lstore_n (lv' := [(2, .long (0 : Int64)), (0, .ref (b)), (1, .int x1)]) hx hb dX1_rowTogether_1 rfl hl (by decide) rfl (fun ls hl => ?_)
  refine lv_iconst (v := (0 : Int32)) hx hb dX1_rowTogether_2 (by decide) ?_
  refine lv_istore (lv' := [(4, .int (0 : Int32)), (2, .long (0 : Int64)), (0, .ref (b)), (1, .int x1)]) hx hb dX1_rowTogether_3 hl (by decide) rfl (fun ls hl => ?_)
  refine hL5 x1 _ (fun z4 H locs ls hF hs hl => ?_) FU (0 : Int64) (0 : Int32) _ _ _ hF hs (lv_sub hl [2, 3, 1, 0] rfl)
  refine lv_lload_n hx hb dX1_rowTogether_30 rfl (lv_at hl 0 rfl) ?_
  exact sx_lret hx hb hr hlk hQ (Option.some.inj hF) rfl hs dX1_rowTogether_31
set_option maxHeartbeats 4000000 in
set_option maxRecDepth 100000 in
theorem c_X1_owedByShip (G : GT) (l : Launch) (a : Nat → Nat) (S : RS) (x1 : Int32) (r : Int64) (hF : F_X1_owedByShip S x1 = some r) : MT G l yX1_owedByShip cX1_owedByShip 2 (some .long) 1 24 [.ref (a 0), .int x1] (WR G a S) (some (.long r)) (WR G a S) := by
  refine MT.of (by decide) (Nat.le_of_ble_eq_true rfl) ?_
  intro p e s m args below meth c A ls hx hb hr hml hown hts hlk hE hA hs hl Q hQ
  have hl : lv_has ls 2 [(0, .ref (a 0)), (1, .int x1)] := hl
  unfold F_X1_owedByShip at hF
  refine lv_aload_n hx hb dX1_owedByShip_0 rfl (lv_at hl 0 rfl) ?_
  refine fg_X1_26 hx hb hown hts hE hs 5 rfl (v := .ref (a 3)) rfl dX1_owedByShip_1 ?_
  refine lv_iload_n hx hb dX1_owedByShip_4 rfl (lv_at hl 1 rfl) ?_
  obtain ⟨q1, hq1, hF⟩ := bd hF
  refine sx_S (As := [.ref (a 3), .int x1]) (rest := []) (st1 := [.long q1]) (c_X1_rowTogether G l (a 3) (r_owed S) x1 q1 hq1) v_X1_152 ⟨(Nat.le_of_ble_eq_true rfl), (Nat.le_of_ble_eq_true rfl)⟩ hx hb hml hown hts hE hA hs ⟨Nat.le_refl 0, Nat.le_refl 0⟩ rfl rfl rfl hl.1 (Nat.le_of_ble_eq_true rfl) dX1_owedByShip_5 (pR_owed G a S (r_owed S)) (ws' := WR G a S) (pR_owed G a S (r_owed S)) (fun H locs hs => ?_)
  exact sx_lret hx hb hr hlk hQ (Option.some.inj hF) rfl hs dX1_owedByShip_8
set_option maxHeartbeats 4000000 in
set_option maxRecDepth 100000 in
theorem c_X1_paidToClaim (G : GT) (l : Launch) (a : Nat → Nat) (S : RS) (x1 : Int32) (x2 : Int32) (r : Int64) (hF : F_X1_paidToClaim S x1 x2 = some r) : MT G l yX1_paidToClaim cX1_paidToClaim 3 (some .long) 0 0 [.ref (a 0), .int x1, .int x2] (WR G a S) (some (.long r)) (WR G a S) := by
  refine MT.of (by decide) (Nat.le_of_ble_eq_true rfl) ?_
  intro p e s m args below meth c A ls hx hb hr hml hown hts hlk hE hA hs hl Q hQ
  have hl : lv_has ls 3 [(0, .ref (a 0)), (1, .int x1), (2, .int x2)] := hl
  unfold F_X1_paidToClaim at hF
  refine lv_aload_n hx hb dX1_paidToClaim_0 rfl (lv_at hl 0 rfl) ?_
  refine fg_X1_29 hx hb hown hts hE hs 5 rfl (v := .ref (a 4)) rfl dX1_paidToClaim_1 ?_
  refine lv_iload_n hx hb dX1_paidToClaim_4 rfl (lv_at hl 1 rfl) ?_
  refine lv_bipush (v := (16 : Int32)) hx hb dX1_paidToClaim_5 (by decide) ?_
  refine lv_imul hx hb dX1_paidToClaim_7 ?_
  refine lv_iconst (v := (4 : Int32)) hx hb dX1_paidToClaim_8 (by decide) ?_
  refine lv_iadd hx hb dX1_paidToClaim_9 ?_
  refine lv_iload_n hx hb dX1_paidToClaim_10 rfl (lv_at hl 2 rfl) ?_
  refine lv_iadd hx hb dX1_paidToClaim_11 ?_
  obtain ⟨v1, hv1, hF⟩ := bd hF
  refine sx_lald hx hb hE hs 9 (f := r_paid S) rfl hv1 dX1_paidToClaim_12 ?_
  exact sx_lret hx hb hr hlk hQ (Option.some.inj hF) rfl hs dX1_paidToClaim_13
set_option maxHeartbeats 4000000 in
set_option maxRecDepth 100000 in
theorem c_X1_paidToShip (G : GT) (l : Launch) (a : Nat → Nat) (S : RS) (x1 : Int32) (x2 : Int32) (r : Int64) (hF : F_X1_paidToShip S x1 x2 = some r) : MT G l yX1_paidToShip cX1_paidToShip 3 (some .long) 0 0 [.ref (a 0), .int x1, .int x2] (WR G a S) (some (.long r)) (WR G a S) := by
  refine MT.of (by decide) (Nat.le_of_ble_eq_true rfl) ?_
  intro p e s m args below meth c A ls hx hb hr hml hown hts hlk hE hA hs hl Q hQ
  have hl : lv_has ls 3 [(0, .ref (a 0)), (1, .int x1), (2, .int x2)] := hl
  unfold F_X1_paidToShip at hF
  refine lv_aload_n hx hb dX1_paidToShip_0 rfl (lv_at hl 0 rfl) ?_
  refine fg_X1_29 hx hb hown hts hE hs 5 rfl (v := .ref (a 4)) rfl dX1_paidToShip_1 ?_
  refine lv_iload_n hx hb dX1_paidToShip_4 rfl (lv_at hl 1 rfl) ?_
  refine lv_bipush (v := (16 : Int32)) hx hb dX1_paidToShip_5 (by decide) ?_
  refine lv_imul hx hb dX1_paidToShip_7 ?_
  refine lv_iload_n hx hb dX1_paidToShip_8 rfl (lv_at hl 2 rfl) ?_
  refine lv_iadd hx hb dX1_paidToShip_9 ?_
  obtain ⟨v1, hv1, hF⟩ := bd hF
  refine sx_lald hx hb hE hs 9 (f := r_paid S) rfl hv1 dX1_paidToShip_10 ?_
  exact sx_lret hx hb hr hlk hQ (Option.some.inj hF) rfl hs dX1_paidToShip_11
set_option maxHeartbeats 4000000 in
set_option maxRecDepth 100000 in
theorem c_X1_paidByShip (G : GT) (l : Launch) (a : Nat → Nat) (S : RS) (x1 : Int32) (r : Int64) (hF : F_X1_paidByShip S x1 = some r) : MT G l yX1_paidByShip cX1_paidByShip 2 (some .long) 1 24 [.ref (a 0), .int x1] (WR G a S) (some (.long r)) (WR G a S) := by
  refine MT.of (by decide) (Nat.le_of_ble_eq_true rfl) ?_
  intro p e s m args below meth c A ls hx hb hr hml hown hts hlk hE hA hs hl Q hQ
  have hl : lv_has ls 2 [(0, .ref (a 0)), (1, .int x1)] := hl
  unfold F_X1_paidByShip at hF
  refine lv_aload_n hx hb dX1_paidByShip_0 rfl (lv_at hl 0 rfl) ?_
  refine fg_X1_29 hx hb hown hts hE hs 5 rfl (v := .ref (a 4)) rfl dX1_paidByShip_1 ?_
  refine lv_iload_n hx hb dX1_paidByShip_4 rfl (lv_at hl 1 rfl) ?_
  obtain ⟨q1, hq1, hF⟩ := bd hF
  refine sx_S (As := [.ref (a 4), .int x1]) (rest := []) (st1 := [.long q1]) (c_X1_rowTogether G l (a 4) (r_paid S) x1 q1 hq1) v_X1_152 ⟨(Nat.le_of_ble_eq_true rfl), (Nat.le_of_ble_eq_true rfl)⟩ hx hb hml hown hts hE hA hs ⟨Nat.le_refl 0, Nat.le_refl 0⟩ rfl rfl rfl hl.1 (Nat.le_of_ble_eq_true rfl) dX1_paidByShip_5 (pR_paid G a S (r_paid S)) (ws' := WR G a S) (pR_paid G a S (r_paid S)) (fun H locs hs => ?_)
  exact sx_lret hx hb hr hlk hQ (Option.some.inj hF) rfl hs dX1_paidByShip_8
set_option maxHeartbeats 4000000 in
set_option maxRecDepth 100000 in
theorem c_X1_paidToClaimByAll (G : GT) (l : Launch) (a : Nat → Nat) (S : RS) (x1 : Int32) (r : Int64) (hF : F_X1_paidToClaimByAll S x1 = some r) : MT G l yX1_paidToClaimByAll cX1_paidToClaimByAll 5 (some .long) 1 22 [.ref (a 0), .int x1] (WR G a S) (some (.long r)) (WR G a S) := by
  refine MT.of (by decide) (Nat.le_of_ble_eq_true rfl) ?_
  intro p e s m args below meth c A ls hx hb hr hml hown hts hlk hE hA hs hl Q hQ
  have hl : lv_has ls 5 [(0, .ref (a 0)), (1, .int x1)] := hl
  have hL5 : ∀ (x1 : Int32) (k : Int64 → Option (Int64)) (hk : ∀ (x2 : Int64) (H : Heap) (locs : List Loc) (ls : Array Slot), k x2 = some r → SI G A s H locs (WR G a S) → lv_has ls 5 [(2, .long x2)] → W p l e (RM 1 22) s m args below meth c H locs 0 0 Q (F0 m 33 ls [])) (fu : Nat) (x2 : Int64) (x4 : Int32) (H : Heap) (locs : List Loc) (ls : Array Slot), lo2 (B_X1_paidToClaimByAll_5 S x1 k) fu x2 x4 = some r → SI G A s H locs (WR G a S) → lv_has ls 5 [(0, .ref (a 0)), (1, .int x1), (2, .long x2), (4, .int x4)] → W p l e (RM 1 22) s m args below meth c H locs 0 0 Q (F0 m 5 ls []) := by
    intro x1 k hk fu
    induction fu with
    | zero =>
      intro x2 x4 H locs ls hF hs hl
      exact nomatch (show (none : Option (Int64)) = some r from hF)
    | succ fu hrec =>
      intro x2 x4 H locs ls hF hs hl
      have hF : (B_X1_paidToClaimByAll_5 S x1 k) (lo2 (B_X1_paidToClaimByAll_5 S x1 k) fu) x2 x4 = some r := hF
      unfold B_X1_paidToClaimByAll_5 at hF
      refine lv_iload hx hb dX1_paidToClaimByAll_5 (lv_at hl 3 rfl) ?_
      refine lv_aload_n hx hb dX1_paidToClaimByAll_7 rfl (lv_at hl 0 rfl) ?_
      refine fg_X1_12 hx hb hown hts hE hs 5 rfl (v := .ref (a 6)) rfl dX1_paidToClaimByAll_8 ?_
      refine fg_X1_61 hx hb hown hts hE hs 0 rfl (v := .int (t_ships (r_told S))) rfl dX1_paidToClaimByAll_11 ?_
      refine lv_icmp_ge (tgt := 33) hx hb dX1_paidToClaimByAll_14 (by decide) (fun hc => ?_) (fun hc => ?_)
      · have hF := (if_pos hc).symm.trans hF
        exact hk x2 _ _ _ hF hs (lv_sub hl [2] rfl)
      · have hF := (if_neg hc).symm.trans hF
        refine lv_lload_n hx hb dX1_paidToClaimByAll_17 rfl (lv_at hl 2 rfl) ?_
        refine lv_aload_n hx hb dX1_paidToClaimByAll_18 rfl (lv_at hl 0 rfl) ?_
        refine lv_iload hx hb dX1_paidToClaimByAll_19 (lv_at hl 3 rfl) ?_
        refine lv_iload_n hx hb dX1_paidToClaimByAll_21 rfl (lv_at hl 1 rfl) ?_
        obtain ⟨q1, hq1, hF⟩ := bd hF
        refine sx_V (As := [.int x4, .int x1]) (rest := [.long x2]) (st1 := [.long q1, .long x2]) (c_X1_paidToClaim G l a S x4 x1 q1 hq1) v_X1_156 ⟨(Nat.le_of_ble_eq_true rfl), (Nat.le_of_ble_eq_true rfl)⟩ hx hb hml hown hts hE hA hs ⟨Nat.le_refl 0, Nat.le_refl 0⟩ 5 rfl rfl rfl rfl rfl hl.1 (Nat.le_of_ble_eq_true rfl) dX1_paidToClaimByAll_22 (pmW _) (ws' := WR G a S) (pmW _) (fun H locs hs => ?_)
        refine lv_ladd hx hb dX1_paidToClaimByAll_25 ?_
        obtain ⟨v2, ev2, hF⟩ := nm_some hF
        refine sx_topl ev2 ?_
        refine lv_lstore_n (lv' := [(2, .long v2), (0, .ref (a 0)), (1, .int x1), (4, .int x4)]) hx hb dX1_paidToClaimByAll_26 rfl hl (by decide) rfl (fun ls hl => ?_)
        obtain ⟨v3, ev3, hF⟩ := nm_some hF
        refine lv_iinc (v := v3) (lv' := [(4, .int v3), (2, .long v2), (0, .ref (a 0)), (1, .int x1)]) hx hb dX1_paidToClaimByAll_27 hl (k := 3) rfl (by rw [ev3]; rfl) (by decide) rfl (fun ls hl => ?_)
        refine lv_goto (tgt := 5) hx hb dX1_paidToClaimByAll_30 (by decide) ?_
        exact hrec v2 v3 _ _ _ hF hs (lv_sub hl [2, 3, 1, 0] rfl)
  unfold F_X1_paidToClaimByAll at hF
  refine lv_lconst (v := (0 : Int64)) hx hb dX1_paidToClaimByAll_0 (by decide) ?_
  refine lv_lstore_n (lv' := [(2, .long (0 : Int64)), (0, .ref (a 0)), (1, .int x1)]) hx hb dX1_paidToClaimByAll_1 rfl hl (by decide) rfl (fun ls hl => ?_)
  refine lv_iconst (v := (0 : Int32)) hx hb dX1_paidToClaimByAll_2 (by decide) ?_
  refine lv_istore (lv' := [(4, .int (0 : Int32)), (2, .long (0 : Int64)), (0, .ref (a 0)), (1, .int x1)]) hx hb dX1_paidToClaimByAll_3 hl (by decide) rfl (fun ls hl => ?_)
  refine hL5 x1 _ (fun z4 H locs ls hF hs hl => ?_) FU (0 : Int64) (0 : Int32) _ _ _ hF hs (lv_sub hl [2, 3, 1, 0] rfl)
  refine lv_lload_n hx hb dX1_paidToClaimByAll_33 rfl (lv_at hl 0 rfl) ?_
  exact sx_lret hx hb hr hlk hQ (Option.some.inj hF) rfl hs dX1_paidToClaimByAll_34
set_option maxHeartbeats 4000000 in
set_option maxRecDepth 100000 in
theorem c_X1_givenBack (G : GT) (l : Launch) (a : Nat → Nat) (S : RS) (x1 : Int32) (r : Int64) (hF : F_X1_givenBack S x1 = some r) : MT G l yX1_givenBack cX1_givenBack 2 (some .long) 4 93 [.ref (a 0), .int x1] (WR G a S) (some (.long r)) (WR G a S) := by
  refine MT.of (by decide) (Nat.le_of_ble_eq_true rfl) ?_
  intro p e s m args below meth c A ls hx hb hr hml hown hts hlk hE hA hs hl Q hQ
  have hl : lv_has ls 2 [(0, .ref (a 0)), (1, .int x1)] := hl
  unfold F_X1_givenBack at hF
  refine lv_aload_n hx hb dX1_givenBack_0 rfl (lv_at hl 0 rfl) ?_
  refine fg_X1_12 hx hb hown hts hE hs 5 rfl (v := .ref (a 6)) rfl dX1_givenBack_1 ?_
  refine lv_iload_n hx hb dX1_givenBack_4 rfl (lv_at hl 1 rfl) ?_
  obtain ⟨q1, hq1, hF⟩ := bd hF
  refine sx_N (As := [.int x1]) (rest := []) (st1 := [.int q1]) (c_X2_isGoods G l (fun k => a (6 + k)) (r_told S) x1 q1 hq1) v_X1_97 ⟨(Nat.le_of_ble_eq_true rfl), (Nat.le_of_ble_eq_true rfl)⟩ hx hb hml hown hts hE hA hs ⟨Nat.le_refl 0, Nat.le_refl 0⟩ 0 rfl rfl rfl rfl rfl hl.1 (Nat.le_of_ble_eq_true rfl) dX1_givenBack_5 (pR_told G a S (r_told S)) (ws' := WR G a S) (pR_told G a S (r_told S)) (fun H locs hs => ?_)
  refine lv_if_eq (tgt := 31) hx hb dX1_givenBack_8 (by decide) (fun hc => ?_) (fun hc => ?_)
  · have hF := (if_pos hc).symm.trans hF
    refine lv_lconst (v := (0 : Int64)) hx hb dX1_givenBack_31 (by decide) ?_
    exact sx_lret hx hb hr hlk hQ (Option.some.inj hF) rfl hs dX1_givenBack_32
  · have hF := (if_neg hc).symm.trans hF
    refine lv_aload_n hx hb dX1_givenBack_11 rfl (lv_at hl 0 rfl) ?_
    refine fg_X1_12 hx hb hown hts hE hs 5 rfl (v := .ref (a 6)) rfl dX1_givenBack_12 ?_
    refine lv_aload_n hx hb dX1_givenBack_15 rfl (lv_at hl 0 rfl) ?_
    refine fg_X1_12 hx hb hown hts hE hs 5 rfl (v := .ref (a 6)) rfl dX1_givenBack_16 ?_
    refine lv_iload_n hx hb dX1_givenBack_19 rfl (lv_at hl 1 rfl) ?_
    refine lv_iconst (v := (1 : Int32)) hx hb dX1_givenBack_20 (by decide) ?_
    obtain ⟨q2, hq2, hF⟩ := bd hF
    refine sx_N (As := [.int x1, .int (1 : Int32)]) (rest := [.ref (a 6)]) (st1 := [.int q2, .ref (a 6)]) (c_X2_ofClaim G l (fun k => a (6 + k)) (r_told S) x1 (1 : Int32) q2 hq2) v_X1_94 ⟨(Nat.le_of_ble_eq_true rfl), (Nat.le_of_ble_eq_true rfl)⟩ hx hb hml hown hts hE hA hs ⟨Nat.le_refl 0, Nat.le_refl 0⟩ 0 rfl rfl rfl rfl rfl hl.1 (Nat.le_of_ble_eq_true rfl) dX1_givenBack_21 (pR_told G a S (r_told S)) (ws' := WR G a S) (pR_told G a S (r_told S)) (fun H locs hs => ?_)
    refine lv_iconst (v := (4 : Int32)) hx hb dX1_givenBack_24 (by decide) ?_
    obtain ⟨q3, hq3, hF⟩ := bd hF
    refine sx_N (As := [.int q2, .int (4 : Int32)]) (rest := []) (st1 := [.int q3]) (c_X2_ofShip G l (fun k => a (6 + k)) (r_told S) q2 (4 : Int32) q3 hq3) v_X1_64 ⟨(Nat.le_of_ble_eq_true rfl), (Nat.le_of_ble_eq_true rfl)⟩ hx hb hml hown hts hE hA hs ⟨Nat.le_refl 0, Nat.le_refl 0⟩ 0 rfl rfl rfl rfl rfl hl.1 (Nat.le_of_ble_eq_true rfl) dX1_givenBack_25 (pR_told G a S (r_told S)) (ws' := WR G a S) (pR_told G a S (r_told S)) (fun H locs hs => ?_)
    refine lv_if_ne (tgt := 33) hx hb dX1_givenBack_28 (by decide) (fun hc => ?_) (fun hc => ?_)
    · have hF := (if_neg hc).symm.trans hF
      refine lv_aload_n hx hb dX1_givenBack_33 rfl (lv_at hl 0 rfl) ?_
      refine lv_iload_n hx hb dX1_givenBack_34 rfl (lv_at hl 1 rfl) ?_
      obtain ⟨q4, hq4, hF⟩ := bd hF
      refine sx_V (As := [.int x1]) (rest := []) (st1 := [.long q4]) (c_X1_backForClaim G l a S x1 q4 hq4) v_X1_159 ⟨(Nat.le_of_ble_eq_true rfl), (Nat.le_of_ble_eq_true rfl)⟩ hx hb hml hown hts hE hA hs ⟨Nat.le_refl 0, Nat.le_refl 0⟩ 5 rfl rfl rfl rfl rfl hl.1 (Nat.le_of_ble_eq_true rfl) dX1_givenBack_35 (pmW _) (ws' := WR G a S) (pmW _) (fun H locs hs => ?_)
      refine lv_aload_n hx hb dX1_givenBack_38 rfl (lv_at hl 0 rfl) ?_
      refine lv_iload_n hx hb dX1_givenBack_39 rfl (lv_at hl 1 rfl) ?_
      obtain ⟨q5, hq5, hF⟩ := bd hF
      refine sx_V (As := [.int x1]) (rest := [.long q4]) (st1 := [.long q5, .long q4]) (c_X1_paidToClaimByAll G l a S x1 q5 hq5) v_X1_163 ⟨(Nat.le_of_ble_eq_true rfl), (Nat.le_of_ble_eq_true rfl)⟩ hx hb hml hown hts hE hA hs ⟨Nat.le_refl 0, Nat.le_refl 0⟩ 5 rfl rfl rfl rfl rfl hl.1 (Nat.le_of_ble_eq_true rfl) dX1_givenBack_40 (pmW _) (ws' := WR G a S) (pmW _) (fun H locs hs => ?_)
      refine va_mmin_long hx hb (hml.trans hl.1.symm) hown (hts _ g592) (hts _ g593) (hts _ g131) (hts _ g594) (Nat.le_of_ble_eq_true rfl) (Nat.le_of_ble_eq_true rfl) (Nat.le_refl 0) (Nat.le_refl 0) dX1_givenBack_43 ?_
      obtain ⟨v6, ev6, hF⟩ := nm_some hF
      refine sx_topl ev6 ?_
      exact sx_lret hx hb hr hlk hQ (Option.some.inj hF) rfl hs dX1_givenBack_46
    · have hF := (if_pos hc).symm.trans hF
      refine lv_lconst (v := (0 : Int64)) hx hb dX1_givenBack_31 (by decide) ?_
      exact sx_lret hx hb hr hlk hQ (Option.some.inj hF) rfl hs dX1_givenBack_32
set_option maxHeartbeats 4000000 in
set_option maxRecDepth 100000 in
theorem c_X1_leftToClaim (G : GT) (l : Launch) (a : Nat → Nat) (S : RS) (x1 : Int32) (r : Int64) (hF : F_X1_leftToClaim S x1 = some r) : MT G l yX1_leftToClaim cX1_leftToClaim 2 (some .long) 5 114 [.ref (a 0), .int x1] (WR G a S) (some (.long r)) (WR G a S) := by
  refine MT.of (by decide) (Nat.le_of_ble_eq_true rfl) ?_
  intro p e s m args below meth c A ls hx hb hr hml hown hts hlk hE hA hs hl Q hQ
  have hl : lv_has ls 2 [(0, .ref (a 0)), (1, .int x1)] := hl
  unfold F_X1_leftToClaim at hF
  refine lv_aload_n hx hb dX1_leftToClaim_0 rfl (lv_at hl 0 rfl) ?_
  refine lv_iload_n hx hb dX1_leftToClaim_1 rfl (lv_at hl 1 rfl) ?_
  obtain ⟨q1, hq1, hF⟩ := bd hF
  refine sx_V (As := [.int x1]) (rest := []) (st1 := [.long q1]) (c_X1_paidToClaimByAll G l a S x1 q1 hq1) v_X1_163 ⟨(Nat.le_of_ble_eq_true rfl), (Nat.le_of_ble_eq_true rfl)⟩ hx hb hml hown hts hE hA hs ⟨Nat.le_refl 0, Nat.le_refl 0⟩ 5 rfl rfl rfl rfl rfl hl.1 (Nat.le_of_ble_eq_true rfl) dX1_leftToClaim_2 (pmW _) (ws' := WR G a S) (pmW _) (fun H locs hs => ?_)
  refine lv_aload_n hx hb dX1_leftToClaim_5 rfl (lv_at hl 0 rfl) ?_
  refine lv_iload_n hx hb dX1_leftToClaim_6 rfl (lv_at hl 1 rfl) ?_
  obtain ⟨q2, hq2, hF⟩ := bd hF
  refine sx_V (As := [.int x1]) (rest := [.long q1]) (st1 := [.long q2, .long q1]) (c_X1_givenBack G l a S x1 q2 hq2) v_X1_166 ⟨(Nat.le_of_ble_eq_true rfl), (Nat.le_of_ble_eq_true rfl)⟩ hx hb hml hown hts hE hA hs ⟨Nat.le_refl 0, Nat.le_refl 0⟩ 5 rfl rfl rfl rfl rfl hl.1 (Nat.le_of_ble_eq_true rfl) dX1_leftToClaim_7 (pmW _) (ws' := WR G a S) (pmW _) (fun H locs hs => ?_)
  refine lv_lsub hx hb dX1_leftToClaim_10 ?_
  exact sx_lret hx hb hr hlk hQ (Option.some.inj hF) rfl hs dX1_leftToClaim_11
set_option maxHeartbeats 4000000 in
set_option maxRecDepth 100000 in
theorem c_X1_netOf (G : GT) (l : Launch) (a : Nat → Nat) (S : RS) (x1 : Int32) (r : Int64) (hF : F_X1_netOf S x1 = some r) : MT G l yX1_netOf cX1_netOf 5 (some .long) 5 114 [.ref (a 0), .int x1] (WR G a S) (some (.long r)) (WR G a S) := by
  refine MT.of (by decide) (Nat.le_of_ble_eq_true rfl) ?_
  intro p e s m args below meth c A ls hx hb hr hml hown hts hlk hE hA hs hl Q hQ
  have hl : lv_has ls 5 [(0, .ref (a 0)), (1, .int x1)] := hl
  have hL21 : ∀ (x1 : Int32) (k : Int64 → Option (Int64)) (hk : ∀ (x2 : Int64) (H : Heap) (locs : List Loc) (ls : Array Slot), k x2 = some r → SI G A s H locs (WR G a S) → lv_has ls 5 [(0, .ref (a 0)), (1, .int x1), (2, .long x2)] → W p l e (RM 5 114) s m args below meth c H locs 0 0 Q (F0 m 49 ls [])) (fu : Nat) (x2 : Int64) (x4 : Int32) (H : Heap) (locs : List Loc) (ls : Array Slot), lo2 (B_X1_netOf_21 S x1 k) fu x2 x4 = some r → SI G A s H locs (WR G a S) → lv_has ls 5 [(0, .ref (a 0)), (1, .int x1), (2, .long x2), (4, .int x4)] → W p l e (RM 5 114) s m args below meth c H locs 0 0 Q (F0 m 21 ls []) := by
    intro x1 k hk fu
    induction fu with
    | zero =>
      intro x2 x4 H locs ls hF hs hl
      exact nomatch (show (none : Option (Int64)) = some r from hF)
    | succ fu hrec =>
      intro x2 x4 H locs ls hF hs hl
      have hF : (B_X1_netOf_21 S x1 k) (lo2 (B_X1_netOf_21 S x1 k) fu) x2 x4 = some r := hF
      unfold B_X1_netOf_21 at hF
      refine lv_iload hx hb dX1_netOf_21 (lv_at hl 3 rfl) ?_
      refine lv_aload_n hx hb dX1_netOf_23 rfl (lv_at hl 0 rfl) ?_
      refine fg_X1_12 hx hb hown hts hE hs 5 rfl (v := .ref (a 6)) rfl dX1_netOf_24 ?_
      refine fg_X1_61 hx hb hown hts hE hs 0 rfl (v := .int (t_ships (r_told S))) rfl dX1_netOf_27 ?_
      refine lv_icmp_ge (tgt := 49) hx hb dX1_netOf_30 (by decide) (fun hc => ?_) (fun hc => ?_)
      · have hF := (if_pos hc).symm.trans hF
        exact hk x2 _ _ _ hF hs (lv_sub hl [0, 1, 2] rfl)
      · have hF := (if_neg hc).symm.trans hF
        refine lv_lload_n hx hb dX1_netOf_33 rfl (lv_at hl 2 rfl) ?_
        refine lv_aload_n hx hb dX1_netOf_34 rfl (lv_at hl 0 rfl) ?_
        refine lv_iload hx hb dX1_netOf_35 (lv_at hl 3 rfl) ?_
        refine lv_iload_n hx hb dX1_netOf_37 rfl (lv_at hl 1 rfl) ?_
        obtain ⟨q4, hq4, hF⟩ := bd hF
        refine sx_V (As := [.int x4, .int x1]) (rest := [.long x2]) (st1 := [.long q4, .long x2]) (c_X1_paidToShip G l a S x4 x1 q4 hq4) v_X1_172 ⟨(Nat.le_of_ble_eq_true rfl), (Nat.le_of_ble_eq_true rfl)⟩ hx hb hml hown hts hE hA hs ⟨Nat.le_refl 0, Nat.le_refl 0⟩ 5 rfl rfl rfl rfl rfl hl.1 (Nat.le_of_ble_eq_true rfl) dX1_netOf_38 (pmW _) (ws' := WR G a S) (pmW _) (fun H locs hs => ?_)
        refine lv_ladd hx hb dX1_netOf_41 ?_
        obtain ⟨v5, ev5, hF⟩ := nm_some hF
        refine sx_topl ev5 ?_
        refine lv_lstore_n (lv' := [(2, .long v5), (0, .ref (a 0)), (1, .int x1), (4, .int x4)]) hx hb dX1_netOf_42 rfl hl (by decide) rfl (fun ls hl => ?_)
        obtain ⟨v6, ev6, hF⟩ := nm_some hF
        refine lv_iinc (v := v6) (lv' := [(4, .int v6), (2, .long v5), (0, .ref (a 0)), (1, .int x1)]) hx hb dX1_netOf_43 hl (k := 3) rfl (by rw [ev6]; rfl) (by decide) rfl (fun ls hl => ?_)
        refine lv_goto (tgt := 21) hx hb dX1_netOf_46 (by decide) ?_
        exact hrec v5 v6 _ _ _ hF hs (lv_sub hl [2, 3, 1, 0] rfl)
  have hJ87_52 : ∀ (x1 : Int32) (k : Int64 → Option (Int64)) (rc : Int64 → Int32 → Option (Int64)) (hk : ∀ (x2 : Int64) (H : Heap) (locs : List Loc) (ls : Array Slot), k x2 = some r → SI G A s H locs (WR G a S) → lv_has ls 5 [(2, .long x2)] → W p l e (RM 5 114) s m args below meth c H locs 0 0 Q (F0 m 93 ls [])) (hrec : ∀ (x2 : Int64) (x4 : Int32) (H : Heap) (locs : List Loc) (ls : Array Slot), rc x2 x4 = some r → SI G A s H locs (WR G a S) → lv_has ls 5 [(0, .ref (a 0)), (1, .int x1), (2, .long x2), (4, .int x4)] → W p l e (RM 5 114) s m args below meth c H locs 0 0 Q (F0 m 52 ls [])) (x2 : Int64) (x4 : Int32) (H : Heap) (locs : List Loc) (ls : Array Slot), J_X1_netOf_87 k rc S x1 x2 x4 = some r → SI G A s H locs (WR G a S) → lv_has ls 5 [(0, .ref (a 0)), (1, .int x1), (2, .long x2), (4, .int x4)] → W p l e (RM 5 114) s m args below meth c H locs 0 0 Q (F0 m 87 ls []) := by
    intro x1 k rc hk hrec x2 x4 H locs ls hF hs hl
    unfold J_X1_netOf_87 at hF
    obtain ⟨v9, ev9, hF⟩ := nm_some hF
    refine lv_iinc (v := v9) (lv' := [(4, .int v9), (0, .ref (a 0)), (1, .int x1), (2, .long x2)]) hx hb dX1_netOf_87 hl (k := 3) rfl (by rw [ev9]; rfl) (by decide) rfl (fun ls hl => ?_)
    refine lv_goto (tgt := 52) hx hb dX1_netOf_90 (by decide) ?_
    exact hrec x2 v9 _ _ _ hF hs (lv_sub hl [1, 2, 3, 0] rfl)
  have hL52 : ∀ (x1 : Int32) (k : Int64 → Option (Int64)) (hk : ∀ (x2 : Int64) (H : Heap) (locs : List Loc) (ls : Array Slot), k x2 = some r → SI G A s H locs (WR G a S) → lv_has ls 5 [(2, .long x2)] → W p l e (RM 5 114) s m args below meth c H locs 0 0 Q (F0 m 93 ls [])) (fu : Nat) (x2 : Int64) (x4 : Int32) (H : Heap) (locs : List Loc) (ls : Array Slot), lo2 (B_X1_netOf_52 S x1 k) fu x2 x4 = some r → SI G A s H locs (WR G a S) → lv_has ls 5 [(0, .ref (a 0)), (1, .int x1), (2, .long x2), (4, .int x4)] → W p l e (RM 5 114) s m args below meth c H locs 0 0 Q (F0 m 52 ls []) := by
    intro x1 k hk fu
    induction fu with
    | zero =>
      intro x2 x4 H locs ls hF hs hl
      exact nomatch (show (none : Option (Int64)) = some r from hF)
    | succ fu hrec =>
      intro x2 x4 H locs ls hF hs hl
      have hF : (B_X1_netOf_52 S x1 k) (lo2 (B_X1_netOf_52 S x1 k) fu) x2 x4 = some r := hF
      unfold B_X1_netOf_52 at hF
      refine lv_iload hx hb dX1_netOf_52 (lv_at hl 3 rfl) ?_
      refine lv_aload_n hx hb dX1_netOf_54 rfl (lv_at hl 0 rfl) ?_
      refine fg_X1_12 hx hb hown hts hE hs 5 rfl (v := .ref (a 6)) rfl dX1_netOf_55 ?_
      refine fg_X1_84 hx hb hown hts hE hs 0 rfl (v := .int (t_claims (r_told S))) rfl dX1_netOf_58 ?_
      refine lv_icmp_ge (tgt := 93) hx hb dX1_netOf_61 (by decide) (fun hc => ?_) (fun hc => ?_)
      · have hF := (if_pos hc).symm.trans hF
        exact hk x2 _ _ _ hF hs (lv_sub hl [2] rfl)
      · have hF := (if_neg hc).symm.trans hF
        refine lv_aload_n hx hb dX1_netOf_64 rfl (lv_at hl 0 rfl) ?_
        refine fg_X1_12 hx hb hown hts hE hs 5 rfl (v := .ref (a 6)) rfl dX1_netOf_65 ?_
        refine lv_iload hx hb dX1_netOf_68 (lv_at hl 3 rfl) ?_
        refine lv_iconst (v := (1 : Int32)) hx hb dX1_netOf_70 (by decide) ?_
        obtain ⟨q8, hq8, hF⟩ := bd hF
        refine sx_N (As := [.int x4, .int (1 : Int32)]) (rest := []) (st1 := [.int q8]) (c_X2_ofClaim G l (fun k => a (6 + k)) (r_told S) x4 (1 : Int32) q8 hq8) v_X1_94 ⟨(Nat.le_of_ble_eq_true rfl), (Nat.le_of_ble_eq_true rfl)⟩ hx hb hml hown hts hE hA hs ⟨Nat.le_refl 0, Nat.le_refl 0⟩ 0 rfl rfl rfl rfl rfl hl.1 (Nat.le_of_ble_eq_true rfl) dX1_netOf_71 (pR_told G a S (r_told S)) (ws' := WR G a S) (pR_told G a S (r_told S)) (fun H locs hs => ?_)
        refine lv_iload_n hx hb dX1_netOf_74 rfl (lv_at hl 1 rfl) ?_
        refine lv_icmp_ne (tgt := 87) hx hb dX1_netOf_75 (by decide) (fun hc => ?_) (fun hc => ?_)
        · have hF := (if_neg hc).symm.trans hF
          exact hJ87_52 x1 _ _ hk hrec x2 x4 _ _ _ hF hs (lv_sub hl [0, 1, 2, 3] rfl)
        · have hF := (if_pos hc).symm.trans hF
          refine lv_lload_n hx hb dX1_netOf_78 rfl (lv_at hl 2 rfl) ?_
          refine lv_aload_n hx hb dX1_netOf_79 rfl (lv_at hl 0 rfl) ?_
          refine lv_iload hx hb dX1_netOf_80 (lv_at hl 3 rfl) ?_
          obtain ⟨q10, hq10, hF⟩ := bd hF
          refine sx_V (As := [.int x4]) (rest := [.long x2]) (st1 := [.long q10, .long x2]) (c_X1_givenBack G l a S x4 q10 hq10) v_X1_166 ⟨(Nat.le_of_ble_eq_true rfl), (Nat.le_of_ble_eq_true rfl)⟩ hx hb hml hown hts hE hA hs ⟨Nat.le_refl 0, Nat.le_refl 0⟩ 5 rfl rfl rfl rfl rfl hl.1 (Nat.le_of_ble_eq_true rfl) dX1_netOf_82 (pmW _) (ws' := WR G a S) (pmW _) (fun H locs hs => ?_)
          refine lv_ladd hx hb dX1_netOf_85 ?_
          obtain ⟨v11, ev11, hF⟩ := nm_some hF
          refine sx_topl ev11 ?_
          refine lv_lstore_n (lv' := [(2, .long v11), (0, .ref (a 0)), (1, .int x1), (4, .int x4)]) hx hb dX1_netOf_86 rfl hl (by decide) rfl (fun ls hl => ?_)
          exact hJ87_52 x1 _ _ hk hrec v11 x4 _ _ _ hF hs (lv_sub hl [1, 2, 0, 3] rfl)
  unfold F_X1_netOf at hF
  refine lv_aload_n hx hb dX1_netOf_0 rfl (lv_at hl 0 rfl) ?_
  refine lv_iload_n hx hb dX1_netOf_1 rfl (lv_at hl 1 rfl) ?_
  obtain ⟨q1, hq1, hF⟩ := bd hF
  refine sx_V (As := [.int x1]) (rest := []) (st1 := [.long q1]) (c_X1_paidByShip G l a S x1 q1 hq1) v_X1_169 ⟨(Nat.le_of_ble_eq_true rfl), (Nat.le_of_ble_eq_true rfl)⟩ hx hb hml hown hts hE hA hs ⟨Nat.le_refl 0, Nat.le_refl 0⟩ 5 rfl rfl rfl rfl rfl hl.1 (Nat.le_of_ble_eq_true rfl) dX1_netOf_2 (pmW _) (ws' := WR G a S) (pmW _) (fun H locs hs => ?_)
  refine lv_lneg hx hb dX1_netOf_5 ?_
  refine lv_aload_n hx hb dX1_netOf_6 rfl (lv_at hl 0 rfl) ?_
  refine fg_X1_12 hx hb hown hts hE hs 5 rfl (v := .ref (a 6)) rfl dX1_netOf_7 ?_
  refine lv_iload_n hx hb dX1_netOf_10 rfl (lv_at hl 1 rfl) ?_
  refine lv_iconst (v := (2 : Int32)) hx hb dX1_netOf_11 (by decide) ?_
  obtain ⟨q2, hq2, hF⟩ := bd hF
  refine sx_N (As := [.int x1, .int (2 : Int32)]) (rest := [.long (-q1)]) (st1 := [.int q2, .long (-q1)]) (c_X2_ofShip G l (fun k => a (6 + k)) (r_told S) x1 (2 : Int32) q2 hq2) v_X1_64 ⟨(Nat.le_of_ble_eq_true rfl), (Nat.le_of_ble_eq_true rfl)⟩ hx hb hml hown hts hE hA hs ⟨Nat.le_refl 0, Nat.le_refl 0⟩ 0 rfl rfl rfl rfl rfl hl.1 (Nat.le_of_ble_eq_true rfl) dX1_netOf_12 (pR_told G a S (r_told S)) (ws' := WR G a S) (pR_told G a S (r_told S)) (fun H locs hs => ?_)
  refine lv_i2l hx hb dX1_netOf_15 rfl ?_
  refine lv_lsub hx hb dX1_netOf_16 ?_
  obtain ⟨v3, ev3, hF⟩ := nm_some hF
  refine sx_topl ev3 ?_
  refine lv_lstore_n (lv' := [(2, .long v3), (0, .ref (a 0)), (1, .int x1)]) hx hb dX1_netOf_17 rfl hl (by decide) rfl (fun ls hl => ?_)
  refine lv_iconst (v := (0 : Int32)) hx hb dX1_netOf_18 (by decide) ?_
  refine lv_istore (lv' := [(4, .int (0 : Int32)), (2, .long v3), (0, .ref (a 0)), (1, .int x1)]) hx hb dX1_netOf_19 hl (by decide) rfl (fun ls hl => ?_)
  refine hL21 x1 _ (fun z7 H locs ls hF hs hl => ?_) FU v3 (0 : Int32) _ _ _ hF hs (lv_sub hl [2, 3, 1, 0] rfl)
  refine lv_iconst (v := (0 : Int32)) hx hb dX1_netOf_49 (by decide) ?_
  refine lv_istore (lv' := [(4, .int (0 : Int32)), (0, .ref (a 0)), (1, .int x1), (2, .long z7)]) hx hb dX1_netOf_50 hl (by decide) rfl (fun ls hl => ?_)
  refine hL52 x1 _ (fun z12 H locs ls hF hs hl => ?_) FU z7 (0 : Int32) _ _ _ hF hs (lv_sub hl [1, 2, 3, 0] rfl)
  refine lv_lload_n hx hb dX1_netOf_93 rfl (lv_at hl 0 rfl) ?_
  exact sx_lret hx hb hr hlk hQ (Option.some.inj hF) rfl hs dX1_netOf_94
set_option maxHeartbeats 4000000 in
set_option maxRecDepth 100000 in
theorem c_X1_paidToPersons (G : GT) (l : Launch) (a : Nat → Nat) (S : RS) (x1 : Int32) (r : Int64) (hF : F_X1_paidToPersons S x1 = some r) : MT G l yX1_paidToPersons cX1_paidToPersons 5 (some .long) 1 22 [.ref (a 0), .int x1] (WR G a S) (some (.long r)) (WR G a S) := by
  refine MT.of (by decide) (Nat.le_of_ble_eq_true rfl) ?_
  intro p e s m args below meth c A ls hx hb hr hml hown hts hlk hE hA hs hl Q hQ
  have hl : lv_has ls 5 [(0, .ref (a 0)), (1, .int x1)] := hl
  have hJ41_5 : ∀ (x1 : Int32) (k : Int64 → Option (Int64)) (rc : Int64 → Int32 → Option (Int64)) (hk : ∀ (x2 : Int64) (H : Heap) (locs : List Loc) (ls : Array Slot), k x2 = some r → SI G A s H locs (WR G a S) → lv_has ls 5 [(2, .long x2)] → W p l e (RM 1 22) s m args below meth c H locs 0 0 Q (F0 m 47 ls [])) (hrec : ∀ (x2 : Int64) (x4 : Int32) (H : Heap) (locs : List Loc) (ls : Array Slot), rc x2 x4 = some r → SI G A s H locs (WR G a S) → lv_has ls 5 [(0, .ref (a 0)), (1, .int x1), (2, .long x2), (4, .int x4)] → W p l e (RM 1 22) s m args below meth c H locs 0 0 Q (F0 m 5 ls [])) (x2 : Int64) (x4 : Int32) (H : Heap) (locs : List Loc) (ls : Array Slot), J_X1_paidToPersons_41 k rc S x1 x2 x4 = some r → SI G A s H locs (WR G a S) → lv_has ls 5 [(0, .ref (a 0)), (1, .int x1), (2, .long x2), (4, .int x4)] → W p l e (RM 1 22) s m args below meth c H locs 0 0 Q (F0 m 41 ls []) := by
    intro x1 k rc hk hrec x2 x4 H locs ls hF hs hl
    unfold J_X1_paidToPersons_41 at hF
    obtain ⟨v2, ev2, hF⟩ := nm_some hF
    refine lv_iinc (v := v2) (lv' := [(4, .int v2), (0, .ref (a 0)), (1, .int x1), (2, .long x2)]) hx hb dX1_paidToPersons_41 hl (k := 3) rfl (by rw [ev2]; rfl) (by decide) rfl (fun ls hl => ?_)
    refine lv_goto (tgt := 5) hx hb dX1_paidToPersons_44 (by decide) ?_
    exact hrec x2 v2 _ _ _ hF hs (lv_sub hl [1, 2, 3, 0] rfl)
  have hL5 : ∀ (x1 : Int32) (k : Int64 → Option (Int64)) (hk : ∀ (x2 : Int64) (H : Heap) (locs : List Loc) (ls : Array Slot), k x2 = some r → SI G A s H locs (WR G a S) → lv_has ls 5 [(2, .long x2)] → W p l e (RM 1 22) s m args below meth c H locs 0 0 Q (F0 m 47 ls [])) (fu : Nat) (x2 : Int64) (x4 : Int32) (H : Heap) (locs : List Loc) (ls : Array Slot), lo2 (B_X1_paidToPersons_5 S x1 k) fu x2 x4 = some r → SI G A s H locs (WR G a S) → lv_has ls 5 [(0, .ref (a 0)), (1, .int x1), (2, .long x2), (4, .int x4)] → W p l e (RM 1 22) s m args below meth c H locs 0 0 Q (F0 m 5 ls []) := by
    intro x1 k hk fu
    induction fu with
    | zero =>
      intro x2 x4 H locs ls hF hs hl
      exact nomatch (show (none : Option (Int64)) = some r from hF)
    | succ fu hrec =>
      intro x2 x4 H locs ls hF hs hl
      have hF : (B_X1_paidToPersons_5 S x1 k) (lo2 (B_X1_paidToPersons_5 S x1 k) fu) x2 x4 = some r := hF
      unfold B_X1_paidToPersons_5 at hF
      refine lv_iload hx hb dX1_paidToPersons_5 (lv_at hl 3 rfl) ?_
      refine lv_aload_n hx hb dX1_paidToPersons_7 rfl (lv_at hl 0 rfl) ?_
      refine fg_X1_12 hx hb hown hts hE hs 5 rfl (v := .ref (a 6)) rfl dX1_paidToPersons_8 ?_
      refine fg_X1_84 hx hb hown hts hE hs 0 rfl (v := .int (t_claims (r_told S))) rfl dX1_paidToPersons_11 ?_
      refine lv_icmp_ge (tgt := 47) hx hb dX1_paidToPersons_14 (by decide) (fun hc => ?_) (fun hc => ?_)
      · have hF := (if_pos hc).symm.trans hF
        exact hk x2 _ _ _ hF hs (lv_sub hl [2] rfl)
      · have hF := (if_neg hc).symm.trans hF
        refine lv_aload_n hx hb dX1_paidToPersons_17 rfl (lv_at hl 0 rfl) ?_
        refine fg_X1_12 hx hb hown hts hE hs 5 rfl (v := .ref (a 6)) rfl dX1_paidToPersons_18 ?_
        refine lv_iload hx hb dX1_paidToPersons_21 (lv_at hl 3 rfl) ?_
        refine lv_iconst (v := (0 : Int32)) hx hb dX1_paidToPersons_23 (by decide) ?_
        obtain ⟨q1, hq1, hF⟩ := bd hF
        refine sx_N (As := [.int x4, .int (0 : Int32)]) (rest := []) (st1 := [.int q1]) (c_X2_ofClaim G l (fun k => a (6 + k)) (r_told S) x4 (0 : Int32) q1 hq1) v_X1_94 ⟨(Nat.le_of_ble_eq_true rfl), (Nat.le_of_ble_eq_true rfl)⟩ hx hb hml hown hts hE hA hs ⟨Nat.le_refl 0, Nat.le_refl 0⟩ 0 rfl rfl rfl rfl rfl hl.1 (Nat.le_of_ble_eq_true rfl) dX1_paidToPersons_24 (pR_told G a S (r_told S)) (ws' := WR G a S) (pR_told G a S (r_told S)) (fun H locs hs => ?_)
        refine lv_iconst (v := (1 : Int32)) hx hb dX1_paidToPersons_27 (by decide) ?_
        refine lv_icmp_ne (tgt := 41) hx hb dX1_paidToPersons_28 (by decide) (fun hc => ?_) (fun hc => ?_)
        · have hF := (if_neg hc).symm.trans hF
          exact hJ41_5 x1 _ _ hk hrec x2 x4 _ _ _ hF hs (lv_sub hl [0, 1, 2, 3] rfl)
        · have hF := (if_pos hc).symm.trans hF
          refine lv_lload_n hx hb dX1_paidToPersons_31 rfl (lv_at hl 2 rfl) ?_
          refine lv_aload_n hx hb dX1_paidToPersons_32 rfl (lv_at hl 0 rfl) ?_
          refine lv_iload_n hx hb dX1_paidToPersons_33 rfl (lv_at hl 1 rfl) ?_
          refine lv_iload hx hb dX1_paidToPersons_34 (lv_at hl 3 rfl) ?_
          obtain ⟨q3, hq3, hF⟩ := bd hF
          refine sx_V (As := [.int x1, .int x4]) (rest := [.long x2]) (st1 := [.long q3, .long x2]) (c_X1_paidToClaim G l a S x1 x4 q3 hq3) v_X1_156 ⟨(Nat.le_of_ble_eq_true rfl), (Nat.le_of_ble_eq_true rfl)⟩ hx hb hml hown hts hE hA hs ⟨Nat.le_refl 0, Nat.le_refl 0⟩ 5 rfl rfl rfl rfl rfl hl.1 (Nat.le_of_ble_eq_true rfl) dX1_paidToPersons_36 (pmW _) (ws' := WR G a S) (pmW _) (fun H locs hs => ?_)
          refine lv_ladd hx hb dX1_paidToPersons_39 ?_
          obtain ⟨v4, ev4, hF⟩ := nm_some hF
          refine sx_topl ev4 ?_
          refine lv_lstore_n (lv' := [(2, .long v4), (0, .ref (a 0)), (1, .int x1), (4, .int x4)]) hx hb dX1_paidToPersons_40 rfl hl (by decide) rfl (fun ls hl => ?_)
          exact hJ41_5 x1 _ _ hk hrec v4 x4 _ _ _ hF hs (lv_sub hl [1, 2, 0, 3] rfl)
  unfold F_X1_paidToPersons at hF
  refine lv_lconst (v := (0 : Int64)) hx hb dX1_paidToPersons_0 (by decide) ?_
  refine lv_lstore_n (lv' := [(2, .long (0 : Int64)), (0, .ref (a 0)), (1, .int x1)]) hx hb dX1_paidToPersons_1 rfl hl (by decide) rfl (fun ls hl => ?_)
  refine lv_iconst (v := (0 : Int32)) hx hb dX1_paidToPersons_2 (by decide) ?_
  refine lv_istore (lv' := [(4, .int (0 : Int32)), (2, .long (0 : Int64)), (0, .ref (a 0)), (1, .int x1)]) hx hb dX1_paidToPersons_3 hl (by decide) rfl (fun ls hl => ?_)
  refine hL5 x1 _ (fun z5 H locs ls hF hs hl => ?_) FU (0 : Int64) (0 : Int32) _ _ _ hF hs (lv_sub hl [2, 3, 1, 0] rfl)
  refine lv_lload_n hx hb dX1_paidToPersons_47 rfl (lv_at hl 0 rfl) ?_
  exact sx_lret hx hb hr hlk hQ (Option.some.inj hF) rfl hs dX1_paidToPersons_48
set_option maxHeartbeats 4000000 in
set_option maxRecDepth 100000 in
theorem c_X1_threeQuarters (G : GT) (l : Launch) (x0 : Int64) (r : Int64) (hF : F_X1_threeQuarters x0 = some r) : MT G l yX1_threeQuarters cX1_threeQuarters 2 (some .long) 0 0 [.long x0] (([] : va_W)) (some (.long r)) (([] : va_W)) := by
  refine MT.of (by decide) (Nat.le_of_ble_eq_true rfl) ?_
  intro p e s m args below meth c A ls hx hb hr hml hown hts hlk hE hA hs hl Q hQ
  have hl : lv_has ls 2 [(0, .long x0)] := hl
  unfold F_X1_threeQuarters at hF
  refine lv_lload_n hx hb dX1_threeQuarters_0 rfl (lv_at hl 0 rfl) ?_
  refine lv_ldc2 (v := (3 : Int64)) hx hb hown (hts _ g734) dX1_threeQuarters_1 ?_
  refine lv_lmul hx hb dX1_threeQuarters_4 ?_
  refine lv_ldc2 (v := (4 : Int64)) hx hb hown (hts _ g735) dX1_threeQuarters_5 ?_
  obtain ⟨v1, hv1, hF⟩ := bd hF
  refine sx_ldiv hx hb hv1 dX1_threeQuarters_8 ?_
  exact sx_lret hx hb hr hlk hQ (Option.some.inj hF) rfl hs dX1_threeQuarters_9
set_option maxHeartbeats 4000000 in
set_option maxRecDepth 100000 in
theorem c_X1_coveredOf (G : GT) (l : Launch) (a : Nat → Nat) (S : RS) (x1 : Int32) (r : Int64) (hF : F_X1_coveredOf S x1 = some r) : MT G l yX1_coveredOf cX1_coveredOf 4 (some .long) 2 46 [.ref (a 0), .int x1] (WR G a S) (some (.long r)) (WR G a S) := by
  refine MT.of (by decide) (Nat.le_of_ble_eq_true rfl) ?_
  intro p e s m args below meth c A ls hx hb hr hml hown hts hlk hE hA hs hl Q hQ
  have hl : lv_has ls 4 [(0, .ref (a 0)), (1, .int x1)] := hl
  unfold F_X1_coveredOf at hF
  refine lv_aload_n hx hb dX1_coveredOf_0 rfl (lv_at hl 0 rfl) ?_
  refine lv_iload_n hx hb dX1_coveredOf_1 rfl (lv_at hl 1 rfl) ?_
  obtain ⟨q1, hq1, hF⟩ := bd hF
  refine sx_V (As := [.int x1]) (rest := []) (st1 := [.long q1]) (c_X1_paidByShip G l a S x1 q1 hq1) v_X1_169 ⟨(Nat.le_of_ble_eq_true rfl), (Nat.le_of_ble_eq_true rfl)⟩ hx hb hml hown hts hE hA hs ⟨Nat.le_refl 0, Nat.le_refl 0⟩ 5 rfl rfl rfl rfl rfl hl.1 (Nat.le_of_ble_eq_true rfl) dX1_coveredOf_2 (pmW _) (ws' := WR G a S) (pmW _) (fun H locs hs => ?_)
  refine lv_aload_n hx hb dX1_coveredOf_5 rfl (lv_at hl 0 rfl) ?_
  refine lv_iload_n hx hb dX1_coveredOf_6 rfl (lv_at hl 1 rfl) ?_
  obtain ⟨q2, hq2, hF⟩ := bd hF
  refine sx_V (As := [.int x1]) (rest := [.long q1]) (st1 := [.long q2, .long q1]) (c_X1_paidToPersons G l a S x1 q2 hq2) v_X1_179 ⟨(Nat.le_of_ble_eq_true rfl), (Nat.le_of_ble_eq_true rfl)⟩ hx hb hml hown hts hE hA hs ⟨Nat.le_refl 0, Nat.le_refl 0⟩ 5 rfl rfl rfl rfl rfl hl.1 (Nat.le_of_ble_eq_true rfl) dX1_coveredOf_7 (pmW _) (ws' := WR G a S) (pmW _) (fun H locs hs => ?_)
  refine lv_lsub hx hb dX1_coveredOf_10 ?_
  obtain ⟨q3, hq3, hF⟩ := bd hF
  refine sx_S (As := [.long (q1 - q2)]) (rest := []) (st1 := [.long q3]) (c_X1_threeQuarters G l  (q1 - q2) q3 hq3) v_X1_182 ⟨(Nat.le_of_ble_eq_true rfl), (Nat.le_of_ble_eq_true rfl)⟩ hx hb hml hown hts hE hA hs ⟨Nat.le_refl 0, Nat.le_refl 0⟩ rfl rfl rfl hl.1 (Nat.le_of_ble_eq_true rfl) dX1_coveredOf_11 (List.Perm.refl _) (ws' := WR G a S) (List.Perm.refl _) (fun H locs hs => ?_)
  refine lv_lstore_n (lv' := [(2, .long q3), (0, .ref (a 0)), (1, .int x1)]) hx hb dX1_coveredOf_14 rfl hl (by decide) rfl (fun ls hl => ?_)
  refine lv_lload_n hx hb dX1_coveredOf_15 rfl (lv_at hl 0 rfl) ?_
  refine lv_aload_n hx hb dX1_coveredOf_16 rfl (lv_at hl 1 rfl) ?_
  refine fg_X1_12 hx hb hown hts hE hs 5 rfl (v := .ref (a 6)) rfl dX1_coveredOf_17 ?_
  refine lv_iload_n hx hb dX1_coveredOf_20 rfl (lv_at hl 2 rfl) ?_
  refine lv_iconst (v := (3 : Int32)) hx hb dX1_coveredOf_21 (by decide) ?_
  obtain ⟨q4, hq4, hF⟩ := bd hF
  refine sx_N (As := [.int x1, .int (3 : Int32)]) (rest := [.long q3]) (st1 := [.int q4, .long q3]) (c_X2_ofShip G l (fun k => a (6 + k)) (r_told S) x1 (3 : Int32) q4 hq4) v_X1_64 ⟨(Nat.le_of_ble_eq_true rfl), (Nat.le_of_ble_eq_true rfl)⟩ hx hb hml hown hts hE hA hs ⟨Nat.le_refl 0, Nat.le_refl 0⟩ 0 rfl rfl rfl rfl rfl hl.1 (Nat.le_of_ble_eq_true rfl) dX1_coveredOf_22 (pR_told G a S (r_told S)) (ws' := WR G a S) (pR_told G a S (r_told S)) (fun H locs hs => ?_)
  refine lv_i2l hx hb dX1_coveredOf_25 rfl ?_
  obtain ⟨q5, hq5, hF⟩ := bd hF
  refine sx_S (As := [.long q4.toInt64]) (rest := [.long q3]) (st1 := [.long q5, .long q3]) (c_X1_threeQuarters G l  q4.toInt64 q5 hq5) v_X1_182 ⟨(Nat.le_of_ble_eq_true rfl), (Nat.le_of_ble_eq_true rfl)⟩ hx hb hml hown hts hE hA hs ⟨Nat.le_refl 0, Nat.le_refl 0⟩ rfl rfl rfl hl.1 (Nat.le_of_ble_eq_true rfl) dX1_coveredOf_26 (List.Perm.refl _) (ws' := WR G a S) (List.Perm.refl _) (fun H locs hs => ?_)
  refine va_mmin_long hx hb (hml.trans hl.1.symm) hown (hts _ g592) (hts _ g593) (hts _ g131) (hts _ g594) (Nat.le_of_ble_eq_true rfl) (Nat.le_of_ble_eq_true rfl) (Nat.le_refl 0) (Nat.le_refl 0) dX1_coveredOf_29 ?_
  obtain ⟨v6, ev6, hF⟩ := nm_some hF
  refine sx_topl ev6 ?_
  exact sx_lret hx hb hr hlk hQ (Option.some.inj hF) rfl hs dX1_coveredOf_32
set_option maxHeartbeats 4000000 in
set_option maxRecDepth 100000 in
theorem c_X1_owedToPersons (G : GT) (l : Launch) (a : Nat → Nat) (S : RS) (x1 : Int32) (r : Int64) (hF : F_X1_owedToPersons S x1 = some r) : MT G l yX1_owedToPersons cX1_owedToPersons 5 (some .long) 1 22 [.ref (a 0), .int x1] (WR G a S) (some (.long r)) (WR G a S) := by
  refine MT.of (by decide) (Nat.le_of_ble_eq_true rfl) ?_
  intro p e s m args below meth c A ls hx hb hr hml hown hts hlk hE hA hs hl Q hQ
  have hl : lv_has ls 5 [(0, .ref (a 0)), (1, .int x1)] := hl
  have hJ41_5 : ∀ (x1 : Int32) (k : Int64 → Option (Int64)) (rc : Int64 → Int32 → Option (Int64)) (hk : ∀ (x2 : Int64) (H : Heap) (locs : List Loc) (ls : Array Slot), k x2 = some r → SI G A s H locs (WR G a S) → lv_has ls 5 [(2, .long x2)] → W p l e (RM 1 22) s m args below meth c H locs 0 0 Q (F0 m 47 ls [])) (hrec : ∀ (x2 : Int64) (x4 : Int32) (H : Heap) (locs : List Loc) (ls : Array Slot), rc x2 x4 = some r → SI G A s H locs (WR G a S) → lv_has ls 5 [(0, .ref (a 0)), (1, .int x1), (2, .long x2), (4, .int x4)] → W p l e (RM 1 22) s m args below meth c H locs 0 0 Q (F0 m 5 ls [])) (x2 : Int64) (x4 : Int32) (H : Heap) (locs : List Loc) (ls : Array Slot), J_X1_owedToPersons_41 k rc S x1 x2 x4 = some r → SI G A s H locs (WR G a S) → lv_has ls 5 [(0, .ref (a 0)), (1, .int x1), (2, .long x2), (4, .int x4)] → W p l e (RM 1 22) s m args below meth c H locs 0 0 Q (F0 m 41 ls []) := by
    intro x1 k rc hk hrec x2 x4 H locs ls hF hs hl
    unfold J_X1_owedToPersons_41 at hF
    obtain ⟨v2, ev2, hF⟩ := nm_some hF
    refine lv_iinc (v := v2) (lv' := [(4, .int v2), (0, .ref (a 0)), (1, .int x1), (2, .long x2)]) hx hb dX1_owedToPersons_41 hl (k := 3) rfl (by rw [ev2]; rfl) (by decide) rfl (fun ls hl => ?_)
    refine lv_goto (tgt := 5) hx hb dX1_owedToPersons_44 (by decide) ?_
    exact hrec x2 v2 _ _ _ hF hs (lv_sub hl [1, 2, 3, 0] rfl)
  have hL5 : ∀ (x1 : Int32) (k : Int64 → Option (Int64)) (hk : ∀ (x2 : Int64) (H : Heap) (locs : List Loc) (ls : Array Slot), k x2 = some r → SI G A s H locs (WR G a S) → lv_has ls 5 [(2, .long x2)] → W p l e (RM 1 22) s m args below meth c H locs 0 0 Q (F0 m 47 ls [])) (fu : Nat) (x2 : Int64) (x4 : Int32) (H : Heap) (locs : List Loc) (ls : Array Slot), lo2 (B_X1_owedToPersons_5 S x1 k) fu x2 x4 = some r → SI G A s H locs (WR G a S) → lv_has ls 5 [(0, .ref (a 0)), (1, .int x1), (2, .long x2), (4, .int x4)] → W p l e (RM 1 22) s m args below meth c H locs 0 0 Q (F0 m 5 ls []) := by
    intro x1 k hk fu
    induction fu with
    | zero =>
      intro x2 x4 H locs ls hF hs hl
      exact nomatch (show (none : Option (Int64)) = some r from hF)
    | succ fu hrec =>
      intro x2 x4 H locs ls hF hs hl
      have hF : (B_X1_owedToPersons_5 S x1 k) (lo2 (B_X1_owedToPersons_5 S x1 k) fu) x2 x4 = some r := hF
      unfold B_X1_owedToPersons_5 at hF
      refine lv_iload hx hb dX1_owedToPersons_5 (lv_at hl 3 rfl) ?_
      refine lv_aload_n hx hb dX1_owedToPersons_7 rfl (lv_at hl 0 rfl) ?_
      refine fg_X1_12 hx hb hown hts hE hs 5 rfl (v := .ref (a 6)) rfl dX1_owedToPersons_8 ?_
      refine fg_X1_84 hx hb hown hts hE hs 0 rfl (v := .int (t_claims (r_told S))) rfl dX1_owedToPersons_11 ?_
      refine lv_icmp_ge (tgt := 47) hx hb dX1_owedToPersons_14 (by decide) (fun hc => ?_) (fun hc => ?_)
      · have hF := (if_pos hc).symm.trans hF
        exact hk x2 _ _ _ hF hs (lv_sub hl [2] rfl)
      · have hF := (if_neg hc).symm.trans hF
        refine lv_aload_n hx hb dX1_owedToPersons_17 rfl (lv_at hl 0 rfl) ?_
        refine fg_X1_12 hx hb hown hts hE hs 5 rfl (v := .ref (a 6)) rfl dX1_owedToPersons_18 ?_
        refine lv_iload hx hb dX1_owedToPersons_21 (lv_at hl 3 rfl) ?_
        refine lv_iconst (v := (0 : Int32)) hx hb dX1_owedToPersons_23 (by decide) ?_
        obtain ⟨q1, hq1, hF⟩ := bd hF
        refine sx_N (As := [.int x4, .int (0 : Int32)]) (rest := []) (st1 := [.int q1]) (c_X2_ofClaim G l (fun k => a (6 + k)) (r_told S) x4 (0 : Int32) q1 hq1) v_X1_94 ⟨(Nat.le_of_ble_eq_true rfl), (Nat.le_of_ble_eq_true rfl)⟩ hx hb hml hown hts hE hA hs ⟨Nat.le_refl 0, Nat.le_refl 0⟩ 0 rfl rfl rfl rfl rfl hl.1 (Nat.le_of_ble_eq_true rfl) dX1_owedToPersons_24 (pR_told G a S (r_told S)) (ws' := WR G a S) (pR_told G a S (r_told S)) (fun H locs hs => ?_)
        refine lv_iconst (v := (1 : Int32)) hx hb dX1_owedToPersons_27 (by decide) ?_
        refine lv_icmp_ne (tgt := 41) hx hb dX1_owedToPersons_28 (by decide) (fun hc => ?_) (fun hc => ?_)
        · have hF := (if_neg hc).symm.trans hF
          exact hJ41_5 x1 _ _ hk hrec x2 x4 _ _ _ hF hs (lv_sub hl [0, 1, 2, 3] rfl)
        · have hF := (if_pos hc).symm.trans hF
          refine lv_lload_n hx hb dX1_owedToPersons_31 rfl (lv_at hl 2 rfl) ?_
          refine lv_aload_n hx hb dX1_owedToPersons_32 rfl (lv_at hl 0 rfl) ?_
          refine lv_iload_n hx hb dX1_owedToPersons_33 rfl (lv_at hl 1 rfl) ?_
          refine lv_iload hx hb dX1_owedToPersons_34 (lv_at hl 3 rfl) ?_
          obtain ⟨q3, hq3, hF⟩ := bd hF
          refine sx_V (As := [.int x1, .int x4]) (rest := [.long x2]) (st1 := [.long q3, .long x2]) (c_X1_owedToClaim G l a S x1 x4 q3 hq3) v_X1_108 ⟨(Nat.le_of_ble_eq_true rfl), (Nat.le_of_ble_eq_true rfl)⟩ hx hb hml hown hts hE hA hs ⟨Nat.le_refl 0, Nat.le_refl 0⟩ 5 rfl rfl rfl rfl rfl hl.1 (Nat.le_of_ble_eq_true rfl) dX1_owedToPersons_36 (pmW _) (ws' := WR G a S) (pmW _) (fun H locs hs => ?_)
          refine lv_ladd hx hb dX1_owedToPersons_39 ?_
          obtain ⟨v4, ev4, hF⟩ := nm_some hF
          refine sx_topl ev4 ?_
          refine lv_lstore_n (lv' := [(2, .long v4), (0, .ref (a 0)), (1, .int x1), (4, .int x4)]) hx hb dX1_owedToPersons_40 rfl hl (by decide) rfl (fun ls hl => ?_)
          exact hJ41_5 x1 _ _ hk hrec v4 x4 _ _ _ hF hs (lv_sub hl [1, 2, 0, 3] rfl)
  unfold F_X1_owedToPersons at hF
  refine lv_lconst (v := (0 : Int64)) hx hb dX1_owedToPersons_0 (by decide) ?_
  refine lv_lstore_n (lv' := [(2, .long (0 : Int64)), (0, .ref (a 0)), (1, .int x1)]) hx hb dX1_owedToPersons_1 rfl hl (by decide) rfl (fun ls hl => ?_)
  refine lv_iconst (v := (0 : Int32)) hx hb dX1_owedToPersons_2 (by decide) ?_
  refine lv_istore (lv' := [(4, .int (0 : Int32)), (2, .long (0 : Int64)), (0, .ref (a 0)), (1, .int x1)]) hx hb dX1_owedToPersons_3 hl (by decide) rfl (fun ls hl => ?_)
  refine hL5 x1 _ (fun z5 H locs ls hF hs hl => ?_) FU (0 : Int64) (0 : Int32) _ _ _ hF hs (lv_sub hl [2, 3, 1, 0] rfl)
  refine lv_lload_n hx hb dX1_owedToPersons_47 rfl (lv_at hl 0 rfl) ?_
  exact sx_lret hx hb hr hlk hQ (Option.some.inj hF) rfl hs dX1_owedToPersons_48
set_option maxHeartbeats 4000000 in
set_option maxRecDepth 100000 in
theorem c_X1_rateNeeded (G : GT) (l : Launch) (a : Nat → Nat) (S : RS) (x1 : Int32) (r : Int64) (hF : F_X1_rateNeeded S x1 = some r) : MT G l yX1_rateNeeded cX1_rateNeeded 8 (some .long) 3 67 [.ref (a 0), .int x1] (WR G a S) (some (.long r)) (WR G a S) := by
  refine MT.of (by decide) (Nat.le_of_ble_eq_true rfl) ?_
  intro p e s m args below meth c A ls hx hb hr hml hown hts hlk hE hA hs hl Q hQ
  have hl : lv_has ls 8 [(0, .ref (a 0)), (1, .int x1)] := hl
  unfold F_X1_rateNeeded at hF
  refine lv_aload_n hx hb dX1_rateNeeded_0 rfl (lv_at hl 0 rfl) ?_
  refine fg_X1_12 hx hb hown hts hE hs 5 rfl (v := .ref (a 6)) rfl dX1_rateNeeded_1 ?_
  refine lv_iload_n hx hb dX1_rateNeeded_4 rfl (lv_at hl 1 rfl) ?_
  refine lv_iconst (v := (5 : Int32)) hx hb dX1_rateNeeded_5 (by decide) ?_
  obtain ⟨q1, hq1, hF⟩ := bd hF
  refine sx_N (As := [.int x1, .int (5 : Int32)]) (rest := []) (st1 := [.int q1]) (c_X2_ofShip G l (fun k => a (6 + k)) (r_told S) x1 (5 : Int32) q1 hq1) v_X1_64 ⟨(Nat.le_of_ble_eq_true rfl), (Nat.le_of_ble_eq_true rfl)⟩ hx hb hml hown hts hE hA hs ⟨Nat.le_refl 0, Nat.le_refl 0⟩ 0 rfl rfl rfl rfl rfl hl.1 (Nat.le_of_ble_eq_true rfl) dX1_rateNeeded_6 (pR_told G a S (r_told S)) (ws' := WR G a S) (pR_told G a S (r_told S)) (fun H locs hs => ?_)
  refine lv_iconst (v := (1 : Int32)) hx hb dX1_rateNeeded_9 (by decide) ?_
  refine lv_icmp_ne (tgt := 15) hx hb dX1_rateNeeded_10 (by decide) (fun hc => ?_) (fun hc => ?_)
  · have hF := (if_neg hc).symm.trans hF
    refine lv_aload_n hx hb dX1_rateNeeded_15 rfl (lv_at hl 0 rfl) ?_
    refine lv_iload_n hx hb dX1_rateNeeded_16 rfl (lv_at hl 1 rfl) ?_
    obtain ⟨q2, hq2, hF⟩ := bd hF
    refine sx_V (As := [.int x1]) (rest := []) (st1 := [.long q2]) (c_X1_owedToPersons G l a S x1 q2 hq2) v_X1_186 ⟨(Nat.le_of_ble_eq_true rfl), (Nat.le_of_ble_eq_true rfl)⟩ hx hb hml hown hts hE hA hs ⟨Nat.le_refl 0, Nat.le_refl 0⟩ 5 rfl rfl rfl rfl rfl hl.1 (Nat.le_of_ble_eq_true rfl) dX1_rateNeeded_17 (pmW _) (ws' := WR G a S) (pmW _) (fun H locs hs => ?_)
    refine lv_lstore_n (lv' := [(2, .long q2), (0, .ref (a 0)), (1, .int x1)]) hx hb dX1_rateNeeded_20 rfl hl (by decide) rfl (fun ls hl => ?_)
    refine lv_aload_n hx hb dX1_rateNeeded_21 rfl (lv_at hl 1 rfl) ?_
    refine lv_iload_n hx hb dX1_rateNeeded_22 rfl (lv_at hl 2 rfl) ?_
    obtain ⟨q3, hq3, hF⟩ := bd hF
    refine sx_V (As := [.int x1]) (rest := []) (st1 := [.long q3]) (c_X1_owedByShip G l a S x1 q3 hq3) v_X1_189 ⟨(Nat.le_of_ble_eq_true rfl), (Nat.le_of_ble_eq_true rfl)⟩ hx hb hml hown hts hE hA hs ⟨Nat.le_refl 0, Nat.le_refl 0⟩ 5 rfl rfl rfl rfl rfl hl.1 (Nat.le_of_ble_eq_true rfl) dX1_rateNeeded_23 (pmW _) (ws' := WR G a S) (pmW _) (fun H locs hs => ?_)
    refine lv_lload_n hx hb dX1_rateNeeded_26 rfl (lv_at hl 0 rfl) ?_
    refine lv_aload_n hx hb dX1_rateNeeded_27 rfl (lv_at hl 1 rfl) ?_
    refine fg_X1_12 hx hb hown hts hE hs 5 rfl (v := .ref (a 6)) rfl dX1_rateNeeded_28 ?_
    refine lv_iload_n hx hb dX1_rateNeeded_31 rfl (lv_at hl 2 rfl) ?_
    refine lv_bipush (v := (6 : Int32)) hx hb dX1_rateNeeded_32 (by decide) ?_
    obtain ⟨q4, hq4, hF⟩ := bd hF
    refine sx_N (As := [.int x1, .int (6 : Int32)]) (rest := [.long q2, .long q3]) (st1 := [.long q4, .long q2, .long q3]) (c_X2_fundOf G l (fun k => a (6 + k)) (r_told S) x1 (6 : Int32) q4 hq4) v_X1_134 ⟨(Nat.le_of_ble_eq_true rfl), (Nat.le_of_ble_eq_true rfl)⟩ hx hb hml hown hts hE hA hs ⟨Nat.le_refl 0, Nat.le_refl 0⟩ 0 rfl rfl rfl rfl rfl hl.1 (Nat.le_of_ble_eq_true rfl) dX1_rateNeeded_34 (pR_told G a S (r_told S)) (ws' := WR G a S) (pR_told G a S (r_told S)) (fun H locs hs => ?_)
    refine va_mmin_long hx hb (hml.trans hl.1.symm) hown (hts _ g592) (hts _ g593) (hts _ g131) (hts _ g594) (Nat.le_of_ble_eq_true rfl) (Nat.le_of_ble_eq_true rfl) (Nat.le_refl 0) (Nat.le_refl 0) dX1_rateNeeded_37 ?_
    obtain ⟨v5, ev5, hF⟩ := nm_some hF
    refine sx_topl ev5 ?_
    refine lv_lsub hx hb dX1_rateNeeded_40 ?_
    obtain ⟨v6, ev6, hF⟩ := nm_some hF
    refine sx_topl ev6 ?_
    refine lv_lstore (lv' := [(4, .long v6), (2, .long q2), (0, .ref (a 0)), (1, .int x1)]) hx hb dX1_rateNeeded_41 hl (by decide) rfl (fun ls hl => ?_)
    refine lv_aload_n hx hb dX1_rateNeeded_43 rfl (lv_at hl 2 rfl) ?_
    refine fg_X1_12 hx hb hown hts hE hs 5 rfl (v := .ref (a 6)) rfl dX1_rateNeeded_44 ?_
    refine lv_iload_n hx hb dX1_rateNeeded_47 rfl (lv_at hl 3 rfl) ?_
    obtain ⟨q7, hq7, hF⟩ := bd hF
    refine sx_N (As := [.int x1]) (rest := []) (st1 := [.long q7]) (c_X2_fundTons G l (fun k => a (6 + k)) (r_told S) x1 q7 hq7) v_X1_192 ⟨(Nat.le_of_ble_eq_true rfl), (Nat.le_of_ble_eq_true rfl)⟩ hx hb hml hown hts hE hA hs ⟨Nat.le_refl 0, Nat.le_refl 0⟩ 0 rfl rfl rfl rfl rfl hl.1 (Nat.le_of_ble_eq_true rfl) dX1_rateNeeded_48 (pR_told G a S (r_told S)) (ws' := WR G a S) (pR_told G a S (r_told S)) (fun H locs hs => ?_)
    refine lv_lstore (lv' := [(6, .long q7), (4, .long v6), (2, .long q2), (0, .ref (a 0)), (1, .int x1)]) hx hb dX1_rateNeeded_51 hl (by decide) rfl (fun ls hl => ?_)
    refine lv_lload hx hb dX1_rateNeeded_53 (lv_at hl 1 rfl) ?_
    refine lv_lload hx hb dX1_rateNeeded_55 (lv_at hl 0 rfl) ?_
    refine lv_ladd hx hb dX1_rateNeeded_57 ?_
    refine lv_lconst (v := (1 : Int64)) hx hb dX1_rateNeeded_58 (by decide) ?_
    refine lv_lsub hx hb dX1_rateNeeded_59 ?_
    refine lv_lload hx hb dX1_rateNeeded_60 (lv_at hl 0 rfl) ?_
    obtain ⟨q8, hq8, hF⟩ := bd hF
    refine sx_S (As := [.long ((v6 + q7) - (1 : Int64)), .long q7]) (rest := []) (st1 := [.long q8]) (c_X1_cut G l  ((v6 + q7) - (1 : Int64)) q7 q8 hq8) v_X1_80 ⟨(Nat.le_of_ble_eq_true rfl), (Nat.le_of_ble_eq_true rfl)⟩ hx hb hml hown hts hE hA hs ⟨Nat.le_refl 0, Nat.le_refl 0⟩ rfl rfl rfl hl.1 (Nat.le_of_ble_eq_true rfl) dX1_rateNeeded_62 (List.Perm.refl _) (ws' := WR G a S) (List.Perm.refl _) (fun H locs hs => ?_)
    exact sx_lret hx hb hr hlk hQ (Option.some.inj hF) rfl hs dX1_rateNeeded_65
  · have hF := (if_pos hc).symm.trans hF
    refine lv_lconst (v := (0 : Int64)) hx hb dX1_rateNeeded_13 (by decide) ?_
    exact sx_lret hx hb hr hlk hQ (Option.some.inj hF) rfl hs dX1_rateNeeded_14
