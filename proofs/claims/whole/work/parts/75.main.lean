set_option maxHeartbeats 4000000 in
set_option maxRecDepth 100000 in
theorem c_X4_putBytes (G : GT) (l : Launch) (a : Nat → Nat) (S : XS) (x1 : Int32) (r : XS) (hF : F_X4_putBytes S x1 = some r) : MT G l yX4_putBytes cX4_putBytes 3 (none) 0 0 [.ref (a 0), .int x1] (WX G a S) none (WX G a r) := by
  refine MT.of (by decide) (Nat.le_of_ble_eq_true rfl) ?_
  intro p e s m args below meth c A ls hx hb hr hml hown hts hlk hE hA hs hl Q hQ
  have hl : lv_has ls 3 [(0, .ref (a 0)), (1, .int x1)] := hl
  have hL3 : ∀ (x1 : Int32) (k : XS → Option (XS)) (hk : ∀ (S : XS) (H : Heap) (locs : List Loc) (ls : Array Slot), k S = some r → SI G A s H locs (WX G a S) → lv_has ls 3 [] → W p l e (RM 0 0) s m args below meth c H locs 0 0 Q (F0 m 49 ls [])) (fu : Nat) (S : XS) (x2 : Int32) (H : Heap) (locs : List Loc) (ls : Array Slot), lo2 (B_X4_putBytes_3 x1 k) fu S x2 = some r → SI G A s H locs (WX G a S) → lv_has ls 3 [(0, .ref (a 0)), (1, .int x1), (2, .int x2)] → W p l e (RM 0 0) s m args below meth c H locs 0 0 Q (F0 m 3 ls []) := by
    intro x1 k hk fu
    induction fu with
    | zero =>
      intro S x2 H locs ls hF hs hl
      exact nomatch (show (none : Option (XS)) = some r from hF)
    | succ fu hrec =>
      intro S x2 H locs ls hF hs hl
      have hF : (B_X4_putBytes_3 x1 k) (lo2 (B_X4_putBytes_3 x1 k) fu) S x2 = some r := hF
      unfold B_X4_putBytes_3 at hF
      refine lv_iload_n hx hb dX4_putBytes_3 rfl (lv_at hl 2 rfl) ?_
      refine lv_if_lt (tgt := 49) hx hb dX4_putBytes_4 (by decide) (fun hc => ?_) (fun hc => ?_)
      · have hF := (if_pos hc).symm.trans hF
        exact hk S _ _ _ hF hs (lv_sub hl [] rfl)
      · have hF := (if_neg hc).symm.trans hF
        refine lv_aload_n hx hb dX4_putBytes_7 rfl (lv_at hl 0 rfl) ?_
        refine fg_X4_41 hx hb hown hts hE hs 0 rfl (v := .int (x_tapeLength S)) rfl dX4_putBytes_8 ?_
        refine lv_sipush (v := (600 : Int32)) hx hb dX4_putBytes_11 (by decide) ?_
        refine lv_icmp_ge (tgt := 49) hx hb dX4_putBytes_14 (by decide) (fun hc => ?_) (fun hc => ?_)
        · have hF := (if_pos hc).symm.trans hF
          exact hk S _ _ _ hF hs (lv_sub hl [] rfl)
        · have hF := (if_neg hc).symm.trans hF
          refine lv_aload_n hx hb dX4_putBytes_17 rfl (lv_at hl 0 rfl) ?_
          refine fg_X4_10 hx hb hown hts hE hs 0 rfl (v := .ref (a 4)) rfl dX4_putBytes_18 ?_
          refine fg_X4_262 hx hb hown hts hE hs 9 rfl (v := .ref (a 5)) rfl dX4_putBytes_21 ?_
          refine lv_aload_n hx hb dX4_putBytes_24 rfl (lv_at hl 0 rfl) ?_
          refine fg_X4_41 hx hb hown hts hE hs 0 rfl (v := .int (x_tapeLength S)) rfl dX4_putBytes_25 ?_
          refine lv_iload_n hx hb dX4_putBytes_28 rfl (lv_at hl 1 rfl) ?_
          refine lv_iload_n hx hb dX4_putBytes_29 rfl (lv_at hl 2 rfl) ?_
          refine lv_ishr hx hb dX4_putBytes_30 ?_
          refine lv_i2b hx hb dX4_putBytes_31 rfl ?_
          obtain ⟨f1, hf1, hF⟩ := bd hF
          obtain ⟨S2, eS2, hF⟩ := nm_some hF
          refine sx_bast hx hb hE hs 10 (f := d_bytes (x_reader S)) rfl (pk_vb _) hf1 (ws' := WX G a S2) (by subst eS2; rfl) dX4_putBytes_32 (fun H locs hs => ?_)
          refine lv_aload_n hx hb dX4_putBytes_33 rfl (lv_at hl 0 rfl) ?_
          refine lv_dup hx hb dX4_putBytes_34 rfl ?_
          refine fg_X4_41 hx hb hown hts hE hs 0 rfl (v := .int (x_tapeLength S2)) rfl dX4_putBytes_35 ?_
          refine lv_iconst (v := (1 : Int32)) hx hb dX4_putBytes_38 (by decide) ?_
          refine lv_iadd hx hb dX4_putBytes_39 ?_
          obtain ⟨S3, eS3, hF⟩ := nm_some hF
          refine fp_X4_41 hx hb hown hts hE hs 0 rfl (ws' := WX G a S3) (Nat.le_of_ble_eq_true rfl) (by subst eS3; rfl) dX4_putBytes_40 (fun H locs hs => ?_)
          obtain ⟨v4, ev4, hF⟩ := nm_some hF
          refine lv_iinc (v := v4) (lv' := [(2, .int v4), (0, .ref (a 0)), (1, .int x1)]) hx hb dX4_putBytes_43 hl (k := 2) rfl (by rw [ev4]; exact congrArg (x2 + ·) (by decide)) (by decide) rfl (fun ls hl => ?_)
          refine lv_goto (tgt := 3) hx hb dX4_putBytes_46 (by decide) ?_
          exact hrec S3 v4 _ _ _ hF hs (lv_sub hl [1, 2, 0] rfl)
  unfold F_X4_putBytes at hF
  refine lv_bipush (v := (24 : Int32)) hx hb dX4_putBytes_0 (by decide) ?_
  refine lv_istore_n (lv' := [(2, .int (24 : Int32)), (0, .ref (a 0)), (1, .int x1)]) hx hb dX4_putBytes_2 rfl hl (by decide) rfl (fun ls hl => ?_)
  refine hL3 x1 _ (fun S5 H locs ls hF hs hl => ?_) FU S (24 : Int32) _ _ _ hF hs (lv_sub hl [1, 2, 0] rfl)
  exact sx_vret hx hb hr hlk hQ (congrArg (fun z => WX G a z) (Option.some.inj hF)) hs dX4_putBytes_49
set_option maxHeartbeats 4000000 in
set_option maxRecDepth 100000 in
theorem c_X4_feed (G : GT) (l : Launch) (a : Nat → Nat) (S : XS) (x1 : Int32) (x2 : Int32) (x3 : Int32) (x4 : Int32) (x5 : Int32) (r : Int32 × XS) (hF : F_X4_feed S x1 x2 x3 x4 x5 = some r) : MT G l yX4_feed cX4_feed 6 (some .int) 1 22 [.ref (a 0), .int x1, .int x2, .int x3, .int x4, .int x5] (WX G a S) (some (.int r.1)) (WX G a r.2) := by
  refine MT.of (by decide) (Nat.le_of_ble_eq_true rfl) ?_
  intro p e s m args below meth c A ls hx hb hr hml hown hts hlk hE hA hs hl Q hQ
  have hl : lv_has ls 6 [(0, .ref (a 0)), (1, .int x1), (2, .int x2), (3, .int x3), (4, .int x4), (5, .int x5)] := hl
  unfold F_X4_feed at hF
  refine lv_aload_n hx hb dX4_feed_0 rfl (lv_at hl 0 rfl) ?_
  refine fg_X4_41 hx hb hown hts hE hs 0 rfl (v := .int (x_tapeLength S)) rfl dX4_feed_1 ?_
  refine lv_bipush (v := (20 : Int32)) hx hb dX4_feed_4 (by decide) ?_
  refine lv_iadd hx hb dX4_feed_6 ?_
  refine lv_sipush (v := (600 : Int32)) hx hb dX4_feed_7 (by decide) ?_
  refine lv_icmp_le (tgt := 15) hx hb dX4_feed_10 (by decide) (fun hc => ?_) (fun hc => ?_)
  · have hF := (if_pos hc).symm.trans hF
    refine lv_aload_n hx hb dX4_feed_15 rfl (lv_at hl 0 rfl) ?_
    refine lv_iload_n hx hb dX4_feed_16 rfl (lv_at hl 1 rfl) ?_
    obtain ⟨q1, hq1, hF⟩ := bd hF
    refine sx_V (As := [.int x1]) (rest := []) (st1 := []) (c_X4_putBytes G l a S x1 q1 hq1) v_X4_60 ⟨(Nat.le_of_ble_eq_true rfl), (Nat.le_of_ble_eq_true rfl)⟩ hx hb hml hown hts hE hA hs ⟨Nat.le_refl 0, Nat.le_refl 0⟩ 0 rfl rfl rfl rfl rfl hl.1 (Nat.le_of_ble_eq_true rfl) dX4_feed_17 (pmW _) (ws' := WX G a q1) (pmW _) (fun H locs hs => ?_)
    refine lv_aload_n hx hb dX4_feed_20 rfl (lv_at hl 0 rfl) ?_
    refine lv_iload_n hx hb dX4_feed_21 rfl (lv_at hl 2 rfl) ?_
    obtain ⟨q2, hq2, hF⟩ := bd hF
    refine sx_V (As := [.int x2]) (rest := []) (st1 := []) (c_X4_putBytes G l a q1 x2 q2 hq2) v_X4_60 ⟨(Nat.le_of_ble_eq_true rfl), (Nat.le_of_ble_eq_true rfl)⟩ hx hb hml hown hts hE hA hs ⟨Nat.le_refl 0, Nat.le_refl 0⟩ 0 rfl rfl rfl rfl rfl hl.1 (Nat.le_of_ble_eq_true rfl) dX4_feed_22 (pmW _) (ws' := WX G a q2) (pmW _) (fun H locs hs => ?_)
    refine lv_aload_n hx hb dX4_feed_25 rfl (lv_at hl 0 rfl) ?_
    refine lv_iload_n hx hb dX4_feed_26 rfl (lv_at hl 3 rfl) ?_
    obtain ⟨q3, hq3, hF⟩ := bd hF
    refine sx_V (As := [.int x3]) (rest := []) (st1 := []) (c_X4_putBytes G l a q2 x3 q3 hq3) v_X4_60 ⟨(Nat.le_of_ble_eq_true rfl), (Nat.le_of_ble_eq_true rfl)⟩ hx hb hml hown hts hE hA hs ⟨Nat.le_refl 0, Nat.le_refl 0⟩ 0 rfl rfl rfl rfl rfl hl.1 (Nat.le_of_ble_eq_true rfl) dX4_feed_27 (pmW _) (ws' := WX G a q3) (pmW _) (fun H locs hs => ?_)
    refine lv_aload_n hx hb dX4_feed_30 rfl (lv_at hl 0 rfl) ?_
    refine lv_iload hx hb dX4_feed_31 (lv_at hl 4 rfl) ?_
    obtain ⟨q4, hq4, hF⟩ := bd hF
    refine sx_V (As := [.int x4]) (rest := []) (st1 := []) (c_X4_putBytes G l a q3 x4 q4 hq4) v_X4_60 ⟨(Nat.le_of_ble_eq_true rfl), (Nat.le_of_ble_eq_true rfl)⟩ hx hb hml hown hts hE hA hs ⟨Nat.le_refl 0, Nat.le_refl 0⟩ 0 rfl rfl rfl rfl rfl hl.1 (Nat.le_of_ble_eq_true rfl) dX4_feed_33 (pmW _) (ws' := WX G a q4) (pmW _) (fun H locs hs => ?_)
    refine lv_aload_n hx hb dX4_feed_36 rfl (lv_at hl 0 rfl) ?_
    refine lv_iload hx hb dX4_feed_37 (lv_at hl 5 rfl) ?_
    obtain ⟨q5, hq5, hF⟩ := bd hF
    refine sx_V (As := [.int x5]) (rest := []) (st1 := []) (c_X4_putBytes G l a q4 x5 q5 hq5) v_X4_60 ⟨(Nat.le_of_ble_eq_true rfl), (Nat.le_of_ble_eq_true rfl)⟩ hx hb hml hown hts hE hA hs ⟨Nat.le_refl 0, Nat.le_refl 0⟩ 0 rfl rfl rfl rfl rfl hl.1 (Nat.le_of_ble_eq_true rfl) dX4_feed_39 (pmW _) (ws' := WX G a q5) (pmW _) (fun H locs hs => ?_)
    refine lv_aload_n hx hb dX4_feed_42 rfl (lv_at hl 0 rfl) ?_
    refine fg_X4_41 hx hb hown hts hE hs 0 rfl (v := .int (x_tapeLength q5)) rfl dX4_feed_43 ?_
    exact sx_iret hx hb hr hlk hQ (congrArg Prod.fst (Option.some.inj hF)) (congrArg (fun z => WX G a z) (congrArg Prod.snd (Option.some.inj hF))) hs dX4_feed_46
  · have hF := (if_neg hc).symm.trans hF
    refine lv_iconst (v := (-1 : Int32)) hx hb dX4_feed_13 (by decide) ?_
    exact sx_iret hx hb hr hlk hQ (congrArg Prod.fst (Option.some.inj hF)) (congrArg (fun z => WX G a z) (congrArg Prod.snd (Option.some.inj hF))) hs dX4_feed_14
set_option maxHeartbeats 4000000 in
set_option maxRecDepth 100000 in
theorem c_X4_refuse (G : GT) (l : Launch) (a : Nat → Nat) (S : XS) (x1 : Int32) (r : Int32 × XS) (hF : F_X4_refuse S x1 = some r) : MT G l yX4_refuse cX4_refuse 2 (some .boolean) 0 0 [.ref (a 0), .int x1] (WX G a S) (some (.int r.1)) (WX G a r.2) := by
  refine MT.of (by decide) (Nat.le_of_ble_eq_true rfl) ?_
  intro p e s m args below meth c A ls hx hb hr hml hown hts hlk hE hA hs hl Q hQ
  have hl : lv_has ls 2 [(0, .ref (a 0)), (1, .int x1)] := hl
  unfold F_X4_refuse at hF
  refine lv_aload_n hx hb dX4_refuse_0 rfl (lv_at hl 0 rfl) ?_
  refine lv_iload_n hx hb dX4_refuse_1 rfl (lv_at hl 1 rfl) ?_
  obtain ⟨S1, eS1, hF⟩ := nm_some hF
  refine fp_X4_51 hx hb hown hts hE hs 0 rfl (ws' := WX G a S1) (Nat.le_of_ble_eq_true rfl) (by subst eS1; rfl) dX4_refuse_2 (fun H locs hs => ?_)
  refine lv_aload_n hx hb dX4_refuse_5 rfl (lv_at hl 0 rfl) ?_
  refine lv_iconst (v := (-1 : Int32)) hx hb dX4_refuse_6 (by decide) ?_
  obtain ⟨S2, eS2, hF⟩ := nm_some hF
  refine fp_X4_54 hx hb hown hts hE hs 0 rfl (ws' := WX G a S2) (Nat.le_of_ble_eq_true rfl) (by subst eS2; rfl) dX4_refuse_7 (fun H locs hs => ?_)
  refine lv_iconst (v := (0 : Int32)) hx hb dX4_refuse_10 (by decide) ?_
  exact sx_zret hx hb hr hlk hQ (Or.inl rfl) (congrArg Prod.fst (Option.some.inj hF)) (congrArg (fun z => WX G a z) (congrArg Prod.snd (Option.some.inj hF))) hs dX4_refuse_11
set_option maxHeartbeats 4000000 in
set_option maxRecDepth 100000 in
theorem c_X4_none (G : GT) (l : Launch) (a : Nat → Nat) (S : XS) (x1 : Int32) (r : Int32 × XS) (hF : F_X4_none S x1 = some r) : MT G l yX4_none cX4_none 2 (some .int) 1 21 [.ref (a 0), .int x1] (WX G a S) (some (.int r.1)) (WX G a r.2) := by
  refine MT.of (by decide) (Nat.le_of_ble_eq_true rfl) ?_
  intro p e s m args below meth c A ls hx hb hr hml hown hts hlk hE hA hs hl Q hQ
  have hl : lv_has ls 2 [(0, .ref (a 0)), (1, .int x1)] := hl
  unfold F_X4_none at hF
  refine lv_aload_n hx hb dX4_none_0 rfl (lv_at hl 0 rfl) ?_
  refine lv_iload_n hx hb dX4_none_1 rfl (lv_at hl 1 rfl) ?_
  obtain ⟨q1, hq1, hF⟩ := bd hF
  refine sx_V (As := [.int x1]) (rest := []) (st1 := [.int q1.1]) (c_X4_refuse G l a S x1 q1 hq1) v_X4_250 ⟨(Nat.le_of_ble_eq_true rfl), (Nat.le_of_ble_eq_true rfl)⟩ hx hb hml hown hts hE hA hs ⟨Nat.le_refl 0, Nat.le_refl 0⟩ 0 rfl rfl rfl rfl rfl hl.1 (Nat.le_of_ble_eq_true rfl) dX4_none_2 (pmW _) (ws' := WX G a q1.2) (pmW _) (fun H locs hs => ?_)
  refine lv_pop hx hb dX4_none_5 rfl ?_
  refine lv_iconst (v := (-1 : Int32)) hx hb dX4_none_6 (by decide) ?_
  exact sx_iret hx hb hr hlk hQ (congrArg Prod.fst (Option.some.inj hF)) (congrArg (fun z => WX G a z) (congrArg Prod.snd (Option.some.inj hF))) hs dX4_none_7
set_option maxHeartbeats 4000000 in
set_option maxRecDepth 100000 in
theorem c_X4_accept (G : GT) (l : Launch) (a : Nat → Nat) (S : XS) (r : XS) (hF : F_X4_accept S = some r) : MT G l yX4_accept cX4_accept 1 (none) 0 0 [.ref (a 0)] (WX G a S) none (WX G a r) := by
  refine MT.of (by decide) (Nat.le_of_ble_eq_true rfl) ?_
  intro p e s m args below meth c A ls hx hb hr hml hown hts hlk hE hA hs hl Q hQ
  have hl : lv_has ls 1 [(0, .ref (a 0))] := hl
  unfold F_X4_accept at hF
  refine lv_aload_n hx hb dX4_accept_0 rfl (lv_at hl 0 rfl) ?_
  refine lv_iconst (v := (0 : Int32)) hx hb dX4_accept_1 (by decide) ?_
  obtain ⟨S1, eS1, hF⟩ := nm_some hF
  refine fp_X4_51 hx hb hown hts hE hs 0 rfl (ws' := WX G a S1) (Nat.le_of_ble_eq_true rfl) (by subst eS1; rfl) dX4_accept_2 (fun H locs hs => ?_)
  refine lv_aload_n hx hb dX4_accept_5 rfl (lv_at hl 0 rfl) ?_
  refine lv_iconst (v := (-1 : Int32)) hx hb dX4_accept_6 (by decide) ?_
  obtain ⟨S2, eS2, hF⟩ := nm_some hF
  refine fp_X4_54 hx hb hown hts hE hs 0 rfl (ws' := WX G a S2) (Nat.le_of_ble_eq_true rfl) (by subst eS2; rfl) dX4_accept_7 (fun H locs hs => ?_)
  exact sx_vret hx hb hr hlk hQ (congrArg (fun z => WX G a z) (Option.some.inj hF)) hs dX4_accept_10
set_option maxHeartbeats 4000000 in
set_option maxRecDepth 100000 in
theorem c_X4_forgetActs (G : GT) (l : Launch) (a : Nat → Nat) (S : XS) (r : XS) (hF : F_X4_forgetActs S = some r) : MT G l yX4_forgetActs cX4_forgetActs 1 (none) 0 0 [.ref (a 0)] (WX G a S) none (WX G a r) := by
  refine MT.of (by decide) (Nat.le_of_ble_eq_true rfl) ?_
  intro p e s m args below meth c A ls hx hb hr hml hown hts hlk hE hA hs hl Q hQ
  have hl : lv_has ls 1 [(0, .ref (a 0))] := hl
  unfold F_X4_forgetActs at hF
  refine lv_aload_n hx hb dX4_forgetActs_0 rfl (lv_at hl 0 rfl) ?_
  refine lv_iconst (v := (0 : Int32)) hx hb dX4_forgetActs_1 (by decide) ?_
  obtain ⟨S1, eS1, hF⟩ := nm_some hF
  refine fp_X4_45 hx hb hown hts hE hs 0 rfl (ws' := WX G a S1) (Nat.le_of_ble_eq_true rfl) (by subst eS1; rfl) dX4_forgetActs_2 (fun H locs hs => ?_)
  refine lv_aload_n hx hb dX4_forgetActs_5 rfl (lv_at hl 0 rfl) ?_
  refine lv_iconst (v := (0 : Int32)) hx hb dX4_forgetActs_6 (by decide) ?_
  obtain ⟨S2, eS2, hF⟩ := nm_some hF
  refine fp_X4_48 hx hb hown hts hE hs 0 rfl (ws' := WX G a S2) (Nat.le_of_ble_eq_true rfl) (by subst eS2; rfl) dX4_forgetActs_7 (fun H locs hs => ?_)
  exact sx_vret hx hb hr hlk hQ (congrArg (fun z => WX G a z) (Option.some.inj hF)) hs dX4_forgetActs_10
set_option maxHeartbeats 4000000 in
set_option maxRecDepth 100000 in
theorem c_X4_text (G : GT) (l : Launch) (a : Nat → Nat) (S : XS) (x1 : Int32) (r : Int32 × XS) (hF : F_X4_text S x1 = some r) : MT G l yX4_text cX4_text 3 (some .int) 7 145 [.ref (a 0), .int x1] (WX G a S) (some (.int r.1)) (WX G a r.2) := by
  refine MT.of (by decide) (Nat.le_of_ble_eq_true rfl) ?_
  intro p e s m args below meth c A ls hx hb hr hml hown hts hlk hE hA hs hl Q hQ
  have hl : lv_has ls 3 [(0, .ref (a 0)), (1, .int x1)] := hl
  have hL84 : ∀ (k : XS → Option (Int32 × XS)) (hk : ∀ (S : XS) (H : Heap) (locs : List Loc) (ls : Array Slot), k S = some r → SI G A s H locs (WX G a S) → lv_has ls 3 [(0, .ref (a 0))] → W p l e (RM 7 145) s m args below meth c H locs 0 0 Q (F0 m 102 ls [])) (fu : Nat) (S : XS) (x2 : Int32) (H : Heap) (locs : List Loc) (ls : Array Slot), lo2 (B_X4_text_84 k) fu S x2 = some r → SI G A s H locs (WX G a S) → lv_has ls 3 [(0, .ref (a 0)), (2, .int x2)] → W p l e (RM 7 145) s m args below meth c H locs 0 0 Q (F0 m 84 ls []) := by
    intro k hk fu
    induction fu with
    | zero =>
      intro S x2 H locs ls hF hs hl
      exact nomatch (show (none : Option (Int32 × XS)) = some r from hF)
    | succ fu hrec =>
      intro S x2 H locs ls hF hs hl
      have hF : (B_X4_text_84 k) (lo2 (B_X4_text_84 k) fu) S x2 = some r := hF
      unfold B_X4_text_84 at hF
      refine lv_iload_n hx hb dX4_text_84 rfl (lv_at hl 1 rfl) ?_
      refine lv_iconst (v := (2 : Int32)) hx hb dX4_text_85 (by decide) ?_
      refine lv_icmp_ge (tgt := 102) hx hb dX4_text_86 (by decide) (fun hc => ?_) (fun hc => ?_)
      · have hF := (if_pos hc).symm.trans hF
        exact hk S _ _ _ hF hs (lv_sub hl [0] rfl)
      · have hF := (if_neg hc).symm.trans hF
        refine lv_aload_n hx hb dX4_text_89 rfl (lv_at hl 0 rfl) ?_
        refine fg_X4_37 hx hb hown hts hE hs 0 rfl (v := .ref (a 3)) rfl dX4_text_90 ?_
        refine lv_iload_n hx hb dX4_text_93 rfl (lv_at hl 1 rfl) ?_
        refine lv_iconst (v := (0 : Int32)) hx hb dX4_text_94 (by decide) ?_
        obtain ⟨f10, hf10, hF⟩ := bd hF
        obtain ⟨S11, eS11, hF⟩ := nm_some hF
        refine sx_zast hx hb hE hs 3 (f := x_kept S) rfl rfl hf10 (ws' := WX G a S11) (by subst eS11; rfl) dX4_text_95 (fun H locs hs => ?_)
        obtain ⟨v12, ev12, hF⟩ := nm_some hF
        refine lv_iinc (v := v12) (lv' := [(2, .int v12), (0, .ref (a 0))]) hx hb dX4_text_96 hl (k := 1) rfl (by rw [ev12]; rfl) (by decide) rfl (fun ls hl => ?_)
        refine lv_goto (tgt := 84) hx hb dX4_text_99 (by decide) ?_
        exact hrec S11 v12 _ _ _ hF hs (lv_sub hl [1, 0] rfl)
  unfold F_X4_text at hF
  refine lv_iload_n hx hb dX4_text_0 rfl (lv_at hl 1 rfl) ?_
  refine lv_iconst (v := (0 : Int32)) hx hb dX4_text_1 (by decide) ?_
  refine lv_aload_n hx hb dX4_text_2 rfl (lv_at hl 0 rfl) ?_
  refine fg_X4_41 hx hb hown hts hE hs 0 rfl (v := .int (x_tapeLength S)) rfl dX4_text_3 ?_
  obtain ⟨q1, hq1, hF⟩ := bd hF
  refine sx_S (As := [.int x1, .int (0 : Int32), .int (x_tapeLength S)]) (rest := []) (st1 := [.int q1]) (c_X4_within G l  x1 (0 : Int32) (x_tapeLength S) q1 hq1) v_X4_64 ⟨(Nat.le_of_ble_eq_true rfl), (Nat.le_of_ble_eq_true rfl)⟩ hx hb hml hown hts hE hA hs ⟨Nat.le_refl 0, Nat.le_refl 0⟩ rfl rfl rfl hl.1 (Nat.le_of_ble_eq_true rfl) dX4_text_6 (List.Perm.refl _) (ws' := WX G a S) (List.Perm.refl _) (fun H locs hs => ?_)
  refine lv_if_ne (tgt := 18) hx hb dX4_text_9 (by decide) (fun hc => ?_) (fun hc => ?_)
  · have hF := (if_neg hc).symm.trans hF
    refine lv_aload_n hx hb dX4_text_18 rfl (lv_at hl 0 rfl) ?_
    refine lv_iconst (v := (0 : Int32)) hx hb dX4_text_19 (by decide) ?_
    obtain ⟨S2, eS2, hF⟩ := nm_some hF
    refine fp_X4_41 hx hb hown hts hE hs 0 rfl (ws' := WX G a S2) (Nat.le_of_ble_eq_true rfl) (by subst eS2; rfl) dX4_text_20 (fun H locs hs => ?_)
    refine lv_aload_n hx hb dX4_text_23 rfl (lv_at hl 0 rfl) ?_
    refine lv_aload_n hx hb dX4_text_24 rfl (lv_at hl 0 rfl) ?_
    refine fg_X4_10 hx hb hown hts hE hs 0 rfl (v := .ref (a 4)) rfl dX4_text_25 ?_
    refine lv_iload_n hx hb dX4_text_28 rfl (lv_at hl 1 rfl) ?_
    obtain ⟨q3, hq3, hF⟩ := bd hF
    obtain ⟨S4, eS4, hF⟩ := nm_some hF
    refine sx_N (As := [.int x1]) (rest := [.ref (a 0)]) (st1 := [.int q3.1, .ref (a 0)]) (c_X0_read G l (fun k => a (4 + k)) (x_reader S2) x1 q3 hq3) v_X4_72 ⟨(Nat.le_of_ble_eq_true rfl), (Nat.le_of_ble_eq_true rfl)⟩ hx hb hml hown hts hE hA hs ⟨Nat.le_refl 0, Nat.le_refl 0⟩ 9 rfl rfl rfl rfl rfl hl.1 (Nat.le_of_ble_eq_true rfl) dX4_text_29 (pX_reader G a S2 (x_reader S2)) (ws' := WX G a S4) (by subst eS4; exact pX_reader G a S2 q3.2) (fun H locs hs => ?_)
    obtain ⟨S5, eS5, hF⟩ := nm_some hF
    refine fp_X4_57 hx hb hown hts hE hs 0 rfl (ws' := WX G a S5) (Nat.le_of_ble_eq_true rfl) (by subst eS5; rfl) dX4_text_32 (fun H locs hs => ?_)
    refine lv_aload_n hx hb dX4_text_35 rfl (lv_at hl 0 rfl) ?_
    refine fg_X4_57 hx hb hown hts hE hs 0 rfl (v := .int (x_latestFault S5)) rfl dX4_text_36 ?_
    refine lv_if_eq (tgt := 60) hx hb dX4_text_39 (by decide) (fun hc => ?_) (fun hc => ?_)
    · have hF := (if_pos hc).symm.trans hF
      refine lv_aload_n hx hb dX4_text_60 rfl (lv_at hl 0 rfl) ?_
      obtain ⟨q6, hq6, hF⟩ := bd hF
      refine sx_V (As := []) (rest := []) (st1 := []) (c_X4_accept G l a S5 q6 hq6) v_X4_78 ⟨(Nat.le_of_ble_eq_true rfl), (Nat.le_of_ble_eq_true rfl)⟩ hx hb hml hown hts hE hA hs ⟨Nat.le_refl 0, Nat.le_refl 0⟩ 0 rfl rfl rfl rfl rfl hl.1 (Nat.le_of_ble_eq_true rfl) dX4_text_61 (pmW _) (ws' := WX G a q6) (pmW _) (fun H locs hs => ?_)
      refine lv_aload_n hx hb dX4_text_64 rfl (lv_at hl 0 rfl) ?_
      refine fg_X4_19 hx hb hown hts hE hs 0 rfl (v := .ref (a 12)) rfl dX4_text_65 ?_
      refine lv_aload_n hx hb dX4_text_68 rfl (lv_at hl 0 rfl) ?_
      refine fg_X4_10 hx hb hown hts hE hs 0 rfl (v := .ref (a 4)) rfl dX4_text_69 ?_
      refine fg_X4_81 hx hb hown hts hE hs 9 rfl (v := .ref (a 7)) rfl dX4_text_72 ?_
      obtain ⟨q7, hq7, hF⟩ := bd hF
      obtain ⟨S8, eS8, hF⟩ := nm_some hF
      refine sx_N (As := [.ref (a 7)]) (rest := []) (st1 := []) (c_X2_copyFrom G l (fun k => a (12 + k)) (fun k => a (4 + (3 + k))) (x_now q6) (d_told (x_reader q6)) q7 hq7) v_X4_84 ⟨(Nat.le_of_ble_eq_true rfl), (Nat.le_of_ble_eq_true rfl)⟩ hx hb hml hown hts hE hA hs ⟨Nat.le_refl 0, Nat.le_refl 0⟩ 12 rfl rfl rfl rfl rfl hl.1 (Nat.le_of_ble_eq_true rfl) dX4_text_75 (pX_now_reader_told G a q6 (x_now q6)) (ws' := WX G a S8) (by subst eS8; exact pX_now_reader_told G a q6 q7) (fun H locs hs => ?_)
      refine lv_aload_n hx hb dX4_text_78 rfl (lv_at hl 0 rfl) ?_
      obtain ⟨q9, hq9, hF⟩ := bd hF
      refine sx_V (As := []) (rest := []) (st1 := []) (c_X4_forgetActs G l a S8 q9 hq9) v_X4_88 ⟨(Nat.le_of_ble_eq_true rfl), (Nat.le_of_ble_eq_true rfl)⟩ hx hb hml hown hts hE hA hs ⟨Nat.le_refl 0, Nat.le_refl 0⟩ 0 rfl rfl rfl rfl rfl hl.1 (Nat.le_of_ble_eq_true rfl) dX4_text_79 (pmW _) (ws' := WX G a q9) (pmW _) (fun H locs hs => ?_)
      refine lv_iconst (v := (0 : Int32)) hx hb dX4_text_82 (by decide) ?_
      refine lv_istore_n (lv' := [(2, .int (0 : Int32)), (0, .ref (a 0)), (1, .int x1)]) hx hb dX4_text_83 rfl hl (by decide) rfl (fun ls hl => ?_)
      refine hL84 _ (fun S13 H locs ls hF hs hl => ?_) FU q9 (0 : Int32) _ _ _ hF hs (lv_sub hl [1, 0] rfl)
      refine lv_aload_n hx hb dX4_text_102 rfl (lv_at hl 0 rfl) ?_
      refine fg_X4_19 hx hb hown hts hE hs 0 rfl (v := .ref (a 12)) rfl dX4_text_103 ?_
      refine fg_X4_91 hx hb hown hts hE hs 12 rfl (v := .int (t_ships (x_now S13))) rfl dX4_text_106 ?_
      exact sx_iret hx hb hr hlk hQ (congrArg Prod.fst (Option.some.inj hF)) (congrArg (fun z => WX G a z) (congrArg Prod.snd (Option.some.inj hF))) hs dX4_text_109
    · have hF := (if_neg hc).symm.trans hF
      refine lv_aload_n hx hb dX4_text_42 rfl (lv_at hl 0 rfl) ?_
      refine lv_iconst (v := (4 : Int32)) hx hb dX4_text_43 (by decide) ?_
      obtain ⟨S14, eS14, hF⟩ := nm_some hF
      refine fp_X4_51 hx hb hown hts hE hs 0 rfl (ws' := WX G a S14) (Nat.le_of_ble_eq_true rfl) (by subst eS14; rfl) dX4_text_44 (fun H locs hs => ?_)
      refine lv_aload_n hx hb dX4_text_47 rfl (lv_at hl 0 rfl) ?_
      refine lv_aload_n hx hb dX4_text_48 rfl (lv_at hl 0 rfl) ?_
      refine fg_X4_10 hx hb hown hts hE hs 0 rfl (v := .ref (a 4)) rfl dX4_text_49 ?_
      refine fg_X4_75 hx hb hown hts hE hs 9 rfl (v := .int (d_start (x_reader S14))) rfl dX4_text_52 ?_
      obtain ⟨S15, eS15, hF⟩ := nm_some hF
      refine fp_X4_54 hx hb hown hts hE hs 0 rfl (ws' := WX G a S15) (Nat.le_of_ble_eq_true rfl) (by subst eS15; rfl) dX4_text_55 (fun H locs hs => ?_)
      refine lv_iconst (v := (-1 : Int32)) hx hb dX4_text_58 (by decide) ?_
      exact sx_iret hx hb hr hlk hQ (congrArg Prod.fst (Option.some.inj hF)) (congrArg (fun z => WX G a z) (congrArg Prod.snd (Option.some.inj hF))) hs dX4_text_59
  · have hF := (if_pos hc).symm.trans hF
    refine lv_aload_n hx hb dX4_text_12 rfl (lv_at hl 0 rfl) ?_
    refine lv_iconst (v := (2 : Int32)) hx hb dX4_text_13 (by decide) ?_
    obtain ⟨q16, hq16, hF⟩ := bd hF
    refine sx_V (As := [.int (2 : Int32)]) (rest := []) (st1 := [.int q16.1]) (c_X4_none G l a S (2 : Int32) q16 hq16) v_X4_68 ⟨(Nat.le_of_ble_eq_true rfl), (Nat.le_of_ble_eq_true rfl)⟩ hx hb hml hown hts hE hA hs ⟨Nat.le_refl 0, Nat.le_refl 0⟩ 0 rfl rfl rfl rfl rfl hl.1 (Nat.le_of_ble_eq_true rfl) dX4_text_14 (pmW _) (ws' := WX G a q16.2) (pmW _) (fun H locs hs => ?_)
    exact sx_iret hx hb hr hlk hQ (congrArg Prod.fst (Option.some.inj hF)) (congrArg (fun z => WX G a z) (congrArg Prod.snd (Option.some.inj hF))) hs dX4_text_17
set_option maxHeartbeats 4000000 in
set_option maxRecDepth 100000 in
theorem c_X4_fault (G : GT) (l : Launch) (a : Nat → Nat) (S : XS) (r : Int32) (hF : F_X4_fault S = some r) : MT G l yX4_fault cX4_fault 1 (some .int) 0 0 [.ref (a 0)] (WX G a S) (some (.int r)) (WX G a S) := by
  refine MT.of (by decide) (Nat.le_of_ble_eq_true rfl) ?_
  intro p e s m args below meth c A ls hx hb hr hml hown hts hlk hE hA hs hl Q hQ
  have hl : lv_has ls 1 [(0, .ref (a 0))] := hl
  unfold F_X4_fault at hF
  refine lv_aload_n hx hb dX4_fault_0 rfl (lv_at hl 0 rfl) ?_
  refine fg_X4_57 hx hb hown hts hE hs 0 rfl (v := .int (x_latestFault S)) rfl dX4_fault_1 ?_
  exact sx_iret hx hb hr hlk hQ (Option.some.inj hF) rfl hs dX4_fault_4
set_option maxHeartbeats 4000000 in
set_option maxRecDepth 100000 in
theorem c_X4_where (G : GT) (l : Launch) (a : Nat → Nat) (S : XS) (r : Int32) (hF : F_X4_where S = some r) : MT G l yX4_where cX4_where 1 (some .int) 0 0 [.ref (a 0)] (WX G a S) (some (.int r)) (WX G a S) := by
  refine MT.of (by decide) (Nat.le_of_ble_eq_true rfl) ?_
  intro p e s m args below meth c A ls hx hb hr hml hown hts hlk hE hA hs hl Q hQ
  have hl : lv_has ls 1 [(0, .ref (a 0))] := hl
  unfold F_X4_where at hF
  refine lv_aload_n hx hb dX4_where_0 rfl (lv_at hl 0 rfl) ?_
  refine fg_X4_54 hx hb hown hts hE hs 0 rfl (v := .int (x_latestPlace S)) rfl dX4_where_1 ?_
  exact sx_iret hx hb hr hlk hQ (Option.some.inj hF) rfl hs dX4_where_4
set_option maxHeartbeats 4000000 in
set_option maxRecDepth 100000 in
theorem c_X4_hasText (G : GT) (l : Launch) (a : Nat → Nat) (S : XS) (r : Int32) (hF : F_X4_hasText S = some r) : MT G l yX4_hasText cX4_hasText 1 (some .boolean) 0 0 [.ref (a 0)] (WX G a S) (some (.int r)) (WX G a S) := by
  refine MT.of (by decide) (Nat.le_of_ble_eq_true rfl) ?_
  intro p e s m args below meth c A ls hx hb hr hml hown hts hlk hE hA hs hl Q hQ
  have hl : lv_has ls 1 [(0, .ref (a 0))] := hl
  unfold F_X4_hasText at hF
  refine lv_aload_n hx hb dX4_hasText_0 rfl (lv_at hl 0 rfl) ?_
  refine fg_X4_19 hx hb hown hts hE hs 0 rfl (v := .ref (a 12)) rfl dX4_hasText_1 ?_
  refine fg_X4_91 hx hb hown hts hE hs 12 rfl (v := .int (t_ships (x_now S))) rfl dX4_hasText_4 ?_
  refine lv_if_le (tgt := 14) hx hb dX4_hasText_7 (by decide) (fun hc => ?_) (fun hc => ?_)
  · have hF := (if_pos hc).symm.trans hF
    refine lv_iconst (v := (0 : Int32)) hx hb dX4_hasText_14 (by decide) ?_
    exact sx_zret hx hb hr hlk hQ (Or.inl rfl) (Option.some.inj hF) rfl hs dX4_hasText_15
  · have hF := (if_neg hc).symm.trans hF
    refine lv_iconst (v := (1 : Int32)) hx hb dX4_hasText_10 (by decide) ?_
    refine lv_goto (tgt := 15) hx hb dX4_hasText_11 (by decide) ?_
    exact sx_zret hx hb hr hlk hQ (Or.inr rfl) (Option.some.inj hF) rfl hs dX4_hasText_15
set_option maxHeartbeats 4000000 in
set_option maxRecDepth 100000 in
theorem c_X4_about (G : GT) (l : Launch) (a : Nat → Nat) (S : XS) (x1 : Int32) (r : Int32 × XS) (hF : F_X4_about S x1 = some r) : MT G l yX4_about cX4_about 2 (some .int) 2 42 [.ref (a 0), .int x1] (WX G a S) (some (.int r.1)) (WX G a r.2) := by
  refine MT.of (by decide) (Nat.le_of_ble_eq_true rfl) ?_
  intro p e s m args below meth c A ls hx hb hr hml hown hts hlk hE hA hs hl Q hQ
  have hl : lv_has ls 2 [(0, .ref (a 0)), (1, .int x1)] := hl
  have hJ17_n : ∀ (S : XS) (H : Heap) (locs : List Loc) (ls : Array Slot), J_X4_about_17 S = some r → SI G A s H locs (WX G a S) → lv_has ls 2 [(0, .ref (a 0))] → W p l e (RM 2 42) s m args below meth c H locs 0 0 Q (F0 m 17 ls []) := by
    intro S H locs ls hF hs hl
    unfold J_X4_about_17 at hF
    refine lv_aload_n hx hb dX4_about_17 rfl (lv_at hl 0 rfl) ?_
    refine lv_iconst (v := (1 : Int32)) hx hb dX4_about_18 (by decide) ?_
    obtain ⟨q2, hq2, hF⟩ := bd hF
    refine sx_V (As := [.int (1 : Int32)]) (rest := []) (st1 := [.int q2.1]) (c_X4_none G l a S (1 : Int32) q2 hq2) v_X4_68 ⟨(Nat.le_of_ble_eq_true rfl), (Nat.le_of_ble_eq_true rfl)⟩ hx hb hml hown hts hE hA hs ⟨Nat.le_refl 0, Nat.le_refl 0⟩ 0 rfl rfl rfl rfl rfl hl.1 (Nat.le_of_ble_eq_true rfl) dX4_about_19 (pmW _) (ws' := WX G a q2.2) (pmW _) (fun H locs hs => ?_)
    exact sx_iret hx hb hr hlk hQ (congrArg Prod.fst (Option.some.inj hF)) (congrArg (fun z => WX G a z) (congrArg Prod.snd (Option.some.inj hF))) hs dX4_about_22
  unfold F_X4_about at hF
  refine lv_aload_n hx hb dX4_about_0 rfl (lv_at hl 0 rfl) ?_
  obtain ⟨q1, hq1, hF⟩ := bd hF
  refine sx_V (As := []) (rest := []) (st1 := [.int q1]) (c_X4_hasText G l a S q1 hq1) v_X4_94 ⟨(Nat.le_of_ble_eq_true rfl), (Nat.le_of_ble_eq_true rfl)⟩ hx hb hml hown hts hE hA hs ⟨Nat.le_refl 0, Nat.le_refl 0⟩ 0 rfl rfl rfl rfl rfl hl.1 (Nat.le_of_ble_eq_true rfl) dX4_about_1 (pmW _) (ws' := WX G a S) (pmW _) (fun H locs hs => ?_)
  refine lv_if_eq (tgt := 17) hx hb dX4_about_4 (by decide) (fun hc => ?_) (fun hc => ?_)
  · have hF := (if_pos hc).symm.trans hF
    exact hJ17_n S _ _ _ hF hs (lv_sub hl [0] rfl)
  · have hF := (if_neg hc).symm.trans hF
    refine lv_iload_n hx hb dX4_about_7 rfl (lv_at hl 1 rfl) ?_
    refine lv_iconst (v := (0 : Int32)) hx hb dX4_about_8 (by decide) ?_
    refine lv_bipush (v := (10 : Int32)) hx hb dX4_about_9 (by decide) ?_
    obtain ⟨q3, hq3, hF⟩ := bd hF
    refine sx_S (As := [.int x1, .int (0 : Int32), .int (10 : Int32)]) (rest := []) (st1 := [.int q3]) (c_X4_within G l  x1 (0 : Int32) (10 : Int32) q3 hq3) v_X4_64 ⟨(Nat.le_of_ble_eq_true rfl), (Nat.le_of_ble_eq_true rfl)⟩ hx hb hml hown hts hE hA hs ⟨Nat.le_refl 0, Nat.le_refl 0⟩ rfl rfl rfl hl.1 (Nat.le_of_ble_eq_true rfl) dX4_about_11 (List.Perm.refl _) (ws' := WX G a S) (List.Perm.refl _) (fun H locs hs => ?_)
    refine lv_if_ne (tgt := 23) hx hb dX4_about_14 (by decide) (fun hc => ?_) (fun hc => ?_)
    · have hF := (if_neg hc).symm.trans hF
      refine lv_aload_n hx hb dX4_about_23 rfl (lv_at hl 0 rfl) ?_
      obtain ⟨q4, hq4, hF⟩ := bd hF
      refine sx_V (As := []) (rest := []) (st1 := []) (c_X4_accept G l a S q4 hq4) v_X4_78 ⟨(Nat.le_of_ble_eq_true rfl), (Nat.le_of_ble_eq_true rfl)⟩ hx hb hml hown hts hE hA hs ⟨Nat.le_refl 0, Nat.le_refl 0⟩ 0 rfl rfl rfl rfl rfl hl.1 (Nat.le_of_ble_eq_true rfl) dX4_about_24 (pmW _) (ws' := WX G a q4) (pmW _) (fun H locs hs => ?_)
      refine lv_iload_n hx hb dX4_about_27 rfl (lv_at hl 1 rfl) ?_
      refine lv_if_ne (tgt := 39) hx hb dX4_about_28 (by decide) (fun hc => ?_) (fun hc => ?_)
      · have hF := (if_neg hc).symm.trans hF
        refine lv_iload_n hx hb dX4_about_39 rfl (lv_at hl 1 rfl) ?_
        refine lv_iconst (v := (1 : Int32)) hx hb dX4_about_40 (by decide) ?_
        refine lv_icmp_ne (tgt := 52) hx hb dX4_about_41 (by decide) (fun hc => ?_) (fun hc => ?_)
        · have hF := (if_neg hc).symm.trans hF
          refine lv_iload_n hx hb dX4_about_52 rfl (lv_at hl 1 rfl) ?_
          refine lv_bipush (v := (10 : Int32)) hx hb dX4_about_53 (by decide) ?_
          refine lv_icmp_ne (tgt := 65) hx hb dX4_about_55 (by decide) (fun hc => ?_) (fun hc => ?_)
          · have hF := (if_neg hc).symm.trans hF
            refine lv_aload_n hx hb dX4_about_65 rfl (lv_at hl 0 rfl) ?_
            refine fg_X4_19 hx hb hown hts hE hs 0 rfl (v := .ref (a 12)) rfl dX4_about_66 ?_
            refine fg_X4_101 hx hb hown hts hE hs 12 rfl (v := .ref (a 16)) rfl dX4_about_69 ?_
            refine lv_iload_n hx hb dX4_about_72 rfl (lv_at hl 1 rfl) ?_
            obtain ⟨v5, hv5, hF⟩ := bd hF
            refine sx_iald hx hb hE hs 16 (f := t_laws (x_now q4)) rfl hv5 dX4_about_73 ?_
            exact sx_iret hx hb hr hlk hQ (congrArg Prod.fst (Option.some.inj hF)) (congrArg (fun z => WX G a z) (congrArg Prod.snd (Option.some.inj hF))) hs dX4_about_74
          · have hF := (if_pos hc).symm.trans hF
            refine lv_aload_n hx hb dX4_about_58 rfl (lv_at hl 0 rfl) ?_
            refine fg_X4_45 hx hb hown hts hE hs 0 rfl (v := .int (x_undoable q4)) rfl dX4_about_59 ?_
            refine lv_goto (tgt := 74) hx hb dX4_about_62 (by decide) ?_
            exact sx_iret hx hb hr hlk hQ (congrArg Prod.fst (Option.some.inj hF)) (congrArg (fun z => WX G a z) (congrArg Prod.snd (Option.some.inj hF))) hs dX4_about_74
        · have hF := (if_pos hc).symm.trans hF
          refine lv_aload_n hx hb dX4_about_44 rfl (lv_at hl 0 rfl) ?_
          refine fg_X4_19 hx hb hown hts hE hs 0 rfl (v := .ref (a 12)) rfl dX4_about_45 ?_
          refine fg_X4_98 hx hb hown hts hE hs 12 rfl (v := .int (t_claims (x_now q4))) rfl dX4_about_48 ?_
          exact sx_iret hx hb hr hlk hQ (congrArg Prod.fst (Option.some.inj hF)) (congrArg (fun z => WX G a z) (congrArg Prod.snd (Option.some.inj hF))) hs dX4_about_51
      · have hF := (if_pos hc).symm.trans hF
        refine lv_aload_n hx hb dX4_about_31 rfl (lv_at hl 0 rfl) ?_
        refine fg_X4_19 hx hb hown hts hE hs 0 rfl (v := .ref (a 12)) rfl dX4_about_32 ?_
        refine fg_X4_91 hx hb hown hts hE hs 12 rfl (v := .int (t_ships (x_now q4))) rfl dX4_about_35 ?_
        exact sx_iret hx hb hr hlk hQ (congrArg Prod.fst (Option.some.inj hF)) (congrArg (fun z => WX G a z) (congrArg Prod.snd (Option.some.inj hF))) hs dX4_about_38
    · have hF := (if_pos hc).symm.trans hF
      exact hJ17_n S _ _ _ hF hs (lv_sub hl [0] rfl)
set_option maxHeartbeats 4000000 in
set_option maxRecDepth 100000 in
theorem c_X4_hasShip (G : GT) (l : Launch) (a : Nat → Nat) (S : XS) (x1 : Int32) (r : Int32) (hF : F_X4_hasShip S x1 = some r) : MT G l yX4_hasShip cX4_hasShip 2 (some .boolean) 1 22 [.ref (a 0), .int x1] (WX G a S) (some (.int r)) (WX G a S) := by
  refine MT.of (by decide) (Nat.le_of_ble_eq_true rfl) ?_
  intro p e s m args below meth c A ls hx hb hr hml hown hts hlk hE hA hs hl Q hQ
  have hl : lv_has ls 2 [(0, .ref (a 0)), (1, .int x1)] := hl
  unfold F_X4_hasShip at hF
  refine lv_iload_n hx hb dX4_hasShip_0 rfl (lv_at hl 1 rfl) ?_
  refine lv_iconst (v := (0 : Int32)) hx hb dX4_hasShip_1 (by decide) ?_
  refine lv_aload_n hx hb dX4_hasShip_2 rfl (lv_at hl 0 rfl) ?_
  refine fg_X4_19 hx hb hown hts hE hs 0 rfl (v := .ref (a 12)) rfl dX4_hasShip_3 ?_
  refine fg_X4_91 hx hb hown hts hE hs 12 rfl (v := .int (t_ships (x_now S))) rfl dX4_hasShip_6 ?_
  refine lv_iconst (v := (1 : Int32)) hx hb dX4_hasShip_9 (by decide) ?_
  refine lv_isub hx hb dX4_hasShip_10 ?_
  obtain ⟨q1, hq1, hF⟩ := bd hF
  refine sx_S (As := [.int x1, .int (0 : Int32), .int ((t_ships (x_now S)) - (1 : Int32))]) (rest := []) (st1 := [.int q1]) (c_X4_within G l  x1 (0 : Int32) ((t_ships (x_now S)) - (1 : Int32)) q1 hq1) v_X4_64 ⟨(Nat.le_of_ble_eq_true rfl), (Nat.le_of_ble_eq_true rfl)⟩ hx hb hml hown hts hE hA hs ⟨Nat.le_refl 0, Nat.le_refl 0⟩ rfl rfl rfl hl.1 (Nat.le_of_ble_eq_true rfl) dX4_hasShip_11 (List.Perm.refl _) (ws' := WX G a S) (List.Perm.refl _) (fun H locs hs => ?_)
  obtain ⟨hz, hF⟩ := zz_some hF
  exact sx_zret hx hb hr hlk hQ hz (Option.some.inj hF) rfl hs dX4_hasShip_14
set_option maxHeartbeats 4000000 in
set_option maxRecDepth 100000 in
theorem c_X4_ship (G : GT) (l : Launch) (a : Nat → Nat) (S : XS) (x1 : Int32) (x2 : Int32) (r : Int32 × XS) (hF : F_X4_ship S x1 x2 = some r) : MT G l yX4_ship cX4_ship 3 (some .int) 2 46 [.ref (a 0), .int x1, .int x2] (WX G a S) (some (.int r.1)) (WX G a r.2) := by
  refine MT.of (by decide) (Nat.le_of_ble_eq_true rfl) ?_
  intro p e s m args below meth c A ls hx hb hr hml hown hts hlk hE hA hs hl Q hQ
  have hl : lv_has ls 3 [(0, .ref (a 0)), (1, .int x1), (2, .int x2)] := hl
  have hJ18_n : ∀ (S : XS) (H : Heap) (locs : List Loc) (ls : Array Slot), J_X4_ship_18 S = some r → SI G A s H locs (WX G a S) → lv_has ls 3 [(0, .ref (a 0))] → W p l e (RM 2 46) s m args below meth c H locs 0 0 Q (F0 m 18 ls []) := by
    intro S H locs ls hF hs hl
    unfold J_X4_ship_18 at hF
    refine lv_aload_n hx hb dX4_ship_18 rfl (lv_at hl 0 rfl) ?_
    refine lv_iconst (v := (1 : Int32)) hx hb dX4_ship_19 (by decide) ?_
    obtain ⟨q2, hq2, hF⟩ := bd hF
    refine sx_V (As := [.int (1 : Int32)]) (rest := []) (st1 := [.int q2.1]) (c_X4_none G l a S (1 : Int32) q2 hq2) v_X4_68 ⟨(Nat.le_of_ble_eq_true rfl), (Nat.le_of_ble_eq_true rfl)⟩ hx hb hml hown hts hE hA hs ⟨Nat.le_refl 0, Nat.le_refl 0⟩ 0 rfl rfl rfl rfl rfl hl.1 (Nat.le_of_ble_eq_true rfl) dX4_ship_20 (pmW _) (ws' := WX G a q2.2) (pmW _) (fun H locs hs => ?_)
    exact sx_iret hx hb hr hlk hQ (congrArg Prod.fst (Option.some.inj hF)) (congrArg (fun z => WX G a z) (congrArg Prod.snd (Option.some.inj hF))) hs dX4_ship_23
  unfold F_X4_ship at hF
  refine lv_aload_n hx hb dX4_ship_0 rfl (lv_at hl 0 rfl) ?_
  refine lv_iload_n hx hb dX4_ship_1 rfl (lv_at hl 1 rfl) ?_
  obtain ⟨q1, hq1, hF⟩ := bd hF
  refine sx_V (As := [.int x1]) (rest := []) (st1 := [.int q1]) (c_X4_hasShip G l a S x1 q1 hq1) v_X4_105 ⟨(Nat.le_of_ble_eq_true rfl), (Nat.le_of_ble_eq_true rfl)⟩ hx hb hml hown hts hE hA hs ⟨Nat.le_refl 0, Nat.le_refl 0⟩ 0 rfl rfl rfl rfl rfl hl.1 (Nat.le_of_ble_eq_true rfl) dX4_ship_2 (pmW _) (ws' := WX G a S) (pmW _) (fun H locs hs => ?_)
  refine lv_if_eq (tgt := 18) hx hb dX4_ship_5 (by decide) (fun hc => ?_) (fun hc => ?_)
  · have hF := (if_pos hc).symm.trans hF
    exact hJ18_n S _ _ _ hF hs (lv_sub hl [0] rfl)
  · have hF := (if_neg hc).symm.trans hF
    refine lv_iload_n hx hb dX4_ship_8 rfl (lv_at hl 2 rfl) ?_
    refine lv_iconst (v := (0 : Int32)) hx hb dX4_ship_9 (by decide) ?_
    refine lv_bipush (v := (6 : Int32)) hx hb dX4_ship_10 (by decide) ?_
    obtain ⟨q3, hq3, hF⟩ := bd hF
    refine sx_S (As := [.int x2, .int (0 : Int32), .int (6 : Int32)]) (rest := []) (st1 := [.int q3]) (c_X4_within G l  x2 (0 : Int32) (6 : Int32) q3 hq3) v_X4_64 ⟨(Nat.le_of_ble_eq_true rfl), (Nat.le_of_ble_eq_true rfl)⟩ hx hb hml hown hts hE hA hs ⟨Nat.le_refl 0, Nat.le_refl 0⟩ rfl rfl rfl hl.1 (Nat.le_of_ble_eq_true rfl) dX4_ship_12 (List.Perm.refl _) (ws' := WX G a S) (List.Perm.refl _) (fun H locs hs => ?_)
    refine lv_if_ne (tgt := 24) hx hb dX4_ship_15 (by decide) (fun hc => ?_) (fun hc => ?_)
    · have hF := (if_neg hc).symm.trans hF
      refine lv_aload_n hx hb dX4_ship_24 rfl (lv_at hl 0 rfl) ?_
      obtain ⟨q4, hq4, hF⟩ := bd hF
      refine sx_V (As := []) (rest := []) (st1 := []) (c_X4_accept G l a S q4 hq4) v_X4_78 ⟨(Nat.le_of_ble_eq_true rfl), (Nat.le_of_ble_eq_true rfl)⟩ hx hb hml hown hts hE hA hs ⟨Nat.le_refl 0, Nat.le_refl 0⟩ 0 rfl rfl rfl rfl rfl hl.1 (Nat.le_of_ble_eq_true rfl) dX4_ship_25 (pmW _) (ws' := WX G a q4) (pmW _) (fun H locs hs => ?_)
      refine lv_iload_n hx hb dX4_ship_28 rfl (lv_at hl 2 rfl) ?_
      refine lv_bipush (v := (6 : Int32)) hx hb dX4_ship_29 (by decide) ?_
      refine lv_icmp_ne (tgt := 45) hx hb dX4_ship_31 (by decide) (fun hc => ?_) (fun hc => ?_)
      · have hF := (if_neg hc).symm.trans hF
        refine lv_aload_n hx hb dX4_ship_45 rfl (lv_at hl 0 rfl) ?_
        refine fg_X4_19 hx hb hown hts hE hs 0 rfl (v := .ref (a 12)) rfl dX4_ship_46 ?_
        refine lv_iload_n hx hb dX4_ship_49 rfl (lv_at hl 1 rfl) ?_
        refine lv_iload_n hx hb dX4_ship_50 rfl (lv_at hl 2 rfl) ?_
        obtain ⟨q5, hq5, hF⟩ := bd hF
        refine sx_N (As := [.int x1, .int x2]) (rest := []) (st1 := [.int q5]) (c_X2_ofShip G l (fun k => a (12 + k)) (x_now q4) x1 x2 q5 hq5) v_X4_112 ⟨(Nat.le_of_ble_eq_true rfl), (Nat.le_of_ble_eq_true rfl)⟩ hx hb hml hown hts hE hA hs ⟨Nat.le_refl 0, Nat.le_refl 0⟩ 12 rfl rfl rfl rfl rfl hl.1 (Nat.le_of_ble_eq_true rfl) dX4_ship_51 (pX_now G a q4 (x_now q4)) (ws' := WX G a q4) (pX_now G a q4 (x_now q4)) (fun H locs hs => ?_)
        exact sx_iret hx hb hr hlk hQ (congrArg Prod.fst (Option.some.inj hF)) (congrArg (fun z => WX G a z) (congrArg Prod.snd (Option.some.inj hF))) hs dX4_ship_54
      · have hF := (if_pos hc).symm.trans hF
        refine lv_aload_n hx hb dX4_ship_34 rfl (lv_at hl 0 rfl) ?_
        refine fg_X4_19 hx hb hown hts hE hs 0 rfl (v := .ref (a 12)) rfl dX4_ship_35 ?_
        refine lv_iload_n hx hb dX4_ship_38 rfl (lv_at hl 1 rfl) ?_
        obtain ⟨q6, hq6, hF⟩ := bd hF
        refine sx_N (As := [.int x1]) (rest := []) (st1 := [.int q6]) (c_X2_weightOf G l (fun k => a (12 + k)) (x_now q4) x1 q6 hq6) v_X4_109 ⟨(Nat.le_of_ble_eq_true rfl), (Nat.le_of_ble_eq_true rfl)⟩ hx hb hml hown hts hE hA hs ⟨Nat.le_refl 0, Nat.le_refl 0⟩ 12 rfl rfl rfl rfl rfl hl.1 (Nat.le_of_ble_eq_true rfl) dX4_ship_39 (pX_now G a q4 (x_now q4)) (ws' := WX G a q4) (pX_now G a q4 (x_now q4)) (fun H locs hs => ?_)
        refine lv_goto (tgt := 54) hx hb dX4_ship_42 (by decide) ?_
        exact sx_iret hx hb hr hlk hQ (congrArg Prod.fst (Option.some.inj hF)) (congrArg (fun z => WX G a z) (congrArg Prod.snd (Option.some.inj hF))) hs dX4_ship_54
    · have hF := (if_pos hc).symm.trans hF
      exact hJ18_n S _ _ _ hF hs (lv_sub hl [0] rfl)
set_option maxHeartbeats 4000000 in
set_option maxRecDepth 100000 in
theorem c_X4_hasClaim (G : GT) (l : Launch) (a : Nat → Nat) (S : XS) (x1 : Int32) (r : Int32) (hF : F_X4_hasClaim S x1 = some r) : MT G l yX4_hasClaim cX4_hasClaim 2 (some .boolean) 1 22 [.ref (a 0), .int x1] (WX G a S) (some (.int r)) (WX G a S) := by
  refine MT.of (by decide) (Nat.le_of_ble_eq_true rfl) ?_
  intro p e s m args below meth c A ls hx hb hr hml hown hts hlk hE hA hs hl Q hQ
  have hl : lv_has ls 2 [(0, .ref (a 0)), (1, .int x1)] := hl
  unfold F_X4_hasClaim at hF
  refine lv_iload_n hx hb dX4_hasClaim_0 rfl (lv_at hl 1 rfl) ?_
  refine lv_iconst (v := (0 : Int32)) hx hb dX4_hasClaim_1 (by decide) ?_
  refine lv_aload_n hx hb dX4_hasClaim_2 rfl (lv_at hl 0 rfl) ?_
  refine fg_X4_19 hx hb hown hts hE hs 0 rfl (v := .ref (a 12)) rfl dX4_hasClaim_3 ?_
  refine fg_X4_98 hx hb hown hts hE hs 12 rfl (v := .int (t_claims (x_now S))) rfl dX4_hasClaim_6 ?_
  refine lv_iconst (v := (1 : Int32)) hx hb dX4_hasClaim_9 (by decide) ?_
  refine lv_isub hx hb dX4_hasClaim_10 ?_
  obtain ⟨q1, hq1, hF⟩ := bd hF
  refine sx_S (As := [.int x1, .int (0 : Int32), .int ((t_claims (x_now S)) - (1 : Int32))]) (rest := []) (st1 := [.int q1]) (c_X4_within G l  x1 (0 : Int32) ((t_claims (x_now S)) - (1 : Int32)) q1 hq1) v_X4_64 ⟨(Nat.le_of_ble_eq_true rfl), (Nat.le_of_ble_eq_true rfl)⟩ hx hb hml hown hts hE hA hs ⟨Nat.le_refl 0, Nat.le_refl 0⟩ rfl rfl rfl hl.1 (Nat.le_of_ble_eq_true rfl) dX4_hasClaim_11 (List.Perm.refl _) (ws' := WX G a S) (List.Perm.refl _) (fun H locs hs => ?_)
  obtain ⟨hz, hF⟩ := zz_some hF
  exact sx_zret hx hb hr hlk hQ hz (Option.some.inj hF) rfl hs dX4_hasClaim_14
set_option maxHeartbeats 4000000 in
set_option maxRecDepth 100000 in
theorem c_X4_claim (G : GT) (l : Launch) (a : Nat → Nat) (S : XS) (x1 : Int32) (x2 : Int32) (r : Int32 × XS) (hF : F_X4_claim S x1 x2 = some r) : MT G l yX4_claim cX4_claim 3 (some .int) 2 44 [.ref (a 0), .int x1, .int x2] (WX G a S) (some (.int r.1)) (WX G a r.2) := by
  refine MT.of (by decide) (Nat.le_of_ble_eq_true rfl) ?_
  intro p e s m args below meth c A ls hx hb hr hml hown hts hlk hE hA hs hl Q hQ
  have hl : lv_has ls 3 [(0, .ref (a 0)), (1, .int x1), (2, .int x2)] := hl
  have hJ17_n : ∀ (S : XS) (H : Heap) (locs : List Loc) (ls : Array Slot), J_X4_claim_17 S = some r → SI G A s H locs (WX G a S) → lv_has ls 3 [(0, .ref (a 0))] → W p l e (RM 2 44) s m args below meth c H locs 0 0 Q (F0 m 17 ls []) := by
    intro S H locs ls hF hs hl
    unfold J_X4_claim_17 at hF
    refine lv_aload_n hx hb dX4_claim_17 rfl (lv_at hl 0 rfl) ?_
    refine lv_iconst (v := (1 : Int32)) hx hb dX4_claim_18 (by decide) ?_
    obtain ⟨q2, hq2, hF⟩ := bd hF
    refine sx_V (As := [.int (1 : Int32)]) (rest := []) (st1 := [.int q2.1]) (c_X4_none G l a S (1 : Int32) q2 hq2) v_X4_68 ⟨(Nat.le_of_ble_eq_true rfl), (Nat.le_of_ble_eq_true rfl)⟩ hx hb hml hown hts hE hA hs ⟨Nat.le_refl 0, Nat.le_refl 0⟩ 0 rfl rfl rfl rfl rfl hl.1 (Nat.le_of_ble_eq_true rfl) dX4_claim_19 (pmW _) (ws' := WX G a q2.2) (pmW _) (fun H locs hs => ?_)
    exact sx_iret hx hb hr hlk hQ (congrArg Prod.fst (Option.some.inj hF)) (congrArg (fun z => WX G a z) (congrArg Prod.snd (Option.some.inj hF))) hs dX4_claim_22
  unfold F_X4_claim at hF
  refine lv_aload_n hx hb dX4_claim_0 rfl (lv_at hl 0 rfl) ?_
  refine lv_iload_n hx hb dX4_claim_1 rfl (lv_at hl 1 rfl) ?_
  obtain ⟨q1, hq1, hF⟩ := bd hF
  refine sx_V (As := [.int x1]) (rest := []) (st1 := [.int q1]) (c_X4_hasClaim G l a S x1 q1 hq1) v_X4_116 ⟨(Nat.le_of_ble_eq_true rfl), (Nat.le_of_ble_eq_true rfl)⟩ hx hb hml hown hts hE hA hs ⟨Nat.le_refl 0, Nat.le_refl 0⟩ 0 rfl rfl rfl rfl rfl hl.1 (Nat.le_of_ble_eq_true rfl) dX4_claim_2 (pmW _) (ws' := WX G a S) (pmW _) (fun H locs hs => ?_)
  refine lv_if_eq (tgt := 17) hx hb dX4_claim_5 (by decide) (fun hc => ?_) (fun hc => ?_)
  · have hF := (if_pos hc).symm.trans hF
    exact hJ17_n S _ _ _ hF hs (lv_sub hl [0] rfl)
  · have hF := (if_neg hc).symm.trans hF
    refine lv_iload_n hx hb dX4_claim_8 rfl (lv_at hl 2 rfl) ?_
    refine lv_iconst (v := (0 : Int32)) hx hb dX4_claim_9 (by decide) ?_
    refine lv_iconst (v := (4 : Int32)) hx hb dX4_claim_10 (by decide) ?_
    obtain ⟨q3, hq3, hF⟩ := bd hF
    refine sx_S (As := [.int x2, .int (0 : Int32), .int (4 : Int32)]) (rest := []) (st1 := [.int q3]) (c_X4_within G l  x2 (0 : Int32) (4 : Int32) q3 hq3) v_X4_64 ⟨(Nat.le_of_ble_eq_true rfl), (Nat.le_of_ble_eq_true rfl)⟩ hx hb hml hown hts hE hA hs ⟨Nat.le_refl 0, Nat.le_refl 0⟩ rfl rfl rfl hl.1 (Nat.le_of_ble_eq_true rfl) dX4_claim_11 (List.Perm.refl _) (ws' := WX G a S) (List.Perm.refl _) (fun H locs hs => ?_)
    refine lv_if_ne (tgt := 23) hx hb dX4_claim_14 (by decide) (fun hc => ?_) (fun hc => ?_)
    · have hF := (if_neg hc).symm.trans hF
      refine lv_aload_n hx hb dX4_claim_23 rfl (lv_at hl 0 rfl) ?_
      obtain ⟨q4, hq4, hF⟩ := bd hF
      refine sx_V (As := []) (rest := []) (st1 := []) (c_X4_accept G l a S q4 hq4) v_X4_78 ⟨(Nat.le_of_ble_eq_true rfl), (Nat.le_of_ble_eq_true rfl)⟩ hx hb hml hown hts hE hA hs ⟨Nat.le_refl 0, Nat.le_refl 0⟩ 0 rfl rfl rfl rfl rfl hl.1 (Nat.le_of_ble_eq_true rfl) dX4_claim_24 (pmW _) (ws' := WX G a q4) (pmW _) (fun H locs hs => ?_)
      refine lv_iload_n hx hb dX4_claim_27 rfl (lv_at hl 2 rfl) ?_
      refine lv_iconst (v := (4 : Int32)) hx hb dX4_claim_28 (by decide) ?_
      refine lv_icmp_ne (tgt := 43) hx hb dX4_claim_29 (by decide) (fun hc => ?_) (fun hc => ?_)
      · have hF := (if_neg hc).symm.trans hF
        refine lv_aload_n hx hb dX4_claim_43 rfl (lv_at hl 0 rfl) ?_
        refine fg_X4_19 hx hb hown hts hE hs 0 rfl (v := .ref (a 12)) rfl dX4_claim_44 ?_
        refine lv_iload_n hx hb dX4_claim_47 rfl (lv_at hl 1 rfl) ?_
        refine lv_iload_n hx hb dX4_claim_48 rfl (lv_at hl 2 rfl) ?_
        obtain ⟨q5, hq5, hF⟩ := bd hF
        refine sx_N (As := [.int x1, .int x2]) (rest := []) (st1 := [.int q5]) (c_X2_ofClaim G l (fun k => a (12 + k)) (x_now q4) x1 x2 q5 hq5) v_X4_122 ⟨(Nat.le_of_ble_eq_true rfl), (Nat.le_of_ble_eq_true rfl)⟩ hx hb hml hown hts hE hA hs ⟨Nat.le_refl 0, Nat.le_refl 0⟩ 12 rfl rfl rfl rfl rfl hl.1 (Nat.le_of_ble_eq_true rfl) dX4_claim_49 (pX_now G a q4 (x_now q4)) (ws' := WX G a q4) (pX_now G a q4 (x_now q4)) (fun H locs hs => ?_)
        exact sx_iret hx hb hr hlk hQ (congrArg Prod.fst (Option.some.inj hF)) (congrArg (fun z => WX G a z) (congrArg Prod.snd (Option.some.inj hF))) hs dX4_claim_52
      · have hF := (if_pos hc).symm.trans hF
        refine lv_aload_n hx hb dX4_claim_32 rfl (lv_at hl 0 rfl) ?_
        refine fg_X4_19 hx hb hown hts hE hs 0 rfl (v := .ref (a 12)) rfl dX4_claim_33 ?_
        refine lv_iload_n hx hb dX4_claim_36 rfl (lv_at hl 1 rfl) ?_
        obtain ⟨q6, hq6, hF⟩ := bd hF
        refine sx_N (As := [.int x1]) (rest := []) (st1 := [.int q6]) (c_X2_roundOf G l (fun k => a (12 + k)) (x_now q4) x1 q6 hq6) v_X4_119 ⟨(Nat.le_of_ble_eq_true rfl), (Nat.le_of_ble_eq_true rfl)⟩ hx hb hml hown hts hE hA hs ⟨Nat.le_refl 0, Nat.le_refl 0⟩ 12 rfl rfl rfl rfl rfl hl.1 (Nat.le_of_ble_eq_true rfl) dX4_claim_37 (pX_now G a q4 (x_now q4)) (ws' := WX G a q4) (pX_now G a q4 (x_now q4)) (fun H locs hs => ?_)
        refine lv_goto (tgt := 52) hx hb dX4_claim_40 (by decide) ?_
        exact sx_iret hx hb hr hlk hQ (congrArg Prod.fst (Option.some.inj hF)) (congrArg (fun z => WX G a z) (congrArg Prod.snd (Option.some.inj hF))) hs dX4_claim_52
    · have hF := (if_pos hc).symm.trans hF
      exact hJ17_n S _ _ _ hF hs (lv_sub hl [0] rfl)
set_option maxHeartbeats 4000000 in
set_option maxRecDepth 100000 in
theorem c_X4_reckon (G : GT) (l : Launch) (a : Nat → Nat) (S : XS) (r : XS) (hF : F_X4_reckon S = some r) : MT G l yX4_reckon cX4_reckon 1 (none) 6 142 [.ref (a 0)] (WX G a S) none (WX G a r) := by
  refine MT.of (by decide) (Nat.le_of_ble_eq_true rfl) ?_
  intro p e s m args below meth c A ls hx hb hr hml hown hts hlk hE hA hs hl Q hQ
  have hl : lv_has ls 1 [(0, .ref (a 0))] := hl
  unfold F_X4_reckon at hF
  refine lv_aload_n hx hb dX4_reckon_0 rfl (lv_at hl 0 rfl) ?_
  refine fg_X4_26 hx hb hown hts hE hs 0 rfl (v := .ref (a 17)) rfl dX4_reckon_1 ?_
  refine lv_aload_n hx hb dX4_reckon_4 rfl (lv_at hl 0 rfl) ?_
  refine fg_X4_19 hx hb hown hts hE hs 0 rfl (v := .ref (a 12)) rfl dX4_reckon_5 ?_
  obtain ⟨q1, hq1, hF⟩ := bd hF
  obtain ⟨S2, eS2, hF⟩ := nm_some hF
  refine sx_N (As := [.ref (a 12)]) (rest := []) (st1 := []) (c_X1_take G l (fun k => a (17 + k)) (fun k => a (12 + k)) (x_reckoning S) (x_now S) q1 hq1) v_X4_210 ⟨(Nat.le_of_ble_eq_true rfl), (Nat.le_of_ble_eq_true rfl)⟩ hx hb hml hown hts hE hA hs ⟨Nat.le_refl 0, Nat.le_refl 0⟩ 22 rfl rfl rfl rfl rfl hl.1 (Nat.le_of_ble_eq_true rfl) dX4_reckon_8 (pX_reckoning_now G a S (x_reckoning S)) (ws' := WX G a S2) (by subst eS2; exact pX_reckoning_now G a S q1) (fun H locs hs => ?_)
  refine lv_aload_n hx hb dX4_reckon_11 rfl (lv_at hl 0 rfl) ?_
  refine fg_X4_26 hx hb hown hts hE hs 0 rfl (v := .ref (a 17)) rfl dX4_reckon_12 ?_
  obtain ⟨q3, hq3, hF⟩ := bd hF
  obtain ⟨S4, eS4, hF⟩ := nm_some hF
  refine sx_N (As := []) (rest := []) (st1 := []) (c_X1_settle G l (fun k => a (17 + k)) (x_reckoning S2) q3 hq3) v_X4_218 ⟨(Nat.le_of_ble_eq_true rfl), (Nat.le_of_ble_eq_true rfl)⟩ hx hb hml hown hts hE hA hs ⟨Nat.le_refl 0, Nat.le_refl 0⟩ 22 rfl rfl rfl rfl rfl hl.1 (Nat.le_of_ble_eq_true rfl) dX4_reckon_15 (pX_reckoning G a S2 (x_reckoning S2)) (ws' := WX G a S4) (by subst eS4; exact pX_reckoning G a S2 q3) (fun H locs hs => ?_)
  exact sx_vret hx hb hr hlk hQ (congrArg (fun z => WX G a z) (Option.some.inj hF)) hs dX4_reckon_18
set_option maxHeartbeats 4000000 in
set_option maxRecDepth 100000 in
theorem c_X4_part (G : GT) (l : Launch) (a : Nat → Nat) (S : XS) (x1 : Int32) (x2 : Int32) (r : Int32 × XS) (hF : F_X4_part S x1 x2 = some r) : MT G l yX4_part cX4_part 3 (some .int) 7 162 [.ref (a 0), .int x1, .int x2] (WX G a S) (some (.int r.1)) (WX G a r.2) := by
  refine MT.of (by decide) (Nat.le_of_ble_eq_true rfl) ?_
  intro p e s m args below meth c A ls hx hb hr hml hown hts hlk hE hA hs hl Q hQ
  have hl : lv_has ls 3 [(0, .ref (a 0)), (1, .int x1), (2, .int x2)] := hl
  unfold F_X4_part at hF
  refine lv_aload_n hx hb dX4_part_0 rfl (lv_at hl 0 rfl) ?_
  refine lv_iload_n hx hb dX4_part_1 rfl (lv_at hl 1 rfl) ?_
  obtain ⟨q1, hq1, hF⟩ := bd hF
  refine sx_V (As := [.int x1]) (rest := []) (st1 := [.int q1]) (c_X4_hasShip G l a S x1 q1 hq1) v_X4_105 ⟨(Nat.le_of_ble_eq_true rfl), (Nat.le_of_ble_eq_true rfl)⟩ hx hb hml hown hts hE hA hs ⟨Nat.le_refl 0, Nat.le_refl 0⟩ 0 rfl rfl rfl rfl rfl hl.1 (Nat.le_of_ble_eq_true rfl) dX4_part_2 (pmW _) (ws' := WX G a S) (pmW _) (fun H locs hs => ?_)
  refine lv_if_ne (tgt := 14) hx hb dX4_part_5 (by decide) (fun hc => ?_) (fun hc => ?_)
  · have hF := (if_neg hc).symm.trans hF
    refine lv_iload_n hx hb dX4_part_14 rfl (lv_at hl 2 rfl) ?_
    refine lv_iconst (v := (0 : Int32)) hx hb dX4_part_15 (by decide) ?_
    refine lv_ldc (v := (9999999 : Int32)) hx hb hown (hts _ g519) dX4_part_16 ?_
    obtain ⟨q2, hq2, hF⟩ := bd hF
    refine sx_S (As := [.int x2, .int (0 : Int32), .int (9999999 : Int32)]) (rest := []) (st1 := [.int q2]) (c_X4_within G l  x2 (0 : Int32) (9999999 : Int32) q2 hq2) v_X4_64 ⟨(Nat.le_of_ble_eq_true rfl), (Nat.le_of_ble_eq_true rfl)⟩ hx hb hml hown hts hE hA hs ⟨Nat.le_refl 0, Nat.le_refl 0⟩ rfl rfl rfl hl.1 (Nat.le_of_ble_eq_true rfl) dX4_part_18 (List.Perm.refl _) (ws' := WX G a S) (List.Perm.refl _) (fun H locs hs => ?_)
    refine lv_if_ne (tgt := 30) hx hb dX4_part_21 (by decide) (fun hc => ?_) (fun hc => ?_)
    · have hF := (if_neg hc).symm.trans hF
      refine lv_aload_n hx hb dX4_part_30 rfl (lv_at hl 0 rfl) ?_
      obtain ⟨q3, hq3, hF⟩ := bd hF
      refine sx_V (As := []) (rest := []) (st1 := []) (c_X4_accept G l a S q3 hq3) v_X4_78 ⟨(Nat.le_of_ble_eq_true rfl), (Nat.le_of_ble_eq_true rfl)⟩ hx hb hml hown hts hE hA hs ⟨Nat.le_refl 0, Nat.le_refl 0⟩ 0 rfl rfl rfl rfl rfl hl.1 (Nat.le_of_ble_eq_true rfl) dX4_part_31 (pmW _) (ws' := WX G a q3) (pmW _) (fun H locs hs => ?_)
      refine lv_aload_n hx hb dX4_part_34 rfl (lv_at hl 0 rfl) ?_
      obtain ⟨q4, hq4, hF⟩ := bd hF
      refine sx_V (As := []) (rest := []) (st1 := []) (c_X4_reckon G l a q3 q4 hq4) v_X4_126 ⟨(Nat.le_of_ble_eq_true rfl), (Nat.le_of_ble_eq_true rfl)⟩ hx hb hml hown hts hE hA hs ⟨Nat.le_refl 0, Nat.le_refl 0⟩ 0 rfl rfl rfl rfl rfl hl.1 (Nat.le_of_ble_eq_true rfl) dX4_part_35 (pmW _) (ws' := WX G a q4) (pmW _) (fun H locs hs => ?_)
      refine lv_aload_n hx hb dX4_part_38 rfl (lv_at hl 0 rfl) ?_
      refine fg_X4_26 hx hb hown hts hE hs 0 rfl (v := .ref (a 17)) rfl dX4_part_39 ?_
      refine lv_iload_n hx hb dX4_part_42 rfl (lv_at hl 1 rfl) ?_
      refine lv_iload_n hx hb dX4_part_43 rfl (lv_at hl 2 rfl) ?_
      refine lv_i2l hx hb dX4_part_44 rfl ?_
      obtain ⟨q5, hq5, hF⟩ := bd hF
      refine sx_N (As := [.int x1, .long x2.toInt64]) (rest := []) (st1 := [.long q5]) (c_X1_partOf G l (fun k => a (17 + k)) (x_reckoning q4) x1 x2.toInt64 q5 hq5) v_X4_129 ⟨(Nat.le_of_ble_eq_true rfl), (Nat.le_of_ble_eq_true rfl)⟩ hx hb hml hown hts hE hA hs ⟨Nat.le_refl 0, Nat.le_refl 0⟩ 22 rfl rfl rfl rfl rfl hl.1 (Nat.le_of_ble_eq_true rfl) dX4_part_45 (pX_reckoning G a q4 (x_reckoning q4)) (ws' := WX G a q4) (pX_reckoning G a q4 (x_reckoning q4)) (fun H locs hs => ?_)
      refine lv_l2i hx hb dX4_part_48 rfl ?_
      exact sx_iret hx hb hr hlk hQ (congrArg Prod.fst (Option.some.inj hF)) (congrArg (fun z => WX G a z) (congrArg Prod.snd (Option.some.inj hF))) hs dX4_part_49
    · have hF := (if_pos hc).symm.trans hF
      refine lv_aload_n hx hb dX4_part_24 rfl (lv_at hl 0 rfl) ?_
      refine lv_iconst (v := (2 : Int32)) hx hb dX4_part_25 (by decide) ?_
      obtain ⟨q6, hq6, hF⟩ := bd hF
      refine sx_V (As := [.int (2 : Int32)]) (rest := []) (st1 := [.int q6.1]) (c_X4_none G l a S (2 : Int32) q6 hq6) v_X4_68 ⟨(Nat.le_of_ble_eq_true rfl), (Nat.le_of_ble_eq_true rfl)⟩ hx hb hml hown hts hE hA hs ⟨Nat.le_refl 0, Nat.le_refl 0⟩ 0 rfl rfl rfl rfl rfl hl.1 (Nat.le_of_ble_eq_true rfl) dX4_part_26 (pmW _) (ws' := WX G a q6.2) (pmW _) (fun H locs hs => ?_)
      exact sx_iret hx hb hr hlk hQ (congrArg Prod.fst (Option.some.inj hF)) (congrArg (fun z => WX G a z) (congrArg Prod.snd (Option.some.inj hF))) hs dX4_part_29
  · have hF := (if_pos hc).symm.trans hF
    refine lv_aload_n hx hb dX4_part_8 rfl (lv_at hl 0 rfl) ?_
    refine lv_iconst (v := (1 : Int32)) hx hb dX4_part_9 (by decide) ?_
    obtain ⟨q7, hq7, hF⟩ := bd hF
    refine sx_V (As := [.int (1 : Int32)]) (rest := []) (st1 := [.int q7.1]) (c_X4_none G l a S (1 : Int32) q7 hq7) v_X4_68 ⟨(Nat.le_of_ble_eq_true rfl), (Nat.le_of_ble_eq_true rfl)⟩ hx hb hml hown hts hE hA hs ⟨Nat.le_refl 0, Nat.le_refl 0⟩ 0 rfl rfl rfl rfl rfl hl.1 (Nat.le_of_ble_eq_true rfl) dX4_part_10 (pmW _) (ws' := WX G a q7.2) (pmW _) (fun H locs hs => ?_)
    exact sx_iret hx hb hr hlk hQ (congrArg Prod.fst (Option.some.inj hF)) (congrArg (fun z => WX G a z) (congrArg Prod.snd (Option.some.inj hF))) hs dX4_part_13
set_option maxHeartbeats 4000000 in
set_option maxRecDepth 100000 in
theorem c_X4_owes (G : GT) (l : Launch) (a : Nat → Nat) (S : XS) (x1 : Int32) (x2 : Int32) (r : Int32 × XS) (hF : F_X4_owes S x1 x2 = some r) : MT G l yX4_owes cX4_owes 3 (some .int) 7 162 [.ref (a 0), .int x1, .int x2] (WX G a S) (some (.int r.1)) (WX G a r.2) := by
  refine MT.of (by decide) (Nat.le_of_ble_eq_true rfl) ?_
  intro p e s m args below meth c A ls hx hb hr hml hown hts hlk hE hA hs hl Q hQ
  have hl : lv_has ls 3 [(0, .ref (a 0)), (1, .int x1), (2, .int x2)] := hl
  have hJ16_n : ∀ (S : XS) (H : Heap) (locs : List Loc) (ls : Array Slot), J_X4_owes_16 S = some r → SI G A s H locs (WX G a S) → lv_has ls 3 [(0, .ref (a 0))] → W p l e (RM 7 162) s m args below meth c H locs 0 0 Q (F0 m 16 ls []) := by
    intro S H locs ls hF hs hl
    unfold J_X4_owes_16 at hF
    refine lv_aload_n hx hb dX4_owes_16 rfl (lv_at hl 0 rfl) ?_
    refine lv_iconst (v := (1 : Int32)) hx hb dX4_owes_17 (by decide) ?_
    obtain ⟨q2, hq2, hF⟩ := bd hF
    refine sx_V (As := [.int (1 : Int32)]) (rest := []) (st1 := [.int q2.1]) (c_X4_none G l a S (1 : Int32) q2 hq2) v_X4_68 ⟨(Nat.le_of_ble_eq_true rfl), (Nat.le_of_ble_eq_true rfl)⟩ hx hb hml hown hts hE hA hs ⟨Nat.le_refl 0, Nat.le_refl 0⟩ 0 rfl rfl rfl rfl rfl hl.1 (Nat.le_of_ble_eq_true rfl) dX4_owes_18 (pmW _) (ws' := WX G a q2.2) (pmW _) (fun H locs hs => ?_)
    exact sx_iret hx hb hr hlk hQ (congrArg Prod.fst (Option.some.inj hF)) (congrArg (fun z => WX G a z) (congrArg Prod.snd (Option.some.inj hF))) hs dX4_owes_21
  unfold F_X4_owes at hF
  refine lv_aload_n hx hb dX4_owes_0 rfl (lv_at hl 0 rfl) ?_
  refine lv_iload_n hx hb dX4_owes_1 rfl (lv_at hl 1 rfl) ?_
  obtain ⟨q1, hq1, hF⟩ := bd hF
  refine sx_V (As := [.int x1]) (rest := []) (st1 := [.int q1]) (c_X4_hasShip G l a S x1 q1 hq1) v_X4_105 ⟨(Nat.le_of_ble_eq_true rfl), (Nat.le_of_ble_eq_true rfl)⟩ hx hb hml hown hts hE hA hs ⟨Nat.le_refl 0, Nat.le_refl 0⟩ 0 rfl rfl rfl rfl rfl hl.1 (Nat.le_of_ble_eq_true rfl) dX4_owes_2 (pmW _) (ws' := WX G a S) (pmW _) (fun H locs hs => ?_)
  refine lv_if_eq (tgt := 16) hx hb dX4_owes_5 (by decide) (fun hc => ?_) (fun hc => ?_)
  · have hF := (if_pos hc).symm.trans hF
    exact hJ16_n S _ _ _ hF hs (lv_sub hl [0] rfl)
  · have hF := (if_neg hc).symm.trans hF
    refine lv_aload_n hx hb dX4_owes_8 rfl (lv_at hl 0 rfl) ?_
    refine lv_iload_n hx hb dX4_owes_9 rfl (lv_at hl 2 rfl) ?_
    obtain ⟨q3, hq3, hF⟩ := bd hF
    refine sx_V (As := [.int x2]) (rest := []) (st1 := [.int q3]) (c_X4_hasClaim G l a S x2 q3 hq3) v_X4_116 ⟨(Nat.le_of_ble_eq_true rfl), (Nat.le_of_ble_eq_true rfl)⟩ hx hb hml hown hts hE hA hs ⟨Nat.le_refl 0, Nat.le_refl 0⟩ 0 rfl rfl rfl rfl rfl hl.1 (Nat.le_of_ble_eq_true rfl) dX4_owes_10 (pmW _) (ws' := WX G a S) (pmW _) (fun H locs hs => ?_)
    refine lv_if_ne (tgt := 22) hx hb dX4_owes_13 (by decide) (fun hc => ?_) (fun hc => ?_)
    · have hF := (if_neg hc).symm.trans hF
      refine lv_aload_n hx hb dX4_owes_22 rfl (lv_at hl 0 rfl) ?_
      obtain ⟨q4, hq4, hF⟩ := bd hF
      refine sx_V (As := []) (rest := []) (st1 := []) (c_X4_accept G l a S q4 hq4) v_X4_78 ⟨(Nat.le_of_ble_eq_true rfl), (Nat.le_of_ble_eq_true rfl)⟩ hx hb hml hown hts hE hA hs ⟨Nat.le_refl 0, Nat.le_refl 0⟩ 0 rfl rfl rfl rfl rfl hl.1 (Nat.le_of_ble_eq_true rfl) dX4_owes_23 (pmW _) (ws' := WX G a q4) (pmW _) (fun H locs hs => ?_)
      refine lv_aload_n hx hb dX4_owes_26 rfl (lv_at hl 0 rfl) ?_
      obtain ⟨q5, hq5, hF⟩ := bd hF
      refine sx_V (As := []) (rest := []) (st1 := []) (c_X4_reckon G l a q4 q5 hq5) v_X4_126 ⟨(Nat.le_of_ble_eq_true rfl), (Nat.le_of_ble_eq_true rfl)⟩ hx hb hml hown hts hE hA hs ⟨Nat.le_refl 0, Nat.le_refl 0⟩ 0 rfl rfl rfl rfl rfl hl.1 (Nat.le_of_ble_eq_true rfl) dX4_owes_27 (pmW _) (ws' := WX G a q5) (pmW _) (fun H locs hs => ?_)
      refine lv_aload_n hx hb dX4_owes_30 rfl (lv_at hl 0 rfl) ?_
      refine fg_X4_26 hx hb hown hts hE hs 0 rfl (v := .ref (a 17)) rfl dX4_owes_31 ?_
      refine lv_iload_n hx hb dX4_owes_34 rfl (lv_at hl 1 rfl) ?_
      refine lv_iload_n hx hb dX4_owes_35 rfl (lv_at hl 2 rfl) ?_
      obtain ⟨q6, hq6, hF⟩ := bd hF
      refine sx_N (As := [.int x1, .int x2]) (rest := []) (st1 := [.long q6]) (c_X1_owedToClaim G l (fun k => a (17 + k)) (x_reckoning q5) x1 x2 q6 hq6) v_X4_133 ⟨(Nat.le_of_ble_eq_true rfl), (Nat.le_of_ble_eq_true rfl)⟩ hx hb hml hown hts hE hA hs ⟨Nat.le_refl 0, Nat.le_refl 0⟩ 22 rfl rfl rfl rfl rfl hl.1 (Nat.le_of_ble_eq_true rfl) dX4_owes_36 (pX_reckoning G a q5 (x_reckoning q5)) (ws' := WX G a q5) (pX_reckoning G a q5 (x_reckoning q5)) (fun H locs hs => ?_)
      refine lv_l2i hx hb dX4_owes_39 rfl ?_
      exact sx_iret hx hb hr hlk hQ (congrArg Prod.fst (Option.some.inj hF)) (congrArg (fun z => WX G a z) (congrArg Prod.snd (Option.some.inj hF))) hs dX4_owes_40
    · have hF := (if_pos hc).symm.trans hF
      exact hJ16_n S _ _ _ hF hs (lv_sub hl [0] rfl)
set_option maxHeartbeats 4000000 in
set_option maxRecDepth 100000 in
theorem c_X4_between (G : GT) (l : Launch) (a : Nat → Nat) (S : XS) (x1 : Int32) (x2 : Int32) (x3 : Int32) (r : Int64 × XS) (hF : F_X4_between S x1 x2 x3 = some r) : MT G l yX4_between cX4_between 4 (some .long) 7 162 [.ref (a 0), .int x1, .int x2, .int x3] (WX G a S) (some (.long r.1)) (WX G a r.2) := by
  refine MT.of (by decide) (Nat.le_of_ble_eq_true rfl) ?_
  intro p e s m args below meth c A ls hx hb hr hml hown hts hlk hE hA hs hl Q hQ
  have hl : lv_has ls 4 [(0, .ref (a 0)), (1, .int x1), (2, .int x2), (3, .int x3)] := hl
  have hJ25_n : ∀ (S : XS) (H : Heap) (locs : List Loc) (ls : Array Slot), J_X4_between_25 S = some r → SI G A s H locs (WX G a S) → lv_has ls 4 [(0, .ref (a 0))] → W p l e (RM 7 162) s m args below meth c H locs 0 0 Q (F0 m 25 ls []) := by
    intro S H locs ls hF hs hl
    unfold J_X4_between_25 at hF
    refine lv_aload_n hx hb dX4_between_25 rfl (lv_at hl 0 rfl) ?_
    refine lv_iconst (v := (1 : Int32)) hx hb dX4_between_26 (by decide) ?_
    obtain ⟨q2, hq2, hF⟩ := bd hF
    refine sx_V (As := [.int (1 : Int32)]) (rest := []) (st1 := [.int q2.1]) (c_X4_none G l a S (1 : Int32) q2 hq2) v_X4_68 ⟨(Nat.le_of_ble_eq_true rfl), (Nat.le_of_ble_eq_true rfl)⟩ hx hb hml hown hts hE hA hs ⟨Nat.le_refl 0, Nat.le_refl 0⟩ 0 rfl rfl rfl rfl rfl hl.1 (Nat.le_of_ble_eq_true rfl) dX4_between_27 (pmW _) (ws' := WX G a q2.2) (pmW _) (fun H locs hs => ?_)
    refine lv_i2l hx hb dX4_between_30 rfl ?_
    exact sx_lret hx hb hr hlk hQ (congrArg Prod.fst (Option.some.inj hF)) (congrArg (fun z => WX G a z) (congrArg Prod.snd (Option.some.inj hF))) hs dX4_between_31
  unfold F_X4_between at hF
  refine lv_aload_n hx hb dX4_between_0 rfl (lv_at hl 0 rfl) ?_
  refine lv_iload_n hx hb dX4_between_1 rfl (lv_at hl 1 rfl) ?_
  obtain ⟨q1, hq1, hF⟩ := bd hF
  refine sx_V (As := [.int x1]) (rest := []) (st1 := [.int q1]) (c_X4_hasShip G l a S x1 q1 hq1) v_X4_105 ⟨(Nat.le_of_ble_eq_true rfl), (Nat.le_of_ble_eq_true rfl)⟩ hx hb hml hown hts hE hA hs ⟨Nat.le_refl 0, Nat.le_refl 0⟩ 0 rfl rfl rfl rfl rfl hl.1 (Nat.le_of_ble_eq_true rfl) dX4_between_2 (pmW _) (ws' := WX G a S) (pmW _) (fun H locs hs => ?_)
  refine lv_if_eq (tgt := 25) hx hb dX4_between_5 (by decide) (fun hc => ?_) (fun hc => ?_)
  · have hF := (if_pos hc).symm.trans hF
    exact hJ25_n S _ _ _ hF hs (lv_sub hl [0] rfl)
  · have hF := (if_neg hc).symm.trans hF
    refine lv_aload_n hx hb dX4_between_8 rfl (lv_at hl 0 rfl) ?_
    refine lv_iload_n hx hb dX4_between_9 rfl (lv_at hl 2 rfl) ?_
    obtain ⟨q3, hq3, hF⟩ := bd hF
    refine sx_V (As := [.int x2]) (rest := []) (st1 := [.int q3]) (c_X4_hasShip G l a S x2 q3 hq3) v_X4_105 ⟨(Nat.le_of_ble_eq_true rfl), (Nat.le_of_ble_eq_true rfl)⟩ hx hb hml hown hts hE hA hs ⟨Nat.le_refl 0, Nat.le_refl 0⟩ 0 rfl rfl rfl rfl rfl hl.1 (Nat.le_of_ble_eq_true rfl) dX4_between_10 (pmW _) (ws' := WX G a S) (pmW _) (fun H locs hs => ?_)
    refine lv_if_eq (tgt := 25) hx hb dX4_between_13 (by decide) (fun hc => ?_) (fun hc => ?_)
    · have hF := (if_pos hc).symm.trans hF
      exact hJ25_n S _ _ _ hF hs (lv_sub hl [0] rfl)
    · have hF := (if_neg hc).symm.trans hF
      refine lv_iload_n hx hb dX4_between_16 rfl (lv_at hl 3 rfl) ?_
      refine lv_iconst (v := (0 : Int32)) hx hb dX4_between_17 (by decide) ?_
      refine lv_iconst (v := (3 : Int32)) hx hb dX4_between_18 (by decide) ?_
      obtain ⟨q4, hq4, hF⟩ := bd hF
      refine sx_S (As := [.int x3, .int (0 : Int32), .int (3 : Int32)]) (rest := []) (st1 := [.int q4]) (c_X4_within G l  x3 (0 : Int32) (3 : Int32) q4 hq4) v_X4_64 ⟨(Nat.le_of_ble_eq_true rfl), (Nat.le_of_ble_eq_true rfl)⟩ hx hb hml hown hts hE hA hs ⟨Nat.le_refl 0, Nat.le_refl 0⟩ rfl rfl rfl hl.1 (Nat.le_of_ble_eq_true rfl) dX4_between_19 (List.Perm.refl _) (ws' := WX G a S) (List.Perm.refl _) (fun H locs hs => ?_)
      refine lv_if_ne (tgt := 32) hx hb dX4_between_22 (by decide) (fun hc => ?_) (fun hc => ?_)
      · have hF := (if_neg hc).symm.trans hF
        refine lv_iload_n hx hb dX4_between_32 rfl (lv_at hl 1 rfl) ?_
        refine lv_iload_n hx hb dX4_between_33 rfl (lv_at hl 2 rfl) ?_
        refine lv_icmp_ne (tgt := 44) hx hb dX4_between_34 (by decide) (fun hc => ?_) (fun hc => ?_)
        · have hF := (if_neg hc).symm.trans hF
          refine lv_aload_n hx hb dX4_between_44 rfl (lv_at hl 0 rfl) ?_
          obtain ⟨q5, hq5, hF⟩ := bd hF
          refine sx_V (As := []) (rest := []) (st1 := []) (c_X4_accept G l a S q5 hq5) v_X4_78 ⟨(Nat.le_of_ble_eq_true rfl), (Nat.le_of_ble_eq_true rfl)⟩ hx hb hml hown hts hE hA hs ⟨Nat.le_refl 0, Nat.le_refl 0⟩ 0 rfl rfl rfl rfl rfl hl.1 (Nat.le_of_ble_eq_true rfl) dX4_between_45 (pmW _) (ws' := WX G a q5) (pmW _) (fun H locs hs => ?_)
          refine lv_aload_n hx hb dX4_between_48 rfl (lv_at hl 0 rfl) ?_
          obtain ⟨q6, hq6, hF⟩ := bd hF
          refine sx_V (As := []) (rest := []) (st1 := []) (c_X4_reckon G l a q5 q6 hq6) v_X4_126 ⟨(Nat.le_of_ble_eq_true rfl), (Nat.le_of_ble_eq_true rfl)⟩ hx hb hml hown hts hE hA hs ⟨Nat.le_refl 0, Nat.le_refl 0⟩ 0 rfl rfl rfl rfl rfl hl.1 (Nat.le_of_ble_eq_true rfl) dX4_between_49 (pmW _) (ws' := WX G a q6) (pmW _) (fun H locs hs => ?_)
          refine lv_iload_n hx hb dX4_between_52 rfl (lv_at hl 3 rfl) ?_
          refine lv_if_ne (tgt := 66) hx hb dX4_between_53 (by decide) (fun hc => ?_) (fun hc => ?_)
          · have hF := (if_neg hc).symm.trans hF
            refine lv_iload_n hx hb dX4_between_66 rfl (lv_at hl 3 rfl) ?_
            refine lv_iconst (v := (1 : Int32)) hx hb dX4_between_67 (by decide) ?_
            refine lv_icmp_ne (tgt := 81) hx hb dX4_between_68 (by decide) (fun hc => ?_) (fun hc => ?_)
            · have hF := (if_neg hc).symm.trans hF
              refine lv_iload_n hx hb dX4_between_81 rfl (lv_at hl 3 rfl) ?_
              refine lv_iconst (v := (2 : Int32)) hx hb dX4_between_82 (by decide) ?_
              refine lv_icmp_ne (tgt := 98) hx hb dX4_between_83 (by decide) (fun hc => ?_) (fun hc => ?_)
              · have hF := (if_neg hc).symm.trans hF
                refine lv_aload_n hx hb dX4_between_98 rfl (lv_at hl 0 rfl) ?_
                refine fg_X4_26 hx hb hown hts hE hs 0 rfl (v := .ref (a 17)) rfl dX4_between_99 ?_
                refine lv_iload_n hx hb dX4_between_102 rfl (lv_at hl 1 rfl) ?_
                refine lv_iload_n hx hb dX4_between_103 rfl (lv_at hl 2 rfl) ?_
                obtain ⟨q7, hq7, hF⟩ := bd hF
                refine sx_N (As := [.int x1, .int x2]) (rest := []) (st1 := [.long q7]) (c_X1_owedToShip G l (fun k => a (17 + k)) (x_reckoning q6) x1 x2 q7 hq7) v_X4_146 ⟨(Nat.le_of_ble_eq_true rfl), (Nat.le_of_ble_eq_true rfl)⟩ hx hb hml hown hts hE hA hs ⟨Nat.le_refl 0, Nat.le_refl 0⟩ 22 rfl rfl rfl rfl rfl hl.1 (Nat.le_of_ble_eq_true rfl) dX4_between_104 (pX_reckoning G a q6 (x_reckoning q6)) (ws' := WX G a q6) (pX_reckoning G a q6 (x_reckoning q6)) (fun H locs hs => ?_)
                exact sx_lret hx hb hr hlk hQ (congrArg Prod.fst (Option.some.inj hF)) (congrArg (fun z => WX G a z) (congrArg Prod.snd (Option.some.inj hF))) hs dX4_between_107
              · have hF := (if_pos hc).symm.trans hF
                refine lv_aload_n hx hb dX4_between_86 rfl (lv_at hl 0 rfl) ?_
                refine fg_X4_26 hx hb hown hts hE hs 0 rfl (v := .ref (a 17)) rfl dX4_between_87 ?_
                refine lv_iload_n hx hb dX4_between_90 rfl (lv_at hl 1 rfl) ?_
                refine lv_iload_n hx hb dX4_between_91 rfl (lv_at hl 2 rfl) ?_
                obtain ⟨q8, hq8, hF⟩ := bd hF
                refine sx_N (As := [.int x1, .int x2]) (rest := []) (st1 := [.long q8]) (c_X1_crossDebt G l (fun k => a (17 + k)) (x_reckoning q6) x1 x2 q8 hq8) v_X4_143 ⟨(Nat.le_of_ble_eq_true rfl), (Nat.le_of_ble_eq_true rfl)⟩ hx hb hml hown hts hE hA hs ⟨Nat.le_refl 0, Nat.le_refl 0⟩ 22 rfl rfl rfl rfl rfl hl.1 (Nat.le_of_ble_eq_true rfl) dX4_between_92 (pX_reckoning G a q6 (x_reckoning q6)) (ws' := WX G a q6) (pX_reckoning G a q6 (x_reckoning q6)) (fun H locs hs => ?_)
                refine lv_goto (tgt := 107) hx hb dX4_between_95 (by decide) ?_
                exact sx_lret hx hb hr hlk hQ (congrArg Prod.fst (Option.some.inj hF)) (congrArg (fun z => WX G a z) (congrArg Prod.snd (Option.some.inj hF))) hs dX4_between_107
            · have hF := (if_pos hc).symm.trans hF
              refine lv_aload_n hx hb dX4_between_71 rfl (lv_at hl 0 rfl) ?_
              refine fg_X4_26 hx hb hown hts hE hs 0 rfl (v := .ref (a 17)) rfl dX4_between_72 ?_
              refine lv_iload_n hx hb dX4_between_75 rfl (lv_at hl 1 rfl) ?_
              refine lv_iload_n hx hb dX4_between_76 rfl (lv_at hl 2 rfl) ?_
              obtain ⟨q9, hq9, hF⟩ := bd hF
              refine sx_N (As := [.int x1, .int x2]) (rest := []) (st1 := [.long q9]) (c_X1_backTo G l (fun k => a (17 + k)) (x_reckoning q6) x1 x2 q9 hq9) v_X4_140 ⟨(Nat.le_of_ble_eq_true rfl), (Nat.le_of_ble_eq_true rfl)⟩ hx hb hml hown hts hE hA hs ⟨Nat.le_refl 0, Nat.le_refl 0⟩ 22 rfl rfl rfl rfl rfl hl.1 (Nat.le_of_ble_eq_true rfl) dX4_between_77 (pX_reckoning G a q6 (x_reckoning q6)) (ws' := WX G a q6) (pX_reckoning G a q6 (x_reckoning q6)) (fun H locs hs => ?_)
              exact sx_lret hx hb hr hlk hQ (congrArg Prod.fst (Option.some.inj hF)) (congrArg (fun z => WX G a z) (congrArg Prod.snd (Option.some.inj hF))) hs dX4_between_80
          · have hF := (if_pos hc).symm.trans hF
            refine lv_aload_n hx hb dX4_between_56 rfl (lv_at hl 0 rfl) ?_
            refine fg_X4_26 hx hb hown hts hE hs 0 rfl (v := .ref (a 17)) rfl dX4_between_57 ?_
            refine lv_iload_n hx hb dX4_between_60 rfl (lv_at hl 1 rfl) ?_
            refine lv_iload_n hx hb dX4_between_61 rfl (lv_at hl 2 rfl) ?_
            obtain ⟨q10, hq10, hF⟩ := bd hF
            refine sx_N (As := [.int x1, .int x2]) (rest := []) (st1 := [.long q10]) (c_X1_hullDebt G l (fun k => a (17 + k)) (x_reckoning q6) x1 x2 q10 hq10) v_X4_137 ⟨(Nat.le_of_ble_eq_true rfl), (Nat.le_of_ble_eq_true rfl)⟩ hx hb hml hown hts hE hA hs ⟨Nat.le_refl 0, Nat.le_refl 0⟩ 22 rfl rfl rfl rfl rfl hl.1 (Nat.le_of_ble_eq_true rfl) dX4_between_62 (pX_reckoning G a q6 (x_reckoning q6)) (ws' := WX G a q6) (pX_reckoning G a q6 (x_reckoning q6)) (fun H locs hs => ?_)
            exact sx_lret hx hb hr hlk hQ (congrArg Prod.fst (Option.some.inj hF)) (congrArg (fun z => WX G a z) (congrArg Prod.snd (Option.some.inj hF))) hs dX4_between_65
        · have hF := (if_pos hc).symm.trans hF
          refine lv_aload_n hx hb dX4_between_37 rfl (lv_at hl 0 rfl) ?_
          refine lv_iconst (v := (5 : Int32)) hx hb dX4_between_38 (by decide) ?_
          obtain ⟨q11, hq11, hF⟩ := bd hF
          refine sx_V (As := [.int (5 : Int32)]) (rest := []) (st1 := [.int q11.1]) (c_X4_none G l a S (5 : Int32) q11 hq11) v_X4_68 ⟨(Nat.le_of_ble_eq_true rfl), (Nat.le_of_ble_eq_true rfl)⟩ hx hb hml hown hts hE hA hs ⟨Nat.le_refl 0, Nat.le_refl 0⟩ 0 rfl rfl rfl rfl rfl hl.1 (Nat.le_of_ble_eq_true rfl) dX4_between_39 (pmW _) (ws' := WX G a q11.2) (pmW _) (fun H locs hs => ?_)
          refine lv_i2l hx hb dX4_between_42 rfl ?_
          exact sx_lret hx hb hr hlk hQ (congrArg Prod.fst (Option.some.inj hF)) (congrArg (fun z => WX G a z) (congrArg Prod.snd (Option.some.inj hF))) hs dX4_between_43
      · have hF := (if_pos hc).symm.trans hF
        exact hJ25_n S _ _ _ hF hs (lv_sub hl [0] rfl)
set_option maxHeartbeats 4000000 in
set_option maxRecDepth 100000 in
theorem c_X4_back (G : GT) (l : Launch) (a : Nat → Nat) (S : XS) (x1 : Int32) (r : Int64 × XS) (hF : F_X4_back S x1 = some r) : MT G l yX4_back cX4_back 2 (some .long) 7 162 [.ref (a 0), .int x1] (WX G a S) (some (.long r.1)) (WX G a r.2) := by
  refine MT.of (by decide) (Nat.le_of_ble_eq_true rfl) ?_
  intro p e s m args below meth c A ls hx hb hr hml hown hts hlk hE hA hs hl Q hQ
  have hl : lv_has ls 2 [(0, .ref (a 0)), (1, .int x1)] := hl
  unfold F_X4_back at hF
  refine lv_aload_n hx hb dX4_back_0 rfl (lv_at hl 0 rfl) ?_
  refine lv_iload_n hx hb dX4_back_1 rfl (lv_at hl 1 rfl) ?_
  obtain ⟨q1, hq1, hF⟩ := bd hF
  refine sx_V (As := [.int x1]) (rest := []) (st1 := [.int q1]) (c_X4_hasClaim G l a S x1 q1 hq1) v_X4_116 ⟨(Nat.le_of_ble_eq_true rfl), (Nat.le_of_ble_eq_true rfl)⟩ hx hb hml hown hts hE hA hs ⟨Nat.le_refl 0, Nat.le_refl 0⟩ 0 rfl rfl rfl rfl rfl hl.1 (Nat.le_of_ble_eq_true rfl) dX4_back_2 (pmW _) (ws' := WX G a S) (pmW _) (fun H locs hs => ?_)
  refine lv_if_ne (tgt := 15) hx hb dX4_back_5 (by decide) (fun hc => ?_) (fun hc => ?_)
  · have hF := (if_neg hc).symm.trans hF
    refine lv_aload_n hx hb dX4_back_15 rfl (lv_at hl 0 rfl) ?_
    obtain ⟨q2, hq2, hF⟩ := bd hF
    refine sx_V (As := []) (rest := []) (st1 := []) (c_X4_accept G l a S q2 hq2) v_X4_78 ⟨(Nat.le_of_ble_eq_true rfl), (Nat.le_of_ble_eq_true rfl)⟩ hx hb hml hown hts hE hA hs ⟨Nat.le_refl 0, Nat.le_refl 0⟩ 0 rfl rfl rfl rfl rfl hl.1 (Nat.le_of_ble_eq_true rfl) dX4_back_16 (pmW _) (ws' := WX G a q2) (pmW _) (fun H locs hs => ?_)
    refine lv_aload_n hx hb dX4_back_19 rfl (lv_at hl 0 rfl) ?_
    obtain ⟨q3, hq3, hF⟩ := bd hF
    refine sx_V (As := []) (rest := []) (st1 := []) (c_X4_reckon G l a q2 q3 hq3) v_X4_126 ⟨(Nat.le_of_ble_eq_true rfl), (Nat.le_of_ble_eq_true rfl)⟩ hx hb hml hown hts hE hA hs ⟨Nat.le_refl 0, Nat.le_refl 0⟩ 0 rfl rfl rfl rfl rfl hl.1 (Nat.le_of_ble_eq_true rfl) dX4_back_20 (pmW _) (ws' := WX G a q3) (pmW _) (fun H locs hs => ?_)
    refine lv_aload_n hx hb dX4_back_23 rfl (lv_at hl 0 rfl) ?_
    refine fg_X4_26 hx hb hown hts hE hs 0 rfl (v := .ref (a 17)) rfl dX4_back_24 ?_
    refine lv_iload_n hx hb dX4_back_27 rfl (lv_at hl 1 rfl) ?_
    obtain ⟨q4, hq4, hF⟩ := bd hF
    refine sx_N (As := [.int x1]) (rest := []) (st1 := [.long q4]) (c_X1_backForClaim G l (fun k => a (17 + k)) (x_reckoning q3) x1 q4 hq4) v_X4_149 ⟨(Nat.le_of_ble_eq_true rfl), (Nat.le_of_ble_eq_true rfl)⟩ hx hb hml hown hts hE hA hs ⟨Nat.le_refl 0, Nat.le_refl 0⟩ 22 rfl rfl rfl rfl rfl hl.1 (Nat.le_of_ble_eq_true rfl) dX4_back_28 (pX_reckoning G a q3 (x_reckoning q3)) (ws' := WX G a q3) (pX_reckoning G a q3 (x_reckoning q3)) (fun H locs hs => ?_)
    exact sx_lret hx hb hr hlk hQ (congrArg Prod.fst (Option.some.inj hF)) (congrArg (fun z => WX G a z) (congrArg Prod.snd (Option.some.inj hF))) hs dX4_back_31
  · have hF := (if_pos hc).symm.trans hF
    refine lv_aload_n hx hb dX4_back_8 rfl (lv_at hl 0 rfl) ?_
    refine lv_iconst (v := (1 : Int32)) hx hb dX4_back_9 (by decide) ?_
    obtain ⟨q5, hq5, hF⟩ := bd hF
    refine sx_V (As := [.int (1 : Int32)]) (rest := []) (st1 := [.int q5.1]) (c_X4_none G l a S (1 : Int32) q5 hq5) v_X4_68 ⟨(Nat.le_of_ble_eq_true rfl), (Nat.le_of_ble_eq_true rfl)⟩ hx hb hml hown hts hE hA hs ⟨Nat.le_refl 0, Nat.le_refl 0⟩ 0 rfl rfl rfl rfl rfl hl.1 (Nat.le_of_ble_eq_true rfl) dX4_back_10 (pmW _) (ws' := WX G a q5.2) (pmW _) (fun H locs hs => ?_)
    refine lv_i2l hx hb dX4_back_13 rfl ?_
    exact sx_lret hx hb hr hlk hQ (congrArg Prod.fst (Option.some.inj hF)) (congrArg (fun z => WX G a z) (congrArg Prod.snd (Option.some.inj hF))) hs dX4_back_14
set_option maxHeartbeats 4000000 in
set_option maxRecDepth 100000 in
theorem c_X4_fund (G : GT) (l : Launch) (a : Nat → Nat) (S : XS) (x1 : Int32) (x2 : Int32) (r : Int32 × XS) (hF : F_X4_fund S x1 x2 = some r) : MT G l yX4_fund cX4_fund 3 (some .int) 3 67 [.ref (a 0), .int x1, .int x2] (WX G a S) (some (.int r.1)) (WX G a r.2) := by
  refine MT.of (by decide) (Nat.le_of_ble_eq_true rfl) ?_
  intro p e s m args below meth c A ls hx hb hr hml hown hts hlk hE hA hs hl Q hQ
  have hl : lv_has ls 3 [(0, .ref (a 0)), (1, .int x1), (2, .int x2)] := hl
  have hJ17_n : ∀ (S : XS) (H : Heap) (locs : List Loc) (ls : Array Slot), J_X4_fund_17 S = some r → SI G A s H locs (WX G a S) → lv_has ls 3 [(0, .ref (a 0))] → W p l e (RM 3 67) s m args below meth c H locs 0 0 Q (F0 m 17 ls []) := by
    intro S H locs ls hF hs hl
    unfold J_X4_fund_17 at hF
    refine lv_aload_n hx hb dX4_fund_17 rfl (lv_at hl 0 rfl) ?_
    refine lv_iconst (v := (1 : Int32)) hx hb dX4_fund_18 (by decide) ?_
    obtain ⟨q2, hq2, hF⟩ := bd hF
    refine sx_V (As := [.int (1 : Int32)]) (rest := []) (st1 := [.int q2.1]) (c_X4_none G l a S (1 : Int32) q2 hq2) v_X4_68 ⟨(Nat.le_of_ble_eq_true rfl), (Nat.le_of_ble_eq_true rfl)⟩ hx hb hml hown hts hE hA hs ⟨Nat.le_refl 0, Nat.le_refl 0⟩ 0 rfl rfl rfl rfl rfl hl.1 (Nat.le_of_ble_eq_true rfl) dX4_fund_19 (pmW _) (ws' := WX G a q2.2) (pmW _) (fun H locs hs => ?_)
    exact sx_iret hx hb hr hlk hQ (congrArg Prod.fst (Option.some.inj hF)) (congrArg (fun z => WX G a z) (congrArg Prod.snd (Option.some.inj hF))) hs dX4_fund_22
  have hJ42_n : ∀ (S : XS) (y0 : Int32) (y1 : Int32) (H : Heap) (locs : List Loc) (ls : Array Slot), J_X4_fund_42 S y0 y1 = some r → SI G A s H locs (WX G a S) → lv_has ls 3 [] → W p l e (RM 3 67) s m args below meth c H locs 0 0 Q (F0 m 42 ls [.int y0, .int y1, .ref (a 12)]) := by
    intro S y0 y1 H locs ls hF hs hl
    unfold J_X4_fund_42 at hF
    obtain ⟨q5, hq5, hF⟩ := bd hF
    refine sx_N (As := [.int y1, .int y0]) (rest := []) (st1 := [.long q5]) (c_X2_fundOf G l (fun k => a (12 + k)) (x_now S) y1 y0 q5 hq5) v_X4_153 ⟨(Nat.le_of_ble_eq_true rfl), (Nat.le_of_ble_eq_true rfl)⟩ hx hb hml hown hts hE hA hs ⟨Nat.le_refl 0, Nat.le_refl 0⟩ 12 rfl rfl rfl rfl rfl hl.1 (Nat.le_of_ble_eq_true rfl) dX4_fund_42 (pX_now G a S (x_now S)) (ws' := WX G a S) (pX_now G a S (x_now S)) (fun H locs hs => ?_)
    refine lv_l2i hx hb dX4_fund_45 rfl ?_
    exact sx_iret hx hb hr hlk hQ (congrArg Prod.fst (Option.some.inj hF)) (congrArg (fun z => WX G a z) (congrArg Prod.snd (Option.some.inj hF))) hs dX4_fund_46
  unfold F_X4_fund at hF
  refine lv_aload_n hx hb dX4_fund_0 rfl (lv_at hl 0 rfl) ?_
  refine lv_iload_n hx hb dX4_fund_1 rfl (lv_at hl 1 rfl) ?_
  obtain ⟨q1, hq1, hF⟩ := bd hF
  refine sx_V (As := [.int x1]) (rest := []) (st1 := [.int q1]) (c_X4_hasShip G l a S x1 q1 hq1) v_X4_105 ⟨(Nat.le_of_ble_eq_true rfl), (Nat.le_of_ble_eq_true rfl)⟩ hx hb hml hown hts hE hA hs ⟨Nat.le_refl 0, Nat.le_refl 0⟩ 0 rfl rfl rfl rfl rfl hl.1 (Nat.le_of_ble_eq_true rfl) dX4_fund_2 (pmW _) (ws' := WX G a S) (pmW _) (fun H locs hs => ?_)
  refine lv_if_eq (tgt := 17) hx hb dX4_fund_5 (by decide) (fun hc => ?_) (fun hc => ?_)
  · have hF := (if_pos hc).symm.trans hF
    exact hJ17_n S _ _ _ hF hs (lv_sub hl [0] rfl)
  · have hF := (if_neg hc).symm.trans hF
    refine lv_iload_n hx hb dX4_fund_8 rfl (lv_at hl 2 rfl) ?_
    refine lv_iconst (v := (0 : Int32)) hx hb dX4_fund_9 (by decide) ?_
    refine lv_iconst (v := (1 : Int32)) hx hb dX4_fund_10 (by decide) ?_
    obtain ⟨q3, hq3, hF⟩ := bd hF
    refine sx_S (As := [.int x2, .int (0 : Int32), .int (1 : Int32)]) (rest := []) (st1 := [.int q3]) (c_X4_within G l  x2 (0 : Int32) (1 : Int32) q3 hq3) v_X4_64 ⟨(Nat.le_of_ble_eq_true rfl), (Nat.le_of_ble_eq_true rfl)⟩ hx hb hml hown hts hE hA hs ⟨Nat.le_refl 0, Nat.le_refl 0⟩ rfl rfl rfl hl.1 (Nat.le_of_ble_eq_true rfl) dX4_fund_11 (List.Perm.refl _) (ws' := WX G a S) (List.Perm.refl _) (fun H locs hs => ?_)
    refine lv_if_ne (tgt := 23) hx hb dX4_fund_14 (by decide) (fun hc => ?_) (fun hc => ?_)
    · have hF := (if_neg hc).symm.trans hF
      refine lv_aload_n hx hb dX4_fund_23 rfl (lv_at hl 0 rfl) ?_
      obtain ⟨q4, hq4, hF⟩ := bd hF
      refine sx_V (As := []) (rest := []) (st1 := []) (c_X4_accept G l a S q4 hq4) v_X4_78 ⟨(Nat.le_of_ble_eq_true rfl), (Nat.le_of_ble_eq_true rfl)⟩ hx hb hml hown hts hE hA hs ⟨Nat.le_refl 0, Nat.le_refl 0⟩ 0 rfl rfl rfl rfl rfl hl.1 (Nat.le_of_ble_eq_true rfl) dX4_fund_24 (pmW _) (ws' := WX G a q4) (pmW _) (fun H locs hs => ?_)
      refine lv_aload_n hx hb dX4_fund_27 rfl (lv_at hl 0 rfl) ?_
      refine fg_X4_19 hx hb hown hts hE hs 0 rfl (v := .ref (a 12)) rfl dX4_fund_28 ?_
      refine lv_iload_n hx hb dX4_fund_31 rfl (lv_at hl 1 rfl) ?_
      refine lv_iload_n hx hb dX4_fund_32 rfl (lv_at hl 2 rfl) ?_
      refine lv_if_ne (tgt := 41) hx hb dX4_fund_33 (by decide) (fun hc => ?_) (fun hc => ?_)
      · have hF := (if_neg hc).symm.trans hF
        refine lv_iconst (v := (5 : Int32)) hx hb dX4_fund_41 (by decide) ?_
        exact hJ42_n q4 (5 : Int32) x1 _ _ _ hF hs (lv_sub hl [] rfl)
      · have hF := (if_pos hc).symm.trans hF
        refine lv_bipush (v := (6 : Int32)) hx hb dX4_fund_36 (by decide) ?_
        refine lv_goto (tgt := 42) hx hb dX4_fund_38 (by decide) ?_
        exact hJ42_n q4 (6 : Int32) x1 _ _ _ hF hs (lv_sub hl [] rfl)
    · have hF := (if_pos hc).symm.trans hF
      exact hJ17_n S _ _ _ hF hs (lv_sub hl [0] rfl)
set_option maxHeartbeats 4000000 in
set_option maxRecDepth 100000 in
theorem c_X4_pays (G : GT) (l : Launch) (a : Nat → Nat) (S : XS) (x1 : Int32) (x2 : Int32) (r : Int32 × XS) (hF : F_X4_pays S x1 x2 = some r) : MT G l yX4_pays cX4_pays 3 (some .int) 7 162 [.ref (a 0), .int x1, .int x2] (WX G a S) (some (.int r.1)) (WX G a r.2) := by
  refine MT.of (by decide) (Nat.le_of_ble_eq_true rfl) ?_
  intro p e s m args below meth c A ls hx hb hr hml hown hts hlk hE hA hs hl Q hQ
  have hl : lv_has ls 3 [(0, .ref (a 0)), (1, .int x1), (2, .int x2)] := hl
  have hJ16_n : ∀ (S : XS) (H : Heap) (locs : List Loc) (ls : Array Slot), J_X4_pays_16 S = some r → SI G A s H locs (WX G a S) → lv_has ls 3 [(0, .ref (a 0))] → W p l e (RM 7 162) s m args below meth c H locs 0 0 Q (F0 m 16 ls []) := by
    intro S H locs ls hF hs hl
    unfold J_X4_pays_16 at hF
    refine lv_aload_n hx hb dX4_pays_16 rfl (lv_at hl 0 rfl) ?_
    refine lv_iconst (v := (1 : Int32)) hx hb dX4_pays_17 (by decide) ?_
    obtain ⟨q2, hq2, hF⟩ := bd hF
    refine sx_V (As := [.int (1 : Int32)]) (rest := []) (st1 := [.int q2.1]) (c_X4_none G l a S (1 : Int32) q2 hq2) v_X4_68 ⟨(Nat.le_of_ble_eq_true rfl), (Nat.le_of_ble_eq_true rfl)⟩ hx hb hml hown hts hE hA hs ⟨Nat.le_refl 0, Nat.le_refl 0⟩ 0 rfl rfl rfl rfl rfl hl.1 (Nat.le_of_ble_eq_true rfl) dX4_pays_18 (pmW _) (ws' := WX G a q2.2) (pmW _) (fun H locs hs => ?_)
    exact sx_iret hx hb hr hlk hQ (congrArg Prod.fst (Option.some.inj hF)) (congrArg (fun z => WX G a z) (congrArg Prod.snd (Option.some.inj hF))) hs dX4_pays_21
  unfold F_X4_pays at hF
  refine lv_aload_n hx hb dX4_pays_0 rfl (lv_at hl 0 rfl) ?_
  refine lv_iload_n hx hb dX4_pays_1 rfl (lv_at hl 1 rfl) ?_
  obtain ⟨q1, hq1, hF⟩ := bd hF
  refine sx_V (As := [.int x1]) (rest := []) (st1 := [.int q1]) (c_X4_hasShip G l a S x1 q1 hq1) v_X4_105 ⟨(Nat.le_of_ble_eq_true rfl), (Nat.le_of_ble_eq_true rfl)⟩ hx hb hml hown hts hE hA hs ⟨Nat.le_refl 0, Nat.le_refl 0⟩ 0 rfl rfl rfl rfl rfl hl.1 (Nat.le_of_ble_eq_true rfl) dX4_pays_2 (pmW _) (ws' := WX G a S) (pmW _) (fun H locs hs => ?_)
  refine lv_if_eq (tgt := 16) hx hb dX4_pays_5 (by decide) (fun hc => ?_) (fun hc => ?_)
  · have hF := (if_pos hc).symm.trans hF
    exact hJ16_n S _ _ _ hF hs (lv_sub hl [0] rfl)
  · have hF := (if_neg hc).symm.trans hF
    refine lv_aload_n hx hb dX4_pays_8 rfl (lv_at hl 0 rfl) ?_
    refine lv_iload_n hx hb dX4_pays_9 rfl (lv_at hl 2 rfl) ?_
    obtain ⟨q3, hq3, hF⟩ := bd hF
    refine sx_V (As := [.int x2]) (rest := []) (st1 := [.int q3]) (c_X4_hasClaim G l a S x2 q3 hq3) v_X4_116 ⟨(Nat.le_of_ble_eq_true rfl), (Nat.le_of_ble_eq_true rfl)⟩ hx hb hml hown hts hE hA hs ⟨Nat.le_refl 0, Nat.le_refl 0⟩ 0 rfl rfl rfl rfl rfl hl.1 (Nat.le_of_ble_eq_true rfl) dX4_pays_10 (pmW _) (ws' := WX G a S) (pmW _) (fun H locs hs => ?_)
    refine lv_if_ne (tgt := 22) hx hb dX4_pays_13 (by decide) (fun hc => ?_) (fun hc => ?_)
    · have hF := (if_neg hc).symm.trans hF
      refine lv_aload_n hx hb dX4_pays_22 rfl (lv_at hl 0 rfl) ?_
      obtain ⟨q4, hq4, hF⟩ := bd hF
      refine sx_V (As := []) (rest := []) (st1 := []) (c_X4_accept G l a S q4 hq4) v_X4_78 ⟨(Nat.le_of_ble_eq_true rfl), (Nat.le_of_ble_eq_true rfl)⟩ hx hb hml hown hts hE hA hs ⟨Nat.le_refl 0, Nat.le_refl 0⟩ 0 rfl rfl rfl rfl rfl hl.1 (Nat.le_of_ble_eq_true rfl) dX4_pays_23 (pmW _) (ws' := WX G a q4) (pmW _) (fun H locs hs => ?_)
      refine lv_aload_n hx hb dX4_pays_26 rfl (lv_at hl 0 rfl) ?_
      obtain ⟨q5, hq5, hF⟩ := bd hF
      refine sx_V (As := []) (rest := []) (st1 := []) (c_X4_reckon G l a q4 q5 hq5) v_X4_126 ⟨(Nat.le_of_ble_eq_true rfl), (Nat.le_of_ble_eq_true rfl)⟩ hx hb hml hown hts hE hA hs ⟨Nat.le_refl 0, Nat.le_refl 0⟩ 0 rfl rfl rfl rfl rfl hl.1 (Nat.le_of_ble_eq_true rfl) dX4_pays_27 (pmW _) (ws' := WX G a q5) (pmW _) (fun H locs hs => ?_)
      refine lv_aload_n hx hb dX4_pays_30 rfl (lv_at hl 0 rfl) ?_
      refine fg_X4_26 hx hb hown hts hE hs 0 rfl (v := .ref (a 17)) rfl dX4_pays_31 ?_
      refine lv_iload_n hx hb dX4_pays_34 rfl (lv_at hl 1 rfl) ?_
      refine lv_iload_n hx hb dX4_pays_35 rfl (lv_at hl 2 rfl) ?_
      obtain ⟨q6, hq6, hF⟩ := bd hF
      refine sx_N (As := [.int x1, .int x2]) (rest := []) (st1 := [.long q6]) (c_X1_paidToClaim G l (fun k => a (17 + k)) (x_reckoning q5) x1 x2 q6 hq6) v_X4_156 ⟨(Nat.le_of_ble_eq_true rfl), (Nat.le_of_ble_eq_true rfl)⟩ hx hb hml hown hts hE hA hs ⟨Nat.le_refl 0, Nat.le_refl 0⟩ 22 rfl rfl rfl rfl rfl hl.1 (Nat.le_of_ble_eq_true rfl) dX4_pays_36 (pX_reckoning G a q5 (x_reckoning q5)) (ws' := WX G a q5) (pX_reckoning G a q5 (x_reckoning q5)) (fun H locs hs => ?_)
      refine lv_l2i hx hb dX4_pays_39 rfl ?_
      exact sx_iret hx hb hr hlk hQ (congrArg Prod.fst (Option.some.inj hF)) (congrArg (fun z => WX G a z) (congrArg Prod.snd (Option.some.inj hF))) hs dX4_pays_40
    · have hF := (if_pos hc).symm.trans hF
      exact hJ16_n S _ _ _ hF hs (lv_sub hl [0] rfl)
set_option maxHeartbeats 4000000 in
set_option maxRecDepth 100000 in
theorem c_X4_paysTo (G : GT) (l : Launch) (a : Nat → Nat) (S : XS) (x1 : Int32) (x2 : Int32) (r : Int64 × XS) (hF : F_X4_paysTo S x1 x2 = some r) : MT G l yX4_paysTo cX4_paysTo 3 (some .long) 7 162 [.ref (a 0), .int x1, .int x2] (WX G a S) (some (.long r.1)) (WX G a r.2) := by
  refine MT.of (by decide) (Nat.le_of_ble_eq_true rfl) ?_
  intro p e s m args below meth c A ls hx hb hr hml hown hts hlk hE hA hs hl Q hQ
  have hl : lv_has ls 3 [(0, .ref (a 0)), (1, .int x1), (2, .int x2)] := hl
  have hJ16_n : ∀ (S : XS) (H : Heap) (locs : List Loc) (ls : Array Slot), J_X4_paysTo_16 S = some r → SI G A s H locs (WX G a S) → lv_has ls 3 [(0, .ref (a 0))] → W p l e (RM 7 162) s m args below meth c H locs 0 0 Q (F0 m 16 ls []) := by
    intro S H locs ls hF hs hl
    unfold J_X4_paysTo_16 at hF
    refine lv_aload_n hx hb dX4_paysTo_16 rfl (lv_at hl 0 rfl) ?_
    refine lv_iconst (v := (1 : Int32)) hx hb dX4_paysTo_17 (by decide) ?_
    obtain ⟨q2, hq2, hF⟩ := bd hF
    refine sx_V (As := [.int (1 : Int32)]) (rest := []) (st1 := [.int q2.1]) (c_X4_none G l a S (1 : Int32) q2 hq2) v_X4_68 ⟨(Nat.le_of_ble_eq_true rfl), (Nat.le_of_ble_eq_true rfl)⟩ hx hb hml hown hts hE hA hs ⟨Nat.le_refl 0, Nat.le_refl 0⟩ 0 rfl rfl rfl rfl rfl hl.1 (Nat.le_of_ble_eq_true rfl) dX4_paysTo_18 (pmW _) (ws' := WX G a q2.2) (pmW _) (fun H locs hs => ?_)
    refine lv_i2l hx hb dX4_paysTo_21 rfl ?_
    exact sx_lret hx hb hr hlk hQ (congrArg Prod.fst (Option.some.inj hF)) (congrArg (fun z => WX G a z) (congrArg Prod.snd (Option.some.inj hF))) hs dX4_paysTo_22
  unfold F_X4_paysTo at hF
  refine lv_aload_n hx hb dX4_paysTo_0 rfl (lv_at hl 0 rfl) ?_
  refine lv_iload_n hx hb dX4_paysTo_1 rfl (lv_at hl 1 rfl) ?_
  obtain ⟨q1, hq1, hF⟩ := bd hF
  refine sx_V (As := [.int x1]) (rest := []) (st1 := [.int q1]) (c_X4_hasShip G l a S x1 q1 hq1) v_X4_105 ⟨(Nat.le_of_ble_eq_true rfl), (Nat.le_of_ble_eq_true rfl)⟩ hx hb hml hown hts hE hA hs ⟨Nat.le_refl 0, Nat.le_refl 0⟩ 0 rfl rfl rfl rfl rfl hl.1 (Nat.le_of_ble_eq_true rfl) dX4_paysTo_2 (pmW _) (ws' := WX G a S) (pmW _) (fun H locs hs => ?_)
  refine lv_if_eq (tgt := 16) hx hb dX4_paysTo_5 (by decide) (fun hc => ?_) (fun hc => ?_)
  · have hF := (if_pos hc).symm.trans hF
    exact hJ16_n S _ _ _ hF hs (lv_sub hl [0] rfl)
  · have hF := (if_neg hc).symm.trans hF
    refine lv_aload_n hx hb dX4_paysTo_8 rfl (lv_at hl 0 rfl) ?_
    refine lv_iload_n hx hb dX4_paysTo_9 rfl (lv_at hl 2 rfl) ?_
    obtain ⟨q3, hq3, hF⟩ := bd hF
    refine sx_V (As := [.int x2]) (rest := []) (st1 := [.int q3]) (c_X4_hasShip G l a S x2 q3 hq3) v_X4_105 ⟨(Nat.le_of_ble_eq_true rfl), (Nat.le_of_ble_eq_true rfl)⟩ hx hb hml hown hts hE hA hs ⟨Nat.le_refl 0, Nat.le_refl 0⟩ 0 rfl rfl rfl rfl rfl hl.1 (Nat.le_of_ble_eq_true rfl) dX4_paysTo_10 (pmW _) (ws' := WX G a S) (pmW _) (fun H locs hs => ?_)
    refine lv_if_ne (tgt := 23) hx hb dX4_paysTo_13 (by decide) (fun hc => ?_) (fun hc => ?_)
    · have hF := (if_neg hc).symm.trans hF
      refine lv_iload_n hx hb dX4_paysTo_23 rfl (lv_at hl 1 rfl) ?_
      refine lv_iload_n hx hb dX4_paysTo_24 rfl (lv_at hl 2 rfl) ?_
      refine lv_icmp_ne (tgt := 35) hx hb dX4_paysTo_25 (by decide) (fun hc => ?_) (fun hc => ?_)
      · have hF := (if_neg hc).symm.trans hF
        refine lv_aload_n hx hb dX4_paysTo_35 rfl (lv_at hl 0 rfl) ?_
        obtain ⟨q4, hq4, hF⟩ := bd hF
        refine sx_V (As := []) (rest := []) (st1 := []) (c_X4_accept G l a S q4 hq4) v_X4_78 ⟨(Nat.le_of_ble_eq_true rfl), (Nat.le_of_ble_eq_true rfl)⟩ hx hb hml hown hts hE hA hs ⟨Nat.le_refl 0, Nat.le_refl 0⟩ 0 rfl rfl rfl rfl rfl hl.1 (Nat.le_of_ble_eq_true rfl) dX4_paysTo_36 (pmW _) (ws' := WX G a q4) (pmW _) (fun H locs hs => ?_)
        refine lv_aload_n hx hb dX4_paysTo_39 rfl (lv_at hl 0 rfl) ?_
        obtain ⟨q5, hq5, hF⟩ := bd hF
        refine sx_V (As := []) (rest := []) (st1 := []) (c_X4_reckon G l a q4 q5 hq5) v_X4_126 ⟨(Nat.le_of_ble_eq_true rfl), (Nat.le_of_ble_eq_true rfl)⟩ hx hb hml hown hts hE hA hs ⟨Nat.le_refl 0, Nat.le_refl 0⟩ 0 rfl rfl rfl rfl rfl hl.1 (Nat.le_of_ble_eq_true rfl) dX4_paysTo_40 (pmW _) (ws' := WX G a q5) (pmW _) (fun H locs hs => ?_)
        refine lv_aload_n hx hb dX4_paysTo_43 rfl (lv_at hl 0 rfl) ?_
        refine fg_X4_26 hx hb hown hts hE hs 0 rfl (v := .ref (a 17)) rfl dX4_paysTo_44 ?_
        refine lv_iload_n hx hb dX4_paysTo_47 rfl (lv_at hl 1 rfl) ?_
        refine lv_iload_n hx hb dX4_paysTo_48 rfl (lv_at hl 2 rfl) ?_
        obtain ⟨q6, hq6, hF⟩ := bd hF
        refine sx_N (As := [.int x1, .int x2]) (rest := []) (st1 := [.long q6]) (c_X1_paidToShip G l (fun k => a (17 + k)) (x_reckoning q5) x1 x2 q6 hq6) v_X4_159 ⟨(Nat.le_of_ble_eq_true rfl), (Nat.le_of_ble_eq_true rfl)⟩ hx hb hml hown hts hE hA hs ⟨Nat.le_refl 0, Nat.le_refl 0⟩ 22 rfl rfl rfl rfl rfl hl.1 (Nat.le_of_ble_eq_true rfl) dX4_paysTo_49 (pX_reckoning G a q5 (x_reckoning q5)) (ws' := WX G a q5) (pX_reckoning G a q5 (x_reckoning q5)) (fun H locs hs => ?_)
        exact sx_lret hx hb hr hlk hQ (congrArg Prod.fst (Option.some.inj hF)) (congrArg (fun z => WX G a z) (congrArg Prod.snd (Option.some.inj hF))) hs dX4_paysTo_52
      · have hF := (if_pos hc).symm.trans hF
        refine lv_aload_n hx hb dX4_paysTo_28 rfl (lv_at hl 0 rfl) ?_
        refine lv_iconst (v := (5 : Int32)) hx hb dX4_paysTo_29 (by decide) ?_
        obtain ⟨q7, hq7, hF⟩ := bd hF
        refine sx_V (As := [.int (5 : Int32)]) (rest := []) (st1 := [.int q7.1]) (c_X4_none G l a S (5 : Int32) q7 hq7) v_X4_68 ⟨(Nat.le_of_ble_eq_true rfl), (Nat.le_of_ble_eq_true rfl)⟩ hx hb hml hown hts hE hA hs ⟨Nat.le_refl 0, Nat.le_refl 0⟩ 0 rfl rfl rfl rfl rfl hl.1 (Nat.le_of_ble_eq_true rfl) dX4_paysTo_30 (pmW _) (ws' := WX G a q7.2) (pmW _) (fun H locs hs => ?_)
        refine lv_i2l hx hb dX4_paysTo_33 rfl ?_
        exact sx_lret hx hb hr hlk hQ (congrArg Prod.fst (Option.some.inj hF)) (congrArg (fun z => WX G a z) (congrArg Prod.snd (Option.some.inj hF))) hs dX4_paysTo_34
    · have hF := (if_pos hc).symm.trans hF
      exact hJ16_n S _ _ _ hF hs (lv_sub hl [0] rfl)
set_option maxHeartbeats 4000000 in
set_option maxRecDepth 100000 in
theorem c_X4_sum (G : GT) (l : Launch) (a : Nat → Nat) (S : XS) (x1 : Int32) (x2 : Int32) (r : Int64 × XS) (hF : F_X4_sum S x1 x2 = some r) : MT G l yX4_sum cX4_sum 3 (some .long) 7 162 [.ref (a 0), .int x1, .int x2] (WX G a S) (some (.long r.1)) (WX G a r.2) := by
  refine MT.of (by decide) (Nat.le_of_ble_eq_true rfl) ?_
  intro p e s m args below meth c A ls hx hb hr hml hown hts hlk hE hA hs hl Q hQ
  have hl : lv_has ls 3 [(0, .ref (a 0)), (1, .int x1), (2, .int x2)] := hl
  have hJ17_n : ∀ (S : XS) (H : Heap) (locs : List Loc) (ls : Array Slot), J_X4_sum_17 S = some r → SI G A s H locs (WX G a S) → lv_has ls 3 [(0, .ref (a 0))] → W p l e (RM 7 162) s m args below meth c H locs 0 0 Q (F0 m 17 ls []) := by
    intro S H locs ls hF hs hl
    unfold J_X4_sum_17 at hF
    refine lv_aload_n hx hb dX4_sum_17 rfl (lv_at hl 0 rfl) ?_
    refine lv_iconst (v := (1 : Int32)) hx hb dX4_sum_18 (by decide) ?_
    obtain ⟨q2, hq2, hF⟩ := bd hF
    refine sx_V (As := [.int (1 : Int32)]) (rest := []) (st1 := [.int q2.1]) (c_X4_none G l a S (1 : Int32) q2 hq2) v_X4_68 ⟨(Nat.le_of_ble_eq_true rfl), (Nat.le_of_ble_eq_true rfl)⟩ hx hb hml hown hts hE hA hs ⟨Nat.le_refl 0, Nat.le_refl 0⟩ 0 rfl rfl rfl rfl rfl hl.1 (Nat.le_of_ble_eq_true rfl) dX4_sum_19 (pmW _) (ws' := WX G a q2.2) (pmW _) (fun H locs hs => ?_)
    refine lv_i2l hx hb dX4_sum_22 rfl ?_
    exact sx_lret hx hb hr hlk hQ (congrArg Prod.fst (Option.some.inj hF)) (congrArg (fun z => WX G a z) (congrArg Prod.snd (Option.some.inj hF))) hs dX4_sum_23
  unfold F_X4_sum at hF
  refine lv_aload_n hx hb dX4_sum_0 rfl (lv_at hl 0 rfl) ?_
  refine lv_iload_n hx hb dX4_sum_1 rfl (lv_at hl 1 rfl) ?_
  obtain ⟨q1, hq1, hF⟩ := bd hF
  refine sx_V (As := [.int x1]) (rest := []) (st1 := [.int q1]) (c_X4_hasShip G l a S x1 q1 hq1) v_X4_105 ⟨(Nat.le_of_ble_eq_true rfl), (Nat.le_of_ble_eq_true rfl)⟩ hx hb hml hown hts hE hA hs ⟨Nat.le_refl 0, Nat.le_refl 0⟩ 0 rfl rfl rfl rfl rfl hl.1 (Nat.le_of_ble_eq_true rfl) dX4_sum_2 (pmW _) (ws' := WX G a S) (pmW _) (fun H locs hs => ?_)
  refine lv_if_eq (tgt := 17) hx hb dX4_sum_5 (by decide) (fun hc => ?_) (fun hc => ?_)
  · have hF := (if_pos hc).symm.trans hF
    exact hJ17_n S _ _ _ hF hs (lv_sub hl [0] rfl)
  · have hF := (if_neg hc).symm.trans hF
    refine lv_iload_n hx hb dX4_sum_8 rfl (lv_at hl 2 rfl) ?_
    refine lv_iconst (v := (0 : Int32)) hx hb dX4_sum_9 (by decide) ?_
    refine lv_iconst (v := (1 : Int32)) hx hb dX4_sum_10 (by decide) ?_
    obtain ⟨q3, hq3, hF⟩ := bd hF
    refine sx_S (As := [.int x2, .int (0 : Int32), .int (1 : Int32)]) (rest := []) (st1 := [.int q3]) (c_X4_within G l  x2 (0 : Int32) (1 : Int32) q3 hq3) v_X4_64 ⟨(Nat.le_of_ble_eq_true rfl), (Nat.le_of_ble_eq_true rfl)⟩ hx hb hml hown hts hE hA hs ⟨Nat.le_refl 0, Nat.le_refl 0⟩ rfl rfl rfl hl.1 (Nat.le_of_ble_eq_true rfl) dX4_sum_11 (List.Perm.refl _) (ws' := WX G a S) (List.Perm.refl _) (fun H locs hs => ?_)
    refine lv_if_ne (tgt := 24) hx hb dX4_sum_14 (by decide) (fun hc => ?_) (fun hc => ?_)
    · have hF := (if_neg hc).symm.trans hF
      refine lv_aload_n hx hb dX4_sum_24 rfl (lv_at hl 0 rfl) ?_
      obtain ⟨q4, hq4, hF⟩ := bd hF
      refine sx_V (As := []) (rest := []) (st1 := []) (c_X4_accept G l a S q4 hq4) v_X4_78 ⟨(Nat.le_of_ble_eq_true rfl), (Nat.le_of_ble_eq_true rfl)⟩ hx hb hml hown hts hE hA hs ⟨Nat.le_refl 0, Nat.le_refl 0⟩ 0 rfl rfl rfl rfl rfl hl.1 (Nat.le_of_ble_eq_true rfl) dX4_sum_25 (pmW _) (ws' := WX G a q4) (pmW _) (fun H locs hs => ?_)
      refine lv_aload_n hx hb dX4_sum_28 rfl (lv_at hl 0 rfl) ?_
      obtain ⟨q5, hq5, hF⟩ := bd hF
      refine sx_V (As := []) (rest := []) (st1 := []) (c_X4_reckon G l a q4 q5 hq5) v_X4_126 ⟨(Nat.le_of_ble_eq_true rfl), (Nat.le_of_ble_eq_true rfl)⟩ hx hb hml hown hts hE hA hs ⟨Nat.le_refl 0, Nat.le_refl 0⟩ 0 rfl rfl rfl rfl rfl hl.1 (Nat.le_of_ble_eq_true rfl) dX4_sum_29 (pmW _) (ws' := WX G a q5) (pmW _) (fun H locs hs => ?_)
      refine lv_iload_n hx hb dX4_sum_32 rfl (lv_at hl 2 rfl) ?_
      refine lv_if_ne (tgt := 47) hx hb dX4_sum_33 (by decide) (fun hc => ?_) (fun hc => ?_)
      · have hF := (if_neg hc).symm.trans hF
        refine lv_aload_n hx hb dX4_sum_47 rfl (lv_at hl 0 rfl) ?_
        refine fg_X4_26 hx hb hown hts hE hs 0 rfl (v := .ref (a 17)) rfl dX4_sum_48 ?_
        refine lv_iload_n hx hb dX4_sum_51 rfl (lv_at hl 1 rfl) ?_
        obtain ⟨q6, hq6, hF⟩ := bd hF
        refine sx_N (As := [.int x1]) (rest := []) (st1 := [.long q6]) (c_X1_paidByShip G l (fun k => a (17 + k)) (x_reckoning q5) x1 q6 hq6) v_X4_165 ⟨(Nat.le_of_ble_eq_true rfl), (Nat.le_of_ble_eq_true rfl)⟩ hx hb hml hown hts hE hA hs ⟨Nat.le_refl 0, Nat.le_refl 0⟩ 22 rfl rfl rfl rfl rfl hl.1 (Nat.le_of_ble_eq_true rfl) dX4_sum_52 (pX_reckoning G a q5 (x_reckoning q5)) (ws' := WX G a q5) (pX_reckoning G a q5 (x_reckoning q5)) (fun H locs hs => ?_)
        exact sx_lret hx hb hr hlk hQ (congrArg Prod.fst (Option.some.inj hF)) (congrArg (fun z => WX G a z) (congrArg Prod.snd (Option.some.inj hF))) hs dX4_sum_55
      · have hF := (if_pos hc).symm.trans hF
        refine lv_aload_n hx hb dX4_sum_36 rfl (lv_at hl 0 rfl) ?_
        refine fg_X4_26 hx hb hown hts hE hs 0 rfl (v := .ref (a 17)) rfl dX4_sum_37 ?_
        refine lv_iload_n hx hb dX4_sum_40 rfl (lv_at hl 1 rfl) ?_
        obtain ⟨q7, hq7, hF⟩ := bd hF
        refine sx_N (As := [.int x1]) (rest := []) (st1 := [.long q7]) (c_X1_owedByShip G l (fun k => a (17 + k)) (x_reckoning q5) x1 q7 hq7) v_X4_162 ⟨(Nat.le_of_ble_eq_true rfl), (Nat.le_of_ble_eq_true rfl)⟩ hx hb hml hown hts hE hA hs ⟨Nat.le_refl 0, Nat.le_refl 0⟩ 22 rfl rfl rfl rfl rfl hl.1 (Nat.le_of_ble_eq_true rfl) dX4_sum_41 (pX_reckoning G a q5 (x_reckoning q5)) (ws' := WX G a q5) (pX_reckoning G a q5 (x_reckoning q5)) (fun H locs hs => ?_)
        refine lv_goto (tgt := 55) hx hb dX4_sum_44 (by decide) ?_
        exact sx_lret hx hb hr hlk hQ (congrArg Prod.fst (Option.some.inj hF)) (congrArg (fun z => WX G a z) (congrArg Prod.snd (Option.some.inj hF))) hs dX4_sum_55
    · have hF := (if_pos hc).symm.trans hF
      exact hJ17_n S _ _ _ hF hs (lv_sub hl [0] rfl)
set_option maxHeartbeats 4000000 in
set_option maxRecDepth 100000 in
theorem c_X4_bites (G : GT) (l : Launch) (a : Nat → Nat) (S : XS) (x1 : Int32) (r : Int32 × XS) (hF : F_X4_bites S x1 = some r) : MT G l yX4_bites cX4_bites 2 (some .int) 7 162 [.ref (a 0), .int x1] (WX G a S) (some (.int r.1)) (WX G a r.2) := by
  refine MT.of (by decide) (Nat.le_of_ble_eq_true rfl) ?_
  intro p e s m args below meth c A ls hx hb hr hml hown hts hlk hE hA hs hl Q hQ
  have hl : lv_has ls 2 [(0, .ref (a 0)), (1, .int x1)] := hl
  unfold F_X4_bites at hF
  refine lv_aload_n hx hb dX4_bites_0 rfl (lv_at hl 0 rfl) ?_
  refine lv_iload_n hx hb dX4_bites_1 rfl (lv_at hl 1 rfl) ?_
  obtain ⟨q1, hq1, hF⟩ := bd hF
  refine sx_V (As := [.int x1]) (rest := []) (st1 := [.int q1]) (c_X4_hasShip G l a S x1 q1 hq1) v_X4_105 ⟨(Nat.le_of_ble_eq_true rfl), (Nat.le_of_ble_eq_true rfl)⟩ hx hb hml hown hts hE hA hs ⟨Nat.le_refl 0, Nat.le_refl 0⟩ 0 rfl rfl rfl rfl rfl hl.1 (Nat.le_of_ble_eq_true rfl) dX4_bites_2 (pmW _) (ws' := WX G a S) (pmW _) (fun H locs hs => ?_)
  refine lv_if_ne (tgt := 14) hx hb dX4_bites_5 (by decide) (fun hc => ?_) (fun hc => ?_)
  · have hF := (if_neg hc).symm.trans hF
    refine lv_aload_n hx hb dX4_bites_14 rfl (lv_at hl 0 rfl) ?_
    obtain ⟨q2, hq2, hF⟩ := bd hF
    refine sx_V (As := []) (rest := []) (st1 := []) (c_X4_accept G l a S q2 hq2) v_X4_78 ⟨(Nat.le_of_ble_eq_true rfl), (Nat.le_of_ble_eq_true rfl)⟩ hx hb hml hown hts hE hA hs ⟨Nat.le_refl 0, Nat.le_refl 0⟩ 0 rfl rfl rfl rfl rfl hl.1 (Nat.le_of_ble_eq_true rfl) dX4_bites_15 (pmW _) (ws' := WX G a q2) (pmW _) (fun H locs hs => ?_)
    refine lv_aload_n hx hb dX4_bites_18 rfl (lv_at hl 0 rfl) ?_
    obtain ⟨q3, hq3, hF⟩ := bd hF
    refine sx_V (As := []) (rest := []) (st1 := []) (c_X4_reckon G l a q2 q3 hq3) v_X4_126 ⟨(Nat.le_of_ble_eq_true rfl), (Nat.le_of_ble_eq_true rfl)⟩ hx hb hml hown hts hE hA hs ⟨Nat.le_refl 0, Nat.le_refl 0⟩ 0 rfl rfl rfl rfl rfl hl.1 (Nat.le_of_ble_eq_true rfl) dX4_bites_19 (pmW _) (ws' := WX G a q3) (pmW _) (fun H locs hs => ?_)
    refine lv_aload_n hx hb dX4_bites_22 rfl (lv_at hl 0 rfl) ?_
    refine fg_X4_26 hx hb hown hts hE hs 0 rfl (v := .ref (a 17)) rfl dX4_bites_23 ?_
    refine lv_iload_n hx hb dX4_bites_26 rfl (lv_at hl 1 rfl) ?_
    obtain ⟨q4, hq4, hF⟩ := bd hF
    refine sx_N (As := [.int x1]) (rest := []) (st1 := [.long q4]) (c_X1_paidByShip G l (fun k => a (17 + k)) (x_reckoning q3) x1 q4 hq4) v_X4_165 ⟨(Nat.le_of_ble_eq_true rfl), (Nat.le_of_ble_eq_true rfl)⟩ hx hb hml hown hts hE hA hs ⟨Nat.le_refl 0, Nat.le_refl 0⟩ 22 rfl rfl rfl rfl rfl hl.1 (Nat.le_of_ble_eq_true rfl) dX4_bites_27 (pX_reckoning G a q3 (x_reckoning q3)) (ws' := WX G a q3) (pX_reckoning G a q3 (x_reckoning q3)) (fun H locs hs => ?_)
    refine lv_aload_n hx hb dX4_bites_30 rfl (lv_at hl 0 rfl) ?_
    refine fg_X4_26 hx hb hown hts hE hs 0 rfl (v := .ref (a 17)) rfl dX4_bites_31 ?_
    refine lv_iload_n hx hb dX4_bites_34 rfl (lv_at hl 1 rfl) ?_
    obtain ⟨q5, hq5, hF⟩ := bd hF
    refine sx_N (As := [.int x1]) (rest := [.long q4]) (st1 := [.long q5, .long q4]) (c_X1_owedByShip G l (fun k => a (17 + k)) (x_reckoning q3) x1 q5 hq5) v_X4_162 ⟨(Nat.le_of_ble_eq_true rfl), (Nat.le_of_ble_eq_true rfl)⟩ hx hb hml hown hts hE hA hs ⟨Nat.le_refl 0, Nat.le_refl 0⟩ 22 rfl rfl rfl rfl rfl hl.1 (Nat.le_of_ble_eq_true rfl) dX4_bites_35 (pX_reckoning G a q3 (x_reckoning q3)) (ws' := WX G a q3) (pX_reckoning G a q3 (x_reckoning q3)) (fun H locs hs => ?_)
    refine W.lcmp hx hb dX4_bites_38 ?_
    refine lv_if_ge (tgt := 46) hx hb dX4_bites_39 (by decide) (fun hc => ?_) (fun hc => ?_)
    · have hF := (if_pos hc).symm.trans hF
      refine lv_iconst (v := (0 : Int32)) hx hb dX4_bites_46 (by decide) ?_
      exact sx_iret hx hb hr hlk hQ (congrArg Prod.fst (Option.some.inj hF)) (congrArg (fun z => WX G a z) (congrArg Prod.snd (Option.some.inj hF))) hs dX4_bites_47
    · have hF := (if_neg hc).symm.trans hF
      refine lv_iconst (v := (1 : Int32)) hx hb dX4_bites_42 (by decide) ?_
      refine lv_goto (tgt := 47) hx hb dX4_bites_43 (by decide) ?_
      exact sx_iret hx hb hr hlk hQ (congrArg Prod.fst (Option.some.inj hF)) (congrArg (fun z => WX G a z) (congrArg Prod.snd (Option.some.inj hF))) hs dX4_bites_47
  · have hF := (if_pos hc).symm.trans hF
    refine lv_aload_n hx hb dX4_bites_8 rfl (lv_at hl 0 rfl) ?_
    refine lv_iconst (v := (1 : Int32)) hx hb dX4_bites_9 (by decide) ?_
    obtain ⟨q6, hq6, hF⟩ := bd hF
    refine sx_V (As := [.int (1 : Int32)]) (rest := []) (st1 := [.int q6.1]) (c_X4_none G l a S (1 : Int32) q6 hq6) v_X4_68 ⟨(Nat.le_of_ble_eq_true rfl), (Nat.le_of_ble_eq_true rfl)⟩ hx hb hml hown hts hE hA hs ⟨Nat.le_refl 0, Nat.le_refl 0⟩ 0 rfl rfl rfl rfl rfl hl.1 (Nat.le_of_ble_eq_true rfl) dX4_bites_10 (pmW _) (ws' := WX G a q6.2) (pmW _) (fun H locs hs => ?_)
    exact sx_iret hx hb hr hlk hQ (congrArg Prod.fst (Option.some.inj hF)) (congrArg (fun z => WX G a z) (congrArg Prod.snd (Option.some.inj hF))) hs dX4_bites_13
set_option maxHeartbeats 4000000 in
set_option maxRecDepth 100000 in
theorem c_X4_gets (G : GT) (l : Launch) (a : Nat → Nat) (S : XS) (x1 : Int32) (x2 : Int32) (r : Int64 × XS) (hF : F_X4_gets S x1 x2 = some r) : MT G l yX4_gets cX4_gets 3 (some .long) 7 162 [.ref (a 0), .int x1, .int x2] (WX G a S) (some (.long r.1)) (WX G a r.2) := by
  refine MT.of (by decide) (Nat.le_of_ble_eq_true rfl) ?_
  intro p e s m args below meth c A ls hx hb hr hml hown hts hlk hE hA hs hl Q hQ
  have hl : lv_has ls 3 [(0, .ref (a 0)), (1, .int x1), (2, .int x2)] := hl
  have hJ17_n : ∀ (S : XS) (H : Heap) (locs : List Loc) (ls : Array Slot), J_X4_gets_17 S = some r → SI G A s H locs (WX G a S) → lv_has ls 3 [(0, .ref (a 0))] → W p l e (RM 7 162) s m args below meth c H locs 0 0 Q (F0 m 17 ls []) := by
    intro S H locs ls hF hs hl
    unfold J_X4_gets_17 at hF
    refine lv_aload_n hx hb dX4_gets_17 rfl (lv_at hl 0 rfl) ?_
    refine lv_iconst (v := (1 : Int32)) hx hb dX4_gets_18 (by decide) ?_
    obtain ⟨q2, hq2, hF⟩ := bd hF
    refine sx_V (As := [.int (1 : Int32)]) (rest := []) (st1 := [.int q2.1]) (c_X4_none G l a S (1 : Int32) q2 hq2) v_X4_68 ⟨(Nat.le_of_ble_eq_true rfl), (Nat.le_of_ble_eq_true rfl)⟩ hx hb hml hown hts hE hA hs ⟨Nat.le_refl 0, Nat.le_refl 0⟩ 0 rfl rfl rfl rfl rfl hl.1 (Nat.le_of_ble_eq_true rfl) dX4_gets_19 (pmW _) (ws' := WX G a q2.2) (pmW _) (fun H locs hs => ?_)
    refine lv_i2l hx hb dX4_gets_22 rfl ?_
    exact sx_lret hx hb hr hlk hQ (congrArg Prod.fst (Option.some.inj hF)) (congrArg (fun z => WX G a z) (congrArg Prod.snd (Option.some.inj hF))) hs dX4_gets_23
  unfold F_X4_gets at hF
  refine lv_aload_n hx hb dX4_gets_0 rfl (lv_at hl 0 rfl) ?_
  refine lv_iload_n hx hb dX4_gets_1 rfl (lv_at hl 1 rfl) ?_
  obtain ⟨q1, hq1, hF⟩ := bd hF
  refine sx_V (As := [.int x1]) (rest := []) (st1 := [.int q1]) (c_X4_hasClaim G l a S x1 q1 hq1) v_X4_116 ⟨(Nat.le_of_ble_eq_true rfl), (Nat.le_of_ble_eq_true rfl)⟩ hx hb hml hown hts hE hA hs ⟨Nat.le_refl 0, Nat.le_refl 0⟩ 0 rfl rfl rfl rfl rfl hl.1 (Nat.le_of_ble_eq_true rfl) dX4_gets_2 (pmW _) (ws' := WX G a S) (pmW _) (fun H locs hs => ?_)
  refine lv_if_eq (tgt := 17) hx hb dX4_gets_5 (by decide) (fun hc => ?_) (fun hc => ?_)
  · have hF := (if_pos hc).symm.trans hF
    exact hJ17_n S _ _ _ hF hs (lv_sub hl [0] rfl)
  · have hF := (if_neg hc).symm.trans hF
    refine lv_iload_n hx hb dX4_gets_8 rfl (lv_at hl 2 rfl) ?_
    refine lv_iconst (v := (0 : Int32)) hx hb dX4_gets_9 (by decide) ?_
    refine lv_iconst (v := (2 : Int32)) hx hb dX4_gets_10 (by decide) ?_
    obtain ⟨q3, hq3, hF⟩ := bd hF
    refine sx_S (As := [.int x2, .int (0 : Int32), .int (2 : Int32)]) (rest := []) (st1 := [.int q3]) (c_X4_within G l  x2 (0 : Int32) (2 : Int32) q3 hq3) v_X4_64 ⟨(Nat.le_of_ble_eq_true rfl), (Nat.le_of_ble_eq_true rfl)⟩ hx hb hml hown hts hE hA hs ⟨Nat.le_refl 0, Nat.le_refl 0⟩ rfl rfl rfl hl.1 (Nat.le_of_ble_eq_true rfl) dX4_gets_11 (List.Perm.refl _) (ws' := WX G a S) (List.Perm.refl _) (fun H locs hs => ?_)
    refine lv_if_ne (tgt := 24) hx hb dX4_gets_14 (by decide) (fun hc => ?_) (fun hc => ?_)
    · have hF := (if_neg hc).symm.trans hF
      refine lv_aload_n hx hb dX4_gets_24 rfl (lv_at hl 0 rfl) ?_
      obtain ⟨q4, hq4, hF⟩ := bd hF
      refine sx_V (As := []) (rest := []) (st1 := []) (c_X4_accept G l a S q4 hq4) v_X4_78 ⟨(Nat.le_of_ble_eq_true rfl), (Nat.le_of_ble_eq_true rfl)⟩ hx hb hml hown hts hE hA hs ⟨Nat.le_refl 0, Nat.le_refl 0⟩ 0 rfl rfl rfl rfl rfl hl.1 (Nat.le_of_ble_eq_true rfl) dX4_gets_25 (pmW _) (ws' := WX G a q4) (pmW _) (fun H locs hs => ?_)
      refine lv_aload_n hx hb dX4_gets_28 rfl (lv_at hl 0 rfl) ?_
      obtain ⟨q5, hq5, hF⟩ := bd hF
      refine sx_V (As := []) (rest := []) (st1 := []) (c_X4_reckon G l a q4 q5 hq5) v_X4_126 ⟨(Nat.le_of_ble_eq_true rfl), (Nat.le_of_ble_eq_true rfl)⟩ hx hb hml hown hts hE hA hs ⟨Nat.le_refl 0, Nat.le_refl 0⟩ 0 rfl rfl rfl rfl rfl hl.1 (Nat.le_of_ble_eq_true rfl) dX4_gets_29 (pmW _) (ws' := WX G a q5) (pmW _) (fun H locs hs => ?_)
      refine lv_iload_n hx hb dX4_gets_32 rfl (lv_at hl 2 rfl) ?_
      refine lv_if_ne (tgt := 45) hx hb dX4_gets_33 (by decide) (fun hc => ?_) (fun hc => ?_)
      · have hF := (if_neg hc).symm.trans hF
        refine lv_iload_n hx hb dX4_gets_45 rfl (lv_at hl 2 rfl) ?_
        refine lv_iconst (v := (1 : Int32)) hx hb dX4_gets_46 (by decide) ?_
        refine lv_icmp_ne (tgt := 61) hx hb dX4_gets_47 (by decide) (fun hc => ?_) (fun hc => ?_)
        · have hF := (if_neg hc).symm.trans hF
          refine lv_aload_n hx hb dX4_gets_61 rfl (lv_at hl 0 rfl) ?_
          refine fg_X4_26 hx hb hown hts hE hs 0 rfl (v := .ref (a 17)) rfl dX4_gets_62 ?_
          refine lv_iload_n hx hb dX4_gets_65 rfl (lv_at hl 1 rfl) ?_
          obtain ⟨q6, hq6, hF⟩ := bd hF
          refine sx_N (As := [.int x1]) (rest := []) (st1 := [.long q6]) (c_X1_paidToClaimByAll G l (fun k => a (17 + k)) (x_reckoning q5) x1 q6 hq6) v_X4_174 ⟨(Nat.le_of_ble_eq_true rfl), (Nat.le_of_ble_eq_true rfl)⟩ hx hb hml hown hts hE hA hs ⟨Nat.le_refl 0, Nat.le_refl 0⟩ 22 rfl rfl rfl rfl rfl hl.1 (Nat.le_of_ble_eq_true rfl) dX4_gets_66 (pX_reckoning G a q5 (x_reckoning q5)) (ws' := WX G a q5) (pX_reckoning G a q5 (x_reckoning q5)) (fun H locs hs => ?_)
          exact sx_lret hx hb hr hlk hQ (congrArg Prod.fst (Option.some.inj hF)) (congrArg (fun z => WX G a z) (congrArg Prod.snd (Option.some.inj hF))) hs dX4_gets_69
        · have hF := (if_pos hc).symm.trans hF
          refine lv_aload_n hx hb dX4_gets_50 rfl (lv_at hl 0 rfl) ?_
          refine fg_X4_26 hx hb hown hts hE hs 0 rfl (v := .ref (a 17)) rfl dX4_gets_51 ?_
          refine lv_iload_n hx hb dX4_gets_54 rfl (lv_at hl 1 rfl) ?_
          obtain ⟨q7, hq7, hF⟩ := bd hF
          refine sx_N (As := [.int x1]) (rest := []) (st1 := [.long q7]) (c_X1_givenBack G l (fun k => a (17 + k)) (x_reckoning q5) x1 q7 hq7) v_X4_171 ⟨(Nat.le_of_ble_eq_true rfl), (Nat.le_of_ble_eq_true rfl)⟩ hx hb hml hown hts hE hA hs ⟨Nat.le_refl 0, Nat.le_refl 0⟩ 22 rfl rfl rfl rfl rfl hl.1 (Nat.le_of_ble_eq_true rfl) dX4_gets_55 (pX_reckoning G a q5 (x_reckoning q5)) (ws' := WX G a q5) (pX_reckoning G a q5 (x_reckoning q5)) (fun H locs hs => ?_)
          refine lv_goto (tgt := 69) hx hb dX4_gets_58 (by decide) ?_
          exact sx_lret hx hb hr hlk hQ (congrArg Prod.fst (Option.some.inj hF)) (congrArg (fun z => WX G a z) (congrArg Prod.snd (Option.some.inj hF))) hs dX4_gets_69
      · have hF := (if_pos hc).symm.trans hF
        refine lv_aload_n hx hb dX4_gets_36 rfl (lv_at hl 0 rfl) ?_
        refine fg_X4_26 hx hb hown hts hE hs 0 rfl (v := .ref (a 17)) rfl dX4_gets_37 ?_
        refine lv_iload_n hx hb dX4_gets_40 rfl (lv_at hl 1 rfl) ?_
        obtain ⟨q8, hq8, hF⟩ := bd hF
        refine sx_N (As := [.int x1]) (rest := []) (st1 := [.long q8]) (c_X1_leftToClaim G l (fun k => a (17 + k)) (x_reckoning q5) x1 q8 hq8) v_X4_168 ⟨(Nat.le_of_ble_eq_true rfl), (Nat.le_of_ble_eq_true rfl)⟩ hx hb hml hown hts hE hA hs ⟨Nat.le_refl 0, Nat.le_refl 0⟩ 22 rfl rfl rfl rfl rfl hl.1 (Nat.le_of_ble_eq_true rfl) dX4_gets_41 (pX_reckoning G a q5 (x_reckoning q5)) (ws' := WX G a q5) (pX_reckoning G a q5 (x_reckoning q5)) (fun H locs hs => ?_)
        exact sx_lret hx hb hr hlk hQ (congrArg Prod.fst (Option.some.inj hF)) (congrArg (fun z => WX G a z) (congrArg Prod.snd (Option.some.inj hF))) hs dX4_gets_44
    · have hF := (if_pos hc).symm.trans hF
      exact hJ17_n S _ _ _ hF hs (lv_sub hl [0] rfl)
set_option maxHeartbeats 4000000 in
set_option maxRecDepth 100000 in
theorem c_X4_cover (G : GT) (l : Launch) (a : Nat → Nat) (S : XS) (x1 : Int32) (x2 : Int32) (r : Int64 × XS) (hF : F_X4_cover S x1 x2 = some r) : MT G l yX4_cover cX4_cover 5 (some .long) 7 162 [.ref (a 0), .int x1, .int x2] (WX G a S) (some (.long r.1)) (WX G a r.2) := by
  refine MT.of (by decide) (Nat.le_of_ble_eq_true rfl) ?_
  intro p e s m args below meth c A ls hx hb hr hml hown hts hlk hE hA hs hl Q hQ
  have hl : lv_has ls 5 [(0, .ref (a 0)), (1, .int x1), (2, .int x2)] := hl
  have hJ17_n : ∀ (S : XS) (H : Heap) (locs : List Loc) (ls : Array Slot), J_X4_cover_17 S = some r → SI G A s H locs (WX G a S) → lv_has ls 5 [(0, .ref (a 0))] → W p l e (RM 7 162) s m args below meth c H locs 0 0 Q (F0 m 17 ls []) := by
    intro S H locs ls hF hs hl
    unfold J_X4_cover_17 at hF
    refine lv_aload_n hx hb dX4_cover_17 rfl (lv_at hl 0 rfl) ?_
    refine lv_iconst (v := (1 : Int32)) hx hb dX4_cover_18 (by decide) ?_
    obtain ⟨q2, hq2, hF⟩ := bd hF
    refine sx_V (As := [.int (1 : Int32)]) (rest := []) (st1 := [.int q2.1]) (c_X4_none G l a S (1 : Int32) q2 hq2) v_X4_68 ⟨(Nat.le_of_ble_eq_true rfl), (Nat.le_of_ble_eq_true rfl)⟩ hx hb hml hown hts hE hA hs ⟨Nat.le_refl 0, Nat.le_refl 0⟩ 0 rfl rfl rfl rfl rfl hl.1 (Nat.le_of_ble_eq_true rfl) dX4_cover_19 (pmW _) (ws' := WX G a q2.2) (pmW _) (fun H locs hs => ?_)
    refine lv_i2l hx hb dX4_cover_22 rfl ?_
    exact sx_lret hx hb hr hlk hQ (congrArg Prod.fst (Option.some.inj hF)) (congrArg (fun z => WX G a z) (congrArg Prod.snd (Option.some.inj hF))) hs dX4_cover_23
  unfold F_X4_cover at hF
  refine lv_aload_n hx hb dX4_cover_0 rfl (lv_at hl 0 rfl) ?_
  refine lv_iload_n hx hb dX4_cover_1 rfl (lv_at hl 1 rfl) ?_
  obtain ⟨q1, hq1, hF⟩ := bd hF
  refine sx_V (As := [.int x1]) (rest := []) (st1 := [.int q1]) (c_X4_hasShip G l a S x1 q1 hq1) v_X4_105 ⟨(Nat.le_of_ble_eq_true rfl), (Nat.le_of_ble_eq_true rfl)⟩ hx hb hml hown hts hE hA hs ⟨Nat.le_refl 0, Nat.le_refl 0⟩ 0 rfl rfl rfl rfl rfl hl.1 (Nat.le_of_ble_eq_true rfl) dX4_cover_2 (pmW _) (ws' := WX G a S) (pmW _) (fun H locs hs => ?_)
  refine lv_if_eq (tgt := 17) hx hb dX4_cover_5 (by decide) (fun hc => ?_) (fun hc => ?_)
  · have hF := (if_pos hc).symm.trans hF
    exact hJ17_n S _ _ _ hF hs (lv_sub hl [0] rfl)
  · have hF := (if_neg hc).symm.trans hF
    refine lv_iload_n hx hb dX4_cover_8 rfl (lv_at hl 2 rfl) ?_
    refine lv_iconst (v := (0 : Int32)) hx hb dX4_cover_9 (by decide) ?_
    refine lv_iconst (v := (1 : Int32)) hx hb dX4_cover_10 (by decide) ?_
    obtain ⟨q3, hq3, hF⟩ := bd hF
    refine sx_S (As := [.int x2, .int (0 : Int32), .int (1 : Int32)]) (rest := []) (st1 := [.int q3]) (c_X4_within G l  x2 (0 : Int32) (1 : Int32) q3 hq3) v_X4_64 ⟨(Nat.le_of_ble_eq_true rfl), (Nat.le_of_ble_eq_true rfl)⟩ hx hb hml hown hts hE hA hs ⟨Nat.le_refl 0, Nat.le_refl 0⟩ rfl rfl rfl hl.1 (Nat.le_of_ble_eq_true rfl) dX4_cover_11 (List.Perm.refl _) (ws' := WX G a S) (List.Perm.refl _) (fun H locs hs => ?_)
    refine lv_if_ne (tgt := 24) hx hb dX4_cover_14 (by decide) (fun hc => ?_) (fun hc => ?_)
    · have hF := (if_neg hc).symm.trans hF
      refine lv_aload_n hx hb dX4_cover_24 rfl (lv_at hl 0 rfl) ?_
      obtain ⟨q4, hq4, hF⟩ := bd hF
      refine sx_V (As := []) (rest := []) (st1 := []) (c_X4_accept G l a S q4 hq4) v_X4_78 ⟨(Nat.le_of_ble_eq_true rfl), (Nat.le_of_ble_eq_true rfl)⟩ hx hb hml hown hts hE hA hs ⟨Nat.le_refl 0, Nat.le_refl 0⟩ 0 rfl rfl rfl rfl rfl hl.1 (Nat.le_of_ble_eq_true rfl) dX4_cover_25 (pmW _) (ws' := WX G a q4) (pmW _) (fun H locs hs => ?_)
      refine lv_aload_n hx hb dX4_cover_28 rfl (lv_at hl 0 rfl) ?_
      obtain ⟨q5, hq5, hF⟩ := bd hF
      refine sx_V (As := []) (rest := []) (st1 := []) (c_X4_reckon G l a q4 q5 hq5) v_X4_126 ⟨(Nat.le_of_ble_eq_true rfl), (Nat.le_of_ble_eq_true rfl)⟩ hx hb hml hown hts hE hA hs ⟨Nat.le_refl 0, Nat.le_refl 0⟩ 0 rfl rfl rfl rfl rfl hl.1 (Nat.le_of_ble_eq_true rfl) dX4_cover_29 (pmW _) (ws' := WX G a q5) (pmW _) (fun H locs hs => ?_)
      refine lv_aload_n hx hb dX4_cover_32 rfl (lv_at hl 0 rfl) ?_
      refine fg_X4_26 hx hb hown hts hE hs 0 rfl (v := .ref (a 17)) rfl dX4_cover_33 ?_
      refine lv_iload_n hx hb dX4_cover_36 rfl (lv_at hl 1 rfl) ?_
      obtain ⟨q6, hq6, hF⟩ := bd hF
      refine sx_N (As := [.int x1]) (rest := []) (st1 := [.long q6]) (c_X1_coveredOf G l (fun k => a (17 + k)) (x_reckoning q5) x1 q6 hq6) v_X4_177 ⟨(Nat.le_of_ble_eq_true rfl), (Nat.le_of_ble_eq_true rfl)⟩ hx hb hml hown hts hE hA hs ⟨Nat.le_refl 0, Nat.le_refl 0⟩ 22 rfl rfl rfl rfl rfl hl.1 (Nat.le_of_ble_eq_true rfl) dX4_cover_37 (pX_reckoning G a q5 (x_reckoning q5)) (ws' := WX G a q5) (pX_reckoning G a q5 (x_reckoning q5)) (fun H locs hs => ?_)
      refine lv_lstore_n (lv' := [(3, .long q6), (0, .ref (a 0)), (1, .int x1), (2, .int x2)]) hx hb dX4_cover_40 rfl hl (by decide) rfl (fun ls hl => ?_)
      refine lv_iload_n hx hb dX4_cover_41 rfl (lv_at hl 3 rfl) ?_
      refine lv_if_ne (tgt := 49) hx hb dX4_cover_42 (by decide) (fun hc => ?_) (fun hc => ?_)
      · have hF := (if_neg hc).symm.trans hF
        refine lv_aload_n hx hb dX4_cover_49 rfl (lv_at hl 1 rfl) ?_
        refine fg_X4_26 hx hb hown hts hE hs 0 rfl (v := .ref (a 17)) rfl dX4_cover_50 ?_
        refine lv_iload_n hx hb dX4_cover_53 rfl (lv_at hl 2 rfl) ?_
        obtain ⟨q7, hq7, hF⟩ := bd hF
        refine sx_N (As := [.int x1]) (rest := []) (st1 := [.long q7]) (c_X1_paidByShip G l (fun k => a (17 + k)) (x_reckoning q5) x1 q7 hq7) v_X4_165 ⟨(Nat.le_of_ble_eq_true rfl), (Nat.le_of_ble_eq_true rfl)⟩ hx hb hml hown hts hE hA hs ⟨Nat.le_refl 0, Nat.le_refl 0⟩ 22 rfl rfl rfl rfl rfl hl.1 (Nat.le_of_ble_eq_true rfl) dX4_cover_54 (pX_reckoning G a q5 (x_reckoning q5)) (ws' := WX G a q5) (pX_reckoning G a q5 (x_reckoning q5)) (fun H locs hs => ?_)
        refine lv_lload_n hx hb dX4_cover_57 rfl (lv_at hl 0 rfl) ?_
        refine lv_lsub hx hb dX4_cover_58 ?_
        exact sx_lret hx hb hr hlk hQ (congrArg Prod.fst (Option.some.inj hF)) (congrArg (fun z => WX G a z) (congrArg Prod.snd (Option.some.inj hF))) hs dX4_cover_59
      · have hF := (if_pos hc).symm.trans hF
        refine lv_lload_n hx hb dX4_cover_45 rfl (lv_at hl 0 rfl) ?_
        refine lv_goto (tgt := 59) hx hb dX4_cover_46 (by decide) ?_
        exact sx_lret hx hb hr hlk hQ (congrArg Prod.fst (Option.some.inj hF)) (congrArg (fun z => WX G a z) (congrArg Prod.snd (Option.some.inj hF))) hs dX4_cover_59
    · have hF := (if_pos hc).symm.trans hF
      exact hJ17_n S _ _ _ hF hs (lv_sub hl [0] rfl)
set_option maxHeartbeats 4000000 in
set_option maxRecDepth 100000 in
theorem c_X4_nothing (G : GT) (l : Launch) (a : Nat → Nat) (S : XS) (x1 : Int32) (r : Int64 × XS) (hF : F_X4_nothing S x1 = some r) : MT G l yX4_nothing cX4_nothing 2 (some .long) 1 21 [.ref (a 0), .int x1] (WX G a S) (some (.long r.1)) (WX G a r.2) := by
  refine MT.of (by decide) (Nat.le_of_ble_eq_true rfl) ?_
  intro p e s m args below meth c A ls hx hb hr hml hown hts hlk hE hA hs hl Q hQ
  have hl : lv_has ls 2 [(0, .ref (a 0)), (1, .int x1)] := hl
  unfold F_X4_nothing at hF
  refine lv_aload_n hx hb dX4_nothing_0 rfl (lv_at hl 0 rfl) ?_
  refine lv_iload_n hx hb dX4_nothing_1 rfl (lv_at hl 1 rfl) ?_
  obtain ⟨q1, hq1, hF⟩ := bd hF
  refine sx_V (As := [.int x1]) (rest := []) (st1 := [.int q1.1]) (c_X4_refuse G l a S x1 q1 hq1) v_X4_250 ⟨(Nat.le_of_ble_eq_true rfl), (Nat.le_of_ble_eq_true rfl)⟩ hx hb hml hown hts hE hA hs ⟨Nat.le_refl 0, Nat.le_refl 0⟩ 0 rfl rfl rfl rfl rfl hl.1 (Nat.le_of_ble_eq_true rfl) dX4_nothing_2 (pmW _) (ws' := WX G a q1.2) (pmW _) (fun H locs hs => ?_)
  refine lv_pop hx hb dX4_nothing_5 rfl ?_
  refine lv_ldc2 (v := (-1000000000000 : Int64)) hx hb hown (hts _ g744) dX4_nothing_6 ?_
  exact sx_lret hx hb hr hlk hQ (congrArg Prod.fst (Option.some.inj hF)) (congrArg (fun z => WX G a z) (congrArg Prod.snd (Option.some.inj hF))) hs dX4_nothing_9
set_option maxHeartbeats 4000000 in
set_option maxRecDepth 100000 in
theorem c_X4_net (G : GT) (l : Launch) (a : Nat → Nat) (S : XS) (x1 : Int32) (r : Int64 × XS) (hF : F_X4_net S x1 = some r) : MT G l yX4_net cX4_net 2 (some .long) 7 162 [.ref (a 0), .int x1] (WX G a S) (some (.long r.1)) (WX G a r.2) := by
  refine MT.of (by decide) (Nat.le_of_ble_eq_true rfl) ?_
  intro p e s m args below meth c A ls hx hb hr hml hown hts hlk hE hA hs hl Q hQ
  have hl : lv_has ls 2 [(0, .ref (a 0)), (1, .int x1)] := hl
  unfold F_X4_net at hF
  refine lv_aload_n hx hb dX4_net_0 rfl (lv_at hl 0 rfl) ?_
  refine lv_iload_n hx hb dX4_net_1 rfl (lv_at hl 1 rfl) ?_
  obtain ⟨q1, hq1, hF⟩ := bd hF
  refine sx_V (As := [.int x1]) (rest := []) (st1 := [.int q1]) (c_X4_hasShip G l a S x1 q1 hq1) v_X4_105 ⟨(Nat.le_of_ble_eq_true rfl), (Nat.le_of_ble_eq_true rfl)⟩ hx hb hml hown hts hE hA hs ⟨Nat.le_refl 0, Nat.le_refl 0⟩ 0 rfl rfl rfl rfl rfl hl.1 (Nat.le_of_ble_eq_true rfl) dX4_net_2 (pmW _) (ws' := WX G a S) (pmW _) (fun H locs hs => ?_)
  refine lv_if_ne (tgt := 14) hx hb dX4_net_5 (by decide) (fun hc => ?_) (fun hc => ?_)
  · have hF := (if_neg hc).symm.trans hF
    refine lv_aload_n hx hb dX4_net_14 rfl (lv_at hl 0 rfl) ?_
    obtain ⟨q2, hq2, hF⟩ := bd hF
    refine sx_V (As := []) (rest := []) (st1 := []) (c_X4_accept G l a S q2 hq2) v_X4_78 ⟨(Nat.le_of_ble_eq_true rfl), (Nat.le_of_ble_eq_true rfl)⟩ hx hb hml hown hts hE hA hs ⟨Nat.le_refl 0, Nat.le_refl 0⟩ 0 rfl rfl rfl rfl rfl hl.1 (Nat.le_of_ble_eq_true rfl) dX4_net_15 (pmW _) (ws' := WX G a q2) (pmW _) (fun H locs hs => ?_)
    refine lv_aload_n hx hb dX4_net_18 rfl (lv_at hl 0 rfl) ?_
    obtain ⟨q3, hq3, hF⟩ := bd hF
    refine sx_V (As := []) (rest := []) (st1 := []) (c_X4_reckon G l a q2 q3 hq3) v_X4_126 ⟨(Nat.le_of_ble_eq_true rfl), (Nat.le_of_ble_eq_true rfl)⟩ hx hb hml hown hts hE hA hs ⟨Nat.le_refl 0, Nat.le_refl 0⟩ 0 rfl rfl rfl rfl rfl hl.1 (Nat.le_of_ble_eq_true rfl) dX4_net_19 (pmW _) (ws' := WX G a q3) (pmW _) (fun H locs hs => ?_)
    refine lv_aload_n hx hb dX4_net_22 rfl (lv_at hl 0 rfl) ?_
    refine fg_X4_26 hx hb hown hts hE hs 0 rfl (v := .ref (a 17)) rfl dX4_net_23 ?_
    refine lv_iload_n hx hb dX4_net_26 rfl (lv_at hl 1 rfl) ?_
    obtain ⟨q4, hq4, hF⟩ := bd hF
    refine sx_N (As := [.int x1]) (rest := []) (st1 := [.long q4]) (c_X1_netOf G l (fun k => a (17 + k)) (x_reckoning q3) x1 q4 hq4) v_X4_183 ⟨(Nat.le_of_ble_eq_true rfl), (Nat.le_of_ble_eq_true rfl)⟩ hx hb hml hown hts hE hA hs ⟨Nat.le_refl 0, Nat.le_refl 0⟩ 22 rfl rfl rfl rfl rfl hl.1 (Nat.le_of_ble_eq_true rfl) dX4_net_27 (pX_reckoning G a q3 (x_reckoning q3)) (ws' := WX G a q3) (pX_reckoning G a q3 (x_reckoning q3)) (fun H locs hs => ?_)
    exact sx_lret hx hb hr hlk hQ (congrArg Prod.fst (Option.some.inj hF)) (congrArg (fun z => WX G a z) (congrArg Prod.snd (Option.some.inj hF))) hs dX4_net_30
  · have hF := (if_pos hc).symm.trans hF
    refine lv_aload_n hx hb dX4_net_8 rfl (lv_at hl 0 rfl) ?_
    refine lv_iconst (v := (1 : Int32)) hx hb dX4_net_9 (by decide) ?_
    obtain ⟨q5, hq5, hF⟩ := bd hF
    refine sx_V (As := [.int (1 : Int32)]) (rest := []) (st1 := [.long q5.1]) (c_X4_nothing G l a S (1 : Int32) q5 hq5) v_X4_180 ⟨(Nat.le_of_ble_eq_true rfl), (Nat.le_of_ble_eq_true rfl)⟩ hx hb hml hown hts hE hA hs ⟨Nat.le_refl 0, Nat.le_refl 0⟩ 0 rfl rfl rfl rfl rfl hl.1 (Nat.le_of_ble_eq_true rfl) dX4_net_10 (pmW _) (ws' := WX G a q5.2) (pmW _) (fun H locs hs => ?_)
    exact sx_lret hx hb hr hlk hQ (congrArg Prod.fst (Option.some.inj hF)) (congrArg (fun z => WX G a z) (congrArg Prod.snd (Option.some.inj hF))) hs dX4_net_13
set_option maxHeartbeats 4000000 in
set_option maxRecDepth 100000 in
theorem c_X4_netUnder (G : GT) (l : Launch) (a : Nat → Nat) (S : XS) (x1 : Int32) (x2 : Int32) (r : Int64 × XS) (hF : F_X4_netUnder S x1 x2 = some r) : MT G l yX4_netUnder cX4_netUnder 3 (some .long) 6 142 [.ref (a 0), .int x1, .int x2] (WX G a S) (some (.long r.1)) (WX G a r.2) := by
  refine MT.of (by decide) (Nat.le_of_ble_eq_true rfl) ?_
  intro p e s m args below meth c A ls hx hb hr hml hown hts hlk hE hA hs hl Q hQ
  have hl : lv_has ls 3 [(0, .ref (a 0)), (1, .int x1), (2, .int x2)] := hl
  unfold F_X4_netUnder at hF
  refine lv_aload_n hx hb dX4_netUnder_0 rfl (lv_at hl 0 rfl) ?_
  refine fg_X4_26 hx hb hown hts hE hs 0 rfl (v := .ref (a 17)) rfl dX4_netUnder_1 ?_
  refine lv_aload_n hx hb dX4_netUnder_4 rfl (lv_at hl 0 rfl) ?_
  refine fg_X4_19 hx hb hown hts hE hs 0 rfl (v := .ref (a 12)) rfl dX4_netUnder_5 ?_
  obtain ⟨q1, hq1, hF⟩ := bd hF
  obtain ⟨S2, eS2, hF⟩ := nm_some hF
  refine sx_N (As := [.ref (a 12)]) (rest := []) (st1 := []) (c_X1_take G l (fun k => a (17 + k)) (fun k => a (12 + k)) (x_reckoning S) (x_now S) q1 hq1) v_X4_210 ⟨(Nat.le_of_ble_eq_true rfl), (Nat.le_of_ble_eq_true rfl)⟩ hx hb hml hown hts hE hA hs ⟨Nat.le_refl 0, Nat.le_refl 0⟩ 22 rfl rfl rfl rfl rfl hl.1 (Nat.le_of_ble_eq_true rfl) dX4_netUnder_8 (pX_reckoning_now G a S (x_reckoning S)) (ws' := WX G a S2) (by subst eS2; exact pX_reckoning_now G a S q1) (fun H locs hs => ?_)
  refine lv_aload_n hx hb dX4_netUnder_11 rfl (lv_at hl 0 rfl) ?_
  refine fg_X4_26 hx hb hown hts hE hs 0 rfl (v := .ref (a 17)) rfl dX4_netUnder_12 ?_
  refine fg_X4_213 hx hb hown hts hE hs 22 rfl (v := .ref (a 23)) rfl dX4_netUnder_15 ?_
  refine fg_X4_101 hx hb hown hts hE hs 17 rfl (v := .ref (a 27)) rfl dX4_netUnder_18 ?_
  refine lv_iconst (v := (2 : Int32)) hx hb dX4_netUnder_21 (by decide) ?_
  refine lv_iload_n hx hb dX4_netUnder_22 rfl (lv_at hl 2 rfl) ?_
  refine lv_iconst (v := (1 : Int32)) hx hb dX4_netUnder_23 (by decide) ?_
  refine lv_iand hx hb dX4_netUnder_24 ?_
  obtain ⟨f3, hf3, hF⟩ := bd hF
  obtain ⟨S4, eS4, hF⟩ := nm_some hF
  refine sx_iast hx hb hE hs 21 (f := t_laws (r_told (x_reckoning S2))) rfl hf3 (ws' := WX G a S4) (by subst eS4; rfl) dX4_netUnder_25 (fun H locs hs => ?_)
  refine lv_aload_n hx hb dX4_netUnder_26 rfl (lv_at hl 0 rfl) ?_
  refine fg_X4_26 hx hb hown hts hE hs 0 rfl (v := .ref (a 17)) rfl dX4_netUnder_27 ?_
  refine fg_X4_213 hx hb hown hts hE hs 22 rfl (v := .ref (a 23)) rfl dX4_netUnder_30 ?_
  refine fg_X4_101 hx hb hown hts hE hs 17 rfl (v := .ref (a 27)) rfl dX4_netUnder_33 ?_
  refine lv_iconst (v := (3 : Int32)) hx hb dX4_netUnder_36 (by decide) ?_
  refine lv_iload_n hx hb dX4_netUnder_37 rfl (lv_at hl 2 rfl) ?_
  refine lv_iconst (v := (1 : Int32)) hx hb dX4_netUnder_38 (by decide) ?_
  refine lv_ishr hx hb dX4_netUnder_39 ?_
  refine lv_iconst (v := (1 : Int32)) hx hb dX4_netUnder_40 (by decide) ?_
  refine lv_iand hx hb dX4_netUnder_41 ?_
  obtain ⟨f5, hf5, hF⟩ := bd hF
  obtain ⟨S6, eS6, hF⟩ := nm_some hF
  refine sx_iast hx hb hE hs 21 (f := t_laws (r_told (x_reckoning S4))) rfl hf5 (ws' := WX G a S6) (by subst eS6; rfl) dX4_netUnder_42 (fun H locs hs => ?_)
  refine lv_aload_n hx hb dX4_netUnder_43 rfl (lv_at hl 0 rfl) ?_
  refine fg_X4_26 hx hb hown hts hE hs 0 rfl (v := .ref (a 17)) rfl dX4_netUnder_44 ?_
  refine fg_X4_213 hx hb hown hts hE hs 22 rfl (v := .ref (a 23)) rfl dX4_netUnder_47 ?_
  refine fg_X4_101 hx hb hown hts hE hs 17 rfl (v := .ref (a 27)) rfl dX4_netUnder_50 ?_
  refine lv_iconst (v := (4 : Int32)) hx hb dX4_netUnder_53 (by decide) ?_
  refine lv_iload_n hx hb dX4_netUnder_54 rfl (lv_at hl 2 rfl) ?_
  refine lv_iconst (v := (2 : Int32)) hx hb dX4_netUnder_55 (by decide) ?_
  refine lv_ishr hx hb dX4_netUnder_56 ?_
  refine lv_iconst (v := (1 : Int32)) hx hb dX4_netUnder_57 (by decide) ?_
  refine lv_iand hx hb dX4_netUnder_58 ?_
  obtain ⟨f7, hf7, hF⟩ := bd hF
  obtain ⟨S8, eS8, hF⟩ := nm_some hF
  refine sx_iast hx hb hE hs 21 (f := t_laws (r_told (x_reckoning S6))) rfl hf7 (ws' := WX G a S8) (by subst eS8; rfl) dX4_netUnder_59 (fun H locs hs => ?_)
  refine lv_aload_n hx hb dX4_netUnder_60 rfl (lv_at hl 0 rfl) ?_
  refine fg_X4_26 hx hb hown hts hE hs 0 rfl (v := .ref (a 17)) rfl dX4_netUnder_61 ?_
  obtain ⟨q9, hq9, hF⟩ := bd hF
  obtain ⟨S10, eS10, hF⟩ := nm_some hF
  refine sx_N (As := []) (rest := []) (st1 := []) (c_X1_settle G l (fun k => a (17 + k)) (x_reckoning S8) q9 hq9) v_X4_218 ⟨(Nat.le_of_ble_eq_true rfl), (Nat.le_of_ble_eq_true rfl)⟩ hx hb hml hown hts hE hA hs ⟨Nat.le_refl 0, Nat.le_refl 0⟩ 22 rfl rfl rfl rfl rfl hl.1 (Nat.le_of_ble_eq_true rfl) dX4_netUnder_64 (pX_reckoning G a S8 (x_reckoning S8)) (ws' := WX G a S10) (by subst eS10; exact pX_reckoning G a S8 q9) (fun H locs hs => ?_)
  refine lv_aload_n hx hb dX4_netUnder_67 rfl (lv_at hl 0 rfl) ?_
  refine fg_X4_26 hx hb hown hts hE hs 0 rfl (v := .ref (a 17)) rfl dX4_netUnder_68 ?_
  refine lv_iload_n hx hb dX4_netUnder_71 rfl (lv_at hl 1 rfl) ?_
  obtain ⟨q11, hq11, hF⟩ := bd hF
  refine sx_N (As := [.int x1]) (rest := []) (st1 := [.long q11]) (c_X1_netOf G l (fun k => a (17 + k)) (x_reckoning S10) x1 q11 hq11) v_X4_183 ⟨(Nat.le_of_ble_eq_true rfl), (Nat.le_of_ble_eq_true rfl)⟩ hx hb hml hown hts hE hA hs ⟨Nat.le_refl 0, Nat.le_refl 0⟩ 22 rfl rfl rfl rfl rfl hl.1 (Nat.le_of_ble_eq_true rfl) dX4_netUnder_72 (pX_reckoning G a S10 (x_reckoning S10)) (ws' := WX G a S10) (pX_reckoning G a S10 (x_reckoning S10)) (fun H locs hs => ?_)
  exact sx_lret hx hb hr hlk hQ (congrArg Prod.fst (Option.some.inj hF)) (congrArg (fun z => WX G a z) (congrArg Prod.snd (Option.some.inj hF))) hs dX4_netUnder_75
set_option maxHeartbeats 4000000 in
set_option maxRecDepth 100000 in
theorem c_X4_netBy (G : GT) (l : Launch) (a : Nat → Nat) (S : XS) (x1 : Int32) (x2 : Int32) (r : Int64 × XS) (hF : F_X4_netBy S x1 x2 = some r) : MT G l yX4_netBy cX4_netBy 3 (some .long) 7 164 [.ref (a 0), .int x1, .int x2] (WX G a S) (some (.long r.1)) (WX G a r.2) := by
  refine MT.of (by decide) (Nat.le_of_ble_eq_true rfl) ?_
  intro p e s m args below meth c A ls hx hb hr hml hown hts hlk hE hA hs hl Q hQ
  have hl : lv_has ls 3 [(0, .ref (a 0)), (1, .int x1), (2, .int x2)] := hl
  unfold F_X4_netBy at hF
  refine lv_aload_n hx hb dX4_netBy_0 rfl (lv_at hl 0 rfl) ?_
  refine lv_iload_n hx hb dX4_netBy_1 rfl (lv_at hl 1 rfl) ?_
  obtain ⟨q1, hq1, hF⟩ := bd hF
  refine sx_V (As := [.int x1]) (rest := []) (st1 := [.int q1]) (c_X4_hasShip G l a S x1 q1 hq1) v_X4_105 ⟨(Nat.le_of_ble_eq_true rfl), (Nat.le_of_ble_eq_true rfl)⟩ hx hb hml hown hts hE hA hs ⟨Nat.le_refl 0, Nat.le_refl 0⟩ 0 rfl rfl rfl rfl rfl hl.1 (Nat.le_of_ble_eq_true rfl) dX4_netBy_2 (pmW _) (ws' := WX G a S) (pmW _) (fun H locs hs => ?_)
  refine lv_if_ne (tgt := 14) hx hb dX4_netBy_5 (by decide) (fun hc => ?_) (fun hc => ?_)
  · have hF := (if_neg hc).symm.trans hF
    refine lv_iload_n hx hb dX4_netBy_14 rfl (lv_at hl 2 rfl) ?_
    refine lv_iconst (v := (0 : Int32)) hx hb dX4_netBy_15 (by decide) ?_
    refine lv_bipush (v := (7 : Int32)) hx hb dX4_netBy_16 (by decide) ?_
    obtain ⟨q2, hq2, hF⟩ := bd hF
    refine sx_S (As := [.int x2, .int (0 : Int32), .int (7 : Int32)]) (rest := []) (st1 := [.int q2]) (c_X4_within G l  x2 (0 : Int32) (7 : Int32) q2 hq2) v_X4_64 ⟨(Nat.le_of_ble_eq_true rfl), (Nat.le_of_ble_eq_true rfl)⟩ hx hb hml hown hts hE hA hs ⟨Nat.le_refl 0, Nat.le_refl 0⟩ rfl rfl rfl hl.1 (Nat.le_of_ble_eq_true rfl) dX4_netBy_18 (List.Perm.refl _) (ws' := WX G a S) (List.Perm.refl _) (fun H locs hs => ?_)
    refine lv_if_ne (tgt := 30) hx hb dX4_netBy_21 (by decide) (fun hc => ?_) (fun hc => ?_)
    · have hF := (if_neg hc).symm.trans hF
      refine lv_aload_n hx hb dX4_netBy_30 rfl (lv_at hl 0 rfl) ?_
      obtain ⟨q3, hq3, hF⟩ := bd hF
      refine sx_V (As := []) (rest := []) (st1 := []) (c_X4_accept G l a S q3 hq3) v_X4_78 ⟨(Nat.le_of_ble_eq_true rfl), (Nat.le_of_ble_eq_true rfl)⟩ hx hb hml hown hts hE hA hs ⟨Nat.le_refl 0, Nat.le_refl 0⟩ 0 rfl rfl rfl rfl rfl hl.1 (Nat.le_of_ble_eq_true rfl) dX4_netBy_31 (pmW _) (ws' := WX G a q3) (pmW _) (fun H locs hs => ?_)
      refine lv_aload_n hx hb dX4_netBy_34 rfl (lv_at hl 0 rfl) ?_
      refine lv_iload_n hx hb dX4_netBy_35 rfl (lv_at hl 1 rfl) ?_
      refine lv_iload_n hx hb dX4_netBy_36 rfl (lv_at hl 2 rfl) ?_
      obtain ⟨q4, hq4, hF⟩ := bd hF
      refine sx_V (As := [.int x1, .int x2]) (rest := []) (st1 := [.long q4.1]) (c_X4_netUnder G l a q3 x1 x2 q4 hq4) v_X4_186 ⟨(Nat.le_of_ble_eq_true rfl), (Nat.le_of_ble_eq_true rfl)⟩ hx hb hml hown hts hE hA hs ⟨Nat.le_refl 0, Nat.le_refl 0⟩ 0 rfl rfl rfl rfl rfl hl.1 (Nat.le_of_ble_eq_true rfl) dX4_netBy_37 (pmW _) (ws' := WX G a q4.2) (pmW _) (fun H locs hs => ?_)
      exact sx_lret hx hb hr hlk hQ (congrArg Prod.fst (Option.some.inj hF)) (congrArg (fun z => WX G a z) (congrArg Prod.snd (Option.some.inj hF))) hs dX4_netBy_40
    · have hF := (if_pos hc).symm.trans hF
      refine lv_aload_n hx hb dX4_netBy_24 rfl (lv_at hl 0 rfl) ?_
      refine lv_iconst (v := (2 : Int32)) hx hb dX4_netBy_25 (by decide) ?_
      obtain ⟨q5, hq5, hF⟩ := bd hF
      refine sx_V (As := [.int (2 : Int32)]) (rest := []) (st1 := [.long q5.1]) (c_X4_nothing G l a S (2 : Int32) q5 hq5) v_X4_180 ⟨(Nat.le_of_ble_eq_true rfl), (Nat.le_of_ble_eq_true rfl)⟩ hx hb hml hown hts hE hA hs ⟨Nat.le_refl 0, Nat.le_refl 0⟩ 0 rfl rfl rfl rfl rfl hl.1 (Nat.le_of_ble_eq_true rfl) dX4_netBy_26 (pmW _) (ws' := WX G a q5.2) (pmW _) (fun H locs hs => ?_)
      exact sx_lret hx hb hr hlk hQ (congrArg Prod.fst (Option.some.inj hF)) (congrArg (fun z => WX G a z) (congrArg Prod.snd (Option.some.inj hF))) hs dX4_netBy_29
  · have hF := (if_pos hc).symm.trans hF
    refine lv_aload_n hx hb dX4_netBy_8 rfl (lv_at hl 0 rfl) ?_
    refine lv_iconst (v := (1 : Int32)) hx hb dX4_netBy_9 (by decide) ?_
    obtain ⟨q6, hq6, hF⟩ := bd hF
    refine sx_V (As := [.int (1 : Int32)]) (rest := []) (st1 := [.long q6.1]) (c_X4_nothing G l a S (1 : Int32) q6 hq6) v_X4_180 ⟨(Nat.le_of_ble_eq_true rfl), (Nat.le_of_ble_eq_true rfl)⟩ hx hb hml hown hts hE hA hs ⟨Nat.le_refl 0, Nat.le_refl 0⟩ 0 rfl rfl rfl rfl rfl hl.1 (Nat.le_of_ble_eq_true rfl) dX4_netBy_10 (pmW _) (ws' := WX G a q6.2) (pmW _) (fun H locs hs => ?_)
    exact sx_lret hx hb hr hlk hQ (congrArg Prod.fst (Option.some.inj hF)) (congrArg (fun z => WX G a z) (congrArg Prod.snd (Option.some.inj hF))) hs dX4_netBy_13
set_option maxHeartbeats 4000000 in
set_option maxRecDepth 100000 in
theorem c_X4_wished (G : GT) (l : Launch) (a : Nat → Nat) (S : XS) (x1 : Int32) (r : Int32 × XS) (hF : F_X4_wished S x1 = some r) : MT G l yX4_wished cX4_wished 8 (some .int) 7 164 [.ref (a 0), .int x1] (WX G a S) (some (.int r.1)) (WX G a r.2) := by
  refine MT.of (by decide) (Nat.le_of_ble_eq_true rfl) ?_
  intro p e s m args below meth c A ls hx hb hr hml hown hts hlk hE hA hs hl Q hQ
  have hl : lv_has ls 8 [(0, .ref (a 0)), (1, .int x1)] := hl
  have hJ59_30 : ∀ (x1 : Int32) (k : XS → Int32 → Option (Int32 × XS)) (rc : XS → Int32 → Int64 → Int32 → Option (Int32 × XS)) (hk : ∀ (S : XS) (x2 : Int32) (H : Heap) (locs : List Loc) (ls : Array Slot), k S x2 = some r → SI G A s H locs (WX G a S) → lv_has ls 8 [(2, .int x2)] → W p l e (RM 7 164) s m args below meth c H locs 0 0 Q (F0 m 65 ls [])) (hrec : ∀ (S : XS) (x2 : Int32) (x3 : Int64) (x5 : Int32) (H : Heap) (locs : List Loc) (ls : Array Slot), rc S x2 x3 x5 = some r → SI G A s H locs (WX G a S) → lv_has ls 8 [(0, .ref (a 0)), (1, .int x1), (2, .int x2), (3, .long x3), (5, .int x5)] → W p l e (RM 7 164) s m args below meth c H locs 0 0 Q (F0 m 30 ls [])) (S : XS) (x2 : Int32) (x3 : Int64) (x5 : Int32) (H : Heap) (locs : List Loc) (ls : Array Slot), J_X4_wished_59 k rc S x1 x2 x3 x5 = some r → SI G A s H locs (WX G a S) → lv_has ls 8 [(0, .ref (a 0)), (1, .int x1), (2, .int x2), (3, .long x3), (5, .int x5)] → W p l e (RM 7 164) s m args below meth c H locs 0 0 Q (F0 m 59 ls []) := by
    intro x1 k rc hk hrec S x2 x3 x5 H locs ls hF hs hl
    unfold J_X4_wished_59 at hF
    obtain ⟨v5, ev5, hF⟩ := nm_some hF
    refine lv_iinc (v := v5) (lv' := [(5, .int v5), (0, .ref (a 0)), (1, .int x1), (2, .int x2), (3, .long x3)]) hx hb dX4_wished_59 hl (k := 4) rfl (by rw [ev5]; rfl) (by decide) rfl (fun ls hl => ?_)
    refine lv_goto (tgt := 30) hx hb dX4_wished_62 (by decide) ?_
    exact hrec S x2 x3 v5 _ _ _ hF hs (lv_sub hl [1, 2, 3, 4, 0] rfl)
  have hL30 : ∀ (x1 : Int32) (k : XS → Int32 → Option (Int32 × XS)) (hk : ∀ (S : XS) (x2 : Int32) (H : Heap) (locs : List Loc) (ls : Array Slot), k S x2 = some r → SI G A s H locs (WX G a S) → lv_has ls 8 [(2, .int x2)] → W p l e (RM 7 164) s m args below meth c H locs 0 0 Q (F0 m 65 ls [])) (fu : Nat) (S : XS) (x2 : Int32) (x3 : Int64) (x5 : Int32) (H : Heap) (locs : List Loc) (ls : Array Slot), lo4 (B_X4_wished_30 x1 k) fu S x2 x3 x5 = some r → SI G A s H locs (WX G a S) → lv_has ls 8 [(0, .ref (a 0)), (1, .int x1), (2, .int x2), (3, .long x3), (5, .int x5)] → W p l e (RM 7 164) s m args below meth c H locs 0 0 Q (F0 m 30 ls []) := by
    intro x1 k hk fu
    induction fu with
    | zero =>
      intro S x2 x3 x5 H locs ls hF hs hl
      exact nomatch (show (none : Option (Int32 × XS)) = some r from hF)
    | succ fu hrec =>
      intro S x2 x3 x5 H locs ls hF hs hl
      have hF : (B_X4_wished_30 x1 k) (lo4 (B_X4_wished_30 x1 k) fu) S x2 x3 x5 = some r := hF
      unfold B_X4_wished_30 at hF
      refine lv_iload hx hb dX4_wished_30 (lv_at hl 4 rfl) ?_
      refine lv_bipush (v := (8 : Int32)) hx hb dX4_wished_32 (by decide) ?_
      refine lv_icmp_ge (tgt := 65) hx hb dX4_wished_34 (by decide) (fun hc => ?_) (fun hc => ?_)
      · have hF := (if_pos hc).symm.trans hF
        exact hk S x2 _ _ _ hF hs (lv_sub hl [2] rfl)
      · have hF := (if_neg hc).symm.trans hF
        refine lv_aload_n hx hb dX4_wished_37 rfl (lv_at hl 0 rfl) ?_
        refine lv_iload_n hx hb dX4_wished_38 rfl (lv_at hl 1 rfl) ?_
        refine lv_iload hx hb dX4_wished_39 (lv_at hl 4 rfl) ?_
        obtain ⟨q4, hq4, hF⟩ := bd hF
        refine sx_V (As := [.int x1, .int x5]) (rest := []) (st1 := [.long q4.1]) (c_X4_netUnder G l a S x1 x5 q4 hq4) v_X4_186 ⟨(Nat.le_of_ble_eq_true rfl), (Nat.le_of_ble_eq_true rfl)⟩ hx hb hml hown hts hE hA hs ⟨Nat.le_refl 0, Nat.le_refl 0⟩ 0 rfl rfl rfl rfl rfl hl.1 (Nat.le_of_ble_eq_true rfl) dX4_wished_41 (pmW _) (ws' := WX G a q4.2) (pmW _) (fun H locs hs => ?_)
        refine lv_lstore (lv' := [(6, .long q4.1), (0, .ref (a 0)), (1, .int x1), (2, .int x2), (3, .long x3), (5, .int x5)]) hx hb dX4_wished_44 hl (by decide) rfl (fun ls hl => ?_)
        refine lv_lload hx hb dX4_wished_46 (lv_at hl 0 rfl) ?_
        refine lv_lload_n hx hb dX4_wished_48 rfl (lv_at hl 4 rfl) ?_
        refine W.lcmp hx hb dX4_wished_49 ?_
        refine lv_if_le (tgt := 59) hx hb dX4_wished_50 (by decide) (fun hc => ?_) (fun hc => ?_)
        · have hF := (if_pos hc).symm.trans hF
          exact hJ59_30 x1 _ _ hk hrec q4.2 x2 x3 x5 _ _ _ hF hs (lv_sub hl [1, 2, 3, 4, 5] rfl)
        · have hF := (if_neg hc).symm.trans hF
          refine lv_lload hx hb dX4_wished_53 (lv_at hl 0 rfl) ?_
          refine lv_lstore_n (lv' := [(3, .long q4.1), (6, .long q4.1), (0, .ref (a 0)), (1, .int x1), (2, .int x2), (5, .int x5)]) hx hb dX4_wished_55 rfl hl (by decide) rfl (fun ls hl => ?_)
          refine lv_iload hx hb dX4_wished_56 (lv_at hl 5 rfl) ?_
          refine lv_istore_n (lv' := [(2, .int x5), (3, .long q4.1), (6, .long q4.1), (0, .ref (a 0)), (1, .int x1), (5, .int x5)]) hx hb dX4_wished_58 rfl hl (by decide) rfl (fun ls hl => ?_)
          exact hJ59_30 x1 _ _ hk hrec q4.2 x5 q4.1 x5 _ _ _ hF hs (lv_sub hl [3, 4, 0, 1, 5] rfl)
  unfold F_X4_wished at hF
  refine lv_aload_n hx hb dX4_wished_0 rfl (lv_at hl 0 rfl) ?_
  refine lv_iload_n hx hb dX4_wished_1 rfl (lv_at hl 1 rfl) ?_
  obtain ⟨q1, hq1, hF⟩ := bd hF
  refine sx_V (As := [.int x1]) (rest := []) (st1 := [.int q1]) (c_X4_hasShip G l a S x1 q1 hq1) v_X4_105 ⟨(Nat.le_of_ble_eq_true rfl), (Nat.le_of_ble_eq_true rfl)⟩ hx hb hml hown hts hE hA hs ⟨Nat.le_refl 0, Nat.le_refl 0⟩ 0 rfl rfl rfl rfl rfl hl.1 (Nat.le_of_ble_eq_true rfl) dX4_wished_2 (pmW _) (ws' := WX G a S) (pmW _) (fun H locs hs => ?_)
  refine lv_if_ne (tgt := 14) hx hb dX4_wished_5 (by decide) (fun hc => ?_) (fun hc => ?_)
  · have hF := (if_neg hc).symm.trans hF
    refine lv_aload_n hx hb dX4_wished_14 rfl (lv_at hl 0 rfl) ?_
    obtain ⟨q2, hq2, hF⟩ := bd hF
    refine sx_V (As := []) (rest := []) (st1 := []) (c_X4_accept G l a S q2 hq2) v_X4_78 ⟨(Nat.le_of_ble_eq_true rfl), (Nat.le_of_ble_eq_true rfl)⟩ hx hb hml hown hts hE hA hs ⟨Nat.le_refl 0, Nat.le_refl 0⟩ 0 rfl rfl rfl rfl rfl hl.1 (Nat.le_of_ble_eq_true rfl) dX4_wished_15 (pmW _) (ws' := WX G a q2) (pmW _) (fun H locs hs => ?_)
    refine lv_iconst (v := (0 : Int32)) hx hb dX4_wished_18 (by decide) ?_
    refine lv_istore_n (lv' := [(2, .int (0 : Int32)), (0, .ref (a 0)), (1, .int x1)]) hx hb dX4_wished_19 rfl hl (by decide) rfl (fun ls hl => ?_)
    refine lv_aload_n hx hb dX4_wished_20 rfl (lv_at hl 1 rfl) ?_
    refine lv_iload_n hx hb dX4_wished_21 rfl (lv_at hl 2 rfl) ?_
    refine lv_iconst (v := (0 : Int32)) hx hb dX4_wished_22 (by decide) ?_
    obtain ⟨q3, hq3, hF⟩ := bd hF
    refine sx_V (As := [.int x1, .int (0 : Int32)]) (rest := []) (st1 := [.long q3.1]) (c_X4_netUnder G l a q2 x1 (0 : Int32) q3 hq3) v_X4_186 ⟨(Nat.le_of_ble_eq_true rfl), (Nat.le_of_ble_eq_true rfl)⟩ hx hb hml hown hts hE hA hs ⟨Nat.le_refl 0, Nat.le_refl 0⟩ 0 rfl rfl rfl rfl rfl hl.1 (Nat.le_of_ble_eq_true rfl) dX4_wished_23 (pmW _) (ws' := WX G a q3.2) (pmW _) (fun H locs hs => ?_)
    refine lv_lstore_n (lv' := [(3, .long q3.1), (2, .int (0 : Int32)), (0, .ref (a 0)), (1, .int x1)]) hx hb dX4_wished_26 rfl hl (by decide) rfl (fun ls hl => ?_)
    refine lv_iconst (v := (1 : Int32)) hx hb dX4_wished_27 (by decide) ?_
    refine lv_istore (lv' := [(5, .int (1 : Int32)), (3, .long q3.1), (2, .int (0 : Int32)), (0, .ref (a 0)), (1, .int x1)]) hx hb dX4_wished_28 hl (by decide) rfl (fun ls hl => ?_)
    refine hL30 x1 _ (fun S6 z7 H locs ls hF hs hl => ?_) FU q3.2 (0 : Int32) q3.1 (1 : Int32) _ _ _ hF hs (lv_sub hl [3, 4, 2, 1, 0] rfl)
    refine lv_iload_n hx hb dX4_wished_65 rfl (lv_at hl 0 rfl) ?_
    exact sx_iret hx hb hr hlk hQ (congrArg Prod.fst (Option.some.inj hF)) (congrArg (fun z => WX G a z) (congrArg Prod.snd (Option.some.inj hF))) hs dX4_wished_66
  · have hF := (if_pos hc).symm.trans hF
    refine lv_aload_n hx hb dX4_wished_8 rfl (lv_at hl 0 rfl) ?_
    refine lv_iconst (v := (1 : Int32)) hx hb dX4_wished_9 (by decide) ?_
    obtain ⟨q8, hq8, hF⟩ := bd hF
    refine sx_V (As := [.int (1 : Int32)]) (rest := []) (st1 := [.int q8.1]) (c_X4_none G l a S (1 : Int32) q8 hq8) v_X4_68 ⟨(Nat.le_of_ble_eq_true rfl), (Nat.le_of_ble_eq_true rfl)⟩ hx hb hml hown hts hE hA hs ⟨Nat.le_refl 0, Nat.le_refl 0⟩ 0 rfl rfl rfl rfl rfl hl.1 (Nat.le_of_ble_eq_true rfl) dX4_wished_10 (pmW _) (ws' := WX G a q8.2) (pmW _) (fun H locs hs => ?_)
    exact sx_iret hx hb hr hlk hQ (congrArg Prod.fst (Option.some.inj hF)) (congrArg (fun z => WX G a z) (congrArg Prod.snd (Option.some.inj hF))) hs dX4_wished_13
set_option maxHeartbeats 4000000 in
set_option maxRecDepth 100000 in
theorem c_X4_gap (G : GT) (l : Launch) (a : Nat → Nat) (S : XS) (x1 : Int32) (r : Int64 × XS) (hF : F_X4_gap S x1 = some r) : MT G l yX4_gap cX4_gap 3 (some .long) 7 164 [.ref (a 0), .int x1] (WX G a S) (some (.long r.1)) (WX G a r.2) := by
  refine MT.of (by decide) (Nat.le_of_ble_eq_true rfl) ?_
  intro p e s m args below meth c A ls hx hb hr hml hown hts hlk hE hA hs hl Q hQ
  have hl : lv_has ls 3 [(0, .ref (a 0)), (1, .int x1)] := hl
  unfold F_X4_gap at hF
  refine lv_aload_n hx hb dX4_gap_0 rfl (lv_at hl 0 rfl) ?_
  refine lv_iload_n hx hb dX4_gap_1 rfl (lv_at hl 1 rfl) ?_
  obtain ⟨q1, hq1, hF⟩ := bd hF
  refine sx_V (As := [.int x1]) (rest := []) (st1 := [.int q1]) (c_X4_hasShip G l a S x1 q1 hq1) v_X4_105 ⟨(Nat.le_of_ble_eq_true rfl), (Nat.le_of_ble_eq_true rfl)⟩ hx hb hml hown hts hE hA hs ⟨Nat.le_refl 0, Nat.le_refl 0⟩ 0 rfl rfl rfl rfl rfl hl.1 (Nat.le_of_ble_eq_true rfl) dX4_gap_2 (pmW _) (ws' := WX G a S) (pmW _) (fun H locs hs => ?_)
  refine lv_if_ne (tgt := 14) hx hb dX4_gap_5 (by decide) (fun hc => ?_) (fun hc => ?_)
  · have hF := (if_neg hc).symm.trans hF
    refine lv_aload_n hx hb dX4_gap_14 rfl (lv_at hl 0 rfl) ?_
    obtain ⟨q2, hq2, hF⟩ := bd hF
    refine sx_V (As := []) (rest := []) (st1 := []) (c_X4_accept G l a S q2 hq2) v_X4_78 ⟨(Nat.le_of_ble_eq_true rfl), (Nat.le_of_ble_eq_true rfl)⟩ hx hb hml hown hts hE hA hs ⟨Nat.le_refl 0, Nat.le_refl 0⟩ 0 rfl rfl rfl rfl rfl hl.1 (Nat.le_of_ble_eq_true rfl) dX4_gap_15 (pmW _) (ws' := WX G a q2) (pmW _) (fun H locs hs => ?_)
    refine lv_aload_n hx hb dX4_gap_18 rfl (lv_at hl 0 rfl) ?_
    refine fg_X4_19 hx hb hown hts hE hs 0 rfl (v := .ref (a 12)) rfl dX4_gap_19 ?_
    refine fg_X4_101 hx hb hown hts hE hs 12 rfl (v := .ref (a 16)) rfl dX4_gap_22 ?_
    refine lv_iconst (v := (2 : Int32)) hx hb dX4_gap_25 (by decide) ?_
    obtain ⟨v3, hv3, hF⟩ := bd hF
    refine sx_iald hx hb hE hs 16 (f := t_laws (x_now q2)) rfl hv3 dX4_gap_26 ?_
    refine lv_iconst (v := (2 : Int32)) hx hb dX4_gap_27 (by decide) ?_
    refine lv_aload_n hx hb dX4_gap_28 rfl (lv_at hl 0 rfl) ?_
    refine fg_X4_19 hx hb hown hts hE hs 0 rfl (v := .ref (a 12)) rfl dX4_gap_29 ?_
    refine fg_X4_101 hx hb hown hts hE hs 12 rfl (v := .ref (a 16)) rfl dX4_gap_32 ?_
    refine lv_iconst (v := (3 : Int32)) hx hb dX4_gap_35 (by decide) ?_
    obtain ⟨v4, hv4, hF⟩ := bd hF
    refine sx_iald hx hb hE hs 16 (f := t_laws (x_now q2)) rfl hv4 dX4_gap_36 ?_
    refine lv_imul hx hb dX4_gap_37 ?_
    refine lv_iadd hx hb dX4_gap_38 ?_
    obtain ⟨v5, ev5, hF⟩ := nm_some hF
    refine sx_topi ev5 ?_
    refine lv_istore_n (lv' := [(2, .int v5), (0, .ref (a 0)), (1, .int x1)]) hx hb dX4_gap_39 rfl hl (by decide) rfl (fun ls hl => ?_)
    refine lv_aload_n hx hb dX4_gap_40 rfl (lv_at hl 1 rfl) ?_
    refine lv_iload_n hx hb dX4_gap_41 rfl (lv_at hl 2 rfl) ?_
    refine lv_iload_n hx hb dX4_gap_42 rfl (lv_at hl 0 rfl) ?_
    refine lv_iconst (v := (4 : Int32)) hx hb dX4_gap_43 (by decide) ?_
    refine lv_iadd hx hb dX4_gap_44 ?_
    obtain ⟨q6, hq6, hF⟩ := bd hF
    refine sx_V (As := [.int x1, .int (v5 + (4 : Int32))]) (rest := []) (st1 := [.long q6.1]) (c_X4_netUnder G l a q2 x1 (v5 + (4 : Int32)) q6 hq6) v_X4_186 ⟨(Nat.le_of_ble_eq_true rfl), (Nat.le_of_ble_eq_true rfl)⟩ hx hb hml hown hts hE hA hs ⟨Nat.le_refl 0, Nat.le_refl 0⟩ 0 rfl rfl rfl rfl rfl hl.1 (Nat.le_of_ble_eq_true rfl) dX4_gap_45 (pmW _) (ws' := WX G a q6.2) (pmW _) (fun H locs hs => ?_)
    refine lv_aload_n hx hb dX4_gap_48 rfl (lv_at hl 1 rfl) ?_
    refine lv_iload_n hx hb dX4_gap_49 rfl (lv_at hl 2 rfl) ?_
    refine lv_iload_n hx hb dX4_gap_50 rfl (lv_at hl 0 rfl) ?_
    obtain ⟨q7, hq7, hF⟩ := bd hF
    refine sx_V (As := [.int x1, .int v5]) (rest := [.long q6.1]) (st1 := [.long q7.1, .long q6.1]) (c_X4_netUnder G l a q6.2 x1 v5 q7 hq7) v_X4_186 ⟨(Nat.le_of_ble_eq_true rfl), (Nat.le_of_ble_eq_true rfl)⟩ hx hb hml hown hts hE hA hs ⟨Nat.le_refl 0, Nat.le_refl 0⟩ 0 rfl rfl rfl rfl rfl hl.1 (Nat.le_of_ble_eq_true rfl) dX4_gap_51 (pmW _) (ws' := WX G a q7.2) (pmW _) (fun H locs hs => ?_)
    refine lv_lsub hx hb dX4_gap_54 ?_
    exact sx_lret hx hb hr hlk hQ (congrArg Prod.fst (Option.some.inj hF)) (congrArg (fun z => WX G a z) (congrArg Prod.snd (Option.some.inj hF))) hs dX4_gap_55
  · have hF := (if_pos hc).symm.trans hF
    refine lv_aload_n hx hb dX4_gap_8 rfl (lv_at hl 0 rfl) ?_
    refine lv_iconst (v := (1 : Int32)) hx hb dX4_gap_9 (by decide) ?_
    obtain ⟨q8, hq8, hF⟩ := bd hF
    refine sx_V (As := [.int (1 : Int32)]) (rest := []) (st1 := [.long q8.1]) (c_X4_nothing G l a S (1 : Int32) q8 hq8) v_X4_180 ⟨(Nat.le_of_ble_eq_true rfl), (Nat.le_of_ble_eq_true rfl)⟩ hx hb hml hown hts hE hA hs ⟨Nat.le_refl 0, Nat.le_refl 0⟩ 0 rfl rfl rfl rfl rfl hl.1 (Nat.le_of_ble_eq_true rfl) dX4_gap_10 (pmW _) (ws' := WX G a q8.2) (pmW _) (fun H locs hs => ?_)
    exact sx_lret hx hb hr hlk hQ (congrArg Prod.fst (Option.some.inj hF)) (congrArg (fun z => WX G a z) (congrArg Prod.snd (Option.some.inj hF))) hs dX4_gap_13
set_option maxHeartbeats 4000000 in
set_option maxRecDepth 100000 in
theorem c_X4_enough (G : GT) (l : Launch) (a : Nat → Nat) (S : XS) (r : Int32 × XS) (hF : F_X4_enough S = some r) : MT G l yX4_enough cX4_enough 4 (some .int) 7 162 [.ref (a 0)] (WX G a S) (some (.int r.1)) (WX G a r.2) := by
  refine MT.of (by decide) (Nat.le_of_ble_eq_true rfl) ?_
  intro p e s m args below meth c A ls hx hb hr hml hown hts hlk hE hA hs hl Q hQ
  have hl : lv_has ls 4 [(0, .ref (a 0))] := hl
  have hL25 : ∀ (k : XS → Int64 → Option (Int32 × XS)) (hk : ∀ (S : XS) (x1 : Int64) (H : Heap) (locs : List Loc) (ls : Array Slot), k S x1 = some r → SI G A s H locs (WX G a S) → lv_has ls 4 [(1, .long x1)] → W p l e (RM 7 162) s m args below meth c H locs 0 0 Q (F0 m 55 ls [])) (fu : Nat) (S : XS) (x1 : Int64) (x3 : Int32) (H : Heap) (locs : List Loc) (ls : Array Slot), lo3 (B_X4_enough_25 k) fu S x1 x3 = some r → SI G A s H locs (WX G a S) → lv_has ls 4 [(0, .ref (a 0)), (1, .long x1), (3, .int x3)] → W p l e (RM 7 162) s m args below meth c H locs 0 0 Q (F0 m 25 ls []) := by
    intro k hk fu
    induction fu with
    | zero =>
      intro S x1 x3 H locs ls hF hs hl
      exact nomatch (show (none : Option (Int32 × XS)) = some r from hF)
    | succ fu hrec =>
      intro S x1 x3 H locs ls hF hs hl
      have hF : (B_X4_enough_25 k) (lo3 (B_X4_enough_25 k) fu) S x1 x3 = some r := hF
      unfold B_X4_enough_25 at hF
      refine lv_iload_n hx hb dX4_enough_25 rfl (lv_at hl 2 rfl) ?_
      refine lv_aload_n hx hb dX4_enough_26 rfl (lv_at hl 0 rfl) ?_
      refine fg_X4_19 hx hb hown hts hE hs 0 rfl (v := .ref (a 12)) rfl dX4_enough_27 ?_
      refine fg_X4_91 hx hb hown hts hE hs 12 rfl (v := .int (t_ships (x_now S))) rfl dX4_enough_30 ?_
      refine lv_icmp_ge (tgt := 55) hx hb dX4_enough_33 (by decide) (fun hc => ?_) (fun hc => ?_)
      · have hF := (if_pos hc).symm.trans hF
        exact hk S x1 _ _ _ hF hs (lv_sub hl [1] rfl)
      · have hF := (if_neg hc).symm.trans hF
        refine lv_lload_n hx hb dX4_enough_36 rfl (lv_at hl 1 rfl) ?_
        refine lv_aload_n hx hb dX4_enough_37 rfl (lv_at hl 0 rfl) ?_
        refine fg_X4_26 hx hb hown hts hE hs 0 rfl (v := .ref (a 17)) rfl dX4_enough_38 ?_
        refine lv_iload_n hx hb dX4_enough_41 rfl (lv_at hl 2 rfl) ?_
        obtain ⟨q4, hq4, hF⟩ := bd hF
        refine sx_N (As := [.int x3]) (rest := [.long x1]) (st1 := [.long q4, .long x1]) (c_X1_rateNeeded G l (fun k => a (17 + k)) (x_reckoning S) x3 q4 hq4) v_X4_189 ⟨(Nat.le_of_ble_eq_true rfl), (Nat.le_of_ble_eq_true rfl)⟩ hx hb hml hown hts hE hA hs ⟨Nat.le_refl 0, Nat.le_refl 0⟩ 22 rfl rfl rfl rfl rfl hl.1 (Nat.le_of_ble_eq_true rfl) dX4_enough_42 (pX_reckoning G a S (x_reckoning S)) (ws' := WX G a S) (pX_reckoning G a S (x_reckoning S)) (fun H locs hs => ?_)
        refine va_mmax_long hx hb (hml.trans hl.1.symm) hown (hts _ g780) (hts _ g781) (hts _ g131) (hts _ g782) (Nat.le_of_ble_eq_true rfl) (Nat.le_of_ble_eq_true rfl) (Nat.le_refl 0) (Nat.le_refl 0) dX4_enough_45 ?_
        obtain ⟨v5, ev5, hF⟩ := nm_some hF
        refine sx_topl ev5 ?_
        refine lv_lstore_n (lv' := [(1, .long v5), (0, .ref (a 0)), (3, .int x3)]) hx hb dX4_enough_48 rfl hl (by decide) rfl (fun ls hl => ?_)
        obtain ⟨v6, ev6, hF⟩ := nm_some hF
        refine lv_iinc (v := v6) (lv' := [(3, .int v6), (1, .long v5), (0, .ref (a 0))]) hx hb dX4_enough_49 hl (k := 2) rfl (by rw [ev6]; rfl) (by decide) rfl (fun ls hl => ?_)
        refine lv_goto (tgt := 25) hx hb dX4_enough_52 (by decide) ?_
        exact hrec S v5 v6 _ _ _ hF hs (lv_sub hl [2, 1, 0] rfl)
  unfold F_X4_enough at hF
  refine lv_aload_n hx hb dX4_enough_0 rfl (lv_at hl 0 rfl) ?_
  obtain ⟨q1, hq1, hF⟩ := bd hF
  refine sx_V (As := []) (rest := []) (st1 := [.int q1]) (c_X4_hasText G l a S q1 hq1) v_X4_94 ⟨(Nat.le_of_ble_eq_true rfl), (Nat.le_of_ble_eq_true rfl)⟩ hx hb hml hown hts hE hA hs ⟨Nat.le_refl 0, Nat.le_refl 0⟩ 0 rfl rfl rfl rfl rfl hl.1 (Nat.le_of_ble_eq_true rfl) dX4_enough_1 (pmW _) (ws' := WX G a S) (pmW _) (fun H locs hs => ?_)
  refine lv_if_ne (tgt := 13) hx hb dX4_enough_4 (by decide) (fun hc => ?_) (fun hc => ?_)
  · have hF := (if_neg hc).symm.trans hF
    refine lv_aload_n hx hb dX4_enough_13 rfl (lv_at hl 0 rfl) ?_
    obtain ⟨q2, hq2, hF⟩ := bd hF
    refine sx_V (As := []) (rest := []) (st1 := []) (c_X4_accept G l a S q2 hq2) v_X4_78 ⟨(Nat.le_of_ble_eq_true rfl), (Nat.le_of_ble_eq_true rfl)⟩ hx hb hml hown hts hE hA hs ⟨Nat.le_refl 0, Nat.le_refl 0⟩ 0 rfl rfl rfl rfl rfl hl.1 (Nat.le_of_ble_eq_true rfl) dX4_enough_14 (pmW _) (ws' := WX G a q2) (pmW _) (fun H locs hs => ?_)
    refine lv_aload_n hx hb dX4_enough_17 rfl (lv_at hl 0 rfl) ?_
    obtain ⟨q3, hq3, hF⟩ := bd hF
    refine sx_V (As := []) (rest := []) (st1 := []) (c_X4_reckon G l a q2 q3 hq3) v_X4_126 ⟨(Nat.le_of_ble_eq_true rfl), (Nat.le_of_ble_eq_true rfl)⟩ hx hb hml hown hts hE hA hs ⟨Nat.le_refl 0, Nat.le_refl 0⟩ 0 rfl rfl rfl rfl rfl hl.1 (Nat.le_of_ble_eq_true rfl) dX4_enough_18 (pmW _) (ws' := WX G a q3) (pmW _) (fun H locs hs => ?_)
    refine lv_lconst (v := (0 : Int64)) hx hb dX4_enough_21 (by decide) ?_
    refine lv_lstore_n (lv' := [(1, .long (0 : Int64)), (0, .ref (a 0))]) hx hb dX4_enough_22 rfl hl (by decide) rfl (fun ls hl => ?_)
    refine lv_iconst (v := (0 : Int32)) hx hb dX4_enough_23 (by decide) ?_
    refine lv_istore_n (lv' := [(3, .int (0 : Int32)), (1, .long (0 : Int64)), (0, .ref (a 0))]) hx hb dX4_enough_24 rfl hl (by decide) rfl (fun ls hl => ?_)
    refine hL25 _ (fun S7 z8 H locs ls hF hs hl => ?_) FU q3 (0 : Int64) (0 : Int32) _ _ _ hF hs (lv_sub hl [2, 1, 0] rfl)
    refine lv_lload_n hx hb dX4_enough_55 rfl (lv_at hl 0 rfl) ?_
    refine lv_ldc2 (v := (99999 : Int64)) hx hb hown (hts _ g783) dX4_enough_56 ?_
    refine W.lcmp hx hb dX4_enough_59 ?_
    refine lv_if_le (tgt := 68) hx hb dX4_enough_60 (by decide) (fun hc => ?_) (fun hc => ?_)
    · have hF := (if_pos hc).symm.trans hF
      refine lv_lload_n hx hb dX4_enough_68 rfl (lv_at hl 0 rfl) ?_
      refine lv_l2i hx hb dX4_enough_69 rfl ?_
      exact sx_iret hx hb hr hlk hQ (congrArg Prod.fst (Option.some.inj hF)) (congrArg (fun z => WX G a z) (congrArg Prod.snd (Option.some.inj hF))) hs dX4_enough_70
    · have hF := (if_neg hc).symm.trans hF
      refine lv_bipush (v := (-2 : Int32)) hx hb dX4_enough_63 (by decide) ?_
      refine lv_goto (tgt := 70) hx hb dX4_enough_65 (by decide) ?_
      exact sx_iret hx hb hr hlk hQ (congrArg Prod.fst (Option.some.inj hF)) (congrArg (fun z => WX G a z) (congrArg Prod.snd (Option.some.inj hF))) hs dX4_enough_70
  · have hF := (if_pos hc).symm.trans hF
    refine lv_aload_n hx hb dX4_enough_7 rfl (lv_at hl 0 rfl) ?_
    refine lv_iconst (v := (1 : Int32)) hx hb dX4_enough_8 (by decide) ?_
    obtain ⟨q9, hq9, hF⟩ := bd hF
    refine sx_V (As := [.int (1 : Int32)]) (rest := []) (st1 := [.int q9.1]) (c_X4_none G l a S (1 : Int32) q9 hq9) v_X4_68 ⟨(Nat.le_of_ble_eq_true rfl), (Nat.le_of_ble_eq_true rfl)⟩ hx hb hml hown hts hE hA hs ⟨Nat.le_refl 0, Nat.le_refl 0⟩ 0 rfl rfl rfl rfl rfl hl.1 (Nat.le_of_ble_eq_true rfl) dX4_enough_9 (pmW _) (ws' := WX G a q9.2) (pmW _) (fun H locs hs => ?_)
    exact sx_iret hx hb hr hlk hQ (congrArg Prod.fst (Option.some.inj hF)) (congrArg (fun z => WX G a z) (congrArg Prod.snd (Option.some.inj hF))) hs dX4_enough_12
set_option maxHeartbeats 4000000 in
set_option maxRecDepth 100000 in
theorem c_X4_tenthsOfBoth (G : GT) (l : Launch) (a : Nat → Nat) (S : XS) (x1 : Int32) (x2 : Int32) (r : Int32) (hF : F_X4_tenthsOfBoth S x1 x2 = some r) : MT G l yX4_tenthsOfBoth cX4_tenthsOfBoth 3 (some .int) 1 22 [.ref (a 0), .int x1, .int x2] (WX G a S) (some (.int r)) (WX G a S) := by
  refine MT.of (by decide) (Nat.le_of_ble_eq_true rfl) ?_
  intro p e s m args below meth c A ls hx hb hr hml hown hts hlk hE hA hs hl Q hQ
  have hl : lv_has ls 3 [(0, .ref (a 0)), (1, .int x1), (2, .int x2)] := hl
  unfold F_X4_tenthsOfBoth at hF
  refine lv_aload_n hx hb dX4_tenthsOfBoth_0 rfl (lv_at hl 0 rfl) ?_
  refine fg_X4_19 hx hb hown hts hE hs 0 rfl (v := .ref (a 12)) rfl dX4_tenthsOfBoth_1 ?_
  refine lv_iload_n hx hb dX4_tenthsOfBoth_4 rfl (lv_at hl 1 rfl) ?_
  refine lv_iconst (v := (1 : Int32)) hx hb dX4_tenthsOfBoth_5 (by decide) ?_
  obtain ⟨q1, hq1, hF⟩ := bd hF
  refine sx_N (As := [.int x1, .int (1 : Int32)]) (rest := []) (st1 := [.int q1]) (c_X2_ofShip G l (fun k => a (12 + k)) (x_now S) x1 (1 : Int32) q1 hq1) v_X4_112 ⟨(Nat.le_of_ble_eq_true rfl), (Nat.le_of_ble_eq_true rfl)⟩ hx hb hml hown hts hE hA hs ⟨Nat.le_refl 0, Nat.le_refl 0⟩ 12 rfl rfl rfl rfl rfl hl.1 (Nat.le_of_ble_eq_true rfl) dX4_tenthsOfBoth_6 (pX_now G a S (x_now S)) (ws' := WX G a S) (pX_now G a S (x_now S)) (fun H locs hs => ?_)
  refine lv_aload_n hx hb dX4_tenthsOfBoth_9 rfl (lv_at hl 0 rfl) ?_
  refine fg_X4_19 hx hb hown hts hE hs 0 rfl (v := .ref (a 12)) rfl dX4_tenthsOfBoth_10 ?_
  refine lv_iload_n hx hb dX4_tenthsOfBoth_13 rfl (lv_at hl 2 rfl) ?_
  refine lv_iconst (v := (1 : Int32)) hx hb dX4_tenthsOfBoth_14 (by decide) ?_
  obtain ⟨q2, hq2, hF⟩ := bd hF
  refine sx_N (As := [.int x2, .int (1 : Int32)]) (rest := [.int q1]) (st1 := [.int q2, .int q1]) (c_X2_ofShip G l (fun k => a (12 + k)) (x_now S) x2 (1 : Int32) q2 hq2) v_X4_112 ⟨(Nat.le_of_ble_eq_true rfl), (Nat.le_of_ble_eq_true rfl)⟩ hx hb hml hown hts hE hA hs ⟨Nat.le_refl 0, Nat.le_refl 0⟩ 12 rfl rfl rfl rfl rfl hl.1 (Nat.le_of_ble_eq_true rfl) dX4_tenthsOfBoth_15 (pX_now G a S (x_now S)) (ws' := WX G a S) (pX_now G a S (x_now S)) (fun H locs hs => ?_)
  refine lv_iadd hx hb dX4_tenthsOfBoth_18 ?_
  exact sx_iret hx hb hr hlk hQ (Option.some.inj hF) rfl hs dX4_tenthsOfBoth_19
set_option maxHeartbeats 4000000 in
set_option maxRecDepth 100000 in
theorem c_X4_netWithTenths (G : GT) (l : Launch) (a : Nat → Nat) (S : XS) (x1 : Int32) (x2 : Int32) (x3 : Int32) (r : Int64 × XS) (hF : F_X4_netWithTenths S x1 x2 x3 = some r) : MT G l yX4_netWithTenths cX4_netWithTenths 4 (some .long) 6 142 [.ref (a 0), .int x1, .int x2, .int x3] (WX G a S) (some (.long r.1)) (WX G a r.2) := by
  refine MT.of (by decide) (Nat.le_of_ble_eq_true rfl) ?_
  intro p e s m args below meth c A ls hx hb hr hml hown hts hlk hE hA hs hl Q hQ
  have hl : lv_has ls 4 [(0, .ref (a 0)), (1, .int x1), (2, .int x2), (3, .int x3)] := hl
  unfold F_X4_netWithTenths at hF
  refine lv_aload_n hx hb dX4_netWithTenths_0 rfl (lv_at hl 0 rfl) ?_
  refine fg_X4_26 hx hb hown hts hE hs 0 rfl (v := .ref (a 17)) rfl dX4_netWithTenths_1 ?_
  refine lv_aload_n hx hb dX4_netWithTenths_4 rfl (lv_at hl 0 rfl) ?_
  refine fg_X4_19 hx hb hown hts hE hs 0 rfl (v := .ref (a 12)) rfl dX4_netWithTenths_5 ?_
  obtain ⟨q1, hq1, hF⟩ := bd hF
  obtain ⟨S2, eS2, hF⟩ := nm_some hF
  refine sx_N (As := [.ref (a 12)]) (rest := []) (st1 := []) (c_X1_take G l (fun k => a (17 + k)) (fun k => a (12 + k)) (x_reckoning S) (x_now S) q1 hq1) v_X4_210 ⟨(Nat.le_of_ble_eq_true rfl), (Nat.le_of_ble_eq_true rfl)⟩ hx hb hml hown hts hE hA hs ⟨Nat.le_refl 0, Nat.le_refl 0⟩ 22 rfl rfl rfl rfl rfl hl.1 (Nat.le_of_ble_eq_true rfl) dX4_netWithTenths_8 (pX_reckoning_now G a S (x_reckoning S)) (ws' := WX G a S2) (by subst eS2; exact pX_reckoning_now G a S q1) (fun H locs hs => ?_)
  refine lv_aload_n hx hb dX4_netWithTenths_11 rfl (lv_at hl 0 rfl) ?_
  refine fg_X4_26 hx hb hown hts hE hs 0 rfl (v := .ref (a 17)) rfl dX4_netWithTenths_12 ?_
  refine fg_X4_213 hx hb hown hts hE hs 22 rfl (v := .ref (a 23)) rfl dX4_netWithTenths_15 ?_
  refine lv_iload_n hx hb dX4_netWithTenths_18 rfl (lv_at hl 1 rfl) ?_
  refine lv_iconst (v := (1 : Int32)) hx hb dX4_netWithTenths_19 (by decide) ?_
  refine lv_iload_n hx hb dX4_netWithTenths_20 rfl (lv_at hl 3 rfl) ?_
  obtain ⟨q3, hq3, hF⟩ := bd hF
  obtain ⟨S4, eS4, hF⟩ := nm_some hF
  refine sx_N (As := [.int x1, .int (1 : Int32), .int x3]) (rest := []) (st1 := []) (c_X2_setShip G l (fun k => a (17 + (6 + k))) (r_told (x_reckoning S2)) x1 (1 : Int32) x3 q3 hq3) v_X4_227 ⟨(Nat.le_of_ble_eq_true rfl), (Nat.le_of_ble_eq_true rfl)⟩ hx hb hml hown hts hE hA hs ⟨Nat.le_refl 0, Nat.le_refl 0⟩ 17 rfl rfl rfl rfl rfl hl.1 (Nat.le_of_ble_eq_true rfl) dX4_netWithTenths_21 (pX_reckoning_told G a S2 (r_told (x_reckoning S2))) (ws' := WX G a S4) (by subst eS4; exact pX_reckoning_told G a S2 q3) (fun H locs hs => ?_)
  refine lv_aload_n hx hb dX4_netWithTenths_24 rfl (lv_at hl 0 rfl) ?_
  refine fg_X4_26 hx hb hown hts hE hs 0 rfl (v := .ref (a 17)) rfl dX4_netWithTenths_25 ?_
  refine fg_X4_213 hx hb hown hts hE hs 22 rfl (v := .ref (a 23)) rfl dX4_netWithTenths_28 ?_
  refine lv_iload_n hx hb dX4_netWithTenths_31 rfl (lv_at hl 2 rfl) ?_
  refine lv_iconst (v := (1 : Int32)) hx hb dX4_netWithTenths_32 (by decide) ?_
  refine lv_aload_n hx hb dX4_netWithTenths_33 rfl (lv_at hl 0 rfl) ?_
  refine lv_iload_n hx hb dX4_netWithTenths_34 rfl (lv_at hl 1 rfl) ?_
  refine lv_iload_n hx hb dX4_netWithTenths_35 rfl (lv_at hl 2 rfl) ?_
  obtain ⟨q5, hq5, hF⟩ := bd hF
  refine sx_V (As := [.int x1, .int x2]) (rest := [.int (1 : Int32), .int x2, .ref (a 23)]) (st1 := [.int q5, .int (1 : Int32), .int x2, .ref (a 23)]) (c_X4_tenthsOfBoth G l a S4 x1 x2 q5 hq5) v_X4_200 ⟨(Nat.le_of_ble_eq_true rfl), (Nat.le_of_ble_eq_true rfl)⟩ hx hb hml hown hts hE hA hs ⟨Nat.le_refl 0, Nat.le_refl 0⟩ 0 rfl rfl rfl rfl rfl hl.1 (Nat.le_of_ble_eq_true rfl) dX4_netWithTenths_36 (pmW _) (ws' := WX G a S4) (pmW _) (fun H locs hs => ?_)
  refine lv_iload_n hx hb dX4_netWithTenths_39 rfl (lv_at hl 3 rfl) ?_
  refine lv_isub hx hb dX4_netWithTenths_40 ?_
  obtain ⟨q6, hq6, hF⟩ := bd hF
  obtain ⟨S7, eS7, hF⟩ := nm_some hF
  refine sx_N (As := [.int x2, .int (1 : Int32), .int (q5 - x3)]) (rest := []) (st1 := []) (c_X2_setShip G l (fun k => a (17 + (6 + k))) (r_told (x_reckoning S4)) x2 (1 : Int32) (q5 - x3) q6 hq6) v_X4_227 ⟨(Nat.le_of_ble_eq_true rfl), (Nat.le_of_ble_eq_true rfl)⟩ hx hb hml hown hts hE hA hs ⟨Nat.le_refl 0, Nat.le_refl 0⟩ 17 rfl rfl rfl rfl rfl hl.1 (Nat.le_of_ble_eq_true rfl) dX4_netWithTenths_41 (pX_reckoning_told G a S4 (r_told (x_reckoning S4))) (ws' := WX G a S7) (by subst eS7; exact pX_reckoning_told G a S4 q6) (fun H locs hs => ?_)
  refine lv_aload_n hx hb dX4_netWithTenths_44 rfl (lv_at hl 0 rfl) ?_
  refine fg_X4_26 hx hb hown hts hE hs 0 rfl (v := .ref (a 17)) rfl dX4_netWithTenths_45 ?_
  obtain ⟨q8, hq8, hF⟩ := bd hF
  obtain ⟨S9, eS9, hF⟩ := nm_some hF
  refine sx_N (As := []) (rest := []) (st1 := []) (c_X1_settle G l (fun k => a (17 + k)) (x_reckoning S7) q8 hq8) v_X4_218 ⟨(Nat.le_of_ble_eq_true rfl), (Nat.le_of_ble_eq_true rfl)⟩ hx hb hml hown hts hE hA hs ⟨Nat.le_refl 0, Nat.le_refl 0⟩ 22 rfl rfl rfl rfl rfl hl.1 (Nat.le_of_ble_eq_true rfl) dX4_netWithTenths_48 (pX_reckoning G a S7 (x_reckoning S7)) (ws' := WX G a S9) (by subst eS9; exact pX_reckoning G a S7 q8) (fun H locs hs => ?_)
  refine lv_aload_n hx hb dX4_netWithTenths_51 rfl (lv_at hl 0 rfl) ?_
  refine fg_X4_26 hx hb hown hts hE hs 0 rfl (v := .ref (a 17)) rfl dX4_netWithTenths_52 ?_
  refine lv_iload_n hx hb dX4_netWithTenths_55 rfl (lv_at hl 1 rfl) ?_
  obtain ⟨q10, hq10, hF⟩ := bd hF
  refine sx_N (As := [.int x1]) (rest := []) (st1 := [.long q10]) (c_X1_netOf G l (fun k => a (17 + k)) (x_reckoning S9) x1 q10 hq10) v_X4_183 ⟨(Nat.le_of_ble_eq_true rfl), (Nat.le_of_ble_eq_true rfl)⟩ hx hb hml hown hts hE hA hs ⟨Nat.le_refl 0, Nat.le_refl 0⟩ 22 rfl rfl rfl rfl rfl hl.1 (Nat.le_of_ble_eq_true rfl) dX4_netWithTenths_56 (pX_reckoning G a S9 (x_reckoning S9)) (ws' := WX G a S9) (pX_reckoning G a S9 (x_reckoning S9)) (fun H locs hs => ?_)
  exact sx_lret hx hb hr hlk hQ (congrArg Prod.fst (Option.some.inj hF)) (congrArg (fun z => WX G a z) (congrArg Prod.snd (Option.some.inj hF))) hs dX4_netWithTenths_59
set_option maxHeartbeats 4000000 in
set_option maxRecDepth 100000 in
theorem c_X4_would (G : GT) (l : Launch) (a : Nat → Nat) (S : XS) (x1 : Int32) (x2 : Int32) (x3 : Int32) (r : Int64 × XS) (hF : F_X4_would S x1 x2 x3 = some r) : MT G l yX4_would cX4_would 4 (some .long) 7 165 [.ref (a 0), .int x1, .int x2, .int x3] (WX G a S) (some (.long r.1)) (WX G a r.2) := by
  refine MT.of (by decide) (Nat.le_of_ble_eq_true rfl) ?_
  intro p e s m args below meth c A ls hx hb hr hml hown hts hlk hE hA hs hl Q hQ
  have hl : lv_has ls 4 [(0, .ref (a 0)), (1, .int x1), (2, .int x2), (3, .int x3)] := hl
  have hJ16_n : ∀ (S : XS) (H : Heap) (locs : List Loc) (ls : Array Slot), J_X4_would_16 S = some r → SI G A s H locs (WX G a S) → lv_has ls 4 [(0, .ref (a 0))] → W p l e (RM 7 165) s m args below meth c H locs 0 0 Q (F0 m 16 ls []) := by
    intro S H locs ls hF hs hl
    unfold J_X4_would_16 at hF
    refine lv_aload_n hx hb dX4_would_16 rfl (lv_at hl 0 rfl) ?_
    refine lv_iconst (v := (1 : Int32)) hx hb dX4_would_17 (by decide) ?_
    obtain ⟨q2, hq2, hF⟩ := bd hF
    refine sx_V (As := [.int (1 : Int32)]) (rest := []) (st1 := [.long q2.1]) (c_X4_nothing G l a S (1 : Int32) q2 hq2) v_X4_180 ⟨(Nat.le_of_ble_eq_true rfl), (Nat.le_of_ble_eq_true rfl)⟩ hx hb hml hown hts hE hA hs ⟨Nat.le_refl 0, Nat.le_refl 0⟩ 0 rfl rfl rfl rfl rfl hl.1 (Nat.le_of_ble_eq_true rfl) dX4_would_18 (pmW _) (ws' := WX G a q2.2) (pmW _) (fun H locs hs => ?_)
    exact sx_lret hx hb hr hlk hQ (congrArg Prod.fst (Option.some.inj hF)) (congrArg (fun z => WX G a z) (congrArg Prod.snd (Option.some.inj hF))) hs dX4_would_21
  unfold F_X4_would at hF
  refine lv_aload_n hx hb dX4_would_0 rfl (lv_at hl 0 rfl) ?_
  refine lv_iload_n hx hb dX4_would_1 rfl (lv_at hl 1 rfl) ?_
  obtain ⟨q1, hq1, hF⟩ := bd hF
  refine sx_V (As := [.int x1]) (rest := []) (st1 := [.int q1]) (c_X4_hasShip G l a S x1 q1 hq1) v_X4_105 ⟨(Nat.le_of_ble_eq_true rfl), (Nat.le_of_ble_eq_true rfl)⟩ hx hb hml hown hts hE hA hs ⟨Nat.le_refl 0, Nat.le_refl 0⟩ 0 rfl rfl rfl rfl rfl hl.1 (Nat.le_of_ble_eq_true rfl) dX4_would_2 (pmW _) (ws' := WX G a S) (pmW _) (fun H locs hs => ?_)
  refine lv_if_eq (tgt := 16) hx hb dX4_would_5 (by decide) (fun hc => ?_) (fun hc => ?_)
  · have hF := (if_pos hc).symm.trans hF
    exact hJ16_n S _ _ _ hF hs (lv_sub hl [0] rfl)
  · have hF := (if_neg hc).symm.trans hF
    refine lv_aload_n hx hb dX4_would_8 rfl (lv_at hl 0 rfl) ?_
    refine lv_iload_n hx hb dX4_would_9 rfl (lv_at hl 2 rfl) ?_
    obtain ⟨q3, hq3, hF⟩ := bd hF
    refine sx_V (As := [.int x2]) (rest := []) (st1 := [.int q3]) (c_X4_hasShip G l a S x2 q3 hq3) v_X4_105 ⟨(Nat.le_of_ble_eq_true rfl), (Nat.le_of_ble_eq_true rfl)⟩ hx hb hml hown hts hE hA hs ⟨Nat.le_refl 0, Nat.le_refl 0⟩ 0 rfl rfl rfl rfl rfl hl.1 (Nat.le_of_ble_eq_true rfl) dX4_would_10 (pmW _) (ws' := WX G a S) (pmW _) (fun H locs hs => ?_)
    refine lv_if_ne (tgt := 22) hx hb dX4_would_13 (by decide) (fun hc => ?_) (fun hc => ?_)
    · have hF := (if_neg hc).symm.trans hF
      refine lv_iload_n hx hb dX4_would_22 rfl (lv_at hl 1 rfl) ?_
      refine lv_iload_n hx hb dX4_would_23 rfl (lv_at hl 2 rfl) ?_
      refine lv_icmp_ne (tgt := 33) hx hb dX4_would_24 (by decide) (fun hc => ?_) (fun hc => ?_)
      · have hF := (if_neg hc).symm.trans hF
        refine lv_iload_n hx hb dX4_would_33 rfl (lv_at hl 3 rfl) ?_
        refine lv_iconst (v := (0 : Int32)) hx hb dX4_would_34 (by decide) ?_
        refine lv_aload_n hx hb dX4_would_35 rfl (lv_at hl 0 rfl) ?_
        refine lv_iload_n hx hb dX4_would_36 rfl (lv_at hl 1 rfl) ?_
        refine lv_iload_n hx hb dX4_would_37 rfl (lv_at hl 2 rfl) ?_
        obtain ⟨q4, hq4, hF⟩ := bd hF
        refine sx_V (As := [.int x1, .int x2]) (rest := [.int (0 : Int32), .int x3]) (st1 := [.int q4, .int (0 : Int32), .int x3]) (c_X4_tenthsOfBoth G l a S x1 x2 q4 hq4) v_X4_200 ⟨(Nat.le_of_ble_eq_true rfl), (Nat.le_of_ble_eq_true rfl)⟩ hx hb hml hown hts hE hA hs ⟨Nat.le_refl 0, Nat.le_refl 0⟩ 0 rfl rfl rfl rfl rfl hl.1 (Nat.le_of_ble_eq_true rfl) dX4_would_38 (pmW _) (ws' := WX G a S) (pmW _) (fun H locs hs => ?_)
        obtain ⟨q5, hq5, hF⟩ := bd hF
        refine sx_S (As := [.int x3, .int (0 : Int32), .int q4]) (rest := []) (st1 := [.int q5]) (c_X4_within G l  x3 (0 : Int32) q4 q5 hq5) v_X4_64 ⟨(Nat.le_of_ble_eq_true rfl), (Nat.le_of_ble_eq_true rfl)⟩ hx hb hml hown hts hE hA hs ⟨Nat.le_refl 0, Nat.le_refl 0⟩ rfl rfl rfl hl.1 (Nat.le_of_ble_eq_true rfl) dX4_would_41 (List.Perm.refl _) (ws' := WX G a S) (List.Perm.refl _) (fun H locs hs => ?_)
        refine lv_if_ne (tgt := 53) hx hb dX4_would_44 (by decide) (fun hc => ?_) (fun hc => ?_)
        · have hF := (if_neg hc).symm.trans hF
          refine lv_aload_n hx hb dX4_would_53 rfl (lv_at hl 0 rfl) ?_
          obtain ⟨q6, hq6, hF⟩ := bd hF
          refine sx_V (As := []) (rest := []) (st1 := []) (c_X4_accept G l a S q6 hq6) v_X4_78 ⟨(Nat.le_of_ble_eq_true rfl), (Nat.le_of_ble_eq_true rfl)⟩ hx hb hml hown hts hE hA hs ⟨Nat.le_refl 0, Nat.le_refl 0⟩ 0 rfl rfl rfl rfl rfl hl.1 (Nat.le_of_ble_eq_true rfl) dX4_would_54 (pmW _) (ws' := WX G a q6) (pmW _) (fun H locs hs => ?_)
          refine lv_aload_n hx hb dX4_would_57 rfl (lv_at hl 0 rfl) ?_
          refine lv_iload_n hx hb dX4_would_58 rfl (lv_at hl 1 rfl) ?_
          refine lv_iload_n hx hb dX4_would_59 rfl (lv_at hl 2 rfl) ?_
          refine lv_iload_n hx hb dX4_would_60 rfl (lv_at hl 3 rfl) ?_
          obtain ⟨q7, hq7, hF⟩ := bd hF
          refine sx_V (As := [.int x1, .int x2, .int x3]) (rest := []) (st1 := [.long q7.1]) (c_X4_netWithTenths G l a q6 x1 x2 x3 q7 hq7) v_X4_203 ⟨(Nat.le_of_ble_eq_true rfl), (Nat.le_of_ble_eq_true rfl)⟩ hx hb hml hown hts hE hA hs ⟨Nat.le_refl 0, Nat.le_refl 0⟩ 0 rfl rfl rfl rfl rfl hl.1 (Nat.le_of_ble_eq_true rfl) dX4_would_61 (pmW _) (ws' := WX G a q7.2) (pmW _) (fun H locs hs => ?_)
          exact sx_lret hx hb hr hlk hQ (congrArg Prod.fst (Option.some.inj hF)) (congrArg (fun z => WX G a z) (congrArg Prod.snd (Option.some.inj hF))) hs dX4_would_64
        · have hF := (if_pos hc).symm.trans hF
          refine lv_aload_n hx hb dX4_would_47 rfl (lv_at hl 0 rfl) ?_
          refine lv_iconst (v := (2 : Int32)) hx hb dX4_would_48 (by decide) ?_
          obtain ⟨q8, hq8, hF⟩ := bd hF
          refine sx_V (As := [.int (2 : Int32)]) (rest := []) (st1 := [.long q8.1]) (c_X4_nothing G l a S (2 : Int32) q8 hq8) v_X4_180 ⟨(Nat.le_of_ble_eq_true rfl), (Nat.le_of_ble_eq_true rfl)⟩ hx hb hml hown hts hE hA hs ⟨Nat.le_refl 0, Nat.le_refl 0⟩ 0 rfl rfl rfl rfl rfl hl.1 (Nat.le_of_ble_eq_true rfl) dX4_would_49 (pmW _) (ws' := WX G a q8.2) (pmW _) (fun H locs hs => ?_)
          exact sx_lret hx hb hr hlk hQ (congrArg Prod.fst (Option.some.inj hF)) (congrArg (fun z => WX G a z) (congrArg Prod.snd (Option.some.inj hF))) hs dX4_would_52
      · have hF := (if_pos hc).symm.trans hF
        refine lv_aload_n hx hb dX4_would_27 rfl (lv_at hl 0 rfl) ?_
        refine lv_iconst (v := (5 : Int32)) hx hb dX4_would_28 (by decide) ?_
        obtain ⟨q9, hq9, hF⟩ := bd hF
        refine sx_V (As := [.int (5 : Int32)]) (rest := []) (st1 := [.long q9.1]) (c_X4_nothing G l a S (5 : Int32) q9 hq9) v_X4_180 ⟨(Nat.le_of_ble_eq_true rfl), (Nat.le_of_ble_eq_true rfl)⟩ hx hb hml hown hts hE hA hs ⟨Nat.le_refl 0, Nat.le_refl 0⟩ 0 rfl rfl rfl rfl rfl hl.1 (Nat.le_of_ble_eq_true rfl) dX4_would_29 (pmW _) (ws' := WX G a q9.2) (pmW _) (fun H locs hs => ?_)
        exact sx_lret hx hb hr hlk hQ (congrArg Prod.fst (Option.some.inj hF)) (congrArg (fun z => WX G a z) (congrArg Prod.snd (Option.some.inj hF))) hs dX4_would_32
    · have hF := (if_pos hc).symm.trans hF
      exact hJ16_n S _ _ _ hF hs (lv_sub hl [0] rfl)
set_option maxHeartbeats 4000000 in
set_option maxRecDepth 100000 in
theorem c_X4_worse (G : GT) (l : Launch) (a : Nat → Nat) (S : XS) (x1 : Int32) (x2 : Int32) (x3 : Int32) (r : Int32 × XS) (hF : F_X4_worse S x1 x2 x3 = some r) : MT G l yX4_worse cX4_worse 6 (some .int) 7 165 [.ref (a 0), .int x1, .int x2, .int x3] (WX G a S) (some (.int r.1)) (WX G a r.2) := by
  refine MT.of (by decide) (Nat.le_of_ble_eq_true rfl) ?_
  intro p e s m args below meth c A ls hx hb hr hml hown hts hlk hE hA hs hl Q hQ
  have hl : lv_has ls 6 [(0, .ref (a 0)), (1, .int x1), (2, .int x2), (3, .int x3)] := hl
  have hJ16_n : ∀ (S : XS) (H : Heap) (locs : List Loc) (ls : Array Slot), J_X4_worse_16 S = some r → SI G A s H locs (WX G a S) → lv_has ls 6 [(0, .ref (a 0))] → W p l e (RM 7 165) s m args below meth c H locs 0 0 Q (F0 m 16 ls []) := by
    intro S H locs ls hF hs hl
    unfold J_X4_worse_16 at hF
    refine lv_aload_n hx hb dX4_worse_16 rfl (lv_at hl 0 rfl) ?_
    refine lv_iconst (v := (1 : Int32)) hx hb dX4_worse_17 (by decide) ?_
    obtain ⟨q2, hq2, hF⟩ := bd hF
    refine sx_V (As := [.int (1 : Int32)]) (rest := []) (st1 := [.int q2.1]) (c_X4_none G l a S (1 : Int32) q2 hq2) v_X4_68 ⟨(Nat.le_of_ble_eq_true rfl), (Nat.le_of_ble_eq_true rfl)⟩ hx hb hml hown hts hE hA hs ⟨Nat.le_refl 0, Nat.le_refl 0⟩ 0 rfl rfl rfl rfl rfl hl.1 (Nat.le_of_ble_eq_true rfl) dX4_worse_18 (pmW _) (ws' := WX G a q2.2) (pmW _) (fun H locs hs => ?_)
    exact sx_iret hx hb hr hlk hQ (congrArg Prod.fst (Option.some.inj hF)) (congrArg (fun z => WX G a z) (congrArg Prod.snd (Option.some.inj hF))) hs dX4_worse_21
  have hL65 : ∀ (x1 : Int32) (x2 : Int32) (x3 : Int32) (x4 : Int32) (k : XS → Option (Int32 × XS)) (hk : ∀ (S : XS) (H : Heap) (locs : List Loc) (ls : Array Slot), k S = some r → SI G A s H locs (WX G a S) → lv_has ls 6 [] → W p l e (RM 7 165) s m args below meth c H locs 0 0 Q (F0 m 95 ls [])) (fu : Nat) (S : XS) (x5 : Int32) (H : Heap) (locs : List Loc) (ls : Array Slot), lo2 (B_X4_worse_65 x1 x2 x3 x4 k) fu S x5 = some r → SI G A s H locs (WX G a S) → lv_has ls 6 [(0, .ref (a 0)), (1, .int x1), (2, .int x2), (3, .int x3), (4, .int x4), (5, .int x5)] → W p l e (RM 7 165) s m args below meth c H locs 0 0 Q (F0 m 65 ls []) := by
    intro x1 x2 x3 x4 k hk fu
    induction fu with
    | zero =>
      intro S x5 H locs ls hF hs hl
      exact nomatch (show (none : Option (Int32 × XS)) = some r from hF)
    | succ fu hrec =>
      intro S x5 H locs ls hF hs hl
      have hF : (B_X4_worse_65 x1 x2 x3 x4 k) (lo2 (B_X4_worse_65 x1 x2 x3 x4 k) fu) S x5 = some r := hF
      unfold B_X4_worse_65 at hF
      refine lv_iload hx hb dX4_worse_65 (lv_at hl 5 rfl) ?_
      refine lv_iload hx hb dX4_worse_67 (lv_at hl 4 rfl) ?_
      refine lv_icmp_gt (tgt := 95) hx hb dX4_worse_69 (by decide) (fun hc => ?_) (fun hc => ?_)
      · have hF := (if_pos hc).symm.trans hF
        exact hk S _ _ _ hF hs (lv_sub hl [] rfl)
      · have hF := (if_neg hc).symm.trans hF
        refine lv_aload_n hx hb dX4_worse_72 rfl (lv_at hl 0 rfl) ?_
        refine lv_iload_n hx hb dX4_worse_73 rfl (lv_at hl 1 rfl) ?_
        refine lv_iload_n hx hb dX4_worse_74 rfl (lv_at hl 2 rfl) ?_
        refine lv_iload hx hb dX4_worse_75 (lv_at hl 5 rfl) ?_
        obtain ⟨q7, hq7, hF⟩ := bd hF
        refine sx_V (As := [.int x1, .int x2, .int x5]) (rest := []) (st1 := [.long q7.1]) (c_X4_netWithTenths G l a S x1 x2 x5 q7 hq7) v_X4_203 ⟨(Nat.le_of_ble_eq_true rfl), (Nat.le_of_ble_eq_true rfl)⟩ hx hb hml hown hts hE hA hs ⟨Nat.le_refl 0, Nat.le_refl 0⟩ 0 rfl rfl rfl rfl rfl hl.1 (Nat.le_of_ble_eq_true rfl) dX4_worse_77 (pmW _) (ws' := WX G a q7.2) (pmW _) (fun H locs hs => ?_)
        refine lv_iload_n hx hb dX4_worse_80 rfl (lv_at hl 3 rfl) ?_
        refine lv_i2l hx hb dX4_worse_81 rfl ?_
        refine W.lcmp hx hb dX4_worse_82 ?_
        refine lv_if_ge (tgt := 89) hx hb dX4_worse_83 (by decide) (fun hc => ?_) (fun hc => ?_)
        · have hF := (if_pos hc).symm.trans hF
          obtain ⟨v8, ev8, hF⟩ := nm_some hF
          refine lv_iinc (v := v8) (lv' := [(5, .int v8), (0, .ref (a 0)), (1, .int x1), (2, .int x2), (3, .int x3), (4, .int x4)]) hx hb dX4_worse_89 hl (k := 5) rfl (by rw [ev8]; rfl) (by decide) rfl (fun ls hl => ?_)
          refine lv_goto (tgt := 65) hx hb dX4_worse_92 (by decide) ?_
          exact hrec q7.2 v8 _ _ _ hF hs (lv_sub hl [1, 2, 3, 4, 5, 0] rfl)
        · have hF := (if_neg hc).symm.trans hF
          refine lv_iload hx hb dX4_worse_86 (lv_at hl 5 rfl) ?_
          exact sx_iret hx hb hr hlk hQ (congrArg Prod.fst (Option.some.inj hF)) (congrArg (fun z => WX G a z) (congrArg Prod.snd (Option.some.inj hF))) hs dX4_worse_88
  unfold F_X4_worse at hF
  refine lv_aload_n hx hb dX4_worse_0 rfl (lv_at hl 0 rfl) ?_
  refine lv_iload_n hx hb dX4_worse_1 rfl (lv_at hl 1 rfl) ?_
  obtain ⟨q1, hq1, hF⟩ := bd hF
  refine sx_V (As := [.int x1]) (rest := []) (st1 := [.int q1]) (c_X4_hasShip G l a S x1 q1 hq1) v_X4_105 ⟨(Nat.le_of_ble_eq_true rfl), (Nat.le_of_ble_eq_true rfl)⟩ hx hb hml hown hts hE hA hs ⟨Nat.le_refl 0, Nat.le_refl 0⟩ 0 rfl rfl rfl rfl rfl hl.1 (Nat.le_of_ble_eq_true rfl) dX4_worse_2 (pmW _) (ws' := WX G a S) (pmW _) (fun H locs hs => ?_)
  refine lv_if_eq (tgt := 16) hx hb dX4_worse_5 (by decide) (fun hc => ?_) (fun hc => ?_)
  · have hF := (if_pos hc).symm.trans hF
    exact hJ16_n S _ _ _ hF hs (lv_sub hl [0] rfl)
  · have hF := (if_neg hc).symm.trans hF
    refine lv_aload_n hx hb dX4_worse_8 rfl (lv_at hl 0 rfl) ?_
    refine lv_iload_n hx hb dX4_worse_9 rfl (lv_at hl 2 rfl) ?_
    obtain ⟨q3, hq3, hF⟩ := bd hF
    refine sx_V (As := [.int x2]) (rest := []) (st1 := [.int q3]) (c_X4_hasShip G l a S x2 q3 hq3) v_X4_105 ⟨(Nat.le_of_ble_eq_true rfl), (Nat.le_of_ble_eq_true rfl)⟩ hx hb hml hown hts hE hA hs ⟨Nat.le_refl 0, Nat.le_refl 0⟩ 0 rfl rfl rfl rfl rfl hl.1 (Nat.le_of_ble_eq_true rfl) dX4_worse_10 (pmW _) (ws' := WX G a S) (pmW _) (fun H locs hs => ?_)
    refine lv_if_ne (tgt := 22) hx hb dX4_worse_13 (by decide) (fun hc => ?_) (fun hc => ?_)
    · have hF := (if_neg hc).symm.trans hF
      refine lv_iload_n hx hb dX4_worse_22 rfl (lv_at hl 3 rfl) ?_
      refine lv_ldc (v := (-1000000000 : Int32)) hx hb hown (hts _ g801) dX4_worse_23 ?_
      refine lv_ldc (v := (1000000000 : Int32)) hx hb hown (hts _ g802) dX4_worse_25 ?_
      obtain ⟨q4, hq4, hF⟩ := bd hF
      refine sx_S (As := [.int x3, .int (-1000000000 : Int32), .int (1000000000 : Int32)]) (rest := []) (st1 := [.int q4]) (c_X4_within G l  x3 (-1000000000 : Int32) (1000000000 : Int32) q4 hq4) v_X4_64 ⟨(Nat.le_of_ble_eq_true rfl), (Nat.le_of_ble_eq_true rfl)⟩ hx hb hml hown hts hE hA hs ⟨Nat.le_refl 0, Nat.le_refl 0⟩ rfl rfl rfl hl.1 (Nat.le_of_ble_eq_true rfl) dX4_worse_27 (List.Perm.refl _) (ws' := WX G a S) (List.Perm.refl _) (fun H locs hs => ?_)
      refine lv_if_ne (tgt := 39) hx hb dX4_worse_30 (by decide) (fun hc => ?_) (fun hc => ?_)
      · have hF := (if_neg hc).symm.trans hF
        refine lv_iload_n hx hb dX4_worse_39 rfl (lv_at hl 1 rfl) ?_
        refine lv_iload_n hx hb dX4_worse_40 rfl (lv_at hl 2 rfl) ?_
        refine lv_icmp_ne (tgt := 50) hx hb dX4_worse_41 (by decide) (fun hc => ?_) (fun hc => ?_)
        · have hF := (if_neg hc).symm.trans hF
          refine lv_aload_n hx hb dX4_worse_50 rfl (lv_at hl 0 rfl) ?_
          obtain ⟨q5, hq5, hF⟩ := bd hF
          refine sx_V (As := []) (rest := []) (st1 := []) (c_X4_accept G l a S q5 hq5) v_X4_78 ⟨(Nat.le_of_ble_eq_true rfl), (Nat.le_of_ble_eq_true rfl)⟩ hx hb hml hown hts hE hA hs ⟨Nat.le_refl 0, Nat.le_refl 0⟩ 0 rfl rfl rfl rfl rfl hl.1 (Nat.le_of_ble_eq_true rfl) dX4_worse_51 (pmW _) (ws' := WX G a q5) (pmW _) (fun H locs hs => ?_)
          refine lv_aload_n hx hb dX4_worse_54 rfl (lv_at hl 0 rfl) ?_
          refine lv_iload_n hx hb dX4_worse_55 rfl (lv_at hl 1 rfl) ?_
          refine lv_iload_n hx hb dX4_worse_56 rfl (lv_at hl 2 rfl) ?_
          obtain ⟨q6, hq6, hF⟩ := bd hF
          refine sx_V (As := [.int x1, .int x2]) (rest := []) (st1 := [.int q6]) (c_X4_tenthsOfBoth G l a q5 x1 x2 q6 hq6) v_X4_200 ⟨(Nat.le_of_ble_eq_true rfl), (Nat.le_of_ble_eq_true rfl)⟩ hx hb hml hown hts hE hA hs ⟨Nat.le_refl 0, Nat.le_refl 0⟩ 0 rfl rfl rfl rfl rfl hl.1 (Nat.le_of_ble_eq_true rfl) dX4_worse_57 (pmW _) (ws' := WX G a q5) (pmW _) (fun H locs hs => ?_)
          refine lv_istore (lv' := [(4, .int q6), (0, .ref (a 0)), (1, .int x1), (2, .int x2), (3, .int x3)]) hx hb dX4_worse_60 hl (by decide) rfl (fun ls hl => ?_)
          refine lv_iconst (v := (0 : Int32)) hx hb dX4_worse_62 (by decide) ?_
          refine lv_istore (lv' := [(5, .int (0 : Int32)), (4, .int q6), (0, .ref (a 0)), (1, .int x1), (2, .int x2), (3, .int x3)]) hx hb dX4_worse_63 hl (by decide) rfl (fun ls hl => ?_)
          refine hL65 x1 x2 x3 q6 _ (fun S9 H locs ls hF hs hl => ?_) FU q5 (0 : Int32) _ _ _ hF hs (lv_sub hl [2, 3, 4, 5, 1, 0] rfl)
          refine lv_bipush (v := (-2 : Int32)) hx hb dX4_worse_95 (by decide) ?_
          exact sx_iret hx hb hr hlk hQ (congrArg Prod.fst (Option.some.inj hF)) (congrArg (fun z => WX G a z) (congrArg Prod.snd (Option.some.inj hF))) hs dX4_worse_97
        · have hF := (if_pos hc).symm.trans hF
          refine lv_aload_n hx hb dX4_worse_44 rfl (lv_at hl 0 rfl) ?_
          refine lv_iconst (v := (5 : Int32)) hx hb dX4_worse_45 (by decide) ?_
          obtain ⟨q10, hq10, hF⟩ := bd hF
          refine sx_V (As := [.int (5 : Int32)]) (rest := []) (st1 := [.int q10.1]) (c_X4_none G l a S (5 : Int32) q10 hq10) v_X4_68 ⟨(Nat.le_of_ble_eq_true rfl), (Nat.le_of_ble_eq_true rfl)⟩ hx hb hml hown hts hE hA hs ⟨Nat.le_refl 0, Nat.le_refl 0⟩ 0 rfl rfl rfl rfl rfl hl.1 (Nat.le_of_ble_eq_true rfl) dX4_worse_46 (pmW _) (ws' := WX G a q10.2) (pmW _) (fun H locs hs => ?_)
          exact sx_iret hx hb hr hlk hQ (congrArg Prod.fst (Option.some.inj hF)) (congrArg (fun z => WX G a z) (congrArg Prod.snd (Option.some.inj hF))) hs dX4_worse_49
      · have hF := (if_pos hc).symm.trans hF
        refine lv_aload_n hx hb dX4_worse_33 rfl (lv_at hl 0 rfl) ?_
        refine lv_iconst (v := (2 : Int32)) hx hb dX4_worse_34 (by decide) ?_
        obtain ⟨q11, hq11, hF⟩ := bd hF
        refine sx_V (As := [.int (2 : Int32)]) (rest := []) (st1 := [.int q11.1]) (c_X4_none G l a S (2 : Int32) q11 hq11) v_X4_68 ⟨(Nat.le_of_ble_eq_true rfl), (Nat.le_of_ble_eq_true rfl)⟩ hx hb hml hown hts hE hA hs ⟨Nat.le_refl 0, Nat.le_refl 0⟩ 0 rfl rfl rfl rfl rfl hl.1 (Nat.le_of_ble_eq_true rfl) dX4_worse_35 (pmW _) (ws' := WX G a q11.2) (pmW _) (fun H locs hs => ?_)
        exact sx_iret hx hb hr hlk hQ (congrArg Prod.fst (Option.some.inj hF)) (congrArg (fun z => WX G a z) (congrArg Prod.snd (Option.some.inj hF))) hs dX4_worse_38
    · have hF := (if_pos hc).symm.trans hF
      exact hJ16_n S _ _ _ hF hs (lv_sub hl [0] rfl)
set_option maxHeartbeats 4000000 in
set_option maxRecDepth 100000 in
theorem c_X4_judged (G : GT) (l : Launch) (a : Nat → Nat) (S : XS) (x1 : Int32) (x2 : Int32) (x3 : Int32) (x4 : Int32) (r : Int64 × XS) (hF : F_X4_judged S x1 x2 x3 x4 = some r) : MT G l yX4_judged cX4_judged 16 (some .long) 6 142 [.ref (a 0), .int x1, .int x2, .int x3, .int x4] (WX G a S) (some (.long r.1)) (WX G a r.2) := by
  refine MT.of (by decide) (Nat.le_of_ble_eq_true rfl) ?_
  intro p e s m args below meth c A ls hx hb hr hml hown hts hlk hE hA hs hl Q hQ
  have hl : lv_has ls 16 [(0, .ref (a 0)), (1, .int x1), (2, .int x2), (3, .int x3), (4, .int x4)] := hl
  have hJ18_n : ∀ (S : XS) (H : Heap) (locs : List Loc) (ls : Array Slot), J_X4_judged_18 S = some r → SI G A s H locs (WX G a S) → lv_has ls 16 [(0, .ref (a 0))] → W p l e (RM 6 142) s m args below meth c H locs 0 0 Q (F0 m 18 ls []) := by
    intro S H locs ls hF hs hl
    unfold J_X4_judged_18 at hF
    refine lv_aload_n hx hb dX4_judged_18 rfl (lv_at hl 0 rfl) ?_
    refine lv_iconst (v := (1 : Int32)) hx hb dX4_judged_19 (by decide) ?_
    obtain ⟨q2, hq2, hF⟩ := bd hF
    refine sx_V (As := [.int (1 : Int32)]) (rest := []) (st1 := [.long q2.1]) (c_X4_nothing G l a S (1 : Int32) q2 hq2) v_X4_180 ⟨(Nat.le_of_ble_eq_true rfl), (Nat.le_of_ble_eq_true rfl)⟩ hx hb hml hown hts hE hA hs ⟨Nat.le_refl 0, Nat.le_refl 0⟩ 0 rfl rfl rfl rfl rfl hl.1 (Nat.le_of_ble_eq_true rfl) dX4_judged_20 (pmW _) (ws' := WX G a q2.2) (pmW _) (fun H locs hs => ?_)
    exact sx_lret hx hb hr hlk hQ (congrArg Prod.fst (Option.some.inj hF)) (congrArg (fun z => WX G a z) (congrArg Prod.snd (Option.some.inj hF))) hs dX4_judged_23
  have hJ44_n : ∀ (S : XS) (H : Heap) (locs : List Loc) (ls : Array Slot), J_X4_judged_44 S = some r → SI G A s H locs (WX G a S) → lv_has ls 16 [(0, .ref (a 0))] → W p l e (RM 6 142) s m args below meth c H locs 0 0 Q (F0 m 44 ls []) := by
    intro S H locs ls hF hs hl
    unfold J_X4_judged_44 at hF
    refine lv_aload_n hx hb dX4_judged_44 rfl (lv_at hl 0 rfl) ?_
    refine lv_iconst (v := (2 : Int32)) hx hb dX4_judged_45 (by decide) ?_
    obtain ⟨q5, hq5, hF⟩ := bd hF
    refine sx_V (As := [.int (2 : Int32)]) (rest := []) (st1 := [.long q5.1]) (c_X4_nothing G l a S (2 : Int32) q5 hq5) v_X4_180 ⟨(Nat.le_of_ble_eq_true rfl), (Nat.le_of_ble_eq_true rfl)⟩ hx hb hml hown hts hE hA hs ⟨Nat.le_refl 0, Nat.le_refl 0⟩ 0 rfl rfl rfl rfl rfl hl.1 (Nat.le_of_ble_eq_true rfl) dX4_judged_46 (pmW _) (ws' := WX G a q5.2) (pmW _) (fun H locs hs => ?_)
    exact sx_lret hx hb hr hlk hQ (congrArg Prod.fst (Option.some.inj hF)) (congrArg (fun z => WX G a z) (congrArg Prod.snd (Option.some.inj hF))) hs dX4_judged_49
  have hJ161_81 : ∀ (x1 : Int32) (x3 : Int32) (x4 : Int32) (k : XS → Int64 → Int64 → Int64 → Option (Int64 × XS)) (rc : XS → Int64 → Int64 → Int64 → Int64 → Int32 → Option (Int64 × XS)) (hk : ∀ (S : XS) (x7 : Int64) (x9 : Int64) (x11 : Int64) (H : Heap) (locs : List Loc) (ls : Array Slot), k S x7 x9 x11 = some r → SI G A s H locs (WX G a S) → lv_has ls 16 [(4, .int x4), (7, .long x7), (9, .long x9), (11, .long x11)] → W p l e (RM 6 142) s m args below meth c H locs 0 0 Q (F0 m 169 ls [])) (hrec : ∀ (S : XS) (x5 : Int64) (x7 : Int64) (x9 : Int64) (x11 : Int64) (x13 : Int32) (H : Heap) (locs : List Loc) (ls : Array Slot), rc S x5 x7 x9 x11 x13 = some r → SI G A s H locs (WX G a S) → lv_has ls 16 [(0, .ref (a 0)), (1, .int x1), (3, .int x3), (4, .int x4), (5, .long x5), (7, .long x7), (9, .long x9), (11, .long x11), (13, .int x13)] → W p l e (RM 6 142) s m args below meth c H locs 0 0 Q (F0 m 81 ls [])) (S : XS) (x5 : Int64) (x7 : Int64) (x9 : Int64) (x13 : Int32) (y0 : Int64) (H : Heap) (locs : List Loc) (ls : Array Slot), J_X4_judged_161 k rc S x1 x3 x4 x5 x7 x9 x13 y0 = some r → SI G A s H locs (WX G a S) → lv_has ls 16 [(0, .ref (a 0)), (1, .int x1), (3, .int x3), (4, .int x4), (5, .long x5), (7, .long x7), (9, .long x9), (13, .int x13)] → W p l e (RM 6 142) s m args below meth c H locs 0 0 Q (F0 m 161 ls [.long y0]) := by
    intro x1 x3 x4 k rc hk hrec S x5 x7 x9 x13 y0 H locs ls hF hs hl
    unfold J_X4_judged_161 at hF
    refine lv_lstore (lv' := [(11, .long y0), (0, .ref (a 0)), (1, .int x1), (3, .int x3), (4, .int x4), (5, .long x5), (7, .long x7), (9, .long x9), (13, .int x13)]) hx hb dX4_judged_161 hl (by decide) rfl (fun ls hl => ?_)
    obtain ⟨v19, ev19, hF⟩ := nm_some hF
    refine lv_iinc (v := v19) (lv' := [(13, .int v19), (11, .long y0), (0, .ref (a 0)), (1, .int x1), (3, .int x3), (4, .int x4), (5, .long x5), (7, .long x7), (9, .long x9)]) hx hb dX4_judged_163 hl (k := 8) rfl (by rw [ev19]; rfl) (by decide) rfl (fun ls hl => ?_)
    refine lv_goto (tgt := 81) hx hb dX4_judged_166 (by decide) ?_
    exact hrec S x5 x7 x9 y0 v19 _ _ _ hF hs (lv_sub hl [2, 3, 4, 5, 6, 7, 8, 1, 0] rfl)
  have hJ142_81 : ∀ (x1 : Int32) (x3 : Int32) (x4 : Int32) (k : XS → Int64 → Int64 → Int64 → Option (Int64 × XS)) (rc : XS → Int64 → Int64 → Int64 → Int64 → Int32 → Option (Int64 × XS)) (hk : ∀ (S : XS) (x7 : Int64) (x9 : Int64) (x11 : Int64) (H : Heap) (locs : List Loc) (ls : Array Slot), k S x7 x9 x11 = some r → SI G A s H locs (WX G a S) → lv_has ls 16 [(4, .int x4), (7, .long x7), (9, .long x9), (11, .long x11)] → W p l e (RM 6 142) s m args below meth c H locs 0 0 Q (F0 m 169 ls [])) (hrec : ∀ (S : XS) (x5 : Int64) (x7 : Int64) (x9 : Int64) (x11 : Int64) (x13 : Int32) (H : Heap) (locs : List Loc) (ls : Array Slot), rc S x5 x7 x9 x11 x13 = some r → SI G A s H locs (WX G a S) → lv_has ls 16 [(0, .ref (a 0)), (1, .int x1), (3, .int x3), (4, .int x4), (5, .long x5), (7, .long x7), (9, .long x9), (11, .long x11), (13, .int x13)] → W p l e (RM 6 142) s m args below meth c H locs 0 0 Q (F0 m 81 ls [])) (S : XS) (x5 : Int64) (x7 : Int64) (x11 : Int64) (x13 : Int32) (x14 : Int64) (y0 : Int64) (H : Heap) (locs : List Loc) (ls : Array Slot), J_X4_judged_142 k rc S x1 x3 x4 x5 x7 x11 x13 x14 y0 = some r → SI G A s H locs (WX G a S) → lv_has ls 16 [(0, .ref (a 0)), (1, .int x1), (3, .int x3), (4, .int x4), (5, .long x5), (7, .long x7), (11, .long x11), (13, .int x13), (14, .long x14)] → W p l e (RM 6 142) s m args below meth c H locs 0 0 Q (F0 m 142 ls [.long y0]) := by
    intro x1 x3 x4 k rc hk hrec S x5 x7 x11 x13 x14 y0 H locs ls hF hs hl
    unfold J_X4_judged_142 at hF
    refine lv_lstore (lv' := [(9, .long y0), (0, .ref (a 0)), (1, .int x1), (3, .int x3), (4, .int x4), (5, .long x5), (7, .long x7), (11, .long x11), (13, .int x13), (14, .long x14)]) hx hb dX4_judged_142 hl (by decide) rfl (fun ls hl => ?_)
    refine lv_iload hx hb dX4_judged_144 (lv_at hl 8 rfl) ?_
    refine lv_if_ne (tgt := 154) hx hb dX4_judged_146 (by decide) (fun hc => ?_) (fun hc => ?_)
    · have hF := (if_neg hc).symm.trans hF
      refine lv_lload hx hb dX4_judged_154 (lv_at hl 7 rfl) ?_
      refine lv_lload hx hb dX4_judged_156 (lv_at hl 9 rfl) ?_
      refine va_mmax_long hx hb (hml.trans hl.1.symm) hown (hts _ g780) (hts _ g781) (hts _ g131) (hts _ g782) (Nat.le_of_ble_eq_true rfl) (Nat.le_of_ble_eq_true rfl) (Nat.le_refl 0) (Nat.le_refl 0) dX4_judged_158 ?_
      obtain ⟨v18, ev18, hF⟩ := nm_some hF
      refine sx_topl ev18 ?_
      exact hJ161_81 x1 x3 x4 _ _ hk hrec S x5 x7 y0 x13 v18 _ _ _ hF hs (lv_sub hl [1, 2, 3, 4, 5, 6, 0, 8] rfl)
    · have hF := (if_pos hc).symm.trans hF
      refine lv_lload hx hb dX4_judged_149 (lv_at hl 9 rfl) ?_
      refine lv_goto (tgt := 161) hx hb dX4_judged_151 (by decide) ?_
      exact hJ161_81 x1 x3 x4 _ _ hk hrec S x5 x7 y0 x13 x14 _ _ _ hF hs (lv_sub hl [1, 2, 3, 4, 5, 6, 0, 8] rfl)
  have hL81 : ∀ (x1 : Int32) (x3 : Int32) (x4 : Int32) (k : XS → Int64 → Int64 → Int64 → Option (Int64 × XS)) (hk : ∀ (S : XS) (x7 : Int64) (x9 : Int64) (x11 : Int64) (H : Heap) (locs : List Loc) (ls : Array Slot), k S x7 x9 x11 = some r → SI G A s H locs (WX G a S) → lv_has ls 16 [(4, .int x4), (7, .long x7), (9, .long x9), (11, .long x11)] → W p l e (RM 6 142) s m args below meth c H locs 0 0 Q (F0 m 169 ls [])) (fu : Nat) (S : XS) (x5 : Int64) (x7 : Int64) (x9 : Int64) (x11 : Int64) (x13 : Int32) (H : Heap) (locs : List Loc) (ls : Array Slot), lo6 (B_X4_judged_81 x1 x3 x4 k) fu S x5 x7 x9 x11 x13 = some r → SI G A s H locs (WX G a S) → lv_has ls 16 [(0, .ref (a 0)), (1, .int x1), (3, .int x3), (4, .int x4), (5, .long x5), (7, .long x7), (9, .long x9), (11, .long x11), (13, .int x13)] → W p l e (RM 6 142) s m args below meth c H locs 0 0 Q (F0 m 81 ls []) := by
    intro x1 x3 x4 k hk fu
    induction fu with
    | zero =>
      intro S x5 x7 x9 x11 x13 H locs ls hF hs hl
      exact nomatch (show (none : Option (Int64 × XS)) = some r from hF)
    | succ fu hrec =>
      intro S x5 x7 x9 x11 x13 H locs ls hF hs hl
      have hF : (B_X4_judged_81 x1 x3 x4 k) (lo6 (B_X4_judged_81 x1 x3 x4 k) fu) S x5 x7 x9 x11 x13 = some r := hF
      unfold B_X4_judged_81 at hF
      refine lv_iload hx hb dX4_judged_81 (lv_at hl 8 rfl) ?_
      refine lv_iload_n hx hb dX4_judged_83 rfl (lv_at hl 2 rfl) ?_
      refine lv_icmp_ge (tgt := 169) hx hb dX4_judged_84 (by decide) (fun hc => ?_) (fun hc => ?_)
      · have hF := (if_pos hc).symm.trans hF
        exact hk S x7 x9 x11 _ _ _ hF hs (lv_sub hl [3, 5, 6, 7] rfl)
      · have hF := (if_neg hc).symm.trans hF
        refine lv_aload_n hx hb dX4_judged_87 rfl (lv_at hl 0 rfl) ?_
        refine fg_X4_26 hx hb hown hts hE hs 0 rfl (v := .ref (a 17)) rfl dX4_judged_88 ?_
        refine fg_X4_213 hx hb hown hts hE hs 22 rfl (v := .ref (a 23)) rfl dX4_judged_91 ?_
        refine lv_lload hx hb dX4_judged_94 (lv_at hl 4 rfl) ?_
        obtain ⟨q11, hq11, hF⟩ := bd hF
        obtain ⟨S12, eS12, hF⟩ := nm_some hF
        refine sx_N (As := [.long x5]) (rest := []) (st1 := [.long q11.1]) (c_X2_drawFaults G l (fun k => a (17 + (6 + k))) (r_told (x_reckoning S)) x5 q11 hq11) v_X4_214 ⟨(Nat.le_of_ble_eq_true rfl), (Nat.le_of_ble_eq_true rfl)⟩ hx hb hml hown hts hE hA hs ⟨Nat.le_refl 0, Nat.le_refl 0⟩ 17 rfl rfl rfl rfl rfl hl.1 (Nat.le_of_ble_eq_true rfl) dX4_judged_96 (pX_reckoning_told G a S (r_told (x_reckoning S))) (ws' := WX G a S12) (by subst eS12; exact pX_reckoning_told G a S q11.2) (fun H locs hs => ?_)
        refine lv_lstore (lv' := [(5, .long q11.1), (0, .ref (a 0)), (1, .int x1), (3, .int x3), (4, .int x4), (7, .long x7), (9, .long x9), (11, .long x11), (13, .int x13)]) hx hb dX4_judged_99 hl (by decide) rfl (fun ls hl => ?_)
        refine lv_aload_n hx hb dX4_judged_101 rfl (lv_at hl 1 rfl) ?_
        refine fg_X4_26 hx hb hown hts hE hs 0 rfl (v := .ref (a 17)) rfl dX4_judged_102 ?_
        obtain ⟨q13, hq13, hF⟩ := bd hF
        obtain ⟨S14, eS14, hF⟩ := nm_some hF
        refine sx_N (As := []) (rest := []) (st1 := []) (c_X1_settle G l (fun k => a (17 + k)) (x_reckoning S12) q13 hq13) v_X4_218 ⟨(Nat.le_of_ble_eq_true rfl), (Nat.le_of_ble_eq_true rfl)⟩ hx hb hml hown hts hE hA hs ⟨Nat.le_refl 0, Nat.le_refl 0⟩ 22 rfl rfl rfl rfl rfl hl.1 (Nat.le_of_ble_eq_true rfl) dX4_judged_105 (pX_reckoning G a S12 (x_reckoning S12)) (ws' := WX G a S14) (by subst eS14; exact pX_reckoning G a S12 q13) (fun H locs hs => ?_)
        refine lv_aload_n hx hb dX4_judged_108 rfl (lv_at hl 1 rfl) ?_
        refine fg_X4_26 hx hb hown hts hE hs 0 rfl (v := .ref (a 17)) rfl dX4_judged_109 ?_
        refine lv_iload_n hx hb dX4_judged_112 rfl (lv_at hl 2 rfl) ?_
        obtain ⟨q15, hq15, hF⟩ := bd hF
        refine sx_N (As := [.int x1]) (rest := []) (st1 := [.long q15]) (c_X1_netOf G l (fun k => a (17 + k)) (x_reckoning S14) x1 q15 hq15) v_X4_183 ⟨(Nat.le_of_ble_eq_true rfl), (Nat.le_of_ble_eq_true rfl)⟩ hx hb hml hown hts hE hA hs ⟨Nat.le_refl 0, Nat.le_refl 0⟩ 22 rfl rfl rfl rfl rfl hl.1 (Nat.le_of_ble_eq_true rfl) dX4_judged_113 (pX_reckoning G a S14 (x_reckoning S14)) (ws' := WX G a S14) (pX_reckoning G a S14 (x_reckoning S14)) (fun H locs hs => ?_)
        refine lv_lstore (lv' := [(14, .long q15), (5, .long q11.1), (0, .ref (a 0)), (1, .int x1), (3, .int x3), (4, .int x4), (7, .long x7), (9, .long x9), (11, .long x11), (13, .int x13)]) hx hb dX4_judged_116 hl (by decide) rfl (fun ls hl => ?_)
        refine lv_lload hx hb dX4_judged_118 (lv_at hl 6 rfl) ?_
        refine lv_lload hx hb dX4_judged_120 (lv_at hl 0 rfl) ?_
        refine lv_ladd hx hb dX4_judged_122 ?_
        obtain ⟨v16, ev16, hF⟩ := nm_some hF
        refine sx_topl ev16 ?_
        refine lv_lstore (lv' := [(7, .long v16), (14, .long q15), (5, .long q11.1), (0, .ref (a 0)), (1, .int x1), (3, .int x3), (4, .int x4), (9, .long x9), (11, .long x11), (13, .int x13)]) hx hb dX4_judged_123 hl (by decide) rfl (fun ls hl => ?_)
        refine lv_iload hx hb dX4_judged_125 (lv_at hl 9 rfl) ?_
        refine lv_if_ne (tgt := 135) hx hb dX4_judged_127 (by decide) (fun hc => ?_) (fun hc => ?_)
        · have hF := (if_neg hc).symm.trans hF
          refine lv_lload hx hb dX4_judged_135 (lv_at hl 7 rfl) ?_
          refine lv_lload hx hb dX4_judged_137 (lv_at hl 1 rfl) ?_
          refine va_mmin_long hx hb (hml.trans hl.1.symm) hown (hts _ g814) (hts _ g593) (hts _ g131) (hts _ g594) (Nat.le_of_ble_eq_true rfl) (Nat.le_of_ble_eq_true rfl) (Nat.le_refl 0) (Nat.le_refl 0) dX4_judged_139 ?_
          obtain ⟨v17, ev17, hF⟩ := nm_some hF
          refine sx_topl ev17 ?_
          exact hJ142_81 x1 x3 x4 _ _ hk hrec S14 q11.1 v16 x11 x13 q15 v17 _ _ _ hF hs (lv_sub hl [3, 4, 5, 6, 2, 0, 8, 9, 1] rfl)
        · have hF := (if_pos hc).symm.trans hF
          refine lv_lload hx hb dX4_judged_130 (lv_at hl 1 rfl) ?_
          refine lv_goto (tgt := 142) hx hb dX4_judged_132 (by decide) ?_
          exact hJ142_81 x1 x3 x4 _ _ hk hrec S14 q11.1 v16 x11 x13 q15 q15 _ _ _ hF hs (lv_sub hl [3, 4, 5, 6, 2, 0, 8, 9, 1] rfl)
  unfold F_X4_judged at hF
  refine lv_aload_n hx hb dX4_judged_0 rfl (lv_at hl 0 rfl) ?_
  refine lv_iload_n hx hb dX4_judged_1 rfl (lv_at hl 1 rfl) ?_
  obtain ⟨q1, hq1, hF⟩ := bd hF
  refine sx_V (As := [.int x1]) (rest := []) (st1 := [.int q1]) (c_X4_hasShip G l a S x1 q1 hq1) v_X4_105 ⟨(Nat.le_of_ble_eq_true rfl), (Nat.le_of_ble_eq_true rfl)⟩ hx hb hml hown hts hE hA hs ⟨Nat.le_refl 0, Nat.le_refl 0⟩ 0 rfl rfl rfl rfl rfl hl.1 (Nat.le_of_ble_eq_true rfl) dX4_judged_2 (pmW _) (ws' := WX G a S) (pmW _) (fun H locs hs => ?_)
  refine lv_if_eq (tgt := 18) hx hb dX4_judged_5 (by decide) (fun hc => ?_) (fun hc => ?_)
  · have hF := (if_pos hc).symm.trans hF
    exact hJ18_n S _ _ _ hF hs (lv_sub hl [0] rfl)
  · have hF := (if_neg hc).symm.trans hF
    refine lv_iload hx hb dX4_judged_8 (lv_at hl 4 rfl) ?_
    refine lv_iconst (v := (0 : Int32)) hx hb dX4_judged_10 (by decide) ?_
    refine lv_iconst (v := (2 : Int32)) hx hb dX4_judged_11 (by decide) ?_
    obtain ⟨q3, hq3, hF⟩ := bd hF
    refine sx_S (As := [.int x4, .int (0 : Int32), .int (2 : Int32)]) (rest := []) (st1 := [.int q3]) (c_X4_within G l  x4 (0 : Int32) (2 : Int32) q3 hq3) v_X4_64 ⟨(Nat.le_of_ble_eq_true rfl), (Nat.le_of_ble_eq_true rfl)⟩ hx hb hml hown hts hE hA hs ⟨Nat.le_refl 0, Nat.le_refl 0⟩ rfl rfl rfl hl.1 (Nat.le_of_ble_eq_true rfl) dX4_judged_12 (List.Perm.refl _) (ws' := WX G a S) (List.Perm.refl _) (fun H locs hs => ?_)
    refine lv_if_ne (tgt := 24) hx hb dX4_judged_15 (by decide) (fun hc => ?_) (fun hc => ?_)
    · have hF := (if_neg hc).symm.trans hF
      refine lv_iload_n hx hb dX4_judged_24 rfl (lv_at hl 2 rfl) ?_
      refine lv_iconst (v := (1 : Int32)) hx hb dX4_judged_25 (by decide) ?_
      refine lv_ldc (v := (2147483646 : Int32)) hx hb hown (hts _ g807) dX4_judged_26 ?_
      obtain ⟨q4, hq4, hF⟩ := bd hF
      refine sx_S (As := [.int x2, .int (1 : Int32), .int (2147483646 : Int32)]) (rest := []) (st1 := [.int q4]) (c_X4_within G l  x2 (1 : Int32) (2147483646 : Int32) q4 hq4) v_X4_64 ⟨(Nat.le_of_ble_eq_true rfl), (Nat.le_of_ble_eq_true rfl)⟩ hx hb hml hown hts hE hA hs ⟨Nat.le_refl 0, Nat.le_refl 0⟩ rfl rfl rfl hl.1 (Nat.le_of_ble_eq_true rfl) dX4_judged_28 (List.Perm.refl _) (ws' := WX G a S) (List.Perm.refl _) (fun H locs hs => ?_)
      refine lv_if_eq (tgt := 44) hx hb dX4_judged_31 (by decide) (fun hc => ?_) (fun hc => ?_)
      · have hF := (if_pos hc).symm.trans hF
        exact hJ44_n S _ _ _ hF hs (lv_sub hl [0] rfl)
      · have hF := (if_neg hc).symm.trans hF
        refine lv_iload_n hx hb dX4_judged_34 rfl (lv_at hl 3 rfl) ?_
        refine lv_iconst (v := (1 : Int32)) hx hb dX4_judged_35 (by decide) ?_
        refine lv_bipush (v := (50 : Int32)) hx hb dX4_judged_36 (by decide) ?_
        obtain ⟨q6, hq6, hF⟩ := bd hF
        refine sx_S (As := [.int x3, .int (1 : Int32), .int (50 : Int32)]) (rest := []) (st1 := [.int q6]) (c_X4_within G l  x3 (1 : Int32) (50 : Int32) q6 hq6) v_X4_64 ⟨(Nat.le_of_ble_eq_true rfl), (Nat.le_of_ble_eq_true rfl)⟩ hx hb hml hown hts hE hA hs ⟨Nat.le_refl 0, Nat.le_refl 0⟩ rfl rfl rfl hl.1 (Nat.le_of_ble_eq_true rfl) dX4_judged_38 (List.Perm.refl _) (ws' := WX G a S) (List.Perm.refl _) (fun H locs hs => ?_)
        refine lv_if_ne (tgt := 50) hx hb dX4_judged_41 (by decide) (fun hc => ?_) (fun hc => ?_)
        · have hF := (if_neg hc).symm.trans hF
          refine lv_aload_n hx hb dX4_judged_50 rfl (lv_at hl 0 rfl) ?_
          obtain ⟨q7, hq7, hF⟩ := bd hF
          refine sx_V (As := []) (rest := []) (st1 := []) (c_X4_accept G l a S q7 hq7) v_X4_78 ⟨(Nat.le_of_ble_eq_true rfl), (Nat.le_of_ble_eq_true rfl)⟩ hx hb hml hown hts hE hA hs ⟨Nat.le_refl 0, Nat.le_refl 0⟩ 0 rfl rfl rfl rfl rfl hl.1 (Nat.le_of_ble_eq_true rfl) dX4_judged_51 (pmW _) (ws' := WX G a q7) (pmW _) (fun H locs hs => ?_)
          refine lv_aload_n hx hb dX4_judged_54 rfl (lv_at hl 0 rfl) ?_
          refine fg_X4_26 hx hb hown hts hE hs 0 rfl (v := .ref (a 17)) rfl dX4_judged_55 ?_
          refine lv_aload_n hx hb dX4_judged_58 rfl (lv_at hl 0 rfl) ?_
          refine fg_X4_19 hx hb hown hts hE hs 0 rfl (v := .ref (a 12)) rfl dX4_judged_59 ?_
          obtain ⟨q8, hq8, hF⟩ := bd hF
          obtain ⟨S9, eS9, hF⟩ := nm_some hF
          refine sx_N (As := [.ref (a 12)]) (rest := []) (st1 := []) (c_X1_take G l (fun k => a (17 + k)) (fun k => a (12 + k)) (x_reckoning q7) (x_now q7) q8 hq8) v_X4_210 ⟨(Nat.le_of_ble_eq_true rfl), (Nat.le_of_ble_eq_true rfl)⟩ hx hb hml hown hts hE hA hs ⟨Nat.le_refl 0, Nat.le_refl 0⟩ 22 rfl rfl rfl rfl rfl hl.1 (Nat.le_of_ble_eq_true rfl) dX4_judged_62 (pX_reckoning_now G a q7 (x_reckoning q7)) (ws' := WX G a S9) (by subst eS9; exact pX_reckoning_now G a q7 q8) (fun H locs hs => ?_)
          refine lv_iload_n hx hb dX4_judged_65 rfl (lv_at hl 2 rfl) ?_
          refine lv_i2l hx hb dX4_judged_66 rfl ?_
          obtain ⟨v10, ev10, hF⟩ := nm_some hF
          refine sx_topl ev10 ?_
          refine lv_lstore (lv' := [(5, .long v10), (0, .ref (a 0)), (1, .int x1), (2, .int x2), (3, .int x3), (4, .int x4)]) hx hb dX4_judged_67 hl (by decide) rfl (fun ls hl => ?_)
          refine lv_lconst (v := (0 : Int64)) hx hb dX4_judged_69 (by decide) ?_
          refine lv_lstore (lv' := [(7, .long (0 : Int64)), (5, .long v10), (0, .ref (a 0)), (1, .int x1), (2, .int x2), (3, .int x3), (4, .int x4)]) hx hb dX4_judged_70 hl (by decide) rfl (fun ls hl => ?_)
          refine lv_lconst (v := (0 : Int64)) hx hb dX4_judged_72 (by decide) ?_
          refine lv_lstore (lv' := [(9, .long (0 : Int64)), (7, .long (0 : Int64)), (5, .long v10), (0, .ref (a 0)), (1, .int x1), (2, .int x2), (3, .int x3), (4, .int x4)]) hx hb dX4_judged_73 hl (by decide) rfl (fun ls hl => ?_)
          refine lv_lconst (v := (0 : Int64)) hx hb dX4_judged_75 (by decide) ?_
          refine lv_lstore (lv' := [(11, .long (0 : Int64)), (9, .long (0 : Int64)), (7, .long (0 : Int64)), (5, .long v10), (0, .ref (a 0)), (1, .int x1), (2, .int x2), (3, .int x3), (4, .int x4)]) hx hb dX4_judged_76 hl (by decide) rfl (fun ls hl => ?_)
          refine lv_iconst (v := (0 : Int32)) hx hb dX4_judged_78 (by decide) ?_
          refine lv_istore (lv' := [(13, .int (0 : Int32)), (11, .long (0 : Int64)), (9, .long (0 : Int64)), (7, .long (0 : Int64)), (5, .long v10), (0, .ref (a 0)), (1, .int x1), (2, .int x2), (3, .int x3), (4, .int x4)]) hx hb dX4_judged_79 hl (by decide) rfl (fun ls hl => ?_)
          refine hL81 x1 x3 x4 _ (fun S20 z21 z22 z23 H locs ls hF hs hl => ?_) FU S9 v10 (0 : Int64) (0 : Int64) (0 : Int64) (0 : Int32) _ _ _ hF hs (lv_sub hl [5, 6, 8, 9, 4, 3, 2, 1, 0] rfl)
          refine lv_iload hx hb dX4_judged_169 (lv_at hl 0 rfl) ?_
          refine lv_if_ne (tgt := 177) hx hb dX4_judged_171 (by decide) (fun hc => ?_) (fun hc => ?_)
          · have hF := (if_neg hc).symm.trans hF
            refine lv_iload hx hb dX4_judged_177 (lv_at hl 0 rfl) ?_
            refine lv_iconst (v := (1 : Int32)) hx hb dX4_judged_179 (by decide) ?_
            refine lv_icmp_ne (tgt := 188) hx hb dX4_judged_180 (by decide) (fun hc => ?_) (fun hc => ?_)
            · have hF := (if_neg hc).symm.trans hF
              refine lv_lload hx hb dX4_judged_188 (lv_at hl 3 rfl) ?_
              exact sx_lret hx hb hr hlk hQ (congrArg Prod.fst (Option.some.inj hF)) (congrArg (fun z => WX G a z) (congrArg Prod.snd (Option.some.inj hF))) hs dX4_judged_190
            · have hF := (if_pos hc).symm.trans hF
              refine lv_lload hx hb dX4_judged_183 (lv_at hl 2 rfl) ?_
              refine lv_goto (tgt := 190) hx hb dX4_judged_185 (by decide) ?_
              exact sx_lret hx hb hr hlk hQ (congrArg Prod.fst (Option.some.inj hF)) (congrArg (fun z => WX G a z) (congrArg Prod.snd (Option.some.inj hF))) hs dX4_judged_190
          · have hF := (if_pos hc).symm.trans hF
            refine lv_lload hx hb dX4_judged_174 (lv_at hl 1 rfl) ?_
            exact sx_lret hx hb hr hlk hQ (congrArg Prod.fst (Option.some.inj hF)) (congrArg (fun z => WX G a z) (congrArg Prod.snd (Option.some.inj hF))) hs dX4_judged_176
        · have hF := (if_pos hc).symm.trans hF
          exact hJ44_n S _ _ _ hF hs (lv_sub hl [0] rfl)
    · have hF := (if_pos hc).symm.trans hF
      exact hJ18_n S _ _ _ hF hs (lv_sub hl [0] rfl)
set_option maxHeartbeats 4000000 in
set_option maxRecDepth 100000 in
theorem c_X4_all (G : GT) (l : Launch) (a : Nat → Nat) (S : XS) (r : Int64 × XS) (hF : F_X4_all S = some r) : MT G l yX4_all cX4_all 4 (some .long) 7 162 [.ref (a 0)] (WX G a S) (some (.long r.1)) (WX G a r.2) := by
  refine MT.of (by decide) (Nat.le_of_ble_eq_true rfl) ?_
  intro p e s m args below meth c A ls hx hb hr hml hown hts hlk hE hA hs hl Q hQ
  have hl : lv_has ls 4 [(0, .ref (a 0))] := hl
  have hL25 : ∀ (k : XS → Int64 → Option (Int64 × XS)) (hk : ∀ (S : XS) (x1 : Int64) (H : Heap) (locs : List Loc) (ls : Array Slot), k S x1 = some r → SI G A s H locs (WX G a S) → lv_has ls 4 [(0, .ref (a 0)), (1, .long x1)] → W p l e (RM 7 162) s m args below meth c H locs 0 0 Q (F0 m 53 ls [])) (fu : Nat) (S : XS) (x1 : Int64) (x3 : Int32) (H : Heap) (locs : List Loc) (ls : Array Slot), lo3 (B_X4_all_25 k) fu S x1 x3 = some r → SI G A s H locs (WX G a S) → lv_has ls 4 [(0, .ref (a 0)), (1, .long x1), (3, .int x3)] → W p l e (RM 7 162) s m args below meth c H locs 0 0 Q (F0 m 25 ls []) := by
    intro k hk fu
    induction fu with
    | zero =>
      intro S x1 x3 H locs ls hF hs hl
      exact nomatch (show (none : Option (Int64 × XS)) = some r from hF)
    | succ fu hrec =>
      intro S x1 x3 H locs ls hF hs hl
      have hF : (B_X4_all_25 k) (lo3 (B_X4_all_25 k) fu) S x1 x3 = some r := hF
      unfold B_X4_all_25 at hF
      refine lv_iload_n hx hb dX4_all_25 rfl (lv_at hl 2 rfl) ?_
      refine lv_aload_n hx hb dX4_all_26 rfl (lv_at hl 0 rfl) ?_
      refine fg_X4_19 hx hb hown hts hE hs 0 rfl (v := .ref (a 12)) rfl dX4_all_27 ?_
      refine fg_X4_91 hx hb hown hts hE hs 12 rfl (v := .int (t_ships (x_now S))) rfl dX4_all_30 ?_
      refine lv_icmp_ge (tgt := 53) hx hb dX4_all_33 (by decide) (fun hc => ?_) (fun hc => ?_)
      · have hF := (if_pos hc).symm.trans hF
        exact hk S x1 _ _ _ hF hs (lv_sub hl [0, 1] rfl)
      · have hF := (if_neg hc).symm.trans hF
        refine lv_lload_n hx hb dX4_all_36 rfl (lv_at hl 1 rfl) ?_
        refine lv_aload_n hx hb dX4_all_37 rfl (lv_at hl 0 rfl) ?_
        refine fg_X4_26 hx hb hown hts hE hs 0 rfl (v := .ref (a 17)) rfl dX4_all_38 ?_
        refine lv_iload_n hx hb dX4_all_41 rfl (lv_at hl 2 rfl) ?_
        obtain ⟨q4, hq4, hF⟩ := bd hF
        refine sx_N (As := [.int x3]) (rest := [.long x1]) (st1 := [.long q4, .long x1]) (c_X1_netOf G l (fun k => a (17 + k)) (x_reckoning S) x3 q4 hq4) v_X4_183 ⟨(Nat.le_of_ble_eq_true rfl), (Nat.le_of_ble_eq_true rfl)⟩ hx hb hml hown hts hE hA hs ⟨Nat.le_refl 0, Nat.le_refl 0⟩ 22 rfl rfl rfl rfl rfl hl.1 (Nat.le_of_ble_eq_true rfl) dX4_all_42 (pX_reckoning G a S (x_reckoning S)) (ws' := WX G a S) (pX_reckoning G a S (x_reckoning S)) (fun H locs hs => ?_)
        refine lv_ladd hx hb dX4_all_45 ?_
        obtain ⟨v5, ev5, hF⟩ := nm_some hF
        refine sx_topl ev5 ?_
        refine lv_lstore_n (lv' := [(1, .long v5), (0, .ref (a 0)), (3, .int x3)]) hx hb dX4_all_46 rfl hl (by decide) rfl (fun ls hl => ?_)
        obtain ⟨v6, ev6, hF⟩ := nm_some hF
        refine lv_iinc (v := v6) (lv' := [(3, .int v6), (1, .long v5), (0, .ref (a 0))]) hx hb dX4_all_47 hl (k := 2) rfl (by rw [ev6]; rfl) (by decide) rfl (fun ls hl => ?_)
        refine lv_goto (tgt := 25) hx hb dX4_all_50 (by decide) ?_
        exact hrec S v5 v6 _ _ _ hF hs (lv_sub hl [2, 1, 0] rfl)
  have hL55 : ∀ (k : XS → Int64 → Option (Int64 × XS)) (hk : ∀ (S : XS) (x1 : Int64) (H : Heap) (locs : List Loc) (ls : Array Slot), k S x1 = some r → SI G A s H locs (WX G a S) → lv_has ls 4 [(1, .long x1)] → W p l e (RM 7 162) s m args below meth c H locs 0 0 Q (F0 m 83 ls [])) (fu : Nat) (S : XS) (x1 : Int64) (x3 : Int32) (H : Heap) (locs : List Loc) (ls : Array Slot), lo3 (B_X4_all_55 k) fu S x1 x3 = some r → SI G A s H locs (WX G a S) → lv_has ls 4 [(0, .ref (a 0)), (1, .long x1), (3, .int x3)] → W p l e (RM 7 162) s m args below meth c H locs 0 0 Q (F0 m 55 ls []) := by
    intro k hk fu
    induction fu with
    | zero =>
      intro S x1 x3 H locs ls hF hs hl
      exact nomatch (show (none : Option (Int64 × XS)) = some r from hF)
    | succ fu hrec =>
      intro S x1 x3 H locs ls hF hs hl
      have hF : (B_X4_all_55 k) (lo3 (B_X4_all_55 k) fu) S x1 x3 = some r := hF
      unfold B_X4_all_55 at hF
      refine lv_iload_n hx hb dX4_all_55 rfl (lv_at hl 2 rfl) ?_
      refine lv_aload_n hx hb dX4_all_56 rfl (lv_at hl 0 rfl) ?_
      refine fg_X4_19 hx hb hown hts hE hs 0 rfl (v := .ref (a 12)) rfl dX4_all_57 ?_
      refine fg_X4_98 hx hb hown hts hE hs 12 rfl (v := .int (t_claims (x_now S))) rfl dX4_all_60 ?_
      refine lv_icmp_ge (tgt := 83) hx hb dX4_all_63 (by decide) (fun hc => ?_) (fun hc => ?_)
      · have hF := (if_pos hc).symm.trans hF
        exact hk S x1 _ _ _ hF hs (lv_sub hl [1] rfl)
      · have hF := (if_neg hc).symm.trans hF
        refine lv_lload_n hx hb dX4_all_66 rfl (lv_at hl 1 rfl) ?_
        refine lv_aload_n hx hb dX4_all_67 rfl (lv_at hl 0 rfl) ?_
        refine fg_X4_26 hx hb hown hts hE hs 0 rfl (v := .ref (a 17)) rfl dX4_all_68 ?_
        refine lv_iload_n hx hb dX4_all_71 rfl (lv_at hl 2 rfl) ?_
        obtain ⟨q9, hq9, hF⟩ := bd hF
        refine sx_N (As := [.int x3]) (rest := [.long x1]) (st1 := [.long q9, .long x1]) (c_X1_leftToClaim G l (fun k => a (17 + k)) (x_reckoning S) x3 q9 hq9) v_X4_168 ⟨(Nat.le_of_ble_eq_true rfl), (Nat.le_of_ble_eq_true rfl)⟩ hx hb hml hown hts hE hA hs ⟨Nat.le_refl 0, Nat.le_refl 0⟩ 22 rfl rfl rfl rfl rfl hl.1 (Nat.le_of_ble_eq_true rfl) dX4_all_72 (pX_reckoning G a S (x_reckoning S)) (ws' := WX G a S) (pX_reckoning G a S (x_reckoning S)) (fun H locs hs => ?_)
        refine lv_ladd hx hb dX4_all_75 ?_
        obtain ⟨v10, ev10, hF⟩ := nm_some hF
        refine sx_topl ev10 ?_
        refine lv_lstore_n (lv' := [(1, .long v10), (0, .ref (a 0)), (3, .int x3)]) hx hb dX4_all_76 rfl hl (by decide) rfl (fun ls hl => ?_)
        obtain ⟨v11, ev11, hF⟩ := nm_some hF
        refine lv_iinc (v := v11) (lv' := [(3, .int v11), (1, .long v10), (0, .ref (a 0))]) hx hb dX4_all_77 hl (k := 2) rfl (by rw [ev11]; rfl) (by decide) rfl (fun ls hl => ?_)
        refine lv_goto (tgt := 55) hx hb dX4_all_80 (by decide) ?_
        exact hrec S v10 v11 _ _ _ hF hs (lv_sub hl [2, 1, 0] rfl)
  unfold F_X4_all at hF
  refine lv_aload_n hx hb dX4_all_0 rfl (lv_at hl 0 rfl) ?_
  obtain ⟨q1, hq1, hF⟩ := bd hF
  refine sx_V (As := []) (rest := []) (st1 := [.int q1]) (c_X4_hasText G l a S q1 hq1) v_X4_94 ⟨(Nat.le_of_ble_eq_true rfl), (Nat.le_of_ble_eq_true rfl)⟩ hx hb hml hown hts hE hA hs ⟨Nat.le_refl 0, Nat.le_refl 0⟩ 0 rfl rfl rfl rfl rfl hl.1 (Nat.le_of_ble_eq_true rfl) dX4_all_1 (pmW _) (ws' := WX G a S) (pmW _) (fun H locs hs => ?_)
  refine lv_if_ne (tgt := 13) hx hb dX4_all_4 (by decide) (fun hc => ?_) (fun hc => ?_)
  · have hF := (if_neg hc).symm.trans hF
    refine lv_aload_n hx hb dX4_all_13 rfl (lv_at hl 0 rfl) ?_
    obtain ⟨q2, hq2, hF⟩ := bd hF
    refine sx_V (As := []) (rest := []) (st1 := []) (c_X4_accept G l a S q2 hq2) v_X4_78 ⟨(Nat.le_of_ble_eq_true rfl), (Nat.le_of_ble_eq_true rfl)⟩ hx hb hml hown hts hE hA hs ⟨Nat.le_refl 0, Nat.le_refl 0⟩ 0 rfl rfl rfl rfl rfl hl.1 (Nat.le_of_ble_eq_true rfl) dX4_all_14 (pmW _) (ws' := WX G a q2) (pmW _) (fun H locs hs => ?_)
    refine lv_aload_n hx hb dX4_all_17 rfl (lv_at hl 0 rfl) ?_
    obtain ⟨q3, hq3, hF⟩ := bd hF
    refine sx_V (As := []) (rest := []) (st1 := []) (c_X4_reckon G l a q2 q3 hq3) v_X4_126 ⟨(Nat.le_of_ble_eq_true rfl), (Nat.le_of_ble_eq_true rfl)⟩ hx hb hml hown hts hE hA hs ⟨Nat.le_refl 0, Nat.le_refl 0⟩ 0 rfl rfl rfl rfl rfl hl.1 (Nat.le_of_ble_eq_true rfl) dX4_all_18 (pmW _) (ws' := WX G a q3) (pmW _) (fun H locs hs => ?_)
    refine lv_lconst (v := (0 : Int64)) hx hb dX4_all_21 (by decide) ?_
    refine lv_lstore_n (lv' := [(1, .long (0 : Int64)), (0, .ref (a 0))]) hx hb dX4_all_22 rfl hl (by decide) rfl (fun ls hl => ?_)
    refine lv_iconst (v := (0 : Int32)) hx hb dX4_all_23 (by decide) ?_
    refine lv_istore_n (lv' := [(3, .int (0 : Int32)), (1, .long (0 : Int64)), (0, .ref (a 0))]) hx hb dX4_all_24 rfl hl (by decide) rfl (fun ls hl => ?_)
    refine hL25 _ (fun S7 z8 H locs ls hF hs hl => ?_) FU q3 (0 : Int64) (0 : Int32) _ _ _ hF hs (lv_sub hl [2, 1, 0] rfl)
    refine lv_iconst (v := (0 : Int32)) hx hb dX4_all_53 (by decide) ?_
    refine lv_istore_n (lv' := [(3, .int (0 : Int32)), (0, .ref (a 0)), (1, .long z8)]) hx hb dX4_all_54 rfl hl (by decide) rfl (fun ls hl => ?_)
    refine hL55 _ (fun S12 z13 H locs ls hF hs hl => ?_) FU S7 z8 (0 : Int32) _ _ _ hF hs (lv_sub hl [1, 2, 0] rfl)
    refine lv_lload_n hx hb dX4_all_83 rfl (lv_at hl 0 rfl) ?_
    exact sx_lret hx hb hr hlk hQ (congrArg Prod.fst (Option.some.inj hF)) (congrArg (fun z => WX G a z) (congrArg Prod.snd (Option.some.inj hF))) hs dX4_all_84
  · have hF := (if_pos hc).symm.trans hF
    refine lv_aload_n hx hb dX4_all_7 rfl (lv_at hl 0 rfl) ?_
    refine lv_iconst (v := (1 : Int32)) hx hb dX4_all_8 (by decide) ?_
    obtain ⟨q14, hq14, hF⟩ := bd hF
    refine sx_V (As := [.int (1 : Int32)]) (rest := []) (st1 := [.long q14.1]) (c_X4_nothing G l a S (1 : Int32) q14 hq14) v_X4_180 ⟨(Nat.le_of_ble_eq_true rfl), (Nat.le_of_ble_eq_true rfl)⟩ hx hb hml hown hts hE hA hs ⟨Nat.le_refl 0, Nat.le_refl 0⟩ 0 rfl rfl rfl rfl rfl hl.1 (Nat.le_of_ble_eq_true rfl) dX4_all_9 (pmW _) (ws' := WX G a q14.2) (pmW _) (fun H locs hs => ?_)
    exact sx_lret hx hb hr hlk hQ (congrArg Prod.fst (Option.some.inj hF)) (congrArg (fun z => WX G a z) (congrArg Prod.snd (Option.some.inj hF))) hs dX4_all_12
set_option maxHeartbeats 4000000 in
set_option maxRecDepth 100000 in
theorem c_X4_beginAct (G : GT) (l : Launch) (a : Nat → Nat) (S : XS) (r : XS) (hF : F_X4_beginAct S = some r) : MT G l yX4_beginAct cX4_beginAct 1 (none) 2 61 [.ref (a 0)] (WX G a S) none (WX G a r) := by
  refine MT.of (by decide) (Nat.le_of_ble_eq_true rfl) ?_
  intro p e s m args below meth c A ls hx hb hr hml hown hts hlk hE hA hs hl Q hQ
  have hl : lv_has ls 1 [(0, .ref (a 0))] := hl
  unfold F_X4_beginAct at hF
  refine lv_aload_n hx hb dX4_beginAct_0 rfl (lv_at hl 0 rfl) ?_
  obtain ⟨q1, hq1, hF⟩ := bd hF
  refine sx_V (As := []) (rest := []) (st1 := []) (c_X4_accept G l a S q1 hq1) v_X4_78 ⟨(Nat.le_of_ble_eq_true rfl), (Nat.le_of_ble_eq_true rfl)⟩ hx hb hml hown hts hE hA hs ⟨Nat.le_refl 0, Nat.le_refl 0⟩ 0 rfl rfl rfl rfl rfl hl.1 (Nat.le_of_ble_eq_true rfl) dX4_beginAct_1 (pmW _) (ws' := WX G a q1) (pmW _) (fun H locs hs => ?_)
  refine lv_aload_n hx hb dX4_beginAct_4 rfl (lv_at hl 0 rfl) ?_
  refine fg_X4_30 hx hb hown hts hE hs 0 rfl (v := .ref (a 1)) rfl dX4_beginAct_5 ?_
  refine lv_aload_n hx hb dX4_beginAct_8 rfl (lv_at hl 0 rfl) ?_
  refine fg_X4_48 hx hb hown hts hE hs 0 rfl (v := .int (x_nextAct q1)) rfl dX4_beginAct_9 ?_
  obtain ⟨j2, hj2, hF⟩ := bd hF
  refine sx_ald hx hb hE hs 1 (b := 28) rfl hj2 dX4_beginAct_12 ?_
  refine lv_aload_n hx hb dX4_beginAct_13 rfl (lv_at hl 0 rfl) ?_
  refine fg_X4_19 hx hb hown hts hE hs 0 rfl (v := .ref (a 12)) rfl dX4_beginAct_14 ?_
  obtain ⟨q3, hq3, hF⟩ := bd hF
  obtain ⟨S4, eS4, hF⟩ := nm_some hF
  obtain ⟨qq5, hqq5⟩ := aX_earlier G a q1 j2
  refine sx_N (As := [.ref (a 12)]) (rest := []) (st1 := []) (c_X2_copyFrom G l (fun k => a (28 + 5 * j2.1 + k)) (fun k => a (12 + k)) (x_earlier q1 j2) (x_now q1) q3 hq3) v_X4_84 ⟨(Nat.le_of_ble_eq_true rfl), (Nat.le_of_ble_eq_true rfl)⟩ hx hb hml hown hts hE hA hs ⟨Nat.le_refl 0, Nat.le_refl 0⟩ qq5 hqq5 rfl rfl rfl rfl hl.1 (Nat.le_of_ble_eq_true rfl) dX4_beginAct_17 (by have h9 := pX_earlier_now G a q1 j2 (x_earlier q1 j2); rw [upT_self_earlier] at h9; exact h9) (ws' := WX G a S4) (by subst eS4; exact pX_earlier_now G a q1 j2 q3) (fun H locs hs => ?_)
  refine lv_aload_n hx hb dX4_beginAct_20 rfl (lv_at hl 0 rfl) ?_
  refine lv_aload_n hx hb dX4_beginAct_21 rfl (lv_at hl 0 rfl) ?_
  refine fg_X4_48 hx hb hown hts hE hs 0 rfl (v := .int (x_nextAct S4)) rfl dX4_beginAct_22 ?_
  refine lv_iconst (v := (1 : Int32)) hx hb dX4_beginAct_25 (by decide) ?_
  refine lv_iadd hx hb dX4_beginAct_26 ?_
  refine lv_bipush (v := (10 : Int32)) hx hb dX4_beginAct_27 (by decide) ?_
  obtain ⟨v6, hv6, hF⟩ := bd hF
  refine sx_irem hx hb hv6 dX4_beginAct_29 ?_
  obtain ⟨S7, eS7, hF⟩ := nm_some hF
  refine fp_X4_48 hx hb hown hts hE hs 0 rfl (ws' := WX G a S7) (Nat.le_of_ble_eq_true rfl) (by subst eS7; rfl) dX4_beginAct_30 (fun H locs hs => ?_)
  refine lv_aload_n hx hb dX4_beginAct_33 rfl (lv_at hl 0 rfl) ?_
  refine lv_aload_n hx hb dX4_beginAct_34 rfl (lv_at hl 0 rfl) ?_
  refine fg_X4_45 hx hb hown hts hE hs 0 rfl (v := .int (x_undoable S7)) rfl dX4_beginAct_35 ?_
  refine lv_iconst (v := (1 : Int32)) hx hb dX4_beginAct_38 (by decide) ?_
  refine lv_iadd hx hb dX4_beginAct_39 ?_
  refine lv_bipush (v := (10 : Int32)) hx hb dX4_beginAct_40 (by decide) ?_
  refine va_mmin hx hb (hml.trans hl.1.symm) hown (hts _ g827) (hts _ g495) (hts _ g131) (hts _ g496) (Nat.le_of_ble_eq_true rfl) (Nat.le_of_ble_eq_true rfl) (Nat.le_refl 0) (Nat.le_refl 0) dX4_beginAct_42 ?_
  obtain ⟨v8, ev8, hF⟩ := nm_some hF
  refine sx_topi ev8 ?_
  obtain ⟨S9, eS9, hF⟩ := nm_some hF
  refine fp_X4_45 hx hb hown hts hE hs 0 rfl (ws' := WX G a S9) (Nat.le_of_ble_eq_true rfl) (by subst eS9; rfl) dX4_beginAct_45 (fun H locs hs => ?_)
  exact sx_vret hx hb hr hlk hQ (congrArg (fun z => WX G a z) (Option.some.inj hF)) hs dX4_beginAct_48
set_option maxHeartbeats 4000000 in
set_option maxRecDepth 100000 in
theorem c_X4_shift (G : GT) (l : Launch) (a : Nat → Nat) (S : XS) (x1 : Int32) (x2 : Int32) (x3 : Int32) (r : Int32 × XS) (hF : F_X4_shift S x1 x2 x3 = some r) : MT G l yX4_shift cX4_shift 4 (some .int) 3 81 [.ref (a 0), .int x1, .int x2, .int x3] (WX G a S) (some (.int r.1)) (WX G a r.2) := by
  refine MT.of (by decide) (Nat.le_of_ble_eq_true rfl) ?_
  intro p e s m args below meth c A ls hx hb hr hml hown hts hlk hE hA hs hl Q hQ
  have hl : lv_has ls 4 [(0, .ref (a 0)), (1, .int x1), (2, .int x2), (3, .int x3)] := hl
  have hJ16_n : ∀ (S : XS) (H : Heap) (locs : List Loc) (ls : Array Slot), J_X4_shift_16 S = some r → SI G A s H locs (WX G a S) → lv_has ls 4 [(0, .ref (a 0))] → W p l e (RM 3 81) s m args below meth c H locs 0 0 Q (F0 m 16 ls []) := by
    intro S H locs ls hF hs hl
    unfold J_X4_shift_16 at hF
    refine lv_aload_n hx hb dX4_shift_16 rfl (lv_at hl 0 rfl) ?_
    refine lv_iconst (v := (1 : Int32)) hx hb dX4_shift_17 (by decide) ?_
    obtain ⟨q2, hq2, hF⟩ := bd hF
    refine sx_V (As := [.int (1 : Int32)]) (rest := []) (st1 := [.int q2.1]) (c_X4_none G l a S (1 : Int32) q2 hq2) v_X4_68 ⟨(Nat.le_of_ble_eq_true rfl), (Nat.le_of_ble_eq_true rfl)⟩ hx hb hml hown hts hE hA hs ⟨Nat.le_refl 0, Nat.le_refl 0⟩ 0 rfl rfl rfl rfl rfl hl.1 (Nat.le_of_ble_eq_true rfl) dX4_shift_18 (pmW _) (ws' := WX G a q2.2) (pmW _) (fun H locs hs => ?_)
    exact sx_iret hx hb hr hlk hQ (congrArg Prod.fst (Option.some.inj hF)) (congrArg (fun z => WX G a z) (congrArg Prod.snd (Option.some.inj hF))) hs dX4_shift_21
  have hJ56_n : ∀ (S : XS) (H : Heap) (locs : List Loc) (ls : Array Slot), J_X4_shift_56 S = some r → SI G A s H locs (WX G a S) → lv_has ls 4 [(0, .ref (a 0))] → W p l e (RM 3 81) s m args below meth c H locs 0 0 Q (F0 m 56 ls []) := by
    intro S H locs ls hF hs hl
    unfold J_X4_shift_56 at hF
    refine lv_aload_n hx hb dX4_shift_56 rfl (lv_at hl 0 rfl) ?_
    refine lv_iconst (v := (5 : Int32)) hx hb dX4_shift_57 (by decide) ?_
    obtain ⟨q5, hq5, hF⟩ := bd hF
    refine sx_V (As := [.int (5 : Int32)]) (rest := []) (st1 := [.int q5.1]) (c_X4_none G l a S (5 : Int32) q5 hq5) v_X4_68 ⟨(Nat.le_of_ble_eq_true rfl), (Nat.le_of_ble_eq_true rfl)⟩ hx hb hml hown hts hE hA hs ⟨Nat.le_refl 0, Nat.le_refl 0⟩ 0 rfl rfl rfl rfl rfl hl.1 (Nat.le_of_ble_eq_true rfl) dX4_shift_58 (pmW _) (ws' := WX G a q5.2) (pmW _) (fun H locs hs => ?_)
    exact sx_iret hx hb hr hlk hQ (congrArg Prod.fst (Option.some.inj hF)) (congrArg (fun z => WX G a z) (congrArg Prod.snd (Option.some.inj hF))) hs dX4_shift_61
  unfold F_X4_shift at hF
  refine lv_aload_n hx hb dX4_shift_0 rfl (lv_at hl 0 rfl) ?_
  refine lv_iload_n hx hb dX4_shift_1 rfl (lv_at hl 1 rfl) ?_
  obtain ⟨q1, hq1, hF⟩ := bd hF
  refine sx_V (As := [.int x1]) (rest := []) (st1 := [.int q1]) (c_X4_hasShip G l a S x1 q1 hq1) v_X4_105 ⟨(Nat.le_of_ble_eq_true rfl), (Nat.le_of_ble_eq_true rfl)⟩ hx hb hml hown hts hE hA hs ⟨Nat.le_refl 0, Nat.le_refl 0⟩ 0 rfl rfl rfl rfl rfl hl.1 (Nat.le_of_ble_eq_true rfl) dX4_shift_2 (pmW _) (ws' := WX G a S) (pmW _) (fun H locs hs => ?_)
  refine lv_if_eq (tgt := 16) hx hb dX4_shift_5 (by decide) (fun hc => ?_) (fun hc => ?_)
  · have hF := (if_pos hc).symm.trans hF
    exact hJ16_n S _ _ _ hF hs (lv_sub hl [0] rfl)
  · have hF := (if_neg hc).symm.trans hF
    refine lv_aload_n hx hb dX4_shift_8 rfl (lv_at hl 0 rfl) ?_
    refine lv_iload_n hx hb dX4_shift_9 rfl (lv_at hl 2 rfl) ?_
    obtain ⟨q3, hq3, hF⟩ := bd hF
    refine sx_V (As := [.int x2]) (rest := []) (st1 := [.int q3]) (c_X4_hasShip G l a S x2 q3 hq3) v_X4_105 ⟨(Nat.le_of_ble_eq_true rfl), (Nat.le_of_ble_eq_true rfl)⟩ hx hb hml hown hts hE hA hs ⟨Nat.le_refl 0, Nat.le_refl 0⟩ 0 rfl rfl rfl rfl rfl hl.1 (Nat.le_of_ble_eq_true rfl) dX4_shift_10 (pmW _) (ws' := WX G a S) (pmW _) (fun H locs hs => ?_)
    refine lv_if_ne (tgt := 22) hx hb dX4_shift_13 (by decide) (fun hc => ?_) (fun hc => ?_)
    · have hF := (if_neg hc).symm.trans hF
      refine lv_iload_n hx hb dX4_shift_22 rfl (lv_at hl 3 rfl) ?_
      refine lv_iconst (v := (1 : Int32)) hx hb dX4_shift_23 (by decide) ?_
      refine lv_bipush (v := (10 : Int32)) hx hb dX4_shift_24 (by decide) ?_
      obtain ⟨q4, hq4, hF⟩ := bd hF
      refine sx_S (As := [.int x3, .int (1 : Int32), .int (10 : Int32)]) (rest := []) (st1 := [.int q4]) (c_X4_within G l  x3 (1 : Int32) (10 : Int32) q4 hq4) v_X4_64 ⟨(Nat.le_of_ble_eq_true rfl), (Nat.le_of_ble_eq_true rfl)⟩ hx hb hml hown hts hE hA hs ⟨Nat.le_refl 0, Nat.le_refl 0⟩ rfl rfl rfl hl.1 (Nat.le_of_ble_eq_true rfl) dX4_shift_26 (List.Perm.refl _) (ws' := WX G a S) (List.Perm.refl _) (fun H locs hs => ?_)
      refine lv_if_ne (tgt := 38) hx hb dX4_shift_29 (by decide) (fun hc => ?_) (fun hc => ?_)
      · have hF := (if_neg hc).symm.trans hF
        refine lv_iload_n hx hb dX4_shift_38 rfl (lv_at hl 1 rfl) ?_
        refine lv_iload_n hx hb dX4_shift_39 rfl (lv_at hl 2 rfl) ?_
        refine lv_icmp_eq (tgt := 56) hx hb dX4_shift_40 (by decide) (fun hc => ?_) (fun hc => ?_)
        · have hF := (if_pos hc).symm.trans hF
          exact hJ56_n S _ _ _ hF hs (lv_sub hl [0] rfl)
        · have hF := (if_neg hc).symm.trans hF
          refine lv_aload_n hx hb dX4_shift_43 rfl (lv_at hl 0 rfl) ?_
          refine fg_X4_19 hx hb hown hts hE hs 0 rfl (v := .ref (a 12)) rfl dX4_shift_44 ?_
          refine lv_iload_n hx hb dX4_shift_47 rfl (lv_at hl 1 rfl) ?_
          refine lv_iconst (v := (1 : Int32)) hx hb dX4_shift_48 (by decide) ?_
          obtain ⟨q6, hq6, hF⟩ := bd hF
          refine sx_N (As := [.int x1, .int (1 : Int32)]) (rest := []) (st1 := [.int q6]) (c_X2_ofShip G l (fun k => a (12 + k)) (x_now S) x1 (1 : Int32) q6 hq6) v_X4_112 ⟨(Nat.le_of_ble_eq_true rfl), (Nat.le_of_ble_eq_true rfl)⟩ hx hb hml hown hts hE hA hs ⟨Nat.le_refl 0, Nat.le_refl 0⟩ 12 rfl rfl rfl rfl rfl hl.1 (Nat.le_of_ble_eq_true rfl) dX4_shift_49 (pX_now G a S (x_now S)) (ws' := WX G a S) (pX_now G a S (x_now S)) (fun H locs hs => ?_)
          refine lv_iload_n hx hb dX4_shift_52 rfl (lv_at hl 3 rfl) ?_
          refine lv_icmp_ge (tgt := 62) hx hb dX4_shift_53 (by decide) (fun hc => ?_) (fun hc => ?_)
          · have hF := (if_pos hc).symm.trans hF
            refine lv_aload_n hx hb dX4_shift_62 rfl (lv_at hl 0 rfl) ?_
            obtain ⟨q7, hq7, hF⟩ := bd hF
            refine sx_V (As := []) (rest := []) (st1 := []) (c_X4_beginAct G l a S q7 hq7) v_X4_224 ⟨(Nat.le_of_ble_eq_true rfl), (Nat.le_of_ble_eq_true rfl)⟩ hx hb hml hown hts hE hA hs ⟨Nat.le_refl 0, Nat.le_refl 0⟩ 0 rfl rfl rfl rfl rfl hl.1 (Nat.le_of_ble_eq_true rfl) dX4_shift_63 (pmW _) (ws' := WX G a q7) (pmW _) (fun H locs hs => ?_)
            refine lv_aload_n hx hb dX4_shift_66 rfl (lv_at hl 0 rfl) ?_
            refine fg_X4_19 hx hb hown hts hE hs 0 rfl (v := .ref (a 12)) rfl dX4_shift_67 ?_
            refine lv_iload_n hx hb dX4_shift_70 rfl (lv_at hl 1 rfl) ?_
            refine lv_iconst (v := (1 : Int32)) hx hb dX4_shift_71 (by decide) ?_
            refine lv_aload_n hx hb dX4_shift_72 rfl (lv_at hl 0 rfl) ?_
            refine fg_X4_19 hx hb hown hts hE hs 0 rfl (v := .ref (a 12)) rfl dX4_shift_73 ?_
            refine lv_iload_n hx hb dX4_shift_76 rfl (lv_at hl 1 rfl) ?_
            refine lv_iconst (v := (1 : Int32)) hx hb dX4_shift_77 (by decide) ?_
            obtain ⟨q8, hq8, hF⟩ := bd hF
            refine sx_N (As := [.int x1, .int (1 : Int32)]) (rest := [.int (1 : Int32), .int x1, .ref (a 12)]) (st1 := [.int q8, .int (1 : Int32), .int x1, .ref (a 12)]) (c_X2_ofShip G l (fun k => a (12 + k)) (x_now q7) x1 (1 : Int32) q8 hq8) v_X4_112 ⟨(Nat.le_of_ble_eq_true rfl), (Nat.le_of_ble_eq_true rfl)⟩ hx hb hml hown hts hE hA hs ⟨Nat.le_refl 0, Nat.le_refl 0⟩ 12 rfl rfl rfl rfl rfl hl.1 (Nat.le_of_ble_eq_true rfl) dX4_shift_78 (pX_now G a q7 (x_now q7)) (ws' := WX G a q7) (pX_now G a q7 (x_now q7)) (fun H locs hs => ?_)
            refine lv_iload_n hx hb dX4_shift_81 rfl (lv_at hl 3 rfl) ?_
            refine lv_isub hx hb dX4_shift_82 ?_
            obtain ⟨q9, hq9, hF⟩ := bd hF
            obtain ⟨S10, eS10, hF⟩ := nm_some hF
            refine sx_N (As := [.int x1, .int (1 : Int32), .int (q8 - x3)]) (rest := []) (st1 := []) (c_X2_setShip G l (fun k => a (12 + k)) (x_now q7) x1 (1 : Int32) (q8 - x3) q9 hq9) v_X4_227 ⟨(Nat.le_of_ble_eq_true rfl), (Nat.le_of_ble_eq_true rfl)⟩ hx hb hml hown hts hE hA hs ⟨Nat.le_refl 0, Nat.le_refl 0⟩ 12 rfl rfl rfl rfl rfl hl.1 (Nat.le_of_ble_eq_true rfl) dX4_shift_83 (pX_now G a q7 (x_now q7)) (ws' := WX G a S10) (by subst eS10; exact pX_now G a q7 q9) (fun H locs hs => ?_)
            refine lv_aload_n hx hb dX4_shift_86 rfl (lv_at hl 0 rfl) ?_
            refine fg_X4_19 hx hb hown hts hE hs 0 rfl (v := .ref (a 12)) rfl dX4_shift_87 ?_
            refine lv_iload_n hx hb dX4_shift_90 rfl (lv_at hl 2 rfl) ?_
            refine lv_iconst (v := (1 : Int32)) hx hb dX4_shift_91 (by decide) ?_
            refine lv_aload_n hx hb dX4_shift_92 rfl (lv_at hl 0 rfl) ?_
            refine fg_X4_19 hx hb hown hts hE hs 0 rfl (v := .ref (a 12)) rfl dX4_shift_93 ?_
            refine lv_iload_n hx hb dX4_shift_96 rfl (lv_at hl 2 rfl) ?_
            refine lv_iconst (v := (1 : Int32)) hx hb dX4_shift_97 (by decide) ?_
            obtain ⟨q11, hq11, hF⟩ := bd hF
            refine sx_N (As := [.int x2, .int (1 : Int32)]) (rest := [.int (1 : Int32), .int x2, .ref (a 12)]) (st1 := [.int q11, .int (1 : Int32), .int x2, .ref (a 12)]) (c_X2_ofShip G l (fun k => a (12 + k)) (x_now S10) x2 (1 : Int32) q11 hq11) v_X4_112 ⟨(Nat.le_of_ble_eq_true rfl), (Nat.le_of_ble_eq_true rfl)⟩ hx hb hml hown hts hE hA hs ⟨Nat.le_refl 0, Nat.le_refl 0⟩ 12 rfl rfl rfl rfl rfl hl.1 (Nat.le_of_ble_eq_true rfl) dX4_shift_98 (pX_now G a S10 (x_now S10)) (ws' := WX G a S10) (pX_now G a S10 (x_now S10)) (fun H locs hs => ?_)
            refine lv_iload_n hx hb dX4_shift_101 rfl (lv_at hl 3 rfl) ?_
            refine lv_iadd hx hb dX4_shift_102 ?_
            obtain ⟨q12, hq12, hF⟩ := bd hF
            obtain ⟨S13, eS13, hF⟩ := nm_some hF
            refine sx_N (As := [.int x2, .int (1 : Int32), .int (q11 + x3)]) (rest := []) (st1 := []) (c_X2_setShip G l (fun k => a (12 + k)) (x_now S10) x2 (1 : Int32) (q11 + x3) q12 hq12) v_X4_227 ⟨(Nat.le_of_ble_eq_true rfl), (Nat.le_of_ble_eq_true rfl)⟩ hx hb hml hown hts hE hA hs ⟨Nat.le_refl 0, Nat.le_refl 0⟩ 12 rfl rfl rfl rfl rfl hl.1 (Nat.le_of_ble_eq_true rfl) dX4_shift_103 (pX_now G a S10 (x_now S10)) (ws' := WX G a S13) (by subst eS13; exact pX_now G a S10 q12) (fun H locs hs => ?_)
            refine lv_aload_n hx hb dX4_shift_106 rfl (lv_at hl 0 rfl) ?_
            refine fg_X4_19 hx hb hown hts hE hs 0 rfl (v := .ref (a 12)) rfl dX4_shift_107 ?_
            refine lv_iload_n hx hb dX4_shift_110 rfl (lv_at hl 2 rfl) ?_
            refine lv_iconst (v := (1 : Int32)) hx hb dX4_shift_111 (by decide) ?_
            obtain ⟨q14, hq14, hF⟩ := bd hF
            refine sx_N (As := [.int x2, .int (1 : Int32)]) (rest := []) (st1 := [.int q14]) (c_X2_ofShip G l (fun k => a (12 + k)) (x_now S13) x2 (1 : Int32) q14 hq14) v_X4_112 ⟨(Nat.le_of_ble_eq_true rfl), (Nat.le_of_ble_eq_true rfl)⟩ hx hb hml hown hts hE hA hs ⟨Nat.le_refl 0, Nat.le_refl 0⟩ 12 rfl rfl rfl rfl rfl hl.1 (Nat.le_of_ble_eq_true rfl) dX4_shift_112 (pX_now G a S13 (x_now S13)) (ws' := WX G a S13) (pX_now G a S13 (x_now S13)) (fun H locs hs => ?_)
            exact sx_iret hx hb hr hlk hQ (congrArg Prod.fst (Option.some.inj hF)) (congrArg (fun z => WX G a z) (congrArg Prod.snd (Option.some.inj hF))) hs dX4_shift_115
          · have hF := (if_neg hc).symm.trans hF
            exact hJ56_n S _ _ _ hF hs (lv_sub hl [0] rfl)
      · have hF := (if_pos hc).symm.trans hF
        refine lv_aload_n hx hb dX4_shift_32 rfl (lv_at hl 0 rfl) ?_
        refine lv_iconst (v := (2 : Int32)) hx hb dX4_shift_33 (by decide) ?_
        obtain ⟨q15, hq15, hF⟩ := bd hF
        refine sx_V (As := [.int (2 : Int32)]) (rest := []) (st1 := [.int q15.1]) (c_X4_none G l a S (2 : Int32) q15 hq15) v_X4_68 ⟨(Nat.le_of_ble_eq_true rfl), (Nat.le_of_ble_eq_true rfl)⟩ hx hb hml hown hts hE hA hs ⟨Nat.le_refl 0, Nat.le_refl 0⟩ 0 rfl rfl rfl rfl rfl hl.1 (Nat.le_of_ble_eq_true rfl) dX4_shift_34 (pmW _) (ws' := WX G a q15.2) (pmW _) (fun H locs hs => ?_)
        exact sx_iret hx hb hr hlk hQ (congrArg Prod.fst (Option.some.inj hF)) (congrArg (fun z => WX G a z) (congrArg Prod.snd (Option.some.inj hF))) hs dX4_shift_37
    · have hF := (if_pos hc).symm.trans hF
      exact hJ16_n S _ _ _ hF hs (lv_sub hl [0] rfl)
set_option maxHeartbeats 4000000 in
set_option maxRecDepth 100000 in
theorem c_X4_file (G : GT) (l : Launch) (a : Nat → Nat) (S : XS) (x1 : Int32) (x2 : Int32) (x3 : Int32) (x4 : Int32) (r : Int32 × XS) (hF : F_X4_file S x1 x2 x3 x4 = some r) : MT G l yX4_file cX4_file 5 (some .int) 3 81 [.ref (a 0), .int x1, .int x2, .int x3, .int x4] (WX G a S) (some (.int r.1)) (WX G a r.2) := by
  refine MT.of (by decide) (Nat.le_of_ble_eq_true rfl) ?_
  intro p e s m args below meth c A ls hx hb hr hml hown hts hlk hE hA hs hl Q hQ
  have hl : lv_has ls 5 [(0, .ref (a 0)), (1, .int x1), (2, .int x2), (3, .int x3), (4, .int x4)] := hl
  have hJ28_n : ∀ (S : XS) (H : Heap) (locs : List Loc) (ls : Array Slot), J_X4_file_28 S = some r → SI G A s H locs (WX G a S) → lv_has ls 5 [(0, .ref (a 0))] → W p l e (RM 3 81) s m args below meth c H locs 0 0 Q (F0 m 28 ls []) := by
    intro S H locs ls hF hs hl
    unfold J_X4_file_28 at hF
    refine lv_aload_n hx hb dX4_file_28 rfl (lv_at hl 0 rfl) ?_
    refine lv_iconst (v := (1 : Int32)) hx hb dX4_file_29 (by decide) ?_
    obtain ⟨q2, hq2, hF⟩ := bd hF
    refine sx_V (As := [.int (1 : Int32)]) (rest := []) (st1 := [.int q2.1]) (c_X4_none G l a S (1 : Int32) q2 hq2) v_X4_68 ⟨(Nat.le_of_ble_eq_true rfl), (Nat.le_of_ble_eq_true rfl)⟩ hx hb hml hown hts hE hA hs ⟨Nat.le_refl 0, Nat.le_refl 0⟩ 0 rfl rfl rfl rfl rfl hl.1 (Nat.le_of_ble_eq_true rfl) dX4_file_30 (pmW _) (ws' := WX G a q2.2) (pmW _) (fun H locs hs => ?_)
    exact sx_iret hx hb hr hlk hQ (congrArg Prod.fst (Option.some.inj hF)) (congrArg (fun z => WX G a z) (congrArg Prod.snd (Option.some.inj hF))) hs dX4_file_33
  have hJ56_n : ∀ (S : XS) (H : Heap) (locs : List Loc) (ls : Array Slot), J_X4_file_56 S = some r → SI G A s H locs (WX G a S) → lv_has ls 5 [(0, .ref (a 0))] → W p l e (RM 3 81) s m args below meth c H locs 0 0 Q (F0 m 56 ls []) := by
    intro S H locs ls hF hs hl
    unfold J_X4_file_56 at hF
    refine lv_aload_n hx hb dX4_file_56 rfl (lv_at hl 0 rfl) ?_
    refine lv_iconst (v := (2 : Int32)) hx hb dX4_file_57 (by decide) ?_
    obtain ⟨q5, hq5, hF⟩ := bd hF
    refine sx_V (As := [.int (2 : Int32)]) (rest := []) (st1 := [.int q5.1]) (c_X4_none G l a S (2 : Int32) q5 hq5) v_X4_68 ⟨(Nat.le_of_ble_eq_true rfl), (Nat.le_of_ble_eq_true rfl)⟩ hx hb hml hown hts hE hA hs ⟨Nat.le_refl 0, Nat.le_refl 0⟩ 0 rfl rfl rfl rfl rfl hl.1 (Nat.le_of_ble_eq_true rfl) dX4_file_58 (pmW _) (ws' := WX G a q5.2) (pmW _) (fun H locs hs => ?_)
    exact sx_iret hx hb hr hlk hQ (congrArg Prod.fst (Option.some.inj hF)) (congrArg (fun z => WX G a z) (congrArg Prod.snd (Option.some.inj hF))) hs dX4_file_61
  have hJ34_n : ∀ (S : XS) (x1 : Int32) (x2 : Int32) (x3 : Int32) (x4 : Int32) (H : Heap) (locs : List Loc) (ls : Array Slot), J_X4_file_34 S x1 x2 x3 x4 = some r → SI G A s H locs (WX G a S) → lv_has ls 5 [(0, .ref (a 0)), (1, .int x1), (2, .int x2), (3, .int x3), (4, .int x4)] → W p l e (RM 3 81) s m args below meth c H locs 0 0 Q (F0 m 34 ls []) := by
    intro S x1 x2 x3 x4 H locs ls hF hs hl
    unfold J_X4_file_34 at hF
    refine lv_iload_n hx hb dX4_file_34 rfl (lv_at hl 3 rfl) ?_
    refine lv_iconst (v := (1 : Int32)) hx hb dX4_file_35 (by decide) ?_
    refine lv_ldc (v := (9999999 : Int32)) hx hb hown (hts _ g519) dX4_file_36 ?_
    obtain ⟨q4, hq4, hF⟩ := bd hF
    refine sx_S (As := [.int x3, .int (1 : Int32), .int (9999999 : Int32)]) (rest := []) (st1 := [.int q4]) (c_X4_within G l  x3 (1 : Int32) (9999999 : Int32) q4 hq4) v_X4_64 ⟨(Nat.le_of_ble_eq_true rfl), (Nat.le_of_ble_eq_true rfl)⟩ hx hb hml hown hts hE hA hs ⟨Nat.le_refl 0, Nat.le_refl 0⟩ rfl rfl rfl hl.1 (Nat.le_of_ble_eq_true rfl) dX4_file_38 (List.Perm.refl _) (ws' := WX G a S) (List.Perm.refl _) (fun H locs hs => ?_)
    refine lv_if_eq (tgt := 56) hx hb dX4_file_41 (by decide) (fun hc => ?_) (fun hc => ?_)
    · have hF := (if_pos hc).symm.trans hF
      exact hJ56_n S _ _ _ hF hs (lv_sub hl [0] rfl)
    · have hF := (if_neg hc).symm.trans hF
      refine lv_iload hx hb dX4_file_44 (lv_at hl 4 rfl) ?_
      refine lv_iconst (v := (0 : Int32)) hx hb dX4_file_46 (by decide) ?_
      refine lv_sipush (v := (999 : Int32)) hx hb dX4_file_47 (by decide) ?_
      obtain ⟨q6, hq6, hF⟩ := bd hF
      refine sx_S (As := [.int x4, .int (0 : Int32), .int (999 : Int32)]) (rest := []) (st1 := [.int q6]) (c_X4_within G l  x4 (0 : Int32) (999 : Int32) q6 hq6) v_X4_64 ⟨(Nat.le_of_ble_eq_true rfl), (Nat.le_of_ble_eq_true rfl)⟩ hx hb hml hown hts hE hA hs ⟨Nat.le_refl 0, Nat.le_refl 0⟩ rfl rfl rfl hl.1 (Nat.le_of_ble_eq_true rfl) dX4_file_50 (List.Perm.refl _) (ws' := WX G a S) (List.Perm.refl _) (fun H locs hs => ?_)
      refine lv_if_ne (tgt := 62) hx hb dX4_file_53 (by decide) (fun hc => ?_) (fun hc => ?_)
      · have hF := (if_neg hc).symm.trans hF
        refine lv_aload_n hx hb dX4_file_62 rfl (lv_at hl 0 rfl) ?_
        refine fg_X4_19 hx hb hown hts hE hs 0 rfl (v := .ref (a 12)) rfl dX4_file_63 ?_
        refine fg_X4_98 hx hb hown hts hE hs 12 rfl (v := .int (t_claims (x_now S))) rfl dX4_file_66 ?_
        refine lv_bipush (v := (12 : Int32)) hx hb dX4_file_69 (by decide) ?_
        refine lv_icmp_lt (tgt := 80) hx hb dX4_file_71 (by decide) (fun hc => ?_) (fun hc => ?_)
        · have hF := (if_pos hc).symm.trans hF
          refine lv_aload_n hx hb dX4_file_80 rfl (lv_at hl 0 rfl) ?_
          obtain ⟨q7, hq7, hF⟩ := bd hF
          refine sx_V (As := []) (rest := []) (st1 := []) (c_X4_beginAct G l a S q7 hq7) v_X4_224 ⟨(Nat.le_of_ble_eq_true rfl), (Nat.le_of_ble_eq_true rfl)⟩ hx hb hml hown hts hE hA hs ⟨Nat.le_refl 0, Nat.le_refl 0⟩ 0 rfl rfl rfl rfl rfl hl.1 (Nat.le_of_ble_eq_true rfl) dX4_file_81 (pmW _) (ws' := WX G a q7) (pmW _) (fun H locs hs => ?_)
          refine lv_aload_n hx hb dX4_file_84 rfl (lv_at hl 0 rfl) ?_
          refine fg_X4_19 hx hb hown hts hE hs 0 rfl (v := .ref (a 12)) rfl dX4_file_85 ?_
          refine lv_iload_n hx hb dX4_file_88 rfl (lv_at hl 1 rfl) ?_
          refine lv_iload_n hx hb dX4_file_89 rfl (lv_at hl 2 rfl) ?_
          refine lv_iload_n hx hb dX4_file_90 rfl (lv_at hl 3 rfl) ?_
          refine lv_iload hx hb dX4_file_91 (lv_at hl 4 rfl) ?_
          obtain ⟨q8, hq8, hF⟩ := bd hF
          obtain ⟨S9, eS9, hF⟩ := nm_some hF
          refine sx_N (As := [.int x1, .int x2, .int x3, .int x4]) (rest := []) (st1 := []) (c_X2_addClaim G l (fun k => a (12 + k)) (x_now q7) x1 x2 x3 x4 q8 hq8) v_X4_231 ⟨(Nat.le_of_ble_eq_true rfl), (Nat.le_of_ble_eq_true rfl)⟩ hx hb hml hown hts hE hA hs ⟨Nat.le_refl 0, Nat.le_refl 0⟩ 12 rfl rfl rfl rfl rfl hl.1 (Nat.le_of_ble_eq_true rfl) dX4_file_93 (pX_now G a q7 (x_now q7)) (ws' := WX G a S9) (by subst eS9; exact pX_now G a q7 q8) (fun H locs hs => ?_)
          refine lv_aload_n hx hb dX4_file_96 rfl (lv_at hl 0 rfl) ?_
          refine fg_X4_19 hx hb hown hts hE hs 0 rfl (v := .ref (a 12)) rfl dX4_file_97 ?_
          refine fg_X4_98 hx hb hown hts hE hs 12 rfl (v := .int (t_claims (x_now S9))) rfl dX4_file_100 ?_
          refine lv_iconst (v := (1 : Int32)) hx hb dX4_file_103 (by decide) ?_
          refine lv_isub hx hb dX4_file_104 ?_
          exact sx_iret hx hb hr hlk hQ (congrArg Prod.fst (Option.some.inj hF)) (congrArg (fun z => WX G a z) (congrArg Prod.snd (Option.some.inj hF))) hs dX4_file_105
        · have hF := (if_neg hc).symm.trans hF
          refine lv_aload_n hx hb dX4_file_74 rfl (lv_at hl 0 rfl) ?_
          refine lv_iconst (v := (3 : Int32)) hx hb dX4_file_75 (by decide) ?_
          obtain ⟨q10, hq10, hF⟩ := bd hF
          refine sx_V (As := [.int (3 : Int32)]) (rest := []) (st1 := [.int q10.1]) (c_X4_none G l a S (3 : Int32) q10 hq10) v_X4_68 ⟨(Nat.le_of_ble_eq_true rfl), (Nat.le_of_ble_eq_true rfl)⟩ hx hb hml hown hts hE hA hs ⟨Nat.le_refl 0, Nat.le_refl 0⟩ 0 rfl rfl rfl rfl rfl hl.1 (Nat.le_of_ble_eq_true rfl) dX4_file_76 (pmW _) (ws' := WX G a q10.2) (pmW _) (fun H locs hs => ?_)
          exact sx_iret hx hb hr hlk hQ (congrArg Prod.fst (Option.some.inj hF)) (congrArg (fun z => WX G a z) (congrArg Prod.snd (Option.some.inj hF))) hs dX4_file_79
      · have hF := (if_pos hc).symm.trans hF
        exact hJ56_n S _ _ _ hF hs (lv_sub hl [0] rfl)
  unfold F_X4_file at hF
  refine lv_aload_n hx hb dX4_file_0 rfl (lv_at hl 0 rfl) ?_
  obtain ⟨q1, hq1, hF⟩ := bd hF
  refine sx_V (As := []) (rest := []) (st1 := [.int q1]) (c_X4_hasText G l a S q1 hq1) v_X4_94 ⟨(Nat.le_of_ble_eq_true rfl), (Nat.le_of_ble_eq_true rfl)⟩ hx hb hml hown hts hE hA hs ⟨Nat.le_refl 0, Nat.le_refl 0⟩ 0 rfl rfl rfl rfl rfl hl.1 (Nat.le_of_ble_eq_true rfl) dX4_file_1 (pmW _) (ws' := WX G a S) (pmW _) (fun H locs hs => ?_)
  refine lv_if_eq (tgt := 28) hx hb dX4_file_4 (by decide) (fun hc => ?_) (fun hc => ?_)
  · have hF := (if_pos hc).symm.trans hF
    exact hJ28_n S _ _ _ hF hs (lv_sub hl [0] rfl)
  · have hF := (if_neg hc).symm.trans hF
    refine lv_iload_n hx hb dX4_file_7 rfl (lv_at hl 1 rfl) ?_
    refine lv_iconst (v := (0 : Int32)) hx hb dX4_file_8 (by decide) ?_
    refine lv_iconst (v := (2 : Int32)) hx hb dX4_file_9 (by decide) ?_
    obtain ⟨q3, hq3, hF⟩ := bd hF
    refine sx_S (As := [.int x1, .int (0 : Int32), .int (2 : Int32)]) (rest := []) (st1 := [.int q3]) (c_X4_within G l  x1 (0 : Int32) (2 : Int32) q3 hq3) v_X4_64 ⟨(Nat.le_of_ble_eq_true rfl), (Nat.le_of_ble_eq_true rfl)⟩ hx hb hml hown hts hE hA hs ⟨Nat.le_refl 0, Nat.le_refl 0⟩ rfl rfl rfl hl.1 (Nat.le_of_ble_eq_true rfl) dX4_file_10 (List.Perm.refl _) (ws' := WX G a S) (List.Perm.refl _) (fun H locs hs => ?_)
    refine lv_if_eq (tgt := 28) hx hb dX4_file_13 (by decide) (fun hc => ?_) (fun hc => ?_)
    · have hF := (if_pos hc).symm.trans hF
      exact hJ28_n S _ _ _ hF hs (lv_sub hl [0] rfl)
    · have hF := (if_neg hc).symm.trans hF
      refine lv_iload_n hx hb dX4_file_16 rfl (lv_at hl 1 rfl) ?_
      refine lv_if_ne (tgt := 34) hx hb dX4_file_17 (by decide) (fun hc => ?_) (fun hc => ?_)
      · have hF := (if_neg hc).symm.trans hF
        exact hJ34_n S x1 x2 x3 x4 _ _ _ hF hs (lv_sub hl [0, 1, 2, 3, 4] rfl)
      · have hF := (if_pos hc).symm.trans hF
        refine lv_aload_n hx hb dX4_file_20 rfl (lv_at hl 0 rfl) ?_
        refine lv_iload_n hx hb dX4_file_21 rfl (lv_at hl 2 rfl) ?_
        obtain ⟨q11, hq11, hF⟩ := bd hF
        refine sx_V (As := [.int x2]) (rest := []) (st1 := [.int q11]) (c_X4_hasShip G l a S x2 q11 hq11) v_X4_105 ⟨(Nat.le_of_ble_eq_true rfl), (Nat.le_of_ble_eq_true rfl)⟩ hx hb hml hown hts hE hA hs ⟨Nat.le_refl 0, Nat.le_refl 0⟩ 0 rfl rfl rfl rfl rfl hl.1 (Nat.le_of_ble_eq_true rfl) dX4_file_22 (pmW _) (ws' := WX G a S) (pmW _) (fun H locs hs => ?_)
        refine lv_if_ne (tgt := 34) hx hb dX4_file_25 (by decide) (fun hc => ?_) (fun hc => ?_)
        · have hF := (if_neg hc).symm.trans hF
          exact hJ34_n S x1 x2 x3 x4 _ _ _ hF hs (lv_sub hl [0, 1, 2, 3, 4] rfl)
        · have hF := (if_pos hc).symm.trans hF
          exact hJ28_n S _ _ _ hF hs (lv_sub hl [0] rfl)
set_option maxHeartbeats 4000000 in
set_option maxRecDepth 100000 in
theorem c_X4_withdraw (G : GT) (l : Launch) (a : Nat → Nat) (S : XS) (x1 : Int32) (r : Int32 × XS) (hF : F_X4_withdraw S x1 = some r) : MT G l yX4_withdraw cX4_withdraw 2 (some .int) 3 81 [.ref (a 0), .int x1] (WX G a S) (some (.int r.1)) (WX G a r.2) := by
  refine MT.of (by decide) (Nat.le_of_ble_eq_true rfl) ?_
  intro p e s m args below meth c A ls hx hb hr hml hown hts hlk hE hA hs hl Q hQ
  have hl : lv_has ls 2 [(0, .ref (a 0)), (1, .int x1)] := hl
  unfold F_X4_withdraw at hF
  refine lv_aload_n hx hb dX4_withdraw_0 rfl (lv_at hl 0 rfl) ?_
  refine lv_iload_n hx hb dX4_withdraw_1 rfl (lv_at hl 1 rfl) ?_
  obtain ⟨q1, hq1, hF⟩ := bd hF
  refine sx_V (As := [.int x1]) (rest := []) (st1 := [.int q1]) (c_X4_hasClaim G l a S x1 q1 hq1) v_X4_116 ⟨(Nat.le_of_ble_eq_true rfl), (Nat.le_of_ble_eq_true rfl)⟩ hx hb hml hown hts hE hA hs ⟨Nat.le_refl 0, Nat.le_refl 0⟩ 0 rfl rfl rfl rfl rfl hl.1 (Nat.le_of_ble_eq_true rfl) dX4_withdraw_2 (pmW _) (ws' := WX G a S) (pmW _) (fun H locs hs => ?_)
  refine lv_if_ne (tgt := 14) hx hb dX4_withdraw_5 (by decide) (fun hc => ?_) (fun hc => ?_)
  · have hF := (if_neg hc).symm.trans hF
    refine lv_aload_n hx hb dX4_withdraw_14 rfl (lv_at hl 0 rfl) ?_
    obtain ⟨q2, hq2, hF⟩ := bd hF
    refine sx_V (As := []) (rest := []) (st1 := []) (c_X4_beginAct G l a S q2 hq2) v_X4_224 ⟨(Nat.le_of_ble_eq_true rfl), (Nat.le_of_ble_eq_true rfl)⟩ hx hb hml hown hts hE hA hs ⟨Nat.le_refl 0, Nat.le_refl 0⟩ 0 rfl rfl rfl rfl rfl hl.1 (Nat.le_of_ble_eq_true rfl) dX4_withdraw_15 (pmW _) (ws' := WX G a q2) (pmW _) (fun H locs hs => ?_)
    refine lv_aload_n hx hb dX4_withdraw_18 rfl (lv_at hl 0 rfl) ?_
    refine fg_X4_19 hx hb hown hts hE hs 0 rfl (v := .ref (a 12)) rfl dX4_withdraw_19 ?_
    refine lv_iload_n hx hb dX4_withdraw_22 rfl (lv_at hl 1 rfl) ?_
    obtain ⟨q3, hq3, hF⟩ := bd hF
    obtain ⟨S4, eS4, hF⟩ := nm_some hF
    refine sx_N (As := [.int x1]) (rest := []) (st1 := []) (c_X2_dropClaim G l (fun k => a (12 + k)) (x_now q2) x1 q3 hq3) v_X4_235 ⟨(Nat.le_of_ble_eq_true rfl), (Nat.le_of_ble_eq_true rfl)⟩ hx hb hml hown hts hE hA hs ⟨Nat.le_refl 0, Nat.le_refl 0⟩ 12 rfl rfl rfl rfl rfl hl.1 (Nat.le_of_ble_eq_true rfl) dX4_withdraw_23 (pX_now G a q2 (x_now q2)) (ws' := WX G a S4) (by subst eS4; exact pX_now G a q2 q3) (fun H locs hs => ?_)
    refine lv_aload_n hx hb dX4_withdraw_26 rfl (lv_at hl 0 rfl) ?_
    refine fg_X4_19 hx hb hown hts hE hs 0 rfl (v := .ref (a 12)) rfl dX4_withdraw_27 ?_
    refine fg_X4_98 hx hb hown hts hE hs 12 rfl (v := .int (t_claims (x_now S4))) rfl dX4_withdraw_30 ?_
    exact sx_iret hx hb hr hlk hQ (congrArg Prod.fst (Option.some.inj hF)) (congrArg (fun z => WX G a z) (congrArg Prod.snd (Option.some.inj hF))) hs dX4_withdraw_33
  · have hF := (if_pos hc).symm.trans hF
    refine lv_aload_n hx hb dX4_withdraw_8 rfl (lv_at hl 0 rfl) ?_
    refine lv_iconst (v := (1 : Int32)) hx hb dX4_withdraw_9 (by decide) ?_
    obtain ⟨q5, hq5, hF⟩ := bd hF
    refine sx_V (As := [.int (1 : Int32)]) (rest := []) (st1 := [.int q5.1]) (c_X4_none G l a S (1 : Int32) q5 hq5) v_X4_68 ⟨(Nat.le_of_ble_eq_true rfl), (Nat.le_of_ble_eq_true rfl)⟩ hx hb hml hown hts hE hA hs ⟨Nat.le_refl 0, Nat.le_refl 0⟩ 0 rfl rfl rfl rfl rfl hl.1 (Nat.le_of_ble_eq_true rfl) dX4_withdraw_10 (pmW _) (ws' := WX G a q5.2) (pmW _) (fun H locs hs => ?_)
    exact sx_iret hx hb hr hlk hQ (congrArg Prod.fst (Option.some.inj hF)) (congrArg (fun z => WX G a z) (congrArg Prod.snd (Option.some.inj hF))) hs dX4_withdraw_13
set_option maxHeartbeats 4000000 in
set_option maxRecDepth 100000 in
theorem c_X4_become (G : GT) (l : Launch) (a : Nat → Nat) (S : XS) (x1 : Int32) (x2 : Int32) (x3 : Int32) (r : Int32 × XS) (hF : F_X4_become S x1 x2 x3 = some r) : MT G l yX4_become cX4_become 5 (some .int) 3 81 [.ref (a 0), .int x1, .int x2, .int x3] (WX G a S) (some (.int r.1)) (WX G a r.2) := by
  refine MT.of (by decide) (Nat.le_of_ble_eq_true rfl) ?_
  intro p e s m args below meth c A ls hx hb hr hml hown hts hlk hE hA hs hl Q hQ
  have hl : lv_has ls 5 [(0, .ref (a 0)), (1, .int x1), (2, .int x2), (3, .int x3)] := hl
  have hJ22_n : ∀ (S : XS) (H : Heap) (locs : List Loc) (ls : Array Slot), J_X4_become_22 S = some r → SI G A s H locs (WX G a S) → lv_has ls 5 [(0, .ref (a 0))] → W p l e (RM 3 81) s m args below meth c H locs 0 0 Q (F0 m 22 ls []) := by
    intro S H locs ls hF hs hl
    unfold J_X4_become_22 at hF
    refine lv_aload_n hx hb dX4_become_22 rfl (lv_at hl 0 rfl) ?_
    refine lv_iconst (v := (1 : Int32)) hx hb dX4_become_23 (by decide) ?_
    obtain ⟨q2, hq2, hF⟩ := bd hF
    refine sx_V (As := [.int (1 : Int32)]) (rest := []) (st1 := [.int q2.1]) (c_X4_none G l a S (1 : Int32) q2 hq2) v_X4_68 ⟨(Nat.le_of_ble_eq_true rfl), (Nat.le_of_ble_eq_true rfl)⟩ hx hb hml hown hts hE hA hs ⟨Nat.le_refl 0, Nat.le_refl 0⟩ 0 rfl rfl rfl rfl rfl hl.1 (Nat.le_of_ble_eq_true rfl) dX4_become_24 (pmW _) (ws' := WX G a q2.2) (pmW _) (fun H locs hs => ?_)
    exact sx_iret hx hb hr hlk hQ (congrArg Prod.fst (Option.some.inj hF)) (congrArg (fun z => WX G a z) (congrArg Prod.snd (Option.some.inj hF))) hs dX4_become_27
  unfold F_X4_become at hF
  refine lv_aload_n hx hb dX4_become_0 rfl (lv_at hl 0 rfl) ?_
  refine lv_iload_n hx hb dX4_become_1 rfl (lv_at hl 1 rfl) ?_
  obtain ⟨q1, hq1, hF⟩ := bd hF
  refine sx_V (As := [.int x1]) (rest := []) (st1 := [.int q1]) (c_X4_hasShip G l a S x1 q1 hq1) v_X4_105 ⟨(Nat.le_of_ble_eq_true rfl), (Nat.le_of_ble_eq_true rfl)⟩ hx hb hml hown hts hE hA hs ⟨Nat.le_refl 0, Nat.le_refl 0⟩ 0 rfl rfl rfl rfl rfl hl.1 (Nat.le_of_ble_eq_true rfl) dX4_become_2 (pmW _) (ws' := WX G a S) (pmW _) (fun H locs hs => ?_)
  refine lv_if_eq (tgt := 22) hx hb dX4_become_5 (by decide) (fun hc => ?_) (fun hc => ?_)
  · have hF := (if_pos hc).symm.trans hF
    exact hJ22_n S _ _ _ hF hs (lv_sub hl [0] rfl)
  · have hF := (if_neg hc).symm.trans hF
    refine lv_iload_n hx hb dX4_become_8 rfl (lv_at hl 2 rfl) ?_
    refine lv_iconst (v := (0 : Int32)) hx hb dX4_become_9 (by decide) ?_
    refine lv_iconst (v := (5 : Int32)) hx hb dX4_become_10 (by decide) ?_
    obtain ⟨q3, hq3, hF⟩ := bd hF
    refine sx_S (As := [.int x2, .int (0 : Int32), .int (5 : Int32)]) (rest := []) (st1 := [.int q3]) (c_X4_within G l  x2 (0 : Int32) (5 : Int32) q3 hq3) v_X4_64 ⟨(Nat.le_of_ble_eq_true rfl), (Nat.le_of_ble_eq_true rfl)⟩ hx hb hml hown hts hE hA hs ⟨Nat.le_refl 0, Nat.le_refl 0⟩ rfl rfl rfl hl.1 (Nat.le_of_ble_eq_true rfl) dX4_become_11 (List.Perm.refl _) (ws' := WX G a S) (List.Perm.refl _) (fun H locs hs => ?_)
    refine lv_if_eq (tgt := 22) hx hb dX4_become_14 (by decide) (fun hc => ?_) (fun hc => ?_)
    · have hF := (if_pos hc).symm.trans hF
      exact hJ22_n S _ _ _ hF hs (lv_sub hl [0] rfl)
    · have hF := (if_neg hc).symm.trans hF
      refine lv_iload_n hx hb dX4_become_17 rfl (lv_at hl 2 rfl) ?_
      refine lv_iconst (v := (1 : Int32)) hx hb dX4_become_18 (by decide) ?_
      refine lv_icmp_ne (tgt := 28) hx hb dX4_become_19 (by decide) (fun hc => ?_) (fun hc => ?_)
      · have hF := (if_neg hc).symm.trans hF
        refine lv_iload_n hx hb dX4_become_28 rfl (lv_at hl 3 rfl) ?_
        refine va_gets (v := .ref (G.2.2.1 0)) hx hb (hE.2.2.1 0 (by decide)).1 hs.2.2 hown (hts _ g845) (fun _ h9 => h9) dX4_become_29 ?_
        refine lv_iload_n hx hb dX4_become_32 rfl (lv_at hl 2 rfl) ?_
        obtain ⟨v4, hv4, hF⟩ := bd hF
        refine sx_sald hx hb hE hs 0 (by decide) hv4 dX4_become_33 ?_
        refine va_gets (v := .ref (G.2.2.1 1)) hx hb (hE.2.2.1 1 (by decide)).1 hs.2.2 hown (hts _ g846) (fun _ h9 => h9) dX4_become_34 ?_
        refine lv_iload_n hx hb dX4_become_37 rfl (lv_at hl 2 rfl) ?_
        obtain ⟨v5, hv5, hF⟩ := bd hF
        refine sx_sald hx hb hE hs 1 (by decide) hv5 dX4_become_38 ?_
        obtain ⟨q6, hq6, hF⟩ := bd hF
        refine sx_S (As := [.int x3, .int v4, .int v5]) (rest := []) (st1 := [.int q6]) (c_X4_within G l  x3 v4 v5 q6 hq6) v_X4_64 ⟨(Nat.le_of_ble_eq_true rfl), (Nat.le_of_ble_eq_true rfl)⟩ hx hb hml hown hts hE hA hs ⟨Nat.le_refl 0, Nat.le_refl 0⟩ rfl rfl rfl hl.1 (Nat.le_of_ble_eq_true rfl) dX4_become_39 (List.Perm.refl _) (ws' := WX G a S) (List.Perm.refl _) (fun H locs hs => ?_)
        refine lv_if_ne (tgt := 51) hx hb dX4_become_42 (by decide) (fun hc => ?_) (fun hc => ?_)
        · have hF := (if_neg hc).symm.trans hF
          refine lv_aload_n hx hb dX4_become_51 rfl (lv_at hl 0 rfl) ?_
          obtain ⟨q7, hq7, hF⟩ := bd hF
          refine sx_V (As := []) (rest := []) (st1 := []) (c_X4_beginAct G l a S q7 hq7) v_X4_224 ⟨(Nat.le_of_ble_eq_true rfl), (Nat.le_of_ble_eq_true rfl)⟩ hx hb hml hown hts hE hA hs ⟨Nat.le_refl 0, Nat.le_refl 0⟩ 0 rfl rfl rfl rfl rfl hl.1 (Nat.le_of_ble_eq_true rfl) dX4_become_52 (pmW _) (ws' := WX G a q7) (pmW _) (fun H locs hs => ?_)
          refine lv_aload_n hx hb dX4_become_55 rfl (lv_at hl 0 rfl) ?_
          refine fg_X4_19 hx hb hown hts hE hs 0 rfl (v := .ref (a 12)) rfl dX4_become_56 ?_
          refine lv_iload_n hx hb dX4_become_59 rfl (lv_at hl 1 rfl) ?_
          refine lv_iload_n hx hb dX4_become_60 rfl (lv_at hl 2 rfl) ?_
          obtain ⟨q8, hq8, hF⟩ := bd hF
          refine sx_N (As := [.int x1, .int x2]) (rest := []) (st1 := [.int q8]) (c_X2_ofShip G l (fun k => a (12 + k)) (x_now q7) x1 x2 q8 hq8) v_X4_112 ⟨(Nat.le_of_ble_eq_true rfl), (Nat.le_of_ble_eq_true rfl)⟩ hx hb hml hown hts hE hA hs ⟨Nat.le_refl 0, Nat.le_refl 0⟩ 12 rfl rfl rfl rfl rfl hl.1 (Nat.le_of_ble_eq_true rfl) dX4_become_61 (pX_now G a q7 (x_now q7)) (ws' := WX G a q7) (pX_now G a q7 (x_now q7)) (fun H locs hs => ?_)
          refine lv_istore (lv' := [(4, .int q8), (0, .ref (a 0)), (1, .int x1), (2, .int x2), (3, .int x3)]) hx hb dX4_become_64 hl (by decide) rfl (fun ls hl => ?_)
          refine lv_aload_n hx hb dX4_become_66 rfl (lv_at hl 1 rfl) ?_
          refine fg_X4_19 hx hb hown hts hE hs 0 rfl (v := .ref (a 12)) rfl dX4_become_67 ?_
          refine lv_iload_n hx hb dX4_become_70 rfl (lv_at hl 2 rfl) ?_
          refine lv_iload_n hx hb dX4_become_71 rfl (lv_at hl 3 rfl) ?_
          refine lv_iload_n hx hb dX4_become_72 rfl (lv_at hl 4 rfl) ?_
          obtain ⟨q9, hq9, hF⟩ := bd hF
          obtain ⟨S10, eS10, hF⟩ := nm_some hF
          refine sx_N (As := [.int x1, .int x2, .int x3]) (rest := []) (st1 := []) (c_X2_setShip G l (fun k => a (12 + k)) (x_now q7) x1 x2 x3 q9 hq9) v_X4_227 ⟨(Nat.le_of_ble_eq_true rfl), (Nat.le_of_ble_eq_true rfl)⟩ hx hb hml hown hts hE hA hs ⟨Nat.le_refl 0, Nat.le_refl 0⟩ 12 rfl rfl rfl rfl rfl hl.1 (Nat.le_of_ble_eq_true rfl) dX4_become_73 (pX_now G a q7 (x_now q7)) (ws' := WX G a S10) (by subst eS10; exact pX_now G a q7 q9) (fun H locs hs => ?_)
          refine lv_iload hx hb dX4_become_76 (lv_at hl 0 rfl) ?_
          exact sx_iret hx hb hr hlk hQ (congrArg Prod.fst (Option.some.inj hF)) (congrArg (fun z => WX G a z) (congrArg Prod.snd (Option.some.inj hF))) hs dX4_become_78
        · have hF := (if_pos hc).symm.trans hF
          refine lv_aload_n hx hb dX4_become_45 rfl (lv_at hl 0 rfl) ?_
          refine lv_iconst (v := (2 : Int32)) hx hb dX4_become_46 (by decide) ?_
          obtain ⟨q11, hq11, hF⟩ := bd hF
          refine sx_V (As := [.int (2 : Int32)]) (rest := []) (st1 := [.int q11.1]) (c_X4_none G l a S (2 : Int32) q11 hq11) v_X4_68 ⟨(Nat.le_of_ble_eq_true rfl), (Nat.le_of_ble_eq_true rfl)⟩ hx hb hml hown hts hE hA hs ⟨Nat.le_refl 0, Nat.le_refl 0⟩ 0 rfl rfl rfl rfl rfl hl.1 (Nat.le_of_ble_eq_true rfl) dX4_become_47 (pmW _) (ws' := WX G a q11.2) (pmW _) (fun H locs hs => ?_)
          exact sx_iret hx hb hr hlk hQ (congrArg Prod.fst (Option.some.inj hF)) (congrArg (fun z => WX G a z) (congrArg Prod.snd (Option.some.inj hF))) hs dX4_become_50
      · have hF := (if_pos hc).symm.trans hF
        exact hJ22_n S _ _ _ hF hs (lv_sub hl [0] rfl)
set_option maxHeartbeats 4000000 in
set_option maxRecDepth 100000 in
theorem c_X4_law (G : GT) (l : Launch) (a : Nat → Nat) (S : XS) (x1 : Int32) (x2 : Int32) (r : Int32 × XS) (hF : F_X4_law S x1 x2 = some r) : MT G l yX4_law cX4_law 4 (some .int) 3 81 [.ref (a 0), .int x1, .int x2] (WX G a S) (some (.int r.1)) (WX G a r.2) := by
  refine MT.of (by decide) (Nat.le_of_ble_eq_true rfl) ?_
  intro p e s m args below meth c A ls hx hb hr hml hown hts hlk hE hA hs hl Q hQ
  have hl : lv_has ls 4 [(0, .ref (a 0)), (1, .int x1), (2, .int x2)] := hl
  have hJ17_n : ∀ (S : XS) (H : Heap) (locs : List Loc) (ls : Array Slot), J_X4_law_17 S = some r → SI G A s H locs (WX G a S) → lv_has ls 4 [(0, .ref (a 0))] → W p l e (RM 3 81) s m args below meth c H locs 0 0 Q (F0 m 17 ls []) := by
    intro S H locs ls hF hs hl
    unfold J_X4_law_17 at hF
    refine lv_aload_n hx hb dX4_law_17 rfl (lv_at hl 0 rfl) ?_
    refine lv_iconst (v := (1 : Int32)) hx hb dX4_law_18 (by decide) ?_
    obtain ⟨q2, hq2, hF⟩ := bd hF
    refine sx_V (As := [.int (1 : Int32)]) (rest := []) (st1 := [.int q2.1]) (c_X4_none G l a S (1 : Int32) q2 hq2) v_X4_68 ⟨(Nat.le_of_ble_eq_true rfl), (Nat.le_of_ble_eq_true rfl)⟩ hx hb hml hown hts hE hA hs ⟨Nat.le_refl 0, Nat.le_refl 0⟩ 0 rfl rfl rfl rfl rfl hl.1 (Nat.le_of_ble_eq_true rfl) dX4_law_19 (pmW _) (ws' := WX G a q2.2) (pmW _) (fun H locs hs => ?_)
    exact sx_iret hx hb hr hlk hQ (congrArg Prod.fst (Option.some.inj hF)) (congrArg (fun z => WX G a z) (congrArg Prod.snd (Option.some.inj hF))) hs dX4_law_22
  have hJ92_n : ∀ (S : XS) (x1 : Int32) (x2 : Int32) (H : Heap) (locs : List Loc) (ls : Array Slot), J_X4_law_92 S x1 x2 = some r → SI G A s H locs (WX G a S) → lv_has ls 4 [(0, .ref (a 0)), (1, .int x1), (2, .int x2)] → W p l e (RM 3 81) s m args below meth c H locs 0 0 Q (F0 m 92 ls []) := by
    intro S x1 x2 H locs ls hF hs hl
    unfold J_X4_law_92 at hF
    refine lv_aload_n hx hb dX4_law_92 rfl (lv_at hl 0 rfl) ?_
    obtain ⟨q7, hq7, hF⟩ := bd hF
    refine sx_V (As := []) (rest := []) (st1 := []) (c_X4_beginAct G l a S q7 hq7) v_X4_224 ⟨(Nat.le_of_ble_eq_true rfl), (Nat.le_of_ble_eq_true rfl)⟩ hx hb hml hown hts hE hA hs ⟨Nat.le_refl 0, Nat.le_refl 0⟩ 0 rfl rfl rfl rfl rfl hl.1 (Nat.le_of_ble_eq_true rfl) dX4_law_93 (pmW _) (ws' := WX G a q7) (pmW _) (fun H locs hs => ?_)
    refine lv_aload_n hx hb dX4_law_96 rfl (lv_at hl 0 rfl) ?_
    refine fg_X4_19 hx hb hown hts hE hs 0 rfl (v := .ref (a 12)) rfl dX4_law_97 ?_
    refine fg_X4_101 hx hb hown hts hE hs 12 rfl (v := .ref (a 16)) rfl dX4_law_100 ?_
    refine lv_iload_n hx hb dX4_law_103 rfl (lv_at hl 1 rfl) ?_
    obtain ⟨v8, hv8, hF⟩ := bd hF
    refine sx_iald hx hb hE hs 16 (f := t_laws (x_now q7)) rfl hv8 dX4_law_104 ?_
    refine lv_istore_n (lv' := [(3, .int v8), (0, .ref (a 0)), (1, .int x1), (2, .int x2)]) hx hb dX4_law_105 rfl hl (by decide) rfl (fun ls hl => ?_)
    refine lv_aload_n hx hb dX4_law_106 rfl (lv_at hl 1 rfl) ?_
    refine fg_X4_19 hx hb hown hts hE hs 0 rfl (v := .ref (a 12)) rfl dX4_law_107 ?_
    refine fg_X4_101 hx hb hown hts hE hs 12 rfl (v := .ref (a 16)) rfl dX4_law_110 ?_
    refine lv_iload_n hx hb dX4_law_113 rfl (lv_at hl 2 rfl) ?_
    refine lv_iload_n hx hb dX4_law_114 rfl (lv_at hl 3 rfl) ?_
    obtain ⟨f9, hf9, hF⟩ := bd hF
    obtain ⟨S10, eS10, hF⟩ := nm_some hF
    refine sx_iast hx hb hE hs 16 (f := t_laws (x_now q7)) rfl hf9 (ws' := WX G a S10) (by subst eS10; rfl) dX4_law_115 (fun H locs hs => ?_)
    refine lv_iload_n hx hb dX4_law_116 rfl (lv_at hl 0 rfl) ?_
    exact sx_iret hx hb hr hlk hQ (congrArg Prod.fst (Option.some.inj hF)) (congrArg (fun z => WX G a z) (congrArg Prod.snd (Option.some.inj hF))) hs dX4_law_117
  have hJ86_n : ∀ (S : XS) (H : Heap) (locs : List Loc) (ls : Array Slot), J_X4_law_86 S = some r → SI G A s H locs (WX G a S) → lv_has ls 4 [(0, .ref (a 0))] → W p l e (RM 3 81) s m args below meth c H locs 0 0 Q (F0 m 86 ls []) := by
    intro S H locs ls hF hs hl
    unfold J_X4_law_86 at hF
    refine lv_aload_n hx hb dX4_law_86 rfl (lv_at hl 0 rfl) ?_
    refine lv_iconst (v := (5 : Int32)) hx hb dX4_law_87 (by decide) ?_
    obtain ⟨q12, hq12, hF⟩ := bd hF
    refine sx_V (As := [.int (5 : Int32)]) (rest := []) (st1 := [.int q12.1]) (c_X4_none G l a S (5 : Int32) q12 hq12) v_X4_68 ⟨(Nat.le_of_ble_eq_true rfl), (Nat.le_of_ble_eq_true rfl)⟩ hx hb hml hown hts hE hA hs ⟨Nat.le_refl 0, Nat.le_refl 0⟩ 0 rfl rfl rfl rfl rfl hl.1 (Nat.le_of_ble_eq_true rfl) dX4_law_88 (pmW _) (ws' := WX G a q12.2) (pmW _) (fun H locs hs => ?_)
    exact sx_iret hx hb hr hlk hQ (congrArg Prod.fst (Option.some.inj hF)) (congrArg (fun z => WX G a z) (congrArg Prod.snd (Option.some.inj hF))) hs dX4_law_91
  have hJ66_n : ∀ (S : XS) (x1 : Int32) (x2 : Int32) (H : Heap) (locs : List Loc) (ls : Array Slot), J_X4_law_66 S x1 x2 = some r → SI G A s H locs (WX G a S) → lv_has ls 4 [(0, .ref (a 0)), (1, .int x1), (2, .int x2)] → W p l e (RM 3 81) s m args below meth c H locs 0 0 Q (F0 m 66 ls []) := by
    intro S x1 x2 H locs ls hF hs hl
    unfold J_X4_law_66 at hF
    refine lv_iload_n hx hb dX4_law_66 rfl (lv_at hl 1 rfl) ?_
    refine lv_bipush (v := (9 : Int32)) hx hb dX4_law_67 (by decide) ?_
    refine lv_icmp_ne (tgt := 92) hx hb dX4_law_69 (by decide) (fun hc => ?_) (fun hc => ?_)
    · have hF := (if_neg hc).symm.trans hF
      exact hJ92_n S x1 x2 _ _ _ hF hs (lv_sub hl [0, 1, 2] rfl)
    · have hF := (if_pos hc).symm.trans hF
      refine lv_iload_n hx hb dX4_law_72 rfl (lv_at hl 2 rfl) ?_
      refine lv_aload_n hx hb dX4_law_73 rfl (lv_at hl 0 rfl) ?_
      refine fg_X4_19 hx hb hown hts hE hs 0 rfl (v := .ref (a 12)) rfl dX4_law_74 ?_
      refine fg_X4_101 hx hb hown hts hE hs 12 rfl (v := .ref (a 16)) rfl dX4_law_77 ?_
      refine lv_bipush (v := (8 : Int32)) hx hb dX4_law_80 (by decide) ?_
      obtain ⟨v11, hv11, hF⟩ := bd hF
      refine sx_iald hx hb hE hs 16 (f := t_laws (x_now S)) rfl hv11 dX4_law_82 ?_
      refine lv_icmp_ge (tgt := 92) hx hb dX4_law_83 (by decide) (fun hc => ?_) (fun hc => ?_)
      · have hF := (if_pos hc).symm.trans hF
        exact hJ92_n S x1 x2 _ _ _ hF hs (lv_sub hl [0, 1, 2] rfl)
      · have hF := (if_neg hc).symm.trans hF
        exact hJ86_n S _ _ _ hF hs (lv_sub hl [0] rfl)
  unfold F_X4_law at hF
  refine lv_aload_n hx hb dX4_law_0 rfl (lv_at hl 0 rfl) ?_
  obtain ⟨q1, hq1, hF⟩ := bd hF
  refine sx_V (As := []) (rest := []) (st1 := [.int q1]) (c_X4_hasText G l a S q1 hq1) v_X4_94 ⟨(Nat.le_of_ble_eq_true rfl), (Nat.le_of_ble_eq_true rfl)⟩ hx hb hml hown hts hE hA hs ⟨Nat.le_refl 0, Nat.le_refl 0⟩ 0 rfl rfl rfl rfl rfl hl.1 (Nat.le_of_ble_eq_true rfl) dX4_law_1 (pmW _) (ws' := WX G a S) (pmW _) (fun H locs hs => ?_)
  refine lv_if_eq (tgt := 17) hx hb dX4_law_4 (by decide) (fun hc => ?_) (fun hc => ?_)
  · have hF := (if_pos hc).symm.trans hF
    exact hJ17_n S _ _ _ hF hs (lv_sub hl [0] rfl)
  · have hF := (if_neg hc).symm.trans hF
    refine lv_iload_n hx hb dX4_law_7 rfl (lv_at hl 1 rfl) ?_
    refine lv_iconst (v := (2 : Int32)) hx hb dX4_law_8 (by decide) ?_
    refine lv_bipush (v := (9 : Int32)) hx hb dX4_law_9 (by decide) ?_
    obtain ⟨q3, hq3, hF⟩ := bd hF
    refine sx_S (As := [.int x1, .int (2 : Int32), .int (9 : Int32)]) (rest := []) (st1 := [.int q3]) (c_X4_within G l  x1 (2 : Int32) (9 : Int32) q3 hq3) v_X4_64 ⟨(Nat.le_of_ble_eq_true rfl), (Nat.le_of_ble_eq_true rfl)⟩ hx hb hml hown hts hE hA hs ⟨Nat.le_refl 0, Nat.le_refl 0⟩ rfl rfl rfl hl.1 (Nat.le_of_ble_eq_true rfl) dX4_law_11 (List.Perm.refl _) (ws' := WX G a S) (List.Perm.refl _) (fun H locs hs => ?_)
    refine lv_if_ne (tgt := 23) hx hb dX4_law_14 (by decide) (fun hc => ?_) (fun hc => ?_)
    · have hF := (if_neg hc).symm.trans hF
      refine lv_iload_n hx hb dX4_law_23 rfl (lv_at hl 2 rfl) ?_
      refine va_gets (v := .ref (G.2.2.1 2)) hx hb (hE.2.2.1 2 (by decide)).1 hs.2.2 hown (hts _ g851) (fun _ h9 => h9) dX4_law_24 ?_
      refine lv_iload_n hx hb dX4_law_27 rfl (lv_at hl 1 rfl) ?_
      obtain ⟨v4, hv4, hF⟩ := bd hF
      refine sx_sald hx hb hE hs 2 (by decide) hv4 dX4_law_28 ?_
      refine va_gets (v := .ref (G.2.2.1 3)) hx hb (hE.2.2.1 3 (by decide)).1 hs.2.2 hown (hts _ g852) (fun _ h9 => h9) dX4_law_29 ?_
      refine lv_iload_n hx hb dX4_law_32 rfl (lv_at hl 1 rfl) ?_
      obtain ⟨v5, hv5, hF⟩ := bd hF
      refine sx_sald hx hb hE hs 3 (by decide) hv5 dX4_law_33 ?_
      obtain ⟨q6, hq6, hF⟩ := bd hF
      refine sx_S (As := [.int x2, .int v4, .int v5]) (rest := []) (st1 := [.int q6]) (c_X4_within G l  x2 v4 v5 q6 hq6) v_X4_64 ⟨(Nat.le_of_ble_eq_true rfl), (Nat.le_of_ble_eq_true rfl)⟩ hx hb hml hown hts hE hA hs ⟨Nat.le_refl 0, Nat.le_refl 0⟩ rfl rfl rfl hl.1 (Nat.le_of_ble_eq_true rfl) dX4_law_34 (List.Perm.refl _) (ws' := WX G a S) (List.Perm.refl _) (fun H locs hs => ?_)
      refine lv_if_ne (tgt := 46) hx hb dX4_law_37 (by decide) (fun hc => ?_) (fun hc => ?_)
      · have hF := (if_neg hc).symm.trans hF
        refine lv_iload_n hx hb dX4_law_46 rfl (lv_at hl 1 rfl) ?_
        refine lv_bipush (v := (8 : Int32)) hx hb dX4_law_47 (by decide) ?_
        refine lv_icmp_ne (tgt := 66) hx hb dX4_law_49 (by decide) (fun hc => ?_) (fun hc => ?_)
        · have hF := (if_neg hc).symm.trans hF
          exact hJ66_n S x1 x2 _ _ _ hF hs (lv_sub hl [0, 1, 2] rfl)
        · have hF := (if_pos hc).symm.trans hF
          refine lv_aload_n hx hb dX4_law_52 rfl (lv_at hl 0 rfl) ?_
          refine fg_X4_19 hx hb hown hts hE hs 0 rfl (v := .ref (a 12)) rfl dX4_law_53 ?_
          refine fg_X4_101 hx hb hown hts hE hs 12 rfl (v := .ref (a 16)) rfl dX4_law_56 ?_
          refine lv_bipush (v := (9 : Int32)) hx hb dX4_law_59 (by decide) ?_
          obtain ⟨v13, hv13, hF⟩ := bd hF
          refine sx_iald hx hb hE hs 16 (f := t_laws (x_now S)) rfl hv13 dX4_law_61 ?_
          refine lv_iload_n hx hb dX4_law_62 rfl (lv_at hl 2 rfl) ?_
          refine lv_icmp_lt (tgt := 86) hx hb dX4_law_63 (by decide) (fun hc => ?_) (fun hc => ?_)
          · have hF := (if_pos hc).symm.trans hF
            exact hJ86_n S _ _ _ hF hs (lv_sub hl [0] rfl)
          · have hF := (if_neg hc).symm.trans hF
            exact hJ66_n S x1 x2 _ _ _ hF hs (lv_sub hl [0, 1, 2] rfl)
      · have hF := (if_pos hc).symm.trans hF
        refine lv_aload_n hx hb dX4_law_40 rfl (lv_at hl 0 rfl) ?_
        refine lv_iconst (v := (2 : Int32)) hx hb dX4_law_41 (by decide) ?_
        obtain ⟨q14, hq14, hF⟩ := bd hF
        refine sx_V (As := [.int (2 : Int32)]) (rest := []) (st1 := [.int q14.1]) (c_X4_none G l a S (2 : Int32) q14 hq14) v_X4_68 ⟨(Nat.le_of_ble_eq_true rfl), (Nat.le_of_ble_eq_true rfl)⟩ hx hb hml hown hts hE hA hs ⟨Nat.le_refl 0, Nat.le_refl 0⟩ 0 rfl rfl rfl rfl rfl hl.1 (Nat.le_of_ble_eq_true rfl) dX4_law_42 (pmW _) (ws' := WX G a q14.2) (pmW _) (fun H locs hs => ?_)
        exact sx_iret hx hb hr hlk hQ (congrArg Prod.fst (Option.some.inj hF)) (congrArg (fun z => WX G a z) (congrArg Prod.snd (Option.some.inj hF))) hs dX4_law_45
    · have hF := (if_pos hc).symm.trans hF
      exact hJ17_n S _ _ _ hF hs (lv_sub hl [0] rfl)
set_option maxHeartbeats 4000000 in
set_option maxRecDepth 100000 in
theorem c_X4_undo (G : GT) (l : Launch) (a : Nat → Nat) (S : XS) (r : Int32 × XS) (hF : F_X4_undo S = some r) : MT G l yX4_undo cX4_undo 1 (some .int) 2 61 [.ref (a 0)] (WX G a S) (some (.int r.1)) (WX G a r.2) := by
  refine MT.of (by decide) (Nat.le_of_ble_eq_true rfl) ?_
  intro p e s m args below meth c A ls hx hb hr hml hown hts hlk hE hA hs hl Q hQ
  have hl : lv_has ls 1 [(0, .ref (a 0))] := hl
  unfold F_X4_undo at hF
  refine lv_aload_n hx hb dX4_undo_0 rfl (lv_at hl 0 rfl) ?_
  obtain ⟨q1, hq1, hF⟩ := bd hF
  refine sx_V (As := []) (rest := []) (st1 := [.int q1]) (c_X4_hasText G l a S q1 hq1) v_X4_94 ⟨(Nat.le_of_ble_eq_true rfl), (Nat.le_of_ble_eq_true rfl)⟩ hx hb hml hown hts hE hA hs ⟨Nat.le_refl 0, Nat.le_refl 0⟩ 0 rfl rfl rfl rfl rfl hl.1 (Nat.le_of_ble_eq_true rfl) dX4_undo_1 (pmW _) (ws' := WX G a S) (pmW _) (fun H locs hs => ?_)
  refine lv_if_ne (tgt := 13) hx hb dX4_undo_4 (by decide) (fun hc => ?_) (fun hc => ?_)
  · have hF := (if_neg hc).symm.trans hF
    refine lv_aload_n hx hb dX4_undo_13 rfl (lv_at hl 0 rfl) ?_
    refine fg_X4_45 hx hb hown hts hE hs 0 rfl (v := .int (x_undoable S)) rfl dX4_undo_14 ?_
    refine lv_if_ne (tgt := 26) hx hb dX4_undo_17 (by decide) (fun hc => ?_) (fun hc => ?_)
    · have hF := (if_neg hc).symm.trans hF
      refine lv_aload_n hx hb dX4_undo_26 rfl (lv_at hl 0 rfl) ?_
      obtain ⟨q2, hq2, hF⟩ := bd hF
      refine sx_V (As := []) (rest := []) (st1 := []) (c_X4_accept G l a S q2 hq2) v_X4_78 ⟨(Nat.le_of_ble_eq_true rfl), (Nat.le_of_ble_eq_true rfl)⟩ hx hb hml hown hts hE hA hs ⟨Nat.le_refl 0, Nat.le_refl 0⟩ 0 rfl rfl rfl rfl rfl hl.1 (Nat.le_of_ble_eq_true rfl) dX4_undo_27 (pmW _) (ws' := WX G a q2) (pmW _) (fun H locs hs => ?_)
      refine lv_aload_n hx hb dX4_undo_30 rfl (lv_at hl 0 rfl) ?_
      refine lv_aload_n hx hb dX4_undo_31 rfl (lv_at hl 0 rfl) ?_
      refine fg_X4_48 hx hb hown hts hE hs 0 rfl (v := .int (x_nextAct q2)) rfl dX4_undo_32 ?_
      refine lv_bipush (v := (10 : Int32)) hx hb dX4_undo_35 (by decide) ?_
      refine lv_iadd hx hb dX4_undo_37 ?_
      refine lv_iconst (v := (1 : Int32)) hx hb dX4_undo_38 (by decide) ?_
      refine lv_isub hx hb dX4_undo_39 ?_
      refine lv_bipush (v := (10 : Int32)) hx hb dX4_undo_40 (by decide) ?_
      obtain ⟨v3, hv3, hF⟩ := bd hF
      refine sx_irem hx hb hv3 dX4_undo_42 ?_
      obtain ⟨S4, eS4, hF⟩ := nm_some hF
      refine fp_X4_48 hx hb hown hts hE hs 0 rfl (ws' := WX G a S4) (Nat.le_of_ble_eq_true rfl) (by subst eS4; rfl) dX4_undo_43 (fun H locs hs => ?_)
      refine lv_aload_n hx hb dX4_undo_46 rfl (lv_at hl 0 rfl) ?_
      refine lv_dup hx hb dX4_undo_47 rfl ?_
      refine fg_X4_45 hx hb hown hts hE hs 0 rfl (v := .int (x_undoable S4)) rfl dX4_undo_48 ?_
      refine lv_iconst (v := (1 : Int32)) hx hb dX4_undo_51 (by decide) ?_
      refine lv_isub hx hb dX4_undo_52 ?_
      obtain ⟨S5, eS5, hF⟩ := nm_some hF
      refine fp_X4_45 hx hb hown hts hE hs 0 rfl (ws' := WX G a S5) (Nat.le_of_ble_eq_true rfl) (by subst eS5; rfl) dX4_undo_53 (fun H locs hs => ?_)
      refine lv_aload_n hx hb dX4_undo_56 rfl (lv_at hl 0 rfl) ?_
      refine fg_X4_19 hx hb hown hts hE hs 0 rfl (v := .ref (a 12)) rfl dX4_undo_57 ?_
      refine lv_aload_n hx hb dX4_undo_60 rfl (lv_at hl 0 rfl) ?_
      refine fg_X4_30 hx hb hown hts hE hs 0 rfl (v := .ref (a 1)) rfl dX4_undo_61 ?_
      refine lv_aload_n hx hb dX4_undo_64 rfl (lv_at hl 0 rfl) ?_
      refine fg_X4_48 hx hb hown hts hE hs 0 rfl (v := .int (x_nextAct S5)) rfl dX4_undo_65 ?_
      obtain ⟨j6, hj6, hF⟩ := bd hF
      refine sx_ald hx hb hE hs 1 (b := 28) rfl hj6 dX4_undo_68 ?_
      obtain ⟨q7, hq7, hF⟩ := bd hF
      obtain ⟨S8, eS8, hF⟩ := nm_some hF
      refine sx_N (As := [.ref (a (28 + 5 * j6.1))]) (rest := []) (st1 := []) (c_X2_copyFrom G l (fun k => a (12 + k)) (fun k => a (28 + 5 * j6.1 + k)) (x_now S5) (x_earlier S5 j6) q7 hq7) v_X4_84 ⟨(Nat.le_of_ble_eq_true rfl), (Nat.le_of_ble_eq_true rfl)⟩ hx hb hml hown hts hE hA hs ⟨Nat.le_refl 0, Nat.le_refl 0⟩ 12 rfl rfl rfl rfl rfl hl.1 (Nat.le_of_ble_eq_true rfl) dX4_undo_69 (pX_now_earlier G a S5 j6 (x_now S5)) (ws' := WX G a S8) (by subst eS8; exact pX_now_earlier G a S5 j6 q7) (fun H locs hs => ?_)
      refine lv_aload_n hx hb dX4_undo_72 rfl (lv_at hl 0 rfl) ?_
      refine fg_X4_45 hx hb hown hts hE hs 0 rfl (v := .int (x_undoable S8)) rfl dX4_undo_73 ?_
      exact sx_iret hx hb hr hlk hQ (congrArg Prod.fst (Option.some.inj hF)) (congrArg (fun z => WX G a z) (congrArg Prod.snd (Option.some.inj hF))) hs dX4_undo_76
    · have hF := (if_pos hc).symm.trans hF
      refine lv_aload_n hx hb dX4_undo_20 rfl (lv_at hl 0 rfl) ?_
      refine lv_iconst (v := (5 : Int32)) hx hb dX4_undo_21 (by decide) ?_
      obtain ⟨q9, hq9, hF⟩ := bd hF
      refine sx_V (As := [.int (5 : Int32)]) (rest := []) (st1 := [.int q9.1]) (c_X4_none G l a S (5 : Int32) q9 hq9) v_X4_68 ⟨(Nat.le_of_ble_eq_true rfl), (Nat.le_of_ble_eq_true rfl)⟩ hx hb hml hown hts hE hA hs ⟨Nat.le_refl 0, Nat.le_refl 0⟩ 0 rfl rfl rfl rfl rfl hl.1 (Nat.le_of_ble_eq_true rfl) dX4_undo_22 (pmW _) (ws' := WX G a q9.2) (pmW _) (fun H locs hs => ?_)
      exact sx_iret hx hb hr hlk hQ (congrArg Prod.fst (Option.some.inj hF)) (congrArg (fun z => WX G a z) (congrArg Prod.snd (Option.some.inj hF))) hs dX4_undo_25
  · have hF := (if_pos hc).symm.trans hF
    refine lv_aload_n hx hb dX4_undo_7 rfl (lv_at hl 0 rfl) ?_
    refine lv_iconst (v := (1 : Int32)) hx hb dX4_undo_8 (by decide) ?_
    obtain ⟨q10, hq10, hF⟩ := bd hF
    refine sx_V (As := [.int (1 : Int32)]) (rest := []) (st1 := [.int q10.1]) (c_X4_none G l a S (1 : Int32) q10 hq10) v_X4_68 ⟨(Nat.le_of_ble_eq_true rfl), (Nat.le_of_ble_eq_true rfl)⟩ hx hb hml hown hts hE hA hs ⟨Nat.le_refl 0, Nat.le_refl 0⟩ 0 rfl rfl rfl rfl rfl hl.1 (Nat.le_of_ble_eq_true rfl) dX4_undo_9 (pmW _) (ws' := WX G a q10.2) (pmW _) (fun H locs hs => ?_)
    exact sx_iret hx hb hr hlk hQ (congrArg Prod.fst (Option.some.inj hF)) (congrArg (fun z => WX G a z) (congrArg Prod.snd (Option.some.inj hF))) hs dX4_undo_12
set_option maxHeartbeats 4000000 in
set_option maxRecDepth 100000 in
theorem c_X4_image (G : GT) (l : Launch) (a : Nat → Nat) (S : XS) (x1 : Int32) (r : Int32 × XS) (hF : F_X4_image S x1 = some r) : MT G l yX4_image cX4_image 2 (some .boolean) 2 61 [.ref (a 0), .int x1] (WX G a S) (some (.int r.1)) (WX G a r.2) := by
  refine MT.of (by decide) (Nat.le_of_ble_eq_true rfl) ?_
  intro p e s m args below meth c A ls hx hb hr hml hown hts hlk hE hA hs hl Q hQ
  have hl : lv_has ls 2 [(0, .ref (a 0)), (1, .int x1)] := hl
  have hJ16_n : ∀ (S : XS) (H : Heap) (locs : List Loc) (ls : Array Slot), J_X4_image_16 S = some r → SI G A s H locs (WX G a S) → lv_has ls 2 [(0, .ref (a 0))] → W p l e (RM 2 61) s m args below meth c H locs 0 0 Q (F0 m 16 ls []) := by
    intro S H locs ls hF hs hl
    unfold J_X4_image_16 at hF
    refine lv_aload_n hx hb dX4_image_16 rfl (lv_at hl 0 rfl) ?_
    refine lv_iconst (v := (1 : Int32)) hx hb dX4_image_17 (by decide) ?_
    obtain ⟨q2, hq2, hF⟩ := bd hF
    refine sx_V (As := [.int (1 : Int32)]) (rest := []) (st1 := [.int q2.1]) (c_X4_refuse G l a S (1 : Int32) q2 hq2) v_X4_250 ⟨(Nat.le_of_ble_eq_true rfl), (Nat.le_of_ble_eq_true rfl)⟩ hx hb hml hown hts hE hA hs ⟨Nat.le_refl 0, Nat.le_refl 0⟩ 0 rfl rfl rfl rfl rfl hl.1 (Nat.le_of_ble_eq_true rfl) dX4_image_18 (pmW _) (ws' := WX G a q2.2) (pmW _) (fun H locs hs => ?_)
    obtain ⟨hz, hF⟩ := zz_some hF
    exact sx_zret hx hb hr hlk hQ hz (congrArg Prod.fst (Option.some.inj hF)) (congrArg (fun z => WX G a z) (congrArg Prod.snd (Option.some.inj hF))) hs dX4_image_21
  unfold F_X4_image at hF
  refine lv_aload_n hx hb dX4_image_0 rfl (lv_at hl 0 rfl) ?_
  obtain ⟨q1, hq1, hF⟩ := bd hF
  refine sx_V (As := []) (rest := []) (st1 := [.int q1]) (c_X4_hasText G l a S q1 hq1) v_X4_94 ⟨(Nat.le_of_ble_eq_true rfl), (Nat.le_of_ble_eq_true rfl)⟩ hx hb hml hown hts hE hA hs ⟨Nat.le_refl 0, Nat.le_refl 0⟩ 0 rfl rfl rfl rfl rfl hl.1 (Nat.le_of_ble_eq_true rfl) dX4_image_1 (pmW _) (ws' := WX G a S) (pmW _) (fun H locs hs => ?_)
  refine lv_if_eq (tgt := 16) hx hb dX4_image_4 (by decide) (fun hc => ?_) (fun hc => ?_)
  · have hF := (if_pos hc).symm.trans hF
    exact hJ16_n S _ _ _ hF hs (lv_sub hl [0] rfl)
  · have hF := (if_neg hc).symm.trans hF
    refine lv_iload_n hx hb dX4_image_7 rfl (lv_at hl 1 rfl) ?_
    refine lv_iconst (v := (0 : Int32)) hx hb dX4_image_8 (by decide) ?_
    refine lv_iconst (v := (1 : Int32)) hx hb dX4_image_9 (by decide) ?_
    obtain ⟨q3, hq3, hF⟩ := bd hF
    refine sx_S (As := [.int x1, .int (0 : Int32), .int (1 : Int32)]) (rest := []) (st1 := [.int q3]) (c_X4_within G l  x1 (0 : Int32) (1 : Int32) q3 hq3) v_X4_64 ⟨(Nat.le_of_ble_eq_true rfl), (Nat.le_of_ble_eq_true rfl)⟩ hx hb hml hown hts hE hA hs ⟨Nat.le_refl 0, Nat.le_refl 0⟩ rfl rfl rfl hl.1 (Nat.le_of_ble_eq_true rfl) dX4_image_10 (List.Perm.refl _) (ws' := WX G a S) (List.Perm.refl _) (fun H locs hs => ?_)
    refine lv_if_ne (tgt := 22) hx hb dX4_image_13 (by decide) (fun hc => ?_) (fun hc => ?_)
    · have hF := (if_neg hc).symm.trans hF
      refine lv_aload_n hx hb dX4_image_22 rfl (lv_at hl 0 rfl) ?_
      obtain ⟨q4, hq4, hF⟩ := bd hF
      refine sx_V (As := []) (rest := []) (st1 := []) (c_X4_accept G l a S q4 hq4) v_X4_78 ⟨(Nat.le_of_ble_eq_true rfl), (Nat.le_of_ble_eq_true rfl)⟩ hx hb hml hown hts hE hA hs ⟨Nat.le_refl 0, Nat.le_refl 0⟩ 0 rfl rfl rfl rfl rfl hl.1 (Nat.le_of_ble_eq_true rfl) dX4_image_23 (pmW _) (ws' := WX G a q4) (pmW _) (fun H locs hs => ?_)
      refine lv_aload_n hx hb dX4_image_26 rfl (lv_at hl 0 rfl) ?_
      refine fg_X4_34 hx hb hown hts hE hs 0 rfl (v := .ref (a 2)) rfl dX4_image_27 ?_
      refine lv_iload_n hx hb dX4_image_30 rfl (lv_at hl 1 rfl) ?_
      obtain ⟨j5, hj5, hF⟩ := bd hF
      refine sx_ald hx hb hE hs 2 (b := 78) rfl hj5 dX4_image_31 ?_
      refine lv_aload_n hx hb dX4_image_32 rfl (lv_at hl 0 rfl) ?_
      refine fg_X4_19 hx hb hown hts hE hs 0 rfl (v := .ref (a 12)) rfl dX4_image_33 ?_
      obtain ⟨q6, hq6, hF⟩ := bd hF
      obtain ⟨S7, eS7, hF⟩ := nm_some hF
      obtain ⟨qq8, hqq8⟩ := aX_images G a q4 j5
      refine sx_N (As := [.ref (a 12)]) (rest := []) (st1 := []) (c_X2_copyFrom G l (fun k => a (78 + 5 * j5.1 + k)) (fun k => a (12 + k)) (x_images q4 j5) (x_now q4) q6 hq6) v_X4_84 ⟨(Nat.le_of_ble_eq_true rfl), (Nat.le_of_ble_eq_true rfl)⟩ hx hb hml hown hts hE hA hs ⟨Nat.le_refl 0, Nat.le_refl 0⟩ qq8 hqq8 rfl rfl rfl rfl hl.1 (Nat.le_of_ble_eq_true rfl) dX4_image_36 (by have h9 := pX_images_now G a q4 j5 (x_images q4 j5); rw [upT_self_images] at h9; exact h9) (ws' := WX G a S7) (by subst eS7; exact pX_images_now G a q4 j5 q6) (fun H locs hs => ?_)
      refine lv_aload_n hx hb dX4_image_39 rfl (lv_at hl 0 rfl) ?_
      refine fg_X4_37 hx hb hown hts hE hs 0 rfl (v := .ref (a 3)) rfl dX4_image_40 ?_
      refine lv_iload_n hx hb dX4_image_43 rfl (lv_at hl 1 rfl) ?_
      refine lv_iconst (v := (1 : Int32)) hx hb dX4_image_44 (by decide) ?_
      obtain ⟨f9, hf9, hF⟩ := bd hF
      obtain ⟨S10, eS10, hF⟩ := nm_some hF
      refine sx_zast hx hb hE hs 3 (f := x_kept S7) rfl rfl hf9 (ws' := WX G a S10) (by subst eS10; rfl) dX4_image_45 (fun H locs hs => ?_)
      refine lv_iconst (v := (1 : Int32)) hx hb dX4_image_46 (by decide) ?_
      exact sx_zret hx hb hr hlk hQ (Or.inr rfl) (congrArg Prod.fst (Option.some.inj hF)) (congrArg (fun z => WX G a z) (congrArg Prod.snd (Option.some.inj hF))) hs dX4_image_47
    · have hF := (if_pos hc).symm.trans hF
      exact hJ16_n S _ _ _ hF hs (lv_sub hl [0] rfl)
set_option maxHeartbeats 4000000 in
set_option maxRecDepth 100000 in
theorem c_X4_again (G : GT) (l : Launch) (a : Nat → Nat) (S : XS) (x1 : Int32) (r : Int32 × XS) (hF : F_X4_again S x1 = some r) : MT G l yX4_again cX4_again 2 (some .boolean) 2 61 [.ref (a 0), .int x1] (WX G a S) (some (.int r.1)) (WX G a r.2) := by
  refine MT.of (by decide) (Nat.le_of_ble_eq_true rfl) ?_
  intro p e s m args below meth c A ls hx hb hr hml hown hts hlk hE hA hs hl Q hQ
  have hl : lv_has ls 2 [(0, .ref (a 0)), (1, .int x1)] := hl
  have hJ18_n : ∀ (S : XS) (H : Heap) (locs : List Loc) (ls : Array Slot), J_X4_again_18 S = some r → SI G A s H locs (WX G a S) → lv_has ls 2 [(0, .ref (a 0))] → W p l e (RM 2 61) s m args below meth c H locs 0 0 Q (F0 m 18 ls []) := by
    intro S H locs ls hF hs hl
    unfold J_X4_again_18 at hF
    refine lv_aload_n hx hb dX4_again_18 rfl (lv_at hl 0 rfl) ?_
    refine lv_iconst (v := (1 : Int32)) hx hb dX4_again_19 (by decide) ?_
    obtain ⟨q2, hq2, hF⟩ := bd hF
    refine sx_V (As := [.int (1 : Int32)]) (rest := []) (st1 := [.int q2.1]) (c_X4_refuse G l a S (1 : Int32) q2 hq2) v_X4_250 ⟨(Nat.le_of_ble_eq_true rfl), (Nat.le_of_ble_eq_true rfl)⟩ hx hb hml hown hts hE hA hs ⟨Nat.le_refl 0, Nat.le_refl 0⟩ 0 rfl rfl rfl rfl rfl hl.1 (Nat.le_of_ble_eq_true rfl) dX4_again_20 (pmW _) (ws' := WX G a q2.2) (pmW _) (fun H locs hs => ?_)
    obtain ⟨hz, hF⟩ := zz_some hF
    exact sx_zret hx hb hr hlk hQ hz (congrArg Prod.fst (Option.some.inj hF)) (congrArg (fun z => WX G a z) (congrArg Prod.snd (Option.some.inj hF))) hs dX4_again_23
  unfold F_X4_again at hF
  refine lv_iload_n hx hb dX4_again_0 rfl (lv_at hl 1 rfl) ?_
  refine lv_iconst (v := (0 : Int32)) hx hb dX4_again_1 (by decide) ?_
  refine lv_iconst (v := (1 : Int32)) hx hb dX4_again_2 (by decide) ?_
  obtain ⟨q1, hq1, hF⟩ := bd hF
  refine sx_S (As := [.int x1, .int (0 : Int32), .int (1 : Int32)]) (rest := []) (st1 := [.int q1]) (c_X4_within G l  x1 (0 : Int32) (1 : Int32) q1 hq1) v_X4_64 ⟨(Nat.le_of_ble_eq_true rfl), (Nat.le_of_ble_eq_true rfl)⟩ hx hb hml hown hts hE hA hs ⟨Nat.le_refl 0, Nat.le_refl 0⟩ rfl rfl rfl hl.1 (Nat.le_of_ble_eq_true rfl) dX4_again_3 (List.Perm.refl _) (ws' := WX G a S) (List.Perm.refl _) (fun H locs hs => ?_)
  refine lv_if_eq (tgt := 18) hx hb dX4_again_6 (by decide) (fun hc => ?_) (fun hc => ?_)
  · have hF := (if_pos hc).symm.trans hF
    exact hJ18_n S _ _ _ hF hs (lv_sub hl [0] rfl)
  · have hF := (if_neg hc).symm.trans hF
    refine lv_aload_n hx hb dX4_again_9 rfl (lv_at hl 0 rfl) ?_
    refine fg_X4_37 hx hb hown hts hE hs 0 rfl (v := .ref (a 3)) rfl dX4_again_10 ?_
    refine lv_iload_n hx hb dX4_again_13 rfl (lv_at hl 1 rfl) ?_
    obtain ⟨v3, hv3, hF⟩ := bd hF
    refine sx_zald hx hb hE hs 3 (f := x_kept S) rfl hv3 dX4_again_14 ?_
    refine lv_if_ne (tgt := 24) hx hb dX4_again_15 (by decide) (fun hc => ?_) (fun hc => ?_)
    · have hF := (if_neg hc).symm.trans hF
      refine lv_aload_n hx hb dX4_again_24 rfl (lv_at hl 0 rfl) ?_
      obtain ⟨q4, hq4, hF⟩ := bd hF
      refine sx_V (As := []) (rest := []) (st1 := []) (c_X4_accept G l a S q4 hq4) v_X4_78 ⟨(Nat.le_of_ble_eq_true rfl), (Nat.le_of_ble_eq_true rfl)⟩ hx hb hml hown hts hE hA hs ⟨Nat.le_refl 0, Nat.le_refl 0⟩ 0 rfl rfl rfl rfl rfl hl.1 (Nat.le_of_ble_eq_true rfl) dX4_again_25 (pmW _) (ws' := WX G a q4) (pmW _) (fun H locs hs => ?_)
      refine lv_aload_n hx hb dX4_again_28 rfl (lv_at hl 0 rfl) ?_
      refine fg_X4_19 hx hb hown hts hE hs 0 rfl (v := .ref (a 12)) rfl dX4_again_29 ?_
      refine lv_aload_n hx hb dX4_again_32 rfl (lv_at hl 0 rfl) ?_
      refine fg_X4_34 hx hb hown hts hE hs 0 rfl (v := .ref (a 2)) rfl dX4_again_33 ?_
      refine lv_iload_n hx hb dX4_again_36 rfl (lv_at hl 1 rfl) ?_
      obtain ⟨j5, hj5, hF⟩ := bd hF
      refine sx_ald hx hb hE hs 2 (b := 78) rfl hj5 dX4_again_37 ?_
      obtain ⟨q6, hq6, hF⟩ := bd hF
      obtain ⟨S7, eS7, hF⟩ := nm_some hF
      refine sx_N (As := [.ref (a (78 + 5 * j5.1))]) (rest := []) (st1 := []) (c_X2_copyFrom G l (fun k => a (12 + k)) (fun k => a (78 + 5 * j5.1 + k)) (x_now q4) (x_images q4 j5) q6 hq6) v_X4_84 ⟨(Nat.le_of_ble_eq_true rfl), (Nat.le_of_ble_eq_true rfl)⟩ hx hb hml hown hts hE hA hs ⟨Nat.le_refl 0, Nat.le_refl 0⟩ 12 rfl rfl rfl rfl rfl hl.1 (Nat.le_of_ble_eq_true rfl) dX4_again_38 (pX_now_images G a q4 j5 (x_now q4)) (ws' := WX G a S7) (by subst eS7; exact pX_now_images G a q4 j5 q6) (fun H locs hs => ?_)
      refine lv_aload_n hx hb dX4_again_41 rfl (lv_at hl 0 rfl) ?_
      obtain ⟨q8, hq8, hF⟩ := bd hF
      refine sx_V (As := []) (rest := []) (st1 := []) (c_X4_forgetActs G l a S7 q8 hq8) v_X4_88 ⟨(Nat.le_of_ble_eq_true rfl), (Nat.le_of_ble_eq_true rfl)⟩ hx hb hml hown hts hE hA hs ⟨Nat.le_refl 0, Nat.le_refl 0⟩ 0 rfl rfl rfl rfl rfl hl.1 (Nat.le_of_ble_eq_true rfl) dX4_again_42 (pmW _) (ws' := WX G a q8) (pmW _) (fun H locs hs => ?_)
      refine lv_iconst (v := (1 : Int32)) hx hb dX4_again_45 (by decide) ?_
      exact sx_zret hx hb hr hlk hQ (Or.inr rfl) (congrArg Prod.fst (Option.some.inj hF)) (congrArg (fun z => WX G a z) (congrArg Prod.snd (Option.some.inj hF))) hs dX4_again_46
    · have hF := (if_pos hc).symm.trans hF
      exact hJ18_n S _ _ _ hF hs (lv_sub hl [0] rfl)
set_option maxHeartbeats 4000000 in
set_option maxRecDepth 100000 in
theorem c_X4_size (G : GT) (l : Launch) (a : Nat → Nat) (S : XS) (r : Int32) (hF : F_X4_size S = some r) : MT G l yX4_size cX4_size 1 (some .int) 0 0 [.ref (a 0)] (WX G a S) (some (.int r)) (WX G a S) := by
  refine MT.of (by decide) (Nat.le_of_ble_eq_true rfl) ?_
  intro p e s m args below meth c A ls hx hb hr hml hown hts hlk hE hA hs hl Q hQ
  have hl : lv_has ls 1 [(0, .ref (a 0))] := hl
  unfold F_X4_size at hF
  refine lv_aload_n hx hb dX4_size_0 rfl (lv_at hl 0 rfl) ?_
  refine fg_X4_41 hx hb hown hts hE hs 0 rfl (v := .int (x_tapeLength S)) rfl dX4_size_1 ?_
  exact sx_iret hx hb hr hlk hQ (Option.some.inj hF) rfl hs dX4_size_4
set_option maxHeartbeats 4000000 in
set_option maxRecDepth 100000 in
theorem c_X4_trouble (G : GT) (l : Launch) (a : Nat → Nat) (S : XS) (r : Int32) (hF : F_X4_trouble S = some r) : MT G l yX4_trouble cX4_trouble 1 (some .int) 0 0 [.ref (a 0)] (WX G a S) (some (.int r)) (WX G a S) := by
  refine MT.of (by decide) (Nat.le_of_ble_eq_true rfl) ?_
  intro p e s m args below meth c A ls hx hb hr hml hown hts hlk hE hA hs hl Q hQ
  have hl : lv_has ls 1 [(0, .ref (a 0))] := hl
  unfold F_X4_trouble at hF
  refine lv_aload_n hx hb dX4_trouble_0 rfl (lv_at hl 0 rfl) ?_
  refine fg_X4_51 hx hb hown hts hE hs 0 rfl (v := .int (x_latestTrouble S)) rfl dX4_trouble_1 ?_
  exact sx_iret hx hb hr hlk hQ (Option.some.inj hF) rfl hs dX4_trouble_4
