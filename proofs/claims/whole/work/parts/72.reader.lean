set_option maxHeartbeats 4000000 in
set_option maxRecDepth 100000 in
theorem c_X0_begin (G : GT) (l : Launch) (a : Nat → Nat) (S : DS) (x1 : Int32) (r : DS) (hF : F_X0_begin S x1 = some r) : MT G l yX0_begin cX0_begin 3 (none) 2 60 [.ref (a 0), .int x1] (WD G a S) none (WD G a r) := by
  refine MT.of (by decide) (Nat.le_of_ble_eq_true rfl) ?_
  intro p e s m args below meth c A ls hx hb hr hml hown hts hlk hE hA hs hl Q hQ
  have hl : lv_has ls 3 [(0, .ref (a 0)), (1, .int x1)] := hl
  have hL24 : ∀ (k : DS → Option (DS)) (hk : ∀ (S : DS) (H : Heap) (locs : List Loc) (ls : Array Slot), k S = some r → SI G A s H locs (WD G a S) → lv_has ls 3 [] → W p l e (RM 2 60) s m args below meth c H locs 0 0 Q (F0 m 43 ls [])) (fu : Nat) (S : DS) (x2 : Int32) (H : Heap) (locs : List Loc) (ls : Array Slot), lo2 (B_X0_begin_24 k) fu S x2 = some r → SI G A s H locs (WD G a S) → lv_has ls 3 [(0, .ref (a 0)), (2, .int x2)] → W p l e (RM 2 60) s m args below meth c H locs 0 0 Q (F0 m 24 ls []) := by
    intro k hk fu
    induction fu with
    | zero =>
      intro S x2 H locs ls hF hs hl
      exact nomatch (show (none : Option (DS)) = some r from hF)
    | succ fu hrec =>
      intro S x2 H locs ls hF hs hl
      have hF : (B_X0_begin_24 k) (lo2 (B_X0_begin_24 k) fu) S x2 = some r := hF
      unfold B_X0_begin_24 at hF
      refine lv_iload_n hx hb dX0_begin_24 rfl (lv_at hl 1 rfl) ?_
      refine lv_bipush (v := (10 : Int32)) hx hb dX0_begin_25 (by decide) ?_
      refine lv_icmp_ge (tgt := 43) hx hb dX0_begin_27 (by decide) (fun hc => ?_) (fun hc => ?_)
      · have hF := (if_pos hc).symm.trans hF
        exact hk S _ _ _ hF hs (lv_sub hl [] rfl)
      · have hF := (if_neg hc).symm.trans hF
        refine lv_aload_n hx hb dX0_begin_30 rfl (lv_at hl 0 rfl) ?_
        refine fg_X0_22 hx hb hown hts hE hs 5 rfl (v := .ref (a 2)) rfl dX0_begin_31 ?_
        refine lv_iload_n hx hb dX0_begin_34 rfl (lv_at hl 1 rfl) ?_
        refine lv_iconst (v := (0 : Int32)) hx hb dX0_begin_35 (by decide) ?_
        obtain ⟨f6, hf6, hF⟩ := bd hF
        obtain ⟨S7, eS7, hF⟩ := nm_some hF
        refine sx_zast hx hb hE hs 7 (f := d_lawTold S) rfl rfl hf6 (ws' := WD G a S7) (by subst eS7; rfl) dX0_begin_36 (fun H locs hs => ?_)
        obtain ⟨v8, ev8, hF⟩ := nm_some hF
        refine lv_iinc (v := v8) (lv' := [(2, .int v8), (0, .ref (a 0))]) hx hb dX0_begin_37 hl (k := 1) rfl (by rw [ev8]; rfl) (by decide) rfl (fun ls hl => ?_)
        refine lv_goto (tgt := 24) hx hb dX0_begin_40 (by decide) ?_
        exact hrec S7 v8 _ _ _ hF hs (lv_sub hl [1, 0] rfl)
  unfold F_X0_begin at hF
  refine lv_aload_n hx hb dX0_begin_0 rfl (lv_at hl 0 rfl) ?_
  refine lv_iload_n hx hb dX0_begin_1 rfl (lv_at hl 1 rfl) ?_
  obtain ⟨S1, eS1, hF⟩ := nm_some hF
  refine fp_X0_26 hx hb hown hts hE hs 5 rfl (ws' := WD G a S1) (Nat.le_of_ble_eq_true rfl) (by subst eS1; rfl) dX0_begin_2 (fun H locs hs => ?_)
  refine lv_aload_n hx hb dX0_begin_5 rfl (lv_at hl 0 rfl) ?_
  refine lv_iconst (v := (0 : Int32)) hx hb dX0_begin_6 (by decide) ?_
  obtain ⟨S2, eS2, hF⟩ := nm_some hF
  refine fp_X0_30 hx hb hown hts hE hs 5 rfl (ws' := WD G a S2) (Nat.le_of_ble_eq_true rfl) (by subst eS2; rfl) dX0_begin_7 (fun H locs hs => ?_)
  refine lv_aload_n hx hb dX0_begin_10 rfl (lv_at hl 0 rfl) ?_
  refine lv_iconst (v := (0 : Int32)) hx hb dX0_begin_11 (by decide) ?_
  obtain ⟨S3, eS3, hF⟩ := nm_some hF
  refine fp_X0_33 hx hb hown hts hE hs 5 rfl (ws' := WD G a S3) (Nat.le_of_ble_eq_true rfl) (by subst eS3; rfl) dX0_begin_12 (fun H locs hs => ?_)
  refine lv_aload_n hx hb dX0_begin_15 rfl (lv_at hl 0 rfl) ?_
  refine fg_X0_18 hx hb hown hts hE hs 5 rfl (v := .ref (a 3)) rfl dX0_begin_16 ?_
  obtain ⟨q4, hq4, hF⟩ := bd hF
  obtain ⟨S5, eS5, hF⟩ := nm_some hF
  refine sx_N (As := []) (rest := []) (st1 := []) (c_X2_clear G l (fun k => a (3 + k)) (d_told S3) q4 hq4) v_X0_66 ⟨(Nat.le_of_ble_eq_true rfl), (Nat.le_of_ble_eq_true rfl)⟩ hx hb hml hown hts hE hA hs ⟨Nat.le_refl 0, Nat.le_refl 0⟩ 0 rfl rfl rfl rfl rfl hl.1 (Nat.le_of_ble_eq_true rfl) dX0_begin_19 (pD_told G a S3 (d_told S3)) (ws' := WD G a S5) (by subst eS5; exact pD_told G a S3 q4) (fun H locs hs => ?_)
  refine lv_iconst (v := (0 : Int32)) hx hb dX0_begin_22 (by decide) ?_
  refine lv_istore_n (lv' := [(2, .int (0 : Int32)), (0, .ref (a 0)), (1, .int x1)]) hx hb dX0_begin_23 rfl hl (by decide) rfl (fun ls hl => ?_)
  refine hL24 _ (fun S9 H locs ls hF hs hl => ?_) FU S5 (0 : Int32) _ _ _ hF hs (lv_sub hl [1, 0] rfl)
  exact sx_vret hx hb hr hlk hQ (congrArg (fun z => WD G a z) (Option.some.inj hF)) hs dX0_begin_43
set_option maxHeartbeats 4000000 in
set_option maxRecDepth 100000 in
theorem c_X0_isLetter (G : GT) (l : Launch) (x0 : Int32) (r : Int32) (hF : F_X0_isLetter x0 = some r) : MT G l yX0_isLetter cX0_isLetter 1 (some .boolean) 0 0 [.int x0] (([] : va_W)) (some (.int r)) (([] : va_W)) := by
  refine MT.of (by decide) (Nat.le_of_ble_eq_true rfl) ?_
  intro p e s m args below meth c A ls hx hb hr hml hown hts hlk hE hA hs hl Q hQ
  have hl : lv_has ls 1 [(0, .int x0)] := hl
  unfold F_X0_isLetter at hF
  refine lv_iload_n hx hb dX0_isLetter_0 rfl (lv_at hl 0 rfl) ?_
  refine lv_bipush (v := (97 : Int32)) hx hb dX0_isLetter_1 (by decide) ?_
  refine lv_icmp_lt (tgt := 16) hx hb dX0_isLetter_3 (by decide) (fun hc => ?_) (fun hc => ?_)
  · have hF := (if_pos hc).symm.trans hF
    refine lv_iconst (v := (0 : Int32)) hx hb dX0_isLetter_16 (by decide) ?_
    exact sx_zret hx hb hr hlk hQ (Or.inl rfl) (Option.some.inj hF) rfl hs dX0_isLetter_17
  · have hF := (if_neg hc).symm.trans hF
    refine lv_iload_n hx hb dX0_isLetter_6 rfl (lv_at hl 0 rfl) ?_
    refine lv_bipush (v := (122 : Int32)) hx hb dX0_isLetter_7 (by decide) ?_
    refine lv_icmp_gt (tgt := 16) hx hb dX0_isLetter_9 (by decide) (fun hc => ?_) (fun hc => ?_)
    · have hF := (if_pos hc).symm.trans hF
      refine lv_iconst (v := (0 : Int32)) hx hb dX0_isLetter_16 (by decide) ?_
      exact sx_zret hx hb hr hlk hQ (Or.inl rfl) (Option.some.inj hF) rfl hs dX0_isLetter_17
    · have hF := (if_neg hc).symm.trans hF
      refine lv_iconst (v := (1 : Int32)) hx hb dX0_isLetter_12 (by decide) ?_
      refine lv_goto (tgt := 17) hx hb dX0_isLetter_13 (by decide) ?_
      exact sx_zret hx hb hr hlk hQ (Or.inr rfl) (Option.some.inj hF) rfl hs dX0_isLetter_17
set_option maxHeartbeats 4000000 in
set_option maxRecDepth 100000 in
theorem c_X0_stepLetters (G : GT) (l : Launch) (a : Nat → Nat) (S : DS) (r : DS) (hF : F_X0_stepLetters S = some r) : MT G l yX0_stepLetters cX0_stepLetters 1 (none) 1 20 [.ref (a 0)] (WD G a S) none (WD G a r) := by
  refine MT.of (by decide) (Nat.le_of_ble_eq_true rfl) ?_
  intro p e s m args below meth c A ls hx hb hr hml hown hts hlk hE hA hs hl Q hQ
  have hl : lv_has ls 1 [(0, .ref (a 0))] := hl
  have hJ76_10 : ∀ (k : DS → Option (DS)) (rc : DS → Option (DS)) (hk : ∀ (S : DS) (H : Heap) (locs : List Loc) (ls : Array Slot), k S = some r → SI G A s H locs (WD G a S) → lv_has ls 1 [(0, .ref (a 0))] → W p l e (RM 1 20) s m args below meth c H locs 0 0 Q (F0 m 99 ls [])) (hrec : ∀ (S : DS) (H : Heap) (locs : List Loc) (ls : Array Slot), rc S = some r → SI G A s H locs (WD G a S) → lv_has ls 1 [(0, .ref (a 0))] → W p l e (RM 1 20) s m args below meth c H locs 0 0 Q (F0 m 10 ls [])) (S : DS) (H : Heap) (locs : List Loc) (ls : Array Slot), J_X0_stepLetters_76 k rc S = some r → SI G A s H locs (WD G a S) → lv_has ls 1 [(0, .ref (a 0))] → W p l e (RM 1 20) s m args below meth c H locs 0 0 Q (F0 m 76 ls []) := by
    intro k rc hk hrec S H locs ls hF hs hl
    unfold J_X0_stepLetters_76 at hF
    refine lv_aload_n hx hb dX0_stepLetters_76 rfl (lv_at hl 0 rfl) ?_
    refine lv_dup hx hb dX0_stepLetters_77 rfl ?_
    refine fg_X0_42 hx hb hown hts hE hs 5 rfl (v := .int (d_length S)) rfl dX0_stepLetters_78 ?_
    refine lv_iconst (v := (1 : Int32)) hx hb dX0_stepLetters_81 (by decide) ?_
    refine lv_iadd hx hb dX0_stepLetters_82 ?_
    obtain ⟨S5, eS5, hF⟩ := nm_some hF
    refine fp_X0_42 hx hb hown hts hE hs 5 rfl (ws' := WD G a S5) (Nat.le_of_ble_eq_true rfl) (by subst eS5; rfl) dX0_stepLetters_83 (fun H locs hs => ?_)
    refine lv_aload_n hx hb dX0_stepLetters_86 rfl (lv_at hl 0 rfl) ?_
    refine lv_dup hx hb dX0_stepLetters_87 rfl ?_
    refine fg_X0_30 hx hb hown hts hE hs 5 rfl (v := .int (d_next S5)) rfl dX0_stepLetters_88 ?_
    refine lv_iconst (v := (1 : Int32)) hx hb dX0_stepLetters_91 (by decide) ?_
    refine lv_iadd hx hb dX0_stepLetters_92 ?_
    obtain ⟨S6, eS6, hF⟩ := nm_some hF
    refine fp_X0_30 hx hb hown hts hE hs 5 rfl (ws' := WD G a S6) (Nat.le_of_ble_eq_true rfl) (by subst eS6; rfl) dX0_stepLetters_93 (fun H locs hs => ?_)
    refine lv_goto (tgt := 10) hx hb dX0_stepLetters_96 (by decide) ?_
    exact hrec S6 _ _ _ hF hs (lv_sub hl [0] rfl)
  have hL10 : ∀ (k : DS → Option (DS)) (hk : ∀ (S : DS) (H : Heap) (locs : List Loc) (ls : Array Slot), k S = some r → SI G A s H locs (WD G a S) → lv_has ls 1 [(0, .ref (a 0))] → W p l e (RM 1 20) s m args below meth c H locs 0 0 Q (F0 m 99 ls [])) (fu : Nat) (S : DS) (H : Heap) (locs : List Loc) (ls : Array Slot), lo1 (B_X0_stepLetters_10 k) fu S = some r → SI G A s H locs (WD G a S) → lv_has ls 1 [(0, .ref (a 0))] → W p l e (RM 1 20) s m args below meth c H locs 0 0 Q (F0 m 10 ls []) := by
    intro k hk fu
    induction fu with
    | zero =>
      intro S H locs ls hF hs hl
      exact nomatch (show (none : Option (DS)) = some r from hF)
    | succ fu hrec =>
      intro S H locs ls hF hs hl
      have hF : (B_X0_stepLetters_10 k) (lo1 (B_X0_stepLetters_10 k) fu) S = some r := hF
      unfold B_X0_stepLetters_10 at hF
      refine lv_aload_n hx hb dX0_stepLetters_10 rfl (lv_at hl 0 rfl) ?_
      refine fg_X0_30 hx hb hown hts hE hs 5 rfl (v := .int (d_next S)) rfl dX0_stepLetters_11 ?_
      refine lv_aload_n hx hb dX0_stepLetters_14 rfl (lv_at hl 0 rfl) ?_
      refine fg_X0_26 hx hb hown hts hE hs 5 rfl (v := .int (d_end S)) rfl dX0_stepLetters_15 ?_
      refine lv_icmp_ge (tgt := 99) hx hb dX0_stepLetters_18 (by decide) (fun hc => ?_) (fun hc => ?_)
      · have hF := (if_pos hc).symm.trans hF
        exact hk S _ _ _ hF hs (lv_sub hl [0] rfl)
      · have hF := (if_neg hc).symm.trans hF
        refine lv_aload_n hx hb dX0_stepLetters_21 rfl (lv_at hl 0 rfl) ?_
        refine fg_X0_9 hx hb hown hts hE hs 5 rfl (v := .ref (a 1)) rfl dX0_stepLetters_22 ?_
        refine lv_aload_n hx hb dX0_stepLetters_25 rfl (lv_at hl 0 rfl) ?_
        refine fg_X0_30 hx hb hown hts hE hs 5 rfl (v := .int (d_next S)) rfl dX0_stepLetters_26 ?_
        obtain ⟨v3, hv3, hF⟩ := bd hF
        refine sx_bald hx hb hE hs 6 (f := d_bytes S) rfl hv3 dX0_stepLetters_29 ?_
        obtain ⟨q4, hq4, hF⟩ := bd hF
        refine sx_S (As := [.int v3]) (rest := []) (st1 := [.int q4]) (c_X0_isLetter G l  v3 q4 hq4) v_X0_183 ⟨(Nat.le_of_ble_eq_true rfl), (Nat.le_of_ble_eq_true rfl)⟩ hx hb hml hown hts hE hA hs ⟨Nat.le_refl 0, Nat.le_refl 0⟩ rfl rfl rfl hl.1 (Nat.le_of_ble_eq_true rfl) dX0_stepLetters_30 (List.Perm.refl _) (ws' := WD G a S) (List.Perm.refl _) (fun H locs hs => ?_)
        refine lv_if_eq (tgt := 99) hx hb dX0_stepLetters_33 (by decide) (fun hc => ?_) (fun hc => ?_)
        · have hF := (if_pos hc).symm.trans hF
          exact hk S _ _ _ hF hs (lv_sub hl [0] rfl)
        · have hF := (if_neg hc).symm.trans hF
          refine lv_aload_n hx hb dX0_stepLetters_36 rfl (lv_at hl 0 rfl) ?_
          refine fg_X0_42 hx hb hown hts hE hs 5 rfl (v := .int (d_length S)) rfl dX0_stepLetters_37 ?_
          refine lv_bipush (v := (7 : Int32)) hx hb dX0_stepLetters_40 (by decide) ?_
          refine lv_icmp_ge (tgt := 76) hx hb dX0_stepLetters_42 (by decide) (fun hc => ?_) (fun hc => ?_)
          · have hF := (if_pos hc).symm.trans hF
            exact hJ76_10 _ _ hk hrec S _ _ _ hF hs (lv_sub hl [0] rfl)
          · have hF := (if_neg hc).symm.trans hF
            refine lv_aload_n hx hb dX0_stepLetters_45 rfl (lv_at hl 0 rfl) ?_
            refine lv_dup hx hb dX0_stepLetters_46 rfl ?_
            refine fg_X0_45 hx hb hown hts hE hs 5 rfl (v := .long (d_letters S)) rfl dX0_stepLetters_47 ?_
            refine lv_aload_n hx hb dX0_stepLetters_50 rfl (lv_at hl 0 rfl) ?_
            refine fg_X0_9 hx hb hown hts hE hs 5 rfl (v := .ref (a 1)) rfl dX0_stepLetters_51 ?_
            refine lv_aload_n hx hb dX0_stepLetters_54 rfl (lv_at hl 0 rfl) ?_
            refine fg_X0_30 hx hb hown hts hE hs 5 rfl (v := .int (d_next S)) rfl dX0_stepLetters_55 ?_
            obtain ⟨v7, hv7, hF⟩ := bd hF
            refine sx_bald hx hb hE hs 6 (f := d_bytes S) rfl hv7 dX0_stepLetters_58 ?_
            refine lv_bipush (v := (97 : Int32)) hx hb dX0_stepLetters_59 (by decide) ?_
            refine lv_isub hx hb dX0_stepLetters_61 ?_
            refine lv_iconst (v := (1 : Int32)) hx hb dX0_stepLetters_62 (by decide) ?_
            refine lv_iadd hx hb dX0_stepLetters_63 ?_
            refine lv_i2l hx hb dX0_stepLetters_64 rfl ?_
            refine lv_iconst (v := (5 : Int32)) hx hb dX0_stepLetters_65 (by decide) ?_
            refine lv_aload_n hx hb dX0_stepLetters_66 rfl (lv_at hl 0 rfl) ?_
            refine fg_X0_42 hx hb hown hts hE hs 5 rfl (v := .int (d_length S)) rfl dX0_stepLetters_67 ?_
            refine lv_imul hx hb dX0_stepLetters_70 ?_
            refine lv_lshl hx hb dX0_stepLetters_71 rfl ?_
            refine lv_lor hx hb dX0_stepLetters_72 ?_
            obtain ⟨S8, eS8, hF⟩ := nm_some hF
            refine fp_X0_45 hx hb hown hts hE hs 5 rfl (ws' := WD G a S8) (Nat.le_of_ble_eq_true rfl) (by subst eS8; rfl) dX0_stepLetters_73 (fun H locs hs => ?_)
            exact hJ76_10 _ _ hk hrec S8 _ _ _ hF hs (lv_sub hl [0] rfl)
  have hJ114_n : ∀ (S : DS) (y0 : Int32) (H : Heap) (locs : List Loc) (ls : Array Slot), J_X0_stepLetters_114 S y0 = some r → SI G A s H locs (WD G a S) → lv_has ls 1 [] → W p l e (RM 1 20) s m args below meth c H locs 0 0 Q (F0 m 114 ls [.int y0, .ref (a 0)]) := by
    intro S y0 H locs ls hF hs hl
    unfold J_X0_stepLetters_114 at hF
    obtain ⟨S10, eS10, hF⟩ := nm_some hF
    refine fp_X0_39 hx hb hown hts hE hs 5 rfl (ws' := WD G a S10) (Nat.le_of_ble_eq_true rfl) (by subst eS10; rfl) dX0_stepLetters_114 (fun H locs hs => ?_)
    exact sx_vret hx hb hr hlk hQ (congrArg (fun z => WD G a z) (Option.some.inj hF)) hs dX0_stepLetters_117
  have hJ99_n : ∀ (S : DS) (H : Heap) (locs : List Loc) (ls : Array Slot), J_X0_stepLetters_99 S = some r → SI G A s H locs (WD G a S) → lv_has ls 1 [(0, .ref (a 0))] → W p l e (RM 1 20) s m args below meth c H locs 0 0 Q (F0 m 99 ls []) := by
    intro S H locs ls hF hs hl
    unfold J_X0_stepLetters_99 at hF
    refine lv_aload_n hx hb dX0_stepLetters_99 rfl (lv_at hl 0 rfl) ?_
    refine lv_aload_n hx hb dX0_stepLetters_100 rfl (lv_at hl 0 rfl) ?_
    refine fg_X0_42 hx hb hown hts hE hs 5 rfl (v := .int (d_length S)) rfl dX0_stepLetters_101 ?_
    refine lv_bipush (v := (7 : Int32)) hx hb dX0_stepLetters_104 (by decide) ?_
    refine lv_icmp_gt (tgt := 113) hx hb dX0_stepLetters_106 (by decide) (fun hc => ?_) (fun hc => ?_)
    · have hF := (if_pos hc).symm.trans hF
      refine lv_iconst (v := (4 : Int32)) hx hb dX0_stepLetters_113 (by decide) ?_
      exact hJ114_n S (4 : Int32) _ _ _ hF hs (lv_sub hl [] rfl)
    · have hF := (if_neg hc).symm.trans hF
      refine lv_iconst (v := (1 : Int32)) hx hb dX0_stepLetters_109 (by decide) ?_
      refine lv_goto (tgt := 114) hx hb dX0_stepLetters_110 (by decide) ?_
      exact hJ114_n S (1 : Int32) _ _ _ hF hs (lv_sub hl [] rfl)
  unfold F_X0_stepLetters at hF
  refine lv_aload_n hx hb dX0_stepLetters_0 rfl (lv_at hl 0 rfl) ?_
  refine lv_lconst (v := (0 : Int64)) hx hb dX0_stepLetters_1 (by decide) ?_
  obtain ⟨S1, eS1, hF⟩ := nm_some hF
  refine fp_X0_45 hx hb hown hts hE hs 5 rfl (ws' := WD G a S1) (Nat.le_of_ble_eq_true rfl) (by subst eS1; rfl) dX0_stepLetters_2 (fun H locs hs => ?_)
  refine lv_aload_n hx hb dX0_stepLetters_5 rfl (lv_at hl 0 rfl) ?_
  refine lv_iconst (v := (0 : Int32)) hx hb dX0_stepLetters_6 (by decide) ?_
  obtain ⟨S2, eS2, hF⟩ := nm_some hF
  refine fp_X0_42 hx hb hown hts hE hs 5 rfl (ws' := WD G a S2) (Nat.le_of_ble_eq_true rfl) (by subst eS2; rfl) dX0_stepLetters_7 (fun H locs hs => ?_)
  refine hL10 _ (fun S9 H locs ls hF hs hl => ?_) FU S2 _ _ _ hF hs (lv_sub hl [0] rfl)
  exact hJ99_n S9 _ _ _ hF hs (lv_sub hl [0] rfl)
set_option maxHeartbeats 4000000 in
set_option maxRecDepth 100000 in
theorem c_X0_isDigit (G : GT) (l : Launch) (x0 : Int32) (r : Int32) (hF : F_X0_isDigit x0 = some r) : MT G l yX0_isDigit cX0_isDigit 1 (some .boolean) 0 0 [.int x0] (([] : va_W)) (some (.int r)) (([] : va_W)) := by
  refine MT.of (by decide) (Nat.le_of_ble_eq_true rfl) ?_
  intro p e s m args below meth c A ls hx hb hr hml hown hts hlk hE hA hs hl Q hQ
  have hl : lv_has ls 1 [(0, .int x0)] := hl
  unfold F_X0_isDigit at hF
  refine lv_iload_n hx hb dX0_isDigit_0 rfl (lv_at hl 0 rfl) ?_
  refine lv_bipush (v := (48 : Int32)) hx hb dX0_isDigit_1 (by decide) ?_
  refine lv_icmp_lt (tgt := 16) hx hb dX0_isDigit_3 (by decide) (fun hc => ?_) (fun hc => ?_)
  · have hF := (if_pos hc).symm.trans hF
    refine lv_iconst (v := (0 : Int32)) hx hb dX0_isDigit_16 (by decide) ?_
    exact sx_zret hx hb hr hlk hQ (Or.inl rfl) (Option.some.inj hF) rfl hs dX0_isDigit_17
  · have hF := (if_neg hc).symm.trans hF
    refine lv_iload_n hx hb dX0_isDigit_6 rfl (lv_at hl 0 rfl) ?_
    refine lv_bipush (v := (57 : Int32)) hx hb dX0_isDigit_7 (by decide) ?_
    refine lv_icmp_gt (tgt := 16) hx hb dX0_isDigit_9 (by decide) (fun hc => ?_) (fun hc => ?_)
    · have hF := (if_pos hc).symm.trans hF
      refine lv_iconst (v := (0 : Int32)) hx hb dX0_isDigit_16 (by decide) ?_
      exact sx_zret hx hb hr hlk hQ (Or.inl rfl) (Option.some.inj hF) rfl hs dX0_isDigit_17
    · have hF := (if_neg hc).symm.trans hF
      refine lv_iconst (v := (1 : Int32)) hx hb dX0_isDigit_12 (by decide) ?_
      refine lv_goto (tgt := 17) hx hb dX0_isDigit_13 (by decide) ?_
      exact sx_zret hx hb hr hlk hQ (Or.inr rfl) (Option.some.inj hF) rfl hs dX0_isDigit_17
set_option maxHeartbeats 4000000 in
set_option maxRecDepth 100000 in
theorem c_X0_stepDigits (G : GT) (l : Launch) (a : Nat → Nat) (S : DS) (r : DS) (hF : F_X0_stepDigits S = some r) : MT G l yX0_stepDigits cX0_stepDigits 1 (none) 1 20 [.ref (a 0)] (WD G a S) none (WD G a r) := by
  refine MT.of (by decide) (Nat.le_of_ble_eq_true rfl) ?_
  intro p e s m args below meth c A ls hx hb hr hml hown hts hlk hE hA hs hl Q hQ
  have hl : lv_has ls 1 [(0, .ref (a 0))] := hl
  have hJ69_10 : ∀ (k : DS → Option (DS)) (rc : DS → Option (DS)) (hk : ∀ (S : DS) (H : Heap) (locs : List Loc) (ls : Array Slot), k S = some r → SI G A s H locs (WD G a S) → lv_has ls 1 [(0, .ref (a 0))] → W p l e (RM 1 20) s m args below meth c H locs 0 0 Q (F0 m 92 ls [])) (hrec : ∀ (S : DS) (H : Heap) (locs : List Loc) (ls : Array Slot), rc S = some r → SI G A s H locs (WD G a S) → lv_has ls 1 [(0, .ref (a 0))] → W p l e (RM 1 20) s m args below meth c H locs 0 0 Q (F0 m 10 ls [])) (S : DS) (H : Heap) (locs : List Loc) (ls : Array Slot), J_X0_stepDigits_69 k rc S = some r → SI G A s H locs (WD G a S) → lv_has ls 1 [(0, .ref (a 0))] → W p l e (RM 1 20) s m args below meth c H locs 0 0 Q (F0 m 69 ls []) := by
    intro k rc hk hrec S H locs ls hF hs hl
    unfold J_X0_stepDigits_69 at hF
    refine lv_aload_n hx hb dX0_stepDigits_69 rfl (lv_at hl 0 rfl) ?_
    refine lv_dup hx hb dX0_stepDigits_70 rfl ?_
    refine fg_X0_42 hx hb hown hts hE hs 5 rfl (v := .int (d_length S)) rfl dX0_stepDigits_71 ?_
    refine lv_iconst (v := (1 : Int32)) hx hb dX0_stepDigits_74 (by decide) ?_
    refine lv_iadd hx hb dX0_stepDigits_75 ?_
    obtain ⟨S5, eS5, hF⟩ := nm_some hF
    refine fp_X0_42 hx hb hown hts hE hs 5 rfl (ws' := WD G a S5) (Nat.le_of_ble_eq_true rfl) (by subst eS5; rfl) dX0_stepDigits_76 (fun H locs hs => ?_)
    refine lv_aload_n hx hb dX0_stepDigits_79 rfl (lv_at hl 0 rfl) ?_
    refine lv_dup hx hb dX0_stepDigits_80 rfl ?_
    refine fg_X0_30 hx hb hown hts hE hs 5 rfl (v := .int (d_next S5)) rfl dX0_stepDigits_81 ?_
    refine lv_iconst (v := (1 : Int32)) hx hb dX0_stepDigits_84 (by decide) ?_
    refine lv_iadd hx hb dX0_stepDigits_85 ?_
    obtain ⟨S6, eS6, hF⟩ := nm_some hF
    refine fp_X0_30 hx hb hown hts hE hs 5 rfl (ws' := WD G a S6) (Nat.le_of_ble_eq_true rfl) (by subst eS6; rfl) dX0_stepDigits_86 (fun H locs hs => ?_)
    refine lv_goto (tgt := 10) hx hb dX0_stepDigits_89 (by decide) ?_
    exact hrec S6 _ _ _ hF hs (lv_sub hl [0] rfl)
  have hL10 : ∀ (k : DS → Option (DS)) (hk : ∀ (S : DS) (H : Heap) (locs : List Loc) (ls : Array Slot), k S = some r → SI G A s H locs (WD G a S) → lv_has ls 1 [(0, .ref (a 0))] → W p l e (RM 1 20) s m args below meth c H locs 0 0 Q (F0 m 92 ls [])) (fu : Nat) (S : DS) (H : Heap) (locs : List Loc) (ls : Array Slot), lo1 (B_X0_stepDigits_10 k) fu S = some r → SI G A s H locs (WD G a S) → lv_has ls 1 [(0, .ref (a 0))] → W p l e (RM 1 20) s m args below meth c H locs 0 0 Q (F0 m 10 ls []) := by
    intro k hk fu
    induction fu with
    | zero =>
      intro S H locs ls hF hs hl
      exact nomatch (show (none : Option (DS)) = some r from hF)
    | succ fu hrec =>
      intro S H locs ls hF hs hl
      have hF : (B_X0_stepDigits_10 k) (lo1 (B_X0_stepDigits_10 k) fu) S = some r := hF
      unfold B_X0_stepDigits_10 at hF
      refine lv_aload_n hx hb dX0_stepDigits_10 rfl (lv_at hl 0 rfl) ?_
      refine fg_X0_30 hx hb hown hts hE hs 5 rfl (v := .int (d_next S)) rfl dX0_stepDigits_11 ?_
      refine lv_aload_n hx hb dX0_stepDigits_14 rfl (lv_at hl 0 rfl) ?_
      refine fg_X0_26 hx hb hown hts hE hs 5 rfl (v := .int (d_end S)) rfl dX0_stepDigits_15 ?_
      refine lv_icmp_ge (tgt := 92) hx hb dX0_stepDigits_18 (by decide) (fun hc => ?_) (fun hc => ?_)
      · have hF := (if_pos hc).symm.trans hF
        exact hk S _ _ _ hF hs (lv_sub hl [0] rfl)
      · have hF := (if_neg hc).symm.trans hF
        refine lv_aload_n hx hb dX0_stepDigits_21 rfl (lv_at hl 0 rfl) ?_
        refine fg_X0_9 hx hb hown hts hE hs 5 rfl (v := .ref (a 1)) rfl dX0_stepDigits_22 ?_
        refine lv_aload_n hx hb dX0_stepDigits_25 rfl (lv_at hl 0 rfl) ?_
        refine fg_X0_30 hx hb hown hts hE hs 5 rfl (v := .int (d_next S)) rfl dX0_stepDigits_26 ?_
        obtain ⟨v3, hv3, hF⟩ := bd hF
        refine sx_bald hx hb hE hs 6 (f := d_bytes S) rfl hv3 dX0_stepDigits_29 ?_
        obtain ⟨q4, hq4, hF⟩ := bd hF
        refine sx_S (As := [.int v3]) (rest := []) (st1 := [.int q4]) (c_X0_isDigit G l  v3 q4 hq4) v_X0_190 ⟨(Nat.le_of_ble_eq_true rfl), (Nat.le_of_ble_eq_true rfl)⟩ hx hb hml hown hts hE hA hs ⟨Nat.le_refl 0, Nat.le_refl 0⟩ rfl rfl rfl hl.1 (Nat.le_of_ble_eq_true rfl) dX0_stepDigits_30 (List.Perm.refl _) (ws' := WD G a S) (List.Perm.refl _) (fun H locs hs => ?_)
        refine lv_if_eq (tgt := 92) hx hb dX0_stepDigits_33 (by decide) (fun hc => ?_) (fun hc => ?_)
        · have hF := (if_pos hc).symm.trans hF
          exact hk S _ _ _ hF hs (lv_sub hl [0] rfl)
        · have hF := (if_neg hc).symm.trans hF
          refine lv_aload_n hx hb dX0_stepDigits_36 rfl (lv_at hl 0 rfl) ?_
          refine fg_X0_42 hx hb hown hts hE hs 5 rfl (v := .int (d_length S)) rfl dX0_stepDigits_37 ?_
          refine lv_bipush (v := (7 : Int32)) hx hb dX0_stepDigits_40 (by decide) ?_
          refine lv_icmp_ge (tgt := 69) hx hb dX0_stepDigits_42 (by decide) (fun hc => ?_) (fun hc => ?_)
          · have hF := (if_pos hc).symm.trans hF
            exact hJ69_10 _ _ hk hrec S _ _ _ hF hs (lv_sub hl [0] rfl)
          · have hF := (if_neg hc).symm.trans hF
            refine lv_aload_n hx hb dX0_stepDigits_45 rfl (lv_at hl 0 rfl) ?_
            refine lv_aload_n hx hb dX0_stepDigits_46 rfl (lv_at hl 0 rfl) ?_
            refine fg_X0_49 hx hb hown hts hE hs 5 rfl (v := .int (d_number S)) rfl dX0_stepDigits_47 ?_
            refine lv_bipush (v := (10 : Int32)) hx hb dX0_stepDigits_50 (by decide) ?_
            refine lv_imul hx hb dX0_stepDigits_52 ?_
            refine lv_aload_n hx hb dX0_stepDigits_53 rfl (lv_at hl 0 rfl) ?_
            refine fg_X0_9 hx hb hown hts hE hs 5 rfl (v := .ref (a 1)) rfl dX0_stepDigits_54 ?_
            refine lv_aload_n hx hb dX0_stepDigits_57 rfl (lv_at hl 0 rfl) ?_
            refine fg_X0_30 hx hb hown hts hE hs 5 rfl (v := .int (d_next S)) rfl dX0_stepDigits_58 ?_
            obtain ⟨v7, hv7, hF⟩ := bd hF
            refine sx_bald hx hb hE hs 6 (f := d_bytes S) rfl hv7 dX0_stepDigits_61 ?_
            refine lv_iadd hx hb dX0_stepDigits_62 ?_
            refine lv_bipush (v := (48 : Int32)) hx hb dX0_stepDigits_63 (by decide) ?_
            refine lv_isub hx hb dX0_stepDigits_65 ?_
            obtain ⟨S8, eS8, hF⟩ := nm_some hF
            refine fp_X0_49 hx hb hown hts hE hs 5 rfl (ws' := WD G a S8) (Nat.le_of_ble_eq_true rfl) (by subst eS8; rfl) dX0_stepDigits_66 (fun H locs hs => ?_)
            exact hJ69_10 _ _ hk hrec S8 _ _ _ hF hs (lv_sub hl [0] rfl)
  have hJ107_n : ∀ (S : DS) (y0 : Int32) (H : Heap) (locs : List Loc) (ls : Array Slot), J_X0_stepDigits_107 S y0 = some r → SI G A s H locs (WD G a S) → lv_has ls 1 [] → W p l e (RM 1 20) s m args below meth c H locs 0 0 Q (F0 m 107 ls [.int y0, .ref (a 0)]) := by
    intro S y0 H locs ls hF hs hl
    unfold J_X0_stepDigits_107 at hF
    obtain ⟨S10, eS10, hF⟩ := nm_some hF
    refine fp_X0_39 hx hb hown hts hE hs 5 rfl (ws' := WD G a S10) (Nat.le_of_ble_eq_true rfl) (by subst eS10; rfl) dX0_stepDigits_107 (fun H locs hs => ?_)
    exact sx_vret hx hb hr hlk hQ (congrArg (fun z => WD G a z) (Option.some.inj hF)) hs dX0_stepDigits_110
  have hJ92_n : ∀ (S : DS) (H : Heap) (locs : List Loc) (ls : Array Slot), J_X0_stepDigits_92 S = some r → SI G A s H locs (WD G a S) → lv_has ls 1 [(0, .ref (a 0))] → W p l e (RM 1 20) s m args below meth c H locs 0 0 Q (F0 m 92 ls []) := by
    intro S H locs ls hF hs hl
    unfold J_X0_stepDigits_92 at hF
    refine lv_aload_n hx hb dX0_stepDigits_92 rfl (lv_at hl 0 rfl) ?_
    refine lv_aload_n hx hb dX0_stepDigits_93 rfl (lv_at hl 0 rfl) ?_
    refine fg_X0_42 hx hb hown hts hE hs 5 rfl (v := .int (d_length S)) rfl dX0_stepDigits_94 ?_
    refine lv_bipush (v := (7 : Int32)) hx hb dX0_stepDigits_97 (by decide) ?_
    refine lv_icmp_gt (tgt := 106) hx hb dX0_stepDigits_99 (by decide) (fun hc => ?_) (fun hc => ?_)
    · have hF := (if_pos hc).symm.trans hF
      refine lv_iconst (v := (4 : Int32)) hx hb dX0_stepDigits_106 (by decide) ?_
      exact hJ107_n S (4 : Int32) _ _ _ hF hs (lv_sub hl [] rfl)
    · have hF := (if_neg hc).symm.trans hF
      refine lv_iconst (v := (2 : Int32)) hx hb dX0_stepDigits_102 (by decide) ?_
      refine lv_goto (tgt := 107) hx hb dX0_stepDigits_103 (by decide) ?_
      exact hJ107_n S (2 : Int32) _ _ _ hF hs (lv_sub hl [] rfl)
  unfold F_X0_stepDigits at hF
  refine lv_aload_n hx hb dX0_stepDigits_0 rfl (lv_at hl 0 rfl) ?_
  refine lv_iconst (v := (0 : Int32)) hx hb dX0_stepDigits_1 (by decide) ?_
  obtain ⟨S1, eS1, hF⟩ := nm_some hF
  refine fp_X0_49 hx hb hown hts hE hs 5 rfl (ws' := WD G a S1) (Nat.le_of_ble_eq_true rfl) (by subst eS1; rfl) dX0_stepDigits_2 (fun H locs hs => ?_)
  refine lv_aload_n hx hb dX0_stepDigits_5 rfl (lv_at hl 0 rfl) ?_
  refine lv_iconst (v := (0 : Int32)) hx hb dX0_stepDigits_6 (by decide) ?_
  obtain ⟨S2, eS2, hF⟩ := nm_some hF
  refine fp_X0_42 hx hb hown hts hE hs 5 rfl (ws' := WD G a S2) (Nat.le_of_ble_eq_true rfl) (by subst eS2; rfl) dX0_stepDigits_7 (fun H locs hs => ?_)
  refine hL10 _ (fun S9 H locs ls hF hs hl => ?_) FU S2 _ _ _ hF hs (lv_sub hl [0] rfl)
  exact hJ92_n S9 _ _ _ hF hs (lv_sub hl [0] rfl)
set_option maxHeartbeats 4000000 in
set_option maxRecDepth 100000 in
theorem c_X0_step (G : GT) (l : Launch) (a : Nat → Nat) (S : DS) (r : DS) (hF : F_X0_step S = some r) : MT G l yX0_step cX0_step 1 (none) 2 40 [.ref (a 0)] (WD G a S) none (WD G a r) := by
  refine MT.of (by decide) (Nat.le_of_ble_eq_true rfl) ?_
  intro p e s m args below meth c A ls hx hb hr hml hown hts hlk hE hA hs hl Q hQ
  have hl : lv_has ls 1 [(0, .ref (a 0))] := hl
  have hL0 : ∀ (k : DS → Option (DS)) (hk : ∀ (S : DS) (H : Heap) (locs : List Loc) (ls : Array Slot), k S = some r → SI G A s H locs (WD G a S) → lv_has ls 1 [(0, .ref (a 0))] → W p l e (RM 2 40) s m args below meth c H locs 0 0 Q (F0 m 38 ls [])) (fu : Nat) (S : DS) (H : Heap) (locs : List Loc) (ls : Array Slot), lo1 (B_X0_step_0 k) fu S = some r → SI G A s H locs (WD G a S) → lv_has ls 1 [(0, .ref (a 0))] → W p l e (RM 2 40) s m args below meth c H locs 0 0 Q (F0 m 0 ls []) := by
    intro k hk fu
    induction fu with
    | zero =>
      intro S H locs ls hF hs hl
      exact nomatch (show (none : Option (DS)) = some r from hF)
    | succ fu hrec =>
      intro S H locs ls hF hs hl
      have hF : (B_X0_step_0 k) (lo1 (B_X0_step_0 k) fu) S = some r := hF
      unfold B_X0_step_0 at hF
      refine lv_aload_n hx hb dX0_step_0 rfl (lv_at hl 0 rfl) ?_
      refine fg_X0_30 hx hb hown hts hE hs 5 rfl (v := .int (d_next S)) rfl dX0_step_1 ?_
      refine lv_aload_n hx hb dX0_step_4 rfl (lv_at hl 0 rfl) ?_
      refine fg_X0_26 hx hb hown hts hE hs 5 rfl (v := .int (d_end S)) rfl dX0_step_5 ?_
      refine lv_icmp_ge (tgt := 38) hx hb dX0_step_8 (by decide) (fun hc => ?_) (fun hc => ?_)
      · have hF := (if_pos hc).symm.trans hF
        exact hk S _ _ _ hF hs (lv_sub hl [0] rfl)
      · have hF := (if_neg hc).symm.trans hF
        refine lv_aload_n hx hb dX0_step_11 rfl (lv_at hl 0 rfl) ?_
        refine fg_X0_9 hx hb hown hts hE hs 5 rfl (v := .ref (a 1)) rfl dX0_step_12 ?_
        refine lv_aload_n hx hb dX0_step_15 rfl (lv_at hl 0 rfl) ?_
        refine fg_X0_30 hx hb hown hts hE hs 5 rfl (v := .int (d_next S)) rfl dX0_step_16 ?_
        obtain ⟨v1, hv1, hF⟩ := bd hF
        refine sx_bald hx hb hE hs 6 (f := d_bytes S) rfl hv1 dX0_step_19 ?_
        refine lv_bipush (v := (32 : Int32)) hx hb dX0_step_20 (by decide) ?_
        refine lv_icmp_ne (tgt := 38) hx hb dX0_step_22 (by decide) (fun hc => ?_) (fun hc => ?_)
        · have hF := (if_neg hc).symm.trans hF
          exact hk S _ _ _ hF hs (lv_sub hl [0] rfl)
        · have hF := (if_pos hc).symm.trans hF
          refine lv_aload_n hx hb dX0_step_25 rfl (lv_at hl 0 rfl) ?_
          refine lv_dup hx hb dX0_step_26 rfl ?_
          refine fg_X0_30 hx hb hown hts hE hs 5 rfl (v := .int (d_next S)) rfl dX0_step_27 ?_
          refine lv_iconst (v := (1 : Int32)) hx hb dX0_step_30 (by decide) ?_
          refine lv_iadd hx hb dX0_step_31 ?_
          obtain ⟨S2, eS2, hF⟩ := nm_some hF
          refine fp_X0_30 hx hb hown hts hE hs 5 rfl (ws' := WD G a S2) (Nat.le_of_ble_eq_true rfl) (by subst eS2; rfl) dX0_step_32 (fun H locs hs => ?_)
          refine lv_goto (tgt := 0) hx hb dX0_step_35 (by decide) ?_
          exact hrec S2 _ _ _ hF hs (lv_sub hl [0] rfl)
  have hJ129_n : ∀ (S : DS) (y0 : Int32) (H : Heap) (locs : List Loc) (ls : Array Slot), J_X0_step_129 S y0 = some r → SI G A s H locs (WD G a S) → lv_has ls 1 [(0, .ref (a 0))] → W p l e (RM 2 40) s m args below meth c H locs 0 0 Q (F0 m 129 ls [.int y0, .ref (a 0)]) := by
    intro S y0 H locs ls hF hs hl
    unfold J_X0_step_129 at hF
    obtain ⟨S10, eS10, hF⟩ := nm_some hF
    refine fp_X0_39 hx hb hown hts hE hs 5 rfl (ws' := WD G a S10) (Nat.le_of_ble_eq_true rfl) (by subst eS10; rfl) dX0_step_129 (fun H locs hs => ?_)
    refine lv_aload_n hx hb dX0_step_132 rfl (lv_at hl 0 rfl) ?_
    refine lv_dup hx hb dX0_step_133 rfl ?_
    refine fg_X0_30 hx hb hown hts hE hs 5 rfl (v := .int (d_next S10)) rfl dX0_step_134 ?_
    refine lv_iconst (v := (1 : Int32)) hx hb dX0_step_137 (by decide) ?_
    refine lv_iadd hx hb dX0_step_138 ?_
    obtain ⟨S11, eS11, hF⟩ := nm_some hF
    refine fp_X0_30 hx hb hown hts hE hs 5 rfl (ws' := WD G a S11) (Nat.le_of_ble_eq_true rfl) (by subst eS11; rfl) dX0_step_139 (fun H locs hs => ?_)
    exact sx_vret hx hb hr hlk hQ (congrArg (fun z => WD G a z) (Option.some.inj hF)) hs dX0_step_142
  have hJ38_n : ∀ (S : DS) (H : Heap) (locs : List Loc) (ls : Array Slot), J_X0_step_38 S = some r → SI G A s H locs (WD G a S) → lv_has ls 1 [(0, .ref (a 0))] → W p l e (RM 2 40) s m args below meth c H locs 0 0 Q (F0 m 38 ls []) := by
    intro S H locs ls hF hs hl
    unfold J_X0_step_38 at hF
    refine lv_aload_n hx hb dX0_step_38 rfl (lv_at hl 0 rfl) ?_
    refine lv_aload_n hx hb dX0_step_39 rfl (lv_at hl 0 rfl) ?_
    refine fg_X0_30 hx hb hown hts hE hs 5 rfl (v := .int (d_next S)) rfl dX0_step_40 ?_
    obtain ⟨S4, eS4, hF⟩ := nm_some hF
    refine fp_X0_36 hx hb hown hts hE hs 5 rfl (ws' := WD G a S4) (Nat.le_of_ble_eq_true rfl) (by subst eS4; rfl) dX0_step_43 (fun H locs hs => ?_)
    refine lv_aload_n hx hb dX0_step_46 rfl (lv_at hl 0 rfl) ?_
    refine fg_X0_30 hx hb hown hts hE hs 5 rfl (v := .int (d_next S4)) rfl dX0_step_47 ?_
    refine lv_aload_n hx hb dX0_step_50 rfl (lv_at hl 0 rfl) ?_
    refine fg_X0_26 hx hb hown hts hE hs 5 rfl (v := .int (d_end S4)) rfl dX0_step_51 ?_
    refine lv_icmp_lt (tgt := 65) hx hb dX0_step_54 (by decide) (fun hc => ?_) (fun hc => ?_)
    · have hF := (if_pos hc).symm.trans hF
      refine lv_aload_n hx hb dX0_step_65 rfl (lv_at hl 0 rfl) ?_
      refine fg_X0_9 hx hb hown hts hE hs 5 rfl (v := .ref (a 1)) rfl dX0_step_66 ?_
      refine lv_aload_n hx hb dX0_step_69 rfl (lv_at hl 0 rfl) ?_
      refine fg_X0_30 hx hb hown hts hE hs 5 rfl (v := .int (d_next S4)) rfl dX0_step_70 ?_
      obtain ⟨v5, hv5, hF⟩ := bd hF
      refine sx_bald hx hb hE hs 6 (f := d_bytes S4) rfl hv5 dX0_step_73 ?_
      obtain ⟨q6, hq6, hF⟩ := bd hF
      refine sx_S (As := [.int v5]) (rest := []) (st1 := [.int q6]) (c_X0_isLetter G l  v5 q6 hq6) v_X0_183 ⟨(Nat.le_of_ble_eq_true rfl), (Nat.le_of_ble_eq_true rfl)⟩ hx hb hml hown hts hE hA hs ⟨Nat.le_refl 0, Nat.le_refl 0⟩ rfl rfl rfl hl.1 (Nat.le_of_ble_eq_true rfl) dX0_step_74 (List.Perm.refl _) (ws' := WD G a S4) (List.Perm.refl _) (fun H locs hs => ?_)
      refine lv_if_eq (tgt := 87) hx hb dX0_step_77 (by decide) (fun hc => ?_) (fun hc => ?_)
      · have hF := (if_pos hc).symm.trans hF
        refine lv_aload_n hx hb dX0_step_87 rfl (lv_at hl 0 rfl) ?_
        refine fg_X0_9 hx hb hown hts hE hs 5 rfl (v := .ref (a 1)) rfl dX0_step_88 ?_
        refine lv_aload_n hx hb dX0_step_91 rfl (lv_at hl 0 rfl) ?_
        refine fg_X0_30 hx hb hown hts hE hs 5 rfl (v := .int (d_next S4)) rfl dX0_step_92 ?_
        obtain ⟨v7, hv7, hF⟩ := bd hF
        refine sx_bald hx hb hE hs 6 (f := d_bytes S4) rfl hv7 dX0_step_95 ?_
        obtain ⟨q8, hq8, hF⟩ := bd hF
        refine sx_S (As := [.int v7]) (rest := []) (st1 := [.int q8]) (c_X0_isDigit G l  v7 q8 hq8) v_X0_190 ⟨(Nat.le_of_ble_eq_true rfl), (Nat.le_of_ble_eq_true rfl)⟩ hx hb hml hown hts hE hA hs ⟨Nat.le_refl 0, Nat.le_refl 0⟩ rfl rfl rfl hl.1 (Nat.le_of_ble_eq_true rfl) dX0_step_96 (List.Perm.refl _) (ws' := WD G a S4) (List.Perm.refl _) (fun H locs hs => ?_)
        refine lv_if_eq (tgt := 109) hx hb dX0_step_99 (by decide) (fun hc => ?_) (fun hc => ?_)
        · have hF := (if_pos hc).symm.trans hF
          refine lv_aload_n hx hb dX0_step_109 rfl (lv_at hl 0 rfl) ?_
          refine lv_aload_n hx hb dX0_step_110 rfl (lv_at hl 0 rfl) ?_
          refine fg_X0_9 hx hb hown hts hE hs 5 rfl (v := .ref (a 1)) rfl dX0_step_111 ?_
          refine lv_aload_n hx hb dX0_step_114 rfl (lv_at hl 0 rfl) ?_
          refine fg_X0_30 hx hb hown hts hE hs 5 rfl (v := .int (d_next S4)) rfl dX0_step_115 ?_
          obtain ⟨v9, hv9, hF⟩ := bd hF
          refine sx_bald hx hb hE hs 6 (f := d_bytes S4) rfl hv9 dX0_step_118 ?_
          refine lv_bipush (v := (59 : Int32)) hx hb dX0_step_119 (by decide) ?_
          refine lv_icmp_ne (tgt := 128) hx hb dX0_step_121 (by decide) (fun hc => ?_) (fun hc => ?_)
          · have hF := (if_neg hc).symm.trans hF
            refine lv_iconst (v := (4 : Int32)) hx hb dX0_step_128 (by decide) ?_
            exact hJ129_n S4 (4 : Int32) _ _ _ hF hs (lv_sub hl [0] rfl)
          · have hF := (if_pos hc).symm.trans hF
            refine lv_iconst (v := (3 : Int32)) hx hb dX0_step_124 (by decide) ?_
            refine lv_goto (tgt := 129) hx hb dX0_step_125 (by decide) ?_
            exact hJ129_n S4 (3 : Int32) _ _ _ hF hs (lv_sub hl [0] rfl)
        · have hF := (if_neg hc).symm.trans hF
          refine lv_aload_n hx hb dX0_step_102 rfl (lv_at hl 0 rfl) ?_
          obtain ⟨q12, hq12, hF⟩ := bd hF
          refine sx_V (As := []) (rest := []) (st1 := []) (c_X0_stepDigits G l a S4 q12 hq12) v_X0_193 ⟨(Nat.le_of_ble_eq_true rfl), (Nat.le_of_ble_eq_true rfl)⟩ hx hb hml hown hts hE hA hs ⟨Nat.le_refl 0, Nat.le_refl 0⟩ 5 rfl rfl rfl rfl rfl hl.1 (Nat.le_of_ble_eq_true rfl) dX0_step_103 (pmW _) (ws' := WD G a q12) (pmW _) (fun H locs hs => ?_)
          refine lv_goto (tgt := 142) hx hb dX0_step_106 (by decide) ?_
          exact sx_vret hx hb hr hlk hQ (congrArg (fun z => WD G a z) (Option.some.inj hF)) hs dX0_step_142
      · have hF := (if_neg hc).symm.trans hF
        refine lv_aload_n hx hb dX0_step_80 rfl (lv_at hl 0 rfl) ?_
        obtain ⟨q13, hq13, hF⟩ := bd hF
        refine sx_V (As := []) (rest := []) (st1 := []) (c_X0_stepLetters G l a S4 q13 hq13) v_X0_187 ⟨(Nat.le_of_ble_eq_true rfl), (Nat.le_of_ble_eq_true rfl)⟩ hx hb hml hown hts hE hA hs ⟨Nat.le_refl 0, Nat.le_refl 0⟩ 5 rfl rfl rfl rfl rfl hl.1 (Nat.le_of_ble_eq_true rfl) dX0_step_81 (pmW _) (ws' := WD G a q13) (pmW _) (fun H locs hs => ?_)
        refine lv_goto (tgt := 142) hx hb dX0_step_84 (by decide) ?_
        exact sx_vret hx hb hr hlk hQ (congrArg (fun z => WD G a z) (Option.some.inj hF)) hs dX0_step_142
    · have hF := (if_neg hc).symm.trans hF
      refine lv_aload_n hx hb dX0_step_57 rfl (lv_at hl 0 rfl) ?_
      refine lv_iconst (v := (0 : Int32)) hx hb dX0_step_58 (by decide) ?_
      obtain ⟨S14, eS14, hF⟩ := nm_some hF
      refine fp_X0_39 hx hb hown hts hE hs 5 rfl (ws' := WD G a S14) (Nat.le_of_ble_eq_true rfl) (by subst eS14; rfl) dX0_step_59 (fun H locs hs => ?_)
      refine lv_goto (tgt := 142) hx hb dX0_step_62 (by decide) ?_
      exact sx_vret hx hb hr hlk hQ (congrArg (fun z => WD G a z) (Option.some.inj hF)) hs dX0_step_142
  unfold F_X0_step at hF
  refine hL0 _ (fun S3 H locs ls hF hs hl => ?_) FU S _ _ _ hF hs (lv_sub hl [0] rfl)
  exact hJ38_n S3 _ _ _ hF hs (lv_sub hl [0] rfl)
set_option maxHeartbeats 4000000 in
set_option maxRecDepth 100000 in
theorem c_X0_fixedWord (G : GT) (l : Launch) (a : Nat → Nat) (S : DS) (r : (Option Nat)) (hF : F_X0_fixedWord S = some r) : MT G l yX0_fixedWord cX0_fixedWord 2 (some (.object "BothToBlame$Word")) 0 0 [.ref (a 0)] (WD G a S) (some (va_re G.2.2.2 r)) (WD G a S) := by
  refine MT.of (by decide) (Nat.le_of_ble_eq_true rfl) ?_
  intro p e s m args below meth c A ls hx hb hr hml hown hts hlk hE hA hs hl Q hQ
  have hl : lv_has ls 2 [(0, .ref (a 0))] := hl
  have hL12 : ∀ (k : Unit → Option ((Option Nat))) (hk : ∀ (_u : Unit) (H : Heap) (locs : List Loc) (ls : Array Slot), k _u = some r → SI G A s H locs (WD G a S) → lv_has ls 2 [] → W p l e (RM 0 0) s m args below meth c H locs 0 0 Q (F0 m 48 ls [])) (fu : Nat) (x1 : Int32) (H : Heap) (locs : List Loc) (ls : Array Slot), lo1 (B_X0_fixedWord_12 S k) fu x1 = some r → SI G A s H locs (WD G a S) → lv_has ls 2 [(0, .ref (a 0)), (1, .int x1)] → W p l e (RM 0 0) s m args below meth c H locs 0 0 Q (F0 m 12 ls []) := by
    intro k hk fu
    induction fu with
    | zero =>
      intro x1 H locs ls hF hs hl
      exact nomatch (show (none : Option ((Option Nat))) = some r from hF)
    | succ fu hrec =>
      intro x1 H locs ls hF hs hl
      have hF : (B_X0_fixedWord_12 S k) (lo1 (B_X0_fixedWord_12 S k) fu) x1 = some r := hF
      unfold B_X0_fixedWord_12 at hF
      refine lv_iload_n hx hb dX0_fixedWord_12 rfl (lv_at hl 1 rfl) ?_
      refine va_gets (v := .ref (G.2.2.1 5)) hx hb hE.2.2.2.1 hs.2.2 hown (hts _ g363) (fun _ h9 => h9) dX0_fixedWord_13 ?_
      refine va_tlen hx hb hE.2.2.2.2.1 hs.2.2 (v := (19 : Int32)) rfl dX0_fixedWord_16 ?_
      refine lv_icmp_ge (tgt := 48) hx hb dX0_fixedWord_17 (by decide) (fun hc => ?_) (fun hc => ?_)
      · have hF := (if_pos hc).symm.trans hF
        exact hk () _ _ _ hF hs (lv_sub hl [] rfl)
      · have hF := (if_neg hc).symm.trans hF
        refine va_gets (v := .ref (G.2.2.1 5)) hx hb hE.2.2.2.1 hs.2.2 hown (hts _ g363) (fun _ h9 => h9) dX0_fixedWord_20 ?_
        refine lv_iload_n hx hb dX0_fixedWord_23 rfl (lv_at hl 1 rfl) ?_
        obtain ⟨j1, hj1, hF⟩ := bd hF
        refine sx_wald hx hb hE hs hj1 dX0_fixedWord_24 ?_
        obtain ⟨v2, hv2, hF⟩ := bd hF
        refine sx_wletters hx hb hown hE hs hv2 (hE.2.1 _ g1497) dX0_fixedWord_25 ?_
        refine lv_aload_n hx hb dX0_fixedWord_28 rfl (lv_at hl 0 rfl) ?_
        refine fg_X0_45 hx hb hown hts hE hs 5 rfl (v := .long (d_letters S)) rfl dX0_fixedWord_29 ?_
        refine W.lcmp hx hb dX0_fixedWord_32 ?_
        refine lv_if_ne (tgt := 42) hx hb dX0_fixedWord_33 (by decide) (fun hc => ?_) (fun hc => ?_)
        · have hF := (if_neg hc).symm.trans hF
          obtain ⟨v3, ev3, hF⟩ := nm_some hF
          refine lv_iinc (v := v3) (lv' := [(1, .int v3), (0, .ref (a 0))]) hx hb dX0_fixedWord_42 hl (k := 1) rfl (by rw [ev3]; rfl) (by decide) rfl (fun ls hl => ?_)
          refine lv_goto (tgt := 12) hx hb dX0_fixedWord_45 (by decide) ?_
          exact hrec v3 _ _ _ hF hs (lv_sub hl [1, 0] rfl)
        · have hF := (if_pos hc).symm.trans hF
          refine va_gets (v := .ref (G.2.2.1 5)) hx hb hE.2.2.2.1 hs.2.2 hown (hts _ g363) (fun _ h9 => h9) dX0_fixedWord_36 ?_
          refine lv_iload_n hx hb dX0_fixedWord_39 rfl (lv_at hl 1 rfl) ?_
          obtain ⟨j4, hj4, hF⟩ := bd hF
          refine sx_wald hx hb hE hs hj4 dX0_fixedWord_40 ?_
          exact sx_aret hx hb hr hlk hQ (Option.some.inj hF) rfl hs dX0_fixedWord_41
  unfold F_X0_fixedWord at hF
  refine lv_aload_n hx hb dX0_fixedWord_0 rfl (lv_at hl 0 rfl) ?_
  refine fg_X0_39 hx hb hown hts hE hs 5 rfl (v := .int (d_token S)) rfl dX0_fixedWord_1 ?_
  refine lv_iconst (v := (1 : Int32)) hx hb dX0_fixedWord_4 (by decide) ?_
  refine lv_icmp_eq (tgt := 10) hx hb dX0_fixedWord_5 (by decide) (fun hc => ?_) (fun hc => ?_)
  · have hF := (if_pos hc).symm.trans hF
    refine lv_iconst (v := (0 : Int32)) hx hb dX0_fixedWord_10 (by decide) ?_
    refine lv_istore_n (lv' := [(1, .int (0 : Int32)), (0, .ref (a 0))]) hx hb dX0_fixedWord_11 rfl hl (by decide) rfl (fun ls hl => ?_)
    refine hL12 _ (fun _u H locs ls hF hs hl => ?_) FU (0 : Int32) _ _ _ hF hs (lv_sub hl [1, 0] rfl)
    refine lv_null hx hb dX0_fixedWord_48 ?_
    exact sx_aretN hx hb hr hlk hQ (Option.some.inj hF) rfl hs dX0_fixedWord_49
  · have hF := (if_neg hc).symm.trans hF
    refine lv_null hx hb dX0_fixedWord_8 ?_
    exact sx_aretN hx hb hr hlk hQ (Option.some.inj hF) rfl hs dX0_fixedWord_9
set_option maxHeartbeats 4000000 in
set_option maxRecDepth 100000 in
theorem c_X0_fail (G : GT) (l : Launch) (a : Nat → Nat) (S : DS) (x1 : Int32) (r : Int32 × DS) (hF : F_X0_fail S x1 = some r) : MT G l yX0_fail cX0_fail 2 (some .boolean) 0 0 [.ref (a 0), .int x1] (WD G a S) (some (.int r.1)) (WD G a r.2) := by
  refine MT.of (by decide) (Nat.le_of_ble_eq_true rfl) ?_
  intro p e s m args below meth c A ls hx hb hr hml hown hts hlk hE hA hs hl Q hQ
  have hl : lv_has ls 2 [(0, .ref (a 0)), (1, .int x1)] := hl
  unfold F_X0_fail at hF
  refine lv_aload_n hx hb dX0_fail_0 rfl (lv_at hl 0 rfl) ?_
  refine lv_iload_n hx hb dX0_fail_1 rfl (lv_at hl 1 rfl) ?_
  obtain ⟨S1, eS1, hF⟩ := nm_some hF
  refine fp_X0_33 hx hb hown hts hE hs 5 rfl (ws' := WD G a S1) (Nat.le_of_ble_eq_true rfl) (by subst eS1; rfl) dX0_fail_2 (fun H locs hs => ?_)
  refine lv_iconst (v := (0 : Int32)) hx hb dX0_fail_5 (by decide) ?_
  exact sx_zret hx hb hr hlk hQ (Or.inl rfl) (congrArg Prod.fst (Option.some.inj hF)) (congrArg (fun z => WD G a z) (congrArg Prod.snd (Option.some.inj hF))) hs dX0_fail_6
set_option maxHeartbeats 4000000 in
set_option maxRecDepth 100000 in
theorem c_X0_isName (G : GT) (l : Launch) (a : Nat → Nat) (S : DS) (r : Int32) (hF : F_X0_isName S = some r) : MT G l yX0_isName cX0_isName 1 (some .boolean) 1 21 [.ref (a 0)] (WD G a S) (some (.int r)) (WD G a S) := by
  refine MT.of (by decide) (Nat.le_of_ble_eq_true rfl) ?_
  intro p e s m args below meth c A ls hx hb hr hml hown hts hlk hE hA hs hl Q hQ
  have hl : lv_has ls 1 [(0, .ref (a 0))] := hl
  unfold F_X0_isName at hF
  refine lv_aload_n hx hb dX0_isName_0 rfl (lv_at hl 0 rfl) ?_
  refine fg_X0_39 hx hb hown hts hE hs 5 rfl (v := .int (d_token S)) rfl dX0_isName_1 ?_
  refine lv_iconst (v := (1 : Int32)) hx hb dX0_isName_4 (by decide) ?_
  refine lv_icmp_ne (tgt := 28) hx hb dX0_isName_5 (by decide) (fun hc => ?_) (fun hc => ?_)
  · have hF := (if_neg hc).symm.trans hF
    refine lv_iconst (v := (0 : Int32)) hx hb dX0_isName_28 (by decide) ?_
    exact sx_zret hx hb hr hlk hQ (Or.inl rfl) (Option.some.inj hF) rfl hs dX0_isName_29
  · have hF := (if_pos hc).symm.trans hF
    refine lv_aload_n hx hb dX0_isName_8 rfl (lv_at hl 0 rfl) ?_
    refine fg_X0_42 hx hb hown hts hE hs 5 rfl (v := .int (d_length S)) rfl dX0_isName_9 ?_
    refine lv_bipush (v := (6 : Int32)) hx hb dX0_isName_12 (by decide) ?_
    refine lv_icmp_gt (tgt := 28) hx hb dX0_isName_14 (by decide) (fun hc => ?_) (fun hc => ?_)
    · have hF := (if_pos hc).symm.trans hF
      refine lv_iconst (v := (0 : Int32)) hx hb dX0_isName_28 (by decide) ?_
      exact sx_zret hx hb hr hlk hQ (Or.inl rfl) (Option.some.inj hF) rfl hs dX0_isName_29
    · have hF := (if_neg hc).symm.trans hF
      refine lv_aload_n hx hb dX0_isName_17 rfl (lv_at hl 0 rfl) ?_
      obtain ⟨q1, hq1, hF⟩ := bd hF
      cases q1 with
      | none =>
        have hF := el_none hF
        refine sx_V (As := []) (rest := []) (st1 := [.null]) (c_X0_fixedWord G l a S none hq1) v_X0_80 ⟨(Nat.le_of_ble_eq_true rfl), (Nat.le_of_ble_eq_true rfl)⟩ hx hb hml hown hts hE hA hs ⟨Nat.le_refl 0, Nat.le_refl 0⟩ 5 rfl rfl rfl rfl rfl hl.1 (Nat.le_of_ble_eq_true rfl) dX0_isName_18 (pmW _) (ws' := WD G a S) (pmW _) (fun H locs hs => ?_)
        refine lv_ifnonnullN hx hb dX0_isName_21 ?_
        refine lv_iconst (v := (1 : Int32)) hx hb dX0_isName_24 (by decide) ?_
        refine lv_goto (tgt := 29) hx hb dX0_isName_25 (by decide) ?_
        exact sx_zret hx hb hr hlk hQ (Or.inr rfl) (Option.some.inj hF) rfl hs dX0_isName_29
      | some w2 =>
        have hF := el_some hF
        refine sx_V (As := []) (rest := []) (st1 := [.ref (G.2.2.2 w2)]) (c_X0_fixedWord G l a S (some w2) hq1) v_X0_80 ⟨(Nat.le_of_ble_eq_true rfl), (Nat.le_of_ble_eq_true rfl)⟩ hx hb hml hown hts hE hA hs ⟨Nat.le_refl 0, Nat.le_refl 0⟩ 5 rfl rfl rfl rfl rfl hl.1 (Nat.le_of_ble_eq_true rfl) dX0_isName_18 (pmW _) (ws' := WD G a S) (pmW _) (fun H locs hs => ?_)
        refine lv_ifnonnull (tgt := 28) hx hb dX0_isName_21 (by decide) ?_
        refine lv_iconst (v := (0 : Int32)) hx hb dX0_isName_28 (by decide) ?_
        exact sx_zret hx hb hr hlk hQ (Or.inl rfl) (Option.some.inj hF) rfl hs dX0_isName_29
set_option maxHeartbeats 4000000 in
set_option maxRecDepth 100000 in
theorem c_X4_within (G : GT) (l : Launch) (x0 : Int32) (x1 : Int32) (x2 : Int32) (r : Int32) (hF : F_X4_within x0 x1 x2 = some r) : MT G l yX4_within cX4_within 3 (some .boolean) 0 0 [.int x0, .int x1, .int x2] (([] : va_W)) (some (.int r)) (([] : va_W)) := by
  refine MT.of (by decide) (Nat.le_of_ble_eq_true rfl) ?_
  intro p e s m args below meth c A ls hx hb hr hml hown hts hlk hE hA hs hl Q hQ
  have hl : lv_has ls 3 [(0, .int x0), (1, .int x1), (2, .int x2)] := hl
  unfold F_X4_within at hF
  refine lv_iload_n hx hb dX4_within_0 rfl (lv_at hl 0 rfl) ?_
  refine lv_iload_n hx hb dX4_within_1 rfl (lv_at hl 1 rfl) ?_
  refine lv_icmp_lt (tgt := 14) hx hb dX4_within_2 (by decide) (fun hc => ?_) (fun hc => ?_)
  · have hF := (if_pos hc).symm.trans hF
    refine lv_iconst (v := (0 : Int32)) hx hb dX4_within_14 (by decide) ?_
    exact sx_zret hx hb hr hlk hQ (Or.inl rfl) (Option.some.inj hF) rfl hs dX4_within_15
  · have hF := (if_neg hc).symm.trans hF
    refine lv_iload_n hx hb dX4_within_5 rfl (lv_at hl 0 rfl) ?_
    refine lv_iload_n hx hb dX4_within_6 rfl (lv_at hl 2 rfl) ?_
    refine lv_icmp_gt (tgt := 14) hx hb dX4_within_7 (by decide) (fun hc => ?_) (fun hc => ?_)
    · have hF := (if_pos hc).symm.trans hF
      refine lv_iconst (v := (0 : Int32)) hx hb dX4_within_14 (by decide) ?_
      exact sx_zret hx hb hr hlk hQ (Or.inl rfl) (Option.some.inj hF) rfl hs dX4_within_15
    · have hF := (if_neg hc).symm.trans hF
      refine lv_iconst (v := (1 : Int32)) hx hb dX4_within_10 (by decide) ?_
      refine lv_goto (tgt := 15) hx hb dX4_within_11 (by decide) ?_
      exact sx_zret hx hb hr hlk hQ (Or.inr rfl) (Option.some.inj hF) rfl hs dX4_within_15
set_option maxHeartbeats 4000000 in
set_option maxRecDepth 100000 in
theorem c_X0_isWholeWithin (G : GT) (l : Launch) (a : Nat → Nat) (S : DS) (x1 : Int32) (x2 : Int32) (r : Int32 × DS) (hF : F_X0_isWholeWithin S x1 x2 = some r) : MT G l yX0_isWholeWithin cX0_isWholeWithin 3 (some .boolean) 1 22 [.ref (a 0), .int x1, .int x2] (WD G a S) (some (.int r.1)) (WD G a r.2) := by
  refine MT.of (by decide) (Nat.le_of_ble_eq_true rfl) ?_
  intro p e s m args below meth c A ls hx hb hr hml hown hts hlk hE hA hs hl Q hQ
  have hl : lv_has ls 3 [(0, .ref (a 0)), (1, .int x1), (2, .int x2)] := hl
  have hJ34_n : ∀ (S : DS) (H : Heap) (locs : List Loc) (ls : Array Slot), J_X0_isWholeWithin_34 S = some r → SI G A s H locs (WD G a S) → lv_has ls 3 [] → W p l e (RM 1 22) s m args below meth c H locs 0 0 Q (F0 m 34 ls []) := by
    intro S H locs ls hF hs hl
    unfold J_X0_isWholeWithin_34 at hF
    refine lv_iconst (v := (1 : Int32)) hx hb dX0_isWholeWithin_34 (by decide) ?_
    refine lv_goto (tgt := 39) hx hb dX0_isWholeWithin_35 (by decide) ?_
    exact sx_zret hx hb hr hlk hQ (Or.inr rfl) (congrArg Prod.fst (Option.some.inj hF)) (congrArg (fun z => WD G a z) (congrArg Prod.snd (Option.some.inj hF))) hs dX0_isWholeWithin_39
  unfold F_X0_isWholeWithin at hF
  refine lv_aload_n hx hb dX0_isWholeWithin_0 rfl (lv_at hl 0 rfl) ?_
  refine fg_X0_39 hx hb hown hts hE hs 5 rfl (v := .int (d_token S)) rfl dX0_isWholeWithin_1 ?_
  refine lv_iconst (v := (2 : Int32)) hx hb dX0_isWholeWithin_4 (by decide) ?_
  refine lv_icmp_eq (tgt := 14) hx hb dX0_isWholeWithin_5 (by decide) (fun hc => ?_) (fun hc => ?_)
  · have hF := (if_pos hc).symm.trans hF
    refine lv_aload_n hx hb dX0_isWholeWithin_14 rfl (lv_at hl 0 rfl) ?_
    refine fg_X0_49 hx hb hown hts hE hs 5 rfl (v := .int (d_number S)) rfl dX0_isWholeWithin_15 ?_
    refine lv_iload_n hx hb dX0_isWholeWithin_18 rfl (lv_at hl 1 rfl) ?_
    refine lv_iload_n hx hb dX0_isWholeWithin_19 rfl (lv_at hl 2 rfl) ?_
    obtain ⟨q1, hq1, hF⟩ := bd hF
    refine sx_SN (As := [.int (d_number S), .int x1, .int x2]) (rest := []) (st1 := [.int q1]) (c_X4_within G l  (d_number S) x1 x2 q1 hq1) v_X0_174 ⟨(Nat.le_of_ble_eq_true rfl), (Nat.le_of_ble_eq_true rfl)⟩ hx hb hml hown hts hE hA hs ⟨Nat.le_refl 0, Nat.le_refl 0⟩ rfl rfl rfl hl.1 (Nat.le_of_ble_eq_true rfl) dX0_isWholeWithin_20 (List.Perm.refl _) (ws' := WD G a S) (List.Perm.refl _) (fun H locs hs => ?_)
    refine lv_if_ne (tgt := 34) hx hb dX0_isWholeWithin_23 (by decide) (fun hc => ?_) (fun hc => ?_)
    · have hF := (if_neg hc).symm.trans hF
      exact hJ34_n S _ _ _ hF hs (lv_sub hl [] rfl)
    · have hF := (if_pos hc).symm.trans hF
      refine lv_aload_n hx hb dX0_isWholeWithin_26 rfl (lv_at hl 0 rfl) ?_
      refine lv_iconst (v := (2 : Int32)) hx hb dX0_isWholeWithin_27 (by decide) ?_
      obtain ⟨q2, hq2, hF⟩ := bd hF
      refine sx_V (As := [.int (2 : Int32)]) (rest := []) (st1 := [.int q2.1]) (c_X0_fail G l a S (2 : Int32) q2 hq2) v_X0_89 ⟨(Nat.le_of_ble_eq_true rfl), (Nat.le_of_ble_eq_true rfl)⟩ hx hb hml hown hts hE hA hs ⟨Nat.le_refl 0, Nat.le_refl 0⟩ 5 rfl rfl rfl rfl rfl hl.1 (Nat.le_of_ble_eq_true rfl) dX0_isWholeWithin_28 (pmW _) (ws' := WD G a q2.2) (pmW _) (fun H locs hs => ?_)
      refine lv_if_eq (tgt := 38) hx hb dX0_isWholeWithin_31 (by decide) (fun hc => ?_) (fun hc => ?_)
      · have hF := (if_pos hc).symm.trans hF
        refine lv_iconst (v := (0 : Int32)) hx hb dX0_isWholeWithin_38 (by decide) ?_
        exact sx_zret hx hb hr hlk hQ (Or.inl rfl) (congrArg Prod.fst (Option.some.inj hF)) (congrArg (fun z => WD G a z) (congrArg Prod.snd (Option.some.inj hF))) hs dX0_isWholeWithin_39
      · have hF := (if_neg hc).symm.trans hF
        exact hJ34_n q2.2 _ _ _ hF hs (lv_sub hl [] rfl)
  · have hF := (if_neg hc).symm.trans hF
    refine lv_aload_n hx hb dX0_isWholeWithin_8 rfl (lv_at hl 0 rfl) ?_
    refine lv_iconst (v := (1 : Int32)) hx hb dX0_isWholeWithin_9 (by decide) ?_
    obtain ⟨q3, hq3, hF⟩ := bd hF
    refine sx_V (As := [.int (1 : Int32)]) (rest := []) (st1 := [.int q3.1]) (c_X0_fail G l a S (1 : Int32) q3 hq3) v_X0_89 ⟨(Nat.le_of_ble_eq_true rfl), (Nat.le_of_ble_eq_true rfl)⟩ hx hb hml hown hts hE hA hs ⟨Nat.le_refl 0, Nat.le_refl 0⟩ 5 rfl rfl rfl rfl rfl hl.1 (Nat.le_of_ble_eq_true rfl) dX0_isWholeWithin_10 (pmW _) (ws' := WD G a q3.2) (pmW _) (fun H locs hs => ?_)
    obtain ⟨hz, hF⟩ := zz_some hF
    exact sx_zret hx hb hr hlk hQ hz (congrArg Prod.fst (Option.some.inj hF)) (congrArg (fun z => WD G a z) (congrArg Prod.snd (Option.some.inj hF))) hs dX0_isWholeWithin_13
set_option maxHeartbeats 4000000 in
set_option maxRecDepth 100000 in
theorem c_X0_readColumn (G : GT) (l : Launch) (a : Nat → Nat) (S : DS) (x1 : Nat) (r : Int32 × DS) (hF : F_X0_readColumn S x1 = some r) : MT G l yX0_readColumn cX0_readColumn 3 (some .boolean) 3 60 [.ref (a 0), .ref (G.2.2.2 x1)] (WD G a S) (some (.int r.1)) (WD G a r.2) := by
  refine MT.of (by decide) (Nat.le_of_ble_eq_true rfl) ?_
  intro p e s m args below meth c A ls hx hb hr hml hown hts hlk hE hA hs hl Q hQ
  have hl : lv_has ls 3 [(0, .ref (a 0)), (1, .ref (G.2.2.2 x1))] := hl
  unfold F_X0_readColumn at hF
  refine lv_aload_n hx hb dX0_readColumn_0 rfl (lv_at hl 1 rfl) ?_
  obtain ⟨v1, hv1, hF⟩ := bd hF
  refine sx_wcolumn hx hb hown hE hs hv1 (hE.2.1 _ g1499) dX0_readColumn_1 ?_
  refine lv_istore_n (lv' := [(2, .int v1), (0, .ref (a 0)), (1, .ref (G.2.2.2 x1))]) hx hb dX0_readColumn_4 rfl hl (by decide) rfl (fun ls hl => ?_)
  refine lv_aload_n hx hb dX0_readColumn_5 rfl (lv_at hl 1 rfl) ?_
  obtain ⟨q2, hq2, hF⟩ := bd hF
  cases q2 with
  | none =>
    have hF := el_none hF
    refine sx_V (As := []) (rest := []) (st1 := [.null]) (c_X0_fixedWord G l a S none hq2) v_X0_80 ⟨(Nat.le_of_ble_eq_true rfl), (Nat.le_of_ble_eq_true rfl)⟩ hx hb hml hown hts hE hA hs ⟨Nat.le_refl 0, Nat.le_refl 0⟩ 5 rfl rfl rfl rfl rfl hl.1 (Nat.le_of_ble_eq_true rfl) dX0_readColumn_6 (pmW _) (ws' := WD G a S) (pmW _) (fun H locs hs => ?_)
    refine lv_aload_n hx hb dX0_readColumn_9 rfl (lv_at hl 2 rfl) ?_
    refine lv_acmp_eq (rx := none) (ry := (some (G.2.2.2 x1))) (tgt := 19) hx hb dX0_readColumn_10 (by decide) (fun hc => ?_) (fun hc => ?_)
    · exact nomatch hc
    · refine lv_aload_n hx hb dX0_readColumn_13 rfl (lv_at hl 1 rfl) ?_
      refine lv_iconst (v := (1 : Int32)) hx hb dX0_readColumn_14 (by decide) ?_
      obtain ⟨q4, hq4, hF⟩ := bd hF
      refine sx_V (As := [.int (1 : Int32)]) (rest := []) (st1 := [.int q4.1]) (c_X0_fail G l a S (1 : Int32) q4 hq4) v_X0_89 ⟨(Nat.le_of_ble_eq_true rfl), (Nat.le_of_ble_eq_true rfl)⟩ hx hb hml hown hts hE hA hs ⟨Nat.le_refl 0, Nat.le_refl 0⟩ 5 rfl rfl rfl rfl rfl hl.1 (Nat.le_of_ble_eq_true rfl) dX0_readColumn_15 (pmW _) (ws' := WD G a q4.2) (pmW _) (fun H locs hs => ?_)
      obtain ⟨hz, hF⟩ := zz_some hF
      exact sx_zret hx hb hr hlk hQ hz (congrArg Prod.fst (Option.some.inj hF)) (congrArg (fun z => WD G a z) (congrArg Prod.snd (Option.some.inj hF))) hs dX0_readColumn_18
  | some w3 =>
    have hF := el_some hF
    refine sx_V (As := []) (rest := []) (st1 := [.ref (G.2.2.2 w3)]) (c_X0_fixedWord G l a S (some w3) hq2) v_X0_80 ⟨(Nat.le_of_ble_eq_true rfl), (Nat.le_of_ble_eq_true rfl)⟩ hx hb hml hown hts hE hA hs ⟨Nat.le_refl 0, Nat.le_refl 0⟩ 5 rfl rfl rfl rfl rfl hl.1 (Nat.le_of_ble_eq_true rfl) dX0_readColumn_6 (pmW _) (ws' := WD G a S) (pmW _) (fun H locs hs => ?_)
    refine lv_aload_n hx hb dX0_readColumn_9 rfl (lv_at hl 2 rfl) ?_
    obtain ⟨u5, hu5, hF⟩ := bd hF
    refine lv_acmp_eq (rx := (some (G.2.2.2 w3))) (ry := (some (G.2.2.2 x1))) (tgt := 19) hx hb dX0_readColumn_10 (by decide) (fun hc => ?_) (fun hc => ?_)
    · have hc := hE.2.2.2.2.2.1.2 _ _ (ltW_some hu5).1 (ltW_some hu5).2 (Option.some.inj hc)
      have hF := (if_pos hc).symm.trans hF
      refine lv_aload_n hx hb dX0_readColumn_19 rfl (lv_at hl 1 rfl) ?_
      obtain ⟨q6, hq6, hF⟩ := bd hF
      refine sx_V (As := []) (rest := []) (st1 := []) (c_X0_step G l a S q6 hq6) v_X0_56 ⟨(Nat.le_of_ble_eq_true rfl), (Nat.le_of_ble_eq_true rfl)⟩ hx hb hml hown hts hE hA hs ⟨Nat.le_refl 0, Nat.le_refl 0⟩ 5 rfl rfl rfl rfl rfl hl.1 (Nat.le_of_ble_eq_true rfl) dX0_readColumn_20 (pmW _) (ws' := WD G a q6) (pmW _) (fun H locs hs => ?_)
      refine lv_aload_n hx hb dX0_readColumn_23 rfl (lv_at hl 1 rfl) ?_
      refine va_getsN (v := .ref (G.2.2.1 0)) hx hb (hE.2.2.1 0 (by decide)).1 hs.2.2 hown (va_Nw.use rfl (hE.2.1 _ g395)) (fun _ h9 => h9) dX0_readColumn_24 ?_
      refine lv_iload_n hx hb dX0_readColumn_27 rfl (lv_at hl 0 rfl) ?_
      obtain ⟨v7, hv7, hF⟩ := bd hF
      refine sx_sald hx hb hE hs 0 (by decide) hv7 dX0_readColumn_28 ?_
      refine va_getsN (v := .ref (G.2.2.1 1)) hx hb (hE.2.2.1 1 (by decide)).1 hs.2.2 hown (va_Nw.use rfl (hE.2.1 _ g397)) (fun _ h9 => h9) dX0_readColumn_29 ?_
      refine lv_iload_n hx hb dX0_readColumn_32 rfl (lv_at hl 0 rfl) ?_
      obtain ⟨v8, hv8, hF⟩ := bd hF
      refine sx_sald hx hb hE hs 1 (by decide) hv8 dX0_readColumn_33 ?_
      obtain ⟨q9, hq9, hF⟩ := bd hF
      refine sx_V (As := [.int v7, .int v8]) (rest := []) (st1 := [.int q9.1]) (c_X0_isWholeWithin G l a q6 v7 v8 q9 hq9) v_X0_149 ⟨(Nat.le_of_ble_eq_true rfl), (Nat.le_of_ble_eq_true rfl)⟩ hx hb hml hown hts hE hA hs ⟨Nat.le_refl 0, Nat.le_refl 0⟩ 5 rfl rfl rfl rfl rfl hl.1 (Nat.le_of_ble_eq_true rfl) dX0_readColumn_34 (pmW _) (ws' := WD G a q9.2) (pmW _) (fun H locs hs => ?_)
      refine lv_if_ne (tgt := 42) hx hb dX0_readColumn_37 (by decide) (fun hc => ?_) (fun hc => ?_)
      · have hF := (if_neg hc).symm.trans hF
        refine lv_aload_n hx hb dX0_readColumn_42 rfl (lv_at hl 1 rfl) ?_
        refine fg_X0_18 hx hb hown hts hE hs 5 rfl (v := .ref (a 3)) rfl dX0_readColumn_43 ?_
        refine lv_aload_n hx hb dX0_readColumn_46 rfl (lv_at hl 1 rfl) ?_
        refine fg_X0_18 hx hb hown hts hE hs 5 rfl (v := .ref (a 3)) rfl dX0_readColumn_47 ?_
        refine fg_X0_69 hx hb hown hts hE hs 0 rfl (v := .int (t_ships (d_told q9.2))) rfl dX0_readColumn_50 ?_
        refine lv_iconst (v := (1 : Int32)) hx hb dX0_readColumn_53 (by decide) ?_
        refine lv_isub hx hb dX0_readColumn_54 ?_
        refine lv_iload_n hx hb dX0_readColumn_55 rfl (lv_at hl 0 rfl) ?_
        refine lv_aload_n hx hb dX0_readColumn_56 rfl (lv_at hl 1 rfl) ?_
        refine fg_X0_49 hx hb hown hts hE hs 5 rfl (v := .int (d_number q9.2)) rfl dX0_readColumn_57 ?_
        obtain ⟨q10, hq10, hF⟩ := bd hF
        obtain ⟨S11, eS11, hF⟩ := nm_some hF
        refine sx_N (As := [.int ((t_ships (d_told q9.2)) - (1 : Int32)), .int v1, .int (d_number q9.2)]) (rest := []) (st1 := []) (c_X2_setShip G l (fun k => a (3 + k)) (d_told q9.2) ((t_ships (d_told q9.2)) - (1 : Int32)) v1 (d_number q9.2) q10 hq10) v_X0_153 ⟨(Nat.le_of_ble_eq_true rfl), (Nat.le_of_ble_eq_true rfl)⟩ hx hb hml hown hts hE hA hs ⟨Nat.le_refl 0, Nat.le_refl 0⟩ 0 rfl rfl rfl rfl rfl hl.1 (Nat.le_of_ble_eq_true rfl) dX0_readColumn_60 (pD_told G a q9.2 (d_told q9.2)) (ws' := WD G a S11) (by subst eS11; exact pD_told G a q9.2 q10) (fun H locs hs => ?_)
        refine lv_aload_n hx hb dX0_readColumn_63 rfl (lv_at hl 1 rfl) ?_
        obtain ⟨q12, hq12, hF⟩ := bd hF
        refine sx_V (As := []) (rest := []) (st1 := []) (c_X0_step G l a S11 q12 hq12) v_X0_56 ⟨(Nat.le_of_ble_eq_true rfl), (Nat.le_of_ble_eq_true rfl)⟩ hx hb hml hown hts hE hA hs ⟨Nat.le_refl 0, Nat.le_refl 0⟩ 5 rfl rfl rfl rfl rfl hl.1 (Nat.le_of_ble_eq_true rfl) dX0_readColumn_64 (pmW _) (ws' := WD G a q12) (pmW _) (fun H locs hs => ?_)
        refine lv_iconst (v := (1 : Int32)) hx hb dX0_readColumn_67 (by decide) ?_
        exact sx_zret hx hb hr hlk hQ (Or.inr rfl) (congrArg Prod.fst (Option.some.inj hF)) (congrArg (fun z => WD G a z) (congrArg Prod.snd (Option.some.inj hF))) hs dX0_readColumn_68
      · have hF := (if_pos hc).symm.trans hF
        refine lv_iconst (v := (0 : Int32)) hx hb dX0_readColumn_40 (by decide) ?_
        exact sx_zret hx hb hr hlk hQ (Or.inl rfl) (congrArg Prod.fst (Option.some.inj hF)) (congrArg (fun z => WD G a z) (congrArg Prod.snd (Option.some.inj hF))) hs dX0_readColumn_41
    · have hc : ¬ w3 = x1 := fun e9 => hc (by rw [e9])
      have hF := (if_neg hc).symm.trans hF
      refine lv_aload_n hx hb dX0_readColumn_13 rfl (lv_at hl 1 rfl) ?_
      refine lv_iconst (v := (1 : Int32)) hx hb dX0_readColumn_14 (by decide) ?_
      obtain ⟨q13, hq13, hF⟩ := bd hF
      refine sx_V (As := [.int (1 : Int32)]) (rest := []) (st1 := [.int q13.1]) (c_X0_fail G l a S (1 : Int32) q13 hq13) v_X0_89 ⟨(Nat.le_of_ble_eq_true rfl), (Nat.le_of_ble_eq_true rfl)⟩ hx hb hml hown hts hE hA hs ⟨Nat.le_refl 0, Nat.le_refl 0⟩ 5 rfl rfl rfl rfl rfl hl.1 (Nat.le_of_ble_eq_true rfl) dX0_readColumn_15 (pmW _) (ws' := WD G a q13.2) (pmW _) (fun H locs hs => ?_)
      obtain ⟨hz, hF⟩ := zz_some hF
      exact sx_zret hx hb hr hlk hQ hz (congrArg Prod.fst (Option.some.inj hF)) (congrArg (fun z => WD G a z) (congrArg Prod.snd (Option.some.inj hF))) hs dX0_readColumn_18
set_option maxHeartbeats 4000000 in
set_option maxRecDepth 100000 in
theorem c_X0_readMark (G : GT) (l : Launch) (a : Nat → Nat) (S : DS) (x1 : Nat) (r : DS) (hF : F_X0_readMark S x1 = some r) : MT G l yX0_readMark cX0_readMark 2 (none) 3 60 [.ref (a 0), .ref (G.2.2.2 x1)] (WD G a S) none (WD G a r) := by
  refine MT.of (by decide) (Nat.le_of_ble_eq_true rfl) ?_
  intro p e s m args below meth c A ls hx hb hr hml hown hts hlk hE hA hs hl Q hQ
  have hl : lv_has ls 2 [(0, .ref (a 0)), (1, .ref (G.2.2.2 x1))] := hl
  unfold F_X0_readMark at hF
  refine lv_aload_n hx hb dX0_readMark_0 rfl (lv_at hl 0 rfl) ?_
  obtain ⟨q1, hq1, hF⟩ := bd hF
  cases q1 with
  | none =>
    have hF := el_none hF
    refine sx_V (As := []) (rest := []) (st1 := [.null]) (c_X0_fixedWord G l a S none hq1) v_X0_80 ⟨(Nat.le_of_ble_eq_true rfl), (Nat.le_of_ble_eq_true rfl)⟩ hx hb hml hown hts hE hA hs ⟨Nat.le_refl 0, Nat.le_refl 0⟩ 5 rfl rfl rfl rfl rfl hl.1 (Nat.le_of_ble_eq_true rfl) dX0_readMark_1 (pmW _) (ws' := WD G a S) (pmW _) (fun H locs hs => ?_)
    refine lv_aload_n hx hb dX0_readMark_4 rfl (lv_at hl 1 rfl) ?_
    refine lv_acmp_ne (rx := none) (ry := (some (G.2.2.2 x1))) (tgt := 33) hx hb dX0_readMark_5 (by decide) (fun hc => ?_) (fun hc => ?_)
    · exact sx_vret hx hb hr hlk hQ (congrArg (fun z => WD G a z) (Option.some.inj hF)) hs dX0_readMark_33
    · exact nomatch hc
  | some w2 =>
    have hF := el_some hF
    refine sx_V (As := []) (rest := []) (st1 := [.ref (G.2.2.2 w2)]) (c_X0_fixedWord G l a S (some w2) hq1) v_X0_80 ⟨(Nat.le_of_ble_eq_true rfl), (Nat.le_of_ble_eq_true rfl)⟩ hx hb hml hown hts hE hA hs ⟨Nat.le_refl 0, Nat.le_refl 0⟩ 5 rfl rfl rfl rfl rfl hl.1 (Nat.le_of_ble_eq_true rfl) dX0_readMark_1 (pmW _) (ws' := WD G a S) (pmW _) (fun H locs hs => ?_)
    refine lv_aload_n hx hb dX0_readMark_4 rfl (lv_at hl 1 rfl) ?_
    obtain ⟨u3, hu3, hF⟩ := bd hF
    refine lv_acmp_ne (rx := (some (G.2.2.2 w2))) (ry := (some (G.2.2.2 x1))) (tgt := 33) hx hb dX0_readMark_5 (by decide) (fun hc => ?_) (fun hc => ?_)
    · have hc : ¬ w2 = x1 := fun e9 => hc (by rw [e9])
      have hF := (if_neg hc).symm.trans hF
      exact sx_vret hx hb hr hlk hQ (congrArg (fun z => WD G a z) (Option.some.inj hF)) hs dX0_readMark_33
    · have hc := hE.2.2.2.2.2.1.2 _ _ (ltW_some hu3).1 (ltW_some hu3).2 (Option.some.inj hc)
      have hF := (if_pos hc).symm.trans hF
      refine lv_aload_n hx hb dX0_readMark_8 rfl (lv_at hl 0 rfl) ?_
      refine fg_X0_18 hx hb hown hts hE hs 5 rfl (v := .ref (a 3)) rfl dX0_readMark_9 ?_
      refine lv_aload_n hx hb dX0_readMark_12 rfl (lv_at hl 0 rfl) ?_
      refine fg_X0_18 hx hb hown hts hE hs 5 rfl (v := .ref (a 3)) rfl dX0_readMark_13 ?_
      refine fg_X0_69 hx hb hown hts hE hs 0 rfl (v := .int (t_ships (d_told S))) rfl dX0_readMark_16 ?_
      refine lv_iconst (v := (1 : Int32)) hx hb dX0_readMark_19 (by decide) ?_
      refine lv_isub hx hb dX0_readMark_20 ?_
      refine lv_aload_n hx hb dX0_readMark_21 rfl (lv_at hl 1 rfl) ?_
      obtain ⟨v4, hv4, hF⟩ := bd hF
      refine sx_wcolumn hx hb hown hE hs hv4 (hE.2.1 _ g1499) dX0_readMark_22 ?_
      refine lv_iconst (v := (1 : Int32)) hx hb dX0_readMark_25 (by decide) ?_
      obtain ⟨q5, hq5, hF⟩ := bd hF
      obtain ⟨S6, eS6, hF⟩ := nm_some hF
      refine sx_N (As := [.int ((t_ships (d_told S)) - (1 : Int32)), .int v4, .int (1 : Int32)]) (rest := []) (st1 := []) (c_X2_setShip G l (fun k => a (3 + k)) (d_told S) ((t_ships (d_told S)) - (1 : Int32)) v4 (1 : Int32) q5 hq5) v_X0_153 ⟨(Nat.le_of_ble_eq_true rfl), (Nat.le_of_ble_eq_true rfl)⟩ hx hb hml hown hts hE hA hs ⟨Nat.le_refl 0, Nat.le_refl 0⟩ 0 rfl rfl rfl rfl rfl hl.1 (Nat.le_of_ble_eq_true rfl) dX0_readMark_26 (pD_told G a S (d_told S)) (ws' := WD G a S6) (by subst eS6; exact pD_told G a S q5) (fun H locs hs => ?_)
      refine lv_aload_n hx hb dX0_readMark_29 rfl (lv_at hl 0 rfl) ?_
      obtain ⟨q7, hq7, hF⟩ := bd hF
      refine sx_V (As := []) (rest := []) (st1 := []) (c_X0_step G l a S6 q7 hq7) v_X0_56 ⟨(Nat.le_of_ble_eq_true rfl), (Nat.le_of_ble_eq_true rfl)⟩ hx hb hml hown hts hE hA hs ⟨Nat.le_refl 0, Nat.le_refl 0⟩ 5 rfl rfl rfl rfl rfl hl.1 (Nat.le_of_ble_eq_true rfl) dX0_readMark_30 (pmW _) (ws' := WD G a q7) (pmW _) (fun H locs hs => ?_)
      exact sx_vret hx hb hr hlk hQ (congrArg (fun z => WD G a z) (Option.some.inj hF)) hs dX0_readMark_33
set_option maxHeartbeats 4000000 in
set_option maxRecDepth 100000 in
theorem c_X0_readShip (G : GT) (l : Launch) (a : Nat → Nat) (S : DS) (r : Int32 × DS) (hF : F_X0_readShip S = some r) : MT G l yX0_readShip cX0_readShip 1 (some .boolean) 4 82 [.ref (a 0)] (WD G a S) (some (.int r.1)) (WD G a r.2) := by
  refine MT.of (by decide) (Nat.le_of_ble_eq_true rfl) ?_
  intro p e s m args below meth c A ls hx hb hr hml hown hts hlk hE hA hs hl Q hQ
  have hl : lv_has ls 1 [(0, .ref (a 0))] := hl
  unfold F_X0_readShip at hF
  refine lv_aload_n hx hb dX0_readShip_0 rfl (lv_at hl 0 rfl) ?_
  refine fg_X0_18 hx hb hown hts hE hs 5 rfl (v := .ref (a 3)) rfl dX0_readShip_1 ?_
  refine fg_X0_69 hx hb hown hts hE hs 0 rfl (v := .int (t_ships (d_told S))) rfl dX0_readShip_4 ?_
  refine lv_iconst (v := (4 : Int32)) hx hb dX0_readShip_7 (by decide) ?_
  refine lv_icmp_lt (tgt := 17) hx hb dX0_readShip_8 (by decide) (fun hc => ?_) (fun hc => ?_)
  · have hF := (if_pos hc).symm.trans hF
    refine lv_aload_n hx hb dX0_readShip_17 rfl (lv_at hl 0 rfl) ?_
    obtain ⟨q1, hq1, hF⟩ := bd hF
    refine sx_V (As := []) (rest := []) (st1 := []) (c_X0_step G l a S q1 hq1) v_X0_56 ⟨(Nat.le_of_ble_eq_true rfl), (Nat.le_of_ble_eq_true rfl)⟩ hx hb hml hown hts hE hA hs ⟨Nat.le_refl 0, Nat.le_refl 0⟩ 5 rfl rfl rfl rfl rfl hl.1 (Nat.le_of_ble_eq_true rfl) dX0_readShip_18 (pmW _) (ws' := WD G a q1) (pmW _) (fun H locs hs => ?_)
    refine lv_aload_n hx hb dX0_readShip_21 rfl (lv_at hl 0 rfl) ?_
    obtain ⟨q2, hq2, hF⟩ := bd hF
    refine sx_V (As := []) (rest := []) (st1 := [.int q2]) (c_X0_isName G l a q1 q2 hq2) v_X0_105 ⟨(Nat.le_of_ble_eq_true rfl), (Nat.le_of_ble_eq_true rfl)⟩ hx hb hml hown hts hE hA hs ⟨Nat.le_refl 0, Nat.le_refl 0⟩ 5 rfl rfl rfl rfl rfl hl.1 (Nat.le_of_ble_eq_true rfl) dX0_readShip_22 (pmW _) (ws' := WD G a q1) (pmW _) (fun H locs hs => ?_)
    refine lv_if_ne (tgt := 34) hx hb dX0_readShip_25 (by decide) (fun hc => ?_) (fun hc => ?_)
    · have hF := (if_neg hc).symm.trans hF
      refine lv_aload_n hx hb dX0_readShip_34 rfl (lv_at hl 0 rfl) ?_
      refine fg_X0_18 hx hb hown hts hE hs 5 rfl (v := .ref (a 3)) rfl dX0_readShip_35 ?_
      refine lv_aload_n hx hb dX0_readShip_38 rfl (lv_at hl 0 rfl) ?_
      refine fg_X0_45 hx hb hown hts hE hs 5 rfl (v := .long (d_letters q1)) rfl dX0_readShip_39 ?_
      obtain ⟨q3, hq3, hF⟩ := bd hF
      refine sx_N (As := [.long (d_letters q1)]) (rest := []) (st1 := [.int q3]) (c_X2_shipNamed G l (fun k => a (3 + k)) (d_told q1) (d_letters q1) q3 hq3) v_X0_108 ⟨(Nat.le_of_ble_eq_true rfl), (Nat.le_of_ble_eq_true rfl)⟩ hx hb hml hown hts hE hA hs ⟨Nat.le_refl 0, Nat.le_refl 0⟩ 0 rfl rfl rfl rfl rfl hl.1 (Nat.le_of_ble_eq_true rfl) dX0_readShip_42 (pD_told G a q1 (d_told q1)) (ws' := WD G a q1) (pD_told G a q1 (d_told q1)) (fun H locs hs => ?_)
      refine lv_iconst (v := (-1 : Int32)) hx hb dX0_readShip_45 (by decide) ?_
      refine lv_icmp_eq (tgt := 55) hx hb dX0_readShip_46 (by decide) (fun hc => ?_) (fun hc => ?_)
      · have hF := (if_pos hc).symm.trans hF
        refine lv_aload_n hx hb dX0_readShip_55 rfl (lv_at hl 0 rfl) ?_
        refine fg_X0_18 hx hb hown hts hE hs 5 rfl (v := .ref (a 3)) rfl dX0_readShip_56 ?_
        refine lv_aload_n hx hb dX0_readShip_59 rfl (lv_at hl 0 rfl) ?_
        refine fg_X0_45 hx hb hown hts hE hs 5 rfl (v := .long (d_letters q1)) rfl dX0_readShip_60 ?_
        obtain ⟨q4, hq4, hF⟩ := bd hF
        obtain ⟨S5, eS5, hF⟩ := nm_some hF
        refine sx_N (As := [.long (d_letters q1)]) (rest := []) (st1 := []) (c_X2_addShip G l (fun k => a (3 + k)) (d_told q1) (d_letters q1) q4 hq4) v_X0_112 ⟨(Nat.le_of_ble_eq_true rfl), (Nat.le_of_ble_eq_true rfl)⟩ hx hb hml hown hts hE hA hs ⟨Nat.le_refl 0, Nat.le_refl 0⟩ 0 rfl rfl rfl rfl rfl hl.1 (Nat.le_of_ble_eq_true rfl) dX0_readShip_63 (pD_told G a q1 (d_told q1)) (ws' := WD G a S5) (by subst eS5; exact pD_told G a q1 q4) (fun H locs hs => ?_)
        refine lv_aload_n hx hb dX0_readShip_66 rfl (lv_at hl 0 rfl) ?_
        obtain ⟨q6, hq6, hF⟩ := bd hF
        refine sx_V (As := []) (rest := []) (st1 := []) (c_X0_step G l a S5 q6 hq6) v_X0_56 ⟨(Nat.le_of_ble_eq_true rfl), (Nat.le_of_ble_eq_true rfl)⟩ hx hb hml hown hts hE hA hs ⟨Nat.le_refl 0, Nat.le_refl 0⟩ 5 rfl rfl rfl rfl rfl hl.1 (Nat.le_of_ble_eq_true rfl) dX0_readShip_67 (pmW _) (ws' := WD G a q6) (pmW _) (fun H locs hs => ?_)
        refine lv_aload_n hx hb dX0_readShip_70 rfl (lv_at hl 0 rfl) ?_
        refine va_gets (v := .ref (G.2.2.2 1)) hx hb (hE.2.2.2.2.2.1.1 1 (by decide)).1 hs.2.2 hown (hts _ g389) (fun _ h9 => h9) dX0_readShip_71 ?_
        obtain ⟨q7, hq7, hF⟩ := bd hF
        refine sx_V (As := [.ref (G.2.2.2 1)]) (rest := []) (st1 := [.int q7.1]) (c_X0_readColumn G l a q6 1 q7 hq7) v_X0_120 ⟨(Nat.le_of_ble_eq_true rfl), (Nat.le_of_ble_eq_true rfl)⟩ hx hb hml hown hts hE hA hs ⟨Nat.le_refl 0, Nat.le_refl 0⟩ 5 rfl rfl rfl rfl rfl hl.1 (Nat.le_of_ble_eq_true rfl) dX0_readShip_74 (pmW _) (ws' := WD G a q7.2) (pmW _) (fun H locs hs => ?_)
        refine lv_if_eq (tgt := 110) hx hb dX0_readShip_77 (by decide) (fun hc => ?_) (fun hc => ?_)
        · have hF := (if_pos hc).symm.trans hF
          refine lv_iconst (v := (0 : Int32)) hx hb dX0_readShip_110 (by decide) ?_
          exact sx_zret hx hb hr hlk hQ (Or.inl rfl) (congrArg Prod.fst (Option.some.inj hF)) (congrArg (fun z => WD G a z) (congrArg Prod.snd (Option.some.inj hF))) hs dX0_readShip_111
        · have hF := (if_neg hc).symm.trans hF
          refine lv_aload_n hx hb dX0_readShip_80 rfl (lv_at hl 0 rfl) ?_
          refine va_gets (v := .ref (G.2.2.2 2)) hx hb (hE.2.2.2.2.2.1.1 2 (by decide)).1 hs.2.2 hown (hts _ g405) (fun _ h9 => h9) dX0_readShip_81 ?_
          obtain ⟨q8, hq8, hF⟩ := bd hF
          refine sx_V (As := [.ref (G.2.2.2 2)]) (rest := []) (st1 := [.int q8.1]) (c_X0_readColumn G l a q7.2 2 q8 hq8) v_X0_120 ⟨(Nat.le_of_ble_eq_true rfl), (Nat.le_of_ble_eq_true rfl)⟩ hx hb hml hown hts hE hA hs ⟨Nat.le_refl 0, Nat.le_refl 0⟩ 5 rfl rfl rfl rfl rfl hl.1 (Nat.le_of_ble_eq_true rfl) dX0_readShip_84 (pmW _) (ws' := WD G a q8.2) (pmW _) (fun H locs hs => ?_)
          refine lv_if_eq (tgt := 110) hx hb dX0_readShip_87 (by decide) (fun hc => ?_) (fun hc => ?_)
          · have hF := (if_pos hc).symm.trans hF
            refine lv_iconst (v := (0 : Int32)) hx hb dX0_readShip_110 (by decide) ?_
            exact sx_zret hx hb hr hlk hQ (Or.inl rfl) (congrArg Prod.fst (Option.some.inj hF)) (congrArg (fun z => WD G a z) (congrArg Prod.snd (Option.some.inj hF))) hs dX0_readShip_111
          · have hF := (if_neg hc).symm.trans hF
            refine lv_aload_n hx hb dX0_readShip_90 rfl (lv_at hl 0 rfl) ?_
            refine va_gets (v := .ref (G.2.2.2 3)) hx hb (hE.2.2.2.2.2.1.1 3 (by decide)).1 hs.2.2 hown (hts _ g407) (fun _ h9 => h9) dX0_readShip_91 ?_
            obtain ⟨q9, hq9, hF⟩ := bd hF
            refine sx_V (As := [.ref (G.2.2.2 3)]) (rest := []) (st1 := [.int q9.1]) (c_X0_readColumn G l a q8.2 3 q9 hq9) v_X0_120 ⟨(Nat.le_of_ble_eq_true rfl), (Nat.le_of_ble_eq_true rfl)⟩ hx hb hml hown hts hE hA hs ⟨Nat.le_refl 0, Nat.le_refl 0⟩ 5 rfl rfl rfl rfl rfl hl.1 (Nat.le_of_ble_eq_true rfl) dX0_readShip_94 (pmW _) (ws' := WD G a q9.2) (pmW _) (fun H locs hs => ?_)
            refine lv_if_eq (tgt := 110) hx hb dX0_readShip_97 (by decide) (fun hc => ?_) (fun hc => ?_)
            · have hF := (if_pos hc).symm.trans hF
              refine lv_iconst (v := (0 : Int32)) hx hb dX0_readShip_110 (by decide) ?_
              exact sx_zret hx hb hr hlk hQ (Or.inl rfl) (congrArg Prod.fst (Option.some.inj hF)) (congrArg (fun z => WD G a z) (congrArg Prod.snd (Option.some.inj hF))) hs dX0_readShip_111
            · have hF := (if_neg hc).symm.trans hF
              refine lv_aload_n hx hb dX0_readShip_100 rfl (lv_at hl 0 rfl) ?_
              refine va_gets (v := .ref (G.2.2.2 4)) hx hb (hE.2.2.2.2.2.1.1 4 (by decide)).1 hs.2.2 hown (hts _ g409) (fun _ h9 => h9) dX0_readShip_101 ?_
              obtain ⟨q10, hq10, hF⟩ := bd hF
              refine sx_V (As := [.ref (G.2.2.2 4)]) (rest := []) (st1 := [.int q10.1]) (c_X0_readColumn G l a q9.2 4 q10 hq10) v_X0_120 ⟨(Nat.le_of_ble_eq_true rfl), (Nat.le_of_ble_eq_true rfl)⟩ hx hb hml hown hts hE hA hs ⟨Nat.le_refl 0, Nat.le_refl 0⟩ 5 rfl rfl rfl rfl rfl hl.1 (Nat.le_of_ble_eq_true rfl) dX0_readShip_104 (pmW _) (ws' := WD G a q10.2) (pmW _) (fun H locs hs => ?_)
              refine lv_if_ne (tgt := 112) hx hb dX0_readShip_107 (by decide) (fun hc => ?_) (fun hc => ?_)
              · have hF := (if_neg hc).symm.trans hF
                refine lv_aload_n hx hb dX0_readShip_112 rfl (lv_at hl 0 rfl) ?_
                refine va_gets (v := .ref (G.2.2.2 5)) hx hb (hE.2.2.2.2.2.1.1 5 (by decide)).1 hs.2.2 hown (hts _ g411) (fun _ h9 => h9) dX0_readShip_113 ?_
                obtain ⟨q11, hq11, hF⟩ := bd hF
                refine sx_V (As := [.ref (G.2.2.2 5)]) (rest := []) (st1 := []) (c_X0_readMark G l a q10.2 5 q11 hq11) v_X0_136 ⟨(Nat.le_of_ble_eq_true rfl), (Nat.le_of_ble_eq_true rfl)⟩ hx hb hml hown hts hE hA hs ⟨Nat.le_refl 0, Nat.le_refl 0⟩ 5 rfl rfl rfl rfl rfl hl.1 (Nat.le_of_ble_eq_true rfl) dX0_readShip_116 (pmW _) (ws' := WD G a q11) (pmW _) (fun H locs hs => ?_)
                refine lv_aload_n hx hb dX0_readShip_119 rfl (lv_at hl 0 rfl) ?_
                refine va_gets (v := .ref (G.2.2.2 6)) hx hb (hE.2.2.2.2.2.1.1 6 (by decide)).1 hs.2.2 hown (hts _ g417) (fun _ h9 => h9) dX0_readShip_120 ?_
                obtain ⟨q12, hq12, hF⟩ := bd hF
                refine sx_V (As := [.ref (G.2.2.2 6)]) (rest := []) (st1 := []) (c_X0_readMark G l a q11 6 q12 hq12) v_X0_136 ⟨(Nat.le_of_ble_eq_true rfl), (Nat.le_of_ble_eq_true rfl)⟩ hx hb hml hown hts hE hA hs ⟨Nat.le_refl 0, Nat.le_refl 0⟩ 5 rfl rfl rfl rfl rfl hl.1 (Nat.le_of_ble_eq_true rfl) dX0_readShip_123 (pmW _) (ws' := WD G a q12) (pmW _) (fun H locs hs => ?_)
                refine lv_iconst (v := (1 : Int32)) hx hb dX0_readShip_126 (by decide) ?_
                exact sx_zret hx hb hr hlk hQ (Or.inr rfl) (congrArg Prod.fst (Option.some.inj hF)) (congrArg (fun z => WD G a z) (congrArg Prod.snd (Option.some.inj hF))) hs dX0_readShip_127
              · have hF := (if_pos hc).symm.trans hF
                refine lv_iconst (v := (0 : Int32)) hx hb dX0_readShip_110 (by decide) ?_
                exact sx_zret hx hb hr hlk hQ (Or.inl rfl) (congrArg Prod.fst (Option.some.inj hF)) (congrArg (fun z => WD G a z) (congrArg Prod.snd (Option.some.inj hF))) hs dX0_readShip_111
      · have hF := (if_neg hc).symm.trans hF
        refine lv_aload_n hx hb dX0_readShip_49 rfl (lv_at hl 0 rfl) ?_
        refine lv_iconst (v := (3 : Int32)) hx hb dX0_readShip_50 (by decide) ?_
        obtain ⟨q13, hq13, hF⟩ := bd hF
        refine sx_V (As := [.int (3 : Int32)]) (rest := []) (st1 := [.int q13.1]) (c_X0_fail G l a q1 (3 : Int32) q13 hq13) v_X0_89 ⟨(Nat.le_of_ble_eq_true rfl), (Nat.le_of_ble_eq_true rfl)⟩ hx hb hml hown hts hE hA hs ⟨Nat.le_refl 0, Nat.le_refl 0⟩ 5 rfl rfl rfl rfl rfl hl.1 (Nat.le_of_ble_eq_true rfl) dX0_readShip_51 (pmW _) (ws' := WD G a q13.2) (pmW _) (fun H locs hs => ?_)
        obtain ⟨hz, hF⟩ := zz_some hF
        exact sx_zret hx hb hr hlk hQ hz (congrArg Prod.fst (Option.some.inj hF)) (congrArg (fun z => WD G a z) (congrArg Prod.snd (Option.some.inj hF))) hs dX0_readShip_54
    · have hF := (if_pos hc).symm.trans hF
      refine lv_aload_n hx hb dX0_readShip_28 rfl (lv_at hl 0 rfl) ?_
      refine lv_iconst (v := (1 : Int32)) hx hb dX0_readShip_29 (by decide) ?_
      obtain ⟨q14, hq14, hF⟩ := bd hF
      refine sx_V (As := [.int (1 : Int32)]) (rest := []) (st1 := [.int q14.1]) (c_X0_fail G l a q1 (1 : Int32) q14 hq14) v_X0_89 ⟨(Nat.le_of_ble_eq_true rfl), (Nat.le_of_ble_eq_true rfl)⟩ hx hb hml hown hts hE hA hs ⟨Nat.le_refl 0, Nat.le_refl 0⟩ 5 rfl rfl rfl rfl rfl hl.1 (Nat.le_of_ble_eq_true rfl) dX0_readShip_30 (pmW _) (ws' := WD G a q14.2) (pmW _) (fun H locs hs => ?_)
      obtain ⟨hz, hF⟩ := zz_some hF
      exact sx_zret hx hb hr hlk hQ hz (congrArg Prod.fst (Option.some.inj hF)) (congrArg (fun z => WD G a z) (congrArg Prod.snd (Option.some.inj hF))) hs dX0_readShip_33
  · have hF := (if_neg hc).symm.trans hF
    refine lv_aload_n hx hb dX0_readShip_11 rfl (lv_at hl 0 rfl) ?_
    refine lv_iconst (v := (4 : Int32)) hx hb dX0_readShip_12 (by decide) ?_
    obtain ⟨q15, hq15, hF⟩ := bd hF
    refine sx_V (As := [.int (4 : Int32)]) (rest := []) (st1 := [.int q15.1]) (c_X0_fail G l a S (4 : Int32) q15 hq15) v_X0_89 ⟨(Nat.le_of_ble_eq_true rfl), (Nat.le_of_ble_eq_true rfl)⟩ hx hb hml hown hts hE hA hs ⟨Nat.le_refl 0, Nat.le_refl 0⟩ 5 rfl rfl rfl rfl rfl hl.1 (Nat.le_of_ble_eq_true rfl) dX0_readShip_13 (pmW _) (ws' := WD G a q15.2) (pmW _) (fun H locs hs => ?_)
    obtain ⟨hz, hF⟩ := zz_some hF
    exact sx_zret hx hb hr hlk hQ hz (congrArg Prod.fst (Option.some.inj hF)) (congrArg (fun z => WD G a z) (congrArg Prod.snd (Option.some.inj hF))) hs dX0_readShip_16
set_option maxHeartbeats 4000000 in
set_option maxRecDepth 100000 in
theorem c_X0_readClaim (G : GT) (l : Launch) (a : Nat → Nat) (S : DS) (x1 : Int32) (r : Int32 × DS) (hF : F_X0_readClaim S x1 = some r) : MT G l yX0_readClaim cX0_readClaim 4 (some .boolean) 3 60 [.ref (a 0), .int x1] (WD G a S) (some (.int r.1)) (WD G a r.2) := by
  refine MT.of (by decide) (Nat.le_of_ble_eq_true rfl) ?_
  intro p e s m args below meth c A ls hx hb hr hml hown hts hlk hE hA hs hl Q hQ
  have hl : lv_has ls 4 [(0, .ref (a 0)), (1, .int x1)] := hl
  have hJ69_n : ∀ (S : DS) (x1 : Int32) (x2 : Int32) (H : Heap) (locs : List Loc) (ls : Array Slot), J_X0_readClaim_69 S x1 x2 = some r → SI G A s H locs (WD G a S) → lv_has ls 4 [(0, .ref (a 0)), (1, .int x1), (2, .int x2)] → W p l e (RM 3 60) s m args below meth c H locs 0 0 Q (F0 m 69 ls []) := by
    intro S x1 x2 H locs ls hF hs hl
    unfold J_X0_readClaim_69 at hF
    refine lv_aload_n hx hb dX0_readClaim_69 rfl (lv_at hl 0 rfl) ?_
    refine lv_iconst (v := (1 : Int32)) hx hb dX0_readClaim_70 (by decide) ?_
    refine lv_ldc (v := (9999999 : Int32)) hx hb hown (hts _ g423) dX0_readClaim_71 ?_
    obtain ⟨q2, hq2, hF⟩ := bd hF
    refine sx_V (As := [.int (1 : Int32), .int (9999999 : Int32)]) (rest := []) (st1 := [.int q2.1]) (c_X0_isWholeWithin G l a S (1 : Int32) (9999999 : Int32) q2 hq2) v_X0_149 ⟨(Nat.le_of_ble_eq_true rfl), (Nat.le_of_ble_eq_true rfl)⟩ hx hb hml hown hts hE hA hs ⟨Nat.le_refl 0, Nat.le_refl 0⟩ 5 rfl rfl rfl rfl rfl hl.1 (Nat.le_of_ble_eq_true rfl) dX0_readClaim_73 (pmW _) (ws' := WD G a q2.2) (pmW _) (fun H locs hs => ?_)
    refine lv_if_ne (tgt := 81) hx hb dX0_readClaim_76 (by decide) (fun hc => ?_) (fun hc => ?_)
    · have hF := (if_neg hc).symm.trans hF
      refine lv_aload_n hx hb dX0_readClaim_81 rfl (lv_at hl 0 rfl) ?_
      refine fg_X0_49 hx hb hown hts hE hs 5 rfl (v := .int (d_number q2.2)) rfl dX0_readClaim_82 ?_
      obtain ⟨v3, ev3, hF⟩ := nm_some hF
      refine sx_topi ev3 ?_
      refine lv_istore_n (lv' := [(3, .int v3), (0, .ref (a 0)), (1, .int x1), (2, .int x2)]) hx hb dX0_readClaim_85 rfl hl (by decide) rfl (fun ls hl => ?_)
      refine lv_aload_n hx hb dX0_readClaim_86 rfl (lv_at hl 1 rfl) ?_
      obtain ⟨q4, hq4, hF⟩ := bd hF
      refine sx_V (As := []) (rest := []) (st1 := []) (c_X0_step G l a q2.2 q4 hq4) v_X0_56 ⟨(Nat.le_of_ble_eq_true rfl), (Nat.le_of_ble_eq_true rfl)⟩ hx hb hml hown hts hE hA hs ⟨Nat.le_refl 0, Nat.le_refl 0⟩ 5 rfl rfl rfl rfl rfl hl.1 (Nat.le_of_ble_eq_true rfl) dX0_readClaim_87 (pmW _) (ws' := WD G a q4) (pmW _) (fun H locs hs => ?_)
      refine lv_aload_n hx hb dX0_readClaim_90 rfl (lv_at hl 1 rfl) ?_
      obtain ⟨q5, hq5, hF⟩ := bd hF
      cases q5 with
      | none =>
        have hF := el_none hF
        refine sx_V (As := []) (rest := []) (st1 := [.null]) (c_X0_fixedWord G l a q4 none hq5) v_X0_80 ⟨(Nat.le_of_ble_eq_true rfl), (Nat.le_of_ble_eq_true rfl)⟩ hx hb hml hown hts hE hA hs ⟨Nat.le_refl 0, Nat.le_refl 0⟩ 5 rfl rfl rfl rfl rfl hl.1 (Nat.le_of_ble_eq_true rfl) dX0_readClaim_91 (pmW _) (ws' := WD G a q4) (pmW _) (fun H locs hs => ?_)
        refine va_gets (v := .ref (G.2.2.2 7)) hx hb (hE.2.2.2.2.2.1.1 7 (by decide)).1 hs.2.2 hown (hts _ g424) (fun _ h9 => h9) dX0_readClaim_94 ?_
        refine lv_acmp_eq (rx := none) (ry := (some (G.2.2.2 7))) (tgt := 106) hx hb dX0_readClaim_97 (by decide) (fun hc => ?_) (fun hc => ?_)
        · exact nomatch hc
        · refine lv_aload_n hx hb dX0_readClaim_100 rfl (lv_at hl 1 rfl) ?_
          refine lv_iconst (v := (1 : Int32)) hx hb dX0_readClaim_101 (by decide) ?_
          obtain ⟨q7, hq7, hF⟩ := bd hF
          refine sx_V (As := [.int (1 : Int32)]) (rest := []) (st1 := [.int q7.1]) (c_X0_fail G l a q4 (1 : Int32) q7 hq7) v_X0_89 ⟨(Nat.le_of_ble_eq_true rfl), (Nat.le_of_ble_eq_true rfl)⟩ hx hb hml hown hts hE hA hs ⟨Nat.le_refl 0, Nat.le_refl 0⟩ 5 rfl rfl rfl rfl rfl hl.1 (Nat.le_of_ble_eq_true rfl) dX0_readClaim_102 (pmW _) (ws' := WD G a q7.2) (pmW _) (fun H locs hs => ?_)
          obtain ⟨hz, hF⟩ := zz_some hF
          exact sx_zret hx hb hr hlk hQ hz (congrArg Prod.fst (Option.some.inj hF)) (congrArg (fun z => WD G a z) (congrArg Prod.snd (Option.some.inj hF))) hs dX0_readClaim_105
      | some w6 =>
        have hF := el_some hF
        refine sx_V (As := []) (rest := []) (st1 := [.ref (G.2.2.2 w6)]) (c_X0_fixedWord G l a q4 (some w6) hq5) v_X0_80 ⟨(Nat.le_of_ble_eq_true rfl), (Nat.le_of_ble_eq_true rfl)⟩ hx hb hml hown hts hE hA hs ⟨Nat.le_refl 0, Nat.le_refl 0⟩ 5 rfl rfl rfl rfl rfl hl.1 (Nat.le_of_ble_eq_true rfl) dX0_readClaim_91 (pmW _) (ws' := WD G a q4) (pmW _) (fun H locs hs => ?_)
        refine va_gets (v := .ref (G.2.2.2 7)) hx hb (hE.2.2.2.2.2.1.1 7 (by decide)).1 hs.2.2 hown (hts _ g424) (fun _ h9 => h9) dX0_readClaim_94 ?_
        obtain ⟨u8, hu8, hF⟩ := bd hF
        refine lv_acmp_eq (rx := (some (G.2.2.2 w6))) (ry := (some (G.2.2.2 7))) (tgt := 106) hx hb dX0_readClaim_97 (by decide) (fun hc => ?_) (fun hc => ?_)
        · have hc := hE.2.2.2.2.2.1.2 _ _ (ltW_some hu8).1 (ltW_some hu8).2 (Option.some.inj hc)
          have hF := (if_pos hc).symm.trans hF
          refine lv_aload_n hx hb dX0_readClaim_106 rfl (lv_at hl 1 rfl) ?_
          obtain ⟨q9, hq9, hF⟩ := bd hF
          refine sx_V (As := []) (rest := []) (st1 := []) (c_X0_step G l a q4 q9 hq9) v_X0_56 ⟨(Nat.le_of_ble_eq_true rfl), (Nat.le_of_ble_eq_true rfl)⟩ hx hb hml hown hts hE hA hs ⟨Nat.le_refl 0, Nat.le_refl 0⟩ 5 rfl rfl rfl rfl rfl hl.1 (Nat.le_of_ble_eq_true rfl) dX0_readClaim_107 (pmW _) (ws' := WD G a q9) (pmW _) (fun H locs hs => ?_)
          refine lv_aload_n hx hb dX0_readClaim_110 rfl (lv_at hl 1 rfl) ?_
          refine lv_iconst (v := (0 : Int32)) hx hb dX0_readClaim_111 (by decide) ?_
          refine lv_sipush (v := (999 : Int32)) hx hb dX0_readClaim_112 (by decide) ?_
          obtain ⟨q10, hq10, hF⟩ := bd hF
          refine sx_V (As := [.int (0 : Int32), .int (999 : Int32)]) (rest := []) (st1 := [.int q10.1]) (c_X0_isWholeWithin G l a q9 (0 : Int32) (999 : Int32) q10 hq10) v_X0_149 ⟨(Nat.le_of_ble_eq_true rfl), (Nat.le_of_ble_eq_true rfl)⟩ hx hb hml hown hts hE hA hs ⟨Nat.le_refl 0, Nat.le_refl 0⟩ 5 rfl rfl rfl rfl rfl hl.1 (Nat.le_of_ble_eq_true rfl) dX0_readClaim_115 (pmW _) (ws' := WD G a q10.2) (pmW _) (fun H locs hs => ?_)
          refine lv_if_ne (tgt := 123) hx hb dX0_readClaim_118 (by decide) (fun hc => ?_) (fun hc => ?_)
          · have hF := (if_neg hc).symm.trans hF
            refine lv_aload_n hx hb dX0_readClaim_123 rfl (lv_at hl 1 rfl) ?_
            refine fg_X0_18 hx hb hown hts hE hs 5 rfl (v := .ref (a 3)) rfl dX0_readClaim_124 ?_
            refine lv_iload_n hx hb dX0_readClaim_127 rfl (lv_at hl 2 rfl) ?_
            refine lv_iload_n hx hb dX0_readClaim_128 rfl (lv_at hl 3 rfl) ?_
            refine lv_iload_n hx hb dX0_readClaim_129 rfl (lv_at hl 0 rfl) ?_
            refine lv_aload_n hx hb dX0_readClaim_130 rfl (lv_at hl 1 rfl) ?_
            refine fg_X0_49 hx hb hown hts hE hs 5 rfl (v := .int (d_number q10.2)) rfl dX0_readClaim_131 ?_
            obtain ⟨q11, hq11, hF⟩ := bd hF
            obtain ⟨S12, eS12, hF⟩ := nm_some hF
            refine sx_N (As := [.int x1, .int x2, .int v3, .int (d_number q10.2)]) (rest := []) (st1 := []) (c_X2_addClaim G l (fun k => a (3 + k)) (d_told q10.2) x1 x2 v3 (d_number q10.2) q11 hq11) v_X0_164 ⟨(Nat.le_of_ble_eq_true rfl), (Nat.le_of_ble_eq_true rfl)⟩ hx hb hml hown hts hE hA hs ⟨Nat.le_refl 0, Nat.le_refl 0⟩ 0 rfl rfl rfl rfl rfl hl.1 (Nat.le_of_ble_eq_true rfl) dX0_readClaim_134 (pD_told G a q10.2 (d_told q10.2)) (ws' := WD G a S12) (by subst eS12; exact pD_told G a q10.2 q11) (fun H locs hs => ?_)
            refine lv_aload_n hx hb dX0_readClaim_137 rfl (lv_at hl 1 rfl) ?_
            obtain ⟨q13, hq13, hF⟩ := bd hF
            refine sx_V (As := []) (rest := []) (st1 := []) (c_X0_step G l a S12 q13 hq13) v_X0_56 ⟨(Nat.le_of_ble_eq_true rfl), (Nat.le_of_ble_eq_true rfl)⟩ hx hb hml hown hts hE hA hs ⟨Nat.le_refl 0, Nat.le_refl 0⟩ 5 rfl rfl rfl rfl rfl hl.1 (Nat.le_of_ble_eq_true rfl) dX0_readClaim_138 (pmW _) (ws' := WD G a q13) (pmW _) (fun H locs hs => ?_)
            refine lv_iconst (v := (1 : Int32)) hx hb dX0_readClaim_141 (by decide) ?_
            exact sx_zret hx hb hr hlk hQ (Or.inr rfl) (congrArg Prod.fst (Option.some.inj hF)) (congrArg (fun z => WD G a z) (congrArg Prod.snd (Option.some.inj hF))) hs dX0_readClaim_142
          · have hF := (if_pos hc).symm.trans hF
            refine lv_iconst (v := (0 : Int32)) hx hb dX0_readClaim_121 (by decide) ?_
            exact sx_zret hx hb hr hlk hQ (Or.inl rfl) (congrArg Prod.fst (Option.some.inj hF)) (congrArg (fun z => WD G a z) (congrArg Prod.snd (Option.some.inj hF))) hs dX0_readClaim_122
        · have hc : ¬ w6 = 7 := fun e9 => hc (by rw [e9])
          have hF := (if_neg hc).symm.trans hF
          refine lv_aload_n hx hb dX0_readClaim_100 rfl (lv_at hl 1 rfl) ?_
          refine lv_iconst (v := (1 : Int32)) hx hb dX0_readClaim_101 (by decide) ?_
          obtain ⟨q14, hq14, hF⟩ := bd hF
          refine sx_V (As := [.int (1 : Int32)]) (rest := []) (st1 := [.int q14.1]) (c_X0_fail G l a q4 (1 : Int32) q14 hq14) v_X0_89 ⟨(Nat.le_of_ble_eq_true rfl), (Nat.le_of_ble_eq_true rfl)⟩ hx hb hml hown hts hE hA hs ⟨Nat.le_refl 0, Nat.le_refl 0⟩ 5 rfl rfl rfl rfl rfl hl.1 (Nat.le_of_ble_eq_true rfl) dX0_readClaim_102 (pmW _) (ws' := WD G a q14.2) (pmW _) (fun H locs hs => ?_)
          obtain ⟨hz, hF⟩ := zz_some hF
          exact sx_zret hx hb hr hlk hQ hz (congrArg Prod.fst (Option.some.inj hF)) (congrArg (fun z => WD G a z) (congrArg Prod.snd (Option.some.inj hF))) hs dX0_readClaim_105
    · have hF := (if_pos hc).symm.trans hF
      refine lv_iconst (v := (0 : Int32)) hx hb dX0_readClaim_79 (by decide) ?_
      exact sx_zret hx hb hr hlk hQ (Or.inl rfl) (congrArg Prod.fst (Option.some.inj hF)) (congrArg (fun z => WD G a z) (congrArg Prod.snd (Option.some.inj hF))) hs dX0_readClaim_80
  unfold F_X0_readClaim at hF
  refine lv_aload_n hx hb dX0_readClaim_0 rfl (lv_at hl 0 rfl) ?_
  refine fg_X0_18 hx hb hown hts hE hs 5 rfl (v := .ref (a 3)) rfl dX0_readClaim_1 ?_
  refine fg_X0_157 hx hb hown hts hE hs 0 rfl (v := .int (t_claims (d_told S))) rfl dX0_readClaim_4 ?_
  refine lv_bipush (v := (12 : Int32)) hx hb dX0_readClaim_7 (by decide) ?_
  refine lv_icmp_lt (tgt := 18) hx hb dX0_readClaim_9 (by decide) (fun hc => ?_) (fun hc => ?_)
  · have hF := (if_pos hc).symm.trans hF
    refine lv_aload_n hx hb dX0_readClaim_18 rfl (lv_at hl 0 rfl) ?_
    obtain ⟨q1, hq1, hF⟩ := bd hF
    refine sx_V (As := []) (rest := []) (st1 := []) (c_X0_step G l a S q1 hq1) v_X0_56 ⟨(Nat.le_of_ble_eq_true rfl), (Nat.le_of_ble_eq_true rfl)⟩ hx hb hml hown hts hE hA hs ⟨Nat.le_refl 0, Nat.le_refl 0⟩ 5 rfl rfl rfl rfl rfl hl.1 (Nat.le_of_ble_eq_true rfl) dX0_readClaim_19 (pmW _) (ws' := WD G a q1) (pmW _) (fun H locs hs => ?_)
    refine lv_bipush (v := (-2 : Int32)) hx hb dX0_readClaim_22 (by decide) ?_
    refine lv_istore_n (lv' := [(2, .int (-2 : Int32)), (0, .ref (a 0)), (1, .int x1)]) hx hb dX0_readClaim_24 rfl hl (by decide) rfl (fun ls hl => ?_)
    refine lv_iload_n hx hb dX0_readClaim_25 rfl (lv_at hl 2 rfl) ?_
    refine lv_if_ne (tgt := 69) hx hb dX0_readClaim_26 (by decide) (fun hc => ?_) (fun hc => ?_)
    · have hF := (if_neg hc).symm.trans hF
      exact hJ69_n q1 x1 (-2 : Int32) _ _ _ hF hs (lv_sub hl [1, 2, 0] rfl)
    · have hF := (if_pos hc).symm.trans hF
      refine lv_aload_n hx hb dX0_readClaim_29 rfl (lv_at hl 1 rfl) ?_
      obtain ⟨q15, hq15, hF⟩ := bd hF
      refine sx_V (As := []) (rest := []) (st1 := [.int q15]) (c_X0_isName G l a q1 q15 hq15) v_X0_105 ⟨(Nat.le_of_ble_eq_true rfl), (Nat.le_of_ble_eq_true rfl)⟩ hx hb hml hown hts hE hA hs ⟨Nat.le_refl 0, Nat.le_refl 0⟩ 5 rfl rfl rfl rfl rfl hl.1 (Nat.le_of_ble_eq_true rfl) dX0_readClaim_30 (pmW _) (ws' := WD G a q1) (pmW _) (fun H locs hs => ?_)
      refine lv_if_ne (tgt := 42) hx hb dX0_readClaim_33 (by decide) (fun hc => ?_) (fun hc => ?_)
      · have hF := (if_neg hc).symm.trans hF
        refine lv_aload_n hx hb dX0_readClaim_42 rfl (lv_at hl 1 rfl) ?_
        refine fg_X0_18 hx hb hown hts hE hs 5 rfl (v := .ref (a 3)) rfl dX0_readClaim_43 ?_
        refine lv_aload_n hx hb dX0_readClaim_46 rfl (lv_at hl 1 rfl) ?_
        refine fg_X0_45 hx hb hown hts hE hs 5 rfl (v := .long (d_letters q1)) rfl dX0_readClaim_47 ?_
        obtain ⟨q16, hq16, hF⟩ := bd hF
        refine sx_N (As := [.long (d_letters q1)]) (rest := []) (st1 := [.int q16]) (c_X2_shipNamed G l (fun k => a (3 + k)) (d_told q1) (d_letters q1) q16 hq16) v_X0_108 ⟨(Nat.le_of_ble_eq_true rfl), (Nat.le_of_ble_eq_true rfl)⟩ hx hb hml hown hts hE hA hs ⟨Nat.le_refl 0, Nat.le_refl 0⟩ 0 rfl rfl rfl rfl rfl hl.1 (Nat.le_of_ble_eq_true rfl) dX0_readClaim_50 (pD_told G a q1 (d_told q1)) (ws' := WD G a q1) (pD_told G a q1 (d_told q1)) (fun H locs hs => ?_)
        refine lv_istore_n (lv' := [(2, .int q16), (0, .ref (a 0)), (1, .int x1)]) hx hb dX0_readClaim_53 rfl hl (by decide) rfl (fun ls hl => ?_)
        refine lv_iload_n hx hb dX0_readClaim_54 rfl (lv_at hl 0 rfl) ?_
        refine lv_iconst (v := (-1 : Int32)) hx hb dX0_readClaim_55 (by decide) ?_
        refine lv_icmp_ne (tgt := 65) hx hb dX0_readClaim_56 (by decide) (fun hc => ?_) (fun hc => ?_)
        · have hF := (if_neg hc).symm.trans hF
          refine lv_aload_n hx hb dX0_readClaim_65 rfl (lv_at hl 1 rfl) ?_
          obtain ⟨q17, hq17, hF⟩ := bd hF
          refine sx_V (As := []) (rest := []) (st1 := []) (c_X0_step G l a q1 q17 hq17) v_X0_56 ⟨(Nat.le_of_ble_eq_true rfl), (Nat.le_of_ble_eq_true rfl)⟩ hx hb hml hown hts hE hA hs ⟨Nat.le_refl 0, Nat.le_refl 0⟩ 5 rfl rfl rfl rfl rfl hl.1 (Nat.le_of_ble_eq_true rfl) dX0_readClaim_66 (pmW _) (ws' := WD G a q17) (pmW _) (fun H locs hs => ?_)
          exact hJ69_n q17 x1 q16 _ _ _ hF hs (lv_sub hl [1, 2, 0] rfl)
        · have hF := (if_pos hc).symm.trans hF
          refine lv_aload_n hx hb dX0_readClaim_59 rfl (lv_at hl 1 rfl) ?_
          refine lv_iconst (v := (3 : Int32)) hx hb dX0_readClaim_60 (by decide) ?_
          obtain ⟨q18, hq18, hF⟩ := bd hF
          refine sx_V (As := [.int (3 : Int32)]) (rest := []) (st1 := [.int q18.1]) (c_X0_fail G l a q1 (3 : Int32) q18 hq18) v_X0_89 ⟨(Nat.le_of_ble_eq_true rfl), (Nat.le_of_ble_eq_true rfl)⟩ hx hb hml hown hts hE hA hs ⟨Nat.le_refl 0, Nat.le_refl 0⟩ 5 rfl rfl rfl rfl rfl hl.1 (Nat.le_of_ble_eq_true rfl) dX0_readClaim_61 (pmW _) (ws' := WD G a q18.2) (pmW _) (fun H locs hs => ?_)
          obtain ⟨hz, hF⟩ := zz_some hF
          exact sx_zret hx hb hr hlk hQ hz (congrArg Prod.fst (Option.some.inj hF)) (congrArg (fun z => WD G a z) (congrArg Prod.snd (Option.some.inj hF))) hs dX0_readClaim_64
      · have hF := (if_pos hc).symm.trans hF
        refine lv_aload_n hx hb dX0_readClaim_36 rfl (lv_at hl 1 rfl) ?_
        refine lv_iconst (v := (1 : Int32)) hx hb dX0_readClaim_37 (by decide) ?_
        obtain ⟨q19, hq19, hF⟩ := bd hF
        refine sx_V (As := [.int (1 : Int32)]) (rest := []) (st1 := [.int q19.1]) (c_X0_fail G l a q1 (1 : Int32) q19 hq19) v_X0_89 ⟨(Nat.le_of_ble_eq_true rfl), (Nat.le_of_ble_eq_true rfl)⟩ hx hb hml hown hts hE hA hs ⟨Nat.le_refl 0, Nat.le_refl 0⟩ 5 rfl rfl rfl rfl rfl hl.1 (Nat.le_of_ble_eq_true rfl) dX0_readClaim_38 (pmW _) (ws' := WD G a q19.2) (pmW _) (fun H locs hs => ?_)
        obtain ⟨hz, hF⟩ := zz_some hF
        exact sx_zret hx hb hr hlk hQ hz (congrArg Prod.fst (Option.some.inj hF)) (congrArg (fun z => WD G a z) (congrArg Prod.snd (Option.some.inj hF))) hs dX0_readClaim_41
  · have hF := (if_neg hc).symm.trans hF
    refine lv_aload_n hx hb dX0_readClaim_12 rfl (lv_at hl 0 rfl) ?_
    refine lv_iconst (v := (4 : Int32)) hx hb dX0_readClaim_13 (by decide) ?_
    obtain ⟨q20, hq20, hF⟩ := bd hF
    refine sx_V (As := [.int (4 : Int32)]) (rest := []) (st1 := [.int q20.1]) (c_X0_fail G l a S (4 : Int32) q20 hq20) v_X0_89 ⟨(Nat.le_of_ble_eq_true rfl), (Nat.le_of_ble_eq_true rfl)⟩ hx hb hml hown hts hE hA hs ⟨Nat.le_refl 0, Nat.le_refl 0⟩ 5 rfl rfl rfl rfl rfl hl.1 (Nat.le_of_ble_eq_true rfl) dX0_readClaim_14 (pmW _) (ws' := WD G a q20.2) (pmW _) (fun H locs hs => ?_)
    obtain ⟨hz, hF⟩ := zz_some hF
    exact sx_zret hx hb hr hlk hQ hz (congrArg Prod.fst (Option.some.inj hF)) (congrArg (fun z => WD G a z) (congrArg Prod.snd (Option.some.inj hF))) hs dX0_readClaim_17
set_option maxHeartbeats 4000000 in
set_option maxRecDepth 100000 in
theorem c_X0_readLaw (G : GT) (l : Launch) (a : Nat → Nat) (S : DS) (x1 : Int32) (r : Int32 × DS) (hF : F_X0_readLaw S x1 = some r) : MT G l yX0_readLaw cX0_readLaw 2 (some .boolean) 3 60 [.ref (a 0), .int x1] (WD G a S) (some (.int r.1)) (WD G a r.2) := by
  refine MT.of (by decide) (Nat.le_of_ble_eq_true rfl) ?_
  intro p e s m args below meth c A ls hx hb hr hml hown hts hlk hE hA hs hl Q hQ
  have hl : lv_has ls 2 [(0, .ref (a 0)), (1, .int x1)] := hl
  unfold F_X0_readLaw at hF
  refine lv_aload_n hx hb dX0_readLaw_0 rfl (lv_at hl 0 rfl) ?_
  refine fg_X0_22 hx hb hown hts hE hs 5 rfl (v := .ref (a 2)) rfl dX0_readLaw_1 ?_
  refine lv_iload_n hx hb dX0_readLaw_4 rfl (lv_at hl 1 rfl) ?_
  obtain ⟨v1, hv1, hF⟩ := bd hF
  refine sx_zald hx hb hE hs 7 (f := d_lawTold S) rfl hv1 dX0_readLaw_5 ?_
  refine lv_if_eq (tgt := 15) hx hb dX0_readLaw_6 (by decide) (fun hc => ?_) (fun hc => ?_)
  · have hF := (if_pos hc).symm.trans hF
    refine lv_aload_n hx hb dX0_readLaw_15 rfl (lv_at hl 0 rfl) ?_
    refine fg_X0_22 hx hb hown hts hE hs 5 rfl (v := .ref (a 2)) rfl dX0_readLaw_16 ?_
    refine lv_iload_n hx hb dX0_readLaw_19 rfl (lv_at hl 1 rfl) ?_
    refine lv_iconst (v := (1 : Int32)) hx hb dX0_readLaw_20 (by decide) ?_
    obtain ⟨f2, hf2, hF⟩ := bd hF
    obtain ⟨S3, eS3, hF⟩ := nm_some hF
    refine sx_zast hx hb hE hs 7 (f := d_lawTold S) rfl rfl hf2 (ws' := WD G a S3) (by subst eS3; rfl) dX0_readLaw_21 (fun H locs hs => ?_)
    refine lv_aload_n hx hb dX0_readLaw_22 rfl (lv_at hl 0 rfl) ?_
    obtain ⟨q4, hq4, hF⟩ := bd hF
    refine sx_V (As := []) (rest := []) (st1 := []) (c_X0_step G l a S3 q4 hq4) v_X0_56 ⟨(Nat.le_of_ble_eq_true rfl), (Nat.le_of_ble_eq_true rfl)⟩ hx hb hml hown hts hE hA hs ⟨Nat.le_refl 0, Nat.le_refl 0⟩ 5 rfl rfl rfl rfl rfl hl.1 (Nat.le_of_ble_eq_true rfl) dX0_readLaw_23 (pmW _) (ws' := WD G a q4) (pmW _) (fun H locs hs => ?_)
    refine lv_iload_n hx hb dX0_readLaw_26 rfl (lv_at hl 1 rfl) ?_
    refine lv_iconst (v := (5 : Int32)) hx hb dX0_readLaw_27 (by decide) ?_
    refine lv_icmp_ge (tgt := 43) hx hb dX0_readLaw_28 (by decide) (fun hc => ?_) (fun hc => ?_)
    · have hF := (if_pos hc).symm.trans hF
      refine lv_aload_n hx hb dX0_readLaw_43 rfl (lv_at hl 0 rfl) ?_
      refine va_getsN (v := .ref (G.2.2.1 2)) hx hb (hE.2.2.1 2 (by decide)).1 hs.2.2 hown (va_Nw.use rfl (hE.2.1 _ g434)) (fun _ h9 => h9) dX0_readLaw_44 ?_
      refine lv_iload_n hx hb dX0_readLaw_47 rfl (lv_at hl 1 rfl) ?_
      obtain ⟨v5, hv5, hF⟩ := bd hF
      refine sx_sald hx hb hE hs 2 (by decide) hv5 dX0_readLaw_48 ?_
      refine va_getsN (v := .ref (G.2.2.1 3)) hx hb (hE.2.2.1 3 (by decide)).1 hs.2.2 hown (va_Nw.use rfl (hE.2.1 _ g436)) (fun _ h9 => h9) dX0_readLaw_49 ?_
      refine lv_iload_n hx hb dX0_readLaw_52 rfl (lv_at hl 1 rfl) ?_
      obtain ⟨v6, hv6, hF⟩ := bd hF
      refine sx_sald hx hb hE hs 3 (by decide) hv6 dX0_readLaw_53 ?_
      obtain ⟨q7, hq7, hF⟩ := bd hF
      refine sx_V (As := [.int v5, .int v6]) (rest := []) (st1 := [.int q7.1]) (c_X0_isWholeWithin G l a q4 v5 v6 q7 hq7) v_X0_149 ⟨(Nat.le_of_ble_eq_true rfl), (Nat.le_of_ble_eq_true rfl)⟩ hx hb hml hown hts hE hA hs ⟨Nat.le_refl 0, Nat.le_refl 0⟩ 5 rfl rfl rfl rfl rfl hl.1 (Nat.le_of_ble_eq_true rfl) dX0_readLaw_54 (pmW _) (ws' := WD G a q7.2) (pmW _) (fun H locs hs => ?_)
      refine lv_if_ne (tgt := 62) hx hb dX0_readLaw_57 (by decide) (fun hc => ?_) (fun hc => ?_)
      · have hF := (if_neg hc).symm.trans hF
        refine lv_aload_n hx hb dX0_readLaw_62 rfl (lv_at hl 0 rfl) ?_
        refine fg_X0_18 hx hb hown hts hE hs 5 rfl (v := .ref (a 3)) rfl dX0_readLaw_63 ?_
        refine fg_X0_76 hx hb hown hts hE hs 0 rfl (v := .ref (a 7)) rfl dX0_readLaw_66 ?_
        refine lv_iload_n hx hb dX0_readLaw_69 rfl (lv_at hl 1 rfl) ?_
        refine lv_aload_n hx hb dX0_readLaw_70 rfl (lv_at hl 0 rfl) ?_
        refine fg_X0_49 hx hb hown hts hE hs 5 rfl (v := .int (d_number q7.2)) rfl dX0_readLaw_71 ?_
        obtain ⟨f8, hf8, hF⟩ := bd hF
        obtain ⟨S9, eS9, hF⟩ := nm_some hF
        refine sx_iast hx hb hE hs 4 (f := t_laws (d_told q7.2)) rfl hf8 (ws' := WD G a S9) (by subst eS9; rfl) dX0_readLaw_74 (fun H locs hs => ?_)
        refine lv_aload_n hx hb dX0_readLaw_75 rfl (lv_at hl 0 rfl) ?_
        obtain ⟨q10, hq10, hF⟩ := bd hF
        refine sx_V (As := []) (rest := []) (st1 := []) (c_X0_step G l a S9 q10 hq10) v_X0_56 ⟨(Nat.le_of_ble_eq_true rfl), (Nat.le_of_ble_eq_true rfl)⟩ hx hb hml hown hts hE hA hs ⟨Nat.le_refl 0, Nat.le_refl 0⟩ 5 rfl rfl rfl rfl rfl hl.1 (Nat.le_of_ble_eq_true rfl) dX0_readLaw_76 (pmW _) (ws' := WD G a q10) (pmW _) (fun H locs hs => ?_)
        refine lv_iconst (v := (1 : Int32)) hx hb dX0_readLaw_79 (by decide) ?_
        exact sx_zret hx hb hr hlk hQ (Or.inr rfl) (congrArg Prod.fst (Option.some.inj hF)) (congrArg (fun z => WD G a z) (congrArg Prod.snd (Option.some.inj hF))) hs dX0_readLaw_80
      · have hF := (if_pos hc).symm.trans hF
        refine lv_iconst (v := (0 : Int32)) hx hb dX0_readLaw_60 (by decide) ?_
        exact sx_zret hx hb hr hlk hQ (Or.inl rfl) (congrArg Prod.fst (Option.some.inj hF)) (congrArg (fun z => WD G a z) (congrArg Prod.snd (Option.some.inj hF))) hs dX0_readLaw_61
    · have hF := (if_neg hc).symm.trans hF
      refine lv_aload_n hx hb dX0_readLaw_31 rfl (lv_at hl 0 rfl) ?_
      refine fg_X0_18 hx hb hown hts hE hs 5 rfl (v := .ref (a 3)) rfl dX0_readLaw_32 ?_
      refine fg_X0_76 hx hb hown hts hE hs 0 rfl (v := .ref (a 7)) rfl dX0_readLaw_35 ?_
      refine lv_iload_n hx hb dX0_readLaw_38 rfl (lv_at hl 1 rfl) ?_
      refine lv_iconst (v := (1 : Int32)) hx hb dX0_readLaw_39 (by decide) ?_
      obtain ⟨f11, hf11, hF⟩ := bd hF
      obtain ⟨S12, eS12, hF⟩ := nm_some hF
      refine sx_iast hx hb hE hs 4 (f := t_laws (d_told q4)) rfl hf11 (ws' := WD G a S12) (by subst eS12; rfl) dX0_readLaw_40 (fun H locs hs => ?_)
      refine lv_iconst (v := (1 : Int32)) hx hb dX0_readLaw_41 (by decide) ?_
      exact sx_zret hx hb hr hlk hQ (Or.inr rfl) (congrArg Prod.fst (Option.some.inj hF)) (congrArg (fun z => WD G a z) (congrArg Prod.snd (Option.some.inj hF))) hs dX0_readLaw_42
  · have hF := (if_neg hc).symm.trans hF
    refine lv_aload_n hx hb dX0_readLaw_9 rfl (lv_at hl 0 rfl) ?_
    refine lv_iconst (v := (3 : Int32)) hx hb dX0_readLaw_10 (by decide) ?_
    obtain ⟨q13, hq13, hF⟩ := bd hF
    refine sx_V (As := [.int (3 : Int32)]) (rest := []) (st1 := [.int q13.1]) (c_X0_fail G l a S (3 : Int32) q13 hq13) v_X0_89 ⟨(Nat.le_of_ble_eq_true rfl), (Nat.le_of_ble_eq_true rfl)⟩ hx hb hml hown hts hE hA hs ⟨Nat.le_refl 0, Nat.le_refl 0⟩ 5 rfl rfl rfl rfl rfl hl.1 (Nat.le_of_ble_eq_true rfl) dX0_readLaw_11 (pmW _) (ws' := WD G a q13.2) (pmW _) (fun H locs hs => ?_)
    obtain ⟨hz, hF⟩ := zz_some hF
    exact sx_zret hx hb hr hlk hQ hz (congrArg Prod.fst (Option.some.inj hF)) (congrArg (fun z => WD G a z) (congrArg Prod.snd (Option.some.inj hF))) hs dX0_readLaw_14
set_option maxHeartbeats 4000000 in
set_option maxRecDepth 100000 in
theorem c_X0_readLine (G : GT) (l : Launch) (a : Nat → Nat) (S : DS) (r : Int32 × DS) (hF : F_X0_readLine S = some r) : MT G l yX0_readLine cX0_readLine 2 (some .boolean) 5 102 [.ref (a 0)] (WD G a S) (some (.int r.1)) (WD G a r.2) := by
  refine MT.of (by decide) (Nat.le_of_ble_eq_true rfl) ?_
  intro p e s m args below meth c A ls hx hb hr hml hown hts hlk hE hA hs hl Q hQ
  have hl : lv_has ls 2 [(0, .ref (a 0))] := hl
  have hJ16_n : ∀ (S : DS) (H : Heap) (locs : List Loc) (ls : Array Slot), J_X0_readLine_16 S = some r → SI G A s H locs (WD G a S) → lv_has ls 2 [(0, .ref (a 0))] → W p l e (RM 5 102) s m args below meth c H locs 0 0 Q (F0 m 16 ls []) := by
    intro S H locs ls hF hs hl
    unfold J_X0_readLine_16 at hF
    refine lv_aload_n hx hb dX0_readLine_16 rfl (lv_at hl 0 rfl) ?_
    refine lv_iconst (v := (1 : Int32)) hx hb dX0_readLine_17 (by decide) ?_
    obtain ⟨q3, hq3, hF⟩ := bd hF
    refine sx_V (As := [.int (1 : Int32)]) (rest := []) (st1 := [.int q3.1]) (c_X0_fail G l a S (1 : Int32) q3 hq3) v_X0_89 ⟨(Nat.le_of_ble_eq_true rfl), (Nat.le_of_ble_eq_true rfl)⟩ hx hb hml hown hts hE hA hs ⟨Nat.le_refl 0, Nat.le_refl 0⟩ 5 rfl rfl rfl rfl rfl hl.1 (Nat.le_of_ble_eq_true rfl) dX0_readLine_18 (pmW _) (ws' := WD G a q3.2) (pmW _) (fun H locs hs => ?_)
    obtain ⟨hz, hF⟩ := zz_some hF
    exact sx_zret hx hb hr hlk hQ hz (congrArg Prod.fst (Option.some.inj hF)) (congrArg (fun z => WD G a z) (congrArg Prod.snd (Option.some.inj hF))) hs dX0_readLine_21
  unfold F_X0_readLine at hF
  refine lv_aload_n hx hb dX0_readLine_0 rfl (lv_at hl 0 rfl) ?_
  obtain ⟨q1, hq1, hF⟩ := bd hF
  cases q1 with
  | none =>
    have hF := el_none hF
    refine sx_V (As := []) (rest := []) (st1 := [.null]) (c_X0_fixedWord G l a S none hq1) v_X0_80 ⟨(Nat.le_of_ble_eq_true rfl), (Nat.le_of_ble_eq_true rfl)⟩ hx hb hml hown hts hE hA hs ⟨Nat.le_refl 0, Nat.le_refl 0⟩ 5 rfl rfl rfl rfl rfl hl.1 (Nat.le_of_ble_eq_true rfl) dX0_readLine_1 (pmW _) (ws' := WD G a S) (pmW _) (fun H locs hs => ?_)
    refine lv_astore_nN (lv' := [(1, .null), (0, .ref (a 0))]) hx hb dX0_readLine_4 rfl hl (by decide) rfl (fun ls hl => ?_)
    refine lv_aload_nN hx hb dX0_readLine_5 rfl (lv_at hl 0 rfl) ?_
    refine lv_ifnullN (tgt := 16) hx hb dX0_readLine_6 (by decide) ?_
    exact hJ16_n S _ _ _ hF hs (lv_sub hl [1] rfl)
  | some w2 =>
    have hF := el_some hF
    refine sx_V (As := []) (rest := []) (st1 := [.ref (G.2.2.2 w2)]) (c_X0_fixedWord G l a S (some w2) hq1) v_X0_80 ⟨(Nat.le_of_ble_eq_true rfl), (Nat.le_of_ble_eq_true rfl)⟩ hx hb hml hown hts hE hA hs ⟨Nat.le_refl 0, Nat.le_refl 0⟩ 5 rfl rfl rfl rfl rfl hl.1 (Nat.le_of_ble_eq_true rfl) dX0_readLine_1 (pmW _) (ws' := WD G a S) (pmW _) (fun H locs hs => ?_)
    refine lv_astore_n (lv' := [(1, .ref (G.2.2.2 w2)), (0, .ref (a 0))]) hx hb dX0_readLine_4 rfl hl (by decide) rfl (fun ls hl => ?_)
    refine lv_aload_n hx hb dX0_readLine_5 rfl (lv_at hl 0 rfl) ?_
    refine lv_ifnull hx hb dX0_readLine_6 ?_
    refine lv_aload_n hx hb dX0_readLine_9 rfl (lv_at hl 0 rfl) ?_
    obtain ⟨v4, hv4, hF⟩ := bd hF
    refine sx_wrole hx hb hown hE hs hv4 (hE.2.1 _ g1498) dX0_readLine_10 ?_
    refine lv_if_ne (tgt := 22) hx hb dX0_readLine_13 (by decide) (fun hc => ?_) (fun hc => ?_)
    · have hF := (if_neg hc).symm.trans hF
      refine lv_aload_n hx hb dX0_readLine_22 rfl (lv_at hl 0 rfl) ?_
      obtain ⟨v5, hv5, hF⟩ := bd hF
      refine sx_wrole hx hb hown hE hs hv5 (hE.2.1 _ g1498) dX0_readLine_23 ?_
      refine lv_iconst (v := (1 : Int32)) hx hb dX0_readLine_26 (by decide) ?_
      refine lv_icmp_ne (tgt := 35) hx hb dX0_readLine_27 (by decide) (fun hc => ?_) (fun hc => ?_)
      · have hF := (if_neg hc).symm.trans hF
        refine lv_aload_n hx hb dX0_readLine_35 rfl (lv_at hl 0 rfl) ?_
        obtain ⟨v6, hv6, hF⟩ := bd hF
        refine sx_wrole hx hb hown hE hs hv6 (hE.2.1 _ g1498) dX0_readLine_36 ?_
        refine lv_iconst (v := (2 : Int32)) hx hb dX0_readLine_39 (by decide) ?_
        refine lv_icmp_ne (tgt := 54) hx hb dX0_readLine_40 (by decide) (fun hc => ?_) (fun hc => ?_)
        · have hF := (if_neg hc).symm.trans hF
          refine lv_aload_n hx hb dX0_readLine_54 rfl (lv_at hl 1 rfl) ?_
          refine lv_aload_n hx hb dX0_readLine_55 rfl (lv_at hl 0 rfl) ?_
          obtain ⟨v7, hv7, hF⟩ := bd hF
          refine sx_wcolumn hx hb hown hE hs hv7 (hE.2.1 _ g1499) dX0_readLine_56 ?_
          obtain ⟨q8, hq8, hF⟩ := bd hF
          refine sx_V (As := [.int v7]) (rest := []) (st1 := [.int q8.1]) (c_X0_readLaw G l a S v7 q8 hq8) v_X0_102 ⟨(Nat.le_of_ble_eq_true rfl), (Nat.le_of_ble_eq_true rfl)⟩ hx hb hml hown hts hE hA hs ⟨Nat.le_refl 0, Nat.le_refl 0⟩ 5 rfl rfl rfl rfl rfl hl.1 (Nat.le_of_ble_eq_true rfl) dX0_readLine_59 (pmW _) (ws' := WD G a q8.2) (pmW _) (fun H locs hs => ?_)
          obtain ⟨hz, hF⟩ := zz_some hF
          exact sx_zret hx hb hr hlk hQ hz (congrArg Prod.fst (Option.some.inj hF)) (congrArg (fun z => WD G a z) (congrArg Prod.snd (Option.some.inj hF))) hs dX0_readLine_62
        · have hF := (if_pos hc).symm.trans hF
          refine lv_aload_n hx hb dX0_readLine_43 rfl (lv_at hl 1 rfl) ?_
          refine lv_aload_n hx hb dX0_readLine_44 rfl (lv_at hl 0 rfl) ?_
          obtain ⟨v9, hv9, hF⟩ := bd hF
          refine sx_wcolumn hx hb hown hE hs hv9 (hE.2.1 _ g1499) dX0_readLine_45 ?_
          obtain ⟨q10, hq10, hF⟩ := bd hF
          refine sx_V (As := [.int v9]) (rest := []) (st1 := [.int q10.1]) (c_X0_readClaim G l a S v9 q10 hq10) v_X0_99 ⟨(Nat.le_of_ble_eq_true rfl), (Nat.le_of_ble_eq_true rfl)⟩ hx hb hml hown hts hE hA hs ⟨Nat.le_refl 0, Nat.le_refl 0⟩ 5 rfl rfl rfl rfl rfl hl.1 (Nat.le_of_ble_eq_true rfl) dX0_readLine_48 (pmW _) (ws' := WD G a q10.2) (pmW _) (fun H locs hs => ?_)
          refine lv_goto (tgt := 62) hx hb dX0_readLine_51 (by decide) ?_
          obtain ⟨hz, hF⟩ := zz_some hF
          exact sx_zret hx hb hr hlk hQ hz (congrArg Prod.fst (Option.some.inj hF)) (congrArg (fun z => WD G a z) (congrArg Prod.snd (Option.some.inj hF))) hs dX0_readLine_62
      · have hF := (if_pos hc).symm.trans hF
        refine lv_aload_n hx hb dX0_readLine_30 rfl (lv_at hl 1 rfl) ?_
        obtain ⟨q11, hq11, hF⟩ := bd hF
        refine sx_V (As := []) (rest := []) (st1 := [.int q11.1]) (c_X0_readShip G l a S q11 hq11) v_X0_93 ⟨(Nat.le_of_ble_eq_true rfl), (Nat.le_of_ble_eq_true rfl)⟩ hx hb hml hown hts hE hA hs ⟨Nat.le_refl 0, Nat.le_refl 0⟩ 5 rfl rfl rfl rfl rfl hl.1 (Nat.le_of_ble_eq_true rfl) dX0_readLine_31 (pmW _) (ws' := WD G a q11.2) (pmW _) (fun H locs hs => ?_)
        obtain ⟨hz, hF⟩ := zz_some hF
        exact sx_zret hx hb hr hlk hQ hz (congrArg Prod.fst (Option.some.inj hF)) (congrArg (fun z => WD G a z) (congrArg Prod.snd (Option.some.inj hF))) hs dX0_readLine_34
    · have hF := (if_pos hc).symm.trans hF
      exact hJ16_n S _ _ _ hF hs (lv_sub hl [1] rfl)
set_option maxHeartbeats 4000000 in
set_option maxRecDepth 100000 in
theorem c_X0_fitsTogether (G : GT) (l : Launch) (a : Nat → Nat) (S : DS) (r : Int32) (hF : F_X0_fitsTogether S = some r) : MT G l yX0_fitsTogether cX0_fitsTogether 1 (some .boolean) 2 44 [.ref (a 0)] (WD G a S) (some (.int r)) (WD G a S) := by
  refine MT.of (by decide) (Nat.le_of_ble_eq_true rfl) ?_
  intro p e s m args below meth c A ls hx hb hr hml hown hts hlk hE hA hs hl Q hQ
  have hl : lv_has ls 1 [(0, .ref (a 0))] := hl
  unfold F_X0_fitsTogether at hF
  refine lv_aload_n hx hb dX0_fitsTogether_0 rfl (lv_at hl 0 rfl) ?_
  refine fg_X0_18 hx hb hown hts hE hs 5 rfl (v := .ref (a 3)) rfl dX0_fitsTogether_1 ?_
  refine fg_X0_69 hx hb hown hts hE hs 0 rfl (v := .int (t_ships (d_told S))) rfl dX0_fitsTogether_4 ?_
  refine lv_iconst (v := (2 : Int32)) hx hb dX0_fitsTogether_7 (by decide) ?_
  refine lv_icmp_lt (tgt := 50) hx hb dX0_fitsTogether_8 (by decide) (fun hc => ?_) (fun hc => ?_)
  · have hF := (if_pos hc).symm.trans hF
    refine lv_iconst (v := (0 : Int32)) hx hb dX0_fitsTogether_50 (by decide) ?_
    exact sx_zret hx hb hr hlk hQ (Or.inl rfl) (Option.some.inj hF) rfl hs dX0_fitsTogether_51
  · have hF := (if_neg hc).symm.trans hF
    refine lv_aload_n hx hb dX0_fitsTogether_11 rfl (lv_at hl 0 rfl) ?_
    refine fg_X0_18 hx hb hown hts hE hs 5 rfl (v := .ref (a 3)) rfl dX0_fitsTogether_12 ?_
    obtain ⟨q1, hq1, hF⟩ := bd hF
    refine sx_N (As := []) (rest := []) (st1 := [.int q1]) (c_X2_faultsTogether G l (fun k => a (3 + k)) (d_told S) q1 hq1) v_X0_72 ⟨(Nat.le_of_ble_eq_true rfl), (Nat.le_of_ble_eq_true rfl)⟩ hx hb hml hown hts hE hA hs ⟨Nat.le_refl 0, Nat.le_refl 0⟩ 0 rfl rfl rfl rfl rfl hl.1 (Nat.le_of_ble_eq_true rfl) dX0_fitsTogether_15 (pD_told G a S (d_told S)) (ws' := WD G a S) (pD_told G a S (d_told S)) (fun H locs hs => ?_)
    refine lv_bipush (v := (10 : Int32)) hx hb dX0_fitsTogether_18 (by decide) ?_
    refine lv_icmp_ne (tgt := 50) hx hb dX0_fitsTogether_20 (by decide) (fun hc => ?_) (fun hc => ?_)
    · have hF := (if_neg hc).symm.trans hF
      refine lv_iconst (v := (0 : Int32)) hx hb dX0_fitsTogether_50 (by decide) ?_
      exact sx_zret hx hb hr hlk hQ (Or.inl rfl) (Option.some.inj hF) rfl hs dX0_fitsTogether_51
    · have hF := (if_pos hc).symm.trans hF
      refine lv_aload_n hx hb dX0_fitsTogether_23 rfl (lv_at hl 0 rfl) ?_
      refine fg_X0_18 hx hb hown hts hE hs 5 rfl (v := .ref (a 3)) rfl dX0_fitsTogether_24 ?_
      refine fg_X0_76 hx hb hown hts hE hs 0 rfl (v := .ref (a 7)) rfl dX0_fitsTogether_27 ?_
      refine lv_bipush (v := (9 : Int32)) hx hb dX0_fitsTogether_30 (by decide) ?_
      obtain ⟨v2, hv2, hF⟩ := bd hF
      refine sx_iald hx hb hE hs 4 (f := t_laws (d_told S)) rfl hv2 dX0_fitsTogether_32 ?_
      refine lv_aload_n hx hb dX0_fitsTogether_33 rfl (lv_at hl 0 rfl) ?_
      refine fg_X0_18 hx hb hown hts hE hs 5 rfl (v := .ref (a 3)) rfl dX0_fitsTogether_34 ?_
      refine fg_X0_76 hx hb hown hts hE hs 0 rfl (v := .ref (a 7)) rfl dX0_fitsTogether_37 ?_
      refine lv_bipush (v := (8 : Int32)) hx hb dX0_fitsTogether_40 (by decide) ?_
      obtain ⟨v3, hv3, hF⟩ := bd hF
      refine sx_iald hx hb hE hs 4 (f := t_laws (d_told S)) rfl hv3 dX0_fitsTogether_42 ?_
      refine lv_icmp_lt (tgt := 50) hx hb dX0_fitsTogether_43 (by decide) (fun hc => ?_) (fun hc => ?_)
      · have hF := (if_pos hc).symm.trans hF
        refine lv_iconst (v := (0 : Int32)) hx hb dX0_fitsTogether_50 (by decide) ?_
        exact sx_zret hx hb hr hlk hQ (Or.inl rfl) (Option.some.inj hF) rfl hs dX0_fitsTogether_51
      · have hF := (if_neg hc).symm.trans hF
        refine lv_iconst (v := (1 : Int32)) hx hb dX0_fitsTogether_46 (by decide) ?_
        refine lv_goto (tgt := 51) hx hb dX0_fitsTogether_47 (by decide) ?_
        exact sx_zret hx hb hr hlk hQ (Or.inr rfl) (Option.some.inj hF) rfl hs dX0_fitsTogether_51
set_option maxHeartbeats 4000000 in
set_option maxRecDepth 100000 in
theorem c_X0_read (G : GT) (l : Launch) (a : Nat → Nat) (S : DS) (x1 : Int32) (r : Int32 × DS) (hF : F_X0_read S x1 = some r) : MT G l yX0_read cX0_read 3 (some .int) 6 123 [.ref (a 0), .int x1] (WD G a S) (some (.int r.1)) (WD G a r.2) := by
  refine MT.of (by decide) (Nat.le_of_ble_eq_true rfl) ?_
  intro p e s m args below meth c A ls hx hb hr hml hown hts hlk hE hA hs hl Q hQ
  have hl : lv_has ls 3 [(0, .ref (a 0)), (1, .int x1)] := hl
  have hL7 : ∀ (k : DS → Option (Int32 × DS)) (hk : ∀ (S : DS) (H : Heap) (locs : List Loc) (ls : Array Slot), k S = some r → SI G A s H locs (WD G a S) → lv_has ls 3 [] → W p l e (RM 6 123) s m args below meth c H locs 0 0 Q (F0 m 67 ls [])) (fu : Nat) (S : DS) (x2 : Int32) (H : Heap) (locs : List Loc) (ls : Array Slot), lo2 (B_X0_read_7 k) fu S x2 = some r → SI G A s H locs (WD G a S) → lv_has ls 3 [(0, .ref (a 0)), (2, .int x2)] → W p l e (RM 6 123) s m args below meth c H locs 0 0 Q (F0 m 7 ls []) := by
    intro k hk fu
    induction fu with
    | zero =>
      intro S x2 H locs ls hF hs hl
      exact nomatch (show (none : Option (Int32 × DS)) = some r from hF)
    | succ fu hrec =>
      intro S x2 H locs ls hF hs hl
      have hF : (B_X0_read_7 k) (lo2 (B_X0_read_7 k) fu) S x2 = some r := hF
      unfold B_X0_read_7 at hF
      refine lv_iload_n hx hb dX0_read_7 rfl (lv_at hl 1 rfl) ?_
      refine lv_aload_n hx hb dX0_read_8 rfl (lv_at hl 0 rfl) ?_
      refine fg_X0_26 hx hb hown hts hE hs 5 rfl (v := .int (d_end S)) rfl dX0_read_9 ?_
      refine lv_icmp_gt (tgt := 67) hx hb dX0_read_12 (by decide) (fun hc => ?_) (fun hc => ?_)
      · have hF := (if_pos hc).symm.trans hF
        exact hk S _ _ _ hF hs (lv_sub hl [] rfl)
      · have hF := (if_neg hc).symm.trans hF
        refine lv_aload_n hx hb dX0_read_15 rfl (lv_at hl 0 rfl) ?_
        obtain ⟨q2, hq2, hF⟩ := bd hF
        refine sx_V (As := []) (rest := []) (st1 := []) (c_X0_step G l a S q2 hq2) v_X0_56 ⟨(Nat.le_of_ble_eq_true rfl), (Nat.le_of_ble_eq_true rfl)⟩ hx hb hml hown hts hE hA hs ⟨Nat.le_refl 0, Nat.le_refl 0⟩ 5 rfl rfl rfl rfl rfl hl.1 (Nat.le_of_ble_eq_true rfl) dX0_read_16 (pmW _) (ws' := WD G a q2) (pmW _) (fun H locs hs => ?_)
        refine lv_aload_n hx hb dX0_read_19 rfl (lv_at hl 0 rfl) ?_
        obtain ⟨q3, hq3, hF⟩ := bd hF
        refine sx_V (As := []) (rest := []) (st1 := [.int q3.1]) (c_X0_readLine G l a q2 q3 hq3) v_X0_59 ⟨(Nat.le_of_ble_eq_true rfl), (Nat.le_of_ble_eq_true rfl)⟩ hx hb hml hown hts hE hA hs ⟨Nat.le_refl 0, Nat.le_refl 0⟩ 5 rfl rfl rfl rfl rfl hl.1 (Nat.le_of_ble_eq_true rfl) dX0_read_20 (pmW _) (ws' := WD G a q3.2) (pmW _) (fun H locs hs => ?_)
        refine lv_if_ne (tgt := 31) hx hb dX0_read_23 (by decide) (fun hc => ?_) (fun hc => ?_)
        · have hF := (if_neg hc).symm.trans hF
          refine lv_aload_n hx hb dX0_read_31 rfl (lv_at hl 0 rfl) ?_
          refine fg_X0_39 hx hb hown hts hE hs 5 rfl (v := .int (d_token q3.2)) rfl dX0_read_32 ?_
          refine lv_if_ne (tgt := 51) hx hb dX0_read_35 (by decide) (fun hc => ?_) (fun hc => ?_)
          · have hF := (if_neg hc).symm.trans hF
            refine lv_aload_n hx hb dX0_read_51 rfl (lv_at hl 0 rfl) ?_
            refine fg_X0_39 hx hb hown hts hE hs 5 rfl (v := .int (d_token q3.2)) rfl dX0_read_52 ?_
            refine lv_iconst (v := (3 : Int32)) hx hb dX0_read_55 (by decide) ?_
            refine lv_icmp_eq (tgt := 61) hx hb dX0_read_56 (by decide) (fun hc => ?_) (fun hc => ?_)
            · have hF := (if_pos hc).symm.trans hF
              obtain ⟨v4, ev4, hF⟩ := nm_some hF
              refine lv_iinc (v := v4) (lv' := [(2, .int v4), (0, .ref (a 0))]) hx hb dX0_read_61 hl (k := 1) rfl (by rw [ev4]; rfl) (by decide) rfl (fun ls hl => ?_)
              refine lv_goto (tgt := 7) hx hb dX0_read_64 (by decide) ?_
              exact hrec q3.2 v4 _ _ _ hF hs (lv_sub hl [1, 0] rfl)
            · have hF := (if_neg hc).symm.trans hF
              refine lv_iconst (v := (1 : Int32)) hx hb dX0_read_59 (by decide) ?_
              exact sx_iret hx hb hr hlk hQ (congrArg Prod.fst (Option.some.inj hF)) (congrArg (fun z => WD G a z) (congrArg Prod.snd (Option.some.inj hF))) hs dX0_read_60
          · have hF := (if_pos hc).symm.trans hF
            refine lv_aload_n hx hb dX0_read_38 rfl (lv_at hl 0 rfl) ?_
            obtain ⟨q5, hq5, hF⟩ := bd hF
            refine sx_V (As := []) (rest := []) (st1 := [.int q5]) (c_X0_fitsTogether G l a q3.2 q5 hq5) v_X0_63 ⟨(Nat.le_of_ble_eq_true rfl), (Nat.le_of_ble_eq_true rfl)⟩ hx hb hml hown hts hE hA hs ⟨Nat.le_refl 0, Nat.le_refl 0⟩ 5 rfl rfl rfl rfl rfl hl.1 (Nat.le_of_ble_eq_true rfl) dX0_read_39 (pmW _) (ws' := WD G a q3.2) (pmW _) (fun H locs hs => ?_)
            refine lv_if_eq (tgt := 49) hx hb dX0_read_42 (by decide) (fun hc => ?_) (fun hc => ?_)
            · have hF := (if_pos hc).symm.trans hF
              refine lv_iconst (v := (5 : Int32)) hx hb dX0_read_49 (by decide) ?_
              exact sx_iret hx hb hr hlk hQ (congrArg Prod.fst (Option.some.inj hF)) (congrArg (fun z => WD G a z) (congrArg Prod.snd (Option.some.inj hF))) hs dX0_read_50
            · have hF := (if_neg hc).symm.trans hF
              refine lv_iconst (v := (0 : Int32)) hx hb dX0_read_45 (by decide) ?_
              refine lv_goto (tgt := 50) hx hb dX0_read_46 (by decide) ?_
              exact sx_iret hx hb hr hlk hQ (congrArg Prod.fst (Option.some.inj hF)) (congrArg (fun z => WD G a z) (congrArg Prod.snd (Option.some.inj hF))) hs dX0_read_50
        · have hF := (if_pos hc).symm.trans hF
          refine lv_aload_n hx hb dX0_read_26 rfl (lv_at hl 0 rfl) ?_
          refine fg_X0_33 hx hb hown hts hE hs 5 rfl (v := .int (d_found q3.2)) rfl dX0_read_27 ?_
          exact sx_iret hx hb hr hlk hQ (congrArg Prod.fst (Option.some.inj hF)) (congrArg (fun z => WD G a z) (congrArg Prod.snd (Option.some.inj hF))) hs dX0_read_30
  unfold F_X0_read at hF
  refine lv_aload_n hx hb dX0_read_0 rfl (lv_at hl 0 rfl) ?_
  refine lv_iload_n hx hb dX0_read_1 rfl (lv_at hl 1 rfl) ?_
  obtain ⟨q1, hq1, hF⟩ := bd hF
  refine sx_V (As := [.int x1]) (rest := []) (st1 := []) (c_X0_begin G l a S x1 q1 hq1) v_X0_52 ⟨(Nat.le_of_ble_eq_true rfl), (Nat.le_of_ble_eq_true rfl)⟩ hx hb hml hown hts hE hA hs ⟨Nat.le_refl 0, Nat.le_refl 0⟩ 5 rfl rfl rfl rfl rfl hl.1 (Nat.le_of_ble_eq_true rfl) dX0_read_2 (pmW _) (ws' := WD G a q1) (pmW _) (fun H locs hs => ?_)
  refine lv_iconst (v := (0 : Int32)) hx hb dX0_read_5 (by decide) ?_
  refine lv_istore_n (lv' := [(2, .int (0 : Int32)), (0, .ref (a 0)), (1, .int x1)]) hx hb dX0_read_6 rfl hl (by decide) rfl (fun ls hl => ?_)
  refine hL7 _ (fun S6 H locs ls hF hs hl => ?_) FU q1 (0 : Int32) _ _ _ hF hs (lv_sub hl [1, 0] rfl)
  refine lv_iconst (v := (1 : Int32)) hx hb dX0_read_67 (by decide) ?_
  exact sx_iret hx hb hr hlk hQ (congrArg Prod.fst (Option.some.inj hF)) (congrArg (fun z => WD G a z) (congrArg Prod.snd (Option.some.inj hF))) hs dX0_read_68
