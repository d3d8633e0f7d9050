set_option maxHeartbeats 4000000 in
set_option maxRecDepth 100000 in
theorem c_X5_thrown (G : GT) (l : Launch) (a : Nat → Nat) (S : MS) (r : Int32) (hF : F_X5_thrown S = some r) : MT G l yX5_thrown cX5_thrown 1 (some .int) 0 0 [.ref (a 0)] (WM G a S) (some (.int r)) (WM G a S) := by
  refine MT.of (by decide) (Nat.le_of_ble_eq_true rfl) ?_
  intro p e s m args below meth c A ls hx hb hr hml hown hts hlk hE hA hs hl Q hQ
  have hl : lv_has ls 1 [(0, .ref (a 0))] := hl
  unfold F_X5_thrown at hF
  refine lv_aload_n hx hb dX5_thrown_0 rfl (lv_at hl 0 rfl) ?_
  refine fg_X5_52 hx hb hown hts hE hs 0 rfl (v := .int (m_thrown S)) rfl dX5_thrown_1 ?_
  exact sx_iret hx hb hr hlk hQ (Option.some.inj hF) rfl hs dX5_thrown_4
set_option maxHeartbeats 4000000 in
set_option maxRecDepth 100000 in
theorem c_X5_in (G : GT) (l : Launch) (x0 : Int64) (x2 : Int64) (x4 : Int64) (r : Int32) (hF : F_X5_in x0 x2 x4 = some r) : MT G l yX5_in cX5_in 6 (some .boolean) 0 0 [.long x0, .long x2, .long x4] (([] : va_W)) (some (.int r)) (([] : va_W)) := by
  refine MT.of (by decide) (Nat.le_of_ble_eq_true rfl) ?_
  intro p e s m args below meth c A ls hx hb hr hml hown hts hlk hE hA hs hl Q hQ
  have hl : lv_has ls 6 [(0, .long x0), (2, .long x2), (4, .long x4)] := hl
  unfold F_X5_in at hF
  refine lv_lload_n hx hb dX5_in_0 rfl (lv_at hl 0 rfl) ?_
  refine lv_lload_n hx hb dX5_in_1 rfl (lv_at hl 1 rfl) ?_
  refine W.lcmp hx hb dX5_in_2 ?_
  refine lv_if_lt (tgt := 17) hx hb dX5_in_3 (by decide) (fun hc => ?_) (fun hc => ?_)
  · have hF := (if_pos hc).symm.trans hF
    refine lv_iconst (v := (0 : Int32)) hx hb dX5_in_17 (by decide) ?_
    exact sx_zret hx hb hr hlk hQ (Or.inl rfl) (Option.some.inj hF) rfl hs dX5_in_18
  · have hF := (if_neg hc).symm.trans hF
    refine lv_lload_n hx hb dX5_in_6 rfl (lv_at hl 0 rfl) ?_
    refine lv_lload hx hb dX5_in_7 (lv_at hl 2 rfl) ?_
    refine W.lcmp hx hb dX5_in_9 ?_
    refine lv_if_gt (tgt := 17) hx hb dX5_in_10 (by decide) (fun hc => ?_) (fun hc => ?_)
    · have hF := (if_pos hc).symm.trans hF
      refine lv_iconst (v := (0 : Int32)) hx hb dX5_in_17 (by decide) ?_
      exact sx_zret hx hb hr hlk hQ (Or.inl rfl) (Option.some.inj hF) rfl hs dX5_in_18
    · have hF := (if_neg hc).symm.trans hF
      refine lv_iconst (v := (1 : Int32)) hx hb dX5_in_13 (by decide) ?_
      refine lv_goto (tgt := 18) hx hb dX5_in_14 (by decide) ?_
      exact sx_zret hx hb hr hlk hQ (Or.inr rfl) (Option.some.inj hF) rfl hs dX5_in_18
set_option maxHeartbeats 4000000 in
set_option maxRecDepth 100000 in
theorem c_X5_lesser (G : GT) (l : Launch) (x0 : Int64) (x2 : Int64) (r : Int64) (hF : F_X5_lesser x0 x2 = some r) : MT G l yX5_lesser cX5_lesser 4 (some .long) 0 0 [.long x0, .long x2] (([] : va_W)) (some (.long r)) (([] : va_W)) := by
  refine MT.of (by decide) (Nat.le_of_ble_eq_true rfl) ?_
  intro p e s m args below meth c A ls hx hb hr hml hown hts hlk hE hA hs hl Q hQ
  have hl : lv_has ls 4 [(0, .long x0), (2, .long x2)] := hl
  unfold F_X5_lesser at hF
  refine lv_lload_n hx hb dX5_lesser_0 rfl (lv_at hl 0 rfl) ?_
  refine lv_lload_n hx hb dX5_lesser_1 rfl (lv_at hl 1 rfl) ?_
  refine W.lcmp hx hb dX5_lesser_2 ?_
  refine lv_if_ge (tgt := 10) hx hb dX5_lesser_3 (by decide) (fun hc => ?_) (fun hc => ?_)
  · have hF := (if_pos hc).symm.trans hF
    refine lv_lload_n hx hb dX5_lesser_10 rfl (lv_at hl 1 rfl) ?_
    exact sx_lret hx hb hr hlk hQ (Option.some.inj hF) rfl hs dX5_lesser_11
  · have hF := (if_neg hc).symm.trans hF
    refine lv_lload_n hx hb dX5_lesser_6 rfl (lv_at hl 0 rfl) ?_
    refine lv_goto (tgt := 11) hx hb dX5_lesser_7 (by decide) ?_
    exact sx_lret hx hb hr hlk hQ (Option.some.inj hF) rfl hs dX5_lesser_11
set_option maxHeartbeats 4000000 in
set_option maxRecDepth 100000 in
theorem c_X5_greater (G : GT) (l : Launch) (x0 : Int64) (x2 : Int64) (r : Int64) (hF : F_X5_greater x0 x2 = some r) : MT G l yX5_greater cX5_greater 4 (some .long) 0 0 [.long x0, .long x2] (([] : va_W)) (some (.long r)) (([] : va_W)) := by
  refine MT.of (by decide) (Nat.le_of_ble_eq_true rfl) ?_
  intro p e s m args below meth c A ls hx hb hr hml hown hts hlk hE hA hs hl Q hQ
  have hl : lv_has ls 4 [(0, .long x0), (2, .long x2)] := hl
  unfold F_X5_greater at hF
  refine lv_lload_n hx hb dX5_greater_0 rfl (lv_at hl 0 rfl) ?_
  refine lv_lload_n hx hb dX5_greater_1 rfl (lv_at hl 1 rfl) ?_
  refine W.lcmp hx hb dX5_greater_2 ?_
  refine lv_if_le (tgt := 10) hx hb dX5_greater_3 (by decide) (fun hc => ?_) (fun hc => ?_)
  · have hF := (if_pos hc).symm.trans hF
    refine lv_lload_n hx hb dX5_greater_10 rfl (lv_at hl 1 rfl) ?_
    exact sx_lret hx hb hr hlk hQ (Option.some.inj hF) rfl hs dX5_greater_11
  · have hF := (if_neg hc).symm.trans hF
    refine lv_lload_n hx hb dX5_greater_6 rfl (lv_at hl 0 rfl) ?_
    refine lv_goto (tgt := 11) hx hb dX5_greater_7 (by decide) ?_
    exact sx_lret hx hb hr hlk hQ (Option.some.inj hF) rfl hs dX5_greater_11
set_option maxHeartbeats 4000000 in
set_option maxRecDepth 100000 in
theorem c_X5_begins (G : GT) (l : Launch) (a : Nat → Nat) (S : MS) (r : MS) (hF : F_X5_begins S = some r) : MT G l yX5_begins cX5_begins 1 (none) 0 0 [.ref (a 0)] (WM G a S) none (WM G a r) := by
  refine MT.of (by decide) (Nat.le_of_ble_eq_true rfl) ?_
  intro p e s m args below meth c A ls hx hb hr hml hown hts hlk hE hA hs hl Q hQ
  have hl : lv_has ls 1 [(0, .ref (a 0))] := hl
  unfold F_X5_begins at hF
  refine lv_aload_n hx hb dX5_begins_0 rfl (lv_at hl 0 rfl) ?_
  refine lv_iconst (v := (0 : Int32)) hx hb dX5_begins_1 (by decide) ?_
  obtain ⟨S1, eS1, hF⟩ := nm_some hF
  refine fp_X5_52 hx hb hown hts hE hs 0 rfl (ws' := WM G a S1) (Nat.le_of_ble_eq_true rfl) (by subst eS1; rfl) dX5_begins_2 (fun H locs hs => ?_)
  refine lv_aload_n hx hb dX5_begins_5 rfl (lv_at hl 0 rfl) ?_
  refine lv_iconst (v := (0 : Int32)) hx hb dX5_begins_6 (by decide) ?_
  obtain ⟨S2, eS2, hF⟩ := nm_some hF
  refine fp_X5_55 hx hb hown hts hE hs 0 rfl (ws' := WM G a S2) (Nat.le_of_ble_eq_true rfl) (by subst eS2; rfl) dX5_begins_7 (fun H locs hs => ?_)
  refine lv_aload_n hx hb dX5_begins_10 rfl (lv_at hl 0 rfl) ?_
  refine lv_iconst (v := (-1 : Int32)) hx hb dX5_begins_11 (by decide) ?_
  obtain ⟨S3, eS3, hF⟩ := nm_some hF
  refine fp_X5_9 hx hb hown hts hE hs 0 rfl (ws' := WM G a S3) (Nat.le_of_ble_eq_true rfl) (by subst eS3; rfl) dX5_begins_12 (fun H locs hs => ?_)
  exact sx_vret hx hb hr hlk hQ (congrArg (fun z => WM G a z) (Option.some.inj hF)) hs dX5_begins_15
set_option maxHeartbeats 4000000 in
set_option maxRecDepth 100000 in
theorem c_X5_refuse (G : GT) (l : Launch) (a : Nat → Nat) (S : MS) (x1 : Int32) (x2 : Int32) (r : Int32 × MS) (hF : F_X5_refuse S x1 x2 = some r) : MT G l yX5_refuse cX5_refuse 3 (some .boolean) 0 0 [.ref (a 0), .int x1, .int x2] (WM G a S) (some (.int r.1)) (WM G a r.2) := by
  refine MT.of (by decide) (Nat.le_of_ble_eq_true rfl) ?_
  intro p e s m args below meth c A ls hx hb hr hml hown hts hlk hE hA hs hl Q hQ
  have hl : lv_has ls 3 [(0, .ref (a 0)), (1, .int x1), (2, .int x2)] := hl
  have hJ16_n : ∀ (S : MS) (H : Heap) (locs : List Loc) (ls : Array Slot), J_X5_refuse_16 S = some r → SI G A s H locs (WM G a S) → lv_has ls 3 [(0, .ref (a 0))] → W p l e (RM 0 0) s m args below meth c H locs 0 0 Q (F0 m 16 ls []) := by
    intro S H locs ls hF hs hl
    unfold J_X5_refuse_16 at hF
    refine lv_aload_n hx hb dX5_refuse_16 rfl (lv_at hl 0 rfl) ?_
    refine fg_X5_55 hx hb hown hts hE hs 0 rfl (v := .int (m_trouble S)) rfl dX5_refuse_17 ?_
    refine lv_if_eq (tgt := 27) hx hb dX5_refuse_20 (by decide) (fun hc => ?_) (fun hc => ?_)
    · have hF := (if_pos hc).symm.trans hF
      refine lv_iconst (v := (0 : Int32)) hx hb dX5_refuse_27 (by decide) ?_
      exact sx_zret hx hb hr hlk hQ (Or.inl rfl) (congrArg Prod.fst (Option.some.inj hF)) (congrArg (fun z => WM G a z) (congrArg Prod.snd (Option.some.inj hF))) hs dX5_refuse_28
    · have hF := (if_neg hc).symm.trans hF
      refine lv_iconst (v := (1 : Int32)) hx hb dX5_refuse_23 (by decide) ?_
      refine lv_goto (tgt := 28) hx hb dX5_refuse_24 (by decide) ?_
      exact sx_zret hx hb hr hlk hQ (Or.inr rfl) (congrArg Prod.fst (Option.some.inj hF)) (congrArg (fun z => WM G a z) (congrArg Prod.snd (Option.some.inj hF))) hs dX5_refuse_28
  unfold F_X5_refuse at hF
  refine lv_aload_n hx hb dX5_refuse_0 rfl (lv_at hl 0 rfl) ?_
  refine fg_X5_55 hx hb hown hts hE hs 0 rfl (v := .int (m_trouble S)) rfl dX5_refuse_1 ?_
  refine lv_if_ne (tgt := 16) hx hb dX5_refuse_4 (by decide) (fun hc => ?_) (fun hc => ?_)
  · have hF := (if_neg hc).symm.trans hF
    exact hJ16_n S _ _ _ hF hs (lv_sub hl [0] rfl)
  · have hF := (if_pos hc).symm.trans hF
    refine lv_iload_n hx hb dX5_refuse_7 rfl (lv_at hl 1 rfl) ?_
    refine lv_if_eq (tgt := 16) hx hb dX5_refuse_8 (by decide) (fun hc => ?_) (fun hc => ?_)
    · have hF := (if_pos hc).symm.trans hF
      exact hJ16_n S _ _ _ hF hs (lv_sub hl [0] rfl)
    · have hF := (if_neg hc).symm.trans hF
      refine lv_aload_n hx hb dX5_refuse_11 rfl (lv_at hl 0 rfl) ?_
      refine lv_iload_n hx hb dX5_refuse_12 rfl (lv_at hl 2 rfl) ?_
      obtain ⟨S1, eS1, hF⟩ := nm_some hF
      refine fp_X5_55 hx hb hown hts hE hs 0 rfl (ws' := WM G a S1) (Nat.le_of_ble_eq_true rfl) (by subst eS1; rfl) dX5_refuse_13 (fun H locs hs => ?_)
      exact hJ16_n S1 _ _ _ hF hs (lv_sub hl [0] rfl)
set_option maxHeartbeats 4000000 in
set_option maxRecDepth 100000 in
theorem c_X5_feed (G : GT) (l : Launch) (a : Nat → Nat) (S : MS) (x1 : Int32) (x2 : Int32) (x3 : Int32) (x4 : Int32) (x5 : Int32) (r : Int32 × MS) (hF : F_X5_feed S x1 x2 x3 x4 x5 = some r) : MT G l yX5_feed cX5_feed 8 (some .int) 0 0 [.ref (a 0), .int x1, .int x2, .int x3, .int x4, .int x5] (WM G a S) (some (.int r.1)) (WM G a r.2) := by
  refine MT.of (by decide) (Nat.le_of_ble_eq_true rfl) ?_
  intro p e s m args below meth c A ls hx hb hr hml hown hts hlk hE hA hs hl Q hQ
  have hl : lv_has ls 8 [(0, .ref (a 0)), (1, .int x1), (2, .int x2), (3, .int x3), (4, .int x4), (5, .int x5)] := hl
  have hJ76_23 : ∀ (x1 : Int32) (x2 : Int32) (x3 : Int32) (x4 : Int32) (x5 : Int32) (k : MS → Option (Int32 × MS)) (rc : MS → Int32 → Option (Int32 × MS)) (hk : ∀ (S : MS) (H : Heap) (locs : List Loc) (ls : Array Slot), k S = some r → SI G A s H locs (WM G a S) → lv_has ls 8 [(0, .ref (a 0))] → W p l e (RM 0 0) s m args below meth c H locs 0 0 Q (F0 m 113 ls [])) (hrec : ∀ (S : MS) (x6 : Int32) (H : Heap) (locs : List Loc) (ls : Array Slot), rc S x6 = some r → SI G A s H locs (WM G a S) → lv_has ls 8 [(0, .ref (a 0)), (1, .int x1), (2, .int x2), (3, .int x3), (4, .int x4), (5, .int x5), (6, .int x6)] → W p l e (RM 0 0) s m args below meth c H locs 0 0 Q (F0 m 23 ls [])) (S : MS) (x6 : Int32) (y0 : Int32) (H : Heap) (locs : List Loc) (ls : Array Slot), J_X5_feed_76 k rc S x1 x2 x3 x4 x5 x6 y0 = some r → SI G A s H locs (WM G a S) → lv_has ls 8 [(0, .ref (a 0)), (1, .int x1), (2, .int x2), (3, .int x3), (4, .int x4), (5, .int x5), (6, .int x6)] → W p l e (RM 0 0) s m args below meth c H locs 0 0 Q (F0 m 76 ls [.int y0]) := by
    intro x1 x2 x3 x4 x5 k rc hk hrec S x6 y0 H locs ls hF hs hl
    unfold J_X5_feed_76 at hF
    refine lv_istore (lv' := [(7, .int y0), (0, .ref (a 0)), (1, .int x1), (2, .int x2), (3, .int x3), (4, .int x4), (5, .int x5), (6, .int x6)]) hx hb dX5_feed_76 hl (by decide) rfl (fun ls hl => ?_)
    refine lv_aload_n hx hb dX5_feed_78 rfl (lv_at hl 1 rfl) ?_
    refine fg_X5_40 hx hb hown hts hE hs 0 rfl (v := .ref (a 9)) rfl dX5_feed_79 ?_
    refine lv_aload_n hx hb dX5_feed_82 rfl (lv_at hl 1 rfl) ?_
    refine fg_X5_58 hx hb hown hts hE hs 0 rfl (v := .int (m_taped S)) rfl dX5_feed_83 ?_
    refine lv_iload hx hb dX5_feed_86 (lv_at hl 7 rfl) ?_
    refine lv_iadd hx hb dX5_feed_88 ?_
    refine lv_iload hx hb dX5_feed_89 (lv_at hl 0 rfl) ?_
    refine lv_bipush (v := (24 : Int32)) hx hb dX5_feed_91 (by decide) ?_
    refine lv_bipush (v := (8 : Int32)) hx hb dX5_feed_93 (by decide) ?_
    refine lv_iload hx hb dX5_feed_95 (lv_at hl 7 rfl) ?_
    refine lv_iconst (v := (4 : Int32)) hx hb dX5_feed_97 (by decide) ?_
    obtain ⟨v2, hv2, hF⟩ := bd hF
    refine sx_irem hx hb hv2 dX5_feed_98 ?_
    refine lv_imul hx hb dX5_feed_99 ?_
    refine lv_isub hx hb dX5_feed_100 ?_
    refine lv_ishr hx hb dX5_feed_101 ?_
    refine lv_sipush (v := (255 : Int32)) hx hb dX5_feed_102 (by decide) ?_
    refine lv_iand hx hb dX5_feed_105 ?_
    obtain ⟨f3, hf3, hF⟩ := bd hF
    obtain ⟨S4, eS4, hF⟩ := nm_some hF
    refine sx_iast hx hb hE hs 9 (f := m_tape S) rfl hf3 (ws' := WM G a S4) (by subst eS4; rfl) dX5_feed_106 (fun H locs hs => ?_)
    obtain ⟨v5, ev5, hF⟩ := nm_some hF
    refine lv_iinc (v := v5) (lv' := [(6, .int v5), (7, .int y0), (0, .ref (a 0)), (1, .int x1), (2, .int x2), (3, .int x3), (4, .int x4), (5, .int x5)]) hx hb dX5_feed_107 hl (k := 7) rfl (by rw [ev5]; rfl) (by decide) rfl (fun ls hl => ?_)
    refine lv_goto (tgt := 23) hx hb dX5_feed_110 (by decide) ?_
    exact hrec S4 v5 _ _ _ hF hs (lv_sub hl [2, 3, 4, 5, 6, 7, 0] rfl)
  have hL23 : ∀ (x1 : Int32) (x2 : Int32) (x3 : Int32) (x4 : Int32) (x5 : Int32) (k : MS → Option (Int32 × MS)) (hk : ∀ (S : MS) (H : Heap) (locs : List Loc) (ls : Array Slot), k S = some r → SI G A s H locs (WM G a S) → lv_has ls 8 [(0, .ref (a 0))] → W p l e (RM 0 0) s m args below meth c H locs 0 0 Q (F0 m 113 ls [])) (fu : Nat) (S : MS) (x6 : Int32) (H : Heap) (locs : List Loc) (ls : Array Slot), lo2 (B_X5_feed_23 x1 x2 x3 x4 x5 k) fu S x6 = some r → SI G A s H locs (WM G a S) → lv_has ls 8 [(0, .ref (a 0)), (1, .int x1), (2, .int x2), (3, .int x3), (4, .int x4), (5, .int x5), (6, .int x6)] → W p l e (RM 0 0) s m args below meth c H locs 0 0 Q (F0 m 23 ls []) := by
    intro x1 x2 x3 x4 x5 k hk fu
    induction fu with
    | zero =>
      intro S x6 H locs ls hF hs hl
      exact nomatch (show (none : Option (Int32 × MS)) = some r from hF)
    | succ fu hrec =>
      intro S x6 H locs ls hF hs hl
      have hF : (B_X5_feed_23 x1 x2 x3 x4 x5 k) (lo2 (B_X5_feed_23 x1 x2 x3 x4 x5 k) fu) S x6 = some r := hF
      unfold B_X5_feed_23 at hF
      refine lv_iload hx hb dX5_feed_23 (lv_at hl 6 rfl) ?_
      refine lv_bipush (v := (20 : Int32)) hx hb dX5_feed_25 (by decide) ?_
      refine lv_icmp_ge (tgt := 113) hx hb dX5_feed_27 (by decide) (fun hc => ?_) (fun hc => ?_)
      · have hF := (if_pos hc).symm.trans hF
        exact hk S _ _ _ hF hs (lv_sub hl [0] rfl)
      · have hF := (if_neg hc).symm.trans hF
        refine lv_iload hx hb dX5_feed_30 (lv_at hl 6 rfl) ?_
        refine lv_iconst (v := (4 : Int32)) hx hb dX5_feed_32 (by decide) ?_
        refine lv_icmp_ge (tgt := 40) hx hb dX5_feed_33 (by decide) (fun hc => ?_) (fun hc => ?_)
        · have hF := (if_pos hc).symm.trans hF
          refine lv_iload hx hb dX5_feed_40 (lv_at hl 6 rfl) ?_
          refine lv_bipush (v := (8 : Int32)) hx hb dX5_feed_42 (by decide) ?_
          refine lv_icmp_ge (tgt := 51) hx hb dX5_feed_44 (by decide) (fun hc => ?_) (fun hc => ?_)
          · have hF := (if_pos hc).symm.trans hF
            refine lv_iload hx hb dX5_feed_51 (lv_at hl 6 rfl) ?_
            refine lv_bipush (v := (12 : Int32)) hx hb dX5_feed_53 (by decide) ?_
            refine lv_icmp_ge (tgt := 62) hx hb dX5_feed_55 (by decide) (fun hc => ?_) (fun hc => ?_)
            · have hF := (if_pos hc).symm.trans hF
              refine lv_iload hx hb dX5_feed_62 (lv_at hl 6 rfl) ?_
              refine lv_bipush (v := (16 : Int32)) hx hb dX5_feed_64 (by decide) ?_
              refine lv_icmp_ge (tgt := 74) hx hb dX5_feed_66 (by decide) (fun hc => ?_) (fun hc => ?_)
              · have hF := (if_pos hc).symm.trans hF
                refine lv_iload hx hb dX5_feed_74 (lv_at hl 5 rfl) ?_
                exact hJ76_23 x1 x2 x3 x4 x5 _ _ hk hrec S x6 x5 _ _ _ hF hs (lv_sub hl [0, 1, 2, 3, 4, 5, 6] rfl)
              · have hF := (if_neg hc).symm.trans hF
                refine lv_iload hx hb dX5_feed_69 (lv_at hl 4 rfl) ?_
                refine lv_goto (tgt := 76) hx hb dX5_feed_71 (by decide) ?_
                exact hJ76_23 x1 x2 x3 x4 x5 _ _ hk hrec S x6 x4 _ _ _ hF hs (lv_sub hl [0, 1, 2, 3, 4, 5, 6] rfl)
            · have hF := (if_neg hc).symm.trans hF
              refine lv_iload_n hx hb dX5_feed_58 rfl (lv_at hl 3 rfl) ?_
              refine lv_goto (tgt := 76) hx hb dX5_feed_59 (by decide) ?_
              exact hJ76_23 x1 x2 x3 x4 x5 _ _ hk hrec S x6 x3 _ _ _ hF hs (lv_sub hl [0, 1, 2, 3, 4, 5, 6] rfl)
          · have hF := (if_neg hc).symm.trans hF
            refine lv_iload_n hx hb dX5_feed_47 rfl (lv_at hl 2 rfl) ?_
            refine lv_goto (tgt := 76) hx hb dX5_feed_48 (by decide) ?_
            exact hJ76_23 x1 x2 x3 x4 x5 _ _ hk hrec S x6 x2 _ _ _ hF hs (lv_sub hl [0, 1, 2, 3, 4, 5, 6] rfl)
        · have hF := (if_neg hc).symm.trans hF
          refine lv_iload_n hx hb dX5_feed_36 rfl (lv_at hl 1 rfl) ?_
          refine lv_goto (tgt := 76) hx hb dX5_feed_37 (by decide) ?_
          exact hJ76_23 x1 x2 x3 x4 x5 _ _ hk hrec S x6 x1 _ _ _ hF hs (lv_sub hl [0, 1, 2, 3, 4, 5, 6] rfl)
  unfold F_X5_feed at hF
  refine lv_aload_n hx hb dX5_feed_0 rfl (lv_at hl 0 rfl) ?_
  refine lv_iconst (v := (0 : Int32)) hx hb dX5_feed_1 (by decide) ?_
  obtain ⟨S1, eS1, hF⟩ := nm_some hF
  refine fp_X5_52 hx hb hown hts hE hs 0 rfl (ws' := WM G a S1) (Nat.le_of_ble_eq_true rfl) (by subst eS1; rfl) dX5_feed_2 (fun H locs hs => ?_)
  refine lv_aload_n hx hb dX5_feed_5 rfl (lv_at hl 0 rfl) ?_
  refine fg_X5_58 hx hb hown hts hE hs 0 rfl (v := .int (m_taped S1)) rfl dX5_feed_6 ?_
  refine lv_bipush (v := (20 : Int32)) hx hb dX5_feed_9 (by decide) ?_
  refine lv_iadd hx hb dX5_feed_11 ?_
  refine lv_sipush (v := (600 : Int32)) hx hb dX5_feed_12 (by decide) ?_
  refine lv_icmp_le (tgt := 20) hx hb dX5_feed_15 (by decide) (fun hc => ?_) (fun hc => ?_)
  · have hF := (if_pos hc).symm.trans hF
    refine lv_iconst (v := (0 : Int32)) hx hb dX5_feed_20 (by decide) ?_
    refine lv_istore (lv' := [(6, .int (0 : Int32)), (0, .ref (a 0)), (1, .int x1), (2, .int x2), (3, .int x3), (4, .int x4), (5, .int x5)]) hx hb dX5_feed_21 hl (by decide) rfl (fun ls hl => ?_)
    refine hL23 x1 x2 x3 x4 x5 _ (fun S6 H locs ls hF hs hl => ?_) FU S1 (0 : Int32) _ _ _ hF hs (lv_sub hl [1, 2, 3, 4, 5, 6, 0] rfl)
    refine lv_aload_n hx hb dX5_feed_113 rfl (lv_at hl 0 rfl) ?_
    refine lv_dup hx hb dX5_feed_114 rfl ?_
    refine fg_X5_58 hx hb hown hts hE hs 0 rfl (v := .int (m_taped S6)) rfl dX5_feed_115 ?_
    refine lv_bipush (v := (20 : Int32)) hx hb dX5_feed_118 (by decide) ?_
    refine lv_iadd hx hb dX5_feed_120 ?_
    obtain ⟨S7, eS7, hF⟩ := nm_some hF
    refine fp_X5_58 hx hb hown hts hE hs 0 rfl (ws' := WM G a S7) (Nat.le_of_ble_eq_true rfl) (by subst eS7; rfl) dX5_feed_121 (fun H locs hs => ?_)
    refine lv_aload_n hx hb dX5_feed_124 rfl (lv_at hl 0 rfl) ?_
    refine fg_X5_58 hx hb hown hts hE hs 0 rfl (v := .int (m_taped S7)) rfl dX5_feed_125 ?_
    exact sx_iret hx hb hr hlk hQ (congrArg Prod.fst (Option.some.inj hF)) (congrArg (fun z => WM G a z) (congrArg Prod.snd (Option.some.inj hF))) hs dX5_feed_128
  · have hF := (if_neg hc).symm.trans hF
    refine lv_iconst (v := (-1 : Int32)) hx hb dX5_feed_18 (by decide) ?_
    exact sx_iret hx hb hr hlk hQ (congrArg Prod.fst (Option.some.inj hF)) (congrArg (fun z => WM G a z) (congrArg Prod.snd (Option.some.inj hF))) hs dX5_feed_19
set_option maxHeartbeats 4000000 in
set_option maxRecDepth 100000 in
theorem c_X5_size (G : GT) (l : Launch) (a : Nat → Nat) (S : MS) (r : Int32 × MS) (hF : F_X5_size S = some r) : MT G l yX5_size cX5_size 1 (some .int) 0 0 [.ref (a 0)] (WM G a S) (some (.int r.1)) (WM G a r.2) := by
  refine MT.of (by decide) (Nat.le_of_ble_eq_true rfl) ?_
  intro p e s m args below meth c A ls hx hb hr hml hown hts hlk hE hA hs hl Q hQ
  have hl : lv_has ls 1 [(0, .ref (a 0))] := hl
  unfold F_X5_size at hF
  refine lv_aload_n hx hb dX5_size_0 rfl (lv_at hl 0 rfl) ?_
  refine lv_iconst (v := (0 : Int32)) hx hb dX5_size_1 (by decide) ?_
  obtain ⟨S1, eS1, hF⟩ := nm_some hF
  refine fp_X5_52 hx hb hown hts hE hs 0 rfl (ws' := WM G a S1) (Nat.le_of_ble_eq_true rfl) (by subst eS1; rfl) dX5_size_2 (fun H locs hs => ?_)
  refine lv_aload_n hx hb dX5_size_5 rfl (lv_at hl 0 rfl) ?_
  refine fg_X5_58 hx hb hown hts hE hs 0 rfl (v := .int (m_taped S1)) rfl dX5_size_6 ?_
  exact sx_iret hx hb hr hlk hQ (congrArg Prod.fst (Option.some.inj hF)) (congrArg (fun z => WM G a z) (congrArg Prod.snd (Option.some.inj hF))) hs dX5_size_9
set_option maxHeartbeats 4000000 in
set_option maxRecDepth 100000 in
theorem c_X5_seen (G : GT) (l : Launch) (a : Nat → Nat) (S : MS) (x1 : Int32) (r : Int32) (hF : F_X5_seen S x1 = some r) : MT G l yX5_seen cX5_seen 2 (some .int) 0 0 [.ref (a 0), .int x1] (WM G a S) (some (.int r)) (WM G a S) := by
  refine MT.of (by decide) (Nat.le_of_ble_eq_true rfl) ?_
  intro p e s m args below meth c A ls hx hb hr hml hown hts hlk hE hA hs hl Q hQ
  have hl : lv_has ls 2 [(0, .ref (a 0)), (1, .int x1)] := hl
  unfold F_X5_seen at hF
  refine lv_iload_n hx hb dX5_seen_0 rfl (lv_at hl 1 rfl) ?_
  refine lv_aload_n hx hb dX5_seen_1 rfl (lv_at hl 0 rfl) ?_
  refine fg_X5_61 hx hb hown hts hE hs 0 rfl (v := .int (m_length S)) rfl dX5_seen_2 ?_
  refine lv_icmp_ge (tgt := 17) hx hb dX5_seen_5 (by decide) (fun hc => ?_) (fun hc => ?_)
  · have hF := (if_pos hc).symm.trans hF
    refine lv_iconst (v := (-1 : Int32)) hx hb dX5_seen_17 (by decide) ?_
    exact sx_iret hx hb hr hlk hQ (Option.some.inj hF) rfl hs dX5_seen_18
  · have hF := (if_neg hc).symm.trans hF
    refine lv_aload_n hx hb dX5_seen_8 rfl (lv_at hl 0 rfl) ?_
    refine fg_X5_40 hx hb hown hts hE hs 0 rfl (v := .ref (a 9)) rfl dX5_seen_9 ?_
    refine lv_iload_n hx hb dX5_seen_12 rfl (lv_at hl 1 rfl) ?_
    obtain ⟨v1, hv1, hF⟩ := bd hF
    refine sx_iald hx hb hE hs 9 (f := m_tape S) rfl hv1 dX5_seen_13 ?_
    refine lv_goto (tgt := 18) hx hb dX5_seen_14 (by decide) ?_
    exact sx_iret hx hb hr hlk hQ (Option.some.inj hF) rfl hs dX5_seen_18
set_option maxHeartbeats 4000000 in
set_option maxRecDepth 100000 in
theorem c_X5_isLetter (G : GT) (l : Launch) (x0 : Int32) (r : Int32) (hF : F_X5_isLetter x0 = some r) : MT G l yX5_isLetter cX5_isLetter 1 (some .boolean) 0 0 [.int x0] (([] : va_W)) (some (.int r)) (([] : va_W)) := by
  refine MT.of (by decide) (Nat.le_of_ble_eq_true rfl) ?_
  intro p e s m args below meth c A ls hx hb hr hml hown hts hlk hE hA hs hl Q hQ
  have hl : lv_has ls 1 [(0, .int x0)] := hl
  unfold F_X5_isLetter at hF
  refine lv_iload_n hx hb dX5_isLetter_0 rfl (lv_at hl 0 rfl) ?_
  refine lv_bipush (v := (97 : Int32)) hx hb dX5_isLetter_1 (by decide) ?_
  refine lv_icmp_lt (tgt := 16) hx hb dX5_isLetter_3 (by decide) (fun hc => ?_) (fun hc => ?_)
  · have hF := (if_pos hc).symm.trans hF
    refine lv_iconst (v := (0 : Int32)) hx hb dX5_isLetter_16 (by decide) ?_
    exact sx_zret hx hb hr hlk hQ (Or.inl rfl) (Option.some.inj hF) rfl hs dX5_isLetter_17
  · have hF := (if_neg hc).symm.trans hF
    refine lv_iload_n hx hb dX5_isLetter_6 rfl (lv_at hl 0 rfl) ?_
    refine lv_bipush (v := (122 : Int32)) hx hb dX5_isLetter_7 (by decide) ?_
    refine lv_icmp_gt (tgt := 16) hx hb dX5_isLetter_9 (by decide) (fun hc => ?_) (fun hc => ?_)
    · have hF := (if_pos hc).symm.trans hF
      refine lv_iconst (v := (0 : Int32)) hx hb dX5_isLetter_16 (by decide) ?_
      exact sx_zret hx hb hr hlk hQ (Or.inl rfl) (Option.some.inj hF) rfl hs dX5_isLetter_17
    · have hF := (if_neg hc).symm.trans hF
      refine lv_iconst (v := (1 : Int32)) hx hb dX5_isLetter_12 (by decide) ?_
      refine lv_goto (tgt := 17) hx hb dX5_isLetter_13 (by decide) ?_
      exact sx_zret hx hb hr hlk hQ (Or.inr rfl) (Option.some.inj hF) rfl hs dX5_isLetter_17
set_option maxHeartbeats 4000000 in
set_option maxRecDepth 100000 in
theorem c_X5_isDigit (G : GT) (l : Launch) (x0 : Int32) (r : Int32) (hF : F_X5_isDigit x0 = some r) : MT G l yX5_isDigit cX5_isDigit 1 (some .boolean) 0 0 [.int x0] (([] : va_W)) (some (.int r)) (([] : va_W)) := by
  refine MT.of (by decide) (Nat.le_of_ble_eq_true rfl) ?_
  intro p e s m args below meth c A ls hx hb hr hml hown hts hlk hE hA hs hl Q hQ
  have hl : lv_has ls 1 [(0, .int x0)] := hl
  unfold F_X5_isDigit at hF
  refine lv_iload_n hx hb dX5_isDigit_0 rfl (lv_at hl 0 rfl) ?_
  refine lv_bipush (v := (48 : Int32)) hx hb dX5_isDigit_1 (by decide) ?_
  refine lv_icmp_lt (tgt := 16) hx hb dX5_isDigit_3 (by decide) (fun hc => ?_) (fun hc => ?_)
  · have hF := (if_pos hc).symm.trans hF
    refine lv_iconst (v := (0 : Int32)) hx hb dX5_isDigit_16 (by decide) ?_
    exact sx_zret hx hb hr hlk hQ (Or.inl rfl) (Option.some.inj hF) rfl hs dX5_isDigit_17
  · have hF := (if_neg hc).symm.trans hF
    refine lv_iload_n hx hb dX5_isDigit_6 rfl (lv_at hl 0 rfl) ?_
    refine lv_bipush (v := (57 : Int32)) hx hb dX5_isDigit_7 (by decide) ?_
    refine lv_icmp_gt (tgt := 16) hx hb dX5_isDigit_9 (by decide) (fun hc => ?_) (fun hc => ?_)
    · have hF := (if_pos hc).symm.trans hF
      refine lv_iconst (v := (0 : Int32)) hx hb dX5_isDigit_16 (by decide) ?_
      exact sx_zret hx hb hr hlk hQ (Or.inl rfl) (Option.some.inj hF) rfl hs dX5_isDigit_17
    · have hF := (if_neg hc).symm.trans hF
      refine lv_iconst (v := (1 : Int32)) hx hb dX5_isDigit_12 (by decide) ?_
      refine lv_goto (tgt := 17) hx hb dX5_isDigit_13 (by decide) ?_
      exact sx_zret hx hb hr hlk hQ (Or.inr rfl) (Option.some.inj hF) rfl hs dX5_isDigit_17
set_option maxHeartbeats 4000000 in
set_option maxRecDepth 100000 in
theorem c_X5_token (G : GT) (l : Launch) (a : Nat → Nat) (S : MS) (r : MS) (hF : F_X5_token S = some r) : MT G l yX5_token cX5_token 2 (none) 1 21 [.ref (a 0)] (WM G a S) none (WM G a r) := by
  refine MT.of (by decide) (Nat.le_of_ble_eq_true rfl) ?_
  intro p e s m args below meth c A ls hx hb hr hml hown hts hlk hE hA hs hl Q hQ
  have hl : lv_has ls 2 [(0, .ref (a 0))] := hl
  have hL0 : ∀ (k : MS → Option (MS)) (hk : ∀ (S : MS) (H : Heap) (locs : List Loc) (ls : Array Slot), k S = some r → SI G A s H locs (WM G a S) → lv_has ls 2 [(0, .ref (a 0))] → W p l e (RM 1 21) s m args below meth c H locs 0 0 Q (F0 m 26 ls [])) (fu : Nat) (S : MS) (H : Heap) (locs : List Loc) (ls : Array Slot), lo1 (B_X5_token_0 k) fu S = some r → SI G A s H locs (WM G a S) → lv_has ls 2 [(0, .ref (a 0))] → W p l e (RM 1 21) s m args below meth c H locs 0 0 Q (F0 m 0 ls []) := by
    intro k hk fu
    induction fu with
    | zero =>
      intro S H locs ls hF hs hl
      exact nomatch (show (none : Option (MS)) = some r from hF)
    | succ fu hrec =>
      intro S H locs ls hF hs hl
      have hF : (B_X5_token_0 k) (lo1 (B_X5_token_0 k) fu) S = some r := hF
      unfold B_X5_token_0 at hF
      refine lv_aload_n hx hb dX5_token_0 rfl (lv_at hl 0 rfl) ?_
      refine lv_aload_n hx hb dX5_token_1 rfl (lv_at hl 0 rfl) ?_
      refine fg_X5_64 hx hb hown hts hE hs 0 rfl (v := .int (m_next S)) rfl dX5_token_2 ?_
      obtain ⟨q1, hq1, hF⟩ := bd hF
      refine sx_V (As := [.int (m_next S)]) (rest := []) (st1 := [.int q1]) (c_X5_seen G l a S (m_next S) q1 hq1) v_X5_67 ⟨(Nat.le_of_ble_eq_true rfl), (Nat.le_of_ble_eq_true rfl)⟩ hx hb hml hown hts hE hA hs ⟨Nat.le_refl 0, Nat.le_refl 0⟩ 0 rfl rfl rfl rfl rfl hl.1 (Nat.le_of_ble_eq_true rfl) dX5_token_5 (pmW _) (ws' := WM G a S) (pmW _) (fun H locs hs => ?_)
      refine lv_bipush (v := (32 : Int32)) hx hb dX5_token_8 (by decide) ?_
      refine lv_icmp_ne (tgt := 26) hx hb dX5_token_10 (by decide) (fun hc => ?_) (fun hc => ?_)
      · have hF := (if_neg hc).symm.trans hF
        exact hk S _ _ _ hF hs (lv_sub hl [0] rfl)
      · have hF := (if_pos hc).symm.trans hF
        refine lv_aload_n hx hb dX5_token_13 rfl (lv_at hl 0 rfl) ?_
        refine lv_dup hx hb dX5_token_14 rfl ?_
        refine fg_X5_64 hx hb hown hts hE hs 0 rfl (v := .int (m_next S)) rfl dX5_token_15 ?_
        refine lv_iconst (v := (1 : Int32)) hx hb dX5_token_18 (by decide) ?_
        refine lv_iadd hx hb dX5_token_19 ?_
        obtain ⟨S2, eS2, hF⟩ := nm_some hF
        refine fp_X5_64 hx hb hown hts hE hs 0 rfl (ws' := WM G a S2) (Nat.le_of_ble_eq_true rfl) (by subst eS2; rfl) dX5_token_20 (fun H locs hs => ?_)
        refine lv_goto (tgt := 0) hx hb dX5_token_23 (by decide) ?_
        exact hrec S2 _ _ _ hF hs (lv_sub hl [0] rfl)
  have hJ288_n : ∀ (S : MS) (y0 : Int32) (H : Heap) (locs : List Loc) (ls : Array Slot), J_X5_token_288 S y0 = some r → SI G A s H locs (WM G a S) → lv_has ls 2 [(0, .ref (a 0))] → W p l e (RM 1 21) s m args below meth c H locs 0 0 Q (F0 m 288 ls [.int y0, .ref (a 0)]) := by
    intro S y0 H locs ls hF hs hl
    unfold J_X5_token_288 at hF
    obtain ⟨S9, eS9, hF⟩ := nm_some hF
    refine fp_X5_77 hx hb hown hts hE hs 0 rfl (ws' := WM G a S9) (Nat.le_of_ble_eq_true rfl) (by subst eS9; rfl) dX5_token_288 (fun H locs hs => ?_)
    refine lv_aload_n hx hb dX5_token_291 rfl (lv_at hl 0 rfl) ?_
    refine lv_dup hx hb dX5_token_292 rfl ?_
    refine fg_X5_64 hx hb hown hts hE hs 0 rfl (v := .int (m_next S9)) rfl dX5_token_293 ?_
    refine lv_iconst (v := (1 : Int32)) hx hb dX5_token_296 (by decide) ?_
    refine lv_iadd hx hb dX5_token_297 ?_
    obtain ⟨S10, eS10, hF⟩ := nm_some hF
    refine fp_X5_64 hx hb hown hts hE hs 0 rfl (ws' := WM G a S10) (Nat.le_of_ble_eq_true rfl) (by subst eS10; rfl) dX5_token_298 (fun H locs hs => ?_)
    exact sx_vret hx hb hr hlk hQ (congrArg (fun z => WM G a z) (Option.some.inj hF)) hs dX5_token_301
  have hJ229_182 : ∀ (k : MS → Option (MS)) (rc : MS → Option (MS)) (hk : ∀ (S : MS) (H : Heap) (locs : List Loc) (ls : Array Slot), k S = some r → SI G A s H locs (WM G a S) → lv_has ls 2 [(0, .ref (a 0))] → W p l e (RM 1 21) s m args below meth c H locs 0 0 Q (F0 m 255 ls [])) (hrec : ∀ (S : MS) (H : Heap) (locs : List Loc) (ls : Array Slot), rc S = some r → SI G A s H locs (WM G a S) → lv_has ls 2 [(0, .ref (a 0))] → W p l e (RM 1 21) s m args below meth c H locs 0 0 Q (F0 m 182 ls [])) (S : MS) (y0 : Int32) (H : Heap) (locs : List Loc) (ls : Array Slot), J_X5_token_229 k rc S y0 = some r → SI G A s H locs (WM G a S) → lv_has ls 2 [(0, .ref (a 0))] → W p l e (RM 1 21) s m args below meth c H locs 0 0 Q (F0 m 229 ls [.int y0, .ref (a 0)]) := by
    intro k rc hk hrec S y0 H locs ls hF hs hl
    unfold J_X5_token_229 at hF
    obtain ⟨S14, eS14, hF⟩ := nm_some hF
    refine fp_X5_95 hx hb hown hts hE hs 0 rfl (ws' := WM G a S14) (Nat.le_of_ble_eq_true rfl) (by subst eS14; rfl) dX5_token_229 (fun H locs hs => ?_)
    refine lv_aload_n hx hb dX5_token_232 rfl (lv_at hl 0 rfl) ?_
    refine lv_dup hx hb dX5_token_233 rfl ?_
    refine fg_X5_64 hx hb hown hts hE hs 0 rfl (v := .int (m_next S14)) rfl dX5_token_234 ?_
    refine lv_iconst (v := (1 : Int32)) hx hb dX5_token_237 (by decide) ?_
    refine lv_iadd hx hb dX5_token_238 ?_
    obtain ⟨S15, eS15, hF⟩ := nm_some hF
    refine fp_X5_64 hx hb hown hts hE hs 0 rfl (ws' := WM G a S15) (Nat.le_of_ble_eq_true rfl) (by subst eS15; rfl) dX5_token_239 (fun H locs hs => ?_)
    refine lv_aload_n hx hb dX5_token_242 rfl (lv_at hl 0 rfl) ?_
    refine lv_dup hx hb dX5_token_243 rfl ?_
    refine fg_X5_74 hx hb hown hts hE hs 0 rfl (v := .int (m_many S15)) rfl dX5_token_244 ?_
    refine lv_iconst (v := (1 : Int32)) hx hb dX5_token_247 (by decide) ?_
    refine lv_iadd hx hb dX5_token_248 ?_
    obtain ⟨S16, eS16, hF⟩ := nm_some hF
    refine fp_X5_74 hx hb hown hts hE hs 0 rfl (ws' := WM G a S16) (Nat.le_of_ble_eq_true rfl) (by subst eS16; rfl) dX5_token_249 (fun H locs hs => ?_)
    refine lv_goto (tgt := 182) hx hb dX5_token_252 (by decide) ?_
    exact hrec S16 _ _ _ hF hs (lv_sub hl [0] rfl)
  have hL182 : ∀ (k : MS → Option (MS)) (hk : ∀ (S : MS) (H : Heap) (locs : List Loc) (ls : Array Slot), k S = some r → SI G A s H locs (WM G a S) → lv_has ls 2 [(0, .ref (a 0))] → W p l e (RM 1 21) s m args below meth c H locs 0 0 Q (F0 m 255 ls [])) (fu : Nat) (S : MS) (H : Heap) (locs : List Loc) (ls : Array Slot), lo1 (B_X5_token_182 k) fu S = some r → SI G A s H locs (WM G a S) → lv_has ls 2 [(0, .ref (a 0))] → W p l e (RM 1 21) s m args below meth c H locs 0 0 Q (F0 m 182 ls []) := by
    intro k hk fu
    induction fu with
    | zero =>
      intro S H locs ls hF hs hl
      exact nomatch (show (none : Option (MS)) = some r from hF)
    | succ fu hrec =>
      intro S H locs ls hF hs hl
      have hF : (B_X5_token_182 k) (lo1 (B_X5_token_182 k) fu) S = some r := hF
      unfold B_X5_token_182 at hF
      refine lv_aload_n hx hb dX5_token_182 rfl (lv_at hl 0 rfl) ?_
      refine lv_aload_n hx hb dX5_token_183 rfl (lv_at hl 0 rfl) ?_
      refine fg_X5_64 hx hb hown hts hE hs 0 rfl (v := .int (m_next S)) rfl dX5_token_184 ?_
      obtain ⟨q12, hq12, hF⟩ := bd hF
      refine sx_V (As := [.int (m_next S)]) (rest := []) (st1 := [.int q12]) (c_X5_seen G l a S (m_next S) q12 hq12) v_X5_67 ⟨(Nat.le_of_ble_eq_true rfl), (Nat.le_of_ble_eq_true rfl)⟩ hx hb hml hown hts hE hA hs ⟨Nat.le_refl 0, Nat.le_refl 0⟩ 0 rfl rfl rfl rfl rfl hl.1 (Nat.le_of_ble_eq_true rfl) dX5_token_187 (pmW _) (ws' := WM G a S) (pmW _) (fun H locs hs => ?_)
      obtain ⟨q13, hq13, hF⟩ := bd hF
      refine sx_S (As := [.int q12]) (rest := []) (st1 := [.int q13]) (c_X5_isDigit G l  q12 q13 hq13) v_X5_92 ⟨(Nat.le_of_ble_eq_true rfl), (Nat.le_of_ble_eq_true rfl)⟩ hx hb hml hown hts hE hA hs ⟨Nat.le_refl 0, Nat.le_refl 0⟩ rfl rfl rfl hl.1 (Nat.le_of_ble_eq_true rfl) dX5_token_190 (List.Perm.refl _) (ws' := WM G a S) (List.Perm.refl _) (fun H locs hs => ?_)
      refine lv_if_eq (tgt := 255) hx hb dX5_token_193 (by decide) (fun hc => ?_) (fun hc => ?_)
      · have hF := (if_pos hc).symm.trans hF
        exact hk S _ _ _ hF hs (lv_sub hl [0] rfl)
      · have hF := (if_neg hc).symm.trans hF
        refine lv_aload_n hx hb dX5_token_196 rfl (lv_at hl 0 rfl) ?_
        refine lv_aload_n hx hb dX5_token_197 rfl (lv_at hl 0 rfl) ?_
        refine fg_X5_74 hx hb hown hts hE hs 0 rfl (v := .int (m_many S)) rfl dX5_token_198 ?_
        refine lv_bipush (v := (7 : Int32)) hx hb dX5_token_201 (by decide) ?_
        refine lv_icmp_ge (tgt := 228) hx hb dX5_token_203 (by decide) (fun hc => ?_) (fun hc => ?_)
        · have hF := (if_pos hc).symm.trans hF
          refine lv_iconst (v := (0 : Int32)) hx hb dX5_token_228 (by decide) ?_
          exact hJ229_182 _ _ hk hrec S (0 : Int32) _ _ _ hF hs (lv_sub hl [0] rfl)
        · have hF := (if_neg hc).symm.trans hF
          refine lv_bipush (v := (10 : Int32)) hx hb dX5_token_206 (by decide) ?_
          refine lv_aload_n hx hb dX5_token_208 rfl (lv_at hl 0 rfl) ?_
          refine fg_X5_95 hx hb hown hts hE hs 0 rfl (v := .int (m_number S)) rfl dX5_token_209 ?_
          refine lv_imul hx hb dX5_token_212 ?_
          refine lv_aload_n hx hb dX5_token_213 rfl (lv_at hl 0 rfl) ?_
          refine lv_aload_n hx hb dX5_token_214 rfl (lv_at hl 0 rfl) ?_
          refine fg_X5_64 hx hb hown hts hE hs 0 rfl (v := .int (m_next S)) rfl dX5_token_215 ?_
          obtain ⟨q17, hq17, hF⟩ := bd hF
          refine sx_V (As := [.int (m_next S)]) (rest := [.int ((10 : Int32) * (m_number S)), .ref (a 0)]) (st1 := [.int q17, .int ((10 : Int32) * (m_number S)), .ref (a 0)]) (c_X5_seen G l a S (m_next S) q17 hq17) v_X5_67 ⟨(Nat.le_of_ble_eq_true rfl), (Nat.le_of_ble_eq_true rfl)⟩ hx hb hml hown hts hE hA hs ⟨Nat.le_refl 0, Nat.le_refl 0⟩ 0 rfl rfl rfl rfl rfl hl.1 (Nat.le_of_ble_eq_true rfl) dX5_token_218 (pmW _) (ws' := WM G a S) (pmW _) (fun H locs hs => ?_)
          refine lv_iadd hx hb dX5_token_221 ?_
          refine lv_bipush (v := (48 : Int32)) hx hb dX5_token_222 (by decide) ?_
          refine lv_isub hx hb dX5_token_224 ?_
          refine lv_goto (tgt := 229) hx hb dX5_token_225 (by decide) ?_
          exact hJ229_182 _ _ hk hrec S ((((10 : Int32) * (m_number S)) + q17) - (48 : Int32)) _ _ _ hF hs (lv_sub hl [0] rfl)
  have hJ270_n : ∀ (S : MS) (y0 : Int32) (H : Heap) (locs : List Loc) (ls : Array Slot), J_X5_token_270 S y0 = some r → SI G A s H locs (WM G a S) → lv_has ls 2 [] → W p l e (RM 1 21) s m args below meth c H locs 0 0 Q (F0 m 270 ls [.int y0, .ref (a 0)]) := by
    intro S y0 H locs ls hF hs hl
    unfold J_X5_token_270 at hF
    obtain ⟨S19, eS19, hF⟩ := nm_some hF
    refine fp_X5_77 hx hb hown hts hE hs 0 rfl (ws' := WM G a S19) (Nat.le_of_ble_eq_true rfl) (by subst eS19; rfl) dX5_token_270 (fun H locs hs => ?_)
    refine lv_goto (tgt := 301) hx hb dX5_token_273 (by decide) ?_
    exact sx_vret hx hb hr hlk hQ (congrArg (fun z => WM G a z) (Option.some.inj hF)) hs dX5_token_301
  have hJ123_73 : ∀ (k : MS → Option (MS)) (rc : MS → Option (MS)) (hk : ∀ (S : MS) (H : Heap) (locs : List Loc) (ls : Array Slot), k S = some r → SI G A s H locs (WM G a S) → lv_has ls 2 [(0, .ref (a 0))] → W p l e (RM 1 21) s m args below meth c H locs 0 0 Q (F0 m 149 ls [])) (hrec : ∀ (S : MS) (H : Heap) (locs : List Loc) (ls : Array Slot), rc S = some r → SI G A s H locs (WM G a S) → lv_has ls 2 [(0, .ref (a 0))] → W p l e (RM 1 21) s m args below meth c H locs 0 0 Q (F0 m 73 ls [])) (S : MS) (y0 : Int64) (H : Heap) (locs : List Loc) (ls : Array Slot), J_X5_token_123 k rc S y0 = some r → SI G A s H locs (WM G a S) → lv_has ls 2 [(0, .ref (a 0))] → W p l e (RM 1 21) s m args below meth c H locs 0 0 Q (F0 m 123 ls [.long y0, .ref (a 0)]) := by
    intro k rc hk hrec S y0 H locs ls hF hs hl
    unfold J_X5_token_123 at hF
    obtain ⟨S23, eS23, hF⟩ := nm_some hF
    refine fp_X5_84 hx hb hown hts hE hs 0 rfl (ws' := WM G a S23) (Nat.le_of_ble_eq_true rfl) (by subst eS23; rfl) dX5_token_123 (fun H locs hs => ?_)
    refine lv_aload_n hx hb dX5_token_126 rfl (lv_at hl 0 rfl) ?_
    refine lv_dup hx hb dX5_token_127 rfl ?_
    refine fg_X5_64 hx hb hown hts hE hs 0 rfl (v := .int (m_next S23)) rfl dX5_token_128 ?_
    refine lv_iconst (v := (1 : Int32)) hx hb dX5_token_131 (by decide) ?_
    refine lv_iadd hx hb dX5_token_132 ?_
    obtain ⟨S24, eS24, hF⟩ := nm_some hF
    refine fp_X5_64 hx hb hown hts hE hs 0 rfl (ws' := WM G a S24) (Nat.le_of_ble_eq_true rfl) (by subst eS24; rfl) dX5_token_133 (fun H locs hs => ?_)
    refine lv_aload_n hx hb dX5_token_136 rfl (lv_at hl 0 rfl) ?_
    refine lv_dup hx hb dX5_token_137 rfl ?_
    refine fg_X5_74 hx hb hown hts hE hs 0 rfl (v := .int (m_many S24)) rfl dX5_token_138 ?_
    refine lv_iconst (v := (1 : Int32)) hx hb dX5_token_141 (by decide) ?_
    refine lv_iadd hx hb dX5_token_142 ?_
    obtain ⟨S25, eS25, hF⟩ := nm_some hF
    refine fp_X5_74 hx hb hown hts hE hs 0 rfl (ws' := WM G a S25) (Nat.le_of_ble_eq_true rfl) (by subst eS25; rfl) dX5_token_143 (fun H locs hs => ?_)
    refine lv_goto (tgt := 73) hx hb dX5_token_146 (by decide) ?_
    exact hrec S25 _ _ _ hF hs (lv_sub hl [0] rfl)
  have hL73 : ∀ (k : MS → Option (MS)) (hk : ∀ (S : MS) (H : Heap) (locs : List Loc) (ls : Array Slot), k S = some r → SI G A s H locs (WM G a S) → lv_has ls 2 [(0, .ref (a 0))] → W p l e (RM 1 21) s m args below meth c H locs 0 0 Q (F0 m 149 ls [])) (fu : Nat) (S : MS) (H : Heap) (locs : List Loc) (ls : Array Slot), lo1 (B_X5_token_73 k) fu S = some r → SI G A s H locs (WM G a S) → lv_has ls 2 [(0, .ref (a 0))] → W p l e (RM 1 21) s m args below meth c H locs 0 0 Q (F0 m 73 ls []) := by
    intro k hk fu
    induction fu with
    | zero =>
      intro S H locs ls hF hs hl
      exact nomatch (show (none : Option (MS)) = some r from hF)
    | succ fu hrec =>
      intro S H locs ls hF hs hl
      have hF : (B_X5_token_73 k) (lo1 (B_X5_token_73 k) fu) S = some r := hF
      unfold B_X5_token_73 at hF
      refine lv_aload_n hx hb dX5_token_73 rfl (lv_at hl 0 rfl) ?_
      refine lv_aload_n hx hb dX5_token_74 rfl (lv_at hl 0 rfl) ?_
      refine fg_X5_64 hx hb hown hts hE hs 0 rfl (v := .int (m_next S)) rfl dX5_token_75 ?_
      obtain ⟨q21, hq21, hF⟩ := bd hF
      refine sx_V (As := [.int (m_next S)]) (rest := []) (st1 := [.int q21]) (c_X5_seen G l a S (m_next S) q21 hq21) v_X5_67 ⟨(Nat.le_of_ble_eq_true rfl), (Nat.le_of_ble_eq_true rfl)⟩ hx hb hml hown hts hE hA hs ⟨Nat.le_refl 0, Nat.le_refl 0⟩ 0 rfl rfl rfl rfl rfl hl.1 (Nat.le_of_ble_eq_true rfl) dX5_token_78 (pmW _) (ws' := WM G a S) (pmW _) (fun H locs hs => ?_)
      obtain ⟨q22, hq22, hF⟩ := bd hF
      refine sx_S (As := [.int q21]) (rest := []) (st1 := [.int q22]) (c_X5_isLetter G l  q21 q22 hq22) v_X5_80 ⟨(Nat.le_of_ble_eq_true rfl), (Nat.le_of_ble_eq_true rfl)⟩ hx hb hml hown hts hE hA hs ⟨Nat.le_refl 0, Nat.le_refl 0⟩ rfl rfl rfl hl.1 (Nat.le_of_ble_eq_true rfl) dX5_token_81 (List.Perm.refl _) (ws' := WM G a S) (List.Perm.refl _) (fun H locs hs => ?_)
      refine lv_if_eq (tgt := 149) hx hb dX5_token_84 (by decide) (fun hc => ?_) (fun hc => ?_)
      · have hF := (if_pos hc).symm.trans hF
        exact hk S _ _ _ hF hs (lv_sub hl [0] rfl)
      · have hF := (if_neg hc).symm.trans hF
        refine lv_aload_n hx hb dX5_token_87 rfl (lv_at hl 0 rfl) ?_
        refine lv_aload_n hx hb dX5_token_88 rfl (lv_at hl 0 rfl) ?_
        refine fg_X5_74 hx hb hown hts hE hs 0 rfl (v := .int (m_many S)) rfl dX5_token_89 ?_
        refine lv_bipush (v := (7 : Int32)) hx hb dX5_token_92 (by decide) ?_
        refine lv_icmp_ge (tgt := 122) hx hb dX5_token_94 (by decide) (fun hc => ?_) (fun hc => ?_)
        · have hF := (if_pos hc).symm.trans hF
          refine lv_lconst (v := (0 : Int64)) hx hb dX5_token_122 (by decide) ?_
          exact hJ123_73 _ _ hk hrec S (0 : Int64) _ _ _ hF hs (lv_sub hl [0] rfl)
        · have hF := (if_neg hc).symm.trans hF
          refine lv_ldc2 (v := (32 : Int64)) hx hb hown (hts _ g1085) dX5_token_97 ?_
          refine lv_aload_n hx hb dX5_token_100 rfl (lv_at hl 0 rfl) ?_
          refine fg_X5_84 hx hb hown hts hE hs 0 rfl (v := .long (m_word S)) rfl dX5_token_101 ?_
          refine lv_lmul hx hb dX5_token_104 ?_
          refine lv_aload_n hx hb dX5_token_105 rfl (lv_at hl 0 rfl) ?_
          refine lv_aload_n hx hb dX5_token_106 rfl (lv_at hl 0 rfl) ?_
          refine fg_X5_64 hx hb hown hts hE hs 0 rfl (v := .int (m_next S)) rfl dX5_token_107 ?_
          obtain ⟨q26, hq26, hF⟩ := bd hF
          refine sx_V (As := [.int (m_next S)]) (rest := [.long ((32 : Int64) * (m_word S)), .ref (a 0)]) (st1 := [.int q26, .long ((32 : Int64) * (m_word S)), .ref (a 0)]) (c_X5_seen G l a S (m_next S) q26 hq26) v_X5_67 ⟨(Nat.le_of_ble_eq_true rfl), (Nat.le_of_ble_eq_true rfl)⟩ hx hb hml hown hts hE hA hs ⟨Nat.le_refl 0, Nat.le_refl 0⟩ 0 rfl rfl rfl rfl rfl hl.1 (Nat.le_of_ble_eq_true rfl) dX5_token_110 (pmW _) (ws' := WM G a S) (pmW _) (fun H locs hs => ?_)
          refine lv_i2l hx hb dX5_token_113 rfl ?_
          refine lv_ladd hx hb dX5_token_114 ?_
          refine lv_ldc2 (v := (96 : Int64)) hx hb hown (hts _ g1086) dX5_token_115 ?_
          refine lv_lsub hx hb dX5_token_118 ?_
          refine lv_goto (tgt := 123) hx hb dX5_token_119 (by decide) ?_
          exact hJ123_73 _ _ hk hrec S ((((32 : Int64) * (m_word S)) + q26.toInt64) - (96 : Int64)) _ _ _ hF hs (lv_sub hl [0] rfl)
  have hJ164_n : ∀ (S : MS) (y0 : Int32) (H : Heap) (locs : List Loc) (ls : Array Slot), J_X5_token_164 S y0 = some r → SI G A s H locs (WM G a S) → lv_has ls 2 [] → W p l e (RM 1 21) s m args below meth c H locs 0 0 Q (F0 m 164 ls [.int y0, .ref (a 0)]) := by
    intro S y0 H locs ls hF hs hl
    unfold J_X5_token_164 at hF
    obtain ⟨S28, eS28, hF⟩ := nm_some hF
    refine fp_X5_77 hx hb hown hts hE hs 0 rfl (ws' := WM G a S28) (Nat.le_of_ble_eq_true rfl) (by subst eS28; rfl) dX5_token_164 (fun H locs hs => ?_)
    refine lv_goto (tgt := 301) hx hb dX5_token_167 (by decide) ?_
    exact sx_vret hx hb hr hlk hQ (congrArg (fun z => WM G a z) (Option.some.inj hF)) hs dX5_token_301
  unfold F_X5_token at hF
  refine hL0 _ (fun S3 H locs ls hF hs hl => ?_) FU S _ _ _ hF hs (lv_sub hl [0] rfl)
  refine lv_aload_n hx hb dX5_token_26 rfl (lv_at hl 0 rfl) ?_
  refine lv_aload_n hx hb dX5_token_27 rfl (lv_at hl 0 rfl) ?_
  refine fg_X5_64 hx hb hown hts hE hs 0 rfl (v := .int (m_next S3)) rfl dX5_token_28 ?_
  obtain ⟨S4, eS4, hF⟩ := nm_some hF
  refine fp_X5_71 hx hb hown hts hE hs 0 rfl (ws' := WM G a S4) (Nat.le_of_ble_eq_true rfl) (by subst eS4; rfl) dX5_token_31 (fun H locs hs => ?_)
  refine lv_aload_n hx hb dX5_token_34 rfl (lv_at hl 0 rfl) ?_
  refine lv_iconst (v := (0 : Int32)) hx hb dX5_token_35 (by decide) ?_
  obtain ⟨S5, eS5, hF⟩ := nm_some hF
  refine fp_X5_74 hx hb hown hts hE hs 0 rfl (ws' := WM G a S5) (Nat.le_of_ble_eq_true rfl) (by subst eS5; rfl) dX5_token_36 (fun H locs hs => ?_)
  refine lv_aload_n hx hb dX5_token_39 rfl (lv_at hl 0 rfl) ?_
  refine lv_aload_n hx hb dX5_token_40 rfl (lv_at hl 0 rfl) ?_
  refine fg_X5_64 hx hb hown hts hE hs 0 rfl (v := .int (m_next S5)) rfl dX5_token_41 ?_
  obtain ⟨q6, hq6, hF⟩ := bd hF
  refine sx_V (As := [.int (m_next S5)]) (rest := []) (st1 := [.int q6]) (c_X5_seen G l a S5 (m_next S5) q6 hq6) v_X5_67 ⟨(Nat.le_of_ble_eq_true rfl), (Nat.le_of_ble_eq_true rfl)⟩ hx hb hml hown hts hE hA hs ⟨Nat.le_refl 0, Nat.le_refl 0⟩ 0 rfl rfl rfl rfl rfl hl.1 (Nat.le_of_ble_eq_true rfl) dX5_token_44 (pmW _) (ws' := WM G a S5) (pmW _) (fun H locs hs => ?_)
  refine lv_istore_n (lv' := [(1, .int q6), (0, .ref (a 0))]) hx hb dX5_token_47 rfl hl (by decide) rfl (fun ls hl => ?_)
  refine lv_iload_n hx hb dX5_token_48 rfl (lv_at hl 0 rfl) ?_
  refine lv_iconst (v := (-1 : Int32)) hx hb dX5_token_49 (by decide) ?_
  refine lv_icmp_ne (tgt := 61) hx hb dX5_token_50 (by decide) (fun hc => ?_) (fun hc => ?_)
  · have hF := (if_neg hc).symm.trans hF
    refine lv_iload_n hx hb dX5_token_61 rfl (lv_at hl 0 rfl) ?_
    obtain ⟨q7, hq7, hF⟩ := bd hF
    refine sx_S (As := [.int q6]) (rest := []) (st1 := [.int q7]) (c_X5_isLetter G l  q6 q7 hq7) v_X5_80 ⟨(Nat.le_of_ble_eq_true rfl), (Nat.le_of_ble_eq_true rfl)⟩ hx hb hml hown hts hE hA hs ⟨Nat.le_refl 0, Nat.le_refl 0⟩ rfl rfl rfl hl.1 (Nat.le_of_ble_eq_true rfl) dX5_token_62 (List.Perm.refl _) (ws' := WM G a S5) (List.Perm.refl _) (fun H locs hs => ?_)
    refine lv_if_eq (tgt := 170) hx hb dX5_token_65 (by decide) (fun hc => ?_) (fun hc => ?_)
    · have hF := (if_pos hc).symm.trans hF
      refine lv_iload_n hx hb dX5_token_170 rfl (lv_at hl 0 rfl) ?_
      obtain ⟨q8, hq8, hF⟩ := bd hF
      refine sx_S (As := [.int q6]) (rest := []) (st1 := [.int q8]) (c_X5_isDigit G l  q6 q8 hq8) v_X5_92 ⟨(Nat.le_of_ble_eq_true rfl), (Nat.le_of_ble_eq_true rfl)⟩ hx hb hml hown hts hE hA hs ⟨Nat.le_refl 0, Nat.le_refl 0⟩ rfl rfl rfl hl.1 (Nat.le_of_ble_eq_true rfl) dX5_token_171 (List.Perm.refl _) (ws' := WM G a S5) (List.Perm.refl _) (fun H locs hs => ?_)
      refine lv_if_eq (tgt := 276) hx hb dX5_token_174 (by decide) (fun hc => ?_) (fun hc => ?_)
      · have hF := (if_pos hc).symm.trans hF
        refine lv_aload_n hx hb dX5_token_276 rfl (lv_at hl 1 rfl) ?_
        refine lv_iload_n hx hb dX5_token_277 rfl (lv_at hl 0 rfl) ?_
        refine lv_bipush (v := (59 : Int32)) hx hb dX5_token_278 (by decide) ?_
        refine lv_icmp_ne (tgt := 287) hx hb dX5_token_280 (by decide) (fun hc => ?_) (fun hc => ?_)
        · have hF := (if_neg hc).symm.trans hF
          refine lv_iconst (v := (4 : Int32)) hx hb dX5_token_287 (by decide) ?_
          exact hJ288_n S5 (4 : Int32) _ _ _ hF hs (lv_sub hl [1] rfl)
        · have hF := (if_pos hc).symm.trans hF
          refine lv_iconst (v := (3 : Int32)) hx hb dX5_token_283 (by decide) ?_
          refine lv_goto (tgt := 288) hx hb dX5_token_284 (by decide) ?_
          exact hJ288_n S5 (3 : Int32) _ _ _ hF hs (lv_sub hl [1] rfl)
      · have hF := (if_neg hc).symm.trans hF
        refine lv_aload_n hx hb dX5_token_177 rfl (lv_at hl 1 rfl) ?_
        refine lv_iconst (v := (0 : Int32)) hx hb dX5_token_178 (by decide) ?_
        obtain ⟨S11, eS11, hF⟩ := nm_some hF
        refine fp_X5_95 hx hb hown hts hE hs 0 rfl (ws' := WM G a S11) (Nat.le_of_ble_eq_true rfl) (by subst eS11; rfl) dX5_token_179 (fun H locs hs => ?_)
        refine hL182 _ (fun S18 H locs ls hF hs hl => ?_) FU S11 _ _ _ hF hs (lv_sub hl [1] rfl)
        refine lv_aload_n hx hb dX5_token_255 rfl (lv_at hl 0 rfl) ?_
        refine lv_aload_n hx hb dX5_token_256 rfl (lv_at hl 0 rfl) ?_
        refine fg_X5_74 hx hb hown hts hE hs 0 rfl (v := .int (m_many S18)) rfl dX5_token_257 ?_
        refine lv_bipush (v := (7 : Int32)) hx hb dX5_token_260 (by decide) ?_
        refine lv_icmp_le (tgt := 269) hx hb dX5_token_262 (by decide) (fun hc => ?_) (fun hc => ?_)
        · have hF := (if_pos hc).symm.trans hF
          refine lv_iconst (v := (2 : Int32)) hx hb dX5_token_269 (by decide) ?_
          exact hJ270_n S18 (2 : Int32) _ _ _ hF hs (lv_sub hl [] rfl)
        · have hF := (if_neg hc).symm.trans hF
          refine lv_iconst (v := (4 : Int32)) hx hb dX5_token_265 (by decide) ?_
          refine lv_goto (tgt := 270) hx hb dX5_token_266 (by decide) ?_
          exact hJ270_n S18 (4 : Int32) _ _ _ hF hs (lv_sub hl [] rfl)
    · have hF := (if_neg hc).symm.trans hF
      refine lv_aload_n hx hb dX5_token_68 rfl (lv_at hl 1 rfl) ?_
      refine lv_lconst (v := (0 : Int64)) hx hb dX5_token_69 (by decide) ?_
      obtain ⟨S20, eS20, hF⟩ := nm_some hF
      refine fp_X5_84 hx hb hown hts hE hs 0 rfl (ws' := WM G a S20) (Nat.le_of_ble_eq_true rfl) (by subst eS20; rfl) dX5_token_70 (fun H locs hs => ?_)
      refine hL73 _ (fun S27 H locs ls hF hs hl => ?_) FU S20 _ _ _ hF hs (lv_sub hl [1] rfl)
      refine lv_aload_n hx hb dX5_token_149 rfl (lv_at hl 0 rfl) ?_
      refine lv_aload_n hx hb dX5_token_150 rfl (lv_at hl 0 rfl) ?_
      refine fg_X5_74 hx hb hown hts hE hs 0 rfl (v := .int (m_many S27)) rfl dX5_token_151 ?_
      refine lv_bipush (v := (7 : Int32)) hx hb dX5_token_154 (by decide) ?_
      refine lv_icmp_le (tgt := 163) hx hb dX5_token_156 (by decide) (fun hc => ?_) (fun hc => ?_)
      · have hF := (if_pos hc).symm.trans hF
        refine lv_iconst (v := (1 : Int32)) hx hb dX5_token_163 (by decide) ?_
        exact hJ164_n S27 (1 : Int32) _ _ _ hF hs (lv_sub hl [] rfl)
      · have hF := (if_neg hc).symm.trans hF
        refine lv_iconst (v := (4 : Int32)) hx hb dX5_token_159 (by decide) ?_
        refine lv_goto (tgt := 164) hx hb dX5_token_160 (by decide) ?_
        exact hJ164_n S27 (4 : Int32) _ _ _ hF hs (lv_sub hl [] rfl)
  · have hF := (if_pos hc).symm.trans hF
    refine lv_aload_n hx hb dX5_token_53 rfl (lv_at hl 1 rfl) ?_
    refine lv_iconst (v := (0 : Int32)) hx hb dX5_token_54 (by decide) ?_
    obtain ⟨S29, eS29, hF⟩ := nm_some hF
    refine fp_X5_77 hx hb hown hts hE hs 0 rfl (ws' := WM G a S29) (Nat.le_of_ble_eq_true rfl) (by subst eS29; rfl) dX5_token_55 (fun H locs hs => ?_)
    refine lv_goto (tgt := 301) hx hb dX5_token_58 (by decide) ?_
    exact sx_vret hx hb hr hlk hQ (congrArg (fun z => WM G a z) (Option.some.inj hF)) hs dX5_token_301
set_option maxHeartbeats 4000000 in
set_option maxRecDepth 100000 in
theorem c_X5_fails (G : GT) (l : Launch) (a : Nat → Nat) (S : MS) (x1 : Int32) (r : MS) (hF : F_X5_fails S x1 = some r) : MT G l yX5_fails cX5_fails 2 (none) 0 0 [.ref (a 0), .int x1] (WM G a S) none (WM G a r) := by
  refine MT.of (by decide) (Nat.le_of_ble_eq_true rfl) ?_
  intro p e s m args below meth c A ls hx hb hr hml hown hts hlk hE hA hs hl Q hQ
  have hl : lv_has ls 2 [(0, .ref (a 0)), (1, .int x1)] := hl
  unfold F_X5_fails at hF
  refine lv_aload_n hx hb dX5_fails_0 rfl (lv_at hl 0 rfl) ?_
  refine fg_X5_98 hx hb hown hts hE hs 0 rfl (v := .int (m_wrong S)) rfl dX5_fails_1 ?_
  refine lv_if_ne (tgt := 20) hx hb dX5_fails_4 (by decide) (fun hc => ?_) (fun hc => ?_)
  · have hF := (if_neg hc).symm.trans hF
    exact sx_vret hx hb hr hlk hQ (congrArg (fun z => WM G a z) (Option.some.inj hF)) hs dX5_fails_20
  · have hF := (if_pos hc).symm.trans hF
    refine lv_aload_n hx hb dX5_fails_7 rfl (lv_at hl 0 rfl) ?_
    refine lv_iload_n hx hb dX5_fails_8 rfl (lv_at hl 1 rfl) ?_
    obtain ⟨S1, eS1, hF⟩ := nm_some hF
    refine fp_X5_98 hx hb hown hts hE hs 0 rfl (ws' := WM G a S1) (Nat.le_of_ble_eq_true rfl) (by subst eS1; rfl) dX5_fails_9 (fun H locs hs => ?_)
    refine lv_aload_n hx hb dX5_fails_12 rfl (lv_at hl 0 rfl) ?_
    refine lv_aload_n hx hb dX5_fails_13 rfl (lv_at hl 0 rfl) ?_
    refine fg_X5_71 hx hb hown hts hE hs 0 rfl (v := .int (m_from S1)) rfl dX5_fails_14 ?_
    obtain ⟨S2, eS2, hF⟩ := nm_some hF
    refine fp_X5_101 hx hb hown hts hE hs 0 rfl (ws' := WM G a S2) (Nat.le_of_ble_eq_true rfl) (by subst eS2; rfl) dX5_fails_17 (fun H locs hs => ?_)
    exact sx_vret hx hb hr hlk hQ (congrArg (fun z => WM G a z) (Option.some.inj hF)) hs dX5_fails_20
set_option maxHeartbeats 4000000 in
set_option maxRecDepth 100000 in
theorem c_X5_goesOn (G : GT) (l : Launch) (a : Nat → Nat) (S : MS) (r : MS) (hF : F_X5_goesOn S = some r) : MT G l yX5_goesOn cX5_goesOn 1 (none) 2 42 [.ref (a 0)] (WM G a S) none (WM G a r) := by
  refine MT.of (by decide) (Nat.le_of_ble_eq_true rfl) ?_
  intro p e s m args below meth c A ls hx hb hr hml hown hts hlk hE hA hs hl Q hQ
  have hl : lv_has ls 1 [(0, .ref (a 0))] := hl
  unfold F_X5_goesOn at hF
  refine lv_aload_n hx hb dX5_goesOn_0 rfl (lv_at hl 0 rfl) ?_
  refine fg_X5_98 hx hb hown hts hE hs 0 rfl (v := .int (m_wrong S)) rfl dX5_goesOn_1 ?_
  refine lv_if_ne (tgt := 11) hx hb dX5_goesOn_4 (by decide) (fun hc => ?_) (fun hc => ?_)
  · have hF := (if_neg hc).symm.trans hF
    exact sx_vret hx hb hr hlk hQ (congrArg (fun z => WM G a z) (Option.some.inj hF)) hs dX5_goesOn_11
  · have hF := (if_pos hc).symm.trans hF
    refine lv_aload_n hx hb dX5_goesOn_7 rfl (lv_at hl 0 rfl) ?_
    obtain ⟨q1, hq1, hF⟩ := bd hF
    refine sx_V (As := []) (rest := []) (st1 := []) (c_X5_token G l a S q1 hq1) v_X5_104 ⟨(Nat.le_of_ble_eq_true rfl), (Nat.le_of_ble_eq_true rfl)⟩ hx hb hml hown hts hE hA hs ⟨Nat.le_refl 0, Nat.le_refl 0⟩ 0 rfl rfl rfl rfl rfl hl.1 (Nat.le_of_ble_eq_true rfl) dX5_goesOn_8 (pmW _) (ws' := WM G a q1) (pmW _) (fun H locs hs => ?_)
    exact sx_vret hx hb hr hlk hQ (congrArg (fun z => WM G a z) (Option.some.inj hF)) hs dX5_goesOn_11
set_option maxHeartbeats 4000000 in
set_option maxRecDepth 100000 in
theorem c_X5_spelled (G : GT) (l : Launch) (x0 : Int32) (x1 : Int32) (x2 : Int32) (x3 : Int32) (x4 : Int32) (x5 : Int32) (x6 : Int32) (r : Int64) (hF : F_X5_spelled x0 x1 x2 x3 x4 x5 x6 = some r) : MT G l yX5_spelled cX5_spelled 9 (some .long) 0 0 [.int x0, .int x1, .int x2, .int x3, .int x4, .int x5, .int x6] (([] : va_W)) (some (.long r)) (([] : va_W)) := by
  refine MT.of (by decide) (Nat.le_of_ble_eq_true rfl) ?_
  intro p e s m args below meth c A ls hx hb hr hml hown hts hlk hE hA hs hl Q hQ
  have hl : lv_has ls 9 [(0, .int x0), (1, .int x1), (2, .int x2), (3, .int x3), (4, .int x4), (5, .int x5), (6, .int x6)] := hl
  have hJ88_n : ∀ (x6 : Int32) (y0 : Int64) (H : Heap) (locs : List Loc) (ls : Array Slot), J_X5_spelled_88 x6 y0 = some r → SI G A s H locs (([] : va_W)) → lv_has ls 9 [(6, .int x6)] → W p l e (RM 0 0) s m args below meth c H locs 0 0 Q (F0 m 88 ls [.long y0]) := by
    intro x6 y0 H locs ls hF hs hl
    unfold J_X5_spelled_88 at hF
    refine lv_lstore (lv' := [(7, .long y0), (6, .int x6)]) hx hb dX5_spelled_88 hl (by decide) rfl (fun ls hl => ?_)
    refine lv_iload hx hb dX5_spelled_90 (lv_at hl 1 rfl) ?_
    refine lv_if_ne (tgt := 100) hx hb dX5_spelled_92 (by decide) (fun hc => ?_) (fun hc => ?_)
    · have hF := (if_neg hc).symm.trans hF
      refine lv_ldc2 (v := (32 : Int64)) hx hb hown (hts _ g1085) dX5_spelled_100 ?_
      refine lv_lload hx hb dX5_spelled_103 (lv_at hl 0 rfl) ?_
      refine lv_lmul hx hb dX5_spelled_105 ?_
      refine lv_iload hx hb dX5_spelled_106 (lv_at hl 1 rfl) ?_
      refine lv_i2l hx hb dX5_spelled_108 rfl ?_
      refine lv_ladd hx hb dX5_spelled_109 ?_
      exact sx_lret hx hb hr hlk hQ (Option.some.inj hF) rfl hs dX5_spelled_110
    · have hF := (if_pos hc).symm.trans hF
      refine lv_lload hx hb dX5_spelled_95 (lv_at hl 0 rfl) ?_
      refine lv_goto (tgt := 110) hx hb dX5_spelled_97 (by decide) ?_
      exact sx_lret hx hb hr hlk hQ (Option.some.inj hF) rfl hs dX5_spelled_110
  have hJ66_n : ∀ (x5 : Int32) (x6 : Int32) (y0 : Int64) (H : Heap) (locs : List Loc) (ls : Array Slot), J_X5_spelled_66 x5 x6 y0 = some r → SI G A s H locs (([] : va_W)) → lv_has ls 9 [(5, .int x5), (6, .int x6)] → W p l e (RM 0 0) s m args below meth c H locs 0 0 Q (F0 m 66 ls [.long y0]) := by
    intro x5 x6 y0 H locs ls hF hs hl
    unfold J_X5_spelled_66 at hF
    refine lv_lstore (lv' := [(7, .long y0), (5, .int x5), (6, .int x6)]) hx hb dX5_spelled_66 hl (by decide) rfl (fun ls hl => ?_)
    refine lv_iload hx hb dX5_spelled_68 (lv_at hl 1 rfl) ?_
    refine lv_if_ne (tgt := 78) hx hb dX5_spelled_70 (by decide) (fun hc => ?_) (fun hc => ?_)
    · have hF := (if_neg hc).symm.trans hF
      refine lv_ldc2 (v := (32 : Int64)) hx hb hown (hts _ g1085) dX5_spelled_78 ?_
      refine lv_lload hx hb dX5_spelled_81 (lv_at hl 0 rfl) ?_
      refine lv_lmul hx hb dX5_spelled_83 ?_
      refine lv_iload hx hb dX5_spelled_84 (lv_at hl 1 rfl) ?_
      refine lv_i2l hx hb dX5_spelled_86 rfl ?_
      refine lv_ladd hx hb dX5_spelled_87 ?_
      exact hJ88_n x6 (((32 : Int64) * y0) + x5.toInt64) _ _ _ hF hs (lv_sub hl [2] rfl)
    · have hF := (if_pos hc).symm.trans hF
      refine lv_lload hx hb dX5_spelled_73 (lv_at hl 0 rfl) ?_
      refine lv_goto (tgt := 88) hx hb dX5_spelled_75 (by decide) ?_
      exact hJ88_n x6 y0 _ _ _ hF hs (lv_sub hl [2] rfl)
  have hJ44_n : ∀ (x4 : Int32) (x5 : Int32) (x6 : Int32) (y0 : Int64) (H : Heap) (locs : List Loc) (ls : Array Slot), J_X5_spelled_44 x4 x5 x6 y0 = some r → SI G A s H locs (([] : va_W)) → lv_has ls 9 [(4, .int x4), (5, .int x5), (6, .int x6)] → W p l e (RM 0 0) s m args below meth c H locs 0 0 Q (F0 m 44 ls [.long y0]) := by
    intro x4 x5 x6 y0 H locs ls hF hs hl
    unfold J_X5_spelled_44 at hF
    refine lv_lstore (lv' := [(7, .long y0), (4, .int x4), (5, .int x5), (6, .int x6)]) hx hb dX5_spelled_44 hl (by decide) rfl (fun ls hl => ?_)
    refine lv_iload hx hb dX5_spelled_46 (lv_at hl 1 rfl) ?_
    refine lv_if_ne (tgt := 56) hx hb dX5_spelled_48 (by decide) (fun hc => ?_) (fun hc => ?_)
    · have hF := (if_neg hc).symm.trans hF
      refine lv_ldc2 (v := (32 : Int64)) hx hb hown (hts _ g1085) dX5_spelled_56 ?_
      refine lv_lload hx hb dX5_spelled_59 (lv_at hl 0 rfl) ?_
      refine lv_lmul hx hb dX5_spelled_61 ?_
      refine lv_iload hx hb dX5_spelled_62 (lv_at hl 1 rfl) ?_
      refine lv_i2l hx hb dX5_spelled_64 rfl ?_
      refine lv_ladd hx hb dX5_spelled_65 ?_
      exact hJ66_n x5 x6 (((32 : Int64) * y0) + x4.toInt64) _ _ _ hF hs (lv_sub hl [2, 3] rfl)
    · have hF := (if_pos hc).symm.trans hF
      refine lv_lload hx hb dX5_spelled_51 (lv_at hl 0 rfl) ?_
      refine lv_goto (tgt := 66) hx hb dX5_spelled_53 (by decide) ?_
      exact hJ66_n x5 x6 y0 _ _ _ hF hs (lv_sub hl [2, 3] rfl)
  unfold F_X5_spelled at hF
  refine lv_iload_n hx hb dX5_spelled_0 rfl (lv_at hl 0 rfl) ?_
  refine lv_i2l hx hb dX5_spelled_1 rfl ?_
  obtain ⟨v1, ev1, hF⟩ := nm_some hF
  refine sx_topl ev1 ?_
  refine lv_lstore (lv' := [(7, .long v1), (0, .int x0), (1, .int x1), (2, .int x2), (3, .int x3), (4, .int x4), (5, .int x5), (6, .int x6)]) hx hb dX5_spelled_2 hl (by decide) rfl (fun ls hl => ?_)
  refine lv_ldc2 (v := (32 : Int64)) hx hb hown (hts _ g1085) dX5_spelled_4 ?_
  refine lv_lload hx hb dX5_spelled_7 (lv_at hl 0 rfl) ?_
  refine lv_lmul hx hb dX5_spelled_9 ?_
  refine lv_iload_n hx hb dX5_spelled_10 rfl (lv_at hl 2 rfl) ?_
  refine lv_i2l hx hb dX5_spelled_11 rfl ?_
  refine lv_ladd hx hb dX5_spelled_12 ?_
  obtain ⟨v2, ev2, hF⟩ := nm_some hF
  refine sx_topl ev2 ?_
  refine lv_lstore (lv' := [(7, .long v2), (0, .int x0), (1, .int x1), (2, .int x2), (3, .int x3), (4, .int x4), (5, .int x5), (6, .int x6)]) hx hb dX5_spelled_13 hl (by decide) rfl (fun ls hl => ?_)
  refine lv_ldc2 (v := (32 : Int64)) hx hb hown (hts _ g1085) dX5_spelled_15 ?_
  refine lv_lload hx hb dX5_spelled_18 (lv_at hl 0 rfl) ?_
  refine lv_lmul hx hb dX5_spelled_20 ?_
  refine lv_iload_n hx hb dX5_spelled_21 rfl (lv_at hl 3 rfl) ?_
  refine lv_i2l hx hb dX5_spelled_22 rfl ?_
  refine lv_ladd hx hb dX5_spelled_23 ?_
  obtain ⟨v3, ev3, hF⟩ := nm_some hF
  refine sx_topl ev3 ?_
  refine lv_lstore (lv' := [(7, .long v3), (0, .int x0), (1, .int x1), (2, .int x2), (3, .int x3), (4, .int x4), (5, .int x5), (6, .int x6)]) hx hb dX5_spelled_24 hl (by decide) rfl (fun ls hl => ?_)
  refine lv_iload_n hx hb dX5_spelled_26 rfl (lv_at hl 4 rfl) ?_
  refine lv_if_ne (tgt := 35) hx hb dX5_spelled_27 (by decide) (fun hc => ?_) (fun hc => ?_)
  · have hF := (if_neg hc).symm.trans hF
    refine lv_ldc2 (v := (32 : Int64)) hx hb hown (hts _ g1085) dX5_spelled_35 ?_
    refine lv_lload hx hb dX5_spelled_38 (lv_at hl 0 rfl) ?_
    refine lv_lmul hx hb dX5_spelled_40 ?_
    refine lv_iload_n hx hb dX5_spelled_41 rfl (lv_at hl 4 rfl) ?_
    refine lv_i2l hx hb dX5_spelled_42 rfl ?_
    refine lv_ladd hx hb dX5_spelled_43 ?_
    exact hJ44_n x4 x5 x6 (((32 : Int64) * v3) + x3.toInt64) _ _ _ hF hs (lv_sub hl [5, 6, 7] rfl)
  · have hF := (if_pos hc).symm.trans hF
    refine lv_lload hx hb dX5_spelled_30 (lv_at hl 0 rfl) ?_
    refine lv_goto (tgt := 44) hx hb dX5_spelled_32 (by decide) ?_
    exact hJ44_n x4 x5 x6 v3 _ _ _ hF hs (lv_sub hl [5, 6, 7] rfl)
set_option maxHeartbeats 4000000 in
set_option maxRecDepth 100000 in
theorem c_X5_isWord (G : GT) (l : Launch) (a : Nat → Nat) (S : MS) (x1 : Int64) (r : Int32) (hF : F_X5_isWord S x1 = some r) : MT G l yX5_isWord cX5_isWord 3 (some .boolean) 0 0 [.ref (a 0), .long x1] (WM G a S) (some (.int r)) (WM G a S) := by
  refine MT.of (by decide) (Nat.le_of_ble_eq_true rfl) ?_
  intro p e s m args below meth c A ls hx hb hr hml hown hts hlk hE hA hs hl Q hQ
  have hl : lv_has ls 3 [(0, .ref (a 0)), (1, .long x1)] := hl
  unfold F_X5_isWord at hF
  refine lv_aload_n hx hb dX5_isWord_0 rfl (lv_at hl 0 rfl) ?_
  refine fg_X5_98 hx hb hown hts hE hs 0 rfl (v := .int (m_wrong S)) rfl dX5_isWord_1 ?_
  refine lv_if_ne (tgt := 28) hx hb dX5_isWord_4 (by decide) (fun hc => ?_) (fun hc => ?_)
  · have hF := (if_neg hc).symm.trans hF
    refine lv_iconst (v := (0 : Int32)) hx hb dX5_isWord_28 (by decide) ?_
    exact sx_zret hx hb hr hlk hQ (Or.inl rfl) (Option.some.inj hF) rfl hs dX5_isWord_29
  · have hF := (if_pos hc).symm.trans hF
    refine lv_aload_n hx hb dX5_isWord_7 rfl (lv_at hl 0 rfl) ?_
    refine fg_X5_77 hx hb hown hts hE hs 0 rfl (v := .int (m_sort S)) rfl dX5_isWord_8 ?_
    refine lv_iconst (v := (1 : Int32)) hx hb dX5_isWord_11 (by decide) ?_
    refine lv_icmp_ne (tgt := 28) hx hb dX5_isWord_12 (by decide) (fun hc => ?_) (fun hc => ?_)
    · have hF := (if_neg hc).symm.trans hF
      refine lv_iconst (v := (0 : Int32)) hx hb dX5_isWord_28 (by decide) ?_
      exact sx_zret hx hb hr hlk hQ (Or.inl rfl) (Option.some.inj hF) rfl hs dX5_isWord_29
    · have hF := (if_pos hc).symm.trans hF
      refine lv_aload_n hx hb dX5_isWord_15 rfl (lv_at hl 0 rfl) ?_
      refine fg_X5_84 hx hb hown hts hE hs 0 rfl (v := .long (m_word S)) rfl dX5_isWord_16 ?_
      refine lv_lload_n hx hb dX5_isWord_19 rfl (lv_at hl 1 rfl) ?_
      refine W.lcmp hx hb dX5_isWord_20 ?_
      refine lv_if_ne (tgt := 28) hx hb dX5_isWord_21 (by decide) (fun hc => ?_) (fun hc => ?_)
      · have hF := (if_neg hc).symm.trans hF
        refine lv_iconst (v := (0 : Int32)) hx hb dX5_isWord_28 (by decide) ?_
        exact sx_zret hx hb hr hlk hQ (Or.inl rfl) (Option.some.inj hF) rfl hs dX5_isWord_29
      · have hF := (if_pos hc).symm.trans hF
        refine lv_iconst (v := (1 : Int32)) hx hb dX5_isWord_24 (by decide) ?_
        refine lv_goto (tgt := 29) hx hb dX5_isWord_25 (by decide) ?_
        exact sx_zret hx hb hr hlk hQ (Or.inr rfl) (Option.some.inj hF) rfl hs dX5_isWord_29
set_option maxHeartbeats 4000000 in
set_option maxRecDepth 100000 in
theorem c_X5_shipWord (G : GT) (l : Launch) (r : Int64) (hF : F_X5_shipWord = some r) : MT G l yX5_shipWord cX5_shipWord 0 (some .long) 1 28 [] (([] : va_W)) (some (.long r)) (([] : va_W)) := by
  refine MT.of (by decide) (Nat.le_of_ble_eq_true rfl) ?_
  intro p e s m args below meth c A ls hx hb hr hml hown hts hlk hE hA hs hl Q hQ
  have hl : lv_has ls 0 [] := hl
  unfold F_X5_shipWord at hF
  refine lv_bipush (v := (19 : Int32)) hx hb dX5_shipWord_0 (by decide) ?_
  refine lv_bipush (v := (8 : Int32)) hx hb dX5_shipWord_2 (by decide) ?_
  refine lv_bipush (v := (9 : Int32)) hx hb dX5_shipWord_4 (by decide) ?_
  refine lv_bipush (v := (16 : Int32)) hx hb dX5_shipWord_6 (by decide) ?_
  refine lv_iconst (v := (0 : Int32)) hx hb dX5_shipWord_8 (by decide) ?_
  refine lv_iconst (v := (0 : Int32)) hx hb dX5_shipWord_9 (by decide) ?_
  refine lv_iconst (v := (0 : Int32)) hx hb dX5_shipWord_10 (by decide) ?_
  obtain ⟨q1, hq1, hF⟩ := bd hF
  refine sx_S (As := [.int (19 : Int32), .int (8 : Int32), .int (9 : Int32), .int (16 : Int32), .int (0 : Int32), .int (0 : Int32), .int (0 : Int32)]) (rest := []) (st1 := [.long q1]) (c_X5_spelled G l  (19 : Int32) (8 : Int32) (9 : Int32) (16 : Int32) (0 : Int32) (0 : Int32) (0 : Int32) q1 hq1) v_X5_107 ⟨(Nat.le_of_ble_eq_true rfl), (Nat.le_of_ble_eq_true rfl)⟩ hx hb hml hown hts hE hA hs ⟨Nat.le_refl 0, Nat.le_refl 0⟩ rfl rfl rfl hl.1 (Nat.le_of_ble_eq_true rfl) dX5_shipWord_11 (List.Perm.refl _) (ws' := ([] : va_W)) (List.Perm.refl _) (fun H locs hs => ?_)
  exact sx_lret hx hb hr hlk hQ (Option.some.inj hF) rfl hs dX5_shipWord_14
set_option maxHeartbeats 4000000 in
set_option maxRecDepth 100000 in
theorem c_X5_tonsWord (G : GT) (l : Launch) (r : Int64) (hF : F_X5_tonsWord = some r) : MT G l yX5_tonsWord cX5_tonsWord 0 (some .long) 1 28 [] (([] : va_W)) (some (.long r)) (([] : va_W)) := by
  refine MT.of (by decide) (Nat.le_of_ble_eq_true rfl) ?_
  intro p e s m args below meth c A ls hx hb hr hml hown hts hlk hE hA hs hl Q hQ
  have hl : lv_has ls 0 [] := hl
  unfold F_X5_tonsWord at hF
  refine lv_bipush (v := (20 : Int32)) hx hb dX5_tonsWord_0 (by decide) ?_
  refine lv_bipush (v := (15 : Int32)) hx hb dX5_tonsWord_2 (by decide) ?_
  refine lv_bipush (v := (14 : Int32)) hx hb dX5_tonsWord_4 (by decide) ?_
  refine lv_bipush (v := (19 : Int32)) hx hb dX5_tonsWord_6 (by decide) ?_
  refine lv_iconst (v := (0 : Int32)) hx hb dX5_tonsWord_8 (by decide) ?_
  refine lv_iconst (v := (0 : Int32)) hx hb dX5_tonsWord_9 (by decide) ?_
  refine lv_iconst (v := (0 : Int32)) hx hb dX5_tonsWord_10 (by decide) ?_
  obtain ⟨q1, hq1, hF⟩ := bd hF
  refine sx_S (As := [.int (20 : Int32), .int (15 : Int32), .int (14 : Int32), .int (19 : Int32), .int (0 : Int32), .int (0 : Int32), .int (0 : Int32)]) (rest := []) (st1 := [.long q1]) (c_X5_spelled G l  (20 : Int32) (15 : Int32) (14 : Int32) (19 : Int32) (0 : Int32) (0 : Int32) (0 : Int32) q1 hq1) v_X5_107 ⟨(Nat.le_of_ble_eq_true rfl), (Nat.le_of_ble_eq_true rfl)⟩ hx hb hml hown hts hE hA hs ⟨Nat.le_refl 0, Nat.le_refl 0⟩ rfl rfl rfl hl.1 (Nat.le_of_ble_eq_true rfl) dX5_tonsWord_11 (List.Perm.refl _) (ws' := ([] : va_W)) (List.Perm.refl _) (fun H locs hs => ?_)
  exact sx_lret hx hb hr hlk hQ (Option.some.inj hF) rfl hs dX5_tonsWord_14
set_option maxHeartbeats 4000000 in
set_option maxRecDepth 100000 in
theorem c_X5_faultWord (G : GT) (l : Launch) (r : Int64) (hF : F_X5_faultWord = some r) : MT G l yX5_faultWord cX5_faultWord 0 (some .long) 1 28 [] (([] : va_W)) (some (.long r)) (([] : va_W)) := by
  refine MT.of (by decide) (Nat.le_of_ble_eq_true rfl) ?_
  intro p e s m args below meth c A ls hx hb hr hml hown hts hlk hE hA hs hl Q hQ
  have hl : lv_has ls 0 [] := hl
  unfold F_X5_faultWord at hF
  refine lv_bipush (v := (6 : Int32)) hx hb dX5_faultWord_0 (by decide) ?_
  refine lv_iconst (v := (1 : Int32)) hx hb dX5_faultWord_2 (by decide) ?_
  refine lv_bipush (v := (21 : Int32)) hx hb dX5_faultWord_3 (by decide) ?_
  refine lv_bipush (v := (12 : Int32)) hx hb dX5_faultWord_5 (by decide) ?_
  refine lv_bipush (v := (20 : Int32)) hx hb dX5_faultWord_7 (by decide) ?_
  refine lv_iconst (v := (0 : Int32)) hx hb dX5_faultWord_9 (by decide) ?_
  refine lv_iconst (v := (0 : Int32)) hx hb dX5_faultWord_10 (by decide) ?_
  obtain ⟨q1, hq1, hF⟩ := bd hF
  refine sx_S (As := [.int (6 : Int32), .int (1 : Int32), .int (21 : Int32), .int (12 : Int32), .int (20 : Int32), .int (0 : Int32), .int (0 : Int32)]) (rest := []) (st1 := [.long q1]) (c_X5_spelled G l  (6 : Int32) (1 : Int32) (21 : Int32) (12 : Int32) (20 : Int32) (0 : Int32) (0 : Int32) q1 hq1) v_X5_107 ⟨(Nat.le_of_ble_eq_true rfl), (Nat.le_of_ble_eq_true rfl)⟩ hx hb hml hown hts hE hA hs ⟨Nat.le_refl 0, Nat.le_refl 0⟩ rfl rfl rfl hl.1 (Nat.le_of_ble_eq_true rfl) dX5_faultWord_11 (List.Perm.refl _) (ws' := ([] : va_W)) (List.Perm.refl _) (fun H locs hs => ?_)
  exact sx_lret hx hb hr hlk hQ (Option.some.inj hF) rfl hs dX5_faultWord_14
set_option maxHeartbeats 4000000 in
set_option maxRecDepth 100000 in
theorem c_X5_hullWord (G : GT) (l : Launch) (r : Int64) (hF : F_X5_hullWord = some r) : MT G l yX5_hullWord cX5_hullWord 0 (some .long) 1 28 [] (([] : va_W)) (some (.long r)) (([] : va_W)) := by
  refine MT.of (by decide) (Nat.le_of_ble_eq_true rfl) ?_
  intro p e s m args below meth c A ls hx hb hr hml hown hts hlk hE hA hs hl Q hQ
  have hl : lv_has ls 0 [] := hl
  unfold F_X5_hullWord at hF
  refine lv_bipush (v := (8 : Int32)) hx hb dX5_hullWord_0 (by decide) ?_
  refine lv_bipush (v := (21 : Int32)) hx hb dX5_hullWord_2 (by decide) ?_
  refine lv_bipush (v := (12 : Int32)) hx hb dX5_hullWord_4 (by decide) ?_
  refine lv_bipush (v := (12 : Int32)) hx hb dX5_hullWord_6 (by decide) ?_
  refine lv_iconst (v := (0 : Int32)) hx hb dX5_hullWord_8 (by decide) ?_
  refine lv_iconst (v := (0 : Int32)) hx hb dX5_hullWord_9 (by decide) ?_
  refine lv_iconst (v := (0 : Int32)) hx hb dX5_hullWord_10 (by decide) ?_
  obtain ⟨q1, hq1, hF⟩ := bd hF
  refine sx_S (As := [.int (8 : Int32), .int (21 : Int32), .int (12 : Int32), .int (12 : Int32), .int (0 : Int32), .int (0 : Int32), .int (0 : Int32)]) (rest := []) (st1 := [.long q1]) (c_X5_spelled G l  (8 : Int32) (21 : Int32) (12 : Int32) (12 : Int32) (0 : Int32) (0 : Int32) (0 : Int32) q1 hq1) v_X5_107 ⟨(Nat.le_of_ble_eq_true rfl), (Nat.le_of_ble_eq_true rfl)⟩ hx hb hml hown hts hE hA hs ⟨Nat.le_refl 0, Nat.le_refl 0⟩ rfl rfl rfl hl.1 (Nat.le_of_ble_eq_true rfl) dX5_hullWord_11 (List.Perm.refl _) (ws' := ([] : va_W)) (List.Perm.refl _) (fun H locs hs => ?_)
  exact sx_lret hx hb hr hlk hQ (Option.some.inj hF) rfl hs dX5_hullWord_14
set_option maxHeartbeats 4000000 in
set_option maxRecDepth 100000 in
theorem c_X5_valueWord (G : GT) (l : Launch) (r : Int64) (hF : F_X5_valueWord = some r) : MT G l yX5_valueWord cX5_valueWord 0 (some .long) 1 28 [] (([] : va_W)) (some (.long r)) (([] : va_W)) := by
  refine MT.of (by decide) (Nat.le_of_ble_eq_true rfl) ?_
  intro p e s m args below meth c A ls hx hb hr hml hown hts hlk hE hA hs hl Q hQ
  have hl : lv_has ls 0 [] := hl
  unfold F_X5_valueWord at hF
  refine lv_bipush (v := (22 : Int32)) hx hb dX5_valueWord_0 (by decide) ?_
  refine lv_iconst (v := (1 : Int32)) hx hb dX5_valueWord_2 (by decide) ?_
  refine lv_bipush (v := (12 : Int32)) hx hb dX5_valueWord_3 (by decide) ?_
  refine lv_bipush (v := (21 : Int32)) hx hb dX5_valueWord_5 (by decide) ?_
  refine lv_iconst (v := (5 : Int32)) hx hb dX5_valueWord_7 (by decide) ?_
  refine lv_iconst (v := (0 : Int32)) hx hb dX5_valueWord_8 (by decide) ?_
  refine lv_iconst (v := (0 : Int32)) hx hb dX5_valueWord_9 (by decide) ?_
  obtain ⟨q1, hq1, hF⟩ := bd hF
  refine sx_S (As := [.int (22 : Int32), .int (1 : Int32), .int (12 : Int32), .int (21 : Int32), .int (5 : Int32), .int (0 : Int32), .int (0 : Int32)]) (rest := []) (st1 := [.long q1]) (c_X5_spelled G l  (22 : Int32) (1 : Int32) (12 : Int32) (21 : Int32) (5 : Int32) (0 : Int32) (0 : Int32) q1 hq1) v_X5_107 ⟨(Nat.le_of_ble_eq_true rfl), (Nat.le_of_ble_eq_true rfl)⟩ hx hb hml hown hts hE hA hs ⟨Nat.le_refl 0, Nat.le_refl 0⟩ rfl rfl rfl hl.1 (Nat.le_of_ble_eq_true rfl) dX5_valueWord_10 (List.Perm.refl _) (ws' := ([] : va_W)) (List.Perm.refl _) (fun H locs hs => ?_)
  exact sx_lret hx hb hr hlk hQ (Option.some.inj hF) rfl hs dX5_valueWord_13
set_option maxHeartbeats 4000000 in
set_option maxRecDepth 100000 in
theorem c_X5_clauseWord (G : GT) (l : Launch) (r : Int64) (hF : F_X5_clauseWord = some r) : MT G l yX5_clauseWord cX5_clauseWord 0 (some .long) 1 28 [] (([] : va_W)) (some (.long r)) (([] : va_W)) := by
  refine MT.of (by decide) (Nat.le_of_ble_eq_true rfl) ?_
  intro p e s m args below meth c A ls hx hb hr hml hown hts hlk hE hA hs hl Q hQ
  have hl : lv_has ls 0 [] := hl
  unfold F_X5_clauseWord at hF
  refine lv_iconst (v := (3 : Int32)) hx hb dX5_clauseWord_0 (by decide) ?_
  refine lv_bipush (v := (12 : Int32)) hx hb dX5_clauseWord_1 (by decide) ?_
  refine lv_iconst (v := (1 : Int32)) hx hb dX5_clauseWord_3 (by decide) ?_
  refine lv_bipush (v := (21 : Int32)) hx hb dX5_clauseWord_4 (by decide) ?_
  refine lv_bipush (v := (19 : Int32)) hx hb dX5_clauseWord_6 (by decide) ?_
  refine lv_iconst (v := (5 : Int32)) hx hb dX5_clauseWord_8 (by decide) ?_
  refine lv_iconst (v := (0 : Int32)) hx hb dX5_clauseWord_9 (by decide) ?_
  obtain ⟨q1, hq1, hF⟩ := bd hF
  refine sx_S (As := [.int (3 : Int32), .int (12 : Int32), .int (1 : Int32), .int (21 : Int32), .int (19 : Int32), .int (5 : Int32), .int (0 : Int32)]) (rest := []) (st1 := [.long q1]) (c_X5_spelled G l  (3 : Int32) (12 : Int32) (1 : Int32) (21 : Int32) (19 : Int32) (5 : Int32) (0 : Int32) q1 hq1) v_X5_107 ⟨(Nat.le_of_ble_eq_true rfl), (Nat.le_of_ble_eq_true rfl)⟩ hx hb hml hown hts hE hA hs ⟨Nat.le_refl 0, Nat.le_refl 0⟩ rfl rfl rfl hl.1 (Nat.le_of_ble_eq_true rfl) dX5_clauseWord_10 (List.Perm.refl _) (ws' := ([] : va_W)) (List.Perm.refl _) (fun H locs hs => ?_)
  exact sx_lret hx hb hr hlk hQ (Option.some.inj hF) rfl hs dX5_clauseWord_13
set_option maxHeartbeats 4000000 in
set_option maxRecDepth 100000 in
theorem c_X5_barredWord (G : GT) (l : Launch) (r : Int64) (hF : F_X5_barredWord = some r) : MT G l yX5_barredWord cX5_barredWord 0 (some .long) 1 28 [] (([] : va_W)) (some (.long r)) (([] : va_W)) := by
  refine MT.of (by decide) (Nat.le_of_ble_eq_true rfl) ?_
  intro p e s m args below meth c A ls hx hb hr hml hown hts hlk hE hA hs hl Q hQ
  have hl : lv_has ls 0 [] := hl
  unfold F_X5_barredWord at hF
  refine lv_iconst (v := (2 : Int32)) hx hb dX5_barredWord_0 (by decide) ?_
  refine lv_iconst (v := (1 : Int32)) hx hb dX5_barredWord_1 (by decide) ?_
  refine lv_bipush (v := (18 : Int32)) hx hb dX5_barredWord_2 (by decide) ?_
  refine lv_bipush (v := (18 : Int32)) hx hb dX5_barredWord_4 (by decide) ?_
  refine lv_iconst (v := (5 : Int32)) hx hb dX5_barredWord_6 (by decide) ?_
  refine lv_iconst (v := (4 : Int32)) hx hb dX5_barredWord_7 (by decide) ?_
  refine lv_iconst (v := (0 : Int32)) hx hb dX5_barredWord_8 (by decide) ?_
  obtain ⟨q1, hq1, hF⟩ := bd hF
  refine sx_S (As := [.int (2 : Int32), .int (1 : Int32), .int (18 : Int32), .int (18 : Int32), .int (5 : Int32), .int (4 : Int32), .int (0 : Int32)]) (rest := []) (st1 := [.long q1]) (c_X5_spelled G l  (2 : Int32) (1 : Int32) (18 : Int32) (18 : Int32) (5 : Int32) (4 : Int32) (0 : Int32) q1 hq1) v_X5_107 ⟨(Nat.le_of_ble_eq_true rfl), (Nat.le_of_ble_eq_true rfl)⟩ hx hb hml hown hts hE hA hs ⟨Nat.le_refl 0, Nat.le_refl 0⟩ rfl rfl rfl hl.1 (Nat.le_of_ble_eq_true rfl) dX5_barredWord_9 (List.Perm.refl _) (ws' := ([] : va_W)) (List.Perm.refl _) (fun H locs hs => ?_)
  exact sx_lret hx hb hr hlk hQ (Option.some.inj hF) rfl hs dX5_barredWord_12
set_option maxHeartbeats 4000000 in
set_option maxRecDepth 100000 in
theorem c_X5_goodsWord (G : GT) (l : Launch) (r : Int64) (hF : F_X5_goodsWord = some r) : MT G l yX5_goodsWord cX5_goodsWord 0 (some .long) 1 28 [] (([] : va_W)) (some (.long r)) (([] : va_W)) := by
  refine MT.of (by decide) (Nat.le_of_ble_eq_true rfl) ?_
  intro p e s m args below meth c A ls hx hb hr hml hown hts hlk hE hA hs hl Q hQ
  have hl : lv_has ls 0 [] := hl
  unfold F_X5_goodsWord at hF
  refine lv_bipush (v := (7 : Int32)) hx hb dX5_goodsWord_0 (by decide) ?_
  refine lv_bipush (v := (15 : Int32)) hx hb dX5_goodsWord_2 (by decide) ?_
  refine lv_bipush (v := (15 : Int32)) hx hb dX5_goodsWord_4 (by decide) ?_
  refine lv_iconst (v := (4 : Int32)) hx hb dX5_goodsWord_6 (by decide) ?_
  refine lv_bipush (v := (19 : Int32)) hx hb dX5_goodsWord_7 (by decide) ?_
  refine lv_iconst (v := (0 : Int32)) hx hb dX5_goodsWord_9 (by decide) ?_
  refine lv_iconst (v := (0 : Int32)) hx hb dX5_goodsWord_10 (by decide) ?_
  obtain ⟨q1, hq1, hF⟩ := bd hF
  refine sx_S (As := [.int (7 : Int32), .int (15 : Int32), .int (15 : Int32), .int (4 : Int32), .int (19 : Int32), .int (0 : Int32), .int (0 : Int32)]) (rest := []) (st1 := [.long q1]) (c_X5_spelled G l  (7 : Int32) (15 : Int32) (15 : Int32) (4 : Int32) (19 : Int32) (0 : Int32) (0 : Int32) q1 hq1) v_X5_107 ⟨(Nat.le_of_ble_eq_true rfl), (Nat.le_of_ble_eq_true rfl)⟩ hx hb hml hown hts hE hA hs ⟨Nat.le_refl 0, Nat.le_refl 0⟩ rfl rfl rfl hl.1 (Nat.le_of_ble_eq_true rfl) dX5_goodsWord_11 (List.Perm.refl _) (ws' := ([] : va_W)) (List.Perm.refl _) (fun H locs hs => ?_)
  exact sx_lret hx hb hr hlk hQ (Option.some.inj hF) rfl hs dX5_goodsWord_14
set_option maxHeartbeats 4000000 in
set_option maxRecDepth 100000 in
theorem c_X5_personsWord (G : GT) (l : Launch) (r : Int64) (hF : F_X5_personsWord = some r) : MT G l yX5_personsWord cX5_personsWord 0 (some .long) 1 28 [] (([] : va_W)) (some (.long r)) (([] : va_W)) := by
  refine MT.of (by decide) (Nat.le_of_ble_eq_true rfl) ?_
  intro p e s m args below meth c A ls hx hb hr hml hown hts hlk hE hA hs hl Q hQ
  have hl : lv_has ls 0 [] := hl
  unfold F_X5_personsWord at hF
  refine lv_bipush (v := (16 : Int32)) hx hb dX5_personsWord_0 (by decide) ?_
  refine lv_iconst (v := (5 : Int32)) hx hb dX5_personsWord_2 (by decide) ?_
  refine lv_bipush (v := (18 : Int32)) hx hb dX5_personsWord_3 (by decide) ?_
  refine lv_bipush (v := (19 : Int32)) hx hb dX5_personsWord_5 (by decide) ?_
  refine lv_bipush (v := (15 : Int32)) hx hb dX5_personsWord_7 (by decide) ?_
  refine lv_bipush (v := (14 : Int32)) hx hb dX5_personsWord_9 (by decide) ?_
  refine lv_bipush (v := (19 : Int32)) hx hb dX5_personsWord_11 (by decide) ?_
  obtain ⟨q1, hq1, hF⟩ := bd hF
  refine sx_S (As := [.int (16 : Int32), .int (5 : Int32), .int (18 : Int32), .int (19 : Int32), .int (15 : Int32), .int (14 : Int32), .int (19 : Int32)]) (rest := []) (st1 := [.long q1]) (c_X5_spelled G l  (16 : Int32) (5 : Int32) (18 : Int32) (19 : Int32) (15 : Int32) (14 : Int32) (19 : Int32) q1 hq1) v_X5_107 ⟨(Nat.le_of_ble_eq_true rfl), (Nat.le_of_ble_eq_true rfl)⟩ hx hb hml hown hts hE hA hs ⟨Nat.le_refl 0, Nat.le_refl 0⟩ rfl rfl rfl hl.1 (Nat.le_of_ble_eq_true rfl) dX5_personsWord_13 (List.Perm.refl _) (ws' := ([] : va_W)) (List.Perm.refl _) (fun H locs hs => ?_)
  exact sx_lret hx hb hr hlk hQ (Option.some.inj hF) rfl hs dX5_personsWord_16
set_option maxHeartbeats 4000000 in
set_option maxRecDepth 100000 in
theorem c_X5_othersWord (G : GT) (l : Launch) (r : Int64) (hF : F_X5_othersWord = some r) : MT G l yX5_othersWord cX5_othersWord 0 (some .long) 1 28 [] (([] : va_W)) (some (.long r)) (([] : va_W)) := by
  refine MT.of (by decide) (Nat.le_of_ble_eq_true rfl) ?_
  intro p e s m args below meth c A ls hx hb hr hml hown hts hlk hE hA hs hl Q hQ
  have hl : lv_has ls 0 [] := hl
  unfold F_X5_othersWord at hF
  refine lv_bipush (v := (15 : Int32)) hx hb dX5_othersWord_0 (by decide) ?_
  refine lv_bipush (v := (20 : Int32)) hx hb dX5_othersWord_2 (by decide) ?_
  refine lv_bipush (v := (8 : Int32)) hx hb dX5_othersWord_4 (by decide) ?_
  refine lv_iconst (v := (5 : Int32)) hx hb dX5_othersWord_6 (by decide) ?_
  refine lv_bipush (v := (18 : Int32)) hx hb dX5_othersWord_7 (by decide) ?_
  refine lv_bipush (v := (19 : Int32)) hx hb dX5_othersWord_9 (by decide) ?_
  refine lv_iconst (v := (0 : Int32)) hx hb dX5_othersWord_11 (by decide) ?_
  obtain ⟨q1, hq1, hF⟩ := bd hF
  refine sx_S (As := [.int (15 : Int32), .int (20 : Int32), .int (8 : Int32), .int (5 : Int32), .int (18 : Int32), .int (19 : Int32), .int (0 : Int32)]) (rest := []) (st1 := [.long q1]) (c_X5_spelled G l  (15 : Int32) (20 : Int32) (8 : Int32) (5 : Int32) (18 : Int32) (19 : Int32) (0 : Int32) q1 hq1) v_X5_107 ⟨(Nat.le_of_ble_eq_true rfl), (Nat.le_of_ble_eq_true rfl)⟩ hx hb hml hown hts hE hA hs ⟨Nat.le_refl 0, Nat.le_refl 0⟩ rfl rfl rfl hl.1 (Nat.le_of_ble_eq_true rfl) dX5_othersWord_12 (List.Perm.refl _) (ws' := ([] : va_W)) (List.Perm.refl _) (fun H locs hs => ?_)
  exact sx_lret hx hb hr hlk hQ (Option.some.inj hF) rfl hs dX5_othersWord_15
set_option maxHeartbeats 4000000 in
set_option maxRecDepth 100000 in
theorem c_X5_dayWord (G : GT) (l : Launch) (r : Int64) (hF : F_X5_dayWord = some r) : MT G l yX5_dayWord cX5_dayWord 0 (some .long) 1 28 [] (([] : va_W)) (some (.long r)) (([] : va_W)) := by
  refine MT.of (by decide) (Nat.le_of_ble_eq_true rfl) ?_
  intro p e s m args below meth c A ls hx hb hr hml hown hts hlk hE hA hs hl Q hQ
  have hl : lv_has ls 0 [] := hl
  unfold F_X5_dayWord at hF
  refine lv_iconst (v := (4 : Int32)) hx hb dX5_dayWord_0 (by decide) ?_
  refine lv_iconst (v := (1 : Int32)) hx hb dX5_dayWord_1 (by decide) ?_
  refine lv_bipush (v := (25 : Int32)) hx hb dX5_dayWord_2 (by decide) ?_
  refine lv_iconst (v := (0 : Int32)) hx hb dX5_dayWord_4 (by decide) ?_
  refine lv_iconst (v := (0 : Int32)) hx hb dX5_dayWord_5 (by decide) ?_
  refine lv_iconst (v := (0 : Int32)) hx hb dX5_dayWord_6 (by decide) ?_
  refine lv_iconst (v := (0 : Int32)) hx hb dX5_dayWord_7 (by decide) ?_
  obtain ⟨q1, hq1, hF⟩ := bd hF
  refine sx_S (As := [.int (4 : Int32), .int (1 : Int32), .int (25 : Int32), .int (0 : Int32), .int (0 : Int32), .int (0 : Int32), .int (0 : Int32)]) (rest := []) (st1 := [.long q1]) (c_X5_spelled G l  (4 : Int32) (1 : Int32) (25 : Int32) (0 : Int32) (0 : Int32) (0 : Int32) (0 : Int32) q1 hq1) v_X5_107 ⟨(Nat.le_of_ble_eq_true rfl), (Nat.le_of_ble_eq_true rfl)⟩ hx hb hml hown hts hE hA hs ⟨Nat.le_refl 0, Nat.le_refl 0⟩ rfl rfl rfl hl.1 (Nat.le_of_ble_eq_true rfl) dX5_dayWord_8 (List.Perm.refl _) (ws' := ([] : va_W)) (List.Perm.refl _) (fun H locs hs => ?_)
  exact sx_lret hx hb hr hlk hQ (Option.some.inj hF) rfl hs dX5_dayWord_11
set_option maxHeartbeats 4000000 in
set_option maxRecDepth 100000 in
theorem c_X5_aboutWord (G : GT) (l : Launch) (x0 : Int32) (r : Int64) (hF : F_X5_aboutWord x0 = some r) : MT G l yX5_aboutWord cX5_aboutWord 1 (some .long) 1 28 [.int x0] (([] : va_W)) (some (.long r)) (([] : va_W)) := by
  refine MT.of (by decide) (Nat.le_of_ble_eq_true rfl) ?_
  intro p e s m args below meth c A ls hx hb hr hml hown hts hlk hE hA hs hl Q hQ
  have hl : lv_has ls 1 [(0, .int x0)] := hl
  unfold F_X5_aboutWord at hF
  refine lv_iload_n hx hb dX5_aboutWord_0 rfl (lv_at hl 0 rfl) ?_
  by_cases hv1_0 : x0 = (2 : Int32)
  · have hF := (if_pos hv1_0).symm.trans hF
    refine lv_tableIn (off := 43) (tgt := 44) hx hb dX5_aboutWord_1 (by rw [hv1_0]; decide) (by rw [hv1_0]; decide) (by rw [hv1_0]; decide) (by decide) ?_
    refine lv_iconst (v := (5 : Int32)) hx hb dX5_aboutWord_44 (by decide) ?_
    refine lv_bipush (v := (17 : Int32)) hx hb dX5_aboutWord_45 (by decide) ?_
    refine lv_bipush (v := (21 : Int32)) hx hb dX5_aboutWord_47 (by decide) ?_
    refine lv_iconst (v := (1 : Int32)) hx hb dX5_aboutWord_49 (by decide) ?_
    refine lv_bipush (v := (12 : Int32)) hx hb dX5_aboutWord_50 (by decide) ?_
    refine lv_iconst (v := (0 : Int32)) hx hb dX5_aboutWord_52 (by decide) ?_
    refine lv_iconst (v := (0 : Int32)) hx hb dX5_aboutWord_53 (by decide) ?_
    obtain ⟨q2, hq2, hF⟩ := bd hF
    refine sx_S (As := [.int (5 : Int32), .int (17 : Int32), .int (21 : Int32), .int (1 : Int32), .int (12 : Int32), .int (0 : Int32), .int (0 : Int32)]) (rest := []) (st1 := [.long q2]) (c_X5_spelled G l  (5 : Int32) (17 : Int32) (21 : Int32) (1 : Int32) (12 : Int32) (0 : Int32) (0 : Int32) q2 hq2) v_X5_107 ⟨(Nat.le_of_ble_eq_true rfl), (Nat.le_of_ble_eq_true rfl)⟩ hx hb hml hown hts hE hA hs ⟨Nat.le_refl 0, Nat.le_refl 0⟩ rfl rfl rfl hl.1 (Nat.le_of_ble_eq_true rfl) dX5_aboutWord_54 (List.Perm.refl _) (ws' := ([] : va_W)) (List.Perm.refl _) (fun H locs hs => ?_)
    exact sx_lret hx hb hr hlk hQ (Option.some.inj hF) rfl hs dX5_aboutWord_57
  · have hF := (if_neg hv1_0).symm.trans hF
    by_cases hv1_1 : x0 = (3 : Int32)
    · have hF := (if_pos hv1_1).symm.trans hF
      refine lv_tableIn (off := 57) (tgt := 58) hx hb dX5_aboutWord_1 (by rw [hv1_1]; decide) (by rw [hv1_1]; decide) (by rw [hv1_1]; decide) (by decide) ?_
      refine lv_bipush (v := (23 : Int32)) hx hb dX5_aboutWord_58 (by decide) ?_
      refine lv_bipush (v := (8 : Int32)) hx hb dX5_aboutWord_60 (by decide) ?_
      refine lv_bipush (v := (15 : Int32)) hx hb dX5_aboutWord_62 (by decide) ?_
      refine lv_bipush (v := (12 : Int32)) hx hb dX5_aboutWord_64 (by decide) ?_
      refine lv_iconst (v := (5 : Int32)) hx hb dX5_aboutWord_66 (by decide) ?_
      refine lv_iconst (v := (0 : Int32)) hx hb dX5_aboutWord_67 (by decide) ?_
      refine lv_iconst (v := (0 : Int32)) hx hb dX5_aboutWord_68 (by decide) ?_
      obtain ⟨q3, hq3, hF⟩ := bd hF
      refine sx_S (As := [.int (23 : Int32), .int (8 : Int32), .int (15 : Int32), .int (12 : Int32), .int (5 : Int32), .int (0 : Int32), .int (0 : Int32)]) (rest := []) (st1 := [.long q3]) (c_X5_spelled G l  (23 : Int32) (8 : Int32) (15 : Int32) (12 : Int32) (5 : Int32) (0 : Int32) (0 : Int32) q3 hq3) v_X5_107 ⟨(Nat.le_of_ble_eq_true rfl), (Nat.le_of_ble_eq_true rfl)⟩ hx hb hml hown hts hE hA hs ⟨Nat.le_refl 0, Nat.le_refl 0⟩ rfl rfl rfl hl.1 (Nat.le_of_ble_eq_true rfl) dX5_aboutWord_69 (List.Perm.refl _) (ws' := ([] : va_W)) (List.Perm.refl _) (fun H locs hs => ?_)
      exact sx_lret hx hb hr hlk hQ (Option.some.inj hF) rfl hs dX5_aboutWord_72
    · have hF := (if_neg hv1_1).symm.trans hF
      by_cases hv1_2 : x0 = (4 : Int32)
      · have hF := (if_pos hv1_2).symm.trans hF
        refine lv_tableIn (off := 72) (tgt := 73) hx hb dX5_aboutWord_1 (by rw [hv1_2]; decide) (by rw [hv1_2]; decide) (by rw [hv1_2]; decide) (by decide) ?_
        refine lv_iconst (v := (3 : Int32)) hx hb dX5_aboutWord_73 (by decide) ?_
        refine lv_bipush (v := (18 : Int32)) hx hb dX5_aboutWord_74 (by decide) ?_
        refine lv_bipush (v := (15 : Int32)) hx hb dX5_aboutWord_76 (by decide) ?_
        refine lv_bipush (v := (19 : Int32)) hx hb dX5_aboutWord_78 (by decide) ?_
        refine lv_bipush (v := (19 : Int32)) hx hb dX5_aboutWord_80 (by decide) ?_
        refine lv_iconst (v := (0 : Int32)) hx hb dX5_aboutWord_82 (by decide) ?_
        refine lv_iconst (v := (0 : Int32)) hx hb dX5_aboutWord_83 (by decide) ?_
        obtain ⟨q4, hq4, hF⟩ := bd hF
        refine sx_S (As := [.int (3 : Int32), .int (18 : Int32), .int (15 : Int32), .int (19 : Int32), .int (19 : Int32), .int (0 : Int32), .int (0 : Int32)]) (rest := []) (st1 := [.long q4]) (c_X5_spelled G l  (3 : Int32) (18 : Int32) (15 : Int32) (19 : Int32) (19 : Int32) (0 : Int32) (0 : Int32) q4 hq4) v_X5_107 ⟨(Nat.le_of_ble_eq_true rfl), (Nat.le_of_ble_eq_true rfl)⟩ hx hb hml hown hts hE hA hs ⟨Nat.le_refl 0, Nat.le_refl 0⟩ rfl rfl rfl hl.1 (Nat.le_of_ble_eq_true rfl) dX5_aboutWord_84 (List.Perm.refl _) (ws' := ([] : va_W)) (List.Perm.refl _) (fun H locs hs => ?_)
        exact sx_lret hx hb hr hlk hQ (Option.some.inj hF) rfl hs dX5_aboutWord_87
      · have hF := (if_neg hv1_2).symm.trans hF
        by_cases hv1_3 : x0 = (5 : Int32)
        · have hF := (if_pos hv1_3).symm.trans hF
          refine lv_tableIn (off := 87) (tgt := 88) hx hb dX5_aboutWord_1 (by rw [hv1_3]; decide) (by rw [hv1_3]; decide) (by rw [hv1_3]; decide) (by decide) ?_
          refine lv_bipush (v := (18 : Int32)) hx hb dX5_aboutWord_88 (by decide) ?_
          refine lv_iconst (v := (1 : Int32)) hx hb dX5_aboutWord_90 (by decide) ?_
          refine lv_bipush (v := (20 : Int32)) hx hb dX5_aboutWord_91 (by decide) ?_
          refine lv_iconst (v := (5 : Int32)) hx hb dX5_aboutWord_93 (by decide) ?_
          refine lv_iconst (v := (0 : Int32)) hx hb dX5_aboutWord_94 (by decide) ?_
          refine lv_iconst (v := (0 : Int32)) hx hb dX5_aboutWord_95 (by decide) ?_
          refine lv_iconst (v := (0 : Int32)) hx hb dX5_aboutWord_96 (by decide) ?_
          obtain ⟨q5, hq5, hF⟩ := bd hF
          refine sx_S (As := [.int (18 : Int32), .int (1 : Int32), .int (20 : Int32), .int (5 : Int32), .int (0 : Int32), .int (0 : Int32), .int (0 : Int32)]) (rest := []) (st1 := [.long q5]) (c_X5_spelled G l  (18 : Int32) (1 : Int32) (20 : Int32) (5 : Int32) (0 : Int32) (0 : Int32) (0 : Int32) q5 hq5) v_X5_107 ⟨(Nat.le_of_ble_eq_true rfl), (Nat.le_of_ble_eq_true rfl)⟩ hx hb hml hown hts hE hA hs ⟨Nat.le_refl 0, Nat.le_refl 0⟩ rfl rfl rfl hl.1 (Nat.le_of_ble_eq_true rfl) dX5_aboutWord_97 (List.Perm.refl _) (ws' := ([] : va_W)) (List.Perm.refl _) (fun H locs hs => ?_)
          exact sx_lret hx hb hr hlk hQ (Option.some.inj hF) rfl hs dX5_aboutWord_100
        · have hF := (if_neg hv1_3).symm.trans hF
          by_cases hv1_4 : x0 = (6 : Int32)
          · have hF := (if_pos hv1_4).symm.trans hF
            refine lv_tableIn (off := 100) (tgt := 101) hx hb dX5_aboutWord_1 (by rw [hv1_4]; decide) (by rw [hv1_4]; decide) (by rw [hv1_4]; decide) (by decide) ?_
            refine lv_bipush (v := (12 : Int32)) hx hb dX5_aboutWord_101 (by decide) ?_
            refine lv_bipush (v := (9 : Int32)) hx hb dX5_aboutWord_103 (by decide) ?_
            refine lv_bipush (v := (22 : Int32)) hx hb dX5_aboutWord_105 (by decide) ?_
            refine lv_iconst (v := (5 : Int32)) hx hb dX5_aboutWord_107 (by decide) ?_
            refine lv_bipush (v := (19 : Int32)) hx hb dX5_aboutWord_108 (by decide) ?_
            refine lv_iconst (v := (0 : Int32)) hx hb dX5_aboutWord_110 (by decide) ?_
            refine lv_iconst (v := (0 : Int32)) hx hb dX5_aboutWord_111 (by decide) ?_
            obtain ⟨q6, hq6, hF⟩ := bd hF
            refine sx_S (As := [.int (12 : Int32), .int (9 : Int32), .int (22 : Int32), .int (5 : Int32), .int (19 : Int32), .int (0 : Int32), .int (0 : Int32)]) (rest := []) (st1 := [.long q6]) (c_X5_spelled G l  (12 : Int32) (9 : Int32) (22 : Int32) (5 : Int32) (19 : Int32) (0 : Int32) (0 : Int32) q6 hq6) v_X5_107 ⟨(Nat.le_of_ble_eq_true rfl), (Nat.le_of_ble_eq_true rfl)⟩ hx hb hml hown hts hE hA hs ⟨Nat.le_refl 0, Nat.le_refl 0⟩ rfl rfl rfl hl.1 (Nat.le_of_ble_eq_true rfl) dX5_aboutWord_112 (List.Perm.refl _) (ws' := ([] : va_W)) (List.Perm.refl _) (fun H locs hs => ?_)
            exact sx_lret hx hb hr hlk hQ (Option.some.inj hF) rfl hs dX5_aboutWord_115
          · have hF := (if_neg hv1_4).symm.trans hF
            by_cases hv1_5 : x0 = (7 : Int32)
            · have hF := (if_pos hv1_5).symm.trans hF
              refine lv_tableIn (off := 115) (tgt := 116) hx hb dX5_aboutWord_1 (by rw [hv1_5]; decide) (by rw [hv1_5]; decide) (by rw [hv1_5]; decide) (by decide) ?_
              refine lv_bipush (v := (12 : Int32)) hx hb dX5_aboutWord_116 (by decide) ?_
              refine lv_iconst (v := (5 : Int32)) hx hb dX5_aboutWord_118 (by decide) ?_
              refine lv_iconst (v := (1 : Int32)) hx hb dX5_aboutWord_119 (by decide) ?_
              refine lv_bipush (v := (19 : Int32)) hx hb dX5_aboutWord_120 (by decide) ?_
              refine lv_bipush (v := (20 : Int32)) hx hb dX5_aboutWord_122 (by decide) ?_
              refine lv_iconst (v := (0 : Int32)) hx hb dX5_aboutWord_124 (by decide) ?_
              refine lv_iconst (v := (0 : Int32)) hx hb dX5_aboutWord_125 (by decide) ?_
              obtain ⟨q7, hq7, hF⟩ := bd hF
              refine sx_S (As := [.int (12 : Int32), .int (5 : Int32), .int (1 : Int32), .int (19 : Int32), .int (20 : Int32), .int (0 : Int32), .int (0 : Int32)]) (rest := []) (st1 := [.long q7]) (c_X5_spelled G l  (12 : Int32) (5 : Int32) (1 : Int32) (19 : Int32) (20 : Int32) (0 : Int32) (0 : Int32) q7 hq7) v_X5_107 ⟨(Nat.le_of_ble_eq_true rfl), (Nat.le_of_ble_eq_true rfl)⟩ hx hb hml hown hts hE hA hs ⟨Nat.le_refl 0, Nat.le_refl 0⟩ rfl rfl rfl hl.1 (Nat.le_of_ble_eq_true rfl) dX5_aboutWord_126 (List.Perm.refl _) (ws' := ([] : va_W)) (List.Perm.refl _) (fun H locs hs => ?_)
              exact sx_lret hx hb hr hlk hQ (Option.some.inj hF) rfl hs dX5_aboutWord_129
            · have hF := (if_neg hv1_5).symm.trans hF
              by_cases hv1_6 : x0 = (8 : Int32)
              · have hF := (if_pos hv1_6).symm.trans hF
                refine lv_tableIn (off := 129) (tgt := 130) hx hb dX5_aboutWord_1 (by rw [hv1_6]; decide) (by rw [hv1_6]; decide) (by rw [hv1_6]; decide) (by decide) ?_
                refine lv_iconst (v := (4 : Int32)) hx hb dX5_aboutWord_130 (by decide) ?_
                refine lv_bipush (v := (21 : Int32)) hx hb dX5_aboutWord_131 (by decide) ?_
                refine lv_iconst (v := (5 : Int32)) hx hb dX5_aboutWord_133 (by decide) ?_
                refine lv_iconst (v := (0 : Int32)) hx hb dX5_aboutWord_134 (by decide) ?_
                refine lv_iconst (v := (0 : Int32)) hx hb dX5_aboutWord_135 (by decide) ?_
                refine lv_iconst (v := (0 : Int32)) hx hb dX5_aboutWord_136 (by decide) ?_
                refine lv_iconst (v := (0 : Int32)) hx hb dX5_aboutWord_137 (by decide) ?_
                obtain ⟨q8, hq8, hF⟩ := bd hF
                refine sx_S (As := [.int (4 : Int32), .int (21 : Int32), .int (5 : Int32), .int (0 : Int32), .int (0 : Int32), .int (0 : Int32), .int (0 : Int32)]) (rest := []) (st1 := [.long q8]) (c_X5_spelled G l  (4 : Int32) (21 : Int32) (5 : Int32) (0 : Int32) (0 : Int32) (0 : Int32) (0 : Int32) q8 hq8) v_X5_107 ⟨(Nat.le_of_ble_eq_true rfl), (Nat.le_of_ble_eq_true rfl)⟩ hx hb hml hown hts hE hA hs ⟨Nat.le_refl 0, Nat.le_refl 0⟩ rfl rfl rfl hl.1 (Nat.le_of_ble_eq_true rfl) dX5_aboutWord_138 (List.Perm.refl _) (ws' := ([] : va_W)) (List.Perm.refl _) (fun H locs hs => ?_)
                exact sx_lret hx hb hr hlk hQ (Option.some.inj hF) rfl hs dX5_aboutWord_141
              · have hF := (if_neg hv1_6).symm.trans hF
                refine lv_tableOut (tgt := 142) hx hb dX5_aboutWord_1 (sw_out (lo := 2) (hi := 8) (fun z h1 h2 => by rcases (show z = 2 ∨ z = 3 ∨ z = 4 ∨ z = 5 ∨ z = 6 ∨ z = 7 ∨ z = 8 by omega) with rfl | rfl | rfl | rfl | rfl | rfl | rfl <;> intro hz <;> first | exact hv1_0 (Int32.toInt_inj.mp hz) | exact hv1_1 (Int32.toInt_inj.mp hz) | exact hv1_2 (Int32.toInt_inj.mp hz) | exact hv1_3 (Int32.toInt_inj.mp hz) | exact hv1_4 (Int32.toInt_inj.mp hz) | exact hv1_5 (Int32.toInt_inj.mp hz) | exact hv1_6 (Int32.toInt_inj.mp hz))) (by decide) ?_
                refine lv_bipush (v := (12 : Int32)) hx hb dX5_aboutWord_142 (by decide) ?_
                refine lv_iconst (v := (1 : Int32)) hx hb dX5_aboutWord_144 (by decide) ?_
                refine lv_bipush (v := (19 : Int32)) hx hb dX5_aboutWord_145 (by decide) ?_
                refine lv_bipush (v := (20 : Int32)) hx hb dX5_aboutWord_147 (by decide) ?_
                refine lv_iconst (v := (0 : Int32)) hx hb dX5_aboutWord_149 (by decide) ?_
                refine lv_iconst (v := (0 : Int32)) hx hb dX5_aboutWord_150 (by decide) ?_
                refine lv_iconst (v := (0 : Int32)) hx hb dX5_aboutWord_151 (by decide) ?_
                obtain ⟨q9, hq9, hF⟩ := bd hF
                refine sx_S (As := [.int (12 : Int32), .int (1 : Int32), .int (19 : Int32), .int (20 : Int32), .int (0 : Int32), .int (0 : Int32), .int (0 : Int32)]) (rest := []) (st1 := [.long q9]) (c_X5_spelled G l  (12 : Int32) (1 : Int32) (19 : Int32) (20 : Int32) (0 : Int32) (0 : Int32) (0 : Int32) q9 hq9) v_X5_107 ⟨(Nat.le_of_ble_eq_true rfl), (Nat.le_of_ble_eq_true rfl)⟩ hx hb hml hown hts hE hA hs ⟨Nat.le_refl 0, Nat.le_refl 0⟩ rfl rfl rfl hl.1 (Nat.le_of_ble_eq_true rfl) dX5_aboutWord_152 (List.Perm.refl _) (ws' := ([] : va_W)) (List.Perm.refl _) (fun H locs hs => ?_)
                exact sx_lret hx hb hr hlk hQ (Option.some.inj hF) rfl hs dX5_aboutWord_155
set_option maxHeartbeats 4000000 in
set_option maxRecDepth 100000 in
theorem c_X5_aboutHere (G : GT) (l : Launch) (a : Nat → Nat) (S : MS) (r : Int32) (hF : F_X5_aboutHere S = some r) : MT G l yX5_aboutHere cX5_aboutHere 2 (some .int) 2 48 [.ref (a 0)] (WM G a S) (some (.int r)) (WM G a S) := by
  refine MT.of (by decide) (Nat.le_of_ble_eq_true rfl) ?_
  intro p e s m args below meth c A ls hx hb hr hml hown hts hlk hE hA hs hl Q hQ
  have hl : lv_has ls 2 [(0, .ref (a 0))] := hl
  have hL2 : ∀ (k : Unit → Option (Int32)) (hk : ∀ (_u : Unit) (H : Heap) (locs : List Loc) (ls : Array Slot), k _u = some r → SI G A s H locs (WM G a S) → lv_has ls 2 [] → W p l e (RM 2 48) s m args below meth c H locs 0 0 Q (F0 m 27 ls [])) (fu : Nat) (x1 : Int32) (H : Heap) (locs : List Loc) (ls : Array Slot), lo1 (B_X5_aboutHere_2 S k) fu x1 = some r → SI G A s H locs (WM G a S) → lv_has ls 2 [(0, .ref (a 0)), (1, .int x1)] → W p l e (RM 2 48) s m args below meth c H locs 0 0 Q (F0 m 2 ls []) := by
    intro k hk fu
    induction fu with
    | zero =>
      intro x1 H locs ls hF hs hl
      exact nomatch (show (none : Option (Int32)) = some r from hF)
    | succ fu hrec =>
      intro x1 H locs ls hF hs hl
      have hF : (B_X5_aboutHere_2 S k) (lo1 (B_X5_aboutHere_2 S k) fu) x1 = some r := hF
      unfold B_X5_aboutHere_2 at hF
      refine lv_iload_n hx hb dX5_aboutHere_2 rfl (lv_at hl 1 rfl) ?_
      refine lv_bipush (v := (9 : Int32)) hx hb dX5_aboutHere_3 (by decide) ?_
      refine lv_icmp_gt (tgt := 27) hx hb dX5_aboutHere_5 (by decide) (fun hc => ?_) (fun hc => ?_)
      · have hF := (if_pos hc).symm.trans hF
        exact hk () _ _ _ hF hs (lv_sub hl [] rfl)
      · have hF := (if_neg hc).symm.trans hF
        refine lv_aload_n hx hb dX5_aboutHere_8 rfl (lv_at hl 0 rfl) ?_
        refine lv_iload_n hx hb dX5_aboutHere_9 rfl (lv_at hl 1 rfl) ?_
        obtain ⟨q1, hq1, hF⟩ := bd hF
        refine sx_S (As := [.int x1]) (rest := [.ref (a 0)]) (st1 := [.long q1, .ref (a 0)]) (c_X5_aboutWord G l  x1 q1 hq1) v_X5_111 ⟨(Nat.le_of_ble_eq_true rfl), (Nat.le_of_ble_eq_true rfl)⟩ hx hb hml hown hts hE hA hs ⟨Nat.le_refl 0, Nat.le_refl 0⟩ rfl rfl rfl hl.1 (Nat.le_of_ble_eq_true rfl) dX5_aboutHere_10 (List.Perm.refl _) (ws' := WM G a S) (List.Perm.refl _) (fun H locs hs => ?_)
        obtain ⟨q2, hq2, hF⟩ := bd hF
        refine sx_V (As := [.long q1]) (rest := []) (st1 := [.int q2]) (c_X5_isWord G l a S q1 q2 hq2) v_X5_115 ⟨(Nat.le_of_ble_eq_true rfl), (Nat.le_of_ble_eq_true rfl)⟩ hx hb hml hown hts hE hA hs ⟨Nat.le_refl 0, Nat.le_refl 0⟩ 0 rfl rfl rfl rfl rfl hl.1 (Nat.le_of_ble_eq_true rfl) dX5_aboutHere_13 (pmW _) (ws' := WM G a S) (pmW _) (fun H locs hs => ?_)
        refine lv_if_eq (tgt := 21) hx hb dX5_aboutHere_16 (by decide) (fun hc => ?_) (fun hc => ?_)
        · have hF := (if_pos hc).symm.trans hF
          obtain ⟨v3, ev3, hF⟩ := nm_some hF
          refine lv_iinc (v := v3) (lv' := [(1, .int v3), (0, .ref (a 0))]) hx hb dX5_aboutHere_21 hl (k := 1) rfl (by rw [ev3]; rfl) (by decide) rfl (fun ls hl => ?_)
          refine lv_goto (tgt := 2) hx hb dX5_aboutHere_24 (by decide) ?_
          exact hrec v3 _ _ _ hF hs (lv_sub hl [1, 0] rfl)
        · have hF := (if_neg hc).symm.trans hF
          refine lv_iload_n hx hb dX5_aboutHere_19 rfl (lv_at hl 1 rfl) ?_
          exact sx_iret hx hb hr hlk hQ (Option.some.inj hF) rfl hs dX5_aboutHere_20
  unfold F_X5_aboutHere at hF
  refine lv_iconst (v := (2 : Int32)) hx hb dX5_aboutHere_0 (by decide) ?_
  refine lv_istore_n (lv' := [(1, .int (2 : Int32)), (0, .ref (a 0))]) hx hb dX5_aboutHere_1 rfl hl (by decide) rfl (fun ls hl => ?_)
  refine hL2 _ (fun _u H locs ls hF hs hl => ?_) FU (2 : Int32) _ _ _ hF hs (lv_sub hl [1, 0] rfl)
  refine lv_iconst (v := (-1 : Int32)) hx hb dX5_aboutHere_27 (by decide) ?_
  exact sx_iret hx hb hr hlk hQ (Option.some.inj hF) rfl hs dX5_aboutHere_28
set_option maxHeartbeats 4000000 in
set_option maxRecDepth 100000 in
theorem c_X5_isName (G : GT) (l : Launch) (a : Nat → Nat) (S : MS) (r : Int32) (hF : F_X5_isName S = some r) : MT G l yX5_isName cX5_isName 1 (some .boolean) 3 69 [.ref (a 0)] (WM G a S) (some (.int r)) (WM G a S) := by
  refine MT.of (by decide) (Nat.le_of_ble_eq_true rfl) ?_
  intro p e s m args below meth c A ls hx hb hr hml hown hts hlk hE hA hs hl Q hQ
  have hl : lv_has ls 1 [(0, .ref (a 0))] := hl
  unfold F_X5_isName at hF
  refine lv_aload_n hx hb dX5_isName_0 rfl (lv_at hl 0 rfl) ?_
  refine fg_X5_98 hx hb hown hts hE hs 0 rfl (v := .int (m_wrong S)) rfl dX5_isName_1 ?_
  refine lv_if_ne (tgt := 32) hx hb dX5_isName_4 (by decide) (fun hc => ?_) (fun hc => ?_)
  · have hF := (if_neg hc).symm.trans hF
    refine lv_iconst (v := (0 : Int32)) hx hb dX5_isName_32 (by decide) ?_
    exact sx_zret hx hb hr hlk hQ (Or.inl rfl) (Option.some.inj hF) rfl hs dX5_isName_33
  · have hF := (if_pos hc).symm.trans hF
    refine lv_aload_n hx hb dX5_isName_7 rfl (lv_at hl 0 rfl) ?_
    refine fg_X5_77 hx hb hown hts hE hs 0 rfl (v := .int (m_sort S)) rfl dX5_isName_8 ?_
    refine lv_iconst (v := (1 : Int32)) hx hb dX5_isName_11 (by decide) ?_
    refine lv_icmp_ne (tgt := 32) hx hb dX5_isName_12 (by decide) (fun hc => ?_) (fun hc => ?_)
    · have hF := (if_neg hc).symm.trans hF
      refine lv_iconst (v := (0 : Int32)) hx hb dX5_isName_32 (by decide) ?_
      exact sx_zret hx hb hr hlk hQ (Or.inl rfl) (Option.some.inj hF) rfl hs dX5_isName_33
    · have hF := (if_pos hc).symm.trans hF
      refine lv_aload_n hx hb dX5_isName_15 rfl (lv_at hl 0 rfl) ?_
      refine fg_X5_74 hx hb hown hts hE hs 0 rfl (v := .int (m_many S)) rfl dX5_isName_16 ?_
      refine lv_bipush (v := (6 : Int32)) hx hb dX5_isName_19 (by decide) ?_
      refine lv_icmp_gt (tgt := 32) hx hb dX5_isName_21 (by decide) (fun hc => ?_) (fun hc => ?_)
      · have hF := (if_pos hc).symm.trans hF
        refine lv_iconst (v := (0 : Int32)) hx hb dX5_isName_32 (by decide) ?_
        exact sx_zret hx hb hr hlk hQ (Or.inl rfl) (Option.some.inj hF) rfl hs dX5_isName_33
      · have hF := (if_neg hc).symm.trans hF
        refine lv_aload_n hx hb dX5_isName_24 rfl (lv_at hl 0 rfl) ?_
        obtain ⟨q1, hq1, hF⟩ := bd hF
        refine sx_V (As := []) (rest := []) (st1 := [.int q1]) (c_X5_aboutHere G l a S q1 hq1) v_X5_119 ⟨(Nat.le_of_ble_eq_true rfl), (Nat.le_of_ble_eq_true rfl)⟩ hx hb hml hown hts hE hA hs ⟨Nat.le_refl 0, Nat.le_refl 0⟩ 0 rfl rfl rfl rfl rfl hl.1 (Nat.le_of_ble_eq_true rfl) dX5_isName_25 (pmW _) (ws' := WM G a S) (pmW _) (fun H locs hs => ?_)
        refine lv_iconst (v := (-1 : Int32)) hx hb dX5_isName_28 (by decide) ?_
        refine lv_icmp_eq (tgt := 34) hx hb dX5_isName_29 (by decide) (fun hc => ?_) (fun hc => ?_)
        · have hF := (if_pos hc).symm.trans hF
          refine lv_aload_n hx hb dX5_isName_34 rfl (lv_at hl 0 rfl) ?_
          obtain ⟨q2, hq2, hF⟩ := bd hF
          refine sx_S (As := []) (rest := [.ref (a 0)]) (st1 := [.long q2, .ref (a 0)]) (c_X5_shipWord G l  q2 hq2) v_X5_123 ⟨(Nat.le_of_ble_eq_true rfl), (Nat.le_of_ble_eq_true rfl)⟩ hx hb hml hown hts hE hA hs ⟨Nat.le_refl 0, Nat.le_refl 0⟩ rfl rfl rfl hl.1 (Nat.le_of_ble_eq_true rfl) dX5_isName_35 (List.Perm.refl _) (ws' := WM G a S) (List.Perm.refl _) (fun H locs hs => ?_)
          obtain ⟨q3, hq3, hF⟩ := bd hF
          refine sx_V (As := [.long q2]) (rest := []) (st1 := [.int q3]) (c_X5_isWord G l a S q2 q3 hq3) v_X5_115 ⟨(Nat.le_of_ble_eq_true rfl), (Nat.le_of_ble_eq_true rfl)⟩ hx hb hml hown hts hE hA hs ⟨Nat.le_refl 0, Nat.le_refl 0⟩ 0 rfl rfl rfl rfl rfl hl.1 (Nat.le_of_ble_eq_true rfl) dX5_isName_38 (pmW _) (ws' := WM G a S) (pmW _) (fun H locs hs => ?_)
          refine lv_if_ne (tgt := 84) hx hb dX5_isName_41 (by decide) (fun hc => ?_) (fun hc => ?_)
          · have hF := (if_neg hc).symm.trans hF
            refine lv_iconst (v := (0 : Int32)) hx hb dX5_isName_84 (by decide) ?_
            exact sx_zret hx hb hr hlk hQ (Or.inl rfl) (Option.some.inj hF) rfl hs dX5_isName_85
          · have hF := (if_pos hc).symm.trans hF
            refine lv_aload_n hx hb dX5_isName_44 rfl (lv_at hl 0 rfl) ?_
            obtain ⟨q4, hq4, hF⟩ := bd hF
            refine sx_S (As := []) (rest := [.ref (a 0)]) (st1 := [.long q4, .ref (a 0)]) (c_X5_tonsWord G l  q4 hq4) v_X5_127 ⟨(Nat.le_of_ble_eq_true rfl), (Nat.le_of_ble_eq_true rfl)⟩ hx hb hml hown hts hE hA hs ⟨Nat.le_refl 0, Nat.le_refl 0⟩ rfl rfl rfl hl.1 (Nat.le_of_ble_eq_true rfl) dX5_isName_45 (List.Perm.refl _) (ws' := WM G a S) (List.Perm.refl _) (fun H locs hs => ?_)
            obtain ⟨q5, hq5, hF⟩ := bd hF
            refine sx_V (As := [.long q4]) (rest := []) (st1 := [.int q5]) (c_X5_isWord G l a S q4 q5 hq5) v_X5_115 ⟨(Nat.le_of_ble_eq_true rfl), (Nat.le_of_ble_eq_true rfl)⟩ hx hb hml hown hts hE hA hs ⟨Nat.le_refl 0, Nat.le_refl 0⟩ 0 rfl rfl rfl rfl rfl hl.1 (Nat.le_of_ble_eq_true rfl) dX5_isName_48 (pmW _) (ws' := WM G a S) (pmW _) (fun H locs hs => ?_)
            refine lv_if_ne (tgt := 84) hx hb dX5_isName_51 (by decide) (fun hc => ?_) (fun hc => ?_)
            · have hF := (if_neg hc).symm.trans hF
              refine lv_iconst (v := (0 : Int32)) hx hb dX5_isName_84 (by decide) ?_
              exact sx_zret hx hb hr hlk hQ (Or.inl rfl) (Option.some.inj hF) rfl hs dX5_isName_85
            · have hF := (if_pos hc).symm.trans hF
              refine lv_aload_n hx hb dX5_isName_54 rfl (lv_at hl 0 rfl) ?_
              obtain ⟨q6, hq6, hF⟩ := bd hF
              refine sx_S (As := []) (rest := [.ref (a 0)]) (st1 := [.long q6, .ref (a 0)]) (c_X5_faultWord G l  q6 hq6) v_X5_130 ⟨(Nat.le_of_ble_eq_true rfl), (Nat.le_of_ble_eq_true rfl)⟩ hx hb hml hown hts hE hA hs ⟨Nat.le_refl 0, Nat.le_refl 0⟩ rfl rfl rfl hl.1 (Nat.le_of_ble_eq_true rfl) dX5_isName_55 (List.Perm.refl _) (ws' := WM G a S) (List.Perm.refl _) (fun H locs hs => ?_)
              obtain ⟨q7, hq7, hF⟩ := bd hF
              refine sx_V (As := [.long q6]) (rest := []) (st1 := [.int q7]) (c_X5_isWord G l a S q6 q7 hq7) v_X5_115 ⟨(Nat.le_of_ble_eq_true rfl), (Nat.le_of_ble_eq_true rfl)⟩ hx hb hml hown hts hE hA hs ⟨Nat.le_refl 0, Nat.le_refl 0⟩ 0 rfl rfl rfl rfl rfl hl.1 (Nat.le_of_ble_eq_true rfl) dX5_isName_58 (pmW _) (ws' := WM G a S) (pmW _) (fun H locs hs => ?_)
              refine lv_if_ne (tgt := 84) hx hb dX5_isName_61 (by decide) (fun hc => ?_) (fun hc => ?_)
              · have hF := (if_neg hc).symm.trans hF
                refine lv_iconst (v := (0 : Int32)) hx hb dX5_isName_84 (by decide) ?_
                exact sx_zret hx hb hr hlk hQ (Or.inl rfl) (Option.some.inj hF) rfl hs dX5_isName_85
              · have hF := (if_pos hc).symm.trans hF
                refine lv_aload_n hx hb dX5_isName_64 rfl (lv_at hl 0 rfl) ?_
                obtain ⟨q8, hq8, hF⟩ := bd hF
                refine sx_S (As := []) (rest := [.ref (a 0)]) (st1 := [.long q8, .ref (a 0)]) (c_X5_hullWord G l  q8 hq8) v_X5_133 ⟨(Nat.le_of_ble_eq_true rfl), (Nat.le_of_ble_eq_true rfl)⟩ hx hb hml hown hts hE hA hs ⟨Nat.le_refl 0, Nat.le_refl 0⟩ rfl rfl rfl hl.1 (Nat.le_of_ble_eq_true rfl) dX5_isName_65 (List.Perm.refl _) (ws' := WM G a S) (List.Perm.refl _) (fun H locs hs => ?_)
                obtain ⟨q9, hq9, hF⟩ := bd hF
                refine sx_V (As := [.long q8]) (rest := []) (st1 := [.int q9]) (c_X5_isWord G l a S q8 q9 hq9) v_X5_115 ⟨(Nat.le_of_ble_eq_true rfl), (Nat.le_of_ble_eq_true rfl)⟩ hx hb hml hown hts hE hA hs ⟨Nat.le_refl 0, Nat.le_refl 0⟩ 0 rfl rfl rfl rfl rfl hl.1 (Nat.le_of_ble_eq_true rfl) dX5_isName_68 (pmW _) (ws' := WM G a S) (pmW _) (fun H locs hs => ?_)
                refine lv_if_ne (tgt := 84) hx hb dX5_isName_71 (by decide) (fun hc => ?_) (fun hc => ?_)
                · have hF := (if_neg hc).symm.trans hF
                  refine lv_iconst (v := (0 : Int32)) hx hb dX5_isName_84 (by decide) ?_
                  exact sx_zret hx hb hr hlk hQ (Or.inl rfl) (Option.some.inj hF) rfl hs dX5_isName_85
                · have hF := (if_pos hc).symm.trans hF
                  refine lv_aload_n hx hb dX5_isName_74 rfl (lv_at hl 0 rfl) ?_
                  obtain ⟨q10, hq10, hF⟩ := bd hF
                  refine sx_S (As := []) (rest := [.ref (a 0)]) (st1 := [.long q10, .ref (a 0)]) (c_X5_valueWord G l  q10 hq10) v_X5_136 ⟨(Nat.le_of_ble_eq_true rfl), (Nat.le_of_ble_eq_true rfl)⟩ hx hb hml hown hts hE hA hs ⟨Nat.le_refl 0, Nat.le_refl 0⟩ rfl rfl rfl hl.1 (Nat.le_of_ble_eq_true rfl) dX5_isName_75 (List.Perm.refl _) (ws' := WM G a S) (List.Perm.refl _) (fun H locs hs => ?_)
                  obtain ⟨q11, hq11, hF⟩ := bd hF
                  refine sx_V (As := [.long q10]) (rest := []) (st1 := [.int q11]) (c_X5_isWord G l a S q10 q11 hq11) v_X5_115 ⟨(Nat.le_of_ble_eq_true rfl), (Nat.le_of_ble_eq_true rfl)⟩ hx hb hml hown hts hE hA hs ⟨Nat.le_refl 0, Nat.le_refl 0⟩ 0 rfl rfl rfl rfl rfl hl.1 (Nat.le_of_ble_eq_true rfl) dX5_isName_78 (pmW _) (ws' := WM G a S) (pmW _) (fun H locs hs => ?_)
                  refine lv_if_eq (tgt := 86) hx hb dX5_isName_81 (by decide) (fun hc => ?_) (fun hc => ?_)
                  · have hF := (if_pos hc).symm.trans hF
                    refine lv_aload_n hx hb dX5_isName_86 rfl (lv_at hl 0 rfl) ?_
                    obtain ⟨q12, hq12, hF⟩ := bd hF
                    refine sx_S (As := []) (rest := [.ref (a 0)]) (st1 := [.long q12, .ref (a 0)]) (c_X5_clauseWord G l  q12 hq12) v_X5_139 ⟨(Nat.le_of_ble_eq_true rfl), (Nat.le_of_ble_eq_true rfl)⟩ hx hb hml hown hts hE hA hs ⟨Nat.le_refl 0, Nat.le_refl 0⟩ rfl rfl rfl hl.1 (Nat.le_of_ble_eq_true rfl) dX5_isName_87 (List.Perm.refl _) (ws' := WM G a S) (List.Perm.refl _) (fun H locs hs => ?_)
                    obtain ⟨q13, hq13, hF⟩ := bd hF
                    refine sx_V (As := [.long q12]) (rest := []) (st1 := [.int q13]) (c_X5_isWord G l a S q12 q13 hq13) v_X5_115 ⟨(Nat.le_of_ble_eq_true rfl), (Nat.le_of_ble_eq_true rfl)⟩ hx hb hml hown hts hE hA hs ⟨Nat.le_refl 0, Nat.le_refl 0⟩ 0 rfl rfl rfl rfl rfl hl.1 (Nat.le_of_ble_eq_true rfl) dX5_isName_90 (pmW _) (ws' := WM G a S) (pmW _) (fun H locs hs => ?_)
                    refine lv_if_ne (tgt := 140) hx hb dX5_isName_93 (by decide) (fun hc => ?_) (fun hc => ?_)
                    · have hF := (if_neg hc).symm.trans hF
                      refine lv_iconst (v := (0 : Int32)) hx hb dX5_isName_140 (by decide) ?_
                      exact sx_zret hx hb hr hlk hQ (Or.inl rfl) (Option.some.inj hF) rfl hs dX5_isName_141
                    · have hF := (if_pos hc).symm.trans hF
                      refine lv_aload_n hx hb dX5_isName_96 rfl (lv_at hl 0 rfl) ?_
                      obtain ⟨q14, hq14, hF⟩ := bd hF
                      refine sx_S (As := []) (rest := [.ref (a 0)]) (st1 := [.long q14, .ref (a 0)]) (c_X5_barredWord G l  q14 hq14) v_X5_142 ⟨(Nat.le_of_ble_eq_true rfl), (Nat.le_of_ble_eq_true rfl)⟩ hx hb hml hown hts hE hA hs ⟨Nat.le_refl 0, Nat.le_refl 0⟩ rfl rfl rfl hl.1 (Nat.le_of_ble_eq_true rfl) dX5_isName_97 (List.Perm.refl _) (ws' := WM G a S) (List.Perm.refl _) (fun H locs hs => ?_)
                      obtain ⟨q15, hq15, hF⟩ := bd hF
                      refine sx_V (As := [.long q14]) (rest := []) (st1 := [.int q15]) (c_X5_isWord G l a S q14 q15 hq15) v_X5_115 ⟨(Nat.le_of_ble_eq_true rfl), (Nat.le_of_ble_eq_true rfl)⟩ hx hb hml hown hts hE hA hs ⟨Nat.le_refl 0, Nat.le_refl 0⟩ 0 rfl rfl rfl rfl rfl hl.1 (Nat.le_of_ble_eq_true rfl) dX5_isName_100 (pmW _) (ws' := WM G a S) (pmW _) (fun H locs hs => ?_)
                      refine lv_if_ne (tgt := 140) hx hb dX5_isName_103 (by decide) (fun hc => ?_) (fun hc => ?_)
                      · have hF := (if_neg hc).symm.trans hF
                        refine lv_iconst (v := (0 : Int32)) hx hb dX5_isName_140 (by decide) ?_
                        exact sx_zret hx hb hr hlk hQ (Or.inl rfl) (Option.some.inj hF) rfl hs dX5_isName_141
                      · have hF := (if_pos hc).symm.trans hF
                        refine lv_aload_n hx hb dX5_isName_106 rfl (lv_at hl 0 rfl) ?_
                        obtain ⟨q16, hq16, hF⟩ := bd hF
                        refine sx_S (As := []) (rest := [.ref (a 0)]) (st1 := [.long q16, .ref (a 0)]) (c_X5_goodsWord G l  q16 hq16) v_X5_145 ⟨(Nat.le_of_ble_eq_true rfl), (Nat.le_of_ble_eq_true rfl)⟩ hx hb hml hown hts hE hA hs ⟨Nat.le_refl 0, Nat.le_refl 0⟩ rfl rfl rfl hl.1 (Nat.le_of_ble_eq_true rfl) dX5_isName_107 (List.Perm.refl _) (ws' := WM G a S) (List.Perm.refl _) (fun H locs hs => ?_)
                        obtain ⟨q17, hq17, hF⟩ := bd hF
                        refine sx_V (As := [.long q16]) (rest := []) (st1 := [.int q17]) (c_X5_isWord G l a S q16 q17 hq17) v_X5_115 ⟨(Nat.le_of_ble_eq_true rfl), (Nat.le_of_ble_eq_true rfl)⟩ hx hb hml hown hts hE hA hs ⟨Nat.le_refl 0, Nat.le_refl 0⟩ 0 rfl rfl rfl rfl rfl hl.1 (Nat.le_of_ble_eq_true rfl) dX5_isName_110 (pmW _) (ws' := WM G a S) (pmW _) (fun H locs hs => ?_)
                        refine lv_if_ne (tgt := 140) hx hb dX5_isName_113 (by decide) (fun hc => ?_) (fun hc => ?_)
                        · have hF := (if_neg hc).symm.trans hF
                          refine lv_iconst (v := (0 : Int32)) hx hb dX5_isName_140 (by decide) ?_
                          exact sx_zret hx hb hr hlk hQ (Or.inl rfl) (Option.some.inj hF) rfl hs dX5_isName_141
                        · have hF := (if_pos hc).symm.trans hF
                          refine lv_aload_n hx hb dX5_isName_116 rfl (lv_at hl 0 rfl) ?_
                          obtain ⟨q18, hq18, hF⟩ := bd hF
                          refine sx_S (As := []) (rest := [.ref (a 0)]) (st1 := [.long q18, .ref (a 0)]) (c_X5_othersWord G l  q18 hq18) v_X5_148 ⟨(Nat.le_of_ble_eq_true rfl), (Nat.le_of_ble_eq_true rfl)⟩ hx hb hml hown hts hE hA hs ⟨Nat.le_refl 0, Nat.le_refl 0⟩ rfl rfl rfl hl.1 (Nat.le_of_ble_eq_true rfl) dX5_isName_117 (List.Perm.refl _) (ws' := WM G a S) (List.Perm.refl _) (fun H locs hs => ?_)
                          obtain ⟨q19, hq19, hF⟩ := bd hF
                          refine sx_V (As := [.long q18]) (rest := []) (st1 := [.int q19]) (c_X5_isWord G l a S q18 q19 hq19) v_X5_115 ⟨(Nat.le_of_ble_eq_true rfl), (Nat.le_of_ble_eq_true rfl)⟩ hx hb hml hown hts hE hA hs ⟨Nat.le_refl 0, Nat.le_refl 0⟩ 0 rfl rfl rfl rfl rfl hl.1 (Nat.le_of_ble_eq_true rfl) dX5_isName_120 (pmW _) (ws' := WM G a S) (pmW _) (fun H locs hs => ?_)
                          refine lv_if_ne (tgt := 140) hx hb dX5_isName_123 (by decide) (fun hc => ?_) (fun hc => ?_)
                          · have hF := (if_neg hc).symm.trans hF
                            refine lv_iconst (v := (0 : Int32)) hx hb dX5_isName_140 (by decide) ?_
                            exact sx_zret hx hb hr hlk hQ (Or.inl rfl) (Option.some.inj hF) rfl hs dX5_isName_141
                          · have hF := (if_pos hc).symm.trans hF
                            refine lv_aload_n hx hb dX5_isName_126 rfl (lv_at hl 0 rfl) ?_
                            obtain ⟨q20, hq20, hF⟩ := bd hF
                            refine sx_S (As := []) (rest := [.ref (a 0)]) (st1 := [.long q20, .ref (a 0)]) (c_X5_dayWord G l  q20 hq20) v_X5_151 ⟨(Nat.le_of_ble_eq_true rfl), (Nat.le_of_ble_eq_true rfl)⟩ hx hb hml hown hts hE hA hs ⟨Nat.le_refl 0, Nat.le_refl 0⟩ rfl rfl rfl hl.1 (Nat.le_of_ble_eq_true rfl) dX5_isName_127 (List.Perm.refl _) (ws' := WM G a S) (List.Perm.refl _) (fun H locs hs => ?_)
                            obtain ⟨q21, hq21, hF⟩ := bd hF
                            refine sx_V (As := [.long q20]) (rest := []) (st1 := [.int q21]) (c_X5_isWord G l a S q20 q21 hq21) v_X5_115 ⟨(Nat.le_of_ble_eq_true rfl), (Nat.le_of_ble_eq_true rfl)⟩ hx hb hml hown hts hE hA hs ⟨Nat.le_refl 0, Nat.le_refl 0⟩ 0 rfl rfl rfl rfl rfl hl.1 (Nat.le_of_ble_eq_true rfl) dX5_isName_130 (pmW _) (ws' := WM G a S) (pmW _) (fun H locs hs => ?_)
                            refine lv_if_ne (tgt := 140) hx hb dX5_isName_133 (by decide) (fun hc => ?_) (fun hc => ?_)
                            · have hF := (if_neg hc).symm.trans hF
                              refine lv_iconst (v := (0 : Int32)) hx hb dX5_isName_140 (by decide) ?_
                              exact sx_zret hx hb hr hlk hQ (Or.inl rfl) (Option.some.inj hF) rfl hs dX5_isName_141
                            · have hF := (if_pos hc).symm.trans hF
                              refine lv_iconst (v := (1 : Int32)) hx hb dX5_isName_136 (by decide) ?_
                              refine lv_goto (tgt := 141) hx hb dX5_isName_137 (by decide) ?_
                              exact sx_zret hx hb hr hlk hQ (Or.inr rfl) (Option.some.inj hF) rfl hs dX5_isName_141
                  · have hF := (if_neg hc).symm.trans hF
                    refine lv_iconst (v := (0 : Int32)) hx hb dX5_isName_84 (by decide) ?_
                    exact sx_zret hx hb hr hlk hQ (Or.inl rfl) (Option.some.inj hF) rfl hs dX5_isName_85
        · have hF := (if_neg hc).symm.trans hF
          refine lv_iconst (v := (0 : Int32)) hx hb dX5_isName_32 (by decide) ?_
          exact sx_zret hx hb hr hlk hQ (Or.inl rfl) (Option.some.inj hF) rfl hs dX5_isName_33
set_option maxHeartbeats 4000000 in
set_option maxRecDepth 100000 in
theorem c_X5_shipNamed (G : GT) (l : Launch) (a : Nat → Nat) (S : MS) (r : Int32) (hF : F_X5_shipNamed S = some r) : MT G l yX5_shipNamed cX5_shipNamed 2 (some .int) 0 0 [.ref (a 0)] (WM G a S) (some (.int r)) (WM G a S) := by
  refine MT.of (by decide) (Nat.le_of_ble_eq_true rfl) ?_
  intro p e s m args below meth c A ls hx hb hr hml hown hts hlk hE hA hs hl Q hQ
  have hl : lv_has ls 2 [(0, .ref (a 0))] := hl
  have hL2 : ∀ (k : Unit → Option (Int32)) (hk : ∀ (_u : Unit) (H : Heap) (locs : List Loc) (ls : Array Slot), k _u = some r → SI G A s H locs (WM G a S) → lv_has ls 2 [] → W p l e (RM 0 0) s m args below meth c H locs 0 0 Q (F0 m 34 ls [])) (fu : Nat) (x1 : Int32) (H : Heap) (locs : List Loc) (ls : Array Slot), lo1 (B_X5_shipNamed_2 S k) fu x1 = some r → SI G A s H locs (WM G a S) → lv_has ls 2 [(0, .ref (a 0)), (1, .int x1)] → W p l e (RM 0 0) s m args below meth c H locs 0 0 Q (F0 m 2 ls []) := by
    intro k hk fu
    induction fu with
    | zero =>
      intro x1 H locs ls hF hs hl
      exact nomatch (show (none : Option (Int32)) = some r from hF)
    | succ fu hrec =>
      intro x1 H locs ls hF hs hl
      have hF : (B_X5_shipNamed_2 S k) (lo1 (B_X5_shipNamed_2 S k) fu) x1 = some r := hF
      unfold B_X5_shipNamed_2 at hF
      refine lv_iload_n hx hb dX5_shipNamed_2 rfl (lv_at hl 1 rfl) ?_
      refine lv_aload_n hx hb dX5_shipNamed_3 rfl (lv_at hl 0 rfl) ?_
      refine fg_X5_20 hx hb hown hts hE hs 0 rfl (v := .ref (a 3)) rfl dX5_shipNamed_4 ?_
      refine lv_iconst (v := (0 : Int32)) hx hb dX5_shipNamed_7 (by decide) ?_
      obtain ⟨v1, hv1, hF⟩ := bd hF
      refine sx_iald hx hb hE hs 3 (f := m_read S) rfl hv1 dX5_shipNamed_8 ?_
      refine lv_icmp_ge (tgt := 34) hx hb dX5_shipNamed_9 (by decide) (fun hc => ?_) (fun hc => ?_)
      · have hF := (if_pos hc).symm.trans hF
        exact hk () _ _ _ hF hs (lv_sub hl [] rfl)
      · have hF := (if_neg hc).symm.trans hF
        refine lv_aload_n hx hb dX5_shipNamed_12 rfl (lv_at hl 0 rfl) ?_
        refine fg_X5_37 hx hb hown hts hE hs 0 rfl (v := .ref (a 8)) rfl dX5_shipNamed_13 ?_
        refine lv_iload_n hx hb dX5_shipNamed_16 rfl (lv_at hl 1 rfl) ?_
        obtain ⟨v2, hv2, hF⟩ := bd hF
        refine sx_lald hx hb hE hs 8 (f := m_readNames S) rfl hv2 dX5_shipNamed_17 ?_
        refine lv_aload_n hx hb dX5_shipNamed_18 rfl (lv_at hl 0 rfl) ?_
        refine fg_X5_84 hx hb hown hts hE hs 0 rfl (v := .long (m_word S)) rfl dX5_shipNamed_19 ?_
        refine W.lcmp hx hb dX5_shipNamed_22 ?_
        refine lv_if_ne (tgt := 28) hx hb dX5_shipNamed_23 (by decide) (fun hc => ?_) (fun hc => ?_)
        · have hF := (if_neg hc).symm.trans hF
          obtain ⟨v3, ev3, hF⟩ := nm_some hF
          refine lv_iinc (v := v3) (lv' := [(1, .int v3), (0, .ref (a 0))]) hx hb dX5_shipNamed_28 hl (k := 1) rfl (by rw [ev3]; rfl) (by decide) rfl (fun ls hl => ?_)
          refine lv_goto (tgt := 2) hx hb dX5_shipNamed_31 (by decide) ?_
          exact hrec v3 _ _ _ hF hs (lv_sub hl [1, 0] rfl)
        · have hF := (if_pos hc).symm.trans hF
          refine lv_iload_n hx hb dX5_shipNamed_26 rfl (lv_at hl 1 rfl) ?_
          exact sx_iret hx hb hr hlk hQ (Option.some.inj hF) rfl hs dX5_shipNamed_27
  unfold F_X5_shipNamed at hF
  refine lv_iconst (v := (0 : Int32)) hx hb dX5_shipNamed_0 (by decide) ?_
  refine lv_istore_n (lv' := [(1, .int (0 : Int32)), (0, .ref (a 0))]) hx hb dX5_shipNamed_1 rfl hl (by decide) rfl (fun ls hl => ?_)
  refine hL2 _ (fun _u H locs ls hF hs hl => ?_) FU (0 : Int32) _ _ _ hF hs (lv_sub hl [1, 0] rfl)
  refine lv_iconst (v := (-1 : Int32)) hx hb dX5_shipNamed_34 (by decide) ?_
  exact sx_iret hx hb hr hlk hQ (Option.some.inj hF) rfl hs dX5_shipNamed_35
set_option maxHeartbeats 4000000 in
set_option maxRecDepth 100000 in
theorem c_X5_takes (G : GT) (l : Launch) (a : Nat → Nat) (S : MS) (x1 : Int64) (r : MS) (hF : F_X5_takes S x1 = some r) : MT G l yX5_takes cX5_takes 3 (none) 3 62 [.ref (a 0), .long x1] (WM G a S) none (WM G a r) := by
  refine MT.of (by decide) (Nat.le_of_ble_eq_true rfl) ?_
  intro p e s m args below meth c A ls hx hb hr hml hown hts hlk hE hA hs hl Q hQ
  have hl : lv_has ls 3 [(0, .ref (a 0)), (1, .long x1)] := hl
  have hJ13_n : ∀ (S : MS) (H : Heap) (locs : List Loc) (ls : Array Slot), J_X5_takes_13 S = some r → SI G A s H locs (WM G a S) → lv_has ls 3 [(0, .ref (a 0))] → W p l e (RM 3 62) s m args below meth c H locs 0 0 Q (F0 m 13 ls []) := by
    intro S H locs ls hF hs hl
    unfold J_X5_takes_13 at hF
    refine lv_aload_n hx hb dX5_takes_13 rfl (lv_at hl 0 rfl) ?_
    obtain ⟨q2, hq2, hF⟩ := bd hF
    refine sx_V (As := []) (rest := []) (st1 := []) (c_X5_goesOn G l a S q2 hq2) v_X5_158 ⟨(Nat.le_of_ble_eq_true rfl), (Nat.le_of_ble_eq_true rfl)⟩ hx hb hml hown hts hE hA hs ⟨Nat.le_refl 0, Nat.le_refl 0⟩ 0 rfl rfl rfl rfl rfl hl.1 (Nat.le_of_ble_eq_true rfl) dX5_takes_14 (pmW _) (ws' := WM G a q2) (pmW _) (fun H locs hs => ?_)
    exact sx_vret hx hb hr hlk hQ (congrArg (fun z => WM G a z) (Option.some.inj hF)) hs dX5_takes_17
  unfold F_X5_takes at hF
  refine lv_aload_n hx hb dX5_takes_0 rfl (lv_at hl 0 rfl) ?_
  refine lv_lload_n hx hb dX5_takes_1 rfl (lv_at hl 1 rfl) ?_
  obtain ⟨q1, hq1, hF⟩ := bd hF
  refine sx_V (As := [.long x1]) (rest := []) (st1 := [.int q1]) (c_X5_isWord G l a S x1 q1 hq1) v_X5_115 ⟨(Nat.le_of_ble_eq_true rfl), (Nat.le_of_ble_eq_true rfl)⟩ hx hb hml hown hts hE hA hs ⟨Nat.le_refl 0, Nat.le_refl 0⟩ 0 rfl rfl rfl rfl rfl hl.1 (Nat.le_of_ble_eq_true rfl) dX5_takes_2 (pmW _) (ws' := WM G a S) (pmW _) (fun H locs hs => ?_)
  refine lv_if_ne (tgt := 13) hx hb dX5_takes_5 (by decide) (fun hc => ?_) (fun hc => ?_)
  · have hF := (if_neg hc).symm.trans hF
    exact hJ13_n S _ _ _ hF hs (lv_sub hl [0] rfl)
  · have hF := (if_pos hc).symm.trans hF
    refine lv_aload_n hx hb dX5_takes_8 rfl (lv_at hl 0 rfl) ?_
    refine lv_iconst (v := (1 : Int32)) hx hb dX5_takes_9 (by decide) ?_
    obtain ⟨q3, hq3, hF⟩ := bd hF
    refine sx_V (As := [.int (1 : Int32)]) (rest := []) (st1 := []) (c_X5_fails G l a S (1 : Int32) q3 hq3) v_X5_154 ⟨(Nat.le_of_ble_eq_true rfl), (Nat.le_of_ble_eq_true rfl)⟩ hx hb hml hown hts hE hA hs ⟨Nat.le_refl 0, Nat.le_refl 0⟩ 0 rfl rfl rfl rfl rfl hl.1 (Nat.le_of_ble_eq_true rfl) dX5_takes_10 (pmW _) (ws' := WM G a q3) (pmW _) (fun H locs hs => ?_)
    exact hJ13_n q3 _ _ _ hF hs (lv_sub hl [0] rfl)
set_option maxHeartbeats 4000000 in
set_option maxRecDepth 100000 in
theorem c_X5_whole (G : GT) (l : Launch) (a : Nat → Nat) (S : MS) (x1 : Int32) (x2 : Int32) (r : Int32 × MS) (hF : F_X5_whole S x1 x2 = some r) : MT G l yX5_whole cX5_whole 4 (some .int) 3 62 [.ref (a 0), .int x1, .int x2] (WM G a S) (some (.int r.1)) (WM G a r.2) := by
  refine MT.of (by decide) (Nat.le_of_ble_eq_true rfl) ?_
  intro p e s m args below meth c A ls hx hb hr hml hown hts hlk hE hA hs hl Q hQ
  have hl : lv_has ls 4 [(0, .ref (a 0)), (1, .int x1), (2, .int x2)] := hl
  have hJ36_n : ∀ (S : MS) (H : Heap) (locs : List Loc) (ls : Array Slot), J_X5_whole_36 S = some r → SI G A s H locs (WM G a S) → lv_has ls 4 [(0, .ref (a 0))] → W p l e (RM 3 62) s m args below meth c H locs 0 0 Q (F0 m 36 ls []) := by
    intro S H locs ls hF hs hl
    unfold J_X5_whole_36 at hF
    refine lv_aload_n hx hb dX5_whole_36 rfl (lv_at hl 0 rfl) ?_
    refine fg_X5_95 hx hb hown hts hE hs 0 rfl (v := .int (m_number S)) rfl dX5_whole_37 ?_
    obtain ⟨v2, ev2, hF⟩ := nm_some hF
    refine sx_topi ev2 ?_
    refine lv_istore_n (lv' := [(3, .int v2), (0, .ref (a 0))]) hx hb dX5_whole_40 rfl hl (by decide) rfl (fun ls hl => ?_)
    refine lv_aload_n hx hb dX5_whole_41 rfl (lv_at hl 1 rfl) ?_
    obtain ⟨q3, hq3, hF⟩ := bd hF
    refine sx_V (As := []) (rest := []) (st1 := []) (c_X5_goesOn G l a S q3 hq3) v_X5_158 ⟨(Nat.le_of_ble_eq_true rfl), (Nat.le_of_ble_eq_true rfl)⟩ hx hb hml hown hts hE hA hs ⟨Nat.le_refl 0, Nat.le_refl 0⟩ 0 rfl rfl rfl rfl rfl hl.1 (Nat.le_of_ble_eq_true rfl) dX5_whole_42 (pmW _) (ws' := WM G a q3) (pmW _) (fun H locs hs => ?_)
    refine lv_iload_n hx hb dX5_whole_45 rfl (lv_at hl 0 rfl) ?_
    exact sx_iret hx hb hr hlk hQ (congrArg Prod.fst (Option.some.inj hF)) (congrArg (fun z => WM G a z) (congrArg Prod.snd (Option.some.inj hF))) hs dX5_whole_46
  unfold F_X5_whole at hF
  refine lv_aload_n hx hb dX5_whole_0 rfl (lv_at hl 0 rfl) ?_
  refine fg_X5_77 hx hb hown hts hE hs 0 rfl (v := .int (m_sort S)) rfl dX5_whole_1 ?_
  refine lv_iconst (v := (2 : Int32)) hx hb dX5_whole_4 (by decide) ?_
  refine lv_icmp_eq (tgt := 16) hx hb dX5_whole_5 (by decide) (fun hc => ?_) (fun hc => ?_)
  · have hF := (if_pos hc).symm.trans hF
    refine lv_aload_n hx hb dX5_whole_16 rfl (lv_at hl 0 rfl) ?_
    refine fg_X5_95 hx hb hown hts hE hs 0 rfl (v := .int (m_number S)) rfl dX5_whole_17 ?_
    refine lv_i2l hx hb dX5_whole_20 rfl ?_
    refine lv_iload_n hx hb dX5_whole_21 rfl (lv_at hl 1 rfl) ?_
    refine lv_i2l hx hb dX5_whole_22 rfl ?_
    refine lv_iload_n hx hb dX5_whole_23 rfl (lv_at hl 2 rfl) ?_
    refine lv_i2l hx hb dX5_whole_24 rfl ?_
    obtain ⟨q1, hq1, hF⟩ := bd hF
    refine sx_S (As := [.long ((m_number S).toInt64), .long x1.toInt64, .long x2.toInt64]) (rest := []) (st1 := [.int q1]) (c_X5_in G l  ((m_number S).toInt64) x1.toInt64 x2.toInt64 q1 hq1) v_X5_161 ⟨(Nat.le_of_ble_eq_true rfl), (Nat.le_of_ble_eq_true rfl)⟩ hx hb hml hown hts hE hA hs ⟨Nat.le_refl 0, Nat.le_refl 0⟩ rfl rfl rfl hl.1 (Nat.le_of_ble_eq_true rfl) dX5_whole_25 (List.Perm.refl _) (ws' := WM G a S) (List.Perm.refl _) (fun H locs hs => ?_)
    refine lv_if_ne (tgt := 36) hx hb dX5_whole_28 (by decide) (fun hc => ?_) (fun hc => ?_)
    · have hF := (if_neg hc).symm.trans hF
      exact hJ36_n S _ _ _ hF hs (lv_sub hl [0] rfl)
    · have hF := (if_pos hc).symm.trans hF
      refine lv_aload_n hx hb dX5_whole_31 rfl (lv_at hl 0 rfl) ?_
      refine lv_iconst (v := (2 : Int32)) hx hb dX5_whole_32 (by decide) ?_
      obtain ⟨q4, hq4, hF⟩ := bd hF
      refine sx_V (As := [.int (2 : Int32)]) (rest := []) (st1 := []) (c_X5_fails G l a S (2 : Int32) q4 hq4) v_X5_154 ⟨(Nat.le_of_ble_eq_true rfl), (Nat.le_of_ble_eq_true rfl)⟩ hx hb hml hown hts hE hA hs ⟨Nat.le_refl 0, Nat.le_refl 0⟩ 0 rfl rfl rfl rfl rfl hl.1 (Nat.le_of_ble_eq_true rfl) dX5_whole_33 (pmW _) (ws' := WM G a q4) (pmW _) (fun H locs hs => ?_)
      exact hJ36_n q4 _ _ _ hF hs (lv_sub hl [0] rfl)
  · have hF := (if_neg hc).symm.trans hF
    refine lv_aload_n hx hb dX5_whole_8 rfl (lv_at hl 0 rfl) ?_
    refine lv_iconst (v := (1 : Int32)) hx hb dX5_whole_9 (by decide) ?_
    obtain ⟨q5, hq5, hF⟩ := bd hF
    refine sx_V (As := [.int (1 : Int32)]) (rest := []) (st1 := []) (c_X5_fails G l a S (1 : Int32) q5 hq5) v_X5_154 ⟨(Nat.le_of_ble_eq_true rfl), (Nat.le_of_ble_eq_true rfl)⟩ hx hb hml hown hts hE hA hs ⟨Nat.le_refl 0, Nat.le_refl 0⟩ 0 rfl rfl rfl rfl rfl hl.1 (Nat.le_of_ble_eq_true rfl) dX5_whole_10 (pmW _) (ws' := WM G a q5) (pmW _) (fun H locs hs => ?_)
    refine lv_goto (tgt := 36) hx hb dX5_whole_13 (by decide) ?_
    exact hJ36_n q5 _ _ _ hF hs (lv_sub hl [0] rfl)
set_option maxHeartbeats 4000000 in
set_option maxRecDepth 100000 in
theorem c_X5_shipLine (G : GT) (l : Launch) (a : Nat → Nat) (S : MS) (r : MS) (hF : F_X5_shipLine S = some r) : MT G l yX5_shipLine cX5_shipLine 3 (none) 4 89 [.ref (a 0)] (WM G a S) none (WM G a r) := by
  refine MT.of (by decide) (Nat.le_of_ble_eq_true rfl) ?_
  intro p e s m args below meth c A ls hx hb hr hml hown hts hlk hE hA hs hl Q hQ
  have hl : lv_has ls 3 [(0, .ref (a 0))] := hl
  have hJ245_n : ∀ (S : MS) (H : Heap) (locs : List Loc) (ls : Array Slot), J_X5_shipLine_245 S = some r → SI G A s H locs (WM G a S) → lv_has ls 3 [(0, .ref (a 0))] → W p l e (RM 4 89) s m args below meth c H locs 0 0 Q (F0 m 245 ls []) := by
    intro S H locs ls hF hs hl
    unfold J_X5_shipLine_245 at hF
    refine lv_aload_n hx hb dX5_shipLine_245 rfl (lv_at hl 0 rfl) ?_
    refine fg_X5_20 hx hb hown hts hE hs 0 rfl (v := .ref (a 3)) rfl dX5_shipLine_246 ?_
    refine lv_iconst (v := (0 : Int32)) hx hb dX5_shipLine_249 (by decide) ?_
    refine lv_dup2_11 hx hb dX5_shipLine_250 rfl rfl ?_
    obtain ⟨v39, hv39, hF⟩ := bd hF
    refine sx_iald hx hb hE hs 3 (f := m_read S) rfl hv39 dX5_shipLine_251 ?_
    refine lv_iconst (v := (1 : Int32)) hx hb dX5_shipLine_252 (by decide) ?_
    refine lv_iadd hx hb dX5_shipLine_253 ?_
    obtain ⟨f40, hf40, hF⟩ := bd hF
    obtain ⟨S41, eS41, hF⟩ := nm_some hF
    refine sx_iast hx hb hE hs 3 (f := m_read S) rfl hf40 (ws' := WM G a S41) (by subst eS41; rfl) dX5_shipLine_254 (fun H locs hs => ?_)
    exact sx_vret hx hb hr hlk hQ (congrArg (fun z => WM G a z) (Option.some.inj hF)) hs dX5_shipLine_255
  have hJ228_n : ∀ (S : MS) (x2 : Int32) (y0 : Int32) (y1 : Int32) (H : Heap) (locs : List Loc) (ls : Array Slot), J_X5_shipLine_228 S x2 y0 y1 = some r → SI G A s H locs (WM G a S) → lv_has ls 3 [(0, .ref (a 0)), (2, .int x2)] → W p l e (RM 4 89) s m args below meth c H locs 0 0 Q (F0 m 228 ls [.int y0, .int y1, .ref (a 3)]) := by
    intro S x2 y0 y1 H locs ls hF hs hl
    unfold J_X5_shipLine_228 at hF
    obtain ⟨f36, hf36, hF⟩ := bd hF
    obtain ⟨S37, eS37, hF⟩ := nm_some hF
    refine sx_iast hx hb hE hs 3 (f := m_read S) rfl hf36 (ws' := WM G a S37) (by subst eS37; rfl) dX5_shipLine_228 (fun H locs hs => ?_)
    refine lv_aload_n hx hb dX5_shipLine_229 rfl (lv_at hl 0 rfl) ?_
    refine fg_X5_20 hx hb hown hts hE hs 0 rfl (v := .ref (a 3)) rfl dX5_shipLine_230 ?_
    refine lv_iload_n hx hb dX5_shipLine_233 rfl (lv_at hl 1 rfl) ?_
    refine lv_iconst (v := (5 : Int32)) hx hb dX5_shipLine_234 (by decide) ?_
    refine lv_iadd hx hb dX5_shipLine_235 ?_
    obtain ⟨v38, hv38, hF⟩ := bd hF
    refine sx_iald hx hb hE hs 3 (f := m_read S37) rfl hv38 dX5_shipLine_236 ?_
    refine lv_iconst (v := (1 : Int32)) hx hb dX5_shipLine_237 (by decide) ?_
    refine lv_icmp_ne (tgt := 245) hx hb dX5_shipLine_238 (by decide) (fun hc => ?_) (fun hc => ?_)
    · have hF := (if_neg hc).symm.trans hF
      exact hJ245_n S37 _ _ _ hF hs (lv_sub hl [0] rfl)
    · have hF := (if_pos hc).symm.trans hF
      refine lv_aload_n hx hb dX5_shipLine_241 rfl (lv_at hl 0 rfl) ?_
      obtain ⟨q42, hq42, hF⟩ := bd hF
      refine sx_V (As := []) (rest := []) (st1 := []) (c_X5_token G l a S37 q42 hq42) v_X5_104 ⟨(Nat.le_of_ble_eq_true rfl), (Nat.le_of_ble_eq_true rfl)⟩ hx hb hml hown hts hE hA hs ⟨Nat.le_refl 0, Nat.le_refl 0⟩ 0 rfl rfl rfl rfl rfl hl.1 (Nat.le_of_ble_eq_true rfl) dX5_shipLine_242 (pmW _) (ws' := WM G a q42) (pmW _) (fun H locs hs => ?_)
      exact hJ245_n q42 _ _ _ hF hs (lv_sub hl [0] rfl)
  have hJ206_n : ∀ (S : MS) (x2 : Int32) (H : Heap) (locs : List Loc) (ls : Array Slot), J_X5_shipLine_206 S x2 = some r → SI G A s H locs (WM G a S) → lv_has ls 3 [(0, .ref (a 0)), (2, .int x2)] → W p l e (RM 4 89) s m args below meth c H locs 0 0 Q (F0 m 206 ls []) := by
    intro S x2 H locs ls hF hs hl
    unfold J_X5_shipLine_206 at hF
    refine lv_aload_n hx hb dX5_shipLine_206 rfl (lv_at hl 0 rfl) ?_
    refine fg_X5_20 hx hb hown hts hE hs 0 rfl (v := .ref (a 3)) rfl dX5_shipLine_207 ?_
    refine lv_iload_n hx hb dX5_shipLine_210 rfl (lv_at hl 1 rfl) ?_
    refine lv_iconst (v := (5 : Int32)) hx hb dX5_shipLine_211 (by decide) ?_
    refine lv_iadd hx hb dX5_shipLine_212 ?_
    refine lv_aload_n hx hb dX5_shipLine_213 rfl (lv_at hl 0 rfl) ?_
    obtain ⟨q34, hq34, hF⟩ := bd hF
    refine sx_S (As := []) (rest := [.ref (a 0), .int (x2 + (5 : Int32)), .ref (a 3)]) (st1 := [.long q34, .ref (a 0), .int (x2 + (5 : Int32)), .ref (a 3)]) (c_X5_barredWord G l  q34 hq34) v_X5_142 ⟨(Nat.le_of_ble_eq_true rfl), (Nat.le_of_ble_eq_true rfl)⟩ hx hb hml hown hts hE hA hs ⟨Nat.le_refl 0, Nat.le_refl 0⟩ rfl rfl rfl hl.1 (Nat.le_of_ble_eq_true rfl) dX5_shipLine_214 (List.Perm.refl _) (ws' := WM G a S) (List.Perm.refl _) (fun H locs hs => ?_)
    obtain ⟨q35, hq35, hF⟩ := bd hF
    refine sx_V (As := [.long q34]) (rest := [.int (x2 + (5 : Int32)), .ref (a 3)]) (st1 := [.int q35, .int (x2 + (5 : Int32)), .ref (a 3)]) (c_X5_isWord G l a S q34 q35 hq35) v_X5_115 ⟨(Nat.le_of_ble_eq_true rfl), (Nat.le_of_ble_eq_true rfl)⟩ hx hb hml hown hts hE hA hs ⟨Nat.le_refl 0, Nat.le_refl 0⟩ 0 rfl rfl rfl rfl rfl hl.1 (Nat.le_of_ble_eq_true rfl) dX5_shipLine_217 (pmW _) (ws' := WM G a S) (pmW _) (fun H locs hs => ?_)
    refine lv_if_eq (tgt := 227) hx hb dX5_shipLine_220 (by decide) (fun hc => ?_) (fun hc => ?_)
    · have hF := (if_pos hc).symm.trans hF
      refine lv_iconst (v := (0 : Int32)) hx hb dX5_shipLine_227 (by decide) ?_
      exact hJ228_n S x2 (0 : Int32) (x2 + (5 : Int32)) _ _ _ hF hs (lv_sub hl [0, 1] rfl)
    · have hF := (if_neg hc).symm.trans hF
      refine lv_iconst (v := (1 : Int32)) hx hb dX5_shipLine_223 (by decide) ?_
      refine lv_goto (tgt := 228) hx hb dX5_shipLine_224 (by decide) ?_
      exact hJ228_n S x2 (1 : Int32) (x2 + (5 : Int32)) _ _ _ hF hs (lv_sub hl [0, 1] rfl)
  have hJ189_n : ∀ (S : MS) (x2 : Int32) (y0 : Int32) (y1 : Int32) (H : Heap) (locs : List Loc) (ls : Array Slot), J_X5_shipLine_189 S x2 y0 y1 = some r → SI G A s H locs (WM G a S) → lv_has ls 3 [(0, .ref (a 0)), (2, .int x2)] → W p l e (RM 4 89) s m args below meth c H locs 0 0 Q (F0 m 189 ls [.int y0, .int y1, .ref (a 3)]) := by
    intro S x2 y0 y1 H locs ls hF hs hl
    unfold J_X5_shipLine_189 at hF
    obtain ⟨f31, hf31, hF⟩ := bd hF
    obtain ⟨S32, eS32, hF⟩ := nm_some hF
    refine sx_iast hx hb hE hs 3 (f := m_read S) rfl hf31 (ws' := WM G a S32) (by subst eS32; rfl) dX5_shipLine_189 (fun H locs hs => ?_)
    refine lv_aload_n hx hb dX5_shipLine_190 rfl (lv_at hl 0 rfl) ?_
    refine fg_X5_20 hx hb hown hts hE hs 0 rfl (v := .ref (a 3)) rfl dX5_shipLine_191 ?_
    refine lv_iload_n hx hb dX5_shipLine_194 rfl (lv_at hl 1 rfl) ?_
    refine lv_iconst (v := (4 : Int32)) hx hb dX5_shipLine_195 (by decide) ?_
    refine lv_iadd hx hb dX5_shipLine_196 ?_
    obtain ⟨v33, hv33, hF⟩ := bd hF
    refine sx_iald hx hb hE hs 3 (f := m_read S32) rfl hv33 dX5_shipLine_197 ?_
    refine lv_iconst (v := (1 : Int32)) hx hb dX5_shipLine_198 (by decide) ?_
    refine lv_icmp_ne (tgt := 206) hx hb dX5_shipLine_199 (by decide) (fun hc => ?_) (fun hc => ?_)
    · have hF := (if_neg hc).symm.trans hF
      exact hJ206_n S32 x2 _ _ _ hF hs (lv_sub hl [0, 1] rfl)
    · have hF := (if_pos hc).symm.trans hF
      refine lv_aload_n hx hb dX5_shipLine_202 rfl (lv_at hl 0 rfl) ?_
      obtain ⟨q43, hq43, hF⟩ := bd hF
      refine sx_V (As := []) (rest := []) (st1 := []) (c_X5_token G l a S32 q43 hq43) v_X5_104 ⟨(Nat.le_of_ble_eq_true rfl), (Nat.le_of_ble_eq_true rfl)⟩ hx hb hml hown hts hE hA hs ⟨Nat.le_refl 0, Nat.le_refl 0⟩ 0 rfl rfl rfl rfl rfl hl.1 (Nat.le_of_ble_eq_true rfl) dX5_shipLine_203 (pmW _) (ws' := WM G a q43) (pmW _) (fun H locs hs => ?_)
      exact hJ206_n q43 x2 _ _ _ hF hs (lv_sub hl [0, 1] rfl)
  have hJ49_n : ∀ (S : MS) (x1 : Int32) (H : Heap) (locs : List Loc) (ls : Array Slot), J_X5_shipLine_49 S x1 = some r → SI G A s H locs (WM G a S) → lv_has ls 3 [(0, .ref (a 0)), (1, .int x1)] → W p l e (RM 4 89) s m args below meth c H locs 0 0 Q (F0 m 49 ls []) := by
    intro S x1 H locs ls hF hs hl
    unfold J_X5_shipLine_49 at hF
    refine lv_aload_n hx hb dX5_shipLine_49 rfl (lv_at hl 0 rfl) ?_
    refine fg_X5_98 hx hb hown hts hE hs 0 rfl (v := .int (m_wrong S)) rfl dX5_shipLine_50 ?_
    refine lv_if_eq (tgt := 57) hx hb dX5_shipLine_53 (by decide) (fun hc => ?_) (fun hc => ?_)
    · have hF := (if_pos hc).symm.trans hF
      refine lv_aload_n hx hb dX5_shipLine_57 rfl (lv_at hl 0 rfl) ?_
      refine fg_X5_37 hx hb hown hts hE hs 0 rfl (v := .ref (a 8)) rfl dX5_shipLine_58 ?_
      refine lv_iload_n hx hb dX5_shipLine_61 rfl (lv_at hl 1 rfl) ?_
      refine lv_aload_n hx hb dX5_shipLine_62 rfl (lv_at hl 0 rfl) ?_
      refine fg_X5_84 hx hb hown hts hE hs 0 rfl (v := .long (m_word S)) rfl dX5_shipLine_63 ?_
      obtain ⟨f5, hf5, hF⟩ := bd hF
      obtain ⟨S6, eS6, hF⟩ := nm_some hF
      refine sx_last hx hb hE hs 8 (f := m_readNames S) rfl hf5 (ws' := WM G a S6) (by subst eS6; rfl) dX5_shipLine_66 (fun H locs hs => ?_)
      refine lv_bipush (v := (10 : Int32)) hx hb dX5_shipLine_67 (by decide) ?_
      refine lv_bipush (v := (6 : Int32)) hx hb dX5_shipLine_69 (by decide) ?_
      refine lv_iload_n hx hb dX5_shipLine_71 rfl (lv_at hl 1 rfl) ?_
      refine lv_imul hx hb dX5_shipLine_72 ?_
      refine lv_iadd hx hb dX5_shipLine_73 ?_
      obtain ⟨v7, ev7, hF⟩ := nm_some hF
      refine sx_topi ev7 ?_
      refine lv_istore_n (lv' := [(2, .int v7), (0, .ref (a 0)), (1, .int x1)]) hx hb dX5_shipLine_74 rfl hl (by decide) rfl (fun ls hl => ?_)
      refine lv_aload_n hx hb dX5_shipLine_75 rfl (lv_at hl 1 rfl) ?_
      obtain ⟨q8, hq8, hF⟩ := bd hF
      refine sx_V (As := []) (rest := []) (st1 := []) (c_X5_token G l a S6 q8 hq8) v_X5_104 ⟨(Nat.le_of_ble_eq_true rfl), (Nat.le_of_ble_eq_true rfl)⟩ hx hb hml hown hts hE hA hs ⟨Nat.le_refl 0, Nat.le_refl 0⟩ 0 rfl rfl rfl rfl rfl hl.1 (Nat.le_of_ble_eq_true rfl) dX5_shipLine_76 (pmW _) (ws' := WM G a q8) (pmW _) (fun H locs hs => ?_)
      refine lv_aload_n hx hb dX5_shipLine_79 rfl (lv_at hl 1 rfl) ?_
      obtain ⟨q9, hq9, hF⟩ := bd hF
      refine sx_S (As := []) (rest := [.ref (a 0)]) (st1 := [.long q9, .ref (a 0)]) (c_X5_tonsWord G l  q9 hq9) v_X5_127 ⟨(Nat.le_of_ble_eq_true rfl), (Nat.le_of_ble_eq_true rfl)⟩ hx hb hml hown hts hE hA hs ⟨Nat.le_refl 0, Nat.le_refl 0⟩ rfl rfl rfl hl.1 (Nat.le_of_ble_eq_true rfl) dX5_shipLine_80 (List.Perm.refl _) (ws' := WM G a q8) (List.Perm.refl _) (fun H locs hs => ?_)
      obtain ⟨q10, hq10, hF⟩ := bd hF
      refine sx_V (As := [.long q9]) (rest := []) (st1 := []) (c_X5_takes G l a q8 q9 q10 hq10) v_X5_172 ⟨(Nat.le_of_ble_eq_true rfl), (Nat.le_of_ble_eq_true rfl)⟩ hx hb hml hown hts hE hA hs ⟨Nat.le_refl 0, Nat.le_refl 0⟩ 0 rfl rfl rfl rfl rfl hl.1 (Nat.le_of_ble_eq_true rfl) dX5_shipLine_83 (pmW _) (ws' := WM G a q10) (pmW _) (fun H locs hs => ?_)
      refine lv_aload_n hx hb dX5_shipLine_86 rfl (lv_at hl 1 rfl) ?_
      refine fg_X5_20 hx hb hown hts hE hs 0 rfl (v := .ref (a 3)) rfl dX5_shipLine_87 ?_
      refine lv_iload_n hx hb dX5_shipLine_90 rfl (lv_at hl 0 rfl) ?_
      refine lv_iconst (v := (0 : Int32)) hx hb dX5_shipLine_91 (by decide) ?_
      refine lv_iadd hx hb dX5_shipLine_92 ?_
      refine lv_aload_n hx hb dX5_shipLine_93 rfl (lv_at hl 1 rfl) ?_
      refine lv_iconst (v := (1 : Int32)) hx hb dX5_shipLine_94 (by decide) ?_
      refine lv_ldc (v := (99999 : Int32)) hx hb hown (hts _ g1162) dX5_shipLine_95 ?_
      obtain ⟨q11, hq11, hF⟩ := bd hF
      refine sx_V (As := [.int (1 : Int32), .int (99999 : Int32)]) (rest := [.int (v7 + (0 : Int32)), .ref (a 3)]) (st1 := [.int q11.1, .int (v7 + (0 : Int32)), .ref (a 3)]) (c_X5_whole G l a q10 (1 : Int32) (99999 : Int32) q11 hq11) v_X5_177 ⟨(Nat.le_of_ble_eq_true rfl), (Nat.le_of_ble_eq_true rfl)⟩ hx hb hml hown hts hE hA hs ⟨Nat.le_refl 0, Nat.le_refl 0⟩ 0 rfl rfl rfl rfl rfl hl.1 (Nat.le_of_ble_eq_true rfl) dX5_shipLine_97 (pmW _) (ws' := WM G a q11.2) (pmW _) (fun H locs hs => ?_)
      obtain ⟨f12, hf12, hF⟩ := bd hF
      obtain ⟨S13, eS13, hF⟩ := nm_some hF
      refine sx_iast hx hb hE hs 3 (f := m_read q11.2) rfl hf12 (ws' := WM G a S13) (by subst eS13; rfl) dX5_shipLine_100 (fun H locs hs => ?_)
      refine lv_aload_n hx hb dX5_shipLine_101 rfl (lv_at hl 1 rfl) ?_
      obtain ⟨q14, hq14, hF⟩ := bd hF
      refine sx_S (As := []) (rest := [.ref (a 0)]) (st1 := [.long q14, .ref (a 0)]) (c_X5_faultWord G l  q14 hq14) v_X5_130 ⟨(Nat.le_of_ble_eq_true rfl), (Nat.le_of_ble_eq_true rfl)⟩ hx hb hml hown hts hE hA hs ⟨Nat.le_refl 0, Nat.le_refl 0⟩ rfl rfl rfl hl.1 (Nat.le_of_ble_eq_true rfl) dX5_shipLine_102 (List.Perm.refl _) (ws' := WM G a S13) (List.Perm.refl _) (fun H locs hs => ?_)
      obtain ⟨q15, hq15, hF⟩ := bd hF
      refine sx_V (As := [.long q14]) (rest := []) (st1 := []) (c_X5_takes G l a S13 q14 q15 hq15) v_X5_172 ⟨(Nat.le_of_ble_eq_true rfl), (Nat.le_of_ble_eq_true rfl)⟩ hx hb hml hown hts hE hA hs ⟨Nat.le_refl 0, Nat.le_refl 0⟩ 0 rfl rfl rfl rfl rfl hl.1 (Nat.le_of_ble_eq_true rfl) dX5_shipLine_105 (pmW _) (ws' := WM G a q15) (pmW _) (fun H locs hs => ?_)
      refine lv_aload_n hx hb dX5_shipLine_108 rfl (lv_at hl 1 rfl) ?_
      refine fg_X5_20 hx hb hown hts hE hs 0 rfl (v := .ref (a 3)) rfl dX5_shipLine_109 ?_
      refine lv_iload_n hx hb dX5_shipLine_112 rfl (lv_at hl 0 rfl) ?_
      refine lv_iconst (v := (1 : Int32)) hx hb dX5_shipLine_113 (by decide) ?_
      refine lv_iadd hx hb dX5_shipLine_114 ?_
      refine lv_aload_n hx hb dX5_shipLine_115 rfl (lv_at hl 1 rfl) ?_
      refine lv_iconst (v := (0 : Int32)) hx hb dX5_shipLine_116 (by decide) ?_
      refine lv_bipush (v := (10 : Int32)) hx hb dX5_shipLine_117 (by decide) ?_
      obtain ⟨q16, hq16, hF⟩ := bd hF
      refine sx_V (As := [.int (0 : Int32), .int (10 : Int32)]) (rest := [.int (v7 + (1 : Int32)), .ref (a 3)]) (st1 := [.int q16.1, .int (v7 + (1 : Int32)), .ref (a 3)]) (c_X5_whole G l a q15 (0 : Int32) (10 : Int32) q16 hq16) v_X5_177 ⟨(Nat.le_of_ble_eq_true rfl), (Nat.le_of_ble_eq_true rfl)⟩ hx hb hml hown hts hE hA hs ⟨Nat.le_refl 0, Nat.le_refl 0⟩ 0 rfl rfl rfl rfl rfl hl.1 (Nat.le_of_ble_eq_true rfl) dX5_shipLine_119 (pmW _) (ws' := WM G a q16.2) (pmW _) (fun H locs hs => ?_)
      obtain ⟨f17, hf17, hF⟩ := bd hF
      obtain ⟨S18, eS18, hF⟩ := nm_some hF
      refine sx_iast hx hb hE hs 3 (f := m_read q16.2) rfl hf17 (ws' := WM G a S18) (by subst eS18; rfl) dX5_shipLine_122 (fun H locs hs => ?_)
      refine lv_aload_n hx hb dX5_shipLine_123 rfl (lv_at hl 1 rfl) ?_
      obtain ⟨q19, hq19, hF⟩ := bd hF
      refine sx_S (As := []) (rest := [.ref (a 0)]) (st1 := [.long q19, .ref (a 0)]) (c_X5_hullWord G l  q19 hq19) v_X5_133 ⟨(Nat.le_of_ble_eq_true rfl), (Nat.le_of_ble_eq_true rfl)⟩ hx hb hml hown hts hE hA hs ⟨Nat.le_refl 0, Nat.le_refl 0⟩ rfl rfl rfl hl.1 (Nat.le_of_ble_eq_true rfl) dX5_shipLine_124 (List.Perm.refl _) (ws' := WM G a S18) (List.Perm.refl _) (fun H locs hs => ?_)
      obtain ⟨q20, hq20, hF⟩ := bd hF
      refine sx_V (As := [.long q19]) (rest := []) (st1 := []) (c_X5_takes G l a S18 q19 q20 hq20) v_X5_172 ⟨(Nat.le_of_ble_eq_true rfl), (Nat.le_of_ble_eq_true rfl)⟩ hx hb hml hown hts hE hA hs ⟨Nat.le_refl 0, Nat.le_refl 0⟩ 0 rfl rfl rfl rfl rfl hl.1 (Nat.le_of_ble_eq_true rfl) dX5_shipLine_127 (pmW _) (ws' := WM G a q20) (pmW _) (fun H locs hs => ?_)
      refine lv_aload_n hx hb dX5_shipLine_130 rfl (lv_at hl 1 rfl) ?_
      refine fg_X5_20 hx hb hown hts hE hs 0 rfl (v := .ref (a 3)) rfl dX5_shipLine_131 ?_
      refine lv_iload_n hx hb dX5_shipLine_134 rfl (lv_at hl 0 rfl) ?_
      refine lv_iconst (v := (2 : Int32)) hx hb dX5_shipLine_135 (by decide) ?_
      refine lv_iadd hx hb dX5_shipLine_136 ?_
      refine lv_aload_n hx hb dX5_shipLine_137 rfl (lv_at hl 1 rfl) ?_
      refine lv_iconst (v := (0 : Int32)) hx hb dX5_shipLine_138 (by decide) ?_
      refine lv_ldc (v := (9999999 : Int32)) hx hb hown (hts _ g1167) dX5_shipLine_139 ?_
      obtain ⟨q21, hq21, hF⟩ := bd hF
      refine sx_V (As := [.int (0 : Int32), .int (9999999 : Int32)]) (rest := [.int (v7 + (2 : Int32)), .ref (a 3)]) (st1 := [.int q21.1, .int (v7 + (2 : Int32)), .ref (a 3)]) (c_X5_whole G l a q20 (0 : Int32) (9999999 : Int32) q21 hq21) v_X5_177 ⟨(Nat.le_of_ble_eq_true rfl), (Nat.le_of_ble_eq_true rfl)⟩ hx hb hml hown hts hE hA hs ⟨Nat.le_refl 0, Nat.le_refl 0⟩ 0 rfl rfl rfl rfl rfl hl.1 (Nat.le_of_ble_eq_true rfl) dX5_shipLine_141 (pmW _) (ws' := WM G a q21.2) (pmW _) (fun H locs hs => ?_)
      obtain ⟨f22, hf22, hF⟩ := bd hF
      obtain ⟨S23, eS23, hF⟩ := nm_some hF
      refine sx_iast hx hb hE hs 3 (f := m_read q21.2) rfl hf22 (ws' := WM G a S23) (by subst eS23; rfl) dX5_shipLine_144 (fun H locs hs => ?_)
      refine lv_aload_n hx hb dX5_shipLine_145 rfl (lv_at hl 1 rfl) ?_
      obtain ⟨q24, hq24, hF⟩ := bd hF
      refine sx_S (As := []) (rest := [.ref (a 0)]) (st1 := [.long q24, .ref (a 0)]) (c_X5_valueWord G l  q24 hq24) v_X5_136 ⟨(Nat.le_of_ble_eq_true rfl), (Nat.le_of_ble_eq_true rfl)⟩ hx hb hml hown hts hE hA hs ⟨Nat.le_refl 0, Nat.le_refl 0⟩ rfl rfl rfl hl.1 (Nat.le_of_ble_eq_true rfl) dX5_shipLine_146 (List.Perm.refl _) (ws' := WM G a S23) (List.Perm.refl _) (fun H locs hs => ?_)
      obtain ⟨q25, hq25, hF⟩ := bd hF
      refine sx_V (As := [.long q24]) (rest := []) (st1 := []) (c_X5_takes G l a S23 q24 q25 hq25) v_X5_172 ⟨(Nat.le_of_ble_eq_true rfl), (Nat.le_of_ble_eq_true rfl)⟩ hx hb hml hown hts hE hA hs ⟨Nat.le_refl 0, Nat.le_refl 0⟩ 0 rfl rfl rfl rfl rfl hl.1 (Nat.le_of_ble_eq_true rfl) dX5_shipLine_149 (pmW _) (ws' := WM G a q25) (pmW _) (fun H locs hs => ?_)
      refine lv_aload_n hx hb dX5_shipLine_152 rfl (lv_at hl 1 rfl) ?_
      refine fg_X5_20 hx hb hown hts hE hs 0 rfl (v := .ref (a 3)) rfl dX5_shipLine_153 ?_
      refine lv_iload_n hx hb dX5_shipLine_156 rfl (lv_at hl 0 rfl) ?_
      refine lv_iconst (v := (3 : Int32)) hx hb dX5_shipLine_157 (by decide) ?_
      refine lv_iadd hx hb dX5_shipLine_158 ?_
      refine lv_aload_n hx hb dX5_shipLine_159 rfl (lv_at hl 1 rfl) ?_
      refine lv_iconst (v := (0 : Int32)) hx hb dX5_shipLine_160 (by decide) ?_
      refine lv_ldc (v := (9999999 : Int32)) hx hb hown (hts _ g1167) dX5_shipLine_161 ?_
      obtain ⟨q26, hq26, hF⟩ := bd hF
      refine sx_V (As := [.int (0 : Int32), .int (9999999 : Int32)]) (rest := [.int (v7 + (3 : Int32)), .ref (a 3)]) (st1 := [.int q26.1, .int (v7 + (3 : Int32)), .ref (a 3)]) (c_X5_whole G l a q25 (0 : Int32) (9999999 : Int32) q26 hq26) v_X5_177 ⟨(Nat.le_of_ble_eq_true rfl), (Nat.le_of_ble_eq_true rfl)⟩ hx hb hml hown hts hE hA hs ⟨Nat.le_refl 0, Nat.le_refl 0⟩ 0 rfl rfl rfl rfl rfl hl.1 (Nat.le_of_ble_eq_true rfl) dX5_shipLine_163 (pmW _) (ws' := WM G a q26.2) (pmW _) (fun H locs hs => ?_)
      obtain ⟨f27, hf27, hF⟩ := bd hF
      obtain ⟨S28, eS28, hF⟩ := nm_some hF
      refine sx_iast hx hb hE hs 3 (f := m_read q26.2) rfl hf27 (ws' := WM G a S28) (by subst eS28; rfl) dX5_shipLine_166 (fun H locs hs => ?_)
      refine lv_aload_n hx hb dX5_shipLine_167 rfl (lv_at hl 1 rfl) ?_
      refine fg_X5_20 hx hb hown hts hE hs 0 rfl (v := .ref (a 3)) rfl dX5_shipLine_168 ?_
      refine lv_iload_n hx hb dX5_shipLine_171 rfl (lv_at hl 0 rfl) ?_
      refine lv_iconst (v := (4 : Int32)) hx hb dX5_shipLine_172 (by decide) ?_
      refine lv_iadd hx hb dX5_shipLine_173 ?_
      refine lv_aload_n hx hb dX5_shipLine_174 rfl (lv_at hl 1 rfl) ?_
      obtain ⟨q29, hq29, hF⟩ := bd hF
      refine sx_S (As := []) (rest := [.ref (a 0), .int (v7 + (4 : Int32)), .ref (a 3)]) (st1 := [.long q29, .ref (a 0), .int (v7 + (4 : Int32)), .ref (a 3)]) (c_X5_clauseWord G l  q29 hq29) v_X5_139 ⟨(Nat.le_of_ble_eq_true rfl), (Nat.le_of_ble_eq_true rfl)⟩ hx hb hml hown hts hE hA hs ⟨Nat.le_refl 0, Nat.le_refl 0⟩ rfl rfl rfl hl.1 (Nat.le_of_ble_eq_true rfl) dX5_shipLine_175 (List.Perm.refl _) (ws' := WM G a S28) (List.Perm.refl _) (fun H locs hs => ?_)
      obtain ⟨q30, hq30, hF⟩ := bd hF
      refine sx_V (As := [.long q29]) (rest := [.int (v7 + (4 : Int32)), .ref (a 3)]) (st1 := [.int q30, .int (v7 + (4 : Int32)), .ref (a 3)]) (c_X5_isWord G l a S28 q29 q30 hq30) v_X5_115 ⟨(Nat.le_of_ble_eq_true rfl), (Nat.le_of_ble_eq_true rfl)⟩ hx hb hml hown hts hE hA hs ⟨Nat.le_refl 0, Nat.le_refl 0⟩ 0 rfl rfl rfl rfl rfl hl.1 (Nat.le_of_ble_eq_true rfl) dX5_shipLine_178 (pmW _) (ws' := WM G a S28) (pmW _) (fun H locs hs => ?_)
      refine lv_if_eq (tgt := 188) hx hb dX5_shipLine_181 (by decide) (fun hc => ?_) (fun hc => ?_)
      · have hF := (if_pos hc).symm.trans hF
        refine lv_iconst (v := (0 : Int32)) hx hb dX5_shipLine_188 (by decide) ?_
        exact hJ189_n S28 v7 (0 : Int32) (v7 + (4 : Int32)) _ _ _ hF hs (lv_sub hl [1, 0] rfl)
      · have hF := (if_neg hc).symm.trans hF
        refine lv_iconst (v := (1 : Int32)) hx hb dX5_shipLine_184 (by decide) ?_
        refine lv_goto (tgt := 189) hx hb dX5_shipLine_185 (by decide) ?_
        exact hJ189_n S28 v7 (1 : Int32) (v7 + (4 : Int32)) _ _ _ hF hs (lv_sub hl [1, 0] rfl)
    · have hF := (if_neg hc).symm.trans hF
      exact sx_vret hx hb hr hlk hQ (congrArg (fun z => WM G a z) (Option.some.inj hF)) hs dX5_shipLine_56
  have hJ17_n : ∀ (S : MS) (x1 : Int32) (H : Heap) (locs : List Loc) (ls : Array Slot), J_X5_shipLine_17 S x1 = some r → SI G A s H locs (WM G a S) → lv_has ls 3 [(0, .ref (a 0)), (1, .int x1)] → W p l e (RM 4 89) s m args below meth c H locs 0 0 Q (F0 m 17 ls []) := by
    intro S x1 H locs ls hF hs hl
    unfold J_X5_shipLine_17 at hF
    refine lv_aload_n hx hb dX5_shipLine_17 rfl (lv_at hl 0 rfl) ?_
    obtain ⟨q2, hq2, hF⟩ := bd hF
    refine sx_V (As := []) (rest := []) (st1 := []) (c_X5_goesOn G l a S q2 hq2) v_X5_158 ⟨(Nat.le_of_ble_eq_true rfl), (Nat.le_of_ble_eq_true rfl)⟩ hx hb hml hown hts hE hA hs ⟨Nat.le_refl 0, Nat.le_refl 0⟩ 0 rfl rfl rfl rfl rfl hl.1 (Nat.le_of_ble_eq_true rfl) dX5_shipLine_18 (pmW _) (ws' := WM G a q2) (pmW _) (fun H locs hs => ?_)
    refine lv_aload_n hx hb dX5_shipLine_21 rfl (lv_at hl 0 rfl) ?_
    obtain ⟨q3, hq3, hF⟩ := bd hF
    refine sx_V (As := []) (rest := []) (st1 := [.int q3]) (c_X5_isName G l a q2 q3 hq3) v_X5_165 ⟨(Nat.le_of_ble_eq_true rfl), (Nat.le_of_ble_eq_true rfl)⟩ hx hb hml hown hts hE hA hs ⟨Nat.le_refl 0, Nat.le_refl 0⟩ 0 rfl rfl rfl rfl rfl hl.1 (Nat.le_of_ble_eq_true rfl) dX5_shipLine_22 (pmW _) (ws' := WM G a q2) (pmW _) (fun H locs hs => ?_)
    refine lv_if_ne (tgt := 36) hx hb dX5_shipLine_25 (by decide) (fun hc => ?_) (fun hc => ?_)
    · have hF := (if_neg hc).symm.trans hF
      refine lv_aload_n hx hb dX5_shipLine_36 rfl (lv_at hl 0 rfl) ?_
      obtain ⟨q4, hq4, hF⟩ := bd hF
      refine sx_V (As := []) (rest := []) (st1 := [.int q4]) (c_X5_shipNamed G l a q2 q4 hq4) v_X5_169 ⟨(Nat.le_of_ble_eq_true rfl), (Nat.le_of_ble_eq_true rfl)⟩ hx hb hml hown hts hE hA hs ⟨Nat.le_refl 0, Nat.le_refl 0⟩ 0 rfl rfl rfl rfl rfl hl.1 (Nat.le_of_ble_eq_true rfl) dX5_shipLine_37 (pmW _) (ws' := WM G a q2) (pmW _) (fun H locs hs => ?_)
      refine lv_iconst (v := (-1 : Int32)) hx hb dX5_shipLine_40 (by decide) ?_
      refine lv_icmp_eq (tgt := 49) hx hb dX5_shipLine_41 (by decide) (fun hc => ?_) (fun hc => ?_)
      · have hF := (if_pos hc).symm.trans hF
        exact hJ49_n q2 x1 _ _ _ hF hs (lv_sub hl [0, 1] rfl)
      · have hF := (if_neg hc).symm.trans hF
        refine lv_aload_n hx hb dX5_shipLine_44 rfl (lv_at hl 0 rfl) ?_
        refine lv_iconst (v := (3 : Int32)) hx hb dX5_shipLine_45 (by decide) ?_
        obtain ⟨q44, hq44, hF⟩ := bd hF
        refine sx_V (As := [.int (3 : Int32)]) (rest := []) (st1 := []) (c_X5_fails G l a q2 (3 : Int32) q44 hq44) v_X5_154 ⟨(Nat.le_of_ble_eq_true rfl), (Nat.le_of_ble_eq_true rfl)⟩ hx hb hml hown hts hE hA hs ⟨Nat.le_refl 0, Nat.le_refl 0⟩ 0 rfl rfl rfl rfl rfl hl.1 (Nat.le_of_ble_eq_true rfl) dX5_shipLine_46 (pmW _) (ws' := WM G a q44) (pmW _) (fun H locs hs => ?_)
        exact hJ49_n q44 x1 _ _ _ hF hs (lv_sub hl [0, 1] rfl)
    · have hF := (if_pos hc).symm.trans hF
      refine lv_aload_n hx hb dX5_shipLine_28 rfl (lv_at hl 0 rfl) ?_
      refine lv_iconst (v := (1 : Int32)) hx hb dX5_shipLine_29 (by decide) ?_
      obtain ⟨q45, hq45, hF⟩ := bd hF
      refine sx_V (As := [.int (1 : Int32)]) (rest := []) (st1 := []) (c_X5_fails G l a q2 (1 : Int32) q45 hq45) v_X5_154 ⟨(Nat.le_of_ble_eq_true rfl), (Nat.le_of_ble_eq_true rfl)⟩ hx hb hml hown hts hE hA hs ⟨Nat.le_refl 0, Nat.le_refl 0⟩ 0 rfl rfl rfl rfl rfl hl.1 (Nat.le_of_ble_eq_true rfl) dX5_shipLine_30 (pmW _) (ws' := WM G a q45) (pmW _) (fun H locs hs => ?_)
      refine lv_goto (tgt := 49) hx hb dX5_shipLine_33 (by decide) ?_
      exact hJ49_n q45 x1 _ _ _ hF hs (lv_sub hl [0, 1] rfl)
  unfold F_X5_shipLine at hF
  refine lv_aload_n hx hb dX5_shipLine_0 rfl (lv_at hl 0 rfl) ?_
  refine fg_X5_20 hx hb hown hts hE hs 0 rfl (v := .ref (a 3)) rfl dX5_shipLine_1 ?_
  refine lv_iconst (v := (0 : Int32)) hx hb dX5_shipLine_4 (by decide) ?_
  obtain ⟨v1, hv1, hF⟩ := bd hF
  refine sx_iald hx hb hE hs 3 (f := m_read S) rfl hv1 dX5_shipLine_5 ?_
  refine lv_istore_n (lv' := [(1, .int v1), (0, .ref (a 0))]) hx hb dX5_shipLine_6 rfl hl (by decide) rfl (fun ls hl => ?_)
  refine lv_iload_n hx hb dX5_shipLine_7 rfl (lv_at hl 0 rfl) ?_
  refine lv_iconst (v := (4 : Int32)) hx hb dX5_shipLine_8 (by decide) ?_
  refine lv_icmp_ne (tgt := 17) hx hb dX5_shipLine_9 (by decide) (fun hc => ?_) (fun hc => ?_)
  · have hF := (if_neg hc).symm.trans hF
    exact hJ17_n S v1 _ _ _ hF hs (lv_sub hl [1, 0] rfl)
  · have hF := (if_pos hc).symm.trans hF
    refine lv_aload_n hx hb dX5_shipLine_12 rfl (lv_at hl 1 rfl) ?_
    refine lv_iconst (v := (4 : Int32)) hx hb dX5_shipLine_13 (by decide) ?_
    obtain ⟨q46, hq46, hF⟩ := bd hF
    refine sx_V (As := [.int (4 : Int32)]) (rest := []) (st1 := []) (c_X5_fails G l a S (4 : Int32) q46 hq46) v_X5_154 ⟨(Nat.le_of_ble_eq_true rfl), (Nat.le_of_ble_eq_true rfl)⟩ hx hb hml hown hts hE hA hs ⟨Nat.le_refl 0, Nat.le_refl 0⟩ 0 rfl rfl rfl rfl rfl hl.1 (Nat.le_of_ble_eq_true rfl) dX5_shipLine_14 (pmW _) (ws' := WM G a q46) (pmW _) (fun H locs hs => ?_)
    exact hJ17_n q46 v1 _ _ _ hF hs (lv_sub hl [1, 0] rfl)
set_option maxHeartbeats 4000000 in
set_option maxRecDepth 100000 in
theorem c_X5_claimLine (G : GT) (l : Launch) (a : Nat → Nat) (S : MS) (x1 : Int32) (r : MS) (hF : F_X5_claimLine S x1 = some r) : MT G l yX5_claimLine cX5_claimLine 4 (none) 4 89 [.ref (a 0), .int x1] (WM G a S) none (WM G a r) := by
  refine MT.of (by decide) (Nat.le_of_ble_eq_true rfl) ?_
  intro p e s m args below meth c A ls hx hb hr hml hown hts hlk hE hA hs hl Q hQ
  have hl : lv_has ls 4 [(0, .ref (a 0)), (1, .int x1)] := hl
  have hJ104_n : ∀ (S : MS) (x3 : Int32) (H : Heap) (locs : List Loc) (ls : Array Slot), J_X5_claimLine_104 S x3 = some r → SI G A s H locs (WM G a S) → lv_has ls 4 [(0, .ref (a 0)), (3, .int x3)] → W p l e (RM 4 89) s m args below meth c H locs 0 0 Q (F0 m 104 ls []) := by
    intro S x3 H locs ls hF hs hl
    unfold J_X5_claimLine_104 at hF
    refine lv_aload_n hx hb dX5_claimLine_104 rfl (lv_at hl 0 rfl) ?_
    refine fg_X5_20 hx hb hown hts hE hs 0 rfl (v := .ref (a 3)) rfl dX5_claimLine_105 ?_
    refine lv_iload_n hx hb dX5_claimLine_108 rfl (lv_at hl 1 rfl) ?_
    refine lv_iconst (v := (2 : Int32)) hx hb dX5_claimLine_109 (by decide) ?_
    refine lv_iadd hx hb dX5_claimLine_110 ?_
    refine lv_aload_n hx hb dX5_claimLine_111 rfl (lv_at hl 0 rfl) ?_
    refine lv_iconst (v := (1 : Int32)) hx hb dX5_claimLine_112 (by decide) ?_
    refine lv_ldc (v := (9999999 : Int32)) hx hb hown (hts _ g1167) dX5_claimLine_113 ?_
    obtain ⟨q8, hq8, hF⟩ := bd hF
    refine sx_V (As := [.int (1 : Int32), .int (9999999 : Int32)]) (rest := [.int (x3 + (2 : Int32)), .ref (a 3)]) (st1 := [.int q8.1, .int (x3 + (2 : Int32)), .ref (a 3)]) (c_X5_whole G l a S (1 : Int32) (9999999 : Int32) q8 hq8) v_X5_177 ⟨(Nat.le_of_ble_eq_true rfl), (Nat.le_of_ble_eq_true rfl)⟩ hx hb hml hown hts hE hA hs ⟨Nat.le_refl 0, Nat.le_refl 0⟩ 0 rfl rfl rfl rfl rfl hl.1 (Nat.le_of_ble_eq_true rfl) dX5_claimLine_115 (pmW _) (ws' := WM G a q8.2) (pmW _) (fun H locs hs => ?_)
    obtain ⟨f9, hf9, hF⟩ := bd hF
    obtain ⟨S10, eS10, hF⟩ := nm_some hF
    refine sx_iast hx hb hE hs 3 (f := m_read q8.2) rfl hf9 (ws' := WM G a S10) (by subst eS10; rfl) dX5_claimLine_118 (fun H locs hs => ?_)
    refine lv_aload_n hx hb dX5_claimLine_119 rfl (lv_at hl 0 rfl) ?_
    obtain ⟨q11, hq11, hF⟩ := bd hF
    refine sx_S (As := []) (rest := [.ref (a 0)]) (st1 := [.long q11, .ref (a 0)]) (c_X5_dayWord G l  q11 hq11) v_X5_151 ⟨(Nat.le_of_ble_eq_true rfl), (Nat.le_of_ble_eq_true rfl)⟩ hx hb hml hown hts hE hA hs ⟨Nat.le_refl 0, Nat.le_refl 0⟩ rfl rfl rfl hl.1 (Nat.le_of_ble_eq_true rfl) dX5_claimLine_120 (List.Perm.refl _) (ws' := WM G a S10) (List.Perm.refl _) (fun H locs hs => ?_)
    obtain ⟨q12, hq12, hF⟩ := bd hF
    refine sx_V (As := [.long q11]) (rest := []) (st1 := []) (c_X5_takes G l a S10 q11 q12 hq12) v_X5_172 ⟨(Nat.le_of_ble_eq_true rfl), (Nat.le_of_ble_eq_true rfl)⟩ hx hb hml hown hts hE hA hs ⟨Nat.le_refl 0, Nat.le_refl 0⟩ 0 rfl rfl rfl rfl rfl hl.1 (Nat.le_of_ble_eq_true rfl) dX5_claimLine_123 (pmW _) (ws' := WM G a q12) (pmW _) (fun H locs hs => ?_)
    refine lv_aload_n hx hb dX5_claimLine_126 rfl (lv_at hl 0 rfl) ?_
    refine fg_X5_20 hx hb hown hts hE hs 0 rfl (v := .ref (a 3)) rfl dX5_claimLine_127 ?_
    refine lv_iload_n hx hb dX5_claimLine_130 rfl (lv_at hl 1 rfl) ?_
    refine lv_iconst (v := (3 : Int32)) hx hb dX5_claimLine_131 (by decide) ?_
    refine lv_iadd hx hb dX5_claimLine_132 ?_
    refine lv_aload_n hx hb dX5_claimLine_133 rfl (lv_at hl 0 rfl) ?_
    refine lv_iconst (v := (0 : Int32)) hx hb dX5_claimLine_134 (by decide) ?_
    refine lv_sipush (v := (999 : Int32)) hx hb dX5_claimLine_135 (by decide) ?_
    obtain ⟨q13, hq13, hF⟩ := bd hF
    refine sx_V (As := [.int (0 : Int32), .int (999 : Int32)]) (rest := [.int (x3 + (3 : Int32)), .ref (a 3)]) (st1 := [.int q13.1, .int (x3 + (3 : Int32)), .ref (a 3)]) (c_X5_whole G l a q12 (0 : Int32) (999 : Int32) q13 hq13) v_X5_177 ⟨(Nat.le_of_ble_eq_true rfl), (Nat.le_of_ble_eq_true rfl)⟩ hx hb hml hown hts hE hA hs ⟨Nat.le_refl 0, Nat.le_refl 0⟩ 0 rfl rfl rfl rfl rfl hl.1 (Nat.le_of_ble_eq_true rfl) dX5_claimLine_138 (pmW _) (ws' := WM G a q13.2) (pmW _) (fun H locs hs => ?_)
    obtain ⟨f14, hf14, hF⟩ := bd hF
    obtain ⟨S15, eS15, hF⟩ := nm_some hF
    refine sx_iast hx hb hE hs 3 (f := m_read q13.2) rfl hf14 (ws' := WM G a S15) (by subst eS15; rfl) dX5_claimLine_141 (fun H locs hs => ?_)
    refine lv_aload_n hx hb dX5_claimLine_142 rfl (lv_at hl 0 rfl) ?_
    refine fg_X5_20 hx hb hown hts hE hs 0 rfl (v := .ref (a 3)) rfl dX5_claimLine_143 ?_
    refine lv_iconst (v := (1 : Int32)) hx hb dX5_claimLine_146 (by decide) ?_
    refine lv_dup2_11 hx hb dX5_claimLine_147 rfl rfl ?_
    obtain ⟨v16, hv16, hF⟩ := bd hF
    refine sx_iald hx hb hE hs 3 (f := m_read S15) rfl hv16 dX5_claimLine_148 ?_
    refine lv_iconst (v := (1 : Int32)) hx hb dX5_claimLine_149 (by decide) ?_
    refine lv_iadd hx hb dX5_claimLine_150 ?_
    obtain ⟨f17, hf17, hF⟩ := bd hF
    obtain ⟨S18, eS18, hF⟩ := nm_some hF
    refine sx_iast hx hb hE hs 3 (f := m_read S15) rfl hf17 (ws' := WM G a S18) (by subst eS18; rfl) dX5_claimLine_151 (fun H locs hs => ?_)
    exact sx_vret hx hb hr hlk hQ (congrArg (fun z => WM G a z) (Option.some.inj hF)) hs dX5_claimLine_152
  have hJ88_n : ∀ (S : MS) (x3 : Int32) (H : Heap) (locs : List Loc) (ls : Array Slot), J_X5_claimLine_88 S x3 = some r → SI G A s H locs (WM G a S) → lv_has ls 4 [(0, .ref (a 0)), (3, .int x3)] → W p l e (RM 4 89) s m args below meth c H locs 0 0 Q (F0 m 88 ls []) := by
    intro S x3 H locs ls hF hs hl
    unfold J_X5_claimLine_88 at hF
    refine lv_aload_n hx hb dX5_claimLine_88 rfl (lv_at hl 0 rfl) ?_
    refine fg_X5_20 hx hb hown hts hE hs 0 rfl (v := .ref (a 3)) rfl dX5_claimLine_89 ?_
    refine lv_iload_n hx hb dX5_claimLine_92 rfl (lv_at hl 1 rfl) ?_
    refine lv_iconst (v := (1 : Int32)) hx hb dX5_claimLine_93 (by decide) ?_
    refine lv_iadd hx hb dX5_claimLine_94 ?_
    refine lv_aload_n hx hb dX5_claimLine_95 rfl (lv_at hl 0 rfl) ?_
    obtain ⟨q21, hq21, hF⟩ := bd hF
    refine sx_V (As := []) (rest := [.int (x3 + (1 : Int32)), .ref (a 3)]) (st1 := [.int q21, .int (x3 + (1 : Int32)), .ref (a 3)]) (c_X5_shipNamed G l a S q21 hq21) v_X5_169 ⟨(Nat.le_of_ble_eq_true rfl), (Nat.le_of_ble_eq_true rfl)⟩ hx hb hml hown hts hE hA hs ⟨Nat.le_refl 0, Nat.le_refl 0⟩ 0 rfl rfl rfl rfl rfl hl.1 (Nat.le_of_ble_eq_true rfl) dX5_claimLine_96 (pmW _) (ws' := WM G a S) (pmW _) (fun H locs hs => ?_)
    obtain ⟨f22, hf22, hF⟩ := bd hF
    obtain ⟨S23, eS23, hF⟩ := nm_some hF
    refine sx_iast hx hb hE hs 3 (f := m_read S) rfl hf22 (ws' := WM G a S23) (by subst eS23; rfl) dX5_claimLine_99 (fun H locs hs => ?_)
    refine lv_aload_n hx hb dX5_claimLine_100 rfl (lv_at hl 0 rfl) ?_
    obtain ⟨q24, hq24, hF⟩ := bd hF
    refine sx_V (As := []) (rest := []) (st1 := []) (c_X5_goesOn G l a S23 q24 hq24) v_X5_158 ⟨(Nat.le_of_ble_eq_true rfl), (Nat.le_of_ble_eq_true rfl)⟩ hx hb hml hown hts hE hA hs ⟨Nat.le_refl 0, Nat.le_refl 0⟩ 0 rfl rfl rfl rfl rfl hl.1 (Nat.le_of_ble_eq_true rfl) dX5_claimLine_101 (pmW _) (ws' := WM G a q24) (pmW _) (fun H locs hs => ?_)
    exact hJ104_n q24 x3 _ _ _ hF hs (lv_sub hl [0, 1] rfl)
  have hJ18_n : ∀ (S : MS) (x1 : Int32) (x2 : Int32) (H : Heap) (locs : List Loc) (ls : Array Slot), J_X5_claimLine_18 S x1 x2 = some r → SI G A s H locs (WM G a S) → lv_has ls 4 [(0, .ref (a 0)), (1, .int x1), (2, .int x2)] → W p l e (RM 4 89) s m args below meth c H locs 0 0 Q (F0 m 18 ls []) := by
    intro S x1 x2 H locs ls hF hs hl
    unfold J_X5_claimLine_18 at hF
    refine lv_aload_n hx hb dX5_claimLine_18 rfl (lv_at hl 0 rfl) ?_
    obtain ⟨q2, hq2, hF⟩ := bd hF
    refine sx_V (As := []) (rest := []) (st1 := []) (c_X5_goesOn G l a S q2 hq2) v_X5_158 ⟨(Nat.le_of_ble_eq_true rfl), (Nat.le_of_ble_eq_true rfl)⟩ hx hb hml hown hts hE hA hs ⟨Nat.le_refl 0, Nat.le_refl 0⟩ 0 rfl rfl rfl rfl rfl hl.1 (Nat.le_of_ble_eq_true rfl) dX5_claimLine_19 (pmW _) (ws' := WM G a q2) (pmW _) (fun H locs hs => ?_)
    refine lv_aload_n hx hb dX5_claimLine_22 rfl (lv_at hl 0 rfl) ?_
    refine fg_X5_98 hx hb hown hts hE hs 0 rfl (v := .int (m_wrong q2)) rfl dX5_claimLine_23 ?_
    refine lv_if_eq (tgt := 30) hx hb dX5_claimLine_26 (by decide) (fun hc => ?_) (fun hc => ?_)
    · have hF := (if_pos hc).symm.trans hF
      refine lv_bipush (v := (34 : Int32)) hx hb dX5_claimLine_30 (by decide) ?_
      refine lv_iconst (v := (4 : Int32)) hx hb dX5_claimLine_32 (by decide) ?_
      refine lv_iload_n hx hb dX5_claimLine_33 rfl (lv_at hl 2 rfl) ?_
      refine lv_imul hx hb dX5_claimLine_34 ?_
      refine lv_iadd hx hb dX5_claimLine_35 ?_
      obtain ⟨v3, ev3, hF⟩ := nm_some hF
      refine sx_topi ev3 ?_
      refine lv_istore_n (lv' := [(3, .int v3), (0, .ref (a 0)), (1, .int x1), (2, .int x2)]) hx hb dX5_claimLine_36 rfl hl (by decide) rfl (fun ls hl => ?_)
      refine lv_aload_n hx hb dX5_claimLine_37 rfl (lv_at hl 1 rfl) ?_
      refine fg_X5_20 hx hb hown hts hE hs 0 rfl (v := .ref (a 3)) rfl dX5_claimLine_38 ?_
      refine lv_iload_n hx hb dX5_claimLine_41 rfl (lv_at hl 0 rfl) ?_
      refine lv_iconst (v := (0 : Int32)) hx hb dX5_claimLine_42 (by decide) ?_
      refine lv_iadd hx hb dX5_claimLine_43 ?_
      refine lv_iload_n hx hb dX5_claimLine_44 rfl (lv_at hl 2 rfl) ?_
      obtain ⟨f4, hf4, hF⟩ := bd hF
      obtain ⟨S5, eS5, hF⟩ := nm_some hF
      refine sx_iast hx hb hE hs 3 (f := m_read q2) rfl hf4 (ws' := WM G a S5) (by subst eS5; rfl) dX5_claimLine_45 (fun H locs hs => ?_)
      refine lv_aload_n hx hb dX5_claimLine_46 rfl (lv_at hl 1 rfl) ?_
      refine fg_X5_20 hx hb hown hts hE hs 0 rfl (v := .ref (a 3)) rfl dX5_claimLine_47 ?_
      refine lv_iload_n hx hb dX5_claimLine_50 rfl (lv_at hl 0 rfl) ?_
      refine lv_iconst (v := (1 : Int32)) hx hb dX5_claimLine_51 (by decide) ?_
      refine lv_iadd hx hb dX5_claimLine_52 ?_
      refine lv_bipush (v := (-2 : Int32)) hx hb dX5_claimLine_53 (by decide) ?_
      obtain ⟨f6, hf6, hF⟩ := bd hF
      obtain ⟨S7, eS7, hF⟩ := nm_some hF
      refine sx_iast hx hb hE hs 3 (f := m_read S5) rfl hf6 (ws' := WM G a S7) (by subst eS7; rfl) dX5_claimLine_55 (fun H locs hs => ?_)
      refine lv_iload_n hx hb dX5_claimLine_56 rfl (lv_at hl 2 rfl) ?_
      refine lv_if_ne (tgt := 104) hx hb dX5_claimLine_57 (by decide) (fun hc => ?_) (fun hc => ?_)
      · have hF := (if_neg hc).symm.trans hF
        exact hJ104_n S7 v3 _ _ _ hF hs (lv_sub hl [1, 0] rfl)
      · have hF := (if_pos hc).symm.trans hF
        refine lv_aload_n hx hb dX5_claimLine_60 rfl (lv_at hl 1 rfl) ?_
        obtain ⟨q19, hq19, hF⟩ := bd hF
        refine sx_V (As := []) (rest := []) (st1 := [.int q19]) (c_X5_isName G l a S7 q19 hq19) v_X5_165 ⟨(Nat.le_of_ble_eq_true rfl), (Nat.le_of_ble_eq_true rfl)⟩ hx hb hml hown hts hE hA hs ⟨Nat.le_refl 0, Nat.le_refl 0⟩ 0 rfl rfl rfl rfl rfl hl.1 (Nat.le_of_ble_eq_true rfl) dX5_claimLine_61 (pmW _) (ws' := WM G a S7) (pmW _) (fun H locs hs => ?_)
        refine lv_if_ne (tgt := 75) hx hb dX5_claimLine_64 (by decide) (fun hc => ?_) (fun hc => ?_)
        · have hF := (if_neg hc).symm.trans hF
          refine lv_aload_n hx hb dX5_claimLine_75 rfl (lv_at hl 1 rfl) ?_
          obtain ⟨q20, hq20, hF⟩ := bd hF
          refine sx_V (As := []) (rest := []) (st1 := [.int q20]) (c_X5_shipNamed G l a S7 q20 hq20) v_X5_169 ⟨(Nat.le_of_ble_eq_true rfl), (Nat.le_of_ble_eq_true rfl)⟩ hx hb hml hown hts hE hA hs ⟨Nat.le_refl 0, Nat.le_refl 0⟩ 0 rfl rfl rfl rfl rfl hl.1 (Nat.le_of_ble_eq_true rfl) dX5_claimLine_76 (pmW _) (ws' := WM G a S7) (pmW _) (fun H locs hs => ?_)
          refine lv_iconst (v := (-1 : Int32)) hx hb dX5_claimLine_79 (by decide) ?_
          refine lv_icmp_ne (tgt := 88) hx hb dX5_claimLine_80 (by decide) (fun hc => ?_) (fun hc => ?_)
          · have hF := (if_neg hc).symm.trans hF
            exact hJ88_n S7 v3 _ _ _ hF hs (lv_sub hl [1, 0] rfl)
          · have hF := (if_pos hc).symm.trans hF
            refine lv_aload_n hx hb dX5_claimLine_83 rfl (lv_at hl 1 rfl) ?_
            refine lv_iconst (v := (3 : Int32)) hx hb dX5_claimLine_84 (by decide) ?_
            obtain ⟨q25, hq25, hF⟩ := bd hF
            refine sx_V (As := [.int (3 : Int32)]) (rest := []) (st1 := []) (c_X5_fails G l a S7 (3 : Int32) q25 hq25) v_X5_154 ⟨(Nat.le_of_ble_eq_true rfl), (Nat.le_of_ble_eq_true rfl)⟩ hx hb hml hown hts hE hA hs ⟨Nat.le_refl 0, Nat.le_refl 0⟩ 0 rfl rfl rfl rfl rfl hl.1 (Nat.le_of_ble_eq_true rfl) dX5_claimLine_85 (pmW _) (ws' := WM G a q25) (pmW _) (fun H locs hs => ?_)
            exact hJ88_n q25 v3 _ _ _ hF hs (lv_sub hl [1, 0] rfl)
        · have hF := (if_pos hc).symm.trans hF
          refine lv_aload_n hx hb dX5_claimLine_67 rfl (lv_at hl 1 rfl) ?_
          refine lv_iconst (v := (1 : Int32)) hx hb dX5_claimLine_68 (by decide) ?_
          obtain ⟨q26, hq26, hF⟩ := bd hF
          refine sx_V (As := [.int (1 : Int32)]) (rest := []) (st1 := []) (c_X5_fails G l a S7 (1 : Int32) q26 hq26) v_X5_154 ⟨(Nat.le_of_ble_eq_true rfl), (Nat.le_of_ble_eq_true rfl)⟩ hx hb hml hown hts hE hA hs ⟨Nat.le_refl 0, Nat.le_refl 0⟩ 0 rfl rfl rfl rfl rfl hl.1 (Nat.le_of_ble_eq_true rfl) dX5_claimLine_69 (pmW _) (ws' := WM G a q26) (pmW _) (fun H locs hs => ?_)
          refine lv_goto (tgt := 88) hx hb dX5_claimLine_72 (by decide) ?_
          exact hJ88_n q26 v3 _ _ _ hF hs (lv_sub hl [1, 0] rfl)
    · have hF := (if_neg hc).symm.trans hF
      exact sx_vret hx hb hr hlk hQ (congrArg (fun z => WM G a z) (Option.some.inj hF)) hs dX5_claimLine_29
  unfold F_X5_claimLine at hF
  refine lv_aload_n hx hb dX5_claimLine_0 rfl (lv_at hl 0 rfl) ?_
  refine fg_X5_20 hx hb hown hts hE hs 0 rfl (v := .ref (a 3)) rfl dX5_claimLine_1 ?_
  refine lv_iconst (v := (1 : Int32)) hx hb dX5_claimLine_4 (by decide) ?_
  obtain ⟨v1, hv1, hF⟩ := bd hF
  refine sx_iald hx hb hE hs 3 (f := m_read S) rfl hv1 dX5_claimLine_5 ?_
  refine lv_istore_n (lv' := [(2, .int v1), (0, .ref (a 0)), (1, .int x1)]) hx hb dX5_claimLine_6 rfl hl (by decide) rfl (fun ls hl => ?_)
  refine lv_iload_n hx hb dX5_claimLine_7 rfl (lv_at hl 0 rfl) ?_
  refine lv_bipush (v := (12 : Int32)) hx hb dX5_claimLine_8 (by decide) ?_
  refine lv_icmp_ne (tgt := 18) hx hb dX5_claimLine_10 (by decide) (fun hc => ?_) (fun hc => ?_)
  · have hF := (if_neg hc).symm.trans hF
    exact hJ18_n S x1 v1 _ _ _ hF hs (lv_sub hl [1, 2, 0] rfl)
  · have hF := (if_pos hc).symm.trans hF
    refine lv_aload_n hx hb dX5_claimLine_13 rfl (lv_at hl 1 rfl) ?_
    refine lv_iconst (v := (4 : Int32)) hx hb dX5_claimLine_14 (by decide) ?_
    obtain ⟨q27, hq27, hF⟩ := bd hF
    refine sx_V (As := [.int (4 : Int32)]) (rest := []) (st1 := []) (c_X5_fails G l a S (4 : Int32) q27 hq27) v_X5_154 ⟨(Nat.le_of_ble_eq_true rfl), (Nat.le_of_ble_eq_true rfl)⟩ hx hb hml hown hts hE hA hs ⟨Nat.le_refl 0, Nat.le_refl 0⟩ 0 rfl rfl rfl rfl rfl hl.1 (Nat.le_of_ble_eq_true rfl) dX5_claimLine_15 (pmW _) (ws' := WM G a q27) (pmW _) (fun H locs hs => ?_)
    exact hJ18_n q27 x1 v1 _ _ _ hF hs (lv_sub hl [1, 2, 0] rfl)
set_option maxHeartbeats 4000000 in
set_option maxRecDepth 100000 in
theorem c_X5_lowOf (G : GT) (l : Launch) (x0 : Int32) (r : Int32) (hF : F_X5_lowOf x0 = some r) : MT G l yX5_lowOf cX5_lowOf 1 (some .int) 0 0 [.int x0] (([] : va_W)) (some (.int r)) (([] : va_W)) := by
  refine MT.of (by decide) (Nat.le_of_ble_eq_true rfl) ?_
  intro p e s m args below meth c A ls hx hb hr hml hown hts hlk hE hA hs hl Q hQ
  have hl : lv_has ls 1 [(0, .int x0)] := hl
  unfold F_X5_lowOf at hF
  refine lv_iload_n hx hb dX5_lowOf_0 rfl (lv_at hl 0 rfl) ?_
  refine lv_bipush (v := (7 : Int32)) hx hb dX5_lowOf_1 (by decide) ?_
  refine lv_icmp_ne (tgt := 10) hx hb dX5_lowOf_3 (by decide) (fun hc => ?_) (fun hc => ?_)
  · have hF := (if_neg hc).symm.trans hF
    refine lv_iconst (v := (0 : Int32)) hx hb dX5_lowOf_10 (by decide) ?_
    exact sx_iret hx hb hr hlk hQ (Option.some.inj hF) rfl hs dX5_lowOf_11
  · have hF := (if_pos hc).symm.trans hF
    refine lv_iconst (v := (1 : Int32)) hx hb dX5_lowOf_6 (by decide) ?_
    refine lv_goto (tgt := 11) hx hb dX5_lowOf_7 (by decide) ?_
    exact sx_iret hx hb hr hlk hQ (Option.some.inj hF) rfl hs dX5_lowOf_11
set_option maxHeartbeats 4000000 in
set_option maxRecDepth 100000 in
theorem c_X5_highOf (G : GT) (l : Launch) (x0 : Int32) (r : Int32) (hF : F_X5_highOf x0 = some r) : MT G l yX5_highOf cX5_highOf 1 (some .int) 0 0 [.int x0] (([] : va_W)) (some (.int r)) (([] : va_W)) := by
  refine MT.of (by decide) (Nat.le_of_ble_eq_true rfl) ?_
  intro p e s m args below meth c A ls hx hb hr hml hown hts hlk hE hA hs hl Q hQ
  have hl : lv_has ls 1 [(0, .int x0)] := hl
  unfold F_X5_highOf at hF
  refine lv_iload_n hx hb dX5_highOf_0 rfl (lv_at hl 0 rfl) ?_
  refine lv_iconst (v := (5 : Int32)) hx hb dX5_highOf_1 (by decide) ?_
  refine lv_icmp_ge (tgt := 7) hx hb dX5_highOf_2 (by decide) (fun hc => ?_) (fun hc => ?_)
  · have hF := (if_pos hc).symm.trans hF
    refine lv_iload_n hx hb dX5_highOf_7 rfl (lv_at hl 0 rfl) ?_
    refine lv_bipush (v := (8 : Int32)) hx hb dX5_highOf_8 (by decide) ?_
    refine lv_icmp_ge (tgt := 18) hx hb dX5_highOf_10 (by decide) (fun hc => ?_) (fun hc => ?_)
    · have hF := (if_pos hc).symm.trans hF
      refine lv_sipush (v := (999 : Int32)) hx hb dX5_highOf_18 (by decide) ?_
      exact sx_iret hx hb hr hlk hQ (Option.some.inj hF) rfl hs dX5_highOf_21
    · have hF := (if_neg hc).symm.trans hF
      refine lv_ldc (v := (99999 : Int32)) hx hb hown (hts _ g1162) dX5_highOf_13 ?_
      refine lv_goto (tgt := 21) hx hb dX5_highOf_15 (by decide) ?_
      exact sx_iret hx hb hr hlk hQ (Option.some.inj hF) rfl hs dX5_highOf_21
  · have hF := (if_neg hc).symm.trans hF
    refine lv_iconst (v := (1 : Int32)) hx hb dX5_highOf_5 (by decide) ?_
    exact sx_iret hx hb hr hlk hQ (Option.some.inj hF) rfl hs dX5_highOf_6
set_option maxHeartbeats 4000000 in
set_option maxRecDepth 100000 in
theorem c_X5_aboutLine (G : GT) (l : Launch) (a : Nat → Nat) (S : MS) (x1 : Int32) (r : MS) (hF : F_X5_aboutLine S x1 = some r) : MT G l yX5_aboutLine cX5_aboutLine 2 (none) 4 85 [.ref (a 0), .int x1] (WM G a S) none (WM G a r) := by
  refine MT.of (by decide) (Nat.le_of_ble_eq_true rfl) ?_
  intro p e s m args below meth c A ls hx hb hr hml hown hts hlk hE hA hs hl Q hQ
  have hl : lv_has ls 2 [(0, .ref (a 0)), (1, .int x1)] := hl
  have hJ67_n : ∀ (S : MS) (y0 : Int32) (y1 : Int32) (H : Heap) (locs : List Loc) (ls : Array Slot), J_X5_aboutLine_67 S y0 y1 = some r → SI G A s H locs (WM G a S) → lv_has ls 2 [] → W p l e (RM 4 85) s m args below meth c H locs 0 0 Q (F0 m 67 ls [.int y0, .int y1, .ref (a 3)]) := by
    intro S y0 y1 H locs ls hF hs hl
    unfold J_X5_aboutLine_67 at hF
    obtain ⟨f6, hf6, hF⟩ := bd hF
    obtain ⟨S7, eS7, hF⟩ := nm_some hF
    refine sx_iast hx hb hE hs 3 (f := m_read S) rfl hf6 (ws' := WM G a S7) (by subst eS7; rfl) dX5_aboutLine_67 (fun H locs hs => ?_)
    exact sx_vret hx hb hr hlk hQ (congrArg (fun z => WM G a z) (Option.some.inj hF)) hs dX5_aboutLine_68
  have hJ17_n : ∀ (S : MS) (x1 : Int32) (H : Heap) (locs : List Loc) (ls : Array Slot), J_X5_aboutLine_17 S x1 = some r → SI G A s H locs (WM G a S) → lv_has ls 2 [(0, .ref (a 0)), (1, .int x1)] → W p l e (RM 4 85) s m args below meth c H locs 0 0 Q (F0 m 17 ls []) := by
    intro S x1 H locs ls hF hs hl
    unfold J_X5_aboutLine_17 at hF
    refine lv_aload_n hx hb dX5_aboutLine_17 rfl (lv_at hl 0 rfl) ?_
    refine lv_dup hx hb dX5_aboutLine_18 rfl ?_
    refine fg_X5_182 hx hb hown hts hE hs 0 rfl (v := .int (m_toldOnce S)) rfl dX5_aboutLine_19 ?_
    refine lv_iconst (v := (1 : Int32)) hx hb dX5_aboutLine_22 (by decide) ?_
    refine lv_iload_n hx hb dX5_aboutLine_23 rfl (lv_at hl 1 rfl) ?_
    refine lv_ishl hx hb dX5_aboutLine_24 ?_
    refine lv_ior hx hb dX5_aboutLine_25 ?_
    obtain ⟨S1, eS1, hF⟩ := nm_some hF
    refine fp_X5_182 hx hb hown hts hE hs 0 rfl (ws' := WM G a S1) (Nat.le_of_ble_eq_true rfl) (by subst eS1; rfl) dX5_aboutLine_26 (fun H locs hs => ?_)
    refine lv_aload_n hx hb dX5_aboutLine_29 rfl (lv_at hl 0 rfl) ?_
    obtain ⟨q2, hq2, hF⟩ := bd hF
    refine sx_V (As := []) (rest := []) (st1 := []) (c_X5_goesOn G l a S1 q2 hq2) v_X5_158 ⟨(Nat.le_of_ble_eq_true rfl), (Nat.le_of_ble_eq_true rfl)⟩ hx hb hml hown hts hE hA hs ⟨Nat.le_refl 0, Nat.le_refl 0⟩ 0 rfl rfl rfl rfl rfl hl.1 (Nat.le_of_ble_eq_true rfl) dX5_aboutLine_30 (pmW _) (ws' := WM G a q2) (pmW _) (fun H locs hs => ?_)
    refine lv_aload_n hx hb dX5_aboutLine_33 rfl (lv_at hl 0 rfl) ?_
    refine fg_X5_98 hx hb hown hts hE hs 0 rfl (v := .int (m_wrong q2)) rfl dX5_aboutLine_34 ?_
    refine lv_if_eq (tgt := 41) hx hb dX5_aboutLine_37 (by decide) (fun hc => ?_) (fun hc => ?_)
    · have hF := (if_pos hc).symm.trans hF
      refine lv_aload_n hx hb dX5_aboutLine_41 rfl (lv_at hl 0 rfl) ?_
      refine fg_X5_20 hx hb hown hts hE hs 0 rfl (v := .ref (a 3)) rfl dX5_aboutLine_42 ?_
      refine lv_iload_n hx hb dX5_aboutLine_45 rfl (lv_at hl 1 rfl) ?_
      refine lv_iload_n hx hb dX5_aboutLine_46 rfl (lv_at hl 1 rfl) ?_
      refine lv_iconst (v := (5 : Int32)) hx hb dX5_aboutLine_47 (by decide) ?_
      refine lv_icmp_ge (tgt := 55) hx hb dX5_aboutLine_48 (by decide) (fun hc => ?_) (fun hc => ?_)
      · have hF := (if_pos hc).symm.trans hF
        refine lv_aload_n hx hb dX5_aboutLine_55 rfl (lv_at hl 0 rfl) ?_
        refine lv_iload_n hx hb dX5_aboutLine_56 rfl (lv_at hl 1 rfl) ?_
        obtain ⟨q3, hq3, hF⟩ := bd hF
        refine sx_S (As := [.int x1]) (rest := [.ref (a 0), .int x1, .ref (a 3)]) (st1 := [.int q3, .ref (a 0), .int x1, .ref (a 3)]) (c_X5_lowOf G l  x1 q3 hq3) v_X5_185 ⟨(Nat.le_of_ble_eq_true rfl), (Nat.le_of_ble_eq_true rfl)⟩ hx hb hml hown hts hE hA hs ⟨Nat.le_refl 0, Nat.le_refl 0⟩ rfl rfl rfl hl.1 (Nat.le_of_ble_eq_true rfl) dX5_aboutLine_57 (List.Perm.refl _) (ws' := WM G a q2) (List.Perm.refl _) (fun H locs hs => ?_)
        refine lv_iload_n hx hb dX5_aboutLine_60 rfl (lv_at hl 1 rfl) ?_
        obtain ⟨q4, hq4, hF⟩ := bd hF
        refine sx_S (As := [.int x1]) (rest := [.int q3, .ref (a 0), .int x1, .ref (a 3)]) (st1 := [.int q4, .int q3, .ref (a 0), .int x1, .ref (a 3)]) (c_X5_highOf G l  x1 q4 hq4) v_X5_188 ⟨(Nat.le_of_ble_eq_true rfl), (Nat.le_of_ble_eq_true rfl)⟩ hx hb hml hown hts hE hA hs ⟨Nat.le_refl 0, Nat.le_refl 0⟩ rfl rfl rfl hl.1 (Nat.le_of_ble_eq_true rfl) dX5_aboutLine_61 (List.Perm.refl _) (ws' := WM G a q2) (List.Perm.refl _) (fun H locs hs => ?_)
        obtain ⟨q5, hq5, hF⟩ := bd hF
        refine sx_V (As := [.int q3, .int q4]) (rest := [.int x1, .ref (a 3)]) (st1 := [.int q5.1, .int x1, .ref (a 3)]) (c_X5_whole G l a q2 q3 q4 q5 hq5) v_X5_177 ⟨(Nat.le_of_ble_eq_true rfl), (Nat.le_of_ble_eq_true rfl)⟩ hx hb hml hown hts hE hA hs ⟨Nat.le_refl 0, Nat.le_refl 0⟩ 0 rfl rfl rfl rfl rfl hl.1 (Nat.le_of_ble_eq_true rfl) dX5_aboutLine_64 (pmW _) (ws' := WM G a q5.2) (pmW _) (fun H locs hs => ?_)
        exact hJ67_n q5.2 q5.1 x1 _ _ _ hF hs (lv_sub hl [] rfl)
      · have hF := (if_neg hc).symm.trans hF
        refine lv_iconst (v := (1 : Int32)) hx hb dX5_aboutLine_51 (by decide) ?_
        refine lv_goto (tgt := 67) hx hb dX5_aboutLine_52 (by decide) ?_
        exact hJ67_n q2 (1 : Int32) x1 _ _ _ hF hs (lv_sub hl [] rfl)
    · have hF := (if_neg hc).symm.trans hF
      exact sx_vret hx hb hr hlk hQ (congrArg (fun z => WM G a z) (Option.some.inj hF)) hs dX5_aboutLine_40
  unfold F_X5_aboutLine at hF
  refine lv_aload_n hx hb dX5_aboutLine_0 rfl (lv_at hl 0 rfl) ?_
  refine fg_X5_182 hx hb hown hts hE hs 0 rfl (v := .int (m_toldOnce S)) rfl dX5_aboutLine_1 ?_
  refine lv_iload_n hx hb dX5_aboutLine_4 rfl (lv_at hl 1 rfl) ?_
  refine lv_ishr hx hb dX5_aboutLine_5 ?_
  refine lv_iconst (v := (1 : Int32)) hx hb dX5_aboutLine_6 (by decide) ?_
  refine lv_iand hx hb dX5_aboutLine_7 ?_
  refine lv_iconst (v := (1 : Int32)) hx hb dX5_aboutLine_8 (by decide) ?_
  refine lv_icmp_ne (tgt := 17) hx hb dX5_aboutLine_9 (by decide) (fun hc => ?_) (fun hc => ?_)
  · have hF := (if_neg hc).symm.trans hF
    exact hJ17_n S x1 _ _ _ hF hs (lv_sub hl [0, 1] rfl)
  · have hF := (if_pos hc).symm.trans hF
    refine lv_aload_n hx hb dX5_aboutLine_12 rfl (lv_at hl 0 rfl) ?_
    refine lv_iconst (v := (3 : Int32)) hx hb dX5_aboutLine_13 (by decide) ?_
    obtain ⟨q8, hq8, hF⟩ := bd hF
    refine sx_V (As := [.int (3 : Int32)]) (rest := []) (st1 := []) (c_X5_fails G l a S (3 : Int32) q8 hq8) v_X5_154 ⟨(Nat.le_of_ble_eq_true rfl), (Nat.le_of_ble_eq_true rfl)⟩ hx hb hml hown hts hE hA hs ⟨Nat.le_refl 0, Nat.le_refl 0⟩ 0 rfl rfl rfl rfl rfl hl.1 (Nat.le_of_ble_eq_true rfl) dX5_aboutLine_14 (pmW _) (ws' := WM G a q8) (pmW _) (fun H locs hs => ?_)
    exact hJ17_n q8 x1 _ _ _ hF hs (lv_sub hl [0, 1] rfl)
set_option maxHeartbeats 4000000 in
set_option maxRecDepth 100000 in
theorem c_X5_line (G : GT) (l : Launch) (a : Nat → Nat) (S : MS) (r : MS) (hF : F_X5_line S = some r) : MT G l yX5_line cX5_line 2 (none) 5 112 [.ref (a 0)] (WM G a S) none (WM G a r) := by
  refine MT.of (by decide) (Nat.le_of_ble_eq_true rfl) ?_
  intro p e s m args below meth c A ls hx hb hr hml hown hts hlk hE hA hs hl Q hQ
  have hl : lv_has ls 2 [(0, .ref (a 0))] := hl
  unfold F_X5_line at hF
  refine lv_aload_n hx hb dX5_line_0 rfl (lv_at hl 0 rfl) ?_
  obtain ⟨q1, hq1, hF⟩ := bd hF
  refine sx_V (As := []) (rest := []) (st1 := [.int q1]) (c_X5_aboutHere G l a S q1 hq1) v_X5_119 ⟨(Nat.le_of_ble_eq_true rfl), (Nat.le_of_ble_eq_true rfl)⟩ hx hb hml hown hts hE hA hs ⟨Nat.le_refl 0, Nat.le_refl 0⟩ 0 rfl rfl rfl rfl rfl hl.1 (Nat.le_of_ble_eq_true rfl) dX5_line_1 (pmW _) (ws' := WM G a S) (pmW _) (fun H locs hs => ?_)
  refine lv_istore_n (lv' := [(1, .int q1), (0, .ref (a 0))]) hx hb dX5_line_4 rfl hl (by decide) rfl (fun ls hl => ?_)
  refine lv_aload_n hx hb dX5_line_5 rfl (lv_at hl 1 rfl) ?_
  obtain ⟨q2, hq2, hF⟩ := bd hF
  refine sx_S (As := []) (rest := [.ref (a 0)]) (st1 := [.long q2, .ref (a 0)]) (c_X5_shipWord G l  q2 hq2) v_X5_123 ⟨(Nat.le_of_ble_eq_true rfl), (Nat.le_of_ble_eq_true rfl)⟩ hx hb hml hown hts hE hA hs ⟨Nat.le_refl 0, Nat.le_refl 0⟩ rfl rfl rfl hl.1 (Nat.le_of_ble_eq_true rfl) dX5_line_6 (List.Perm.refl _) (ws' := WM G a S) (List.Perm.refl _) (fun H locs hs => ?_)
  obtain ⟨q3, hq3, hF⟩ := bd hF
  refine sx_V (As := [.long q2]) (rest := []) (st1 := [.int q3]) (c_X5_isWord G l a S q2 q3 hq3) v_X5_115 ⟨(Nat.le_of_ble_eq_true rfl), (Nat.le_of_ble_eq_true rfl)⟩ hx hb hml hown hts hE hA hs ⟨Nat.le_refl 0, Nat.le_refl 0⟩ 0 rfl rfl rfl rfl rfl hl.1 (Nat.le_of_ble_eq_true rfl) dX5_line_9 (pmW _) (ws' := WM G a S) (pmW _) (fun H locs hs => ?_)
  refine lv_if_eq (tgt := 22) hx hb dX5_line_12 (by decide) (fun hc => ?_) (fun hc => ?_)
  · have hF := (if_pos hc).symm.trans hF
    refine lv_aload_n hx hb dX5_line_22 rfl (lv_at hl 1 rfl) ?_
    obtain ⟨q4, hq4, hF⟩ := bd hF
    refine sx_S (As := []) (rest := [.ref (a 0)]) (st1 := [.long q4, .ref (a 0)]) (c_X5_goodsWord G l  q4 hq4) v_X5_145 ⟨(Nat.le_of_ble_eq_true rfl), (Nat.le_of_ble_eq_true rfl)⟩ hx hb hml hown hts hE hA hs ⟨Nat.le_refl 0, Nat.le_refl 0⟩ rfl rfl rfl hl.1 (Nat.le_of_ble_eq_true rfl) dX5_line_23 (List.Perm.refl _) (ws' := WM G a S) (List.Perm.refl _) (fun H locs hs => ?_)
    obtain ⟨q5, hq5, hF⟩ := bd hF
    refine sx_V (As := [.long q4]) (rest := []) (st1 := [.int q5]) (c_X5_isWord G l a S q4 q5 hq5) v_X5_115 ⟨(Nat.le_of_ble_eq_true rfl), (Nat.le_of_ble_eq_true rfl)⟩ hx hb hml hown hts hE hA hs ⟨Nat.le_refl 0, Nat.le_refl 0⟩ 0 rfl rfl rfl rfl rfl hl.1 (Nat.le_of_ble_eq_true rfl) dX5_line_26 (pmW _) (ws' := WM G a S) (pmW _) (fun H locs hs => ?_)
    refine lv_if_eq (tgt := 40) hx hb dX5_line_29 (by decide) (fun hc => ?_) (fun hc => ?_)
    · have hF := (if_pos hc).symm.trans hF
      refine lv_aload_n hx hb dX5_line_40 rfl (lv_at hl 1 rfl) ?_
      obtain ⟨q6, hq6, hF⟩ := bd hF
      refine sx_S (As := []) (rest := [.ref (a 0)]) (st1 := [.long q6, .ref (a 0)]) (c_X5_personsWord G l  q6 hq6) v_X5_197 ⟨(Nat.le_of_ble_eq_true rfl), (Nat.le_of_ble_eq_true rfl)⟩ hx hb hml hown hts hE hA hs ⟨Nat.le_refl 0, Nat.le_refl 0⟩ rfl rfl rfl hl.1 (Nat.le_of_ble_eq_true rfl) dX5_line_41 (List.Perm.refl _) (ws' := WM G a S) (List.Perm.refl _) (fun H locs hs => ?_)
      obtain ⟨q7, hq7, hF⟩ := bd hF
      refine sx_V (As := [.long q6]) (rest := []) (st1 := [.int q7]) (c_X5_isWord G l a S q6 q7 hq7) v_X5_115 ⟨(Nat.le_of_ble_eq_true rfl), (Nat.le_of_ble_eq_true rfl)⟩ hx hb hml hown hts hE hA hs ⟨Nat.le_refl 0, Nat.le_refl 0⟩ 0 rfl rfl rfl rfl rfl hl.1 (Nat.le_of_ble_eq_true rfl) dX5_line_44 (pmW _) (ws' := WM G a S) (pmW _) (fun H locs hs => ?_)
      refine lv_if_eq (tgt := 58) hx hb dX5_line_47 (by decide) (fun hc => ?_) (fun hc => ?_)
      · have hF := (if_pos hc).symm.trans hF
        refine lv_aload_n hx hb dX5_line_58 rfl (lv_at hl 1 rfl) ?_
        obtain ⟨q8, hq8, hF⟩ := bd hF
        refine sx_S (As := []) (rest := [.ref (a 0)]) (st1 := [.long q8, .ref (a 0)]) (c_X5_othersWord G l  q8 hq8) v_X5_148 ⟨(Nat.le_of_ble_eq_true rfl), (Nat.le_of_ble_eq_true rfl)⟩ hx hb hml hown hts hE hA hs ⟨Nat.le_refl 0, Nat.le_refl 0⟩ rfl rfl rfl hl.1 (Nat.le_of_ble_eq_true rfl) dX5_line_59 (List.Perm.refl _) (ws' := WM G a S) (List.Perm.refl _) (fun H locs hs => ?_)
        obtain ⟨q9, hq9, hF⟩ := bd hF
        refine sx_V (As := [.long q8]) (rest := []) (st1 := [.int q9]) (c_X5_isWord G l a S q8 q9 hq9) v_X5_115 ⟨(Nat.le_of_ble_eq_true rfl), (Nat.le_of_ble_eq_true rfl)⟩ hx hb hml hown hts hE hA hs ⟨Nat.le_refl 0, Nat.le_refl 0⟩ 0 rfl rfl rfl rfl rfl hl.1 (Nat.le_of_ble_eq_true rfl) dX5_line_62 (pmW _) (ws' := WM G a S) (pmW _) (fun H locs hs => ?_)
        refine lv_if_eq (tgt := 76) hx hb dX5_line_65 (by decide) (fun hc => ?_) (fun hc => ?_)
        · have hF := (if_pos hc).symm.trans hF
          refine lv_iload_n hx hb dX5_line_76 rfl (lv_at hl 0 rfl) ?_
          refine lv_iconst (v := (-1 : Int32)) hx hb dX5_line_77 (by decide) ?_
          refine lv_icmp_eq (tgt := 89) hx hb dX5_line_78 (by decide) (fun hc => ?_) (fun hc => ?_)
          · have hF := (if_pos hc).symm.trans hF
            refine lv_aload_n hx hb dX5_line_89 rfl (lv_at hl 1 rfl) ?_
            refine lv_iconst (v := (1 : Int32)) hx hb dX5_line_90 (by decide) ?_
            obtain ⟨q10, hq10, hF⟩ := bd hF
            refine sx_V (As := [.int (1 : Int32)]) (rest := []) (st1 := []) (c_X5_fails G l a S (1 : Int32) q10 hq10) v_X5_154 ⟨(Nat.le_of_ble_eq_true rfl), (Nat.le_of_ble_eq_true rfl)⟩ hx hb hml hown hts hE hA hs ⟨Nat.le_refl 0, Nat.le_refl 0⟩ 0 rfl rfl rfl rfl rfl hl.1 (Nat.le_of_ble_eq_true rfl) dX5_line_91 (pmW _) (ws' := WM G a q10) (pmW _) (fun H locs hs => ?_)
            exact sx_vret hx hb hr hlk hQ (congrArg (fun z => WM G a z) (Option.some.inj hF)) hs dX5_line_94
          · have hF := (if_neg hc).symm.trans hF
            refine lv_aload_n hx hb dX5_line_81 rfl (lv_at hl 1 rfl) ?_
            refine lv_iload_n hx hb dX5_line_82 rfl (lv_at hl 0 rfl) ?_
            obtain ⟨q11, hq11, hF⟩ := bd hF
            refine sx_V (As := [.int q1]) (rest := []) (st1 := []) (c_X5_aboutLine G l a S q1 q11 hq11) v_X5_200 ⟨(Nat.le_of_ble_eq_true rfl), (Nat.le_of_ble_eq_true rfl)⟩ hx hb hml hown hts hE hA hs ⟨Nat.le_refl 0, Nat.le_refl 0⟩ 0 rfl rfl rfl rfl rfl hl.1 (Nat.le_of_ble_eq_true rfl) dX5_line_83 (pmW _) (ws' := WM G a q11) (pmW _) (fun H locs hs => ?_)
            refine lv_goto (tgt := 94) hx hb dX5_line_86 (by decide) ?_
            exact sx_vret hx hb hr hlk hQ (congrArg (fun z => WM G a z) (Option.some.inj hF)) hs dX5_line_94
        · have hF := (if_neg hc).symm.trans hF
          refine lv_aload_n hx hb dX5_line_68 rfl (lv_at hl 1 rfl) ?_
          refine lv_iconst (v := (2 : Int32)) hx hb dX5_line_69 (by decide) ?_
          obtain ⟨q12, hq12, hF⟩ := bd hF
          refine sx_V (As := [.int (2 : Int32)]) (rest := []) (st1 := []) (c_X5_claimLine G l a S (2 : Int32) q12 hq12) v_X5_194 ⟨(Nat.le_of_ble_eq_true rfl), (Nat.le_of_ble_eq_true rfl)⟩ hx hb hml hown hts hE hA hs ⟨Nat.le_refl 0, Nat.le_refl 0⟩ 0 rfl rfl rfl rfl rfl hl.1 (Nat.le_of_ble_eq_true rfl) dX5_line_70 (pmW _) (ws' := WM G a q12) (pmW _) (fun H locs hs => ?_)
          refine lv_goto (tgt := 94) hx hb dX5_line_73 (by decide) ?_
          exact sx_vret hx hb hr hlk hQ (congrArg (fun z => WM G a z) (Option.some.inj hF)) hs dX5_line_94
      · have hF := (if_neg hc).symm.trans hF
        refine lv_aload_n hx hb dX5_line_50 rfl (lv_at hl 1 rfl) ?_
        refine lv_iconst (v := (1 : Int32)) hx hb dX5_line_51 (by decide) ?_
        obtain ⟨q13, hq13, hF⟩ := bd hF
        refine sx_V (As := [.int (1 : Int32)]) (rest := []) (st1 := []) (c_X5_claimLine G l a S (1 : Int32) q13 hq13) v_X5_194 ⟨(Nat.le_of_ble_eq_true rfl), (Nat.le_of_ble_eq_true rfl)⟩ hx hb hml hown hts hE hA hs ⟨Nat.le_refl 0, Nat.le_refl 0⟩ 0 rfl rfl rfl rfl rfl hl.1 (Nat.le_of_ble_eq_true rfl) dX5_line_52 (pmW _) (ws' := WM G a q13) (pmW _) (fun H locs hs => ?_)
        refine lv_goto (tgt := 94) hx hb dX5_line_55 (by decide) ?_
        exact sx_vret hx hb hr hlk hQ (congrArg (fun z => WM G a z) (Option.some.inj hF)) hs dX5_line_94
    · have hF := (if_neg hc).symm.trans hF
      refine lv_aload_n hx hb dX5_line_32 rfl (lv_at hl 1 rfl) ?_
      refine lv_iconst (v := (0 : Int32)) hx hb dX5_line_33 (by decide) ?_
      obtain ⟨q14, hq14, hF⟩ := bd hF
      refine sx_V (As := [.int (0 : Int32)]) (rest := []) (st1 := []) (c_X5_claimLine G l a S (0 : Int32) q14 hq14) v_X5_194 ⟨(Nat.le_of_ble_eq_true rfl), (Nat.le_of_ble_eq_true rfl)⟩ hx hb hml hown hts hE hA hs ⟨Nat.le_refl 0, Nat.le_refl 0⟩ 0 rfl rfl rfl rfl rfl hl.1 (Nat.le_of_ble_eq_true rfl) dX5_line_34 (pmW _) (ws' := WM G a q14) (pmW _) (fun H locs hs => ?_)
      refine lv_goto (tgt := 94) hx hb dX5_line_37 (by decide) ?_
      exact sx_vret hx hb hr hlk hQ (congrArg (fun z => WM G a z) (Option.some.inj hF)) hs dX5_line_94
  · have hF := (if_neg hc).symm.trans hF
    refine lv_aload_n hx hb dX5_line_15 rfl (lv_at hl 1 rfl) ?_
    obtain ⟨q15, hq15, hF⟩ := bd hF
    refine sx_V (As := []) (rest := []) (st1 := []) (c_X5_shipLine G l a S q15 hq15) v_X5_191 ⟨(Nat.le_of_ble_eq_true rfl), (Nat.le_of_ble_eq_true rfl)⟩ hx hb hml hown hts hE hA hs ⟨Nat.le_refl 0, Nat.le_refl 0⟩ 0 rfl rfl rfl rfl rfl hl.1 (Nat.le_of_ble_eq_true rfl) dX5_line_16 (pmW _) (ws' := WM G a q15) (pmW _) (fun H locs hs => ?_)
    refine lv_goto (tgt := 94) hx hb dX5_line_19 (by decide) ?_
    exact sx_vret hx hb hr hlk hQ (congrArg (fun z => WM G a z) (Option.some.inj hF)) hs dX5_line_94
set_option maxHeartbeats 4000000 in
set_option maxRecDepth 100000 in
theorem c_X5_plain (G : GT) (l : Launch) (a : Nat → Nat) (S : MS) (r : MS) (hF : F_X5_plain S = some r) : MT G l yX5_plain cX5_plain 2 (none) 0 0 [.ref (a 0)] (WM G a S) none (WM G a r) := by
  refine MT.of (by decide) (Nat.le_of_ble_eq_true rfl) ?_
  intro p e s m args below meth c A ls hx hb hr hml hown hts hlk hE hA hs hl Q hQ
  have hl : lv_has ls 2 [(0, .ref (a 0))] := hl
  have hL2 : ∀ (k : MS → Option (MS)) (hk : ∀ (S : MS) (H : Heap) (locs : List Loc) (ls : Array Slot), k S = some r → SI G A s H locs (WM G a S) → lv_has ls 2 [(0, .ref (a 0))] → W p l e (RM 0 0) s m args below meth c H locs 0 0 Q (F0 m 21 ls [])) (fu : Nat) (S : MS) (x1 : Int32) (H : Heap) (locs : List Loc) (ls : Array Slot), lo2 (B_X5_plain_2 k) fu S x1 = some r → SI G A s H locs (WM G a S) → lv_has ls 2 [(0, .ref (a 0)), (1, .int x1)] → W p l e (RM 0 0) s m args below meth c H locs 0 0 Q (F0 m 2 ls []) := by
    intro k hk fu
    induction fu with
    | zero =>
      intro S x1 H locs ls hF hs hl
      exact nomatch (show (none : Option (MS)) = some r from hF)
    | succ fu hrec =>
      intro S x1 H locs ls hF hs hl
      have hF : (B_X5_plain_2 k) (lo2 (B_X5_plain_2 k) fu) S x1 = some r := hF
      unfold B_X5_plain_2 at hF
      refine lv_iload_n hx hb dX5_plain_2 rfl (lv_at hl 1 rfl) ?_
      refine lv_bipush (v := (82 : Int32)) hx hb dX5_plain_3 (by decide) ?_
      refine lv_icmp_ge (tgt := 21) hx hb dX5_plain_5 (by decide) (fun hc => ?_) (fun hc => ?_)
      · have hF := (if_pos hc).symm.trans hF
        exact hk S _ _ _ hF hs (lv_sub hl [0] rfl)
      · have hF := (if_neg hc).symm.trans hF
        refine lv_aload_n hx hb dX5_plain_8 rfl (lv_at hl 0 rfl) ?_
        refine fg_X5_20 hx hb hown hts hE hs 0 rfl (v := .ref (a 3)) rfl dX5_plain_9 ?_
        refine lv_iload_n hx hb dX5_plain_12 rfl (lv_at hl 1 rfl) ?_
        refine lv_iconst (v := (0 : Int32)) hx hb dX5_plain_13 (by decide) ?_
        obtain ⟨f1, hf1, hF⟩ := bd hF
        obtain ⟨S2, eS2, hF⟩ := nm_some hF
        refine sx_iast hx hb hE hs 3 (f := m_read S) rfl hf1 (ws' := WM G a S2) (by subst eS2; rfl) dX5_plain_14 (fun H locs hs => ?_)
        obtain ⟨v3, ev3, hF⟩ := nm_some hF
        refine lv_iinc (v := v3) (lv' := [(1, .int v3), (0, .ref (a 0))]) hx hb dX5_plain_15 hl (k := 1) rfl (by rw [ev3]; rfl) (by decide) rfl (fun ls hl => ?_)
        refine lv_goto (tgt := 2) hx hb dX5_plain_18 (by decide) ?_
        exact hrec S2 v3 _ _ _ hF hs (lv_sub hl [1, 0] rfl)
  unfold F_X5_plain at hF
  refine lv_iconst (v := (0 : Int32)) hx hb dX5_plain_0 (by decide) ?_
  refine lv_istore_n (lv' := [(1, .int (0 : Int32)), (0, .ref (a 0))]) hx hb dX5_plain_1 rfl hl (by decide) rfl (fun ls hl => ?_)
  refine hL2 _ (fun S4 H locs ls hF hs hl => ?_) FU S (0 : Int32) _ _ _ hF hs (lv_sub hl [1, 0] rfl)
  refine lv_aload_n hx hb dX5_plain_21 rfl (lv_at hl 0 rfl) ?_
  refine fg_X5_20 hx hb hown hts hE hs 0 rfl (v := .ref (a 3)) rfl dX5_plain_22 ?_
  refine lv_iconst (v := (5 : Int32)) hx hb dX5_plain_25 (by decide) ?_
  refine lv_bipush (v := (100 : Int32)) hx hb dX5_plain_26 (by decide) ?_
  obtain ⟨f5, hf5, hF⟩ := bd hF
  obtain ⟨S6, eS6, hF⟩ := nm_some hF
  refine sx_iast hx hb hE hs 3 (f := m_read S4) rfl hf5 (ws' := WM G a S6) (by subst eS6; rfl) dX5_plain_28 (fun H locs hs => ?_)
  refine lv_aload_n hx hb dX5_plain_29 rfl (lv_at hl 0 rfl) ?_
  refine fg_X5_20 hx hb hown hts hE hs 0 rfl (v := .ref (a 3)) rfl dX5_plain_30 ?_
  refine lv_bipush (v := (6 : Int32)) hx hb dX5_plain_33 (by decide) ?_
  refine lv_sipush (v := (200 : Int32)) hx hb dX5_plain_35 (by decide) ?_
  obtain ⟨f7, hf7, hF⟩ := bd hF
  obtain ⟨S8, eS8, hF⟩ := nm_some hF
  refine sx_iast hx hb hE hs 3 (f := m_read S6) rfl hf7 (ws' := WM G a S8) (by subst eS8; rfl) dX5_plain_38 (fun H locs hs => ?_)
  refine lv_aload_n hx hb dX5_plain_39 rfl (lv_at hl 0 rfl) ?_
  refine fg_X5_20 hx hb hown hts hE hs 0 rfl (v := .ref (a 3)) rfl dX5_plain_40 ?_
  refine lv_bipush (v := (7 : Int32)) hx hb dX5_plain_43 (by decide) ?_
  refine lv_sipush (v := (300 : Int32)) hx hb dX5_plain_45 (by decide) ?_
  obtain ⟨f9, hf9, hF⟩ := bd hF
  obtain ⟨S10, eS10, hF⟩ := nm_some hF
  refine sx_iast hx hb hE hs 3 (f := m_read S8) rfl hf9 (ws' := WM G a S10) (by subst eS10; rfl) dX5_plain_48 (fun H locs hs => ?_)
  refine lv_aload_n hx hb dX5_plain_49 rfl (lv_at hl 0 rfl) ?_
  refine fg_X5_20 hx hb hown hts hE hs 0 rfl (v := .ref (a 3)) rfl dX5_plain_50 ?_
  refine lv_bipush (v := (8 : Int32)) hx hb dX5_plain_53 (by decide) ?_
  refine lv_sipush (v := (365 : Int32)) hx hb dX5_plain_55 (by decide) ?_
  obtain ⟨f11, hf11, hF⟩ := bd hF
  obtain ⟨S12, eS12, hF⟩ := nm_some hF
  refine sx_iast hx hb hE hs 3 (f := m_read S10) rfl hf11 (ws' := WM G a S12) (by subst eS12; rfl) dX5_plain_58 (fun H locs hs => ?_)
  refine lv_aload_n hx hb dX5_plain_59 rfl (lv_at hl 0 rfl) ?_
  refine fg_X5_20 hx hb hown hts hE hs 0 rfl (v := .ref (a 3)) rfl dX5_plain_60 ?_
  refine lv_bipush (v := (9 : Int32)) hx hb dX5_plain_63 (by decide) ?_
  refine lv_sipush (v := (730 : Int32)) hx hb dX5_plain_65 (by decide) ?_
  obtain ⟨f13, hf13, hF⟩ := bd hF
  obtain ⟨S14, eS14, hF⟩ := nm_some hF
  refine sx_iast hx hb hE hs 3 (f := m_read S12) rfl hf13 (ws' := WM G a S14) (by subst eS14; rfl) dX5_plain_68 (fun H locs hs => ?_)
  refine lv_aload_n hx hb dX5_plain_69 rfl (lv_at hl 0 rfl) ?_
  refine lv_iconst (v := (0 : Int32)) hx hb dX5_plain_70 (by decide) ?_
  obtain ⟨S15, eS15, hF⟩ := nm_some hF
  refine fp_X5_182 hx hb hown hts hE hs 0 rfl (ws' := WM G a S15) (Nat.le_of_ble_eq_true rfl) (by subst eS15; rfl) dX5_plain_71 (fun H locs hs => ?_)
  exact sx_vret hx hb hr hlk hQ (congrArg (fun z => WM G a z) (Option.some.inj hF)) hs dX5_plain_74
set_option maxHeartbeats 4000000 in
set_option maxRecDepth 100000 in
theorem c_X5_tenths (G : GT) (l : Launch) (a : Nat → Nat) (S : MS) (r : Int32) (hF : F_X5_tenths S = some r) : MT G l yX5_tenths cX5_tenths 3 (some .int) 0 0 [.ref (a 0)] (WM G a S) (some (.int r)) (WM G a S) := by
  refine MT.of (by decide) (Nat.le_of_ble_eq_true rfl) ?_
  intro p e s m args below meth c A ls hx hb hr hml hown hts hlk hE hA hs hl Q hQ
  have hl : lv_has ls 3 [(0, .ref (a 0))] := hl
  have hL4 : ∀ (k : Int32 → Option (Int32)) (hk : ∀ (x1 : Int32) (H : Heap) (locs : List Loc) (ls : Array Slot), k x1 = some r → SI G A s H locs (WM G a S) → lv_has ls 3 [(1, .int x1)] → W p l e (RM 0 0) s m args below meth c H locs 0 0 Q (F0 m 37 ls [])) (fu : Nat) (x1 : Int32) (x2 : Int32) (H : Heap) (locs : List Loc) (ls : Array Slot), lo2 (B_X5_tenths_4 S k) fu x1 x2 = some r → SI G A s H locs (WM G a S) → lv_has ls 3 [(0, .ref (a 0)), (1, .int x1), (2, .int x2)] → W p l e (RM 0 0) s m args below meth c H locs 0 0 Q (F0 m 4 ls []) := by
    intro k hk fu
    induction fu with
    | zero =>
      intro x1 x2 H locs ls hF hs hl
      exact nomatch (show (none : Option (Int32)) = some r from hF)
    | succ fu hrec =>
      intro x1 x2 H locs ls hF hs hl
      have hF : (B_X5_tenths_4 S k) (lo2 (B_X5_tenths_4 S k) fu) x1 x2 = some r := hF
      unfold B_X5_tenths_4 at hF
      refine lv_iload_n hx hb dX5_tenths_4 rfl (lv_at hl 2 rfl) ?_
      refine lv_aload_n hx hb dX5_tenths_5 rfl (lv_at hl 0 rfl) ?_
      refine fg_X5_20 hx hb hown hts hE hs 0 rfl (v := .ref (a 3)) rfl dX5_tenths_6 ?_
      refine lv_iconst (v := (0 : Int32)) hx hb dX5_tenths_9 (by decide) ?_
      obtain ⟨v1, hv1, hF⟩ := bd hF
      refine sx_iald hx hb hE hs 3 (f := m_read S) rfl hv1 dX5_tenths_10 ?_
      refine lv_icmp_ge (tgt := 37) hx hb dX5_tenths_11 (by decide) (fun hc => ?_) (fun hc => ?_)
      · have hF := (if_pos hc).symm.trans hF
        exact hk x1 _ _ _ hF hs (lv_sub hl [1] rfl)
      · have hF := (if_neg hc).symm.trans hF
        refine lv_iload_n hx hb dX5_tenths_14 rfl (lv_at hl 1 rfl) ?_
        refine lv_aload_n hx hb dX5_tenths_15 rfl (lv_at hl 0 rfl) ?_
        refine fg_X5_20 hx hb hown hts hE hs 0 rfl (v := .ref (a 3)) rfl dX5_tenths_16 ?_
        refine lv_bipush (v := (10 : Int32)) hx hb dX5_tenths_19 (by decide) ?_
        refine lv_bipush (v := (6 : Int32)) hx hb dX5_tenths_21 (by decide) ?_
        refine lv_iload_n hx hb dX5_tenths_23 rfl (lv_at hl 2 rfl) ?_
        refine lv_imul hx hb dX5_tenths_24 ?_
        refine lv_iadd hx hb dX5_tenths_25 ?_
        refine lv_iconst (v := (1 : Int32)) hx hb dX5_tenths_26 (by decide) ?_
        refine lv_iadd hx hb dX5_tenths_27 ?_
        obtain ⟨v2, hv2, hF⟩ := bd hF
        refine sx_iald hx hb hE hs 3 (f := m_read S) rfl hv2 dX5_tenths_28 ?_
        refine lv_iadd hx hb dX5_tenths_29 ?_
        obtain ⟨v3, ev3, hF⟩ := nm_some hF
        refine sx_topi ev3 ?_
        refine lv_istore_n (lv' := [(1, .int v3), (0, .ref (a 0)), (2, .int x2)]) hx hb dX5_tenths_30 rfl hl (by decide) rfl (fun ls hl => ?_)
        obtain ⟨v4, ev4, hF⟩ := nm_some hF
        refine lv_iinc (v := v4) (lv' := [(2, .int v4), (1, .int v3), (0, .ref (a 0))]) hx hb dX5_tenths_31 hl (k := 2) rfl (by rw [ev4]; rfl) (by decide) rfl (fun ls hl => ?_)
        refine lv_goto (tgt := 4) hx hb dX5_tenths_34 (by decide) ?_
        exact hrec v3 v4 _ _ _ hF hs (lv_sub hl [2, 1, 0] rfl)
  unfold F_X5_tenths at hF
  refine lv_iconst (v := (0 : Int32)) hx hb dX5_tenths_0 (by decide) ?_
  refine lv_istore_n (lv' := [(1, .int (0 : Int32)), (0, .ref (a 0))]) hx hb dX5_tenths_1 rfl hl (by decide) rfl (fun ls hl => ?_)
  refine lv_iconst (v := (0 : Int32)) hx hb dX5_tenths_2 (by decide) ?_
  refine lv_istore_n (lv' := [(2, .int (0 : Int32)), (1, .int (0 : Int32)), (0, .ref (a 0))]) hx hb dX5_tenths_3 rfl hl (by decide) rfl (fun ls hl => ?_)
  refine hL4 _ (fun z5 H locs ls hF hs hl => ?_) FU (0 : Int32) (0 : Int32) _ _ _ hF hs (lv_sub hl [2, 1, 0] rfl)
  refine lv_iload_n hx hb dX5_tenths_37 rfl (lv_at hl 0 rfl) ?_
  exact sx_iret hx hb hr hlk hQ (Option.some.inj hF) rfl hs dX5_tenths_38
set_option maxHeartbeats 4000000 in
set_option maxRecDepth 100000 in
theorem c_X5_reads (G : GT) (l : Launch) (a : Nat → Nat) (S : MS) (x1 : Int32) (r : MS) (hF : F_X5_reads S x1 = some r) : MT G l yX5_reads cX5_reads 3 (none) 6 133 [.ref (a 0), .int x1] (WM G a S) none (WM G a r) := by
  refine MT.of (by decide) (Nat.le_of_ble_eq_true rfl) ?_
  intro p e s m args below meth c A ls hx hb hr hml hown hts hlk hE hA hs hl Q hQ
  have hl : lv_has ls 3 [(0, .ref (a 0)), (1, .int x1)] := hl
  have hJ65_30 : ∀ (k : MS → Option (MS)) (rc : MS → Int32 → Option (MS)) (hk : ∀ (S : MS) (H : Heap) (locs : List Loc) (ls : Array Slot), k S = some r → SI G A s H locs (WM G a S) → lv_has ls 3 [(0, .ref (a 0))] → W p l e (RM 6 133) s m args below meth c H locs 0 0 Q (F0 m 77 ls [])) (hrec : ∀ (S : MS) (x2 : Int32) (H : Heap) (locs : List Loc) (ls : Array Slot), rc S x2 = some r → SI G A s H locs (WM G a S) → lv_has ls 3 [(0, .ref (a 0)), (2, .int x2)] → W p l e (RM 6 133) s m args below meth c H locs 0 0 Q (F0 m 30 ls [])) (S : MS) (y0 : Int32) (H : Heap) (locs : List Loc) (ls : Array Slot), J_X5_reads_65 k rc S y0 = some r → SI G A s H locs (WM G a S) → lv_has ls 3 [(0, .ref (a 0))] → W p l e (RM 6 133) s m args below meth c H locs 0 0 Q (F0 m 65 ls [.int y0]) := by
    intro k rc hk hrec S y0 H locs ls hF hs hl
    unfold J_X5_reads_65 at hF
    refine lv_istore_n (lv' := [(2, .int y0), (0, .ref (a 0))]) hx hb dX5_reads_65 rfl hl (by decide) rfl (fun ls hl => ?_)
    refine lv_iload_n hx hb dX5_reads_66 rfl (lv_at hl 0 rfl) ?_
    refine lv_if_eq (tgt := 30) hx hb dX5_reads_67 (by decide) (fun hc => ?_) (fun hc => ?_)
    · have hF := (if_pos hc).symm.trans hF
      exact hrec S y0 _ _ _ hF hs (lv_sub hl [1, 0] rfl)
    · have hF := (if_neg hc).symm.trans hF
      refine lv_aload_n hx hb dX5_reads_70 rfl (lv_at hl 1 rfl) ?_
      obtain ⟨q8, hq8, hF⟩ := bd hF
      refine sx_V (As := []) (rest := []) (st1 := []) (c_X5_token G l a S q8 hq8) v_X5_104 ⟨(Nat.le_of_ble_eq_true rfl), (Nat.le_of_ble_eq_true rfl)⟩ hx hb hml hown hts hE hA hs ⟨Nat.le_refl 0, Nat.le_refl 0⟩ 0 rfl rfl rfl rfl rfl hl.1 (Nat.le_of_ble_eq_true rfl) dX5_reads_71 (pmW _) (ws' := WM G a q8) (pmW _) (fun H locs hs => ?_)
      refine lv_goto (tgt := 30) hx hb dX5_reads_74 (by decide) ?_
      exact hrec q8 y0 _ _ _ hF hs (lv_sub hl [1, 0] rfl)
  have hJ64_30 : ∀ (k : MS → Option (MS)) (rc : MS → Int32 → Option (MS)) (hk : ∀ (S : MS) (H : Heap) (locs : List Loc) (ls : Array Slot), k S = some r → SI G A s H locs (WM G a S) → lv_has ls 3 [(0, .ref (a 0))] → W p l e (RM 6 133) s m args below meth c H locs 0 0 Q (F0 m 77 ls [])) (hrec : ∀ (S : MS) (x2 : Int32) (H : Heap) (locs : List Loc) (ls : Array Slot), rc S x2 = some r → SI G A s H locs (WM G a S) → lv_has ls 3 [(0, .ref (a 0)), (2, .int x2)] → W p l e (RM 6 133) s m args below meth c H locs 0 0 Q (F0 m 30 ls [])) (S : MS) (H : Heap) (locs : List Loc) (ls : Array Slot), J_X5_reads_64 k rc S = some r → SI G A s H locs (WM G a S) → lv_has ls 3 [(0, .ref (a 0))] → W p l e (RM 6 133) s m args below meth c H locs 0 0 Q (F0 m 64 ls []) := by
    intro k rc hk hrec S H locs ls hF hs hl
    unfold J_X5_reads_64 at hF
    refine lv_iconst (v := (0 : Int32)) hx hb dX5_reads_64 (by decide) ?_
    exact hJ65_30 _ _ hk hrec S (0 : Int32) _ _ _ hF hs (lv_sub hl [0] rfl)
  have hL30 : ∀ (k : MS → Option (MS)) (hk : ∀ (S : MS) (H : Heap) (locs : List Loc) (ls : Array Slot), k S = some r → SI G A s H locs (WM G a S) → lv_has ls 3 [(0, .ref (a 0))] → W p l e (RM 6 133) s m args below meth c H locs 0 0 Q (F0 m 77 ls [])) (fu : Nat) (S : MS) (x2 : Int32) (H : Heap) (locs : List Loc) (ls : Array Slot), lo2 (B_X5_reads_30 k) fu S x2 = some r → SI G A s H locs (WM G a S) → lv_has ls 3 [(0, .ref (a 0)), (2, .int x2)] → W p l e (RM 6 133) s m args below meth c H locs 0 0 Q (F0 m 30 ls []) := by
    intro k hk fu
    induction fu with
    | zero =>
      intro S x2 H locs ls hF hs hl
      exact nomatch (show (none : Option (MS)) = some r from hF)
    | succ fu hrec =>
      intro S x2 H locs ls hF hs hl
      have hF : (B_X5_reads_30 k) (lo2 (B_X5_reads_30 k) fu) S x2 = some r := hF
      unfold B_X5_reads_30 at hF
      refine lv_iload_n hx hb dX5_reads_30 rfl (lv_at hl 1 rfl) ?_
      refine lv_if_eq (tgt := 77) hx hb dX5_reads_31 (by decide) (fun hc => ?_) (fun hc => ?_)
      · have hF := (if_pos hc).symm.trans hF
        exact hk S _ _ _ hF hs (lv_sub hl [0] rfl)
      · have hF := (if_neg hc).symm.trans hF
        refine lv_aload_n hx hb dX5_reads_34 rfl (lv_at hl 0 rfl) ?_
        refine fg_X5_98 hx hb hown hts hE hs 0 rfl (v := .int (m_wrong S)) rfl dX5_reads_35 ?_
        refine lv_if_ne (tgt := 77) hx hb dX5_reads_38 (by decide) (fun hc => ?_) (fun hc => ?_)
        · have hF := (if_neg hc).symm.trans hF
          exact hk S _ _ _ hF hs (lv_sub hl [0] rfl)
        · have hF := (if_pos hc).symm.trans hF
          refine lv_aload_n hx hb dX5_reads_41 rfl (lv_at hl 0 rfl) ?_
          obtain ⟨q7, hq7, hF⟩ := bd hF
          refine sx_V (As := []) (rest := []) (st1 := []) (c_X5_line G l a S q7 hq7) v_X5_206 ⟨(Nat.le_of_ble_eq_true rfl), (Nat.le_of_ble_eq_true rfl)⟩ hx hb hml hown hts hE hA hs ⟨Nat.le_refl 0, Nat.le_refl 0⟩ 0 rfl rfl rfl rfl rfl hl.1 (Nat.le_of_ble_eq_true rfl) dX5_reads_42 (pmW _) (ws' := WM G a q7) (pmW _) (fun H locs hs => ?_)
          refine lv_aload_n hx hb dX5_reads_45 rfl (lv_at hl 0 rfl) ?_
          refine fg_X5_98 hx hb hown hts hE hs 0 rfl (v := .int (m_wrong q7)) rfl dX5_reads_46 ?_
          refine lv_if_ne (tgt := 64) hx hb dX5_reads_49 (by decide) (fun hc => ?_) (fun hc => ?_)
          · have hF := (if_neg hc).symm.trans hF
            exact hJ64_30 _ _ hk hrec q7 _ _ _ hF hs (lv_sub hl [0] rfl)
          · have hF := (if_pos hc).symm.trans hF
            refine lv_aload_n hx hb dX5_reads_52 rfl (lv_at hl 0 rfl) ?_
            refine fg_X5_77 hx hb hown hts hE hs 0 rfl (v := .int (m_sort q7)) rfl dX5_reads_53 ?_
            refine lv_iconst (v := (3 : Int32)) hx hb dX5_reads_56 (by decide) ?_
            refine lv_icmp_ne (tgt := 64) hx hb dX5_reads_57 (by decide) (fun hc => ?_) (fun hc => ?_)
            · have hF := (if_neg hc).symm.trans hF
              exact hJ64_30 _ _ hk hrec q7 _ _ _ hF hs (lv_sub hl [0] rfl)
            · have hF := (if_pos hc).symm.trans hF
              refine lv_iconst (v := (1 : Int32)) hx hb dX5_reads_60 (by decide) ?_
              refine lv_goto (tgt := 65) hx hb dX5_reads_61 (by decide) ?_
              exact hJ65_30 _ _ hk hrec q7 (1 : Int32) _ _ _ hF hs (lv_sub hl [0] rfl)
  have hJ125_n : ∀ (S : MS) (H : Heap) (locs : List Loc) (ls : Array Slot), J_X5_reads_125 S = some r → SI G A s H locs (WM G a S) → lv_has ls 3 [(0, .ref (a 0))] → W p l e (RM 6 133) s m args below meth c H locs 0 0 Q (F0 m 125 ls []) := by
    intro S H locs ls hF hs hl
    unfold J_X5_reads_125 at hF
    refine lv_aload_n hx hb dX5_reads_125 rfl (lv_at hl 0 rfl) ?_
    refine lv_iconst (v := (5 : Int32)) hx hb dX5_reads_126 (by decide) ?_
    obtain ⟨q11, hq11, hF⟩ := bd hF
    refine sx_V (As := [.int (5 : Int32)]) (rest := []) (st1 := []) (c_X5_fails G l a S (5 : Int32) q11 hq11) v_X5_154 ⟨(Nat.le_of_ble_eq_true rfl), (Nat.le_of_ble_eq_true rfl)⟩ hx hb hml hown hts hE hA hs ⟨Nat.le_refl 0, Nat.le_refl 0⟩ 0 rfl rfl rfl rfl rfl hl.1 (Nat.le_of_ble_eq_true rfl) dX5_reads_127 (pmW _) (ws' := WM G a q11) (pmW _) (fun H locs hs => ?_)
    exact sx_vret hx hb hr hlk hQ (congrArg (fun z => WM G a z) (Option.some.inj hF)) hs dX5_reads_130
  have hJ89_n : ∀ (S : MS) (H : Heap) (locs : List Loc) (ls : Array Slot), J_X5_reads_89 S = some r → SI G A s H locs (WM G a S) → lv_has ls 3 [(0, .ref (a 0))] → W p l e (RM 6 133) s m args below meth c H locs 0 0 Q (F0 m 89 ls []) := by
    intro S H locs ls hF hs hl
    unfold J_X5_reads_89 at hF
    refine lv_aload_n hx hb dX5_reads_89 rfl (lv_at hl 0 rfl) ?_
    refine fg_X5_20 hx hb hown hts hE hs 0 rfl (v := .ref (a 3)) rfl dX5_reads_90 ?_
    refine lv_iconst (v := (0 : Int32)) hx hb dX5_reads_93 (by decide) ?_
    obtain ⟨v10, hv10, hF⟩ := bd hF
    refine sx_iald hx hb hE hs 3 (f := m_read S) rfl hv10 dX5_reads_94 ?_
    refine lv_iconst (v := (2 : Int32)) hx hb dX5_reads_95 (by decide) ?_
    refine lv_icmp_lt (tgt := 125) hx hb dX5_reads_96 (by decide) (fun hc => ?_) (fun hc => ?_)
    · have hF := (if_pos hc).symm.trans hF
      exact hJ125_n S _ _ _ hF hs (lv_sub hl [0] rfl)
    · have hF := (if_neg hc).symm.trans hF
      refine lv_aload_n hx hb dX5_reads_99 rfl (lv_at hl 0 rfl) ?_
      obtain ⟨q12, hq12, hF⟩ := bd hF
      refine sx_V (As := []) (rest := []) (st1 := [.int q12]) (c_X5_tenths G l a S q12 hq12) v_X5_209 ⟨(Nat.le_of_ble_eq_true rfl), (Nat.le_of_ble_eq_true rfl)⟩ hx hb hml hown hts hE hA hs ⟨Nat.le_refl 0, Nat.le_refl 0⟩ 0 rfl rfl rfl rfl rfl hl.1 (Nat.le_of_ble_eq_true rfl) dX5_reads_100 (pmW _) (ws' := WM G a S) (pmW _) (fun H locs hs => ?_)
      refine lv_bipush (v := (10 : Int32)) hx hb dX5_reads_103 (by decide) ?_
      refine lv_icmp_ne (tgt := 125) hx hb dX5_reads_105 (by decide) (fun hc => ?_) (fun hc => ?_)
      · have hF := (if_neg hc).symm.trans hF
        exact hJ125_n S _ _ _ hF hs (lv_sub hl [0] rfl)
      · have hF := (if_pos hc).symm.trans hF
        refine lv_aload_n hx hb dX5_reads_108 rfl (lv_at hl 0 rfl) ?_
        refine fg_X5_20 hx hb hown hts hE hs 0 rfl (v := .ref (a 3)) rfl dX5_reads_109 ?_
        refine lv_bipush (v := (9 : Int32)) hx hb dX5_reads_112 (by decide) ?_
        obtain ⟨v13, hv13, hF⟩ := bd hF
        refine sx_iald hx hb hE hs 3 (f := m_read S) rfl hv13 dX5_reads_114 ?_
        refine lv_aload_n hx hb dX5_reads_115 rfl (lv_at hl 0 rfl) ?_
        refine fg_X5_20 hx hb hown hts hE hs 0 rfl (v := .ref (a 3)) rfl dX5_reads_116 ?_
        refine lv_bipush (v := (8 : Int32)) hx hb dX5_reads_119 (by decide) ?_
        obtain ⟨v14, hv14, hF⟩ := bd hF
        refine sx_iald hx hb hE hs 3 (f := m_read S) rfl hv14 dX5_reads_121 ?_
        refine lv_icmp_ge (tgt := 130) hx hb dX5_reads_122 (by decide) (fun hc => ?_) (fun hc => ?_)
        · have hF := (if_pos hc).symm.trans hF
          exact sx_vret hx hb hr hlk hQ (congrArg (fun z => WM G a z) (Option.some.inj hF)) hs dX5_reads_130
        · have hF := (if_neg hc).symm.trans hF
          exact hJ125_n S _ _ _ hF hs (lv_sub hl [0] rfl)
  have hJ77_n : ∀ (S : MS) (H : Heap) (locs : List Loc) (ls : Array Slot), J_X5_reads_77 S = some r → SI G A s H locs (WM G a S) → lv_has ls 3 [(0, .ref (a 0))] → W p l e (RM 6 133) s m args below meth c H locs 0 0 Q (F0 m 77 ls []) := by
    intro S H locs ls hF hs hl
    unfold J_X5_reads_77 at hF
    refine lv_aload_n hx hb dX5_reads_77 rfl (lv_at hl 0 rfl) ?_
    refine fg_X5_77 hx hb hown hts hE hs 0 rfl (v := .int (m_sort S)) rfl dX5_reads_78 ?_
    refine lv_if_eq (tgt := 89) hx hb dX5_reads_81 (by decide) (fun hc => ?_) (fun hc => ?_)
    · have hF := (if_pos hc).symm.trans hF
      exact hJ89_n S _ _ _ hF hs (lv_sub hl [0] rfl)
    · have hF := (if_neg hc).symm.trans hF
      refine lv_aload_n hx hb dX5_reads_84 rfl (lv_at hl 0 rfl) ?_
      refine lv_iconst (v := (1 : Int32)) hx hb dX5_reads_85 (by decide) ?_
      obtain ⟨q15, hq15, hF⟩ := bd hF
      refine sx_V (As := [.int (1 : Int32)]) (rest := []) (st1 := []) (c_X5_fails G l a S (1 : Int32) q15 hq15) v_X5_154 ⟨(Nat.le_of_ble_eq_true rfl), (Nat.le_of_ble_eq_true rfl)⟩ hx hb hml hown hts hE hA hs ⟨Nat.le_refl 0, Nat.le_refl 0⟩ 0 rfl rfl rfl rfl rfl hl.1 (Nat.le_of_ble_eq_true rfl) dX5_reads_86 (pmW _) (ws' := WM G a q15) (pmW _) (fun H locs hs => ?_)
      exact hJ89_n q15 _ _ _ hF hs (lv_sub hl [0] rfl)
  unfold F_X5_reads at hF
  refine lv_aload_n hx hb dX5_reads_0 rfl (lv_at hl 0 rfl) ?_
  refine lv_iload_n hx hb dX5_reads_1 rfl (lv_at hl 1 rfl) ?_
  obtain ⟨S1, eS1, hF⟩ := nm_some hF
  refine fp_X5_61 hx hb hown hts hE hs 0 rfl (ws' := WM G a S1) (Nat.le_of_ble_eq_true rfl) (by subst eS1; rfl) dX5_reads_2 (fun H locs hs => ?_)
  refine lv_aload_n hx hb dX5_reads_5 rfl (lv_at hl 0 rfl) ?_
  refine lv_iconst (v := (0 : Int32)) hx hb dX5_reads_6 (by decide) ?_
  obtain ⟨S2, eS2, hF⟩ := nm_some hF
  refine fp_X5_64 hx hb hown hts hE hs 0 rfl (ws' := WM G a S2) (Nat.le_of_ble_eq_true rfl) (by subst eS2; rfl) dX5_reads_7 (fun H locs hs => ?_)
  refine lv_aload_n hx hb dX5_reads_10 rfl (lv_at hl 0 rfl) ?_
  refine lv_iconst (v := (0 : Int32)) hx hb dX5_reads_11 (by decide) ?_
  obtain ⟨S3, eS3, hF⟩ := nm_some hF
  refine fp_X5_98 hx hb hown hts hE hs 0 rfl (ws' := WM G a S3) (Nat.le_of_ble_eq_true rfl) (by subst eS3; rfl) dX5_reads_12 (fun H locs hs => ?_)
  refine lv_aload_n hx hb dX5_reads_15 rfl (lv_at hl 0 rfl) ?_
  refine lv_iconst (v := (-1 : Int32)) hx hb dX5_reads_16 (by decide) ?_
  obtain ⟨S4, eS4, hF⟩ := nm_some hF
  refine fp_X5_101 hx hb hown hts hE hs 0 rfl (ws' := WM G a S4) (Nat.le_of_ble_eq_true rfl) (by subst eS4; rfl) dX5_reads_17 (fun H locs hs => ?_)
  refine lv_aload_n hx hb dX5_reads_20 rfl (lv_at hl 0 rfl) ?_
  obtain ⟨q5, hq5, hF⟩ := bd hF
  refine sx_V (As := []) (rest := []) (st1 := []) (c_X5_plain G l a S4 q5 hq5) v_X5_203 ⟨(Nat.le_of_ble_eq_true rfl), (Nat.le_of_ble_eq_true rfl)⟩ hx hb hml hown hts hE hA hs ⟨Nat.le_refl 0, Nat.le_refl 0⟩ 0 rfl rfl rfl rfl rfl hl.1 (Nat.le_of_ble_eq_true rfl) dX5_reads_21 (pmW _) (ws' := WM G a q5) (pmW _) (fun H locs hs => ?_)
  refine lv_aload_n hx hb dX5_reads_24 rfl (lv_at hl 0 rfl) ?_
  obtain ⟨q6, hq6, hF⟩ := bd hF
  refine sx_V (As := []) (rest := []) (st1 := []) (c_X5_token G l a q5 q6 hq6) v_X5_104 ⟨(Nat.le_of_ble_eq_true rfl), (Nat.le_of_ble_eq_true rfl)⟩ hx hb hml hown hts hE hA hs ⟨Nat.le_refl 0, Nat.le_refl 0⟩ 0 rfl rfl rfl rfl rfl hl.1 (Nat.le_of_ble_eq_true rfl) dX5_reads_25 (pmW _) (ws' := WM G a q6) (pmW _) (fun H locs hs => ?_)
  refine lv_iconst (v := (1 : Int32)) hx hb dX5_reads_28 (by decide) ?_
  refine lv_istore_n (lv' := [(2, .int (1 : Int32)), (0, .ref (a 0)), (1, .int x1)]) hx hb dX5_reads_29 rfl hl (by decide) rfl (fun ls hl => ?_)
  refine hL30 _ (fun S9 H locs ls hF hs hl => ?_) FU q6 (1 : Int32) _ _ _ hF hs (lv_sub hl [1, 0] rfl)
  exact hJ77_n S9 _ _ _ hF hs (lv_sub hl [0] rfl)
set_option maxHeartbeats 4000000 in
set_option maxRecDepth 100000 in
theorem c_X5_text (G : GT) (l : Launch) (a : Nat → Nat) (S : MS) (x1 : Int32) (r : Int32 × MS) (hF : F_X5_text S x1 = some r) : MT G l yX5_text cX5_text 3 (some .int) 7 155 [.ref (a 0), .int x1] (WM G a S) (some (.int r.1)) (WM G a r.2) := by
  refine MT.of (by decide) (Nat.le_of_ble_eq_true rfl) ?_
  intro p e s m args below meth c A ls hx hb hr hml hown hts hlk hE hA hs hl Q hQ
  have hl : lv_has ls 3 [(0, .ref (a 0)), (1, .int x1)] := hl
  have hL83 : ∀ (k : MS → Option (Int32 × MS)) (hk : ∀ (S : MS) (H : Heap) (locs : List Loc) (ls : Array Slot), k S = some r → SI G A s H locs (WM G a S) → lv_has ls 3 [(0, .ref (a 0))] → W p l e (RM 7 155) s m args below meth c H locs 0 0 Q (F0 m 107 ls [])) (fu : Nat) (S : MS) (x2 : Int32) (H : Heap) (locs : List Loc) (ls : Array Slot), lo2 (B_X5_text_83 k) fu S x2 = some r → SI G A s H locs (WM G a S) → lv_has ls 3 [(0, .ref (a 0)), (2, .int x2)] → W p l e (RM 7 155) s m args below meth c H locs 0 0 Q (F0 m 83 ls []) := by
    intro k hk fu
    induction fu with
    | zero =>
      intro S x2 H locs ls hF hs hl
      exact nomatch (show (none : Option (Int32 × MS)) = some r from hF)
    | succ fu hrec =>
      intro S x2 H locs ls hF hs hl
      have hF : (B_X5_text_83 k) (lo2 (B_X5_text_83 k) fu) S x2 = some r := hF
      unfold B_X5_text_83 at hF
      refine lv_iload_n hx hb dX5_text_83 rfl (lv_at hl 1 rfl) ?_
      refine lv_bipush (v := (82 : Int32)) hx hb dX5_text_84 (by decide) ?_
      refine lv_icmp_ge (tgt := 107) hx hb dX5_text_86 (by decide) (fun hc => ?_) (fun hc => ?_)
      · have hF := (if_pos hc).symm.trans hF
        exact hk S _ _ _ hF hs (lv_sub hl [0] rfl)
      · have hF := (if_neg hc).symm.trans hF
        refine lv_aload_n hx hb dX5_text_89 rfl (lv_at hl 0 rfl) ?_
        refine fg_X5_13 hx hb hown hts hE hs 0 rfl (v := .ref (a 1)) rfl dX5_text_90 ?_
        refine lv_iload_n hx hb dX5_text_93 rfl (lv_at hl 1 rfl) ?_
        refine lv_aload_n hx hb dX5_text_94 rfl (lv_at hl 0 rfl) ?_
        refine fg_X5_20 hx hb hown hts hE hs 0 rfl (v := .ref (a 3)) rfl dX5_text_95 ?_
        refine lv_iload_n hx hb dX5_text_98 rfl (lv_at hl 1 rfl) ?_
        obtain ⟨v8, hv8, hF⟩ := bd hF
        refine sx_iald hx hb hE hs 3 (f := m_read S) rfl hv8 dX5_text_99 ?_
        obtain ⟨f9, hf9, hF⟩ := bd hF
        obtain ⟨S10, eS10, hF⟩ := nm_some hF
        refine sx_iast hx hb hE hs 1 (f := m_s S) rfl hf9 (ws' := WM G a S10) (by subst eS10; rfl) dX5_text_100 (fun H locs hs => ?_)
        obtain ⟨v11, ev11, hF⟩ := nm_some hF
        refine lv_iinc (v := v11) (lv' := [(2, .int v11), (0, .ref (a 0))]) hx hb dX5_text_101 hl (k := 1) rfl (by rw [ev11]; rfl) (by decide) rfl (fun ls hl => ?_)
        refine lv_goto (tgt := 83) hx hb dX5_text_104 (by decide) ?_
        exact hrec S10 v11 _ _ _ hF hs (lv_sub hl [1, 0] rfl)
  have hL109 : ∀ (k : MS → Option (Int32 × MS)) (hk : ∀ (S : MS) (H : Heap) (locs : List Loc) (ls : Array Slot), k S = some r → SI G A s H locs (WM G a S) → lv_has ls 3 [(0, .ref (a 0))] → W p l e (RM 7 155) s m args below meth c H locs 0 0 Q (F0 m 132 ls [])) (fu : Nat) (S : MS) (x2 : Int32) (H : Heap) (locs : List Loc) (ls : Array Slot), lo2 (B_X5_text_109 k) fu S x2 = some r → SI G A s H locs (WM G a S) → lv_has ls 3 [(0, .ref (a 0)), (2, .int x2)] → W p l e (RM 7 155) s m args below meth c H locs 0 0 Q (F0 m 109 ls []) := by
    intro k hk fu
    induction fu with
    | zero =>
      intro S x2 H locs ls hF hs hl
      exact nomatch (show (none : Option (Int32 × MS)) = some r from hF)
    | succ fu hrec =>
      intro S x2 H locs ls hF hs hl
      have hF : (B_X5_text_109 k) (lo2 (B_X5_text_109 k) fu) S x2 = some r := hF
      unfold B_X5_text_109 at hF
      refine lv_iload_n hx hb dX5_text_109 rfl (lv_at hl 1 rfl) ?_
      refine lv_iconst (v := (4 : Int32)) hx hb dX5_text_110 (by decide) ?_
      refine lv_icmp_ge (tgt := 132) hx hb dX5_text_111 (by decide) (fun hc => ?_) (fun hc => ?_)
      · have hF := (if_pos hc).symm.trans hF
        exact hk S _ _ _ hF hs (lv_sub hl [0] rfl)
      · have hF := (if_neg hc).symm.trans hF
        refine lv_aload_n hx hb dX5_text_114 rfl (lv_at hl 0 rfl) ?_
        refine fg_X5_33 hx hb hown hts hE hs 0 rfl (v := .ref (a 7)) rfl dX5_text_115 ?_
        refine lv_iload_n hx hb dX5_text_118 rfl (lv_at hl 1 rfl) ?_
        refine lv_aload_n hx hb dX5_text_119 rfl (lv_at hl 0 rfl) ?_
        refine fg_X5_37 hx hb hown hts hE hs 0 rfl (v := .ref (a 8)) rfl dX5_text_120 ?_
        refine lv_iload_n hx hb dX5_text_123 rfl (lv_at hl 1 rfl) ?_
        obtain ⟨v13, hv13, hF⟩ := bd hF
        refine sx_lald hx hb hE hs 8 (f := m_readNames S) rfl hv13 dX5_text_124 ?_
        obtain ⟨f14, hf14, hF⟩ := bd hF
        obtain ⟨S15, eS15, hF⟩ := nm_some hF
        refine sx_last hx hb hE hs 7 (f := m_names S) rfl hf14 (ws' := WM G a S15) (by subst eS15; rfl) dX5_text_125 (fun H locs hs => ?_)
        obtain ⟨v16, ev16, hF⟩ := nm_some hF
        refine lv_iinc (v := v16) (lv' := [(2, .int v16), (0, .ref (a 0))]) hx hb dX5_text_126 hl (k := 1) rfl (by rw [ev16]; rfl) (by decide) rfl (fun ls hl => ?_)
        refine lv_goto (tgt := 109) hx hb dX5_text_129 (by decide) ?_
        exact hrec S15 v16 _ _ _ hF hs (lv_sub hl [1, 0] rfl)
  have hJ64_n : ∀ (S : MS) (y0 : Int32) (H : Heap) (locs : List Loc) (ls : Array Slot), J_X5_text_64 S y0 = some r → SI G A s H locs (WM G a S) → lv_has ls 3 [(0, .ref (a 0))] → W p l e (RM 7 155) s m args below meth c H locs 0 0 Q (F0 m 64 ls [.int y0, .ref (a 0)]) := by
    intro S y0 H locs ls hF hs hl
    unfold J_X5_text_64 at hF
    refine lv_iconst (v := (4 : Int32)) hx hb dX5_text_64 (by decide) ?_
    obtain ⟨q7, hq7, hF⟩ := bd hF
    refine sx_V (As := [.int y0, .int (4 : Int32)]) (rest := []) (st1 := [.int q7.1]) (c_X5_refuse G l a S y0 (4 : Int32) q7 hq7) v_X5_215 ⟨(Nat.le_of_ble_eq_true rfl), (Nat.le_of_ble_eq_true rfl)⟩ hx hb hml hown hts hE hA hs ⟨Nat.le_refl 0, Nat.le_refl 0⟩ 0 rfl rfl rfl rfl rfl hl.1 (Nat.le_of_ble_eq_true rfl) dX5_text_65 (pmW _) (ws' := WM G a q7.2) (pmW _) (fun H locs hs => ?_)
    refine lv_if_eq (tgt := 81) hx hb dX5_text_68 (by decide) (fun hc => ?_) (fun hc => ?_)
    · have hF := (if_pos hc).symm.trans hF
      refine lv_iconst (v := (0 : Int32)) hx hb dX5_text_81 (by decide) ?_
      refine lv_istore_n (lv' := [(2, .int (0 : Int32)), (0, .ref (a 0))]) hx hb dX5_text_82 rfl hl (by decide) rfl (fun ls hl => ?_)
      refine hL83 _ (fun S12 H locs ls hF hs hl => ?_) FU q7.2 (0 : Int32) _ _ _ hF hs (lv_sub hl [1, 0] rfl)
      refine lv_iconst (v := (0 : Int32)) hx hb dX5_text_107 (by decide) ?_
      refine lv_istore_n (lv' := [(2, .int (0 : Int32)), (0, .ref (a 0))]) hx hb dX5_text_108 rfl hl (by decide) rfl (fun ls hl => ?_)
      refine hL109 _ (fun S17 H locs ls hF hs hl => ?_) FU S12 (0 : Int32) _ _ _ hF hs (lv_sub hl [1, 0] rfl)
      refine lv_aload_n hx hb dX5_text_132 rfl (lv_at hl 0 rfl) ?_
      refine lv_iconst (v := (1 : Int32)) hx hb dX5_text_133 (by decide) ?_
      obtain ⟨S18, eS18, hF⟩ := nm_some hF
      refine fp_X5_225 hx hb hown hts hE hs 0 rfl (ws' := WM G a S18) rfl rfl (Nat.le_of_ble_eq_true rfl) (by subst eS18; rfl) dX5_text_134 (fun H locs hs => ?_)
      refine lv_aload_n hx hb dX5_text_137 rfl (lv_at hl 0 rfl) ?_
      refine lv_iconst (v := (0 : Int32)) hx hb dX5_text_138 (by decide) ?_
      obtain ⟨S19, eS19, hF⟩ := nm_some hF
      refine fp_X5_229 hx hb hown hts hE hs 0 rfl (ws' := WM G a S19) (Nat.le_of_ble_eq_true rfl) (by subst eS19; rfl) dX5_text_139 (fun H locs hs => ?_)
      refine lv_aload_n hx hb dX5_text_142 rfl (lv_at hl 0 rfl) ?_
      refine fg_X5_29 hx hb hown hts hE hs 0 rfl (v := .ref (a 6)) rfl dX5_text_143 ?_
      refine lv_iconst (v := (0 : Int32)) hx hb dX5_text_146 (by decide) ?_
      refine lv_iconst (v := (0 : Int32)) hx hb dX5_text_147 (by decide) ?_
      obtain ⟨f20, hf20, hF⟩ := bd hF
      obtain ⟨S21, eS21, hF⟩ := nm_some hF
      refine sx_zast hx hb hE hs 6 (f := m_isKept S19) rfl rfl hf20 (ws' := WM G a S21) (by subst eS21; rfl) dX5_text_148 (fun H locs hs => ?_)
      refine lv_aload_n hx hb dX5_text_149 rfl (lv_at hl 0 rfl) ?_
      refine fg_X5_29 hx hb hown hts hE hs 0 rfl (v := .ref (a 6)) rfl dX5_text_150 ?_
      refine lv_iconst (v := (1 : Int32)) hx hb dX5_text_153 (by decide) ?_
      refine lv_iconst (v := (0 : Int32)) hx hb dX5_text_154 (by decide) ?_
      obtain ⟨f22, hf22, hF⟩ := bd hF
      obtain ⟨S23, eS23, hF⟩ := nm_some hF
      refine sx_zast hx hb hE hs 6 (f := m_isKept S21) rfl rfl hf22 (ws' := WM G a S23) (by subst eS23; rfl) dX5_text_155 (fun H locs hs => ?_)
      refine lv_aload_n hx hb dX5_text_156 rfl (lv_at hl 0 rfl) ?_
      refine fg_X5_13 hx hb hown hts hE hs 0 rfl (v := .ref (a 1)) rfl dX5_text_157 ?_
      refine lv_iconst (v := (0 : Int32)) hx hb dX5_text_160 (by decide) ?_
      obtain ⟨v24, hv24, hF⟩ := bd hF
      refine sx_iald hx hb hE hs 1 (f := m_s S23) rfl hv24 dX5_text_161 ?_
      exact sx_iret hx hb hr hlk hQ (congrArg Prod.fst (Option.some.inj hF)) (congrArg (fun z => WM G a z) (congrArg Prod.snd (Option.some.inj hF))) hs dX5_text_162
    · have hF := (if_neg hc).symm.trans hF
      refine lv_aload_n hx hb dX5_text_71 rfl (lv_at hl 0 rfl) ?_
      refine lv_aload_n hx hb dX5_text_72 rfl (lv_at hl 0 rfl) ?_
      refine fg_X5_101 hx hb hown hts hE hs 0 rfl (v := .int (m_wrongAt q7.2)) rfl dX5_text_73 ?_
      obtain ⟨S25, eS25, hF⟩ := nm_some hF
      refine fp_X5_9 hx hb hown hts hE hs 0 rfl (ws' := WM G a S25) (Nat.le_of_ble_eq_true rfl) (by subst eS25; rfl) dX5_text_76 (fun H locs hs => ?_)
      refine lv_iconst (v := (-1 : Int32)) hx hb dX5_text_79 (by decide) ?_
      exact sx_iret hx hb hr hlk hQ (congrArg Prod.fst (Option.some.inj hF)) (congrArg (fun z => WM G a z) (congrArg Prod.snd (Option.some.inj hF))) hs dX5_text_80
  have hJ24_n : ∀ (S : MS) (x1 : Int32) (y0 : Int32) (H : Heap) (locs : List Loc) (ls : Array Slot), J_X5_text_24 S x1 y0 = some r → SI G A s H locs (WM G a S) → lv_has ls 3 [(0, .ref (a 0)), (1, .int x1)] → W p l e (RM 7 155) s m args below meth c H locs 0 0 Q (F0 m 24 ls [.int y0, .ref (a 0)]) := by
    intro S x1 y0 H locs ls hF hs hl
    unfold J_X5_text_24 at hF
    refine lv_iconst (v := (2 : Int32)) hx hb dX5_text_24 (by decide) ?_
    obtain ⟨q3, hq3, hF⟩ := bd hF
    refine sx_V (As := [.int y0, .int (2 : Int32)]) (rest := []) (st1 := [.int q3.1]) (c_X5_refuse G l a S y0 (2 : Int32) q3 hq3) v_X5_215 ⟨(Nat.le_of_ble_eq_true rfl), (Nat.le_of_ble_eq_true rfl)⟩ hx hb hml hown hts hE hA hs ⟨Nat.le_refl 0, Nat.le_refl 0⟩ 0 rfl rfl rfl rfl rfl hl.1 (Nat.le_of_ble_eq_true rfl) dX5_text_25 (pmW _) (ws' := WM G a q3.2) (pmW _) (fun H locs hs => ?_)
    refine lv_if_eq (tgt := 33) hx hb dX5_text_28 (by decide) (fun hc => ?_) (fun hc => ?_)
    · have hF := (if_pos hc).symm.trans hF
      refine lv_aload_n hx hb dX5_text_33 rfl (lv_at hl 0 rfl) ?_
      refine lv_iconst (v := (0 : Int32)) hx hb dX5_text_34 (by decide) ?_
      obtain ⟨S4, eS4, hF⟩ := nm_some hF
      refine fp_X5_58 hx hb hown hts hE hs 0 rfl (ws' := WM G a S4) (Nat.le_of_ble_eq_true rfl) (by subst eS4; rfl) dX5_text_35 (fun H locs hs => ?_)
      refine lv_aload_n hx hb dX5_text_38 rfl (lv_at hl 0 rfl) ?_
      refine lv_iload_n hx hb dX5_text_39 rfl (lv_at hl 1 rfl) ?_
      obtain ⟨q5, hq5, hF⟩ := bd hF
      refine sx_V (As := [.int x1]) (rest := []) (st1 := []) (c_X5_reads G l a S4 x1 q5 hq5) v_X5_219 ⟨(Nat.le_of_ble_eq_true rfl), (Nat.le_of_ble_eq_true rfl)⟩ hx hb hml hown hts hE hA hs ⟨Nat.le_refl 0, Nat.le_refl 0⟩ 0 rfl rfl rfl rfl rfl hl.1 (Nat.le_of_ble_eq_true rfl) dX5_text_40 (pmW _) (ws' := WM G a q5) (pmW _) (fun H locs hs => ?_)
      refine lv_aload_n hx hb dX5_text_43 rfl (lv_at hl 0 rfl) ?_
      refine lv_aload_n hx hb dX5_text_44 rfl (lv_at hl 0 rfl) ?_
      refine fg_X5_98 hx hb hown hts hE hs 0 rfl (v := .int (m_wrong q5)) rfl dX5_text_45 ?_
      obtain ⟨S6, eS6, hF⟩ := nm_some hF
      refine fp_X5_222 hx hb hown hts hE hs 0 rfl (ws' := WM G a S6) (Nat.le_of_ble_eq_true rfl) (by subst eS6; rfl) dX5_text_48 (fun H locs hs => ?_)
      refine lv_aload_n hx hb dX5_text_51 rfl (lv_at hl 0 rfl) ?_
      refine lv_aload_n hx hb dX5_text_52 rfl (lv_at hl 0 rfl) ?_
      refine fg_X5_98 hx hb hown hts hE hs 0 rfl (v := .int (m_wrong S6)) rfl dX5_text_53 ?_
      refine lv_if_eq (tgt := 63) hx hb dX5_text_56 (by decide) (fun hc => ?_) (fun hc => ?_)
      · have hF := (if_pos hc).symm.trans hF
        refine lv_iconst (v := (0 : Int32)) hx hb dX5_text_63 (by decide) ?_
        exact hJ64_n S6 (0 : Int32) _ _ _ hF hs (lv_sub hl [0] rfl)
      · have hF := (if_neg hc).symm.trans hF
        refine lv_iconst (v := (1 : Int32)) hx hb dX5_text_59 (by decide) ?_
        refine lv_goto (tgt := 64) hx hb dX5_text_60 (by decide) ?_
        exact hJ64_n S6 (1 : Int32) _ _ _ hF hs (lv_sub hl [0] rfl)
    · have hF := (if_neg hc).symm.trans hF
      refine lv_iconst (v := (-1 : Int32)) hx hb dX5_text_31 (by decide) ?_
      exact sx_iret hx hb hr hlk hQ (congrArg Prod.fst (Option.some.inj hF)) (congrArg (fun z => WM G a z) (congrArg Prod.snd (Option.some.inj hF))) hs dX5_text_32
  unfold F_X5_text at hF
  refine lv_aload_n hx hb dX5_text_0 rfl (lv_at hl 0 rfl) ?_
  obtain ⟨q1, hq1, hF⟩ := bd hF
  refine sx_V (As := []) (rest := []) (st1 := []) (c_X5_begins G l a S q1 hq1) v_X5_212 ⟨(Nat.le_of_ble_eq_true rfl), (Nat.le_of_ble_eq_true rfl)⟩ hx hb hml hown hts hE hA hs ⟨Nat.le_refl 0, Nat.le_refl 0⟩ 0 rfl rfl rfl rfl rfl hl.1 (Nat.le_of_ble_eq_true rfl) dX5_text_1 (pmW _) (ws' := WM G a q1) (pmW _) (fun H locs hs => ?_)
  refine lv_aload_n hx hb dX5_text_4 rfl (lv_at hl 0 rfl) ?_
  refine lv_iload_n hx hb dX5_text_5 rfl (lv_at hl 1 rfl) ?_
  refine lv_i2l hx hb dX5_text_6 rfl ?_
  refine lv_lconst (v := (0 : Int64)) hx hb dX5_text_7 (by decide) ?_
  refine lv_aload_n hx hb dX5_text_8 rfl (lv_at hl 0 rfl) ?_
  refine fg_X5_58 hx hb hown hts hE hs 0 rfl (v := .int (m_taped q1)) rfl dX5_text_9 ?_
  refine lv_i2l hx hb dX5_text_12 rfl ?_
  obtain ⟨q2, hq2, hF⟩ := bd hF
  refine sx_S (As := [.long x1.toInt64, .long (0 : Int64), .long ((m_taped q1).toInt64)]) (rest := [.ref (a 0)]) (st1 := [.int q2, .ref (a 0)]) (c_X5_in G l  x1.toInt64 (0 : Int64) ((m_taped q1).toInt64) q2 hq2) v_X5_161 ⟨(Nat.le_of_ble_eq_true rfl), (Nat.le_of_ble_eq_true rfl)⟩ hx hb hml hown hts hE hA hs ⟨Nat.le_refl 0, Nat.le_refl 0⟩ rfl rfl rfl hl.1 (Nat.le_of_ble_eq_true rfl) dX5_text_13 (List.Perm.refl _) (ws' := WM G a q1) (List.Perm.refl _) (fun H locs hs => ?_)
  refine lv_if_ne (tgt := 23) hx hb dX5_text_16 (by decide) (fun hc => ?_) (fun hc => ?_)
  · have hF := (if_neg hc).symm.trans hF
    refine lv_iconst (v := (0 : Int32)) hx hb dX5_text_23 (by decide) ?_
    exact hJ24_n q1 x1 (0 : Int32) _ _ _ hF hs (lv_sub hl [0, 1] rfl)
  · have hF := (if_pos hc).symm.trans hF
    refine lv_iconst (v := (1 : Int32)) hx hb dX5_text_19 (by decide) ?_
    refine lv_goto (tgt := 24) hx hb dX5_text_20 (by decide) ?_
    exact hJ24_n q1 x1 (1 : Int32) _ _ _ hF hs (lv_sub hl [0, 1] rfl)
set_option maxHeartbeats 4000000 in
set_option maxRecDepth 100000 in
theorem c_X5_fault (G : GT) (l : Launch) (a : Nat → Nat) (S : MS) (r : Int32 × MS) (hF : F_X5_fault S = some r) : MT G l yX5_fault cX5_fault 1 (some .int) 0 0 [.ref (a 0)] (WM G a S) (some (.int r.1)) (WM G a r.2) := by
  refine MT.of (by decide) (Nat.le_of_ble_eq_true rfl) ?_
  intro p e s m args below meth c A ls hx hb hr hml hown hts hlk hE hA hs hl Q hQ
  have hl : lv_has ls 1 [(0, .ref (a 0))] := hl
  unfold F_X5_fault at hF
  refine lv_aload_n hx hb dX5_fault_0 rfl (lv_at hl 0 rfl) ?_
  refine lv_iconst (v := (0 : Int32)) hx hb dX5_fault_1 (by decide) ?_
  obtain ⟨S1, eS1, hF⟩ := nm_some hF
  refine fp_X5_52 hx hb hown hts hE hs 0 rfl (ws' := WM G a S1) (Nat.le_of_ble_eq_true rfl) (by subst eS1; rfl) dX5_fault_2 (fun H locs hs => ?_)
  refine lv_aload_n hx hb dX5_fault_5 rfl (lv_at hl 0 rfl) ?_
  refine fg_X5_222 hx hb hown hts hE hs 0 rfl (v := .int (m_fault S1)) rfl dX5_fault_6 ?_
  exact sx_iret hx hb hr hlk hQ (congrArg Prod.fst (Option.some.inj hF)) (congrArg (fun z => WM G a z) (congrArg Prod.snd (Option.some.inj hF))) hs dX5_fault_9
set_option maxHeartbeats 4000000 in
set_option maxRecDepth 100000 in
theorem c_X5_where (G : GT) (l : Launch) (a : Nat → Nat) (S : MS) (r : Int32 × MS) (hF : F_X5_where S = some r) : MT G l yX5_where cX5_where 1 (some .int) 0 0 [.ref (a 0)] (WM G a S) (some (.int r.1)) (WM G a r.2) := by
  refine MT.of (by decide) (Nat.le_of_ble_eq_true rfl) ?_
  intro p e s m args below meth c A ls hx hb hr hml hown hts hlk hE hA hs hl Q hQ
  have hl : lv_has ls 1 [(0, .ref (a 0))] := hl
  unfold F_X5_where at hF
  refine lv_aload_n hx hb dX5_where_0 rfl (lv_at hl 0 rfl) ?_
  refine lv_iconst (v := (0 : Int32)) hx hb dX5_where_1 (by decide) ?_
  obtain ⟨S1, eS1, hF⟩ := nm_some hF
  refine fp_X5_52 hx hb hown hts hE hs 0 rfl (ws' := WM G a S1) (Nat.le_of_ble_eq_true rfl) (by subst eS1; rfl) dX5_where_2 (fun H locs hs => ?_)
  refine lv_aload_n hx hb dX5_where_5 rfl (lv_at hl 0 rfl) ?_
  refine fg_X5_9 hx hb hown hts hE hs 0 rfl (v := .int (m_place S1)) rfl dX5_where_6 ?_
  exact sx_iret hx hb hr hlk hQ (congrArg Prod.fst (Option.some.inj hF)) (congrArg (fun z => WM G a z) (congrArg Prod.snd (Option.some.inj hF))) hs dX5_where_9
set_option maxHeartbeats 4000000 in
set_option maxRecDepth 100000 in
theorem c_X5_trouble (G : GT) (l : Launch) (a : Nat → Nat) (S : MS) (r : Int32 × MS) (hF : F_X5_trouble S = some r) : MT G l yX5_trouble cX5_trouble 1 (some .int) 0 0 [.ref (a 0)] (WM G a S) (some (.int r.1)) (WM G a r.2) := by
  refine MT.of (by decide) (Nat.le_of_ble_eq_true rfl) ?_
  intro p e s m args below meth c A ls hx hb hr hml hown hts hlk hE hA hs hl Q hQ
  have hl : lv_has ls 1 [(0, .ref (a 0))] := hl
  unfold F_X5_trouble at hF
  refine lv_aload_n hx hb dX5_trouble_0 rfl (lv_at hl 0 rfl) ?_
  refine lv_iconst (v := (0 : Int32)) hx hb dX5_trouble_1 (by decide) ?_
  obtain ⟨S1, eS1, hF⟩ := nm_some hF
  refine fp_X5_52 hx hb hown hts hE hs 0 rfl (ws' := WM G a S1) (Nat.le_of_ble_eq_true rfl) (by subst eS1; rfl) dX5_trouble_2 (fun H locs hs => ?_)
  refine lv_aload_n hx hb dX5_trouble_5 rfl (lv_at hl 0 rfl) ?_
  refine fg_X5_55 hx hb hown hts hE hs 0 rfl (v := .int (m_trouble S1)) rfl dX5_trouble_6 ?_
  exact sx_iret hx hb hr hlk hQ (congrArg Prod.fst (Option.some.inj hF)) (congrArg (fun z => WM G a z) (congrArg Prod.snd (Option.some.inj hF))) hs dX5_trouble_9
set_option maxHeartbeats 4000000 in
set_option maxRecDepth 100000 in
theorem c_X5_isShip (G : GT) (l : Launch) (a : Nat → Nat) (S : MS) (x1 : Int32) (r : Int32) (hF : F_X5_isShip S x1 = some r) : MT G l yX5_isShip cX5_isShip 2 (some .boolean) 1 25 [.ref (a 0), .int x1] (WM G a S) (some (.int r)) (WM G a S) := by
  refine MT.of (by decide) (Nat.le_of_ble_eq_true rfl) ?_
  intro p e s m args below meth c A ls hx hb hr hml hown hts hlk hE hA hs hl Q hQ
  have hl : lv_has ls 2 [(0, .ref (a 0)), (1, .int x1)] := hl
  unfold F_X5_isShip at hF
  refine lv_aload_n hx hb dX5_isShip_0 rfl (lv_at hl 0 rfl) ?_
  refine fg_X5_225 hx hb hown hts hE hs 0 rfl (v := .int (m_told S)) rfl dX5_isShip_1 ?_
  refine lv_if_eq (tgt := 29) hx hb dX5_isShip_4 (by decide) (fun hc => ?_) (fun hc => ?_)
  · have hF := (if_pos hc).symm.trans hF
    refine lv_iconst (v := (0 : Int32)) hx hb dX5_isShip_29 (by decide) ?_
    exact sx_zret hx hb hr hlk hQ (Or.inl rfl) (Option.some.inj hF) rfl hs dX5_isShip_30
  · have hF := (if_neg hc).symm.trans hF
    refine lv_iload_n hx hb dX5_isShip_7 rfl (lv_at hl 1 rfl) ?_
    refine lv_i2l hx hb dX5_isShip_8 rfl ?_
    refine lv_lconst (v := (0 : Int64)) hx hb dX5_isShip_9 (by decide) ?_
    refine lv_aload_n hx hb dX5_isShip_10 rfl (lv_at hl 0 rfl) ?_
    refine fg_X5_13 hx hb hown hts hE hs 0 rfl (v := .ref (a 1)) rfl dX5_isShip_11 ?_
    refine lv_iconst (v := (0 : Int32)) hx hb dX5_isShip_14 (by decide) ?_
    obtain ⟨v1, hv1, hF⟩ := bd hF
    refine sx_iald hx hb hE hs 1 (f := m_s S) rfl hv1 dX5_isShip_15 ?_
    refine lv_iconst (v := (1 : Int32)) hx hb dX5_isShip_16 (by decide) ?_
    refine lv_isub hx hb dX5_isShip_17 ?_
    refine lv_i2l hx hb dX5_isShip_18 rfl ?_
    obtain ⟨q2, hq2, hF⟩ := bd hF
    refine sx_S (As := [.long x1.toInt64, .long (0 : Int64), .long ((v1 - (1 : Int32)).toInt64)]) (rest := []) (st1 := [.int q2]) (c_X5_in G l  x1.toInt64 (0 : Int64) ((v1 - (1 : Int32)).toInt64) q2 hq2) v_X5_161 ⟨(Nat.le_of_ble_eq_true rfl), (Nat.le_of_ble_eq_true rfl)⟩ hx hb hml hown hts hE hA hs ⟨Nat.le_refl 0, Nat.le_refl 0⟩ rfl rfl rfl hl.1 (Nat.le_of_ble_eq_true rfl) dX5_isShip_19 (List.Perm.refl _) (ws' := WM G a S) (List.Perm.refl _) (fun H locs hs => ?_)
    refine lv_if_eq (tgt := 29) hx hb dX5_isShip_22 (by decide) (fun hc => ?_) (fun hc => ?_)
    · have hF := (if_pos hc).symm.trans hF
      refine lv_iconst (v := (0 : Int32)) hx hb dX5_isShip_29 (by decide) ?_
      exact sx_zret hx hb hr hlk hQ (Or.inl rfl) (Option.some.inj hF) rfl hs dX5_isShip_30
    · have hF := (if_neg hc).symm.trans hF
      refine lv_iconst (v := (1 : Int32)) hx hb dX5_isShip_25 (by decide) ?_
      refine lv_goto (tgt := 30) hx hb dX5_isShip_26 (by decide) ?_
      exact sx_zret hx hb hr hlk hQ (Or.inr rfl) (Option.some.inj hF) rfl hs dX5_isShip_30
set_option maxHeartbeats 4000000 in
set_option maxRecDepth 100000 in
theorem c_X5_isClaim (G : GT) (l : Launch) (a : Nat → Nat) (S : MS) (x1 : Int32) (r : Int32) (hF : F_X5_isClaim S x1 = some r) : MT G l yX5_isClaim cX5_isClaim 2 (some .boolean) 1 25 [.ref (a 0), .int x1] (WM G a S) (some (.int r)) (WM G a S) := by
  refine MT.of (by decide) (Nat.le_of_ble_eq_true rfl) ?_
  intro p e s m args below meth c A ls hx hb hr hml hown hts hlk hE hA hs hl Q hQ
  have hl : lv_has ls 2 [(0, .ref (a 0)), (1, .int x1)] := hl
  unfold F_X5_isClaim at hF
  refine lv_aload_n hx hb dX5_isClaim_0 rfl (lv_at hl 0 rfl) ?_
  refine fg_X5_225 hx hb hown hts hE hs 0 rfl (v := .int (m_told S)) rfl dX5_isClaim_1 ?_
  refine lv_if_eq (tgt := 29) hx hb dX5_isClaim_4 (by decide) (fun hc => ?_) (fun hc => ?_)
  · have hF := (if_pos hc).symm.trans hF
    refine lv_iconst (v := (0 : Int32)) hx hb dX5_isClaim_29 (by decide) ?_
    exact sx_zret hx hb hr hlk hQ (Or.inl rfl) (Option.some.inj hF) rfl hs dX5_isClaim_30
  · have hF := (if_neg hc).symm.trans hF
    refine lv_iload_n hx hb dX5_isClaim_7 rfl (lv_at hl 1 rfl) ?_
    refine lv_i2l hx hb dX5_isClaim_8 rfl ?_
    refine lv_lconst (v := (0 : Int64)) hx hb dX5_isClaim_9 (by decide) ?_
    refine lv_aload_n hx hb dX5_isClaim_10 rfl (lv_at hl 0 rfl) ?_
    refine fg_X5_13 hx hb hown hts hE hs 0 rfl (v := .ref (a 1)) rfl dX5_isClaim_11 ?_
    refine lv_iconst (v := (1 : Int32)) hx hb dX5_isClaim_14 (by decide) ?_
    obtain ⟨v1, hv1, hF⟩ := bd hF
    refine sx_iald hx hb hE hs 1 (f := m_s S) rfl hv1 dX5_isClaim_15 ?_
    refine lv_iconst (v := (1 : Int32)) hx hb dX5_isClaim_16 (by decide) ?_
    refine lv_isub hx hb dX5_isClaim_17 ?_
    refine lv_i2l hx hb dX5_isClaim_18 rfl ?_
    obtain ⟨q2, hq2, hF⟩ := bd hF
    refine sx_S (As := [.long x1.toInt64, .long (0 : Int64), .long ((v1 - (1 : Int32)).toInt64)]) (rest := []) (st1 := [.int q2]) (c_X5_in G l  x1.toInt64 (0 : Int64) ((v1 - (1 : Int32)).toInt64) q2 hq2) v_X5_161 ⟨(Nat.le_of_ble_eq_true rfl), (Nat.le_of_ble_eq_true rfl)⟩ hx hb hml hown hts hE hA hs ⟨Nat.le_refl 0, Nat.le_refl 0⟩ rfl rfl rfl hl.1 (Nat.le_of_ble_eq_true rfl) dX5_isClaim_19 (List.Perm.refl _) (ws' := WM G a S) (List.Perm.refl _) (fun H locs hs => ?_)
    refine lv_if_eq (tgt := 29) hx hb dX5_isClaim_22 (by decide) (fun hc => ?_) (fun hc => ?_)
    · have hF := (if_pos hc).symm.trans hF
      refine lv_iconst (v := (0 : Int32)) hx hb dX5_isClaim_29 (by decide) ?_
      exact sx_zret hx hb hr hlk hQ (Or.inl rfl) (Option.some.inj hF) rfl hs dX5_isClaim_30
    · have hF := (if_neg hc).symm.trans hF
      refine lv_iconst (v := (1 : Int32)) hx hb dX5_isClaim_25 (by decide) ?_
      refine lv_goto (tgt := 30) hx hb dX5_isClaim_26 (by decide) ?_
      exact sx_zret hx hb hr hlk hQ (Or.inr rfl) (Option.some.inj hF) rfl hs dX5_isClaim_30
set_option maxHeartbeats 4000000 in
set_option maxRecDepth 100000 in
theorem c_X5_ofShip (G : GT) (l : Launch) (b : Nat) (S : (Fin 82 → Int32)) (x1 : Int32) (x2 : Int32) (r : Int32) (hF : F_X5_ofShip S x1 x2 = some r) : MT G l yX5_ofShip cX5_ofShip 3 (some .int) 0 0 [.ref (b), .int x1, .int x2] (([(b, .inl (G.2.1 0, 82, .inl (exI S)))] : va_W)) (some (.int r)) (([(b, .inl (G.2.1 0, 82, .inl (exI S)))] : va_W)) := by
  refine MT.of (by decide) (Nat.le_of_ble_eq_true rfl) ?_
  intro p e s m args below meth c A ls hx hb hr hml hown hts hlk hE hA hs hl Q hQ
  have hl : lv_has ls 3 [(0, .ref (b)), (1, .int x1), (2, .int x2)] := hl
  unfold F_X5_ofShip at hF
  refine lv_aload_n hx hb dX5_ofShip_0 rfl (lv_at hl 0 rfl) ?_
  refine lv_bipush (v := (10 : Int32)) hx hb dX5_ofShip_1 (by decide) ?_
  refine lv_bipush (v := (6 : Int32)) hx hb dX5_ofShip_3 (by decide) ?_
  refine lv_iload_n hx hb dX5_ofShip_5 rfl (lv_at hl 1 rfl) ?_
  refine lv_imul hx hb dX5_ofShip_6 ?_
  refine lv_iadd hx hb dX5_ofShip_7 ?_
  refine lv_iload_n hx hb dX5_ofShip_8 rfl (lv_at hl 2 rfl) ?_
  refine lv_iadd hx hb dX5_ofShip_9 ?_
  obtain ⟨v1, hv1, hF⟩ := bd hF
  refine sx_iald hx hb hE hs 0 (f := S) rfl hv1 dX5_ofShip_10 ?_
  exact sx_iret hx hb hr hlk hQ (Option.some.inj hF) rfl hs dX5_ofShip_11
set_option maxHeartbeats 4000000 in
set_option maxRecDepth 100000 in
theorem c_X5_ofClaim (G : GT) (l : Launch) (b : Nat) (S : (Fin 82 → Int32)) (x1 : Int32) (x2 : Int32) (r : Int32) (hF : F_X5_ofClaim S x1 x2 = some r) : MT G l yX5_ofClaim cX5_ofClaim 3 (some .int) 0 0 [.ref (b), .int x1, .int x2] (([(b, .inl (G.2.1 0, 82, .inl (exI S)))] : va_W)) (some (.int r)) (([(b, .inl (G.2.1 0, 82, .inl (exI S)))] : va_W)) := by
  refine MT.of (by decide) (Nat.le_of_ble_eq_true rfl) ?_
  intro p e s m args below meth c A ls hx hb hr hml hown hts hlk hE hA hs hl Q hQ
  have hl : lv_has ls 3 [(0, .ref (b)), (1, .int x1), (2, .int x2)] := hl
  unfold F_X5_ofClaim at hF
  refine lv_aload_n hx hb dX5_ofClaim_0 rfl (lv_at hl 0 rfl) ?_
  refine lv_bipush (v := (34 : Int32)) hx hb dX5_ofClaim_1 (by decide) ?_
  refine lv_iconst (v := (4 : Int32)) hx hb dX5_ofClaim_3 (by decide) ?_
  refine lv_iload_n hx hb dX5_ofClaim_4 rfl (lv_at hl 1 rfl) ?_
  refine lv_imul hx hb dX5_ofClaim_5 ?_
  refine lv_iadd hx hb dX5_ofClaim_6 ?_
  refine lv_iload_n hx hb dX5_ofClaim_7 rfl (lv_at hl 2 rfl) ?_
  refine lv_iadd hx hb dX5_ofClaim_8 ?_
  obtain ⟨v1, hv1, hF⟩ := bd hF
  refine sx_iald hx hb hE hs 0 (f := S) rfl hv1 dX5_ofClaim_9 ?_
  exact sx_iret hx hb hr hlk hQ (Option.some.inj hF) rfl hs dX5_ofClaim_10
set_option maxHeartbeats 4000000 in
set_option maxRecDepth 100000 in
theorem c_X5_about (G : GT) (l : Launch) (a : Nat → Nat) (S : MS) (x1 : Int32) (r : Int32 × MS) (hF : F_X5_about S x1 = some r) : MT G l yX5_about cX5_about 2 (some .int) 1 25 [.ref (a 0), .int x1] (WM G a S) (some (.int r.1)) (WM G a r.2) := by
  refine MT.of (by decide) (Nat.le_of_ble_eq_true rfl) ?_
  intro p e s m args below meth c A ls hx hb hr hml hown hts hlk hE hA hs hl Q hQ
  have hl : lv_has ls 2 [(0, .ref (a 0)), (1, .int x1)] := hl
  have hJ29_n : ∀ (S : MS) (x1 : Int32) (y0 : Int32) (H : Heap) (locs : List Loc) (ls : Array Slot), J_X5_about_29 S x1 y0 = some r → SI G A s H locs (WM G a S) → lv_has ls 2 [(0, .ref (a 0)), (1, .int x1)] → W p l e (RM 1 25) s m args below meth c H locs 0 0 Q (F0 m 29 ls [.int y0, .ref (a 0)]) := by
    intro S x1 y0 H locs ls hF hs hl
    unfold J_X5_about_29 at hF
    refine lv_iconst (v := (1 : Int32)) hx hb dX5_about_29 (by decide) ?_
    obtain ⟨q2, hq2, hF⟩ := bd hF
    refine sx_V (As := [.int y0, .int (1 : Int32)]) (rest := []) (st1 := [.int q2.1]) (c_X5_refuse G l a S y0 (1 : Int32) q2 hq2) v_X5_215 ⟨(Nat.le_of_ble_eq_true rfl), (Nat.le_of_ble_eq_true rfl)⟩ hx hb hml hown hts hE hA hs ⟨Nat.le_refl 0, Nat.le_refl 0⟩ 0 rfl rfl rfl rfl rfl hl.1 (Nat.le_of_ble_eq_true rfl) dX5_about_30 (pmW _) (ws' := WM G a q2.2) (pmW _) (fun H locs hs => ?_)
    refine lv_if_eq (tgt := 38) hx hb dX5_about_33 (by decide) (fun hc => ?_) (fun hc => ?_)
    · have hF := (if_pos hc).symm.trans hF
      refine lv_iload_n hx hb dX5_about_38 rfl (lv_at hl 1 rfl) ?_
      refine lv_bipush (v := (10 : Int32)) hx hb dX5_about_39 (by decide) ?_
      refine lv_icmp_ne (tgt := 51) hx hb dX5_about_41 (by decide) (fun hc => ?_) (fun hc => ?_)
      · have hF := (if_neg hc).symm.trans hF
        refine lv_aload_n hx hb dX5_about_51 rfl (lv_at hl 0 rfl) ?_
        refine fg_X5_13 hx hb hown hts hE hs 0 rfl (v := .ref (a 1)) rfl dX5_about_52 ?_
        refine lv_iload_n hx hb dX5_about_55 rfl (lv_at hl 1 rfl) ?_
        obtain ⟨v3, hv3, hF⟩ := bd hF
        refine sx_iald hx hb hE hs 1 (f := m_s q2.2) rfl hv3 dX5_about_56 ?_
        exact sx_iret hx hb hr hlk hQ (congrArg Prod.fst (Option.some.inj hF)) (congrArg (fun z => WM G a z) (congrArg Prod.snd (Option.some.inj hF))) hs dX5_about_57
      · have hF := (if_pos hc).symm.trans hF
        refine lv_aload_n hx hb dX5_about_44 rfl (lv_at hl 0 rfl) ?_
        refine fg_X5_229 hx hb hown hts hE hs 0 rfl (v := .int (m_acts q2.2)) rfl dX5_about_45 ?_
        refine lv_goto (tgt := 57) hx hb dX5_about_48 (by decide) ?_
        exact sx_iret hx hb hr hlk hQ (congrArg Prod.fst (Option.some.inj hF)) (congrArg (fun z => WM G a z) (congrArg Prod.snd (Option.some.inj hF))) hs dX5_about_57
    · have hF := (if_neg hc).symm.trans hF
      refine lv_iconst (v := (-1 : Int32)) hx hb dX5_about_36 (by decide) ?_
      exact sx_iret hx hb hr hlk hQ (congrArg Prod.fst (Option.some.inj hF)) (congrArg (fun z => WM G a z) (congrArg Prod.snd (Option.some.inj hF))) hs dX5_about_37
  have hJ24_n : ∀ (S : MS) (x1 : Int32) (H : Heap) (locs : List Loc) (ls : Array Slot), J_X5_about_24 S x1 = some r → SI G A s H locs (WM G a S) → lv_has ls 2 [(0, .ref (a 0)), (1, .int x1)] → W p l e (RM 1 25) s m args below meth c H locs 0 0 Q (F0 m 24 ls [.ref (a 0)]) := by
    intro S x1 H locs ls hF hs hl
    unfold J_X5_about_24 at hF
    refine lv_iconst (v := (1 : Int32)) hx hb dX5_about_24 (by decide) ?_
    refine lv_goto (tgt := 29) hx hb dX5_about_25 (by decide) ?_
    exact hJ29_n S x1 (1 : Int32) _ _ _ hF hs (lv_sub hl [0, 1] rfl)
  unfold F_X5_about at hF
  refine lv_aload_n hx hb dX5_about_0 rfl (lv_at hl 0 rfl) ?_
  obtain ⟨q1, hq1, hF⟩ := bd hF
  refine sx_V (As := []) (rest := []) (st1 := []) (c_X5_begins G l a S q1 hq1) v_X5_212 ⟨(Nat.le_of_ble_eq_true rfl), (Nat.le_of_ble_eq_true rfl)⟩ hx hb hml hown hts hE hA hs ⟨Nat.le_refl 0, Nat.le_refl 0⟩ 0 rfl rfl rfl rfl rfl hl.1 (Nat.le_of_ble_eq_true rfl) dX5_about_1 (pmW _) (ws' := WM G a q1) (pmW _) (fun H locs hs => ?_)
  refine lv_aload_n hx hb dX5_about_4 rfl (lv_at hl 0 rfl) ?_
  refine lv_aload_n hx hb dX5_about_5 rfl (lv_at hl 0 rfl) ?_
  refine fg_X5_225 hx hb hown hts hE hs 0 rfl (v := .int (m_told q1)) rfl dX5_about_6 ?_
  refine lv_if_eq (tgt := 24) hx hb dX5_about_9 (by decide) (fun hc => ?_) (fun hc => ?_)
  · have hF := (if_pos hc).symm.trans hF
    exact hJ24_n q1 x1 _ _ _ hF hs (lv_sub hl [0, 1] rfl)
  · have hF := (if_neg hc).symm.trans hF
    refine lv_iload_n hx hb dX5_about_12 rfl (lv_at hl 1 rfl) ?_
    refine lv_i2l hx hb dX5_about_13 rfl ?_
    refine lv_lconst (v := (0 : Int64)) hx hb dX5_about_14 (by decide) ?_
    refine lv_ldc2 (v := (10 : Int64)) hx hb hown (hts _ g1205) dX5_about_15 ?_
    obtain ⟨q4, hq4, hF⟩ := bd hF
    refine sx_S (As := [.long x1.toInt64, .long (0 : Int64), .long (10 : Int64)]) (rest := [.ref (a 0)]) (st1 := [.int q4, .ref (a 0)]) (c_X5_in G l  x1.toInt64 (0 : Int64) (10 : Int64) q4 hq4) v_X5_161 ⟨(Nat.le_of_ble_eq_true rfl), (Nat.le_of_ble_eq_true rfl)⟩ hx hb hml hown hts hE hA hs ⟨Nat.le_refl 0, Nat.le_refl 0⟩ rfl rfl rfl hl.1 (Nat.le_of_ble_eq_true rfl) dX5_about_18 (List.Perm.refl _) (ws' := WM G a q1) (List.Perm.refl _) (fun H locs hs => ?_)
    refine lv_if_ne (tgt := 28) hx hb dX5_about_21 (by decide) (fun hc => ?_) (fun hc => ?_)
    · have hF := (if_neg hc).symm.trans hF
      refine lv_iconst (v := (0 : Int32)) hx hb dX5_about_28 (by decide) ?_
      exact hJ29_n q1 x1 (0 : Int32) _ _ _ hF hs (lv_sub hl [0, 1] rfl)
    · have hF := (if_pos hc).symm.trans hF
      exact hJ24_n q1 x1 _ _ _ hF hs (lv_sub hl [0, 1] rfl)
set_option maxHeartbeats 4000000 in
set_option maxRecDepth 100000 in
theorem c_X5_weightOf (G : GT) (l : Launch) (b : Nat) (S : (Fin 82 → Int32)) (x1 : Int32) (r : Int32) (hF : F_X5_weightOf S x1 = some r) : MT G l yX5_weightOf cX5_weightOf 3 (some .int) 1 22 [.ref (b), .int x1] (([(b, .inl (G.2.1 0, 82, .inl (exI S)))] : va_W)) (some (.int r)) (([(b, .inl (G.2.1 0, 82, .inl (exI S)))] : va_W)) := by
  refine MT.of (by decide) (Nat.le_of_ble_eq_true rfl) ?_
  intro p e s m args below meth c A ls hx hb hr hml hown hts hlk hE hA hs hl Q hQ
  have hl : lv_has ls 3 [(0, .ref (b)), (1, .int x1)] := hl
  unfold F_X5_weightOf at hF
  refine lv_aload_n hx hb dX5_weightOf_0 rfl (lv_at hl 0 rfl) ?_
  refine lv_iload_n hx hb dX5_weightOf_1 rfl (lv_at hl 1 rfl) ?_
  refine lv_iconst (v := (1 : Int32)) hx hb dX5_weightOf_2 (by decide) ?_
  obtain ⟨q1, hq1, hF⟩ := bd hF
  refine sx_S (As := [.ref (b), .int x1, .int (1 : Int32)]) (rest := []) (st1 := [.int q1]) (c_X5_ofShip G l (b) S x1 (1 : Int32) q1 hq1) v_X5_243 ⟨(Nat.le_of_ble_eq_true rfl), (Nat.le_of_ble_eq_true rfl)⟩ hx hb hml hown hts hE hA hs ⟨Nat.le_refl 0, Nat.le_refl 0⟩ rfl rfl rfl hl.1 (Nat.le_of_ble_eq_true rfl) dX5_weightOf_3 (pmW _) (ws' := ([(b, .inl (G.2.1 0, 82, .inl (exI S)))] : va_W)) (pmW _) (fun H locs hs => ?_)
  refine lv_istore_n (lv' := [(2, .int q1), (0, .ref (b)), (1, .int x1)]) hx hb dX5_weightOf_6 rfl hl (by decide) rfl (fun ls hl => ?_)
  refine lv_aload_n hx hb dX5_weightOf_7 rfl (lv_at hl 1 rfl) ?_
  refine lv_iconst (v := (2 : Int32)) hx hb dX5_weightOf_8 (by decide) ?_
  obtain ⟨v2, hv2, hF⟩ := bd hF
  refine sx_iald hx hb hE hs 0 (f := S) rfl hv2 dX5_weightOf_9 ?_
  refine lv_iconst (v := (1 : Int32)) hx hb dX5_weightOf_10 (by decide) ?_
  refine lv_icmp_ne (tgt := 26) hx hb dX5_weightOf_11 (by decide) (fun hc => ?_) (fun hc => ?_)
  · have hF := (if_neg hc).symm.trans hF
    refine lv_iload_n hx hb dX5_weightOf_26 rfl (lv_at hl 0 rfl) ?_
    exact sx_iret hx hb hr hlk hQ (Option.some.inj hF) rfl hs dX5_weightOf_27
  · have hF := (if_pos hc).symm.trans hF
    refine lv_iload_n hx hb dX5_weightOf_14 rfl (lv_at hl 0 rfl) ?_
    refine lv_if_le (tgt := 22) hx hb dX5_weightOf_15 (by decide) (fun hc => ?_) (fun hc => ?_)
    · have hF := (if_pos hc).symm.trans hF
      refine lv_iconst (v := (0 : Int32)) hx hb dX5_weightOf_22 (by decide) ?_
      refine lv_goto (tgt := 27) hx hb dX5_weightOf_23 (by decide) ?_
      exact sx_iret hx hb hr hlk hQ (Option.some.inj hF) rfl hs dX5_weightOf_27
    · have hF := (if_neg hc).symm.trans hF
      refine lv_iconst (v := (1 : Int32)) hx hb dX5_weightOf_18 (by decide) ?_
      refine lv_goto (tgt := 27) hx hb dX5_weightOf_19 (by decide) ?_
      exact sx_iret hx hb hr hlk hQ (Option.some.inj hF) rfl hs dX5_weightOf_27
set_option maxHeartbeats 4000000 in
set_option maxRecDepth 100000 in
theorem c_X5_ship (G : GT) (l : Launch) (a : Nat → Nat) (S : MS) (x1 : Int32) (x2 : Int32) (r : Int32 × MS) (hF : F_X5_ship S x1 x2 = some r) : MT G l yX5_ship cX5_ship 3 (some .int) 2 46 [.ref (a 0), .int x1, .int x2] (WM G a S) (some (.int r.1)) (WM G a r.2) := by
  refine MT.of (by decide) (Nat.le_of_ble_eq_true rfl) ?_
  intro p e s m args below meth c A ls hx hb hr hml hown hts hlk hE hA hs hl Q hQ
  have hl : lv_has ls 3 [(0, .ref (a 0)), (1, .int x1), (2, .int x2)] := hl
  have hJ30_n : ∀ (S : MS) (x1 : Int32) (x2 : Int32) (y0 : Int32) (H : Heap) (locs : List Loc) (ls : Array Slot), J_X5_ship_30 S x1 x2 y0 = some r → SI G A s H locs (WM G a S) → lv_has ls 3 [(0, .ref (a 0)), (1, .int x1), (2, .int x2)] → W p l e (RM 2 46) s m args below meth c H locs 0 0 Q (F0 m 30 ls [.int y0, .ref (a 0)]) := by
    intro S x1 x2 y0 H locs ls hF hs hl
    unfold J_X5_ship_30 at hF
    refine lv_iconst (v := (1 : Int32)) hx hb dX5_ship_30 (by decide) ?_
    obtain ⟨q3, hq3, hF⟩ := bd hF
    refine sx_V (As := [.int y0, .int (1 : Int32)]) (rest := []) (st1 := [.int q3.1]) (c_X5_refuse G l a S y0 (1 : Int32) q3 hq3) v_X5_215 ⟨(Nat.le_of_ble_eq_true rfl), (Nat.le_of_ble_eq_true rfl)⟩ hx hb hml hown hts hE hA hs ⟨Nat.le_refl 0, Nat.le_refl 0⟩ 0 rfl rfl rfl rfl rfl hl.1 (Nat.le_of_ble_eq_true rfl) dX5_ship_31 (pmW _) (ws' := WM G a q3.2) (pmW _) (fun H locs hs => ?_)
    refine lv_if_eq (tgt := 39) hx hb dX5_ship_34 (by decide) (fun hc => ?_) (fun hc => ?_)
    · have hF := (if_pos hc).symm.trans hF
      refine lv_iload_n hx hb dX5_ship_39 rfl (lv_at hl 2 rfl) ?_
      refine lv_bipush (v := (6 : Int32)) hx hb dX5_ship_40 (by decide) ?_
      refine lv_icmp_ne (tgt := 56) hx hb dX5_ship_42 (by decide) (fun hc => ?_) (fun hc => ?_)
      · have hF := (if_neg hc).symm.trans hF
        refine lv_aload_n hx hb dX5_ship_56 rfl (lv_at hl 0 rfl) ?_
        refine fg_X5_13 hx hb hown hts hE hs 0 rfl (v := .ref (a 1)) rfl dX5_ship_57 ?_
        refine lv_iload_n hx hb dX5_ship_60 rfl (lv_at hl 1 rfl) ?_
        refine lv_iload_n hx hb dX5_ship_61 rfl (lv_at hl 2 rfl) ?_
        obtain ⟨q4, hq4, hF⟩ := bd hF
        refine sx_S (As := [.ref (a 1), .int x1, .int x2]) (rest := []) (st1 := [.int q4]) (c_X5_ofShip G l (a 1) (m_s q3.2) x1 x2 q4 hq4) v_X5_243 ⟨(Nat.le_of_ble_eq_true rfl), (Nat.le_of_ble_eq_true rfl)⟩ hx hb hml hown hts hE hA hs ⟨Nat.le_refl 0, Nat.le_refl 0⟩ rfl rfl rfl hl.1 (Nat.le_of_ble_eq_true rfl) dX5_ship_62 (pM_s G a q3.2 (m_s q3.2)) (ws' := WM G a q3.2) (pM_s G a q3.2 (m_s q3.2)) (fun H locs hs => ?_)
        exact sx_iret hx hb hr hlk hQ (congrArg Prod.fst (Option.some.inj hF)) (congrArg (fun z => WM G a z) (congrArg Prod.snd (Option.some.inj hF))) hs dX5_ship_65
      · have hF := (if_pos hc).symm.trans hF
        refine lv_aload_n hx hb dX5_ship_45 rfl (lv_at hl 0 rfl) ?_
        refine fg_X5_13 hx hb hown hts hE hs 0 rfl (v := .ref (a 1)) rfl dX5_ship_46 ?_
        refine lv_iload_n hx hb dX5_ship_49 rfl (lv_at hl 1 rfl) ?_
        obtain ⟨q5, hq5, hF⟩ := bd hF
        refine sx_S (As := [.ref (a 1), .int x1]) (rest := []) (st1 := [.int q5]) (c_X5_weightOf G l (a 1) (m_s q3.2) x1 q5 hq5) v_X5_239 ⟨(Nat.le_of_ble_eq_true rfl), (Nat.le_of_ble_eq_true rfl)⟩ hx hb hml hown hts hE hA hs ⟨Nat.le_refl 0, Nat.le_refl 0⟩ rfl rfl rfl hl.1 (Nat.le_of_ble_eq_true rfl) dX5_ship_50 (pM_s G a q3.2 (m_s q3.2)) (ws' := WM G a q3.2) (pM_s G a q3.2 (m_s q3.2)) (fun H locs hs => ?_)
        refine lv_goto (tgt := 65) hx hb dX5_ship_53 (by decide) ?_
        exact sx_iret hx hb hr hlk hQ (congrArg Prod.fst (Option.some.inj hF)) (congrArg (fun z => WM G a z) (congrArg Prod.snd (Option.some.inj hF))) hs dX5_ship_65
    · have hF := (if_neg hc).symm.trans hF
      refine lv_iconst (v := (-1 : Int32)) hx hb dX5_ship_37 (by decide) ?_
      exact sx_iret hx hb hr hlk hQ (congrArg Prod.fst (Option.some.inj hF)) (congrArg (fun z => WM G a z) (congrArg Prod.snd (Option.some.inj hF))) hs dX5_ship_38
  have hJ25_n : ∀ (S : MS) (x1 : Int32) (x2 : Int32) (H : Heap) (locs : List Loc) (ls : Array Slot), J_X5_ship_25 S x1 x2 = some r → SI G A s H locs (WM G a S) → lv_has ls 3 [(0, .ref (a 0)), (1, .int x1), (2, .int x2)] → W p l e (RM 2 46) s m args below meth c H locs 0 0 Q (F0 m 25 ls [.ref (a 0)]) := by
    intro S x1 x2 H locs ls hF hs hl
    unfold J_X5_ship_25 at hF
    refine lv_iconst (v := (1 : Int32)) hx hb dX5_ship_25 (by decide) ?_
    refine lv_goto (tgt := 30) hx hb dX5_ship_26 (by decide) ?_
    exact hJ30_n S x1 x2 (1 : Int32) _ _ _ hF hs (lv_sub hl [0, 1, 2] rfl)
  unfold F_X5_ship at hF
  refine lv_aload_n hx hb dX5_ship_0 rfl (lv_at hl 0 rfl) ?_
  obtain ⟨q1, hq1, hF⟩ := bd hF
  refine sx_V (As := []) (rest := []) (st1 := []) (c_X5_begins G l a S q1 hq1) v_X5_212 ⟨(Nat.le_of_ble_eq_true rfl), (Nat.le_of_ble_eq_true rfl)⟩ hx hb hml hown hts hE hA hs ⟨Nat.le_refl 0, Nat.le_refl 0⟩ 0 rfl rfl rfl rfl rfl hl.1 (Nat.le_of_ble_eq_true rfl) dX5_ship_1 (pmW _) (ws' := WM G a q1) (pmW _) (fun H locs hs => ?_)
  refine lv_aload_n hx hb dX5_ship_4 rfl (lv_at hl 0 rfl) ?_
  refine lv_aload_n hx hb dX5_ship_5 rfl (lv_at hl 0 rfl) ?_
  refine lv_iload_n hx hb dX5_ship_6 rfl (lv_at hl 1 rfl) ?_
  obtain ⟨q2, hq2, hF⟩ := bd hF
  refine sx_V (As := [.int x1]) (rest := [.ref (a 0)]) (st1 := [.int q2, .ref (a 0)]) (c_X5_isShip G l a q1 x1 q2 hq2) v_X5_234 ⟨(Nat.le_of_ble_eq_true rfl), (Nat.le_of_ble_eq_true rfl)⟩ hx hb hml hown hts hE hA hs ⟨Nat.le_refl 0, Nat.le_refl 0⟩ 0 rfl rfl rfl rfl rfl hl.1 (Nat.le_of_ble_eq_true rfl) dX5_ship_7 (pmW _) (ws' := WM G a q1) (pmW _) (fun H locs hs => ?_)
  refine lv_if_eq (tgt := 25) hx hb dX5_ship_10 (by decide) (fun hc => ?_) (fun hc => ?_)
  · have hF := (if_pos hc).symm.trans hF
    exact hJ25_n q1 x1 x2 _ _ _ hF hs (lv_sub hl [0, 1, 2] rfl)
  · have hF := (if_neg hc).symm.trans hF
    refine lv_iload_n hx hb dX5_ship_13 rfl (lv_at hl 2 rfl) ?_
    refine lv_i2l hx hb dX5_ship_14 rfl ?_
    refine lv_lconst (v := (0 : Int64)) hx hb dX5_ship_15 (by decide) ?_
    refine lv_ldc2 (v := (6 : Int64)) hx hb hown (hts _ g1214) dX5_ship_16 ?_
    obtain ⟨q6, hq6, hF⟩ := bd hF
    refine sx_S (As := [.long x2.toInt64, .long (0 : Int64), .long (6 : Int64)]) (rest := [.ref (a 0)]) (st1 := [.int q6, .ref (a 0)]) (c_X5_in G l  x2.toInt64 (0 : Int64) (6 : Int64) q6 hq6) v_X5_161 ⟨(Nat.le_of_ble_eq_true rfl), (Nat.le_of_ble_eq_true rfl)⟩ hx hb hml hown hts hE hA hs ⟨Nat.le_refl 0, Nat.le_refl 0⟩ rfl rfl rfl hl.1 (Nat.le_of_ble_eq_true rfl) dX5_ship_19 (List.Perm.refl _) (ws' := WM G a q1) (List.Perm.refl _) (fun H locs hs => ?_)
    refine lv_if_ne (tgt := 29) hx hb dX5_ship_22 (by decide) (fun hc => ?_) (fun hc => ?_)
    · have hF := (if_neg hc).symm.trans hF
      refine lv_iconst (v := (0 : Int32)) hx hb dX5_ship_29 (by decide) ?_
      exact hJ30_n q1 x1 x2 (0 : Int32) _ _ _ hF hs (lv_sub hl [0, 1, 2] rfl)
    · have hF := (if_pos hc).symm.trans hF
      exact hJ25_n q1 x1 x2 _ _ _ hF hs (lv_sub hl [0, 1, 2] rfl)
set_option maxHeartbeats 4000000 in
set_option maxRecDepth 100000 in
theorem c_X5_roundOf (G : GT) (l : Launch) (b : Nat) (S : (Fin 82 → Int32)) (x1 : Int32) (r : Int32) (hF : F_X5_roundOf S x1 = some r) : MT G l yX5_roundOf cX5_roundOf 3 (some .int) 1 22 [.ref (b), .int x1] (([(b, .inl (G.2.1 0, 82, .inl (exI S)))] : va_W)) (some (.int r)) (([(b, .inl (G.2.1 0, 82, .inl (exI S)))] : va_W)) := by
  refine MT.of (by decide) (Nat.le_of_ble_eq_true rfl) ?_
  intro p e s m args below meth c A ls hx hb hr hml hown hts hlk hE hA hs hl Q hQ
  have hl : lv_has ls 3 [(0, .ref (b)), (1, .int x1)] := hl
  unfold F_X5_roundOf at hF
  refine lv_aload_n hx hb dX5_roundOf_0 rfl (lv_at hl 0 rfl) ?_
  refine lv_iload_n hx hb dX5_roundOf_1 rfl (lv_at hl 1 rfl) ?_
  refine lv_iconst (v := (3 : Int32)) hx hb dX5_roundOf_2 (by decide) ?_
  obtain ⟨q1, hq1, hF⟩ := bd hF
  refine sx_S (As := [.ref (b), .int x1, .int (3 : Int32)]) (rest := []) (st1 := [.int q1]) (c_X5_ofClaim G l (b) S x1 (3 : Int32) q1 hq1) v_X5_255 ⟨(Nat.le_of_ble_eq_true rfl), (Nat.le_of_ble_eq_true rfl)⟩ hx hb hml hown hts hE hA hs ⟨Nat.le_refl 0, Nat.le_refl 0⟩ rfl rfl rfl hl.1 (Nat.le_of_ble_eq_true rfl) dX5_roundOf_3 (pmW _) (ws' := ([(b, .inl (G.2.1 0, 82, .inl (exI S)))] : va_W)) (pmW _) (fun H locs hs => ?_)
  refine lv_istore_n (lv' := [(2, .int q1), (0, .ref (b)), (1, .int x1)]) hx hb dX5_roundOf_6 rfl hl (by decide) rfl (fun ls hl => ?_)
  refine lv_iload_n hx hb dX5_roundOf_7 rfl (lv_at hl 0 rfl) ?_
  refine lv_aload_n hx hb dX5_roundOf_8 rfl (lv_at hl 1 rfl) ?_
  refine lv_bipush (v := (8 : Int32)) hx hb dX5_roundOf_9 (by decide) ?_
  obtain ⟨v2, hv2, hF⟩ := bd hF
  refine sx_iald hx hb hE hs 0 (f := S) rfl hv2 dX5_roundOf_11 ?_
  refine lv_icmp_gt (tgt := 19) hx hb dX5_roundOf_12 (by decide) (fun hc => ?_) (fun hc => ?_)
  · have hF := (if_pos hc).symm.trans hF
    refine lv_iload_n hx hb dX5_roundOf_19 rfl (lv_at hl 0 rfl) ?_
    refine lv_aload_n hx hb dX5_roundOf_20 rfl (lv_at hl 1 rfl) ?_
    refine lv_bipush (v := (9 : Int32)) hx hb dX5_roundOf_21 (by decide) ?_
    obtain ⟨v3, hv3, hF⟩ := bd hF
    refine sx_iald hx hb hE hs 0 (f := S) rfl hv3 dX5_roundOf_23 ?_
    refine lv_icmp_gt (tgt := 31) hx hb dX5_roundOf_24 (by decide) (fun hc => ?_) (fun hc => ?_)
    · have hF := (if_pos hc).symm.trans hF
      refine lv_bipush (v := (-2 : Int32)) hx hb dX5_roundOf_31 (by decide) ?_
      exact sx_iret hx hb hr hlk hQ (Option.some.inj hF) rfl hs dX5_roundOf_33
    · have hF := (if_neg hc).symm.trans hF
      refine lv_iconst (v := (1 : Int32)) hx hb dX5_roundOf_27 (by decide) ?_
      refine lv_goto (tgt := 33) hx hb dX5_roundOf_28 (by decide) ?_
      exact sx_iret hx hb hr hlk hQ (Option.some.inj hF) rfl hs dX5_roundOf_33
  · have hF := (if_neg hc).symm.trans hF
    refine lv_iconst (v := (0 : Int32)) hx hb dX5_roundOf_15 (by decide) ?_
    refine lv_goto (tgt := 33) hx hb dX5_roundOf_16 (by decide) ?_
    exact sx_iret hx hb hr hlk hQ (Option.some.inj hF) rfl hs dX5_roundOf_33
set_option maxHeartbeats 4000000 in
set_option maxRecDepth 100000 in
theorem c_X5_claim (G : GT) (l : Launch) (a : Nat → Nat) (S : MS) (x1 : Int32) (x2 : Int32) (r : Int32 × MS) (hF : F_X5_claim S x1 x2 = some r) : MT G l yX5_claim cX5_claim 3 (some .int) 2 46 [.ref (a 0), .int x1, .int x2] (WM G a S) (some (.int r.1)) (WM G a r.2) := by
  refine MT.of (by decide) (Nat.le_of_ble_eq_true rfl) ?_
  intro p e s m args below meth c A ls hx hb hr hml hown hts hlk hE hA hs hl Q hQ
  have hl : lv_has ls 3 [(0, .ref (a 0)), (1, .int x1), (2, .int x2)] := hl
  have hJ30_n : ∀ (S : MS) (x1 : Int32) (x2 : Int32) (y0 : Int32) (H : Heap) (locs : List Loc) (ls : Array Slot), J_X5_claim_30 S x1 x2 y0 = some r → SI G A s H locs (WM G a S) → lv_has ls 3 [(0, .ref (a 0)), (1, .int x1), (2, .int x2)] → W p l e (RM 2 46) s m args below meth c H locs 0 0 Q (F0 m 30 ls [.int y0, .ref (a 0)]) := by
    intro S x1 x2 y0 H locs ls hF hs hl
    unfold J_X5_claim_30 at hF
    refine lv_iconst (v := (1 : Int32)) hx hb dX5_claim_30 (by decide) ?_
    obtain ⟨q3, hq3, hF⟩ := bd hF
    refine sx_V (As := [.int y0, .int (1 : Int32)]) (rest := []) (st1 := [.int q3.1]) (c_X5_refuse G l a S y0 (1 : Int32) q3 hq3) v_X5_215 ⟨(Nat.le_of_ble_eq_true rfl), (Nat.le_of_ble_eq_true rfl)⟩ hx hb hml hown hts hE hA hs ⟨Nat.le_refl 0, Nat.le_refl 0⟩ 0 rfl rfl rfl rfl rfl hl.1 (Nat.le_of_ble_eq_true rfl) dX5_claim_31 (pmW _) (ws' := WM G a q3.2) (pmW _) (fun H locs hs => ?_)
    refine lv_if_eq (tgt := 39) hx hb dX5_claim_34 (by decide) (fun hc => ?_) (fun hc => ?_)
    · have hF := (if_pos hc).symm.trans hF
      refine lv_iload_n hx hb dX5_claim_39 rfl (lv_at hl 2 rfl) ?_
      refine lv_iconst (v := (4 : Int32)) hx hb dX5_claim_40 (by decide) ?_
      refine lv_icmp_ne (tgt := 55) hx hb dX5_claim_41 (by decide) (fun hc => ?_) (fun hc => ?_)
      · have hF := (if_neg hc).symm.trans hF
        refine lv_aload_n hx hb dX5_claim_55 rfl (lv_at hl 0 rfl) ?_
        refine fg_X5_13 hx hb hown hts hE hs 0 rfl (v := .ref (a 1)) rfl dX5_claim_56 ?_
        refine lv_iload_n hx hb dX5_claim_59 rfl (lv_at hl 1 rfl) ?_
        refine lv_iload_n hx hb dX5_claim_60 rfl (lv_at hl 2 rfl) ?_
        obtain ⟨q4, hq4, hF⟩ := bd hF
        refine sx_S (As := [.ref (a 1), .int x1, .int x2]) (rest := []) (st1 := [.int q4]) (c_X5_ofClaim G l (a 1) (m_s q3.2) x1 x2 q4 hq4) v_X5_255 ⟨(Nat.le_of_ble_eq_true rfl), (Nat.le_of_ble_eq_true rfl)⟩ hx hb hml hown hts hE hA hs ⟨Nat.le_refl 0, Nat.le_refl 0⟩ rfl rfl rfl hl.1 (Nat.le_of_ble_eq_true rfl) dX5_claim_61 (pM_s G a q3.2 (m_s q3.2)) (ws' := WM G a q3.2) (pM_s G a q3.2 (m_s q3.2)) (fun H locs hs => ?_)
        exact sx_iret hx hb hr hlk hQ (congrArg Prod.fst (Option.some.inj hF)) (congrArg (fun z => WM G a z) (congrArg Prod.snd (Option.some.inj hF))) hs dX5_claim_64
      · have hF := (if_pos hc).symm.trans hF
        refine lv_aload_n hx hb dX5_claim_44 rfl (lv_at hl 0 rfl) ?_
        refine fg_X5_13 hx hb hown hts hE hs 0 rfl (v := .ref (a 1)) rfl dX5_claim_45 ?_
        refine lv_iload_n hx hb dX5_claim_48 rfl (lv_at hl 1 rfl) ?_
        obtain ⟨q5, hq5, hF⟩ := bd hF
        refine sx_S (As := [.ref (a 1), .int x1]) (rest := []) (st1 := [.int q5]) (c_X5_roundOf G l (a 1) (m_s q3.2) x1 q5 hq5) v_X5_252 ⟨(Nat.le_of_ble_eq_true rfl), (Nat.le_of_ble_eq_true rfl)⟩ hx hb hml hown hts hE hA hs ⟨Nat.le_refl 0, Nat.le_refl 0⟩ rfl rfl rfl hl.1 (Nat.le_of_ble_eq_true rfl) dX5_claim_49 (pM_s G a q3.2 (m_s q3.2)) (ws' := WM G a q3.2) (pM_s G a q3.2 (m_s q3.2)) (fun H locs hs => ?_)
        refine lv_goto (tgt := 64) hx hb dX5_claim_52 (by decide) ?_
        exact sx_iret hx hb hr hlk hQ (congrArg Prod.fst (Option.some.inj hF)) (congrArg (fun z => WM G a z) (congrArg Prod.snd (Option.some.inj hF))) hs dX5_claim_64
    · have hF := (if_neg hc).symm.trans hF
      refine lv_iconst (v := (-1 : Int32)) hx hb dX5_claim_37 (by decide) ?_
      exact sx_iret hx hb hr hlk hQ (congrArg Prod.fst (Option.some.inj hF)) (congrArg (fun z => WM G a z) (congrArg Prod.snd (Option.some.inj hF))) hs dX5_claim_38
  have hJ25_n : ∀ (S : MS) (x1 : Int32) (x2 : Int32) (H : Heap) (locs : List Loc) (ls : Array Slot), J_X5_claim_25 S x1 x2 = some r → SI G A s H locs (WM G a S) → lv_has ls 3 [(0, .ref (a 0)), (1, .int x1), (2, .int x2)] → W p l e (RM 2 46) s m args below meth c H locs 0 0 Q (F0 m 25 ls [.ref (a 0)]) := by
    intro S x1 x2 H locs ls hF hs hl
    unfold J_X5_claim_25 at hF
    refine lv_iconst (v := (1 : Int32)) hx hb dX5_claim_25 (by decide) ?_
    refine lv_goto (tgt := 30) hx hb dX5_claim_26 (by decide) ?_
    exact hJ30_n S x1 x2 (1 : Int32) _ _ _ hF hs (lv_sub hl [0, 1, 2] rfl)
  unfold F_X5_claim at hF
  refine lv_aload_n hx hb dX5_claim_0 rfl (lv_at hl 0 rfl) ?_
  obtain ⟨q1, hq1, hF⟩ := bd hF
  refine sx_V (As := []) (rest := []) (st1 := []) (c_X5_begins G l a S q1 hq1) v_X5_212 ⟨(Nat.le_of_ble_eq_true rfl), (Nat.le_of_ble_eq_true rfl)⟩ hx hb hml hown hts hE hA hs ⟨Nat.le_refl 0, Nat.le_refl 0⟩ 0 rfl rfl rfl rfl rfl hl.1 (Nat.le_of_ble_eq_true rfl) dX5_claim_1 (pmW _) (ws' := WM G a q1) (pmW _) (fun H locs hs => ?_)
  refine lv_aload_n hx hb dX5_claim_4 rfl (lv_at hl 0 rfl) ?_
  refine lv_aload_n hx hb dX5_claim_5 rfl (lv_at hl 0 rfl) ?_
  refine lv_iload_n hx hb dX5_claim_6 rfl (lv_at hl 1 rfl) ?_
  obtain ⟨q2, hq2, hF⟩ := bd hF
  refine sx_V (As := [.int x1]) (rest := [.ref (a 0)]) (st1 := [.int q2, .ref (a 0)]) (c_X5_isClaim G l a q1 x1 q2 hq2) v_X5_247 ⟨(Nat.le_of_ble_eq_true rfl), (Nat.le_of_ble_eq_true rfl)⟩ hx hb hml hown hts hE hA hs ⟨Nat.le_refl 0, Nat.le_refl 0⟩ 0 rfl rfl rfl rfl rfl hl.1 (Nat.le_of_ble_eq_true rfl) dX5_claim_7 (pmW _) (ws' := WM G a q1) (pmW _) (fun H locs hs => ?_)
  refine lv_if_eq (tgt := 25) hx hb dX5_claim_10 (by decide) (fun hc => ?_) (fun hc => ?_)
  · have hF := (if_pos hc).symm.trans hF
    exact hJ25_n q1 x1 x2 _ _ _ hF hs (lv_sub hl [0, 1, 2] rfl)
  · have hF := (if_neg hc).symm.trans hF
    refine lv_iload_n hx hb dX5_claim_13 rfl (lv_at hl 2 rfl) ?_
    refine lv_i2l hx hb dX5_claim_14 rfl ?_
    refine lv_lconst (v := (0 : Int64)) hx hb dX5_claim_15 (by decide) ?_
    refine lv_ldc2 (v := (4 : Int64)) hx hb hown (hts _ g1229) dX5_claim_16 ?_
    obtain ⟨q6, hq6, hF⟩ := bd hF
    refine sx_S (As := [.long x2.toInt64, .long (0 : Int64), .long (4 : Int64)]) (rest := [.ref (a 0)]) (st1 := [.int q6, .ref (a 0)]) (c_X5_in G l  x2.toInt64 (0 : Int64) (4 : Int64) q6 hq6) v_X5_161 ⟨(Nat.le_of_ble_eq_true rfl), (Nat.le_of_ble_eq_true rfl)⟩ hx hb hml hown hts hE hA hs ⟨Nat.le_refl 0, Nat.le_refl 0⟩ rfl rfl rfl hl.1 (Nat.le_of_ble_eq_true rfl) dX5_claim_19 (List.Perm.refl _) (ws' := WM G a q1) (List.Perm.refl _) (fun H locs hs => ?_)
    refine lv_if_ne (tgt := 29) hx hb dX5_claim_22 (by decide) (fun hc => ?_) (fun hc => ?_)
    · have hF := (if_neg hc).symm.trans hF
      refine lv_iconst (v := (0 : Int32)) hx hb dX5_claim_29 (by decide) ?_
      exact hJ30_n q1 x1 x2 (0 : Int32) _ _ _ hF hs (lv_sub hl [0, 1, 2] rfl)
    · have hF := (if_pos hc).symm.trans hF
      exact hJ25_n q1 x1 x2 _ _ _ hF hs (lv_sub hl [0, 1, 2] rfl)
set_option maxHeartbeats 4000000 in
set_option maxRecDepth 100000 in
theorem c_X5_letter (G : GT) (l : Launch) (a : Nat → Nat) (S : MS) (x1 : Int32) (x2 : Int32) (r : Int32 × MS) (hF : F_X5_letter S x1 x2 = some r) : MT G l yX5_letter cX5_letter 7 (some .int) 2 46 [.ref (a 0), .int x1, .int x2] (WM G a S) (some (.int r.1)) (WM G a r.2) := by
  refine MT.of (by decide) (Nat.le_of_ble_eq_true rfl) ?_
  intro p e s m args below meth c A ls hx hb hr hml hown hts hlk hE hA hs hl Q hQ
  have hl : lv_has ls 7 [(0, .ref (a 0)), (1, .int x1), (2, .int x2)] := hl
  have hL30 : ∀ (x1 : Int32) (x2 : Int32) (k : MS → Int32 → Option (Int32 × MS)) (hk : ∀ (S : MS) (x3 : Int32) (H : Heap) (locs : List Loc) (ls : Array Slot), k S x3 = some r → SI G A s H locs (WM G a S) → lv_has ls 7 [(0, .ref (a 0)), (1, .int x1), (2, .int x2), (3, .int x3)] → W p l e (RM 2 46) s m args below meth c H locs 0 0 Q (F0 m 51 ls [])) (fu : Nat) (S : MS) (x3 : Int32) (x4 : Int64) (H : Heap) (locs : List Loc) (ls : Array Slot), lo3 (B_X5_letter_30 x1 x2 k) fu S x3 x4 = some r → SI G A s H locs (WM G a S) → lv_has ls 7 [(0, .ref (a 0)), (1, .int x1), (2, .int x2), (3, .int x3), (4, .long x4)] → W p l e (RM 2 46) s m args below meth c H locs 0 0 Q (F0 m 30 ls []) := by
    intro x1 x2 k hk fu
    induction fu with
    | zero =>
      intro S x3 x4 H locs ls hF hs hl
      exact nomatch (show (none : Option (Int32 × MS)) = some r from hF)
    | succ fu hrec =>
      intro S x3 x4 H locs ls hF hs hl
      have hF : (B_X5_letter_30 x1 x2 k) (lo3 (B_X5_letter_30 x1 x2 k) fu) S x3 x4 = some r := hF
      unfold B_X5_letter_30 at hF
      refine lv_lload hx hb dX5_letter_30 (lv_at hl 4 rfl) ?_
      refine lv_lconst (v := (0 : Int64)) hx hb dX5_letter_32 (by decide) ?_
      refine W.lcmp hx hb dX5_letter_33 ?_
      refine lv_if_le (tgt := 51) hx hb dX5_letter_34 (by decide) (fun hc => ?_) (fun hc => ?_)
      · have hF := (if_pos hc).symm.trans hF
        exact hk S x3 _ _ _ hF hs (lv_sub hl [0, 1, 2, 3] rfl)
      · have hF := (if_neg hc).symm.trans hF
        obtain ⟨v4, ev4, hF⟩ := nm_some hF
        refine lv_iinc (v := v4) (lv' := [(3, .int v4), (0, .ref (a 0)), (1, .int x1), (2, .int x2), (4, .long x4)]) hx hb dX5_letter_37 hl (k := 3) rfl (by rw [ev4]; rfl) (by decide) rfl (fun ls hl => ?_)
        refine lv_lload hx hb dX5_letter_40 (lv_at hl 4 rfl) ?_
        refine lv_ldc2 (v := (32 : Int64)) hx hb hown (hts _ g1085) dX5_letter_42 ?_
        obtain ⟨v5, hv5, hF⟩ := bd hF
        refine sx_ldiv hx hb hv5 dX5_letter_45 ?_
        refine lv_lstore (lv' := [(4, .long v5), (3, .int v4), (0, .ref (a 0)), (1, .int x1), (2, .int x2)]) hx hb dX5_letter_46 hl (by decide) rfl (fun ls hl => ?_)
        refine lv_goto (tgt := 30) hx hb dX5_letter_48 (by decide) ?_
        exact hrec S v4 v5 _ _ _ hF hs (lv_sub hl [2, 3, 4, 1, 0] rfl)
  have hL84 : ∀ (x2 : Int32) (k : MS → Int64 → Option (Int32 × MS)) (hk : ∀ (S : MS) (x4 : Int64) (H : Heap) (locs : List Loc) (ls : Array Slot), k S x4 = some r → SI G A s H locs (WM G a S) → lv_has ls 7 [(4, .long x4)] → W p l e (RM 2 46) s m args below meth c H locs 0 0 Q (F0 m 104 ls [])) (fu : Nat) (S : MS) (x4 : Int64) (x6 : Int32) (H : Heap) (locs : List Loc) (ls : Array Slot), lo3 (B_X5_letter_84 x2 k) fu S x4 x6 = some r → SI G A s H locs (WM G a S) → lv_has ls 7 [(2, .int x2), (4, .long x4), (6, .int x6)] → W p l e (RM 2 46) s m args below meth c H locs 0 0 Q (F0 m 84 ls []) := by
    intro x2 k hk fu
    induction fu with
    | zero =>
      intro S x4 x6 H locs ls hF hs hl
      exact nomatch (show (none : Option (Int32 × MS)) = some r from hF)
    | succ fu hrec =>
      intro S x4 x6 H locs ls hF hs hl
      have hF : (B_X5_letter_84 x2 k) (lo3 (B_X5_letter_84 x2 k) fu) S x4 x6 = some r := hF
      unfold B_X5_letter_84 at hF
      refine lv_iload hx hb dX5_letter_84 (lv_at hl 2 rfl) ?_
      refine lv_iload_n hx hb dX5_letter_86 rfl (lv_at hl 0 rfl) ?_
      refine lv_icmp_le (tgt := 104) hx hb dX5_letter_87 (by decide) (fun hc => ?_) (fun hc => ?_)
      · have hF := (if_pos hc).symm.trans hF
        exact hk S x4 _ _ _ hF hs (lv_sub hl [1] rfl)
      · have hF := (if_neg hc).symm.trans hF
        refine lv_lload hx hb dX5_letter_90 (lv_at hl 1 rfl) ?_
        refine lv_ldc2 (v := (32 : Int64)) hx hb hown (hts _ g1085) dX5_letter_92 ?_
        obtain ⟨v11, hv11, hF⟩ := bd hF
        refine sx_ldiv hx hb hv11 dX5_letter_95 ?_
        refine lv_lstore (lv' := [(4, .long v11), (2, .int x2), (6, .int x6)]) hx hb dX5_letter_96 hl (by decide) rfl (fun ls hl => ?_)
        obtain ⟨v12, ev12, hF⟩ := nm_some hF
        refine lv_iinc (v := v12) (lv' := [(6, .int v12), (4, .long v11), (2, .int x2)]) hx hb dX5_letter_98 hl (k := 2) rfl (by rw [ev12]; exact congrArg (x6 + ·) (by decide)) (by decide) rfl (fun ls hl => ?_)
        refine lv_goto (tgt := 84) hx hb dX5_letter_101 (by decide) ?_
        exact hrec S v11 v12 _ _ _ hF hs (lv_sub hl [2, 1, 0] rfl)
  unfold F_X5_letter at hF
  refine lv_aload_n hx hb dX5_letter_0 rfl (lv_at hl 0 rfl) ?_
  refine lv_iconst (v := (0 : Int32)) hx hb dX5_letter_1 (by decide) ?_
  obtain ⟨S1, eS1, hF⟩ := nm_some hF
  refine fp_X5_52 hx hb hown hts hE hs 0 rfl (ws' := WM G a S1) (Nat.le_of_ble_eq_true rfl) (by subst eS1; rfl) dX5_letter_2 (fun H locs hs => ?_)
  refine lv_aload_n hx hb dX5_letter_5 rfl (lv_at hl 0 rfl) ?_
  refine lv_iload_n hx hb dX5_letter_6 rfl (lv_at hl 1 rfl) ?_
  obtain ⟨q2, hq2, hF⟩ := bd hF
  refine sx_V (As := [.int x1]) (rest := []) (st1 := [.int q2]) (c_X5_isShip G l a S1 x1 q2 hq2) v_X5_234 ⟨(Nat.le_of_ble_eq_true rfl), (Nat.le_of_ble_eq_true rfl)⟩ hx hb hml hown hts hE hA hs ⟨Nat.le_refl 0, Nat.le_refl 0⟩ 0 rfl rfl rfl rfl rfl hl.1 (Nat.le_of_ble_eq_true rfl) dX5_letter_7 (pmW _) (ws' := WM G a S1) (pmW _) (fun H locs hs => ?_)
  refine lv_if_ne (tgt := 20) hx hb dX5_letter_10 (by decide) (fun hc => ?_) (fun hc => ?_)
  · have hF := (if_neg hc).symm.trans hF
    refine lv_iconst (v := (0 : Int32)) hx hb dX5_letter_20 (by decide) ?_
    refine lv_istore_n (lv' := [(3, .int (0 : Int32)), (0, .ref (a 0)), (1, .int x1), (2, .int x2)]) hx hb dX5_letter_21 rfl hl (by decide) rfl (fun ls hl => ?_)
    refine lv_aload_n hx hb dX5_letter_22 rfl (lv_at hl 1 rfl) ?_
    refine fg_X5_33 hx hb hown hts hE hs 0 rfl (v := .ref (a 7)) rfl dX5_letter_23 ?_
    refine lv_iload_n hx hb dX5_letter_26 rfl (lv_at hl 2 rfl) ?_
    obtain ⟨v3, hv3, hF⟩ := bd hF
    refine sx_lald hx hb hE hs 7 (f := m_names S1) rfl hv3 dX5_letter_27 ?_
    refine lv_lstore (lv' := [(4, .long v3), (3, .int (0 : Int32)), (0, .ref (a 0)), (1, .int x1), (2, .int x2)]) hx hb dX5_letter_28 hl (by decide) rfl (fun ls hl => ?_)
    refine hL30 x1 x2 _ (fun S6 z7 H locs ls hF hs hl => ?_) FU S1 (0 : Int32) v3 _ _ _ hF hs (lv_sub hl [2, 3, 4, 1, 0] rfl)
    refine lv_iload_n hx hb dX5_letter_51 rfl (lv_at hl 2 rfl) ?_
    refine lv_i2l hx hb dX5_letter_52 rfl ?_
    refine lv_lconst (v := (0 : Int64)) hx hb dX5_letter_53 (by decide) ?_
    refine lv_iload_n hx hb dX5_letter_54 rfl (lv_at hl 3 rfl) ?_
    refine lv_iconst (v := (1 : Int32)) hx hb dX5_letter_55 (by decide) ?_
    refine lv_isub hx hb dX5_letter_56 ?_
    refine lv_i2l hx hb dX5_letter_57 rfl ?_
    obtain ⟨q8, hq8, hF⟩ := bd hF
    refine sx_S (As := [.long x2.toInt64, .long (0 : Int64), .long ((z7 - (1 : Int32)).toInt64)]) (rest := []) (st1 := [.int q8]) (c_X5_in G l  x2.toInt64 (0 : Int64) ((z7 - (1 : Int32)).toInt64) q8 hq8) v_X5_161 ⟨(Nat.le_of_ble_eq_true rfl), (Nat.le_of_ble_eq_true rfl)⟩ hx hb hml hown hts hE hA hs ⟨Nat.le_refl 0, Nat.le_refl 0⟩ rfl rfl rfl hl.1 (Nat.le_of_ble_eq_true rfl) dX5_letter_58 (List.Perm.refl _) (ws' := WM G a S6) (List.Perm.refl _) (fun H locs hs => ?_)
    refine lv_if_ne (tgt := 71) hx hb dX5_letter_61 (by decide) (fun hc => ?_) (fun hc => ?_)
    · have hF := (if_neg hc).symm.trans hF
      refine lv_aload_n hx hb dX5_letter_71 rfl (lv_at hl 0 rfl) ?_
      refine fg_X5_33 hx hb hown hts hE hs 0 rfl (v := .ref (a 7)) rfl dX5_letter_72 ?_
      refine lv_iload_n hx hb dX5_letter_75 rfl (lv_at hl 1 rfl) ?_
      obtain ⟨v9, hv9, hF⟩ := bd hF
      refine sx_lald hx hb hE hs 7 (f := m_names S6) rfl hv9 dX5_letter_76 ?_
      refine lv_lstore (lv' := [(4, .long v9), (0, .ref (a 0)), (1, .int x1), (2, .int x2), (3, .int z7)]) hx hb dX5_letter_77 hl (by decide) rfl (fun ls hl => ?_)
      refine lv_iload_n hx hb dX5_letter_79 rfl (lv_at hl 4 rfl) ?_
      refine lv_iconst (v := (1 : Int32)) hx hb dX5_letter_80 (by decide) ?_
      refine lv_isub hx hb dX5_letter_81 ?_
      obtain ⟨v10, ev10, hF⟩ := nm_some hF
      refine sx_topi ev10 ?_
      refine lv_istore (lv' := [(6, .int v10), (4, .long v9), (0, .ref (a 0)), (1, .int x1), (2, .int x2), (3, .int z7)]) hx hb dX5_letter_82 hl (by decide) rfl (fun ls hl => ?_)
      refine hL84 x2 _ (fun S13 z14 H locs ls hF hs hl => ?_) FU S6 v9 v10 _ _ _ hF hs (lv_sub hl [4, 1, 0] rfl)
      refine lv_lload hx hb dX5_letter_104 (lv_at hl 0 rfl) ?_
      refine lv_ldc2 (v := (32 : Int64)) hx hb hown (hts _ g1085) dX5_letter_106 ?_
      obtain ⟨v15, hv15, hF⟩ := bd hF
      refine sx_lrem hx hb hv15 dX5_letter_109 ?_
      refine lv_l2i hx hb dX5_letter_110 rfl ?_
      refine lv_iconst (v := (1 : Int32)) hx hb dX5_letter_111 (by decide) ?_
      refine lv_isub hx hb dX5_letter_112 ?_
      exact sx_iret hx hb hr hlk hQ (congrArg Prod.fst (Option.some.inj hF)) (congrArg (fun z => WM G a z) (congrArg Prod.snd (Option.some.inj hF))) hs dX5_letter_113
    · have hF := (if_pos hc).symm.trans hF
      refine lv_aload_n hx hb dX5_letter_64 rfl (lv_at hl 0 rfl) ?_
      refine lv_iconst (v := (1 : Int32)) hx hb dX5_letter_65 (by decide) ?_
      obtain ⟨S16, eS16, hF⟩ := nm_some hF
      refine fp_X5_52 hx hb hown hts hE hs 0 rfl (ws' := WM G a S16) (Nat.le_of_ble_eq_true rfl) (by subst eS16; rfl) dX5_letter_66 (fun H locs hs => ?_)
      refine lv_iconst (v := (0 : Int32)) hx hb dX5_letter_69 (by decide) ?_
      exact sx_iret hx hb hr hlk hQ (congrArg Prod.fst (Option.some.inj hF)) (congrArg (fun z => WM G a z) (congrArg Prod.snd (Option.some.inj hF))) hs dX5_letter_70
  · have hF := (if_pos hc).symm.trans hF
    refine lv_aload_n hx hb dX5_letter_13 rfl (lv_at hl 0 rfl) ?_
    refine lv_iconst (v := (1 : Int32)) hx hb dX5_letter_14 (by decide) ?_
    obtain ⟨S17, eS17, hF⟩ := nm_some hF
    refine fp_X5_52 hx hb hown hts hE hs 0 rfl (ws' := WM G a S17) (Nat.le_of_ble_eq_true rfl) (by subst eS17; rfl) dX5_letter_15 (fun H locs hs => ?_)
    refine lv_iconst (v := (0 : Int32)) hx hb dX5_letter_18 (by decide) ?_
    exact sx_iret hx hb hr hlk hQ (congrArg Prod.fst (Option.some.inj hF)) (congrArg (fun z => WM G a z) (congrArg Prod.snd (Option.some.inj hF))) hs dX5_letter_19
set_option maxHeartbeats 4000000 in
set_option maxRecDepth 100000 in
theorem c_X5_weightsOf (G : GT) (l : Launch) (b : Nat) (S : (Fin 82 → Int32)) (r : Int32) (hF : F_X5_weightsOf S = some r) : MT G l yX5_weightsOf cX5_weightsOf 3 (some .int) 2 44 [.ref (b)] (([(b, .inl (G.2.1 0, 82, .inl (exI S)))] : va_W)) (some (.int r)) (([(b, .inl (G.2.1 0, 82, .inl (exI S)))] : va_W)) := by
  refine MT.of (by decide) (Nat.le_of_ble_eq_true rfl) ?_
  intro p e s m args below meth c A ls hx hb hr hml hown hts hlk hE hA hs hl Q hQ
  have hl : lv_has ls 3 [(0, .ref (b))] := hl
  have hL4 : ∀ (k : Int32 → Option (Int32)) (hk : ∀ (x1 : Int32) (H : Heap) (locs : List Loc) (ls : Array Slot), k x1 = some r → SI G A s H locs (([(b, .inl (G.2.1 0, 82, .inl (exI S)))] : va_W)) → lv_has ls 3 [(1, .int x1)] → W p l e (RM 2 44) s m args below meth c H locs 0 0 Q (F0 m 25 ls [])) (fu : Nat) (x1 : Int32) (x2 : Int32) (H : Heap) (locs : List Loc) (ls : Array Slot), lo2 (B_X5_weightsOf_4 S k) fu x1 x2 = some r → SI G A s H locs (([(b, .inl (G.2.1 0, 82, .inl (exI S)))] : va_W)) → lv_has ls 3 [(0, .ref (b)), (1, .int x1), (2, .int x2)] → W p l e (RM 2 44) s m args below meth c H locs 0 0 Q (F0 m 4 ls []) := by
    intro k hk fu
    induction fu with
    | zero =>
      intro x1 x2 H locs ls hF hs hl
      exact nomatch (show (none : Option (Int32)) = some r from hF)
    | succ fu hrec =>
      intro x1 x2 H locs ls hF hs hl
      have hF : (B_X5_weightsOf_4 S k) (lo2 (B_X5_weightsOf_4 S k) fu) x1 x2 = some r := hF
      unfold B_X5_weightsOf_4 at hF
      refine lv_iload_n hx hb dX5_weightsOf_4 rfl (lv_at hl 2 rfl) ?_
      refine lv_aload_n hx hb dX5_weightsOf_5 rfl (lv_at hl 0 rfl) ?_
      refine lv_iconst (v := (0 : Int32)) hx hb dX5_weightsOf_6 (by decide) ?_
      obtain ⟨v1, hv1, hF⟩ := bd hF
      refine sx_iald hx hb hE hs 0 (f := S) rfl hv1 dX5_weightsOf_7 ?_
      refine lv_icmp_ge (tgt := 25) hx hb dX5_weightsOf_8 (by decide) (fun hc => ?_) (fun hc => ?_)
      · have hF := (if_pos hc).symm.trans hF
        exact hk x1 _ _ _ hF hs (lv_sub hl [1] rfl)
      · have hF := (if_neg hc).symm.trans hF
        refine lv_iload_n hx hb dX5_weightsOf_11 rfl (lv_at hl 1 rfl) ?_
        refine lv_aload_n hx hb dX5_weightsOf_12 rfl (lv_at hl 0 rfl) ?_
        refine lv_iload_n hx hb dX5_weightsOf_13 rfl (lv_at hl 2 rfl) ?_
        obtain ⟨q2, hq2, hF⟩ := bd hF
        refine sx_S (As := [.ref (b), .int x2]) (rest := [.int x1]) (st1 := [.int q2, .int x1]) (c_X5_weightOf G l (b) S x2 q2 hq2) v_X5_239 ⟨(Nat.le_of_ble_eq_true rfl), (Nat.le_of_ble_eq_true rfl)⟩ hx hb hml hown hts hE hA hs ⟨Nat.le_refl 0, Nat.le_refl 0⟩ rfl rfl rfl hl.1 (Nat.le_of_ble_eq_true rfl) dX5_weightsOf_14 (pmW _) (ws' := ([(b, .inl (G.2.1 0, 82, .inl (exI S)))] : va_W)) (pmW _) (fun H locs hs => ?_)
        refine lv_iadd hx hb dX5_weightsOf_17 ?_
        obtain ⟨v3, ev3, hF⟩ := nm_some hF
        refine sx_topi ev3 ?_
        refine lv_istore_n (lv' := [(1, .int v3), (0, .ref (b)), (2, .int x2)]) hx hb dX5_weightsOf_18 rfl hl (by decide) rfl (fun ls hl => ?_)
        obtain ⟨v4, ev4, hF⟩ := nm_some hF
        refine lv_iinc (v := v4) (lv' := [(2, .int v4), (1, .int v3), (0, .ref (b))]) hx hb dX5_weightsOf_19 hl (k := 2) rfl (by rw [ev4]; rfl) (by decide) rfl (fun ls hl => ?_)
        refine lv_goto (tgt := 4) hx hb dX5_weightsOf_22 (by decide) ?_
        exact hrec v3 v4 _ _ _ hF hs (lv_sub hl [2, 1, 0] rfl)
  unfold F_X5_weightsOf at hF
  refine lv_iconst (v := (0 : Int32)) hx hb dX5_weightsOf_0 (by decide) ?_
  refine lv_istore_n (lv' := [(1, .int (0 : Int32)), (0, .ref (b))]) hx hb dX5_weightsOf_1 rfl hl (by decide) rfl (fun ls hl => ?_)
  refine lv_iconst (v := (0 : Int32)) hx hb dX5_weightsOf_2 (by decide) ?_
  refine lv_istore_n (lv' := [(2, .int (0 : Int32)), (1, .int (0 : Int32)), (0, .ref (b))]) hx hb dX5_weightsOf_3 rfl hl (by decide) rfl (fun ls hl => ?_)
  refine hL4 _ (fun z5 H locs ls hF hs hl => ?_) FU (0 : Int32) (0 : Int32) _ _ _ hF hs (lv_sub hl [2, 1, 0] rfl)
  refine lv_iload_n hx hb dX5_weightsOf_25 rfl (lv_at hl 0 rfl) ?_
  exact sx_iret hx hb hr hlk hQ (Option.some.inj hF) rfl hs dX5_weightsOf_26
set_option maxHeartbeats 4000000 in
set_option maxRecDepth 100000 in
theorem c_X5_partOf (G : GT) (l : Launch) (b : Nat) (S : (Fin 82 → Int32)) (x1 : Int32) (x2 : Int64) (r : Int64) (hF : F_X5_partOf S x1 x2 = some r) : MT G l yX5_partOf cX5_partOf 4 (some .long) 3 66 [.ref (b), .int x1, .long x2] (([(b, .inl (G.2.1 0, 82, .inl (exI S)))] : va_W)) (some (.long r)) (([(b, .inl (G.2.1 0, 82, .inl (exI S)))] : va_W)) := by
  refine MT.of (by decide) (Nat.le_of_ble_eq_true rfl) ?_
  intro p e s m args below meth c A ls hx hb hr hml hown hts hlk hE hA hs hl Q hQ
  have hl : lv_has ls 4 [(0, .ref (b)), (1, .int x1), (2, .long x2)] := hl
  unfold F_X5_partOf at hF
  refine lv_lload_n hx hb dX5_partOf_0 rfl (lv_at hl 2 rfl) ?_
  refine lv_aload_n hx hb dX5_partOf_1 rfl (lv_at hl 0 rfl) ?_
  refine lv_iload_n hx hb dX5_partOf_2 rfl (lv_at hl 1 rfl) ?_
  obtain ⟨q1, hq1, hF⟩ := bd hF
  refine sx_S (As := [.ref (b), .int x1]) (rest := [.long x2]) (st1 := [.int q1, .long x2]) (c_X5_weightOf G l (b) S x1 q1 hq1) v_X5_239 ⟨(Nat.le_of_ble_eq_true rfl), (Nat.le_of_ble_eq_true rfl)⟩ hx hb hml hown hts hE hA hs ⟨Nat.le_refl 0, Nat.le_refl 0⟩ rfl rfl rfl hl.1 (Nat.le_of_ble_eq_true rfl) dX5_partOf_3 (pmW _) (ws' := ([(b, .inl (G.2.1 0, 82, .inl (exI S)))] : va_W)) (pmW _) (fun H locs hs => ?_)
  refine lv_i2l hx hb dX5_partOf_6 rfl ?_
  refine lv_lmul hx hb dX5_partOf_7 ?_
  refine lv_aload_n hx hb dX5_partOf_8 rfl (lv_at hl 0 rfl) ?_
  obtain ⟨q2, hq2, hF⟩ := bd hF
  refine sx_S (As := [.ref (b)]) (rest := [.long (x2 * q1.toInt64)]) (st1 := [.int q2, .long (x2 * q1.toInt64)]) (c_X5_weightsOf G l (b) S q2 hq2) v_X5_258 ⟨(Nat.le_of_ble_eq_true rfl), (Nat.le_of_ble_eq_true rfl)⟩ hx hb hml hown hts hE hA hs ⟨Nat.le_refl 0, Nat.le_refl 0⟩ rfl rfl rfl hl.1 (Nat.le_of_ble_eq_true rfl) dX5_partOf_9 (pmW _) (ws' := ([(b, .inl (G.2.1 0, 82, .inl (exI S)))] : va_W)) (pmW _) (fun H locs hs => ?_)
  refine lv_i2l hx hb dX5_partOf_12 rfl ?_
  obtain ⟨v3, hv3, hF⟩ := bd hF
  refine sx_ldiv hx hb hv3 dX5_partOf_13 ?_
  exact sx_lret hx hb hr hlk hQ (Option.some.inj hF) rfl hs dX5_partOf_14
set_option maxHeartbeats 4000000 in
set_option maxRecDepth 100000 in
theorem c_X5_debtOf (G : GT) (l : Launch) (b : Nat) (S : (Fin 82 → Int32)) (x1 : Int32) (x2 : Int32) (r : Int64) (hF : F_X5_debtOf S x1 x2 = some r) : MT G l yX5_debtOf cX5_debtOf 6 (some .long) 4 89 [.ref (b), .int x1, .int x2] (([(b, .inl (G.2.1 0, 82, .inl (exI S)))] : va_W)) (some (.long r)) (([(b, .inl (G.2.1 0, 82, .inl (exI S)))] : va_W)) := by
  refine MT.of (by decide) (Nat.le_of_ble_eq_true rfl) ?_
  intro p e s m args below meth c A ls hx hb hr hml hown hts hlk hE hA hs hl Q hQ
  have hl : lv_has ls 6 [(0, .ref (b)), (1, .int x1), (2, .int x2)] := hl
  have hJ43_n : ∀ (x1 : Int32) (x3 : Int64) (H : Heap) (locs : List Loc) (ls : Array Slot), J_X5_debtOf_43 S x1 x3 = some r → SI G A s H locs (([(b, .inl (G.2.1 0, 82, .inl (exI S)))] : va_W)) → lv_has ls 6 [(0, .ref (b)), (1, .int x1), (3, .long x3)] → W p l e (RM 4 89) s m args below meth c H locs 0 0 Q (F0 m 43 ls []) := by
    intro x1 x3 H locs ls hF hs hl
    unfold J_X5_debtOf_43 at hF
    refine lv_aload_n hx hb dX5_debtOf_43 rfl (lv_at hl 0 rfl) ?_
    refine lv_iload_n hx hb dX5_debtOf_44 rfl (lv_at hl 1 rfl) ?_
    refine lv_lload_n hx hb dX5_debtOf_45 rfl (lv_at hl 2 rfl) ?_
    obtain ⟨q6, hq6, hF⟩ := bd hF
    refine sx_S (As := [.ref (b), .int x1, .long x3]) (rest := []) (st1 := [.long q6]) (c_X5_partOf G l (b) S x1 x3 q6 hq6) v_X5_262 ⟨(Nat.le_of_ble_eq_true rfl), (Nat.le_of_ble_eq_true rfl)⟩ hx hb hml hown hts hE hA hs ⟨Nat.le_refl 0, Nat.le_refl 0⟩ rfl rfl rfl hl.1 (Nat.le_of_ble_eq_true rfl) dX5_debtOf_46 (pmW _) (ws' := ([(b, .inl (G.2.1 0, 82, .inl (exI S)))] : va_W)) (pmW _) (fun H locs hs => ?_)
    exact sx_lret hx hb hr hlk hQ (Option.some.inj hF) rfl hs dX5_debtOf_49
  unfold F_X5_debtOf at hF
  refine lv_aload_n hx hb dX5_debtOf_0 rfl (lv_at hl 0 rfl) ?_
  refine lv_iload_n hx hb dX5_debtOf_1 rfl (lv_at hl 2 rfl) ?_
  obtain ⟨q1, hq1, hF⟩ := bd hF
  refine sx_S (As := [.ref (b), .int x2]) (rest := []) (st1 := [.int q1]) (c_X5_roundOf G l (b) S x2 q1 hq1) v_X5_252 ⟨(Nat.le_of_ble_eq_true rfl), (Nat.le_of_ble_eq_true rfl)⟩ hx hb hml hown hts hE hA hs ⟨Nat.le_refl 0, Nat.le_refl 0⟩ rfl rfl rfl hl.1 (Nat.le_of_ble_eq_true rfl) dX5_debtOf_2 (pmW _) (ws' := ([(b, .inl (G.2.1 0, 82, .inl (exI S)))] : va_W)) (pmW _) (fun H locs hs => ?_)
  refine lv_if_lt (tgt := 18) hx hb dX5_debtOf_5 (by decide) (fun hc => ?_) (fun hc => ?_)
  · have hF := (if_pos hc).symm.trans hF
    refine lv_lconst (v := (0 : Int64)) hx hb dX5_debtOf_18 (by decide) ?_
    exact sx_lret hx hb hr hlk hQ (Option.some.inj hF) rfl hs dX5_debtOf_19
  · have hF := (if_neg hc).symm.trans hF
    refine lv_aload_n hx hb dX5_debtOf_8 rfl (lv_at hl 0 rfl) ?_
    refine lv_iload_n hx hb dX5_debtOf_9 rfl (lv_at hl 2 rfl) ?_
    refine lv_iconst (v := (1 : Int32)) hx hb dX5_debtOf_10 (by decide) ?_
    obtain ⟨q2, hq2, hF⟩ := bd hF
    refine sx_S (As := [.ref (b), .int x2, .int (1 : Int32)]) (rest := []) (st1 := [.int q2]) (c_X5_ofClaim G l (b) S x2 (1 : Int32) q2 hq2) v_X5_255 ⟨(Nat.le_of_ble_eq_true rfl), (Nat.le_of_ble_eq_true rfl)⟩ hx hb hml hown hts hE hA hs ⟨Nat.le_refl 0, Nat.le_refl 0⟩ rfl rfl rfl hl.1 (Nat.le_of_ble_eq_true rfl) dX5_debtOf_11 (pmW _) (ws' := ([(b, .inl (G.2.1 0, 82, .inl (exI S)))] : va_W)) (pmW _) (fun H locs hs => ?_)
    refine lv_iload_n hx hb dX5_debtOf_14 rfl (lv_at hl 1 rfl) ?_
    refine lv_icmp_ne (tgt := 20) hx hb dX5_debtOf_15 (by decide) (fun hc => ?_) (fun hc => ?_)
    · have hF := (if_neg hc).symm.trans hF
      refine lv_aload_n hx hb dX5_debtOf_20 rfl (lv_at hl 0 rfl) ?_
      refine lv_iload_n hx hb dX5_debtOf_21 rfl (lv_at hl 2 rfl) ?_
      refine lv_iconst (v := (2 : Int32)) hx hb dX5_debtOf_22 (by decide) ?_
      obtain ⟨q3, hq3, hF⟩ := bd hF
      refine sx_S (As := [.ref (b), .int x2, .int (2 : Int32)]) (rest := []) (st1 := [.int q3]) (c_X5_ofClaim G l (b) S x2 (2 : Int32) q3 hq3) v_X5_255 ⟨(Nat.le_of_ble_eq_true rfl), (Nat.le_of_ble_eq_true rfl)⟩ hx hb hml hown hts hE hA hs ⟨Nat.le_refl 0, Nat.le_refl 0⟩ rfl rfl rfl hl.1 (Nat.le_of_ble_eq_true rfl) dX5_debtOf_23 (pmW _) (ws' := ([(b, .inl (G.2.1 0, 82, .inl (exI S)))] : va_W)) (pmW _) (fun H locs hs => ?_)
      refine lv_i2l hx hb dX5_debtOf_26 rfl ?_
      obtain ⟨v4, ev4, hF⟩ := nm_some hF
      refine sx_topl ev4 ?_
      refine lv_lstore_n (lv' := [(3, .long v4), (0, .ref (b)), (1, .int x1), (2, .int x2)]) hx hb dX5_debtOf_27 rfl hl (by decide) rfl (fun ls hl => ?_)
      refine lv_aload_n hx hb dX5_debtOf_28 rfl (lv_at hl 1 rfl) ?_
      refine lv_iload_n hx hb dX5_debtOf_29 rfl (lv_at hl 3 rfl) ?_
      refine lv_iconst (v := (0 : Int32)) hx hb dX5_debtOf_30 (by decide) ?_
      obtain ⟨q5, hq5, hF⟩ := bd hF
      refine sx_S (As := [.ref (b), .int x2, .int (0 : Int32)]) (rest := []) (st1 := [.int q5]) (c_X5_ofClaim G l (b) S x2 (0 : Int32) q5 hq5) v_X5_255 ⟨(Nat.le_of_ble_eq_true rfl), (Nat.le_of_ble_eq_true rfl)⟩ hx hb hml hown hts hE hA hs ⟨Nat.le_refl 0, Nat.le_refl 0⟩ rfl rfl rfl hl.1 (Nat.le_of_ble_eq_true rfl) dX5_debtOf_31 (pmW _) (ws' := ([(b, .inl (G.2.1 0, 82, .inl (exI S)))] : va_W)) (pmW _) (fun H locs hs => ?_)
      refine lv_if_ne (tgt := 43) hx hb dX5_debtOf_34 (by decide) (fun hc => ?_) (fun hc => ?_)
      · have hF := (if_neg hc).symm.trans hF
        exact hJ43_n x1 v4 _ _ _ hF hs (lv_sub hl [1, 2, 0] rfl)
      · have hF := (if_pos hc).symm.trans hF
        refine lv_aload_n hx hb dX5_debtOf_37 rfl (lv_at hl 1 rfl) ?_
        refine lv_iconst (v := (3 : Int32)) hx hb dX5_debtOf_38 (by decide) ?_
        obtain ⟨v7, hv7, hF⟩ := bd hF
        refine sx_iald hx hb hE hs 0 (f := S) rfl hv7 dX5_debtOf_39 ?_
        refine lv_if_ne (tgt := 50) hx hb dX5_debtOf_40 (by decide) (fun hc => ?_) (fun hc => ?_)
        · have hF := (if_neg hc).symm.trans hF
          refine lv_aload_n hx hb dX5_debtOf_50 rfl (lv_at hl 1 rfl) ?_
          obtain ⟨q8, hq8, hF⟩ := bd hF
          refine sx_S (As := [.ref (b)]) (rest := []) (st1 := [.int q8]) (c_X5_weightsOf G l (b) S q8 hq8) v_X5_258 ⟨(Nat.le_of_ble_eq_true rfl), (Nat.le_of_ble_eq_true rfl)⟩ hx hb hml hown hts hE hA hs ⟨Nat.le_refl 0, Nat.le_refl 0⟩ rfl rfl rfl hl.1 (Nat.le_of_ble_eq_true rfl) dX5_debtOf_51 (pmW _) (ws' := ([(b, .inl (G.2.1 0, 82, .inl (exI S)))] : va_W)) (pmW _) (fun H locs hs => ?_)
          refine lv_aload_n hx hb dX5_debtOf_54 rfl (lv_at hl 1 rfl) ?_
          refine lv_aload_n hx hb dX5_debtOf_55 rfl (lv_at hl 1 rfl) ?_
          refine lv_iload_n hx hb dX5_debtOf_56 rfl (lv_at hl 3 rfl) ?_
          refine lv_iconst (v := (1 : Int32)) hx hb dX5_debtOf_57 (by decide) ?_
          obtain ⟨q9, hq9, hF⟩ := bd hF
          refine sx_S (As := [.ref (b), .int x2, .int (1 : Int32)]) (rest := [.ref (b), .int q8]) (st1 := [.int q9, .ref (b), .int q8]) (c_X5_ofClaim G l (b) S x2 (1 : Int32) q9 hq9) v_X5_255 ⟨(Nat.le_of_ble_eq_true rfl), (Nat.le_of_ble_eq_true rfl)⟩ hx hb hml hown hts hE hA hs ⟨Nat.le_refl 0, Nat.le_refl 0⟩ rfl rfl rfl hl.1 (Nat.le_of_ble_eq_true rfl) dX5_debtOf_58 (pmW _) (ws' := ([(b, .inl (G.2.1 0, 82, .inl (exI S)))] : va_W)) (pmW _) (fun H locs hs => ?_)
          obtain ⟨q10, hq10, hF⟩ := bd hF
          refine sx_S (As := [.ref (b), .int q9]) (rest := [.int q8]) (st1 := [.int q10, .int q8]) (c_X5_weightOf G l (b) S q9 q10 hq10) v_X5_239 ⟨(Nat.le_of_ble_eq_true rfl), (Nat.le_of_ble_eq_true rfl)⟩ hx hb hml hown hts hE hA hs ⟨Nat.le_refl 0, Nat.le_refl 0⟩ rfl rfl rfl hl.1 (Nat.le_of_ble_eq_true rfl) dX5_debtOf_61 (pmW _) (ws' := ([(b, .inl (G.2.1 0, 82, .inl (exI S)))] : va_W)) (pmW _) (fun H locs hs => ?_)
          refine lv_isub hx hb dX5_debtOf_64 ?_
          obtain ⟨v11, ev11, hF⟩ := nm_some hF
          refine sx_topi ev11 ?_
          refine lv_istore (lv' := [(5, .int v11), (3, .long v4), (0, .ref (b)), (1, .int x1), (2, .int x2)]) hx hb dX5_debtOf_65 hl (by decide) rfl (fun ls hl => ?_)
          refine lv_iload hx hb dX5_debtOf_67 (lv_at hl 0 rfl) ?_
          refine lv_if_ne (tgt := 76) hx hb dX5_debtOf_69 (by decide) (fun hc => ?_) (fun hc => ?_)
          · have hF := (if_neg hc).symm.trans hF
            refine lv_lload_n hx hb dX5_debtOf_76 rfl (lv_at hl 1 rfl) ?_
            refine lv_aload_n hx hb dX5_debtOf_77 rfl (lv_at hl 2 rfl) ?_
            refine lv_iload_n hx hb dX5_debtOf_78 rfl (lv_at hl 3 rfl) ?_
            obtain ⟨q12, hq12, hF⟩ := bd hF
            refine sx_S (As := [.ref (b), .int x1]) (rest := [.long v4]) (st1 := [.int q12, .long v4]) (c_X5_weightOf G l (b) S x1 q12 hq12) v_X5_239 ⟨(Nat.le_of_ble_eq_true rfl), (Nat.le_of_ble_eq_true rfl)⟩ hx hb hml hown hts hE hA hs ⟨Nat.le_refl 0, Nat.le_refl 0⟩ rfl rfl rfl hl.1 (Nat.le_of_ble_eq_true rfl) dX5_debtOf_79 (pmW _) (ws' := ([(b, .inl (G.2.1 0, 82, .inl (exI S)))] : va_W)) (pmW _) (fun H locs hs => ?_)
            refine lv_i2l hx hb dX5_debtOf_82 rfl ?_
            refine lv_lmul hx hb dX5_debtOf_83 ?_
            refine lv_iload hx hb dX5_debtOf_84 (lv_at hl 0 rfl) ?_
            refine lv_i2l hx hb dX5_debtOf_86 rfl ?_
            obtain ⟨v13, hv13, hF⟩ := bd hF
            refine sx_ldiv hx hb hv13 dX5_debtOf_87 ?_
            exact sx_lret hx hb hr hlk hQ (Option.some.inj hF) rfl hs dX5_debtOf_88
          · have hF := (if_pos hc).symm.trans hF
            refine lv_lconst (v := (0 : Int64)) hx hb dX5_debtOf_72 (by decide) ?_
            refine lv_goto (tgt := 88) hx hb dX5_debtOf_73 (by decide) ?_
            exact sx_lret hx hb hr hlk hQ (Option.some.inj hF) rfl hs dX5_debtOf_88
        · have hF := (if_pos hc).symm.trans hF
          exact hJ43_n x1 v4 _ _ _ hF hs (lv_sub hl [1, 2, 0] rfl)
    · have hF := (if_pos hc).symm.trans hF
      refine lv_lconst (v := (0 : Int64)) hx hb dX5_debtOf_18 (by decide) ?_
      exact sx_lret hx hb hr hlk hQ (Option.some.inj hF) rfl hs dX5_debtOf_19
set_option maxHeartbeats 4000000 in
set_option maxRecDepth 100000 in
theorem c_X5_backTo (G : GT) (l : Launch) (b : Nat) (S : (Fin 82 → Int32)) (x1 : Int32) (x2 : Int32) (r : Int64) (hF : F_X5_backTo S x1 x2 = some r) : MT G l yX5_backTo cX5_backTo 3 (some .long) 5 114 [.ref (b), .int x1, .int x2] (([(b, .inl (G.2.1 0, 82, .inl (exI S)))] : va_W)) (some (.long r)) (([(b, .inl (G.2.1 0, 82, .inl (exI S)))] : va_W)) := by
  refine MT.of (by decide) (Nat.le_of_ble_eq_true rfl) ?_
  intro p e s m args below meth c A ls hx hb hr hml hown hts hlk hE hA hs hl Q hQ
  have hl : lv_has ls 3 [(0, .ref (b)), (1, .int x1), (2, .int x2)] := hl
  unfold F_X5_backTo at hF
  refine lv_aload_n hx hb dX5_backTo_0 rfl (lv_at hl 0 rfl) ?_
  refine lv_iconst (v := (3 : Int32)) hx hb dX5_backTo_1 (by decide) ?_
  obtain ⟨v1, hv1, hF⟩ := bd hF
  refine sx_iald hx hb hE hs 0 (f := S) rfl hv1 dX5_backTo_2 ?_
  refine lv_if_eq (tgt := 33) hx hb dX5_backTo_3 (by decide) (fun hc => ?_) (fun hc => ?_)
  · have hF := (if_pos hc).symm.trans hF
    refine lv_lconst (v := (0 : Int64)) hx hb dX5_backTo_33 (by decide) ?_
    exact sx_lret hx hb hr hlk hQ (Option.some.inj hF) rfl hs dX5_backTo_34
  · have hF := (if_neg hc).symm.trans hF
    refine lv_aload_n hx hb dX5_backTo_6 rfl (lv_at hl 0 rfl) ?_
    refine lv_iload_n hx hb dX5_backTo_7 rfl (lv_at hl 1 rfl) ?_
    refine lv_iconst (v := (0 : Int32)) hx hb dX5_backTo_8 (by decide) ?_
    obtain ⟨q2, hq2, hF⟩ := bd hF
    refine sx_S (As := [.ref (b), .int x1, .int (0 : Int32)]) (rest := []) (st1 := [.int q2]) (c_X5_ofClaim G l (b) S x1 (0 : Int32) q2 hq2) v_X5_255 ⟨(Nat.le_of_ble_eq_true rfl), (Nat.le_of_ble_eq_true rfl)⟩ hx hb hml hown hts hE hA hs ⟨Nat.le_refl 0, Nat.le_refl 0⟩ rfl rfl rfl hl.1 (Nat.le_of_ble_eq_true rfl) dX5_backTo_9 (pmW _) (ws' := ([(b, .inl (G.2.1 0, 82, .inl (exI S)))] : va_W)) (pmW _) (fun H locs hs => ?_)
    refine lv_if_ne (tgt := 33) hx hb dX5_backTo_12 (by decide) (fun hc => ?_) (fun hc => ?_)
    · have hF := (if_neg hc).symm.trans hF
      refine lv_lconst (v := (0 : Int64)) hx hb dX5_backTo_33 (by decide) ?_
      exact sx_lret hx hb hr hlk hQ (Option.some.inj hF) rfl hs dX5_backTo_34
    · have hF := (if_pos hc).symm.trans hF
      refine lv_aload_n hx hb dX5_backTo_15 rfl (lv_at hl 0 rfl) ?_
      refine lv_iload_n hx hb dX5_backTo_16 rfl (lv_at hl 1 rfl) ?_
      obtain ⟨q3, hq3, hF⟩ := bd hF
      refine sx_S (As := [.ref (b), .int x1]) (rest := []) (st1 := [.int q3]) (c_X5_roundOf G l (b) S x1 q3 hq3) v_X5_252 ⟨(Nat.le_of_ble_eq_true rfl), (Nat.le_of_ble_eq_true rfl)⟩ hx hb hml hown hts hE hA hs ⟨Nat.le_refl 0, Nat.le_refl 0⟩ rfl rfl rfl hl.1 (Nat.le_of_ble_eq_true rfl) dX5_backTo_17 (pmW _) (ws' := ([(b, .inl (G.2.1 0, 82, .inl (exI S)))] : va_W)) (pmW _) (fun H locs hs => ?_)
      refine lv_if_lt (tgt := 33) hx hb dX5_backTo_20 (by decide) (fun hc => ?_) (fun hc => ?_)
      · have hF := (if_pos hc).symm.trans hF
        refine lv_lconst (v := (0 : Int64)) hx hb dX5_backTo_33 (by decide) ?_
        exact sx_lret hx hb hr hlk hQ (Option.some.inj hF) rfl hs dX5_backTo_34
      · have hF := (if_neg hc).symm.trans hF
        refine lv_aload_n hx hb dX5_backTo_23 rfl (lv_at hl 0 rfl) ?_
        refine lv_iload_n hx hb dX5_backTo_24 rfl (lv_at hl 1 rfl) ?_
        refine lv_iconst (v := (1 : Int32)) hx hb dX5_backTo_25 (by decide) ?_
        obtain ⟨q4, hq4, hF⟩ := bd hF
        refine sx_S (As := [.ref (b), .int x1, .int (1 : Int32)]) (rest := []) (st1 := [.int q4]) (c_X5_ofClaim G l (b) S x1 (1 : Int32) q4 hq4) v_X5_255 ⟨(Nat.le_of_ble_eq_true rfl), (Nat.le_of_ble_eq_true rfl)⟩ hx hb hml hown hts hE hA hs ⟨Nat.le_refl 0, Nat.le_refl 0⟩ rfl rfl rfl hl.1 (Nat.le_of_ble_eq_true rfl) dX5_backTo_26 (pmW _) (ws' := ([(b, .inl (G.2.1 0, 82, .inl (exI S)))] : va_W)) (pmW _) (fun H locs hs => ?_)
        refine lv_iload_n hx hb dX5_backTo_29 rfl (lv_at hl 2 rfl) ?_
        refine lv_icmp_ne (tgt := 35) hx hb dX5_backTo_30 (by decide) (fun hc => ?_) (fun hc => ?_)
        · have hF := (if_neg hc).symm.trans hF
          refine lv_aload_n hx hb dX5_backTo_35 rfl (lv_at hl 0 rfl) ?_
          refine lv_iload_n hx hb dX5_backTo_36 rfl (lv_at hl 2 rfl) ?_
          refine lv_iload_n hx hb dX5_backTo_37 rfl (lv_at hl 1 rfl) ?_
          obtain ⟨q5, hq5, hF⟩ := bd hF
          refine sx_S (As := [.ref (b), .int x2, .int x1]) (rest := []) (st1 := [.long q5]) (c_X5_debtOf G l (b) S x2 x1 q5 hq5) v_X5_266 ⟨(Nat.le_of_ble_eq_true rfl), (Nat.le_of_ble_eq_true rfl)⟩ hx hb hml hown hts hE hA hs ⟨Nat.le_refl 0, Nat.le_refl 0⟩ rfl rfl rfl hl.1 (Nat.le_of_ble_eq_true rfl) dX5_backTo_38 (pmW _) (ws' := ([(b, .inl (G.2.1 0, 82, .inl (exI S)))] : va_W)) (pmW _) (fun H locs hs => ?_)
          refine lv_aload_n hx hb dX5_backTo_41 rfl (lv_at hl 0 rfl) ?_
          refine lv_iload_n hx hb dX5_backTo_42 rfl (lv_at hl 2 rfl) ?_
          refine lv_aload_n hx hb dX5_backTo_43 rfl (lv_at hl 0 rfl) ?_
          refine lv_iload_n hx hb dX5_backTo_44 rfl (lv_at hl 1 rfl) ?_
          refine lv_iconst (v := (2 : Int32)) hx hb dX5_backTo_45 (by decide) ?_
          obtain ⟨q6, hq6, hF⟩ := bd hF
          refine sx_S (As := [.ref (b), .int x1, .int (2 : Int32)]) (rest := [.int x2, .ref (b), .long q5]) (st1 := [.int q6, .int x2, .ref (b), .long q5]) (c_X5_ofClaim G l (b) S x1 (2 : Int32) q6 hq6) v_X5_255 ⟨(Nat.le_of_ble_eq_true rfl), (Nat.le_of_ble_eq_true rfl)⟩ hx hb hml hown hts hE hA hs ⟨Nat.le_refl 0, Nat.le_refl 0⟩ rfl rfl rfl hl.1 (Nat.le_of_ble_eq_true rfl) dX5_backTo_46 (pmW _) (ws' := ([(b, .inl (G.2.1 0, 82, .inl (exI S)))] : va_W)) (pmW _) (fun H locs hs => ?_)
          refine lv_i2l hx hb dX5_backTo_49 rfl ?_
          obtain ⟨q7, hq7, hF⟩ := bd hF
          refine sx_S (As := [.ref (b), .int x2, .long q6.toInt64]) (rest := [.long q5]) (st1 := [.long q7, .long q5]) (c_X5_partOf G l (b) S x2 q6.toInt64 q7 hq7) v_X5_262 ⟨(Nat.le_of_ble_eq_true rfl), (Nat.le_of_ble_eq_true rfl)⟩ hx hb hml hown hts hE hA hs ⟨Nat.le_refl 0, Nat.le_refl 0⟩ rfl rfl rfl hl.1 (Nat.le_of_ble_eq_true rfl) dX5_backTo_50 (pmW _) (ws' := ([(b, .inl (G.2.1 0, 82, .inl (exI S)))] : va_W)) (pmW _) (fun H locs hs => ?_)
          refine lv_lsub hx hb dX5_backTo_53 ?_
          exact sx_lret hx hb hr hlk hQ (Option.some.inj hF) rfl hs dX5_backTo_54
        · have hF := (if_pos hc).symm.trans hF
          refine lv_lconst (v := (0 : Int64)) hx hb dX5_backTo_33 (by decide) ?_
          exact sx_lret hx hb hr hlk hQ (Option.some.inj hF) rfl hs dX5_backTo_34
set_option maxHeartbeats 4000000 in
set_option maxRecDepth 100000 in
theorem c_X5_backOf (G : GT) (l : Launch) (b : Nat) (S : (Fin 82 → Int32)) (x1 : Int32) (r : Int64) (hF : F_X5_backOf S x1 = some r) : MT G l yX5_backOf cX5_backOf 5 (some .long) 6 136 [.ref (b), .int x1] (([(b, .inl (G.2.1 0, 82, .inl (exI S)))] : va_W)) (some (.long r)) (([(b, .inl (G.2.1 0, 82, .inl (exI S)))] : va_W)) := by
  refine MT.of (by decide) (Nat.le_of_ble_eq_true rfl) ?_
  intro p e s m args below meth c A ls hx hb hr hml hown hts hlk hE hA hs hl Q hQ
  have hl : lv_has ls 5 [(0, .ref (b)), (1, .int x1)] := hl
  have hL5 : ∀ (x1 : Int32) (k : Int64 → Option (Int64)) (hk : ∀ (x2 : Int64) (H : Heap) (locs : List Loc) (ls : Array Slot), k x2 = some r → SI G A s H locs (([(b, .inl (G.2.1 0, 82, .inl (exI S)))] : va_W)) → lv_has ls 5 [(2, .long x2)] → W p l e (RM 6 136) s m args below meth c H locs 0 0 Q (F0 m 29 ls [])) (fu : Nat) (x2 : Int64) (x4 : Int32) (H : Heap) (locs : List Loc) (ls : Array Slot), lo2 (B_X5_backOf_5 S x1 k) fu x2 x4 = some r → SI G A s H locs (([(b, .inl (G.2.1 0, 82, .inl (exI S)))] : va_W)) → lv_has ls 5 [(0, .ref (b)), (1, .int x1), (2, .long x2), (4, .int x4)] → W p l e (RM 6 136) s m args below meth c H locs 0 0 Q (F0 m 5 ls []) := by
    intro x1 k hk fu
    induction fu with
    | zero =>
      intro x2 x4 H locs ls hF hs hl
      exact nomatch (show (none : Option (Int64)) = some r from hF)
    | succ fu hrec =>
      intro x2 x4 H locs ls hF hs hl
      have hF : (B_X5_backOf_5 S x1 k) (lo2 (B_X5_backOf_5 S x1 k) fu) x2 x4 = some r := hF
      unfold B_X5_backOf_5 at hF
      refine lv_iload hx hb dX5_backOf_5 (lv_at hl 3 rfl) ?_
      refine lv_aload_n hx hb dX5_backOf_7 rfl (lv_at hl 0 rfl) ?_
      refine lv_iconst (v := (0 : Int32)) hx hb dX5_backOf_8 (by decide) ?_
      obtain ⟨v1, hv1, hF⟩ := bd hF
      refine sx_iald hx hb hE hs 0 (f := S) rfl hv1 dX5_backOf_9 ?_
      refine lv_icmp_ge (tgt := 29) hx hb dX5_backOf_10 (by decide) (fun hc => ?_) (fun hc => ?_)
      · have hF := (if_pos hc).symm.trans hF
        exact hk x2 _ _ _ hF hs (lv_sub hl [2] rfl)
      · have hF := (if_neg hc).symm.trans hF
        refine lv_lload_n hx hb dX5_backOf_13 rfl (lv_at hl 2 rfl) ?_
        refine lv_aload_n hx hb dX5_backOf_14 rfl (lv_at hl 0 rfl) ?_
        refine lv_iload_n hx hb dX5_backOf_15 rfl (lv_at hl 1 rfl) ?_
        refine lv_iload hx hb dX5_backOf_16 (lv_at hl 3 rfl) ?_
        obtain ⟨q2, hq2, hF⟩ := bd hF
        refine sx_S (As := [.ref (b), .int x1, .int x4]) (rest := [.long x2]) (st1 := [.long q2, .long x2]) (c_X5_backTo G l (b) S x1 x4 q2 hq2) v_X5_270 ⟨(Nat.le_of_ble_eq_true rfl), (Nat.le_of_ble_eq_true rfl)⟩ hx hb hml hown hts hE hA hs ⟨Nat.le_refl 0, Nat.le_refl 0⟩ rfl rfl rfl hl.1 (Nat.le_of_ble_eq_true rfl) dX5_backOf_18 (pmW _) (ws' := ([(b, .inl (G.2.1 0, 82, .inl (exI S)))] : va_W)) (pmW _) (fun H locs hs => ?_)
        refine lv_ladd hx hb dX5_backOf_21 ?_
        obtain ⟨v3, ev3, hF⟩ := nm_some hF
        refine sx_topl ev3 ?_
        refine lv_lstore_n (lv' := [(2, .long v3), (0, .ref (b)), (1, .int x1), (4, .int x4)]) hx hb dX5_backOf_22 rfl hl (by decide) rfl (fun ls hl => ?_)
        obtain ⟨v4, ev4, hF⟩ := nm_some hF
        refine lv_iinc (v := v4) (lv' := [(4, .int v4), (2, .long v3), (0, .ref (b)), (1, .int x1)]) hx hb dX5_backOf_23 hl (k := 3) rfl (by rw [ev4]; rfl) (by decide) rfl (fun ls hl => ?_)
        refine lv_goto (tgt := 5) hx hb dX5_backOf_26 (by decide) ?_
        exact hrec v3 v4 _ _ _ hF hs (lv_sub hl [2, 3, 1, 0] rfl)
  unfold F_X5_backOf at hF
  refine lv_lconst (v := (0 : Int64)) hx hb dX5_backOf_0 (by decide) ?_
  refine lv_lstore_n (lv' := [(2, .long (0 : Int64)), (0, .ref (b)), (1, .int x1)]) hx hb dX5_backOf_1 rfl hl (by decide) rfl (fun ls hl => ?_)
  refine lv_iconst (v := (0 : Int32)) hx hb dX5_backOf_2 (by decide) ?_
  refine lv_istore (lv' := [(4, .int (0 : Int32)), (2, .long (0 : Int64)), (0, .ref (b)), (1, .int x1)]) hx hb dX5_backOf_3 hl (by decide) rfl (fun ls hl => ?_)
  refine hL5 x1 _ (fun z5 H locs ls hF hs hl => ?_) FU (0 : Int64) (0 : Int32) _ _ _ hF hs (lv_sub hl [2, 3, 1, 0] rfl)
  refine lv_lload_n hx hb dX5_backOf_29 rfl (lv_at hl 0 rfl) ?_
  exact sx_lret hx hb hr hlk hQ (Option.some.inj hF) rfl hs dX5_backOf_30
set_option maxHeartbeats 4000000 in
set_option maxRecDepth 100000 in
theorem c_X5_hullOwed (G : GT) (l : Launch) (b : Nat) (S : (Fin 82 → Int32)) (x1 : Int32) (x2 : Int32) (r : Int64) (hF : F_X5_hullOwed S x1 x2 = some r) : MT G l yX5_hullOwed cX5_hullOwed 3 (some .long) 4 89 [.ref (b), .int x1, .int x2] (([(b, .inl (G.2.1 0, 82, .inl (exI S)))] : va_W)) (some (.long r)) (([(b, .inl (G.2.1 0, 82, .inl (exI S)))] : va_W)) := by
  refine MT.of (by decide) (Nat.le_of_ble_eq_true rfl) ?_
  intro p e s m args below meth c A ls hx hb hr hml hown hts hlk hE hA hs hl Q hQ
  have hl : lv_has ls 3 [(0, .ref (b)), (1, .int x1), (2, .int x2)] := hl
  unfold F_X5_hullOwed at hF
  refine lv_aload_n hx hb dX5_hullOwed_0 rfl (lv_at hl 0 rfl) ?_
  refine lv_iload_n hx hb dX5_hullOwed_1 rfl (lv_at hl 1 rfl) ?_
  refine lv_aload_n hx hb dX5_hullOwed_2 rfl (lv_at hl 0 rfl) ?_
  refine lv_iload_n hx hb dX5_hullOwed_3 rfl (lv_at hl 2 rfl) ?_
  refine lv_iconst (v := (2 : Int32)) hx hb dX5_hullOwed_4 (by decide) ?_
  obtain ⟨q1, hq1, hF⟩ := bd hF
  refine sx_S (As := [.ref (b), .int x2, .int (2 : Int32)]) (rest := [.int x1, .ref (b)]) (st1 := [.int q1, .int x1, .ref (b)]) (c_X5_ofShip G l (b) S x2 (2 : Int32) q1 hq1) v_X5_243 ⟨(Nat.le_of_ble_eq_true rfl), (Nat.le_of_ble_eq_true rfl)⟩ hx hb hml hown hts hE hA hs ⟨Nat.le_refl 0, Nat.le_refl 0⟩ rfl rfl rfl hl.1 (Nat.le_of_ble_eq_true rfl) dX5_hullOwed_5 (pmW _) (ws' := ([(b, .inl (G.2.1 0, 82, .inl (exI S)))] : va_W)) (pmW _) (fun H locs hs => ?_)
  refine lv_i2l hx hb dX5_hullOwed_8 rfl ?_
  obtain ⟨q2, hq2, hF⟩ := bd hF
  refine sx_S (As := [.ref (b), .int x1, .long q1.toInt64]) (rest := []) (st1 := [.long q2]) (c_X5_partOf G l (b) S x1 q1.toInt64 q2 hq2) v_X5_262 ⟨(Nat.le_of_ble_eq_true rfl), (Nat.le_of_ble_eq_true rfl)⟩ hx hb hml hown hts hE hA hs ⟨Nat.le_refl 0, Nat.le_refl 0⟩ rfl rfl rfl hl.1 (Nat.le_of_ble_eq_true rfl) dX5_hullOwed_9 (pmW _) (ws' := ([(b, .inl (G.2.1 0, 82, .inl (exI S)))] : va_W)) (pmW _) (fun H locs hs => ?_)
  exact sx_lret hx hb hr hlk hQ (Option.some.inj hF) rfl hs dX5_hullOwed_12
set_option maxHeartbeats 4000000 in
set_option maxRecDepth 100000 in
theorem c_X5_backOwed (G : GT) (l : Launch) (b : Nat) (S : (Fin 82 → Int32)) (x1 : Int32) (x2 : Int32) (r : Int64) (hF : F_X5_backOwed S x1 x2 = some r) : MT G l yX5_backOwed cX5_backOwed 6 (some .long) 6 136 [.ref (b), .int x1, .int x2] (([(b, .inl (G.2.1 0, 82, .inl (exI S)))] : va_W)) (some (.long r)) (([(b, .inl (G.2.1 0, 82, .inl (exI S)))] : va_W)) := by
  refine MT.of (by decide) (Nat.le_of_ble_eq_true rfl) ?_
  intro p e s m args below meth c A ls hx hb hr hml hown hts hlk hE hA hs hl Q hQ
  have hl : lv_has ls 6 [(0, .ref (b)), (1, .int x1), (2, .int x2)] := hl
  have hJ36_5 : ∀ (x1 : Int32) (x2 : Int32) (k : Int64 → Option (Int64)) (rc : Int64 → Int32 → Option (Int64)) (hk : ∀ (x3 : Int64) (H : Heap) (locs : List Loc) (ls : Array Slot), k x3 = some r → SI G A s H locs (([(b, .inl (G.2.1 0, 82, .inl (exI S)))] : va_W)) → lv_has ls 6 [(3, .long x3)] → W p l e (RM 6 136) s m args below meth c H locs 0 0 Q (F0 m 44 ls [])) (hrec : ∀ (x3 : Int64) (x5 : Int32) (H : Heap) (locs : List Loc) (ls : Array Slot), rc x3 x5 = some r → SI G A s H locs (([(b, .inl (G.2.1 0, 82, .inl (exI S)))] : va_W)) → lv_has ls 6 [(0, .ref (b)), (1, .int x1), (2, .int x2), (3, .long x3), (5, .int x5)] → W p l e (RM 6 136) s m args below meth c H locs 0 0 Q (F0 m 5 ls [])) (x5 : Int32) (y0 : Int64) (y1 : Int64) (H : Heap) (locs : List Loc) (ls : Array Slot), J_X5_backOwed_36 k rc S x1 x2 x5 y0 y1 = some r → SI G A s H locs (([(b, .inl (G.2.1 0, 82, .inl (exI S)))] : va_W)) → lv_has ls 6 [(0, .ref (b)), (1, .int x1), (2, .int x2), (5, .int x5)] → W p l e (RM 6 136) s m args below meth c H locs 0 0 Q (F0 m 36 ls [.long y0, .long y1]) := by
    intro x1 x2 k rc hk hrec x5 y0 y1 H locs ls hF hs hl
    unfold J_X5_backOwed_36 at hF
    refine lv_ladd hx hb dX5_backOwed_36 ?_
    obtain ⟨v3, ev3, hF⟩ := nm_some hF
    refine sx_topl ev3 ?_
    refine lv_lstore_n (lv' := [(3, .long v3), (0, .ref (b)), (1, .int x1), (2, .int x2), (5, .int x5)]) hx hb dX5_backOwed_37 rfl hl (by decide) rfl (fun ls hl => ?_)
    obtain ⟨v4, ev4, hF⟩ := nm_some hF
    refine lv_iinc (v := v4) (lv' := [(5, .int v4), (3, .long v3), (0, .ref (b)), (1, .int x1), (2, .int x2)]) hx hb dX5_backOwed_38 hl (k := 4) rfl (by rw [ev4]; rfl) (by decide) rfl (fun ls hl => ?_)
    refine lv_goto (tgt := 5) hx hb dX5_backOwed_41 (by decide) ?_
    exact hrec v3 v4 _ _ _ hF hs (lv_sub hl [2, 3, 4, 1, 0] rfl)
  have hL5 : ∀ (x1 : Int32) (x2 : Int32) (k : Int64 → Option (Int64)) (hk : ∀ (x3 : Int64) (H : Heap) (locs : List Loc) (ls : Array Slot), k x3 = some r → SI G A s H locs (([(b, .inl (G.2.1 0, 82, .inl (exI S)))] : va_W)) → lv_has ls 6 [(3, .long x3)] → W p l e (RM 6 136) s m args below meth c H locs 0 0 Q (F0 m 44 ls [])) (fu : Nat) (x3 : Int64) (x5 : Int32) (H : Heap) (locs : List Loc) (ls : Array Slot), lo2 (B_X5_backOwed_5 S x1 x2 k) fu x3 x5 = some r → SI G A s H locs (([(b, .inl (G.2.1 0, 82, .inl (exI S)))] : va_W)) → lv_has ls 6 [(0, .ref (b)), (1, .int x1), (2, .int x2), (3, .long x3), (5, .int x5)] → W p l e (RM 6 136) s m args below meth c H locs 0 0 Q (F0 m 5 ls []) := by
    intro x1 x2 k hk fu
    induction fu with
    | zero =>
      intro x3 x5 H locs ls hF hs hl
      exact nomatch (show (none : Option (Int64)) = some r from hF)
    | succ fu hrec =>
      intro x3 x5 H locs ls hF hs hl
      have hF : (B_X5_backOwed_5 S x1 x2 k) (lo2 (B_X5_backOwed_5 S x1 x2 k) fu) x3 x5 = some r := hF
      unfold B_X5_backOwed_5 at hF
      refine lv_iload hx hb dX5_backOwed_5 (lv_at hl 4 rfl) ?_
      refine lv_aload_n hx hb dX5_backOwed_7 rfl (lv_at hl 0 rfl) ?_
      refine lv_iconst (v := (1 : Int32)) hx hb dX5_backOwed_8 (by decide) ?_
      obtain ⟨v1, hv1, hF⟩ := bd hF
      refine sx_iald hx hb hE hs 0 (f := S) rfl hv1 dX5_backOwed_9 ?_
      refine lv_icmp_ge (tgt := 44) hx hb dX5_backOwed_10 (by decide) (fun hc => ?_) (fun hc => ?_)
      · have hF := (if_pos hc).symm.trans hF
        exact hk x3 _ _ _ hF hs (lv_sub hl [3] rfl)
      · have hF := (if_neg hc).symm.trans hF
        refine lv_lload_n hx hb dX5_backOwed_13 rfl (lv_at hl 3 rfl) ?_
        refine lv_aload_n hx hb dX5_backOwed_14 rfl (lv_at hl 0 rfl) ?_
        refine lv_iload hx hb dX5_backOwed_15 (lv_at hl 4 rfl) ?_
        refine lv_iconst (v := (1 : Int32)) hx hb dX5_backOwed_17 (by decide) ?_
        obtain ⟨q2, hq2, hF⟩ := bd hF
        refine sx_S (As := [.ref (b), .int x5, .int (1 : Int32)]) (rest := [.long x3]) (st1 := [.int q2, .long x3]) (c_X5_ofClaim G l (b) S x5 (1 : Int32) q2 hq2) v_X5_255 ⟨(Nat.le_of_ble_eq_true rfl), (Nat.le_of_ble_eq_true rfl)⟩ hx hb hml hown hts hE hA hs ⟨Nat.le_refl 0, Nat.le_refl 0⟩ rfl rfl rfl hl.1 (Nat.le_of_ble_eq_true rfl) dX5_backOwed_18 (pmW _) (ws' := ([(b, .inl (G.2.1 0, 82, .inl (exI S)))] : va_W)) (pmW _) (fun H locs hs => ?_)
        refine lv_iload_n hx hb dX5_backOwed_21 rfl (lv_at hl 1 rfl) ?_
        refine lv_icmp_ne (tgt := 35) hx hb dX5_backOwed_22 (by decide) (fun hc => ?_) (fun hc => ?_)
        · have hF := (if_neg hc).symm.trans hF
          refine lv_lconst (v := (0 : Int64)) hx hb dX5_backOwed_35 (by decide) ?_
          exact hJ36_5 x1 x2 _ _ hk hrec x5 (0 : Int64) x3 _ _ _ hF hs (lv_sub hl [0, 1, 2, 4] rfl)
        · have hF := (if_pos hc).symm.trans hF
          refine lv_aload_n hx hb dX5_backOwed_25 rfl (lv_at hl 0 rfl) ?_
          refine lv_iload hx hb dX5_backOwed_26 (lv_at hl 4 rfl) ?_
          refine lv_iload_n hx hb dX5_backOwed_28 rfl (lv_at hl 2 rfl) ?_
          obtain ⟨q5, hq5, hF⟩ := bd hF
          refine sx_S (As := [.ref (b), .int x5, .int x2]) (rest := [.long x3]) (st1 := [.long q5, .long x3]) (c_X5_backTo G l (b) S x5 x2 q5 hq5) v_X5_270 ⟨(Nat.le_of_ble_eq_true rfl), (Nat.le_of_ble_eq_true rfl)⟩ hx hb hml hown hts hE hA hs ⟨Nat.le_refl 0, Nat.le_refl 0⟩ rfl rfl rfl hl.1 (Nat.le_of_ble_eq_true rfl) dX5_backOwed_29 (pmW _) (ws' := ([(b, .inl (G.2.1 0, 82, .inl (exI S)))] : va_W)) (pmW _) (fun H locs hs => ?_)
          refine lv_goto (tgt := 36) hx hb dX5_backOwed_32 (by decide) ?_
          exact hJ36_5 x1 x2 _ _ hk hrec x5 q5 x3 _ _ _ hF hs (lv_sub hl [0, 1, 2, 4] rfl)
  unfold F_X5_backOwed at hF
  refine lv_lconst (v := (0 : Int64)) hx hb dX5_backOwed_0 (by decide) ?_
  refine lv_lstore_n (lv' := [(3, .long (0 : Int64)), (0, .ref (b)), (1, .int x1), (2, .int x2)]) hx hb dX5_backOwed_1 rfl hl (by decide) rfl (fun ls hl => ?_)
  refine lv_iconst (v := (0 : Int32)) hx hb dX5_backOwed_2 (by decide) ?_
  refine lv_istore (lv' := [(5, .int (0 : Int32)), (3, .long (0 : Int64)), (0, .ref (b)), (1, .int x1), (2, .int x2)]) hx hb dX5_backOwed_3 hl (by decide) rfl (fun ls hl => ?_)
  refine hL5 x1 x2 _ (fun z6 H locs ls hF hs hl => ?_) FU (0 : Int64) (0 : Int32) _ _ _ hF hs (lv_sub hl [2, 3, 4, 1, 0] rfl)
  refine lv_lload_n hx hb dX5_backOwed_44 rfl (lv_at hl 0 rfl) ?_
  exact sx_lret hx hb hr hlk hQ (Option.some.inj hF) rfl hs dX5_backOwed_45
set_option maxHeartbeats 4000000 in
set_option maxRecDepth 100000 in
theorem c_X5_bothOwed (G : GT) (l : Launch) (b : Nat) (S : (Fin 82 → Int32)) (x1 : Int32) (x2 : Int32) (r : Int64) (hF : F_X5_bothOwed S x1 x2 = some r) : MT G l yX5_bothOwed cX5_bothOwed 3 (some .long) 7 161 [.ref (b), .int x1, .int x2] (([(b, .inl (G.2.1 0, 82, .inl (exI S)))] : va_W)) (some (.long r)) (([(b, .inl (G.2.1 0, 82, .inl (exI S)))] : va_W)) := by
  refine MT.of (by decide) (Nat.le_of_ble_eq_true rfl) ?_
  intro p e s m args below meth c A ls hx hb hr hml hown hts hlk hE hA hs hl Q hQ
  have hl : lv_has ls 3 [(0, .ref (b)), (1, .int x1), (2, .int x2)] := hl
  unfold F_X5_bothOwed at hF
  refine lv_aload_n hx hb dX5_bothOwed_0 rfl (lv_at hl 0 rfl) ?_
  refine lv_iload_n hx hb dX5_bothOwed_1 rfl (lv_at hl 1 rfl) ?_
  refine lv_iload_n hx hb dX5_bothOwed_2 rfl (lv_at hl 2 rfl) ?_
  obtain ⟨q1, hq1, hF⟩ := bd hF
  refine sx_S (As := [.ref (b), .int x1, .int x2]) (rest := []) (st1 := [.long q1]) (c_X5_hullOwed G l (b) S x1 x2 q1 hq1) v_X5_273 ⟨(Nat.le_of_ble_eq_true rfl), (Nat.le_of_ble_eq_true rfl)⟩ hx hb hml hown hts hE hA hs ⟨Nat.le_refl 0, Nat.le_refl 0⟩ rfl rfl rfl hl.1 (Nat.le_of_ble_eq_true rfl) dX5_bothOwed_3 (pmW _) (ws' := ([(b, .inl (G.2.1 0, 82, .inl (exI S)))] : va_W)) (pmW _) (fun H locs hs => ?_)
  refine lv_aload_n hx hb dX5_bothOwed_6 rfl (lv_at hl 0 rfl) ?_
  refine lv_iload_n hx hb dX5_bothOwed_7 rfl (lv_at hl 1 rfl) ?_
  refine lv_iload_n hx hb dX5_bothOwed_8 rfl (lv_at hl 2 rfl) ?_
  obtain ⟨q2, hq2, hF⟩ := bd hF
  refine sx_S (As := [.ref (b), .int x1, .int x2]) (rest := [.long q1]) (st1 := [.long q2, .long q1]) (c_X5_backOwed G l (b) S x1 x2 q2 hq2) v_X5_276 ⟨(Nat.le_of_ble_eq_true rfl), (Nat.le_of_ble_eq_true rfl)⟩ hx hb hml hown hts hE hA hs ⟨Nat.le_refl 0, Nat.le_refl 0⟩ rfl rfl rfl hl.1 (Nat.le_of_ble_eq_true rfl) dX5_bothOwed_9 (pmW _) (ws' := ([(b, .inl (G.2.1 0, 82, .inl (exI S)))] : va_W)) (pmW _) (fun H locs hs => ?_)
  refine lv_ladd hx hb dX5_bothOwed_12 ?_
  exact sx_lret hx hb hr hlk hQ (Option.some.inj hF) rfl hs dX5_bothOwed_13
set_option maxHeartbeats 4000000 in
set_option maxRecDepth 100000 in
theorem c_X5_lawOwed (G : GT) (l : Launch) (b : Nat) (S : (Fin 82 → Int32)) (x1 : Int32) (x2 : Int32) (r : Int64) (hF : F_X5_lawOwed S x1 x2 = some r) : MT G l yX5_lawOwed cX5_lawOwed 5 (some .long) 8 183 [.ref (b), .int x1, .int x2] (([(b, .inl (G.2.1 0, 82, .inl (exI S)))] : va_W)) (some (.long r)) (([(b, .inl (G.2.1 0, 82, .inl (exI S)))] : va_W)) := by
  refine MT.of (by decide) (Nat.le_of_ble_eq_true rfl) ?_
  intro p e s m args below meth c A ls hx hb hr hml hown hts hlk hE hA hs hl Q hQ
  have hl : lv_has ls 5 [(0, .ref (b)), (1, .int x1), (2, .int x2)] := hl
  unfold F_X5_lawOwed at hF
  refine lv_iload_n hx hb dX5_lawOwed_0 rfl (lv_at hl 1 rfl) ?_
  refine lv_iload_n hx hb dX5_lawOwed_1 rfl (lv_at hl 2 rfl) ?_
  refine lv_icmp_ne (tgt := 7) hx hb dX5_lawOwed_2 (by decide) (fun hc => ?_) (fun hc => ?_)
  · have hF := (if_neg hc).symm.trans hF
    refine lv_aload_n hx hb dX5_lawOwed_7 rfl (lv_at hl 0 rfl) ?_
    refine lv_iload_n hx hb dX5_lawOwed_8 rfl (lv_at hl 1 rfl) ?_
    refine lv_iload_n hx hb dX5_lawOwed_9 rfl (lv_at hl 2 rfl) ?_
    obtain ⟨q1, hq1, hF⟩ := bd hF
    refine sx_S (As := [.ref (b), .int x1, .int x2]) (rest := []) (st1 := [.long q1]) (c_X5_bothOwed G l (b) S x1 x2 q1 hq1) v_X5_279 ⟨(Nat.le_of_ble_eq_true rfl), (Nat.le_of_ble_eq_true rfl)⟩ hx hb hml hown hts hE hA hs ⟨Nat.le_refl 0, Nat.le_refl 0⟩ rfl rfl rfl hl.1 (Nat.le_of_ble_eq_true rfl) dX5_lawOwed_10 (pmW _) (ws' := ([(b, .inl (G.2.1 0, 82, .inl (exI S)))] : va_W)) (pmW _) (fun H locs hs => ?_)
    refine lv_lstore_n (lv' := [(3, .long q1), (0, .ref (b)), (1, .int x1), (2, .int x2)]) hx hb dX5_lawOwed_13 rfl hl (by decide) rfl (fun ls hl => ?_)
    refine lv_aload_n hx hb dX5_lawOwed_14 rfl (lv_at hl 1 rfl) ?_
    refine lv_iconst (v := (4 : Int32)) hx hb dX5_lawOwed_15 (by decide) ?_
    obtain ⟨v2, hv2, hF⟩ := bd hF
    refine sx_iald hx hb hE hs 0 (f := S) rfl hv2 dX5_lawOwed_16 ?_
    refine lv_iconst (v := (1 : Int32)) hx hb dX5_lawOwed_17 (by decide) ?_
    refine lv_icmp_ne (tgt := 25) hx hb dX5_lawOwed_18 (by decide) (fun hc => ?_) (fun hc => ?_)
    · have hF := (if_neg hc).symm.trans hF
      refine lv_lload_n hx hb dX5_lawOwed_25 rfl (lv_at hl 0 rfl) ?_
      refine lv_lload_n hx hb dX5_lawOwed_26 rfl (lv_at hl 0 rfl) ?_
      refine lv_aload_n hx hb dX5_lawOwed_27 rfl (lv_at hl 1 rfl) ?_
      refine lv_iload_n hx hb dX5_lawOwed_28 rfl (lv_at hl 3 rfl) ?_
      refine lv_iload_n hx hb dX5_lawOwed_29 rfl (lv_at hl 2 rfl) ?_
      obtain ⟨q3, hq3, hF⟩ := bd hF
      refine sx_S (As := [.ref (b), .int x2, .int x1]) (rest := [.long q1, .long q1]) (st1 := [.long q3, .long q1, .long q1]) (c_X5_bothOwed G l (b) S x2 x1 q3 hq3) v_X5_279 ⟨(Nat.le_of_ble_eq_true rfl), (Nat.le_of_ble_eq_true rfl)⟩ hx hb hml hown hts hE hA hs ⟨Nat.le_refl 0, Nat.le_refl 0⟩ rfl rfl rfl hl.1 (Nat.le_of_ble_eq_true rfl) dX5_lawOwed_30 (pmW _) (ws' := ([(b, .inl (G.2.1 0, 82, .inl (exI S)))] : va_W)) (pmW _) (fun H locs hs => ?_)
      obtain ⟨q4, hq4, hF⟩ := bd hF
      refine sx_S (As := [.long q1, .long q3]) (rest := [.long q1]) (st1 := [.long q4, .long q1]) (c_X5_lesser G l  q1 q3 q4 hq4) v_X5_282 ⟨(Nat.le_of_ble_eq_true rfl), (Nat.le_of_ble_eq_true rfl)⟩ hx hb hml hown hts hE hA hs ⟨Nat.le_refl 0, Nat.le_refl 0⟩ rfl rfl rfl hl.1 (Nat.le_of_ble_eq_true rfl) dX5_lawOwed_33 (List.Perm.refl _) (ws' := ([(b, .inl (G.2.1 0, 82, .inl (exI S)))] : va_W)) (List.Perm.refl _) (fun H locs hs => ?_)
      refine lv_lsub hx hb dX5_lawOwed_36 ?_
      exact sx_lret hx hb hr hlk hQ (Option.some.inj hF) rfl hs dX5_lawOwed_37
    · have hF := (if_pos hc).symm.trans hF
      refine lv_lload_n hx hb dX5_lawOwed_21 rfl (lv_at hl 0 rfl) ?_
      refine lv_goto (tgt := 37) hx hb dX5_lawOwed_22 (by decide) ?_
      exact sx_lret hx hb hr hlk hQ (Option.some.inj hF) rfl hs dX5_lawOwed_37
  · have hF := (if_pos hc).symm.trans hF
    refine lv_lconst (v := (0 : Int64)) hx hb dX5_lawOwed_5 (by decide) ?_
    exact sx_lret hx hb hr hlk hQ (Option.some.inj hF) rfl hs dX5_lawOwed_6
set_option maxHeartbeats 4000000 in
set_option maxRecDepth 100000 in
theorem c_X5_fundOf (G : GT) (l : Launch) (b : Nat) (S : (Fin 82 → Int32)) (x1 : Int32) (x2 : Int32) (r : Int64) (hF : F_X5_fundOf S x1 x2 = some r) : MT G l yX5_fundOf cX5_fundOf 5 (some .long) 1 23 [.ref (b), .int x1, .int x2] (([(b, .inl (G.2.1 0, 82, .inl (exI S)))] : va_W)) (some (.long r)) (([(b, .inl (G.2.1 0, 82, .inl (exI S)))] : va_W)) := by
  refine MT.of (by decide) (Nat.le_of_ble_eq_true rfl) ?_
  intro p e s m args below meth c A ls hx hb hr hml hown hts hlk hE hA hs hl Q hQ
  have hl : lv_has ls 5 [(0, .ref (b)), (1, .int x1), (2, .int x2)] := hl
  unfold F_X5_fundOf at hF
  refine lv_aload_n hx hb dX5_fundOf_0 rfl (lv_at hl 0 rfl) ?_
  refine lv_iload_n hx hb dX5_fundOf_1 rfl (lv_at hl 1 rfl) ?_
  refine lv_iconst (v := (0 : Int32)) hx hb dX5_fundOf_2 (by decide) ?_
  obtain ⟨q1, hq1, hF⟩ := bd hF
  refine sx_S (As := [.ref (b), .int x1, .int (0 : Int32)]) (rest := []) (st1 := [.int q1]) (c_X5_ofShip G l (b) S x1 (0 : Int32) q1 hq1) v_X5_243 ⟨(Nat.le_of_ble_eq_true rfl), (Nat.le_of_ble_eq_true rfl)⟩ hx hb hml hown hts hE hA hs ⟨Nat.le_refl 0, Nat.le_refl 0⟩ rfl rfl rfl hl.1 (Nat.le_of_ble_eq_true rfl) dX5_fundOf_3 (pmW _) (ws' := ([(b, .inl (G.2.1 0, 82, .inl (exI S)))] : va_W)) (pmW _) (fun H locs hs => ?_)
  refine lv_i2l hx hb dX5_fundOf_6 rfl ?_
  refine lv_aload_n hx hb dX5_fundOf_7 rfl (lv_at hl 0 rfl) ?_
  refine lv_bipush (v := (7 : Int32)) hx hb dX5_fundOf_8 (by decide) ?_
  obtain ⟨v2, hv2, hF⟩ := bd hF
  refine sx_iald hx hb hE hs 0 (f := S) rfl hv2 dX5_fundOf_10 ?_
  refine lv_i2l hx hb dX5_fundOf_11 rfl ?_
  obtain ⟨q3, hq3, hF⟩ := bd hF
  refine sx_S (As := [.long q1.toInt64, .long v2.toInt64]) (rest := []) (st1 := [.long q3]) (c_X5_greater G l  q1.toInt64 v2.toInt64 q3 hq3) v_X5_286 ⟨(Nat.le_of_ble_eq_true rfl), (Nat.le_of_ble_eq_true rfl)⟩ hx hb hml hown hts hE hA hs ⟨Nat.le_refl 0, Nat.le_refl 0⟩ rfl rfl rfl hl.1 (Nat.le_of_ble_eq_true rfl) dX5_fundOf_12 (List.Perm.refl _) (ws' := ([(b, .inl (G.2.1 0, 82, .inl (exI S)))] : va_W)) (List.Perm.refl _) (fun H locs hs => ?_)
  refine lv_lstore_n (lv' := [(3, .long q3), (0, .ref (b)), (1, .int x1), (2, .int x2)]) hx hb dX5_fundOf_15 rfl hl (by decide) rfl (fun ls hl => ?_)
  refine lv_ldc2 (v := (2000000000 : Int64)) hx hb hown (hts _ g1299) dX5_fundOf_16 ?_
  refine lv_lload_n hx hb dX5_fundOf_19 rfl (lv_at hl 0 rfl) ?_
  refine lv_aload_n hx hb dX5_fundOf_20 rfl (lv_at hl 1 rfl) ?_
  refine lv_iload_n hx hb dX5_fundOf_21 rfl (lv_at hl 3 rfl) ?_
  obtain ⟨v4, hv4, hF⟩ := bd hF
  refine sx_iald hx hb hE hs 0 (f := S) rfl hv4 dX5_fundOf_22 ?_
  refine lv_i2l hx hb dX5_fundOf_23 rfl ?_
  refine lv_lmul hx hb dX5_fundOf_24 ?_
  obtain ⟨q5, hq5, hF⟩ := bd hF
  refine sx_S (As := [.long (2000000000 : Int64), .long (q3 * v4.toInt64)]) (rest := []) (st1 := [.long q5]) (c_X5_lesser G l  (2000000000 : Int64) (q3 * v4.toInt64) q5 hq5) v_X5_282 ⟨(Nat.le_of_ble_eq_true rfl), (Nat.le_of_ble_eq_true rfl)⟩ hx hb hml hown hts hE hA hs ⟨Nat.le_refl 0, Nat.le_refl 0⟩ rfl rfl rfl hl.1 (Nat.le_of_ble_eq_true rfl) dX5_fundOf_25 (List.Perm.refl _) (ws' := ([(b, .inl (G.2.1 0, 82, .inl (exI S)))] : va_W)) (List.Perm.refl _) (fun H locs hs => ?_)
  exact sx_lret hx hb hr hlk hQ (Option.some.inj hF) rfl hs dX5_fundOf_28
set_option maxHeartbeats 4000000 in
set_option maxRecDepth 100000 in
theorem c_X5_shares (G : GT) (l : Launch) (a : Nat → Nat) (S : MS) (x1 : Int64) (r : Int64 × MS) (hF : F_X5_shares S x1 = some r) : MT G l yX5_shares cX5_shares 10 (some .long) 0 0 [.ref (a 0), .long x1] (WM G a S) (some (.long r.1)) (WM G a r.2) := by
  refine MT.of (by decide) (Nat.le_of_ble_eq_true rfl) ?_
  intro p e s m args below meth c A ls hx hb hr hml hown hts hlk hE hA hs hl Q hQ
  have hl : lv_has ls 10 [(0, .ref (a 0)), (1, .long x1)] := hl
  have hL5 : ∀ (x1 : Int64) (k : MS → Int64 → Option (Int64 × MS)) (hk : ∀ (S : MS) (x3 : Int64) (H : Heap) (locs : List Loc) (ls : Array Slot), k S x3 = some r → SI G A s H locs (WM G a S) → lv_has ls 10 [(0, .ref (a 0)), (1, .long x1), (3, .long x3)] → W p l e (RM 0 0) s m args below meth c H locs 0 0 Q (F0 m 28 ls [])) (fu : Nat) (S : MS) (x3 : Int64) (x5 : Int32) (H : Heap) (locs : List Loc) (ls : Array Slot), lo3 (B_X5_shares_5 x1 k) fu S x3 x5 = some r → SI G A s H locs (WM G a S) → lv_has ls 10 [(0, .ref (a 0)), (1, .long x1), (3, .long x3), (5, .int x5)] → W p l e (RM 0 0) s m args below meth c H locs 0 0 Q (F0 m 5 ls []) := by
    intro x1 k hk fu
    induction fu with
    | zero =>
      intro S x3 x5 H locs ls hF hs hl
      exact nomatch (show (none : Option (Int64 × MS)) = some r from hF)
    | succ fu hrec =>
      intro S x3 x5 H locs ls hF hs hl
      have hF : (B_X5_shares_5 x1 k) (lo3 (B_X5_shares_5 x1 k) fu) S x3 x5 = some r := hF
      unfold B_X5_shares_5 at hF
      refine lv_iload hx hb dX5_shares_5 (lv_at hl 3 rfl) ?_
      refine lv_bipush (v := (16 : Int32)) hx hb dX5_shares_7 (by decide) ?_
      refine lv_icmp_ge (tgt := 28) hx hb dX5_shares_9 (by decide) (fun hc => ?_) (fun hc => ?_)
      · have hF := (if_pos hc).symm.trans hF
        exact hk S x3 _ _ _ hF hs (lv_sub hl [0, 1, 2] rfl)
      · have hF := (if_neg hc).symm.trans hF
        refine lv_lload_n hx hb dX5_shares_12 rfl (lv_at hl 2 rfl) ?_
        refine lv_aload_n hx hb dX5_shares_13 rfl (lv_at hl 0 rfl) ?_
        refine fg_X5_43 hx hb hown hts hE hs 0 rfl (v := .ref (a 10)) rfl dX5_shares_14 ?_
        refine lv_iload hx hb dX5_shares_17 (lv_at hl 3 rfl) ?_
        obtain ⟨v1, hv1, hF⟩ := bd hF
        refine sx_lald hx hb hE hs 10 (f := m_owed S) rfl hv1 dX5_shares_19 ?_
        refine lv_ladd hx hb dX5_shares_20 ?_
        obtain ⟨v2, ev2, hF⟩ := nm_some hF
        refine sx_topl ev2 ?_
        refine lv_lstore_n (lv' := [(3, .long v2), (0, .ref (a 0)), (1, .long x1), (5, .int x5)]) hx hb dX5_shares_21 rfl hl (by decide) rfl (fun ls hl => ?_)
        obtain ⟨v3, ev3, hF⟩ := nm_some hF
        refine lv_iinc (v := v3) (lv' := [(5, .int v3), (3, .long v2), (0, .ref (a 0)), (1, .long x1)]) hx hb dX5_shares_22 hl (k := 3) rfl (by rw [ev3]; rfl) (by decide) rfl (fun ls hl => ?_)
        refine lv_goto (tgt := 5) hx hb dX5_shares_25 (by decide) ?_
        exact hrec S v2 v3 _ _ _ hF hs (lv_sub hl [2, 3, 1, 0] rfl)
  have hL77 : ∀ (x1 : Int64) (x3 : Int64) (k : MS → Int64 → Option (Int64 × MS)) (hk : ∀ (S : MS) (x5 : Int64) (H : Heap) (locs : List Loc) (ls : Array Slot), k S x5 = some r → SI G A s H locs (WM G a S) → lv_has ls 10 [(0, .ref (a 0)), (1, .long x1), (3, .long x3), (5, .long x5)] → W p l e (RM 0 0) s m args below meth c H locs 0 0 Q (F0 m 106 ls [])) (fu : Nat) (S : MS) (x5 : Int64) (x7 : Int32) (H : Heap) (locs : List Loc) (ls : Array Slot), lo3 (B_X5_shares_77 x1 x3 k) fu S x5 x7 = some r → SI G A s H locs (WM G a S) → lv_has ls 10 [(0, .ref (a 0)), (1, .long x1), (3, .long x3), (5, .long x5), (7, .int x7)] → W p l e (RM 0 0) s m args below meth c H locs 0 0 Q (F0 m 77 ls []) := by
    intro x1 x3 k hk fu
    induction fu with
    | zero =>
      intro S x5 x7 H locs ls hF hs hl
      exact nomatch (show (none : Option (Int64 × MS)) = some r from hF)
    | succ fu hrec =>
      intro S x5 x7 H locs ls hF hs hl
      have hF : (B_X5_shares_77 x1 x3 k) (lo3 (B_X5_shares_77 x1 x3 k) fu) S x5 x7 = some r := hF
      unfold B_X5_shares_77 at hF
      refine lv_iload hx hb dX5_shares_77 (lv_at hl 4 rfl) ?_
      refine lv_bipush (v := (16 : Int32)) hx hb dX5_shares_79 (by decide) ?_
      refine lv_icmp_ge (tgt := 106) hx hb dX5_shares_81 (by decide) (fun hc => ?_) (fun hc => ?_)
      · have hF := (if_pos hc).symm.trans hF
        exact hk S x5 _ _ _ hF hs (lv_sub hl [0, 1, 2, 3] rfl)
      · have hF := (if_neg hc).symm.trans hF
        refine lv_lload hx hb dX5_shares_84 (lv_at hl 3 rfl) ?_
        refine lv_aload_n hx hb dX5_shares_86 rfl (lv_at hl 0 rfl) ?_
        refine fg_X5_43 hx hb hown hts hE hs 0 rfl (v := .ref (a 10)) rfl dX5_shares_87 ?_
        refine lv_iload hx hb dX5_shares_90 (lv_at hl 4 rfl) ?_
        obtain ⟨v6, hv6, hF⟩ := bd hF
        refine sx_lald hx hb hE hs 10 (f := m_owed S) rfl hv6 dX5_shares_92 ?_
        refine lv_lload_n hx hb dX5_shares_93 rfl (lv_at hl 1 rfl) ?_
        refine lv_lmul hx hb dX5_shares_94 ?_
        refine lv_lload_n hx hb dX5_shares_95 rfl (lv_at hl 2 rfl) ?_
        obtain ⟨v7, hv7, hF⟩ := bd hF
        refine sx_ldiv hx hb hv7 dX5_shares_96 ?_
        refine lv_lsub hx hb dX5_shares_97 ?_
        obtain ⟨v8, ev8, hF⟩ := nm_some hF
        refine sx_topl ev8 ?_
        refine lv_lstore (lv' := [(5, .long v8), (0, .ref (a 0)), (1, .long x1), (3, .long x3), (7, .int x7)]) hx hb dX5_shares_98 hl (by decide) rfl (fun ls hl => ?_)
        obtain ⟨v9, ev9, hF⟩ := nm_some hF
        refine lv_iinc (v := v9) (lv' := [(7, .int v9), (5, .long v8), (0, .ref (a 0)), (1, .long x1), (3, .long x3)]) hx hb dX5_shares_100 hl (k := 4) rfl (by rw [ev9]; rfl) (by decide) rfl (fun ls hl => ?_)
        refine lv_goto (tgt := 77) hx hb dX5_shares_103 (by decide) ?_
        exact hrec S v8 v9 _ _ _ hF hs (lv_sub hl [2, 3, 4, 1, 0] rfl)
  have hJ161_109 : ∀ (x1 : Int64) (x3 : Int64) (k : MS → Int64 → Option (Int64 × MS)) (rc : MS → Int64 → Int32 → Option (Int64 × MS)) (hk : ∀ (S : MS) (x5 : Int64) (H : Heap) (locs : List Loc) (ls : Array Slot), k S x5 = some r → SI G A s H locs (WM G a S) → lv_has ls 10 [(5, .long x5)] → W p l e (RM 0 0) s m args below meth c H locs 0 0 Q (F0 m 179 ls [])) (hrec : ∀ (S : MS) (x5 : Int64) (x7 : Int32) (H : Heap) (locs : List Loc) (ls : Array Slot), rc S x5 x7 = some r → SI G A s H locs (WM G a S) → lv_has ls 10 [(0, .ref (a 0)), (1, .long x1), (3, .long x3), (5, .long x5), (7, .int x7)] → W p l e (RM 0 0) s m args below meth c H locs 0 0 Q (F0 m 109 ls [])) (S : MS) (x5 : Int64) (x7 : Int32) (x8 : Int64) (H : Heap) (locs : List Loc) (ls : Array Slot), J_X5_shares_161 k rc S x1 x3 x5 x7 x8 = some r → SI G A s H locs (WM G a S) → lv_has ls 10 [(0, .ref (a 0)), (1, .long x1), (3, .long x3), (5, .long x5), (7, .int x7), (8, .long x8)] → W p l e (RM 0 0) s m args below meth c H locs 0 0 Q (F0 m 161 ls []) := by
    intro x1 x3 k rc hk hrec S x5 x7 x8 H locs ls hF hs hl
    unfold J_X5_shares_161 at hF
    refine lv_aload_n hx hb dX5_shares_161 rfl (lv_at hl 0 rfl) ?_
    refine fg_X5_46 hx hb hown hts hE hs 0 rfl (v := .ref (a 11)) rfl dX5_shares_162 ?_
    refine lv_iload hx hb dX5_shares_165 (lv_at hl 4 rfl) ?_
    refine lv_dup2_11 hx hb dX5_shares_167 rfl rfl ?_
    obtain ⟨v14, hv14, hF⟩ := bd hF
    refine sx_lald hx hb hE hs 11 (f := m_out S) rfl hv14 dX5_shares_168 ?_
    refine lv_lload hx hb dX5_shares_169 (lv_at hl 5 rfl) ?_
    refine lv_ladd hx hb dX5_shares_171 ?_
    obtain ⟨f15, hf15, hF⟩ := bd hF
    obtain ⟨S16, eS16, hF⟩ := nm_some hF
    refine sx_last hx hb hE hs 11 (f := m_out S) rfl hf15 (ws' := WM G a S16) (by subst eS16; rfl) dX5_shares_172 (fun H locs hs => ?_)
    obtain ⟨v17, ev17, hF⟩ := nm_some hF
    refine lv_iinc (v := v17) (lv' := [(7, .int v17), (0, .ref (a 0)), (1, .long x1), (3, .long x3), (5, .long x5), (8, .long x8)]) hx hb dX5_shares_173 hl (k := 4) rfl (by rw [ev17]; rfl) (by decide) rfl (fun ls hl => ?_)
    refine lv_goto (tgt := 109) hx hb dX5_shares_176 (by decide) ?_
    exact hrec S16 x5 v17 _ _ _ hF hs (lv_sub hl [1, 2, 3, 4, 0] rfl)
  have hL109 : ∀ (x1 : Int64) (x3 : Int64) (k : MS → Int64 → Option (Int64 × MS)) (hk : ∀ (S : MS) (x5 : Int64) (H : Heap) (locs : List Loc) (ls : Array Slot), k S x5 = some r → SI G A s H locs (WM G a S) → lv_has ls 10 [(5, .long x5)] → W p l e (RM 0 0) s m args below meth c H locs 0 0 Q (F0 m 179 ls [])) (fu : Nat) (S : MS) (x5 : Int64) (x7 : Int32) (H : Heap) (locs : List Loc) (ls : Array Slot), lo3 (B_X5_shares_109 x1 x3 k) fu S x5 x7 = some r → SI G A s H locs (WM G a S) → lv_has ls 10 [(0, .ref (a 0)), (1, .long x1), (3, .long x3), (5, .long x5), (7, .int x7)] → W p l e (RM 0 0) s m args below meth c H locs 0 0 Q (F0 m 109 ls []) := by
    intro x1 x3 k hk fu
    induction fu with
    | zero =>
      intro S x5 x7 H locs ls hF hs hl
      exact nomatch (show (none : Option (Int64 × MS)) = some r from hF)
    | succ fu hrec =>
      intro S x5 x7 H locs ls hF hs hl
      have hF : (B_X5_shares_109 x1 x3 k) (lo3 (B_X5_shares_109 x1 x3 k) fu) S x5 x7 = some r := hF
      unfold B_X5_shares_109 at hF
      refine lv_iload hx hb dX5_shares_109 (lv_at hl 4 rfl) ?_
      refine lv_bipush (v := (16 : Int32)) hx hb dX5_shares_111 (by decide) ?_
      refine lv_icmp_ge (tgt := 179) hx hb dX5_shares_113 (by decide) (fun hc => ?_) (fun hc => ?_)
      · have hF := (if_pos hc).symm.trans hF
        exact hk S x5 _ _ _ hF hs (lv_sub hl [3] rfl)
      · have hF := (if_neg hc).symm.trans hF
        refine lv_aload_n hx hb dX5_shares_116 rfl (lv_at hl 0 rfl) ?_
        refine fg_X5_43 hx hb hown hts hE hs 0 rfl (v := .ref (a 10)) rfl dX5_shares_117 ?_
        refine lv_iload hx hb dX5_shares_120 (lv_at hl 4 rfl) ?_
        obtain ⟨v12, hv12, hF⟩ := bd hF
        refine sx_lald hx hb hE hs 10 (f := m_owed S) rfl hv12 dX5_shares_122 ?_
        refine lv_lload_n hx hb dX5_shares_123 rfl (lv_at hl 1 rfl) ?_
        refine lv_lmul hx hb dX5_shares_124 ?_
        refine lv_lload_n hx hb dX5_shares_125 rfl (lv_at hl 2 rfl) ?_
        obtain ⟨v13, hv13, hF⟩ := bd hF
        refine sx_ldiv hx hb hv13 dX5_shares_126 ?_
        refine lv_lstore (lv' := [(8, .long v13), (0, .ref (a 0)), (1, .long x1), (3, .long x3), (5, .long x5), (7, .int x7)]) hx hb dX5_shares_127 hl (by decide) rfl (fun ls hl => ?_)
        refine lv_lload hx hb dX5_shares_129 (lv_at hl 4 rfl) ?_
        refine lv_lconst (v := (0 : Int64)) hx hb dX5_shares_131 (by decide) ?_
        refine W.lcmp hx hb dX5_shares_132 ?_
        refine lv_if_le (tgt := 161) hx hb dX5_shares_133 (by decide) (fun hc => ?_) (fun hc => ?_)
        · have hF := (if_pos hc).symm.trans hF
          exact hJ161_109 x1 x3 _ _ hk hrec S x5 x7 v13 _ _ _ hF hs (lv_sub hl [1, 2, 3, 4, 5, 0] rfl)
        · have hF := (if_neg hc).symm.trans hF
          refine lv_lload hx hb dX5_shares_136 (lv_at hl 0 rfl) ?_
          refine lv_aload_n hx hb dX5_shares_138 rfl (lv_at hl 1 rfl) ?_
          refine fg_X5_43 hx hb hown hts hE hs 0 rfl (v := .ref (a 10)) rfl dX5_shares_139 ?_
          refine lv_iload hx hb dX5_shares_142 (lv_at hl 5 rfl) ?_
          obtain ⟨v18, hv18, hF⟩ := bd hF
          refine sx_lald hx hb hE hs 10 (f := m_owed S) rfl hv18 dX5_shares_144 ?_
          refine W.lcmp hx hb dX5_shares_145 ?_
          refine lv_if_ge (tgt := 161) hx hb dX5_shares_146 (by decide) (fun hc => ?_) (fun hc => ?_)
          · have hF := (if_pos hc).symm.trans hF
            exact hJ161_109 x1 x3 _ _ hk hrec S x5 x7 v13 _ _ _ hF hs (lv_sub hl [1, 2, 3, 4, 5, 0] rfl)
          · have hF := (if_neg hc).symm.trans hF
            refine lv_lload hx hb dX5_shares_149 (lv_at hl 0 rfl) ?_
            refine lv_lconst (v := (1 : Int64)) hx hb dX5_shares_151 (by decide) ?_
            refine lv_ladd hx hb dX5_shares_152 ?_
            obtain ⟨v19, ev19, hF⟩ := nm_some hF
            refine sx_topl ev19 ?_
            refine lv_lstore (lv' := [(8, .long v19), (0, .ref (a 0)), (1, .long x1), (3, .long x3), (5, .long x5), (7, .int x7)]) hx hb dX5_shares_153 hl (by decide) rfl (fun ls hl => ?_)
            refine lv_lload hx hb dX5_shares_155 (lv_at hl 4 rfl) ?_
            refine lv_lconst (v := (1 : Int64)) hx hb dX5_shares_157 (by decide) ?_
            refine lv_lsub hx hb dX5_shares_158 ?_
            obtain ⟨v20, ev20, hF⟩ := nm_some hF
            refine sx_topl ev20 ?_
            refine lv_lstore (lv' := [(5, .long v20), (8, .long v19), (0, .ref (a 0)), (1, .long x1), (3, .long x3), (7, .int x7)]) hx hb dX5_shares_159 hl (by decide) rfl (fun ls hl => ?_)
            exact hJ161_109 x1 x3 _ _ hk hrec S v20 x7 v19 _ _ _ hF hs (lv_sub hl [2, 3, 4, 0, 5, 1] rfl)
  have hL37 : ∀ (x1 : Int64) (x3 : Int64) (k : MS → Option (Int64 × MS)) (hk : ∀ (S : MS) (H : Heap) (locs : List Loc) (ls : Array Slot), k S = some r → SI G A s H locs (WM G a S) → lv_has ls 10 [(1, .long x1), (3, .long x3)] → W p l e (RM 0 0) s m args below meth c H locs 0 0 Q (F0 m 67 ls [])) (fu : Nat) (S : MS) (x5 : Int32) (H : Heap) (locs : List Loc) (ls : Array Slot), lo2 (B_X5_shares_37 x1 x3 k) fu S x5 = some r → SI G A s H locs (WM G a S) → lv_has ls 10 [(0, .ref (a 0)), (1, .long x1), (3, .long x3), (5, .int x5)] → W p l e (RM 0 0) s m args below meth c H locs 0 0 Q (F0 m 37 ls []) := by
    intro x1 x3 k hk fu
    induction fu with
    | zero =>
      intro S x5 H locs ls hF hs hl
      exact nomatch (show (none : Option (Int64 × MS)) = some r from hF)
    | succ fu hrec =>
      intro S x5 H locs ls hF hs hl
      have hF : (B_X5_shares_37 x1 x3 k) (lo2 (B_X5_shares_37 x1 x3 k) fu) S x5 = some r := hF
      unfold B_X5_shares_37 at hF
      refine lv_iload hx hb dX5_shares_37 (lv_at hl 3 rfl) ?_
      refine lv_bipush (v := (16 : Int32)) hx hb dX5_shares_39 (by decide) ?_
      refine lv_icmp_ge (tgt := 67) hx hb dX5_shares_41 (by decide) (fun hc => ?_) (fun hc => ?_)
      · have hF := (if_pos hc).symm.trans hF
        exact hk S _ _ _ hF hs (lv_sub hl [1, 2] rfl)
      · have hF := (if_neg hc).symm.trans hF
        refine lv_aload_n hx hb dX5_shares_44 rfl (lv_at hl 0 rfl) ?_
        refine fg_X5_46 hx hb hown hts hE hs 0 rfl (v := .ref (a 11)) rfl dX5_shares_45 ?_
        refine lv_iload hx hb dX5_shares_48 (lv_at hl 3 rfl) ?_
        refine lv_dup2_11 hx hb dX5_shares_50 rfl rfl ?_
        obtain ⟨v23, hv23, hF⟩ := bd hF
        refine sx_lald hx hb hE hs 11 (f := m_out S) rfl hv23 dX5_shares_51 ?_
        refine lv_aload_n hx hb dX5_shares_52 rfl (lv_at hl 0 rfl) ?_
        refine fg_X5_43 hx hb hown hts hE hs 0 rfl (v := .ref (a 10)) rfl dX5_shares_53 ?_
        refine lv_iload hx hb dX5_shares_56 (lv_at hl 3 rfl) ?_
        obtain ⟨v24, hv24, hF⟩ := bd hF
        refine sx_lald hx hb hE hs 10 (f := m_owed S) rfl hv24 dX5_shares_58 ?_
        refine lv_ladd hx hb dX5_shares_59 ?_
        obtain ⟨f25, hf25, hF⟩ := bd hF
        obtain ⟨S26, eS26, hF⟩ := nm_some hF
        refine sx_last hx hb hE hs 11 (f := m_out S) rfl hf25 (ws' := WM G a S26) (by subst eS26; rfl) dX5_shares_60 (fun H locs hs => ?_)
        obtain ⟨v27, ev27, hF⟩ := nm_some hF
        refine lv_iinc (v := v27) (lv' := [(5, .int v27), (0, .ref (a 0)), (1, .long x1), (3, .long x3)]) hx hb dX5_shares_61 hl (k := 3) rfl (by rw [ev27]; rfl) (by decide) rfl (fun ls hl => ?_)
        refine lv_goto (tgt := 37) hx hb dX5_shares_64 (by decide) ?_
        exact hrec S26 v27 _ _ _ hF hs (lv_sub hl [1, 2, 3, 0] rfl)
  unfold F_X5_shares at hF
  refine lv_lconst (v := (0 : Int64)) hx hb dX5_shares_0 (by decide) ?_
  refine lv_lstore_n (lv' := [(3, .long (0 : Int64)), (0, .ref (a 0)), (1, .long x1)]) hx hb dX5_shares_1 rfl hl (by decide) rfl (fun ls hl => ?_)
  refine lv_iconst (v := (0 : Int32)) hx hb dX5_shares_2 (by decide) ?_
  refine lv_istore (lv' := [(5, .int (0 : Int32)), (3, .long (0 : Int64)), (0, .ref (a 0)), (1, .long x1)]) hx hb dX5_shares_3 hl (by decide) rfl (fun ls hl => ?_)
  refine hL5 x1 _ (fun S4 z5 H locs ls hF hs hl => ?_) FU S (0 : Int64) (0 : Int32) _ _ _ hF hs (lv_sub hl [2, 3, 1, 0] rfl)
  refine lv_lload_n hx hb dX5_shares_28 rfl (lv_at hl 2 rfl) ?_
  refine lv_lload_n hx hb dX5_shares_29 rfl (lv_at hl 1 rfl) ?_
  refine W.lcmp hx hb dX5_shares_30 ?_
  refine lv_if_gt (tgt := 71) hx hb dX5_shares_31 (by decide) (fun hc => ?_) (fun hc => ?_)
  · have hF := (if_pos hc).symm.trans hF
    refine lv_lload_n hx hb dX5_shares_71 rfl (lv_at hl 1 rfl) ?_
    refine lv_lstore (lv' := [(5, .long x1), (0, .ref (a 0)), (1, .long x1), (3, .long z5)]) hx hb dX5_shares_72 hl (by decide) rfl (fun ls hl => ?_)
    refine lv_iconst (v := (0 : Int32)) hx hb dX5_shares_74 (by decide) ?_
    refine lv_istore (lv' := [(7, .int (0 : Int32)), (5, .long x1), (0, .ref (a 0)), (1, .long x1), (3, .long z5)]) hx hb dX5_shares_75 hl (by decide) rfl (fun ls hl => ?_)
    refine hL77 x1 z5 _ (fun S10 z11 H locs ls hF hs hl => ?_) FU S4 x1 (0 : Int32) _ _ _ hF hs (lv_sub hl [2, 3, 4, 1, 0] rfl)
    refine lv_iconst (v := (0 : Int32)) hx hb dX5_shares_106 (by decide) ?_
    refine lv_istore (lv' := [(7, .int (0 : Int32)), (0, .ref (a 0)), (1, .long x1), (3, .long z5), (5, .long z11)]) hx hb dX5_shares_107 hl (by decide) rfl (fun ls hl => ?_)
    refine hL109 x1 z5 _ (fun S21 z22 H locs ls hF hs hl => ?_) FU S10 z11 (0 : Int32) _ _ _ hF hs (lv_sub hl [1, 2, 3, 4, 0] rfl)
    refine lv_lload hx hb dX5_shares_179 (lv_at hl 0 rfl) ?_
    exact sx_lret hx hb hr hlk hQ (congrArg Prod.fst (Option.some.inj hF)) (congrArg (fun z => WM G a z) (congrArg Prod.snd (Option.some.inj hF))) hs dX5_shares_181
  · have hF := (if_neg hc).symm.trans hF
    refine lv_iconst (v := (0 : Int32)) hx hb dX5_shares_34 (by decide) ?_
    refine lv_istore (lv' := [(5, .int (0 : Int32)), (0, .ref (a 0)), (1, .long x1), (3, .long z5)]) hx hb dX5_shares_35 hl (by decide) rfl (fun ls hl => ?_)
    refine hL37 x1 z5 _ (fun S28 H locs ls hF hs hl => ?_) FU S4 (0 : Int32) _ _ _ hF hs (lv_sub hl [1, 2, 3, 0] rfl)
    refine lv_lload_n hx hb dX5_shares_67 rfl (lv_at hl 0 rfl) ?_
    refine lv_lload_n hx hb dX5_shares_68 rfl (lv_at hl 1 rfl) ?_
    refine lv_lsub hx hb dX5_shares_69 ?_
    exact sx_lret hx hb hr hlk hQ (congrArg Prod.fst (Option.some.inj hF)) (congrArg (fun z => WM G a z) (congrArg Prod.snd (Option.some.inj hF))) hs dX5_shares_70
set_option maxHeartbeats 4000000 in
set_option maxRecDepth 100000 in
theorem c_X5_clears (G : GT) (l : Launch) (h : Nat) (b : Nat) (S : (Fin 16 → Int64)) (r : (Fin 16 → Int64)) (hF : F_X5_clears S = some r) : MT G l yX5_clears cX5_clears 3 (none) 0 0 [.ref h, .ref (b)] (([(b, .inl (G.2.1 1, 16, .inr (.inl (exL S))))] : va_W)) none (([(b, .inl (G.2.1 1, 16, .inr (.inl (exL r))))] : va_W)) := by
  refine MT.of (by decide) (Nat.le_of_ble_eq_true rfl) ?_
  intro p e s m args below meth c A ls hx hb hr hml hown hts hlk hE hA hs hl Q hQ
  have hl : lv_has ls 3 [(0, .ref h), (1, .ref (b))] := hl
  have hL2 : ∀ (k : (Fin 16 → Int64) → Option ((Fin 16 → Int64))) (hk : ∀ (S : (Fin 16 → Int64)) (H : Heap) (locs : List Loc) (ls : Array Slot), k S = some r → SI G A s H locs (([(b, .inl (G.2.1 1, 16, .inr (.inl (exL S))))] : va_W)) → lv_has ls 3 [] → W p l e (RM 0 0) s m args below meth c H locs 0 0 Q (F0 m 18 ls [])) (fu : Nat) (S : (Fin 16 → Int64)) (x2 : Int32) (H : Heap) (locs : List Loc) (ls : Array Slot), lo2 (B_X5_clears_2 k) fu S x2 = some r → SI G A s H locs (([(b, .inl (G.2.1 1, 16, .inr (.inl (exL S))))] : va_W)) → lv_has ls 3 [(1, .ref (b)), (2, .int x2)] → W p l e (RM 0 0) s m args below meth c H locs 0 0 Q (F0 m 2 ls []) := by
    intro k hk fu
    induction fu with
    | zero =>
      intro S x2 H locs ls hF hs hl
      exact nomatch (show (none : Option ((Fin 16 → Int64))) = some r from hF)
    | succ fu hrec =>
      intro S x2 H locs ls hF hs hl
      have hF : (B_X5_clears_2 k) (lo2 (B_X5_clears_2 k) fu) S x2 = some r := hF
      unfold B_X5_clears_2 at hF
      refine lv_iload_n hx hb dX5_clears_2 rfl (lv_at hl 1 rfl) ?_
      refine lv_bipush (v := (16 : Int32)) hx hb dX5_clears_3 (by decide) ?_
      refine lv_icmp_ge (tgt := 18) hx hb dX5_clears_5 (by decide) (fun hc => ?_) (fun hc => ?_)
      · have hF := (if_pos hc).symm.trans hF
        exact hk S _ _ _ hF hs (lv_sub hl [] rfl)
      · have hF := (if_neg hc).symm.trans hF
        refine lv_aload_n hx hb dX5_clears_8 rfl (lv_at hl 0 rfl) ?_
        refine lv_iload_n hx hb dX5_clears_9 rfl (lv_at hl 1 rfl) ?_
        refine lv_lconst (v := (0 : Int64)) hx hb dX5_clears_10 (by decide) ?_
        obtain ⟨f1, hf1, hF⟩ := bd hF
        obtain ⟨S2, eS2, hF⟩ := nm_some hF
        refine sx_last hx hb hE hs 0 (f := S) rfl hf1 (ws' := ([(b, .inl (G.2.1 1, 16, .inr (.inl (exL S2))))] : va_W)) (by subst eS2; rfl) dX5_clears_11 (fun H locs hs => ?_)
        obtain ⟨v3, ev3, hF⟩ := nm_some hF
        refine lv_iinc (v := v3) (lv' := [(2, .int v3), (1, .ref (b))]) hx hb dX5_clears_12 hl (k := 1) rfl (by rw [ev3]; rfl) (by decide) rfl (fun ls hl => ?_)
        refine lv_goto (tgt := 2) hx hb dX5_clears_15 (by decide) ?_
        exact hrec S2 v3 _ _ _ hF hs (lv_sub hl [1, 0] rfl)
  unfold F_X5_clears at hF
  refine lv_iconst (v := (0 : Int32)) hx hb dX5_clears_0 (by decide) ?_
  refine lv_istore_n (lv' := [(2, .int (0 : Int32)), (0, .ref h), (1, .ref (b))]) hx hb dX5_clears_1 rfl hl (by decide) rfl (fun ls hl => ?_)
  refine hL2 _ (fun S4 H locs ls hF hs hl => ?_) FU S (0 : Int32) _ _ _ hF hs (lv_sub hl [2, 0] rfl)
  exact sx_vret hx hb hr hlk hQ (congrArg (fun z => ([(b, .inl (G.2.1 1, 16, .inr (.inl (exL z))))] : va_W)) (Option.some.inj hF)) hs dX5_clears_18
set_option maxHeartbeats 4000000 in
set_option maxRecDepth 100000 in
theorem c_X5_owesPersons (G : GT) (l : Launch) (a : Nat → Nat) (S : MS) (x1 : Int32) (x2 : Int32) (r : MS) (hF : F_X5_owesPersons S x1 x2 = some r) : MT G l yX5_owesPersons cX5_owesPersons 4 (none) 5 114 [.ref (a 0), .int x1, .int x2] (WM G a S) none (WM G a r) := by
  refine MT.of (by decide) (Nat.le_of_ble_eq_true rfl) ?_
  intro p e s m args below meth c A ls hx hb hr hml hown hts hlk hE hA hs hl Q hQ
  have hl : lv_has ls 4 [(0, .ref (a 0)), (1, .int x1), (2, .int x2)] := hl
  have hJ62_10 : ∀ (x1 : Int32) (x2 : Int32) (k : MS → Option (MS)) (rc : MS → Int32 → Option (MS)) (hk : ∀ (S : MS) (H : Heap) (locs : List Loc) (ls : Array Slot), k S = some r → SI G A s H locs (WM G a S) → lv_has ls 4 [] → W p l e (RM 5 114) s m args below meth c H locs 0 0 Q (F0 m 68 ls [])) (hrec : ∀ (S : MS) (x3 : Int32) (H : Heap) (locs : List Loc) (ls : Array Slot), rc S x3 = some r → SI G A s H locs (WM G a S) → lv_has ls 4 [(0, .ref (a 0)), (1, .int x1), (2, .int x2), (3, .int x3)] → W p l e (RM 5 114) s m args below meth c H locs 0 0 Q (F0 m 10 ls [])) (S : MS) (x3 : Int32) (H : Heap) (locs : List Loc) (ls : Array Slot), J_X5_owesPersons_62 k rc S x1 x2 x3 = some r → SI G A s H locs (WM G a S) → lv_has ls 4 [(0, .ref (a 0)), (1, .int x1), (2, .int x2), (3, .int x3)] → W p l e (RM 5 114) s m args below meth c H locs 0 0 Q (F0 m 62 ls []) := by
    intro x1 x2 k rc hk hrec S x3 H locs ls hF hs hl
    unfold J_X5_owesPersons_62 at hF
    obtain ⟨v5, ev5, hF⟩ := nm_some hF
    refine lv_iinc (v := v5) (lv' := [(3, .int v5), (0, .ref (a 0)), (1, .int x1), (2, .int x2)]) hx hb dX5_owesPersons_62 hl (k := 3) rfl (by rw [ev5]; rfl) (by decide) rfl (fun ls hl => ?_)
    refine lv_goto (tgt := 10) hx hb dX5_owesPersons_65 (by decide) ?_
    exact hrec S v5 _ _ _ hF hs (lv_sub hl [1, 2, 3, 0] rfl)
  have hL10 : ∀ (x1 : Int32) (x2 : Int32) (k : MS → Option (MS)) (hk : ∀ (S : MS) (H : Heap) (locs : List Loc) (ls : Array Slot), k S = some r → SI G A s H locs (WM G a S) → lv_has ls 4 [] → W p l e (RM 5 114) s m args below meth c H locs 0 0 Q (F0 m 68 ls [])) (fu : Nat) (S : MS) (x3 : Int32) (H : Heap) (locs : List Loc) (ls : Array Slot), lo2 (B_X5_owesPersons_10 x1 x2 k) fu S x3 = some r → SI G A s H locs (WM G a S) → lv_has ls 4 [(0, .ref (a 0)), (1, .int x1), (2, .int x2), (3, .int x3)] → W p l e (RM 5 114) s m args below meth c H locs 0 0 Q (F0 m 10 ls []) := by
    intro x1 x2 k hk fu
    induction fu with
    | zero =>
      intro S x3 H locs ls hF hs hl
      exact nomatch (show (none : Option (MS)) = some r from hF)
    | succ fu hrec =>
      intro S x3 H locs ls hF hs hl
      have hF : (B_X5_owesPersons_10 x1 x2 k) (lo2 (B_X5_owesPersons_10 x1 x2 k) fu) S x3 = some r := hF
      unfold B_X5_owesPersons_10 at hF
      refine lv_iload_n hx hb dX5_owesPersons_10 rfl (lv_at hl 3 rfl) ?_
      refine lv_aload_n hx hb dX5_owesPersons_11 rfl (lv_at hl 0 rfl) ?_
      refine fg_X5_17 hx hb hown hts hE hs 0 rfl (v := .ref (a 2)) rfl dX5_owesPersons_12 ?_
      refine lv_iconst (v := (1 : Int32)) hx hb dX5_owesPersons_15 (by decide) ?_
      obtain ⟨v3, hv3, hF⟩ := bd hF
      refine sx_iald hx hb hE hs 2 (f := m_w S) rfl hv3 dX5_owesPersons_16 ?_
      refine lv_icmp_ge (tgt := 68) hx hb dX5_owesPersons_17 (by decide) (fun hc => ?_) (fun hc => ?_)
      · have hF := (if_pos hc).symm.trans hF
        exact hk S _ _ _ hF hs (lv_sub hl [] rfl)
      · have hF := (if_neg hc).symm.trans hF
        refine lv_aload_n hx hb dX5_owesPersons_20 rfl (lv_at hl 0 rfl) ?_
        refine fg_X5_17 hx hb hown hts hE hs 0 rfl (v := .ref (a 2)) rfl dX5_owesPersons_21 ?_
        refine lv_iload_n hx hb dX5_owesPersons_24 rfl (lv_at hl 3 rfl) ?_
        refine lv_iconst (v := (0 : Int32)) hx hb dX5_owesPersons_25 (by decide) ?_
        obtain ⟨q4, hq4, hF⟩ := bd hF
        refine sx_S (As := [.ref (a 2), .int x3, .int (0 : Int32)]) (rest := []) (st1 := [.int q4]) (c_X5_ofClaim G l (a 2) (m_w S) x3 (0 : Int32) q4 hq4) v_X5_255 ⟨(Nat.le_of_ble_eq_true rfl), (Nat.le_of_ble_eq_true rfl)⟩ hx hb hml hown hts hE hA hs ⟨Nat.le_refl 0, Nat.le_refl 0⟩ rfl rfl rfl hl.1 (Nat.le_of_ble_eq_true rfl) dX5_owesPersons_26 (pM_w G a S (m_w S)) (ws' := WM G a S) (pM_w G a S (m_w S)) (fun H locs hs => ?_)
        refine lv_iconst (v := (1 : Int32)) hx hb dX5_owesPersons_29 (by decide) ?_
        refine lv_icmp_ne (tgt := 62) hx hb dX5_owesPersons_30 (by decide) (fun hc => ?_) (fun hc => ?_)
        · have hF := (if_neg hc).symm.trans hF
          exact hJ62_10 x1 x2 _ _ hk hrec S x3 _ _ _ hF hs (lv_sub hl [0, 1, 2, 3] rfl)
        · have hF := (if_pos hc).symm.trans hF
          refine lv_aload_n hx hb dX5_owesPersons_33 rfl (lv_at hl 0 rfl) ?_
          refine fg_X5_17 hx hb hown hts hE hs 0 rfl (v := .ref (a 2)) rfl dX5_owesPersons_34 ?_
          refine lv_iload_n hx hb dX5_owesPersons_37 rfl (lv_at hl 3 rfl) ?_
          obtain ⟨q6, hq6, hF⟩ := bd hF
          refine sx_S (As := [.ref (a 2), .int x3]) (rest := []) (st1 := [.int q6]) (c_X5_roundOf G l (a 2) (m_w S) x3 q6 hq6) v_X5_252 ⟨(Nat.le_of_ble_eq_true rfl), (Nat.le_of_ble_eq_true rfl)⟩ hx hb hml hown hts hE hA hs ⟨Nat.le_refl 0, Nat.le_refl 0⟩ rfl rfl rfl hl.1 (Nat.le_of_ble_eq_true rfl) dX5_owesPersons_38 (pM_w G a S (m_w S)) (ws' := WM G a S) (pM_w G a S (m_w S)) (fun H locs hs => ?_)
          refine lv_iload_n hx hb dX5_owesPersons_41 rfl (lv_at hl 2 rfl) ?_
          refine lv_icmp_ne (tgt := 62) hx hb dX5_owesPersons_42 (by decide) (fun hc => ?_) (fun hc => ?_)
          · have hF := (if_neg hc).symm.trans hF
            exact hJ62_10 x1 x2 _ _ hk hrec S x3 _ _ _ hF hs (lv_sub hl [0, 1, 2, 3] rfl)
          · have hF := (if_pos hc).symm.trans hF
            refine lv_aload_n hx hb dX5_owesPersons_45 rfl (lv_at hl 0 rfl) ?_
            refine fg_X5_43 hx hb hown hts hE hs 0 rfl (v := .ref (a 10)) rfl dX5_owesPersons_46 ?_
            refine lv_iconst (v := (4 : Int32)) hx hb dX5_owesPersons_49 (by decide) ?_
            refine lv_iload_n hx hb dX5_owesPersons_50 rfl (lv_at hl 3 rfl) ?_
            refine lv_iadd hx hb dX5_owesPersons_51 ?_
            refine lv_aload_n hx hb dX5_owesPersons_52 rfl (lv_at hl 0 rfl) ?_
            refine fg_X5_17 hx hb hown hts hE hs 0 rfl (v := .ref (a 2)) rfl dX5_owesPersons_53 ?_
            refine lv_iload_n hx hb dX5_owesPersons_56 rfl (lv_at hl 1 rfl) ?_
            refine lv_iload_n hx hb dX5_owesPersons_57 rfl (lv_at hl 3 rfl) ?_
            obtain ⟨q7, hq7, hF⟩ := bd hF
            refine sx_S (As := [.ref (a 2), .int x1, .int x3]) (rest := [.int ((4 : Int32) + x3), .ref (a 10)]) (st1 := [.long q7, .int ((4 : Int32) + x3), .ref (a 10)]) (c_X5_debtOf G l (a 2) (m_w S) x1 x3 q7 hq7) v_X5_266 ⟨(Nat.le_of_ble_eq_true rfl), (Nat.le_of_ble_eq_true rfl)⟩ hx hb hml hown hts hE hA hs ⟨Nat.le_refl 0, Nat.le_refl 0⟩ rfl rfl rfl hl.1 (Nat.le_of_ble_eq_true rfl) dX5_owesPersons_58 (pM_w G a S (m_w S)) (ws' := WM G a S) (pM_w G a S (m_w S)) (fun H locs hs => ?_)
            obtain ⟨f8, hf8, hF⟩ := bd hF
            obtain ⟨S9, eS9, hF⟩ := nm_some hF
            refine sx_last hx hb hE hs 10 (f := m_owed S) rfl hf8 (ws' := WM G a S9) (by subst eS9; rfl) dX5_owesPersons_61 (fun H locs hs => ?_)
            exact hJ62_10 x1 x2 _ _ hk hrec S9 x3 _ _ _ hF hs (lv_sub hl [0, 1, 2, 3] rfl)
  unfold F_X5_owesPersons at hF
  refine lv_aload_n hx hb dX5_owesPersons_0 rfl (lv_at hl 0 rfl) ?_
  refine lv_aload_n hx hb dX5_owesPersons_1 rfl (lv_at hl 0 rfl) ?_
  refine fg_X5_43 hx hb hown hts hE hs 0 rfl (v := .ref (a 10)) rfl dX5_owesPersons_2 ?_
  obtain ⟨q1, hq1, hF⟩ := bd hF
  obtain ⟨S2, eS2, hF⟩ := nm_some hF
  refine sx_V (As := [.ref (a 10)]) (rest := []) (st1 := []) (c_X5_clears G l (a 0) (a 10) (m_owed S) q1 hq1) v_X5_291 ⟨(Nat.le_of_ble_eq_true rfl), (Nat.le_of_ble_eq_true rfl)⟩ hx hb hml hown hts hE hA hs ⟨Nat.le_refl 0, Nat.le_refl 0⟩ 0 rfl rfl rfl rfl rfl hl.1 (Nat.le_of_ble_eq_true rfl) dX5_owesPersons_5 (pM_owed G a S (m_owed S)) (ws' := WM G a S2) (by subst eS2; exact pM_owed G a S q1) (fun H locs hs => ?_)
  refine lv_iconst (v := (0 : Int32)) hx hb dX5_owesPersons_8 (by decide) ?_
  refine lv_istore_n (lv' := [(3, .int (0 : Int32)), (0, .ref (a 0)), (1, .int x1), (2, .int x2)]) hx hb dX5_owesPersons_9 rfl hl (by decide) rfl (fun ls hl => ?_)
  refine hL10 x1 x2 _ (fun S10 H locs ls hF hs hl => ?_) FU S2 (0 : Int32) _ _ _ hF hs (lv_sub hl [1, 2, 3, 0] rfl)
  exact sx_vret hx hb hr hlk hQ (congrArg (fun z => WM G a z) (Option.some.inj hF)) hs dX5_owesPersons_68
set_option maxHeartbeats 4000000 in
set_option maxRecDepth 100000 in
theorem c_X5_owesAll (G : GT) (l : Launch) (a : Nat → Nat) (S : MS) (x1 : Int32) (x2 : Int32) (r : MS) (hF : F_X5_owesAll S x1 x2 = some r) : MT G l yX5_owesAll cX5_owesAll 4 (none) 9 207 [.ref (a 0), .int x1, .int x2] (WM G a S) none (WM G a r) := by
  refine MT.of (by decide) (Nat.le_of_ble_eq_true rfl) ?_
  intro p e s m args below meth c A ls hx hb hr hml hown hts hlk hE hA hs hl Q hQ
  have hl : lv_has ls 4 [(0, .ref (a 0)), (1, .int x1), (2, .int x2)] := hl
  have hL10 : ∀ (x1 : Int32) (x2 : Int32) (k : MS → Option (MS)) (hk : ∀ (S : MS) (H : Heap) (locs : List Loc) (ls : Array Slot), k S = some r → SI G A s H locs (WM G a S) → lv_has ls 4 [(0, .ref (a 0)), (1, .int x1), (2, .int x2)] → W p l e (RM 9 207) s m args below meth c H locs 0 0 Q (F0 m 45 ls [])) (fu : Nat) (S : MS) (x3 : Int32) (H : Heap) (locs : List Loc) (ls : Array Slot), lo2 (B_X5_owesAll_10 x1 x2 k) fu S x3 = some r → SI G A s H locs (WM G a S) → lv_has ls 4 [(0, .ref (a 0)), (1, .int x1), (2, .int x2), (3, .int x3)] → W p l e (RM 9 207) s m args below meth c H locs 0 0 Q (F0 m 10 ls []) := by
    intro x1 x2 k hk fu
    induction fu with
    | zero =>
      intro S x3 H locs ls hF hs hl
      exact nomatch (show (none : Option (MS)) = some r from hF)
    | succ fu hrec =>
      intro S x3 H locs ls hF hs hl
      have hF : (B_X5_owesAll_10 x1 x2 k) (lo2 (B_X5_owesAll_10 x1 x2 k) fu) S x3 = some r := hF
      unfold B_X5_owesAll_10 at hF
      refine lv_iload_n hx hb dX5_owesAll_10 rfl (lv_at hl 3 rfl) ?_
      refine lv_aload_n hx hb dX5_owesAll_11 rfl (lv_at hl 0 rfl) ?_
      refine fg_X5_17 hx hb hown hts hE hs 0 rfl (v := .ref (a 2)) rfl dX5_owesAll_12 ?_
      refine lv_iconst (v := (0 : Int32)) hx hb dX5_owesAll_15 (by decide) ?_
      obtain ⟨v3, hv3, hF⟩ := bd hF
      refine sx_iald hx hb hE hs 2 (f := m_w S) rfl hv3 dX5_owesAll_16 ?_
      refine lv_icmp_ge (tgt := 45) hx hb dX5_owesAll_17 (by decide) (fun hc => ?_) (fun hc => ?_)
      · have hF := (if_pos hc).symm.trans hF
        exact hk S _ _ _ hF hs (lv_sub hl [0, 1, 2] rfl)
      · have hF := (if_neg hc).symm.trans hF
        refine lv_iload_n hx hb dX5_owesAll_20 rfl (lv_at hl 2 rfl) ?_
        refine lv_if_ne (tgt := 45) hx hb dX5_owesAll_21 (by decide) (fun hc => ?_) (fun hc => ?_)
        · have hF := (if_neg hc).symm.trans hF
          exact hk S _ _ _ hF hs (lv_sub hl [0, 1, 2] rfl)
        · have hF := (if_pos hc).symm.trans hF
          refine lv_aload_n hx hb dX5_owesAll_24 rfl (lv_at hl 0 rfl) ?_
          refine fg_X5_43 hx hb hown hts hE hs 0 rfl (v := .ref (a 10)) rfl dX5_owesAll_25 ?_
          refine lv_iload_n hx hb dX5_owesAll_28 rfl (lv_at hl 3 rfl) ?_
          refine lv_aload_n hx hb dX5_owesAll_29 rfl (lv_at hl 0 rfl) ?_
          refine fg_X5_17 hx hb hown hts hE hs 0 rfl (v := .ref (a 2)) rfl dX5_owesAll_30 ?_
          refine lv_iload_n hx hb dX5_owesAll_33 rfl (lv_at hl 1 rfl) ?_
          refine lv_iload_n hx hb dX5_owesAll_34 rfl (lv_at hl 3 rfl) ?_
          obtain ⟨q4, hq4, hF⟩ := bd hF
          refine sx_S (As := [.ref (a 2), .int x1, .int x3]) (rest := [.int x3, .ref (a 10)]) (st1 := [.long q4, .int x3, .ref (a 10)]) (c_X5_lawOwed G l (a 2) (m_w S) x1 x3 q4 hq4) v_X5_295 ⟨(Nat.le_of_ble_eq_true rfl), (Nat.le_of_ble_eq_true rfl)⟩ hx hb hml hown hts hE hA hs ⟨Nat.le_refl 0, Nat.le_refl 0⟩ rfl rfl rfl hl.1 (Nat.le_of_ble_eq_true rfl) dX5_owesAll_35 (pM_w G a S (m_w S)) (ws' := WM G a S) (pM_w G a S (m_w S)) (fun H locs hs => ?_)
          obtain ⟨f5, hf5, hF⟩ := bd hF
          obtain ⟨S6, eS6, hF⟩ := nm_some hF
          refine sx_last hx hb hE hs 10 (f := m_owed S) rfl hf5 (ws' := WM G a S6) (by subst eS6; rfl) dX5_owesAll_38 (fun H locs hs => ?_)
          obtain ⟨v7, ev7, hF⟩ := nm_some hF
          refine lv_iinc (v := v7) (lv' := [(3, .int v7), (0, .ref (a 0)), (1, .int x1), (2, .int x2)]) hx hb dX5_owesAll_39 hl (k := 3) rfl (by rw [ev7]; rfl) (by decide) rfl (fun ls hl => ?_)
          refine lv_goto (tgt := 10) hx hb dX5_owesAll_42 (by decide) ?_
          exact hrec S6 v7 _ _ _ hF hs (lv_sub hl [1, 2, 3, 0] rfl)
  have hJ95_47 : ∀ (x1 : Int32) (x2 : Int32) (k : MS → Option (MS)) (rc : MS → Int32 → Option (MS)) (hk : ∀ (S : MS) (H : Heap) (locs : List Loc) (ls : Array Slot), k S = some r → SI G A s H locs (WM G a S) → lv_has ls 4 [] → W p l e (RM 9 207) s m args below meth c H locs 0 0 Q (F0 m 101 ls [])) (hrec : ∀ (S : MS) (x3 : Int32) (H : Heap) (locs : List Loc) (ls : Array Slot), rc S x3 = some r → SI G A s H locs (WM G a S) → lv_has ls 4 [(0, .ref (a 0)), (1, .int x1), (2, .int x2), (3, .int x3)] → W p l e (RM 9 207) s m args below meth c H locs 0 0 Q (F0 m 47 ls [])) (S : MS) (x3 : Int32) (H : Heap) (locs : List Loc) (ls : Array Slot), J_X5_owesAll_95 k rc S x1 x2 x3 = some r → SI G A s H locs (WM G a S) → lv_has ls 4 [(0, .ref (a 0)), (1, .int x1), (2, .int x2), (3, .int x3)] → W p l e (RM 9 207) s m args below meth c H locs 0 0 Q (F0 m 95 ls []) := by
    intro x1 x2 k rc hk hrec S x3 H locs ls hF hs hl
    unfold J_X5_owesAll_95 at hF
    obtain ⟨v11, ev11, hF⟩ := nm_some hF
    refine lv_iinc (v := v11) (lv' := [(3, .int v11), (0, .ref (a 0)), (1, .int x1), (2, .int x2)]) hx hb dX5_owesAll_95 hl (k := 3) rfl (by rw [ev11]; rfl) (by decide) rfl (fun ls hl => ?_)
    refine lv_goto (tgt := 47) hx hb dX5_owesAll_98 (by decide) ?_
    exact hrec S v11 _ _ _ hF hs (lv_sub hl [1, 2, 3, 0] rfl)
  have hL47 : ∀ (x1 : Int32) (x2 : Int32) (k : MS → Option (MS)) (hk : ∀ (S : MS) (H : Heap) (locs : List Loc) (ls : Array Slot), k S = some r → SI G A s H locs (WM G a S) → lv_has ls 4 [] → W p l e (RM 9 207) s m args below meth c H locs 0 0 Q (F0 m 101 ls [])) (fu : Nat) (S : MS) (x3 : Int32) (H : Heap) (locs : List Loc) (ls : Array Slot), lo2 (B_X5_owesAll_47 x1 x2 k) fu S x3 = some r → SI G A s H locs (WM G a S) → lv_has ls 4 [(0, .ref (a 0)), (1, .int x1), (2, .int x2), (3, .int x3)] → W p l e (RM 9 207) s m args below meth c H locs 0 0 Q (F0 m 47 ls []) := by
    intro x1 x2 k hk fu
    induction fu with
    | zero =>
      intro S x3 H locs ls hF hs hl
      exact nomatch (show (none : Option (MS)) = some r from hF)
    | succ fu hrec =>
      intro S x3 H locs ls hF hs hl
      have hF : (B_X5_owesAll_47 x1 x2 k) (lo2 (B_X5_owesAll_47 x1 x2 k) fu) S x3 = some r := hF
      unfold B_X5_owesAll_47 at hF
      refine lv_iload_n hx hb dX5_owesAll_47 rfl (lv_at hl 3 rfl) ?_
      refine lv_aload_n hx hb dX5_owesAll_48 rfl (lv_at hl 0 rfl) ?_
      refine fg_X5_17 hx hb hown hts hE hs 0 rfl (v := .ref (a 2)) rfl dX5_owesAll_49 ?_
      refine lv_iconst (v := (1 : Int32)) hx hb dX5_owesAll_52 (by decide) ?_
      obtain ⟨v9, hv9, hF⟩ := bd hF
      refine sx_iald hx hb hE hs 2 (f := m_w S) rfl hv9 dX5_owesAll_53 ?_
      refine lv_icmp_ge (tgt := 101) hx hb dX5_owesAll_54 (by decide) (fun hc => ?_) (fun hc => ?_)
      · have hF := (if_pos hc).symm.trans hF
        exact hk S _ _ _ hF hs (lv_sub hl [] rfl)
      · have hF := (if_neg hc).symm.trans hF
        refine lv_aload_n hx hb dX5_owesAll_57 rfl (lv_at hl 0 rfl) ?_
        refine fg_X5_17 hx hb hown hts hE hs 0 rfl (v := .ref (a 2)) rfl dX5_owesAll_58 ?_
        refine lv_iload_n hx hb dX5_owesAll_61 rfl (lv_at hl 3 rfl) ?_
        obtain ⟨q10, hq10, hF⟩ := bd hF
        refine sx_S (As := [.ref (a 2), .int x3]) (rest := []) (st1 := [.int q10]) (c_X5_roundOf G l (a 2) (m_w S) x3 q10 hq10) v_X5_252 ⟨(Nat.le_of_ble_eq_true rfl), (Nat.le_of_ble_eq_true rfl)⟩ hx hb hml hown hts hE hA hs ⟨Nat.le_refl 0, Nat.le_refl 0⟩ rfl rfl rfl hl.1 (Nat.le_of_ble_eq_true rfl) dX5_owesAll_62 (pM_w G a S (m_w S)) (ws' := WM G a S) (pM_w G a S (m_w S)) (fun H locs hs => ?_)
        refine lv_iload_n hx hb dX5_owesAll_65 rfl (lv_at hl 2 rfl) ?_
        refine lv_icmp_ne (tgt := 95) hx hb dX5_owesAll_66 (by decide) (fun hc => ?_) (fun hc => ?_)
        · have hF := (if_neg hc).symm.trans hF
          exact hJ95_47 x1 x2 _ _ hk hrec S x3 _ _ _ hF hs (lv_sub hl [0, 1, 2, 3] rfl)
        · have hF := (if_pos hc).symm.trans hF
          refine lv_aload_n hx hb dX5_owesAll_69 rfl (lv_at hl 0 rfl) ?_
          refine fg_X5_43 hx hb hown hts hE hs 0 rfl (v := .ref (a 10)) rfl dX5_owesAll_70 ?_
          refine lv_iconst (v := (4 : Int32)) hx hb dX5_owesAll_73 (by decide) ?_
          refine lv_iload_n hx hb dX5_owesAll_74 rfl (lv_at hl 3 rfl) ?_
          refine lv_iadd hx hb dX5_owesAll_75 ?_
          refine lv_aload_n hx hb dX5_owesAll_76 rfl (lv_at hl 0 rfl) ?_
          refine fg_X5_17 hx hb hown hts hE hs 0 rfl (v := .ref (a 2)) rfl dX5_owesAll_77 ?_
          refine lv_iload_n hx hb dX5_owesAll_80 rfl (lv_at hl 1 rfl) ?_
          refine lv_iload_n hx hb dX5_owesAll_81 rfl (lv_at hl 3 rfl) ?_
          obtain ⟨q12, hq12, hF⟩ := bd hF
          refine sx_S (As := [.ref (a 2), .int x1, .int x3]) (rest := [.int ((4 : Int32) + x3), .ref (a 10)]) (st1 := [.long q12, .int ((4 : Int32) + x3), .ref (a 10)]) (c_X5_debtOf G l (a 2) (m_w S) x1 x3 q12 hq12) v_X5_266 ⟨(Nat.le_of_ble_eq_true rfl), (Nat.le_of_ble_eq_true rfl)⟩ hx hb hml hown hts hE hA hs ⟨Nat.le_refl 0, Nat.le_refl 0⟩ rfl rfl rfl hl.1 (Nat.le_of_ble_eq_true rfl) dX5_owesAll_82 (pM_w G a S (m_w S)) (ws' := WM G a S) (pM_w G a S (m_w S)) (fun H locs hs => ?_)
          refine lv_aload_n hx hb dX5_owesAll_85 rfl (lv_at hl 0 rfl) ?_
          refine fg_X5_46 hx hb hown hts hE hs 0 rfl (v := .ref (a 11)) rfl dX5_owesAll_86 ?_
          refine lv_iconst (v := (4 : Int32)) hx hb dX5_owesAll_89 (by decide) ?_
          refine lv_iload_n hx hb dX5_owesAll_90 rfl (lv_at hl 3 rfl) ?_
          refine lv_iadd hx hb dX5_owesAll_91 ?_
          obtain ⟨v13, hv13, hF⟩ := bd hF
          refine sx_lald hx hb hE hs 11 (f := m_out S) rfl hv13 dX5_owesAll_92 ?_
          refine lv_lsub hx hb dX5_owesAll_93 ?_
          obtain ⟨f14, hf14, hF⟩ := bd hF
          obtain ⟨S15, eS15, hF⟩ := nm_some hF
          refine sx_last hx hb hE hs 10 (f := m_owed S) rfl hf14 (ws' := WM G a S15) (by subst eS15; rfl) dX5_owesAll_94 (fun H locs hs => ?_)
          exact hJ95_47 x1 x2 _ _ hk hrec S15 x3 _ _ _ hF hs (lv_sub hl [0, 1, 2, 3] rfl)
  have hJ45_n : ∀ (S : MS) (x1 : Int32) (x2 : Int32) (H : Heap) (locs : List Loc) (ls : Array Slot), J_X5_owesAll_45 S x1 x2 = some r → SI G A s H locs (WM G a S) → lv_has ls 4 [(0, .ref (a 0)), (1, .int x1), (2, .int x2)] → W p l e (RM 9 207) s m args below meth c H locs 0 0 Q (F0 m 45 ls []) := by
    intro S x1 x2 H locs ls hF hs hl
    unfold J_X5_owesAll_45 at hF
    refine lv_iconst (v := (0 : Int32)) hx hb dX5_owesAll_45 (by decide) ?_
    refine lv_istore_n (lv' := [(3, .int (0 : Int32)), (0, .ref (a 0)), (1, .int x1), (2, .int x2)]) hx hb dX5_owesAll_46 rfl hl (by decide) rfl (fun ls hl => ?_)
    refine hL47 x1 x2 _ (fun S16 H locs ls hF hs hl => ?_) FU S (0 : Int32) _ _ _ hF hs (lv_sub hl [1, 2, 3, 0] rfl)
    exact sx_vret hx hb hr hlk hQ (congrArg (fun z => WM G a z) (Option.some.inj hF)) hs dX5_owesAll_101
  unfold F_X5_owesAll at hF
  refine lv_aload_n hx hb dX5_owesAll_0 rfl (lv_at hl 0 rfl) ?_
  refine lv_aload_n hx hb dX5_owesAll_1 rfl (lv_at hl 0 rfl) ?_
  refine fg_X5_43 hx hb hown hts hE hs 0 rfl (v := .ref (a 10)) rfl dX5_owesAll_2 ?_
  obtain ⟨q1, hq1, hF⟩ := bd hF
  obtain ⟨S2, eS2, hF⟩ := nm_some hF
  refine sx_V (As := [.ref (a 10)]) (rest := []) (st1 := []) (c_X5_clears G l (a 0) (a 10) (m_owed S) q1 hq1) v_X5_291 ⟨(Nat.le_of_ble_eq_true rfl), (Nat.le_of_ble_eq_true rfl)⟩ hx hb hml hown hts hE hA hs ⟨Nat.le_refl 0, Nat.le_refl 0⟩ 0 rfl rfl rfl rfl rfl hl.1 (Nat.le_of_ble_eq_true rfl) dX5_owesAll_5 (pM_owed G a S (m_owed S)) (ws' := WM G a S2) (by subst eS2; exact pM_owed G a S q1) (fun H locs hs => ?_)
  refine lv_iconst (v := (0 : Int32)) hx hb dX5_owesAll_8 (by decide) ?_
  refine lv_istore_n (lv' := [(3, .int (0 : Int32)), (0, .ref (a 0)), (1, .int x1), (2, .int x2)]) hx hb dX5_owesAll_9 rfl hl (by decide) rfl (fun ls hl => ?_)
  refine hL10 x1 x2 _ (fun S8 H locs ls hF hs hl => ?_) FU S2 (0 : Int32) _ _ _ hF hs (lv_sub hl [1, 2, 3, 0] rfl)
  exact hJ45_n S8 x1 x2 _ _ _ hF hs (lv_sub hl [0, 1, 2] rfl)
set_option maxHeartbeats 4000000 in
set_option maxRecDepth 100000 in
theorem c_X5_sharesLives (G : GT) (l : Launch) (a : Nat → Nat) (S : MS) (x1 : Int32) (r : MS) (hF : F_X5_sharesLives S x1 = some r) : MT G l yX5_sharesLives cX5_sharesLives 5 (none) 6 137 [.ref (a 0), .int x1] (WM G a S) none (WM G a r) := by
  refine MT.of (by decide) (Nat.le_of_ble_eq_true rfl) ?_
  intro p e s m args below meth c A ls hx hb hr hml hown hts hlk hE hA hs hl Q hQ
  have hl : lv_has ls 5 [(0, .ref (a 0)), (1, .int x1)] := hl
  have hL22 : ∀ (x1 : Int32) (k : MS → Option (MS)) (hk : ∀ (S : MS) (H : Heap) (locs : List Loc) (ls : Array Slot), k S = some r → SI G A s H locs (WM G a S) → lv_has ls 5 [] → W p l e (RM 6 137) s m args below meth c H locs 0 0 Q (F0 m 47 ls [])) (fu : Nat) (S : MS) (x2 : Int64) (x4 : Int32) (H : Heap) (locs : List Loc) (ls : Array Slot), lo3 (B_X5_sharesLives_22 x1 k) fu S x2 x4 = some r → SI G A s H locs (WM G a S) → lv_has ls 5 [(0, .ref (a 0)), (1, .int x1), (2, .long x2), (4, .int x4)] → W p l e (RM 6 137) s m args below meth c H locs 0 0 Q (F0 m 22 ls []) := by
    intro x1 k hk fu
    induction fu with
    | zero =>
      intro S x2 x4 H locs ls hF hs hl
      exact nomatch (show (none : Option (MS)) = some r from hF)
    | succ fu hrec =>
      intro S x2 x4 H locs ls hF hs hl
      have hF : (B_X5_sharesLives_22 x1 k) (lo3 (B_X5_sharesLives_22 x1 k) fu) S x2 x4 = some r := hF
      unfold B_X5_sharesLives_22 at hF
      refine lv_iload hx hb dX5_sharesLives_22 (lv_at hl 3 rfl) ?_
      refine lv_iconst (v := (2 : Int32)) hx hb dX5_sharesLives_24 (by decide) ?_
      refine lv_icmp_ge (tgt := 47) hx hb dX5_sharesLives_25 (by decide) (fun hc => ?_) (fun hc => ?_)
      · have hF := (if_pos hc).symm.trans hF
        exact hk S _ _ _ hF hs (lv_sub hl [] rfl)
      · have hF := (if_neg hc).symm.trans hF
        refine lv_aload_n hx hb dX5_sharesLives_28 rfl (lv_at hl 0 rfl) ?_
        refine lv_iload_n hx hb dX5_sharesLives_29 rfl (lv_at hl 1 rfl) ?_
        refine lv_iload hx hb dX5_sharesLives_30 (lv_at hl 3 rfl) ?_
        obtain ⟨q4, hq4, hF⟩ := bd hF
        refine sx_V (As := [.int x1, .int x4]) (rest := []) (st1 := []) (c_X5_owesPersons G l a S x1 x4 q4 hq4) v_X5_301 ⟨(Nat.le_of_ble_eq_true rfl), (Nat.le_of_ble_eq_true rfl)⟩ hx hb hml hown hts hE hA hs ⟨Nat.le_refl 0, Nat.le_refl 0⟩ 0 rfl rfl rfl rfl rfl hl.1 (Nat.le_of_ble_eq_true rfl) dX5_sharesLives_32 (pmW _) (ws' := WM G a q4) (pmW _) (fun H locs hs => ?_)
        refine lv_aload_n hx hb dX5_sharesLives_35 rfl (lv_at hl 0 rfl) ?_
        refine lv_lload_n hx hb dX5_sharesLives_36 rfl (lv_at hl 2 rfl) ?_
        obtain ⟨q5, hq5, hF⟩ := bd hF
        refine sx_V (As := [.long x2]) (rest := []) (st1 := [.long q5.1]) (c_X5_shares G l a q4 x2 q5 hq5) v_X5_305 ⟨(Nat.le_of_ble_eq_true rfl), (Nat.le_of_ble_eq_true rfl)⟩ hx hb hml hown hts hE hA hs ⟨Nat.le_refl 0, Nat.le_refl 0⟩ 0 rfl rfl rfl rfl rfl hl.1 (Nat.le_of_ble_eq_true rfl) dX5_sharesLives_37 (pmW _) (ws' := WM G a q5.2) (pmW _) (fun H locs hs => ?_)
        refine lv_lstore_n (lv' := [(2, .long q5.1), (0, .ref (a 0)), (1, .int x1), (4, .int x4)]) hx hb dX5_sharesLives_40 rfl hl (by decide) rfl (fun ls hl => ?_)
        obtain ⟨v6, ev6, hF⟩ := nm_some hF
        refine lv_iinc (v := v6) (lv' := [(4, .int v6), (2, .long q5.1), (0, .ref (a 0)), (1, .int x1)]) hx hb dX5_sharesLives_41 hl (k := 3) rfl (by rw [ev6]; rfl) (by decide) rfl (fun ls hl => ?_)
        refine lv_goto (tgt := 22) hx hb dX5_sharesLives_44 (by decide) ?_
        exact hrec q5.2 q5.1 v6 _ _ _ hF hs (lv_sub hl [2, 3, 1, 0] rfl)
  unfold F_X5_sharesLives at hF
  refine lv_aload_n hx hb dX5_sharesLives_0 rfl (lv_at hl 0 rfl) ?_
  refine lv_aload_n hx hb dX5_sharesLives_1 rfl (lv_at hl 0 rfl) ?_
  refine fg_X5_46 hx hb hown hts hE hs 0 rfl (v := .ref (a 11)) rfl dX5_sharesLives_2 ?_
  obtain ⟨q1, hq1, hF⟩ := bd hF
  obtain ⟨S2, eS2, hF⟩ := nm_some hF
  refine sx_V (As := [.ref (a 11)]) (rest := []) (st1 := []) (c_X5_clears G l (a 0) (a 11) (m_out S) q1 hq1) v_X5_291 ⟨(Nat.le_of_ble_eq_true rfl), (Nat.le_of_ble_eq_true rfl)⟩ hx hb hml hown hts hE hA hs ⟨Nat.le_refl 0, Nat.le_refl 0⟩ 0 rfl rfl rfl rfl rfl hl.1 (Nat.le_of_ble_eq_true rfl) dX5_sharesLives_5 (pM_out G a S (m_out S)) (ws' := WM G a S2) (by subst eS2; exact pM_out G a S q1) (fun H locs hs => ?_)
  refine lv_aload_n hx hb dX5_sharesLives_8 rfl (lv_at hl 0 rfl) ?_
  refine fg_X5_17 hx hb hown hts hE hs 0 rfl (v := .ref (a 2)) rfl dX5_sharesLives_9 ?_
  refine lv_iload_n hx hb dX5_sharesLives_12 rfl (lv_at hl 1 rfl) ?_
  refine lv_bipush (v := (6 : Int32)) hx hb dX5_sharesLives_13 (by decide) ?_
  obtain ⟨q3, hq3, hF⟩ := bd hF
  refine sx_S (As := [.ref (a 2), .int x1, .int (6 : Int32)]) (rest := []) (st1 := [.long q3]) (c_X5_fundOf G l (a 2) (m_w S2) x1 (6 : Int32) q3 hq3) v_X5_298 ⟨(Nat.le_of_ble_eq_true rfl), (Nat.le_of_ble_eq_true rfl)⟩ hx hb hml hown hts hE hA hs ⟨Nat.le_refl 0, Nat.le_refl 0⟩ rfl rfl rfl hl.1 (Nat.le_of_ble_eq_true rfl) dX5_sharesLives_15 (pM_w G a S2 (m_w S2)) (ws' := WM G a S2) (pM_w G a S2 (m_w S2)) (fun H locs hs => ?_)
  refine lv_lstore_n (lv' := [(2, .long q3), (0, .ref (a 0)), (1, .int x1)]) hx hb dX5_sharesLives_18 rfl hl (by decide) rfl (fun ls hl => ?_)
  refine lv_iconst (v := (0 : Int32)) hx hb dX5_sharesLives_19 (by decide) ?_
  refine lv_istore (lv' := [(4, .int (0 : Int32)), (2, .long q3), (0, .ref (a 0)), (1, .int x1)]) hx hb dX5_sharesLives_20 hl (by decide) rfl (fun ls hl => ?_)
  refine hL22 x1 _ (fun S7 H locs ls hF hs hl => ?_) FU S2 q3 (0 : Int32) _ _ _ hF hs (lv_sub hl [2, 3, 1, 0] rfl)
  exact sx_vret hx hb hr hlk hQ (congrArg (fun z => WM G a z) (Option.some.inj hF)) hs dX5_sharesLives_47
set_option maxHeartbeats 4000000 in
set_option maxRecDepth 100000 in
theorem c_X5_paysOne (G : GT) (l : Launch) (a : Nat → Nat) (S : MS) (x1 : Int32) (r : MS) (hF : F_X5_paysOne S x1 = some r) : MT G l yX5_paysOne cX5_paysOne 5 (none) 10 230 [.ref (a 0), .int x1] (WM G a S) none (WM G a r) := by
  refine MT.of (by decide) (Nat.le_of_ble_eq_true rfl) ?_
  intro p e s m args below meth c A ls hx hb hr hml hown hts hlk hE hA hs hl Q hQ
  have hl : lv_has ls 5 [(0, .ref (a 0)), (1, .int x1)] := hl
  have hL110 : ∀ (x1 : Int32) (k : MS → Option (MS)) (hk : ∀ (S : MS) (H : Heap) (locs : List Loc) (ls : Array Slot), k S = some r → SI G A s H locs (WM G a S) → lv_has ls 5 [(0, .ref (a 0)), (1, .int x1)] → W p l e (RM 10 230) s m args below meth c H locs 0 0 Q (F0 m 135 ls [])) (fu : Nat) (S : MS) (x2 : Int64) (x4 : Int32) (H : Heap) (locs : List Loc) (ls : Array Slot), lo3 (B_X5_paysOne_110 x1 k) fu S x2 x4 = some r → SI G A s H locs (WM G a S) → lv_has ls 5 [(0, .ref (a 0)), (1, .int x1), (2, .long x2), (4, .int x4)] → W p l e (RM 10 230) s m args below meth c H locs 0 0 Q (F0 m 110 ls []) := by
    intro x1 k hk fu
    induction fu with
    | zero =>
      intro S x2 x4 H locs ls hF hs hl
      exact nomatch (show (none : Option (MS)) = some r from hF)
    | succ fu hrec =>
      intro S x2 x4 H locs ls hF hs hl
      have hF : (B_X5_paysOne_110 x1 k) (lo3 (B_X5_paysOne_110 x1 k) fu) S x2 x4 = some r := hF
      unfold B_X5_paysOne_110 at hF
      refine lv_iload hx hb dX5_paysOne_110 (lv_at hl 3 rfl) ?_
      refine lv_iconst (v := (2 : Int32)) hx hb dX5_paysOne_112 (by decide) ?_
      refine lv_icmp_ge (tgt := 135) hx hb dX5_paysOne_113 (by decide) (fun hc => ?_) (fun hc => ?_)
      · have hF := (if_pos hc).symm.trans hF
        exact hk S _ _ _ hF hs (lv_sub hl [0, 1] rfl)
      · have hF := (if_neg hc).symm.trans hF
        refine lv_aload_n hx hb dX5_paysOne_116 rfl (lv_at hl 0 rfl) ?_
        refine lv_iload_n hx hb dX5_paysOne_117 rfl (lv_at hl 1 rfl) ?_
        refine lv_iload hx hb dX5_paysOne_118 (lv_at hl 3 rfl) ?_
        obtain ⟨q4, hq4, hF⟩ := bd hF
        refine sx_V (As := [.int x1, .int x4]) (rest := []) (st1 := []) (c_X5_owesAll G l a S x1 x4 q4 hq4) v_X5_312 ⟨(Nat.le_of_ble_eq_true rfl), (Nat.le_of_ble_eq_true rfl)⟩ hx hb hml hown hts hE hA hs ⟨Nat.le_refl 0, Nat.le_refl 0⟩ 0 rfl rfl rfl rfl rfl hl.1 (Nat.le_of_ble_eq_true rfl) dX5_paysOne_120 (pmW _) (ws' := WM G a q4) (pmW _) (fun H locs hs => ?_)
        refine lv_aload_n hx hb dX5_paysOne_123 rfl (lv_at hl 0 rfl) ?_
        refine lv_lload_n hx hb dX5_paysOne_124 rfl (lv_at hl 2 rfl) ?_
        obtain ⟨q5, hq5, hF⟩ := bd hF
        refine sx_V (As := [.long x2]) (rest := []) (st1 := [.long q5.1]) (c_X5_shares G l a q4 x2 q5 hq5) v_X5_305 ⟨(Nat.le_of_ble_eq_true rfl), (Nat.le_of_ble_eq_true rfl)⟩ hx hb hml hown hts hE hA hs ⟨Nat.le_refl 0, Nat.le_refl 0⟩ 0 rfl rfl rfl rfl rfl hl.1 (Nat.le_of_ble_eq_true rfl) dX5_paysOne_125 (pmW _) (ws' := WM G a q5.2) (pmW _) (fun H locs hs => ?_)
        refine lv_lstore_n (lv' := [(2, .long q5.1), (0, .ref (a 0)), (1, .int x1), (4, .int x4)]) hx hb dX5_paysOne_128 rfl hl (by decide) rfl (fun ls hl => ?_)
        obtain ⟨v6, ev6, hF⟩ := nm_some hF
        refine lv_iinc (v := v6) (lv' := [(4, .int v6), (2, .long q5.1), (0, .ref (a 0)), (1, .int x1)]) hx hb dX5_paysOne_129 hl (k := 3) rfl (by rw [ev6]; rfl) (by decide) rfl (fun ls hl => ?_)
        refine lv_goto (tgt := 110) hx hb dX5_paysOne_132 (by decide) ?_
        exact hrec q5.2 q5.1 v6 _ _ _ hF hs (lv_sub hl [2, 3, 1, 0] rfl)
  have hL137 : ∀ (x1 : Int32) (k : MS → Option (MS)) (hk : ∀ (S : MS) (H : Heap) (locs : List Loc) (ls : Array Slot), k S = some r → SI G A s H locs (WM G a S) → lv_has ls 5 [] → W p l e (RM 10 230) s m args below meth c H locs 0 0 Q (F0 m 166 ls [])) (fu : Nat) (S : MS) (x2 : Int32) (H : Heap) (locs : List Loc) (ls : Array Slot), lo2 (B_X5_paysOne_137 x1 k) fu S x2 = some r → SI G A s H locs (WM G a S) → lv_has ls 5 [(0, .ref (a 0)), (1, .int x1), (2, .int x2)] → W p l e (RM 10 230) s m args below meth c H locs 0 0 Q (F0 m 137 ls []) := by
    intro x1 k hk fu
    induction fu with
    | zero =>
      intro S x2 H locs ls hF hs hl
      exact nomatch (show (none : Option (MS)) = some r from hF)
    | succ fu hrec =>
      intro S x2 H locs ls hF hs hl
      have hF : (B_X5_paysOne_137 x1 k) (lo2 (B_X5_paysOne_137 x1 k) fu) S x2 = some r := hF
      unfold B_X5_paysOne_137 at hF
      refine lv_iload_n hx hb dX5_paysOne_137 rfl (lv_at hl 2 rfl) ?_
      refine lv_bipush (v := (16 : Int32)) hx hb dX5_paysOne_138 (by decide) ?_
      refine lv_icmp_ge (tgt := 166) hx hb dX5_paysOne_140 (by decide) (fun hc => ?_) (fun hc => ?_)
      · have hF := (if_pos hc).symm.trans hF
        exact hk S _ _ _ hF hs (lv_sub hl [] rfl)
      · have hF := (if_neg hc).symm.trans hF
        refine lv_aload_n hx hb dX5_paysOne_143 rfl (lv_at hl 0 rfl) ?_
        refine fg_X5_49 hx hb hown hts hE hs 0 rfl (v := .ref (a 12)) rfl dX5_paysOne_144 ?_
        refine lv_bipush (v := (16 : Int32)) hx hb dX5_paysOne_147 (by decide) ?_
        refine lv_iload_n hx hb dX5_paysOne_149 rfl (lv_at hl 1 rfl) ?_
        refine lv_imul hx hb dX5_paysOne_150 ?_
        refine lv_iload_n hx hb dX5_paysOne_151 rfl (lv_at hl 2 rfl) ?_
        refine lv_iadd hx hb dX5_paysOne_152 ?_
        refine lv_aload_n hx hb dX5_paysOne_153 rfl (lv_at hl 0 rfl) ?_
        refine fg_X5_46 hx hb hown hts hE hs 0 rfl (v := .ref (a 11)) rfl dX5_paysOne_154 ?_
        refine lv_iload_n hx hb dX5_paysOne_157 rfl (lv_at hl 2 rfl) ?_
        obtain ⟨v8, hv8, hF⟩ := bd hF
        refine sx_lald hx hb hE hs 11 (f := m_out S) rfl hv8 dX5_paysOne_158 ?_
        obtain ⟨f9, hf9, hF⟩ := bd hF
        obtain ⟨S10, eS10, hF⟩ := nm_some hF
        refine sx_last hx hb hE hs 12 (f := m_paid S) rfl hf9 (ws' := WM G a S10) (by subst eS10; rfl) dX5_paysOne_159 (fun H locs hs => ?_)
        obtain ⟨v11, ev11, hF⟩ := nm_some hF
        refine lv_iinc (v := v11) (lv' := [(2, .int v11), (0, .ref (a 0)), (1, .int x1)]) hx hb dX5_paysOne_160 hl (k := 2) rfl (by rw [ev11]; rfl) (by decide) rfl (fun ls hl => ?_)
        refine lv_goto (tgt := 137) hx hb dX5_paysOne_163 (by decide) ?_
        exact hrec S10 v11 _ _ _ hF hs (lv_sub hl [1, 2, 0] rfl)
  have hJ135_n : ∀ (S : MS) (x1 : Int32) (H : Heap) (locs : List Loc) (ls : Array Slot), J_X5_paysOne_135 S x1 = some r → SI G A s H locs (WM G a S) → lv_has ls 5 [(0, .ref (a 0)), (1, .int x1)] → W p l e (RM 10 230) s m args below meth c H locs 0 0 Q (F0 m 135 ls []) := by
    intro S x1 H locs ls hF hs hl
    unfold J_X5_paysOne_135 at hF
    refine lv_iconst (v := (0 : Int32)) hx hb dX5_paysOne_135 (by decide) ?_
    refine lv_istore_n (lv' := [(2, .int (0 : Int32)), (0, .ref (a 0)), (1, .int x1)]) hx hb dX5_paysOne_136 rfl hl (by decide) rfl (fun ls hl => ?_)
    refine hL137 x1 _ (fun S12 H locs ls hF hs hl => ?_) FU S (0 : Int32) _ _ _ hF hs (lv_sub hl [1, 2, 0] rfl)
    exact sx_vret hx hb hr hlk hQ (congrArg (fun z => WM G a z) (Option.some.inj hF)) hs dX5_paysOne_166
  have hL23 : ∀ (x1 : Int32) (k : MS → Option (MS)) (hk : ∀ (S : MS) (H : Heap) (locs : List Loc) (ls : Array Slot), k S = some r → SI G A s H locs (WM G a S) → lv_has ls 5 [(0, .ref (a 0)), (1, .int x1)] → W p l e (RM 10 230) s m args below meth c H locs 0 0 Q (F0 m 54 ls [])) (fu : Nat) (S : MS) (x2 : Int32) (H : Heap) (locs : List Loc) (ls : Array Slot), lo2 (B_X5_paysOne_23 x1 k) fu S x2 = some r → SI G A s H locs (WM G a S) → lv_has ls 5 [(0, .ref (a 0)), (1, .int x1), (2, .int x2)] → W p l e (RM 10 230) s m args below meth c H locs 0 0 Q (F0 m 23 ls []) := by
    intro x1 k hk fu
    induction fu with
    | zero =>
      intro S x2 H locs ls hF hs hl
      exact nomatch (show (none : Option (MS)) = some r from hF)
    | succ fu hrec =>
      intro S x2 H locs ls hF hs hl
      have hF : (B_X5_paysOne_23 x1 k) (lo2 (B_X5_paysOne_23 x1 k) fu) S x2 = some r := hF
      unfold B_X5_paysOne_23 at hF
      refine lv_iload_n hx hb dX5_paysOne_23 rfl (lv_at hl 2 rfl) ?_
      refine lv_aload_n hx hb dX5_paysOne_24 rfl (lv_at hl 0 rfl) ?_
      refine fg_X5_17 hx hb hown hts hE hs 0 rfl (v := .ref (a 2)) rfl dX5_paysOne_25 ?_
      refine lv_iconst (v := (0 : Int32)) hx hb dX5_paysOne_28 (by decide) ?_
      obtain ⟨v15, hv15, hF⟩ := bd hF
      refine sx_iald hx hb hE hs 2 (f := m_w S) rfl hv15 dX5_paysOne_29 ?_
      refine lv_icmp_ge (tgt := 54) hx hb dX5_paysOne_30 (by decide) (fun hc => ?_) (fun hc => ?_)
      · have hF := (if_pos hc).symm.trans hF
        exact hk S _ _ _ hF hs (lv_sub hl [0, 1] rfl)
      · have hF := (if_neg hc).symm.trans hF
        refine lv_aload_n hx hb dX5_paysOne_33 rfl (lv_at hl 0 rfl) ?_
        refine fg_X5_46 hx hb hown hts hE hs 0 rfl (v := .ref (a 11)) rfl dX5_paysOne_34 ?_
        refine lv_iload_n hx hb dX5_paysOne_37 rfl (lv_at hl 2 rfl) ?_
        refine lv_aload_n hx hb dX5_paysOne_38 rfl (lv_at hl 0 rfl) ?_
        refine fg_X5_17 hx hb hown hts hE hs 0 rfl (v := .ref (a 2)) rfl dX5_paysOne_39 ?_
        refine lv_iload_n hx hb dX5_paysOne_42 rfl (lv_at hl 1 rfl) ?_
        refine lv_iload_n hx hb dX5_paysOne_43 rfl (lv_at hl 2 rfl) ?_
        obtain ⟨q16, hq16, hF⟩ := bd hF
        refine sx_S (As := [.ref (a 2), .int x1, .int x2]) (rest := [.int x2, .ref (a 11)]) (st1 := [.long q16, .int x2, .ref (a 11)]) (c_X5_lawOwed G l (a 2) (m_w S) x1 x2 q16 hq16) v_X5_295 ⟨(Nat.le_of_ble_eq_true rfl), (Nat.le_of_ble_eq_true rfl)⟩ hx hb hml hown hts hE hA hs ⟨Nat.le_refl 0, Nat.le_refl 0⟩ rfl rfl rfl hl.1 (Nat.le_of_ble_eq_true rfl) dX5_paysOne_44 (pM_w G a S (m_w S)) (ws' := WM G a S) (pM_w G a S (m_w S)) (fun H locs hs => ?_)
        obtain ⟨f17, hf17, hF⟩ := bd hF
        obtain ⟨S18, eS18, hF⟩ := nm_some hF
        refine sx_last hx hb hE hs 11 (f := m_out S) rfl hf17 (ws' := WM G a S18) (by subst eS18; rfl) dX5_paysOne_47 (fun H locs hs => ?_)
        obtain ⟨v19, ev19, hF⟩ := nm_some hF
        refine lv_iinc (v := v19) (lv' := [(2, .int v19), (0, .ref (a 0)), (1, .int x1)]) hx hb dX5_paysOne_48 hl (k := 2) rfl (by rw [ev19]; rfl) (by decide) rfl (fun ls hl => ?_)
        refine lv_goto (tgt := 23) hx hb dX5_paysOne_51 (by decide) ?_
        exact hrec S18 v19 _ _ _ hF hs (lv_sub hl [1, 2, 0] rfl)
  have hL56 : ∀ (x1 : Int32) (k : MS → Option (MS)) (hk : ∀ (S : MS) (H : Heap) (locs : List Loc) (ls : Array Slot), k S = some r → SI G A s H locs (WM G a S) → lv_has ls 5 [(0, .ref (a 0)), (1, .int x1)] → W p l e (RM 10 230) s m args below meth c H locs 0 0 Q (F0 m 89 ls [])) (fu : Nat) (S : MS) (x2 : Int32) (H : Heap) (locs : List Loc) (ls : Array Slot), lo2 (B_X5_paysOne_56 x1 k) fu S x2 = some r → SI G A s H locs (WM G a S) → lv_has ls 5 [(0, .ref (a 0)), (1, .int x1), (2, .int x2)] → W p l e (RM 10 230) s m args below meth c H locs 0 0 Q (F0 m 56 ls []) := by
    intro x1 k hk fu
    induction fu with
    | zero =>
      intro S x2 H locs ls hF hs hl
      exact nomatch (show (none : Option (MS)) = some r from hF)
    | succ fu hrec =>
      intro S x2 H locs ls hF hs hl
      have hF : (B_X5_paysOne_56 x1 k) (lo2 (B_X5_paysOne_56 x1 k) fu) S x2 = some r := hF
      unfold B_X5_paysOne_56 at hF
      refine lv_iload_n hx hb dX5_paysOne_56 rfl (lv_at hl 2 rfl) ?_
      refine lv_aload_n hx hb dX5_paysOne_57 rfl (lv_at hl 0 rfl) ?_
      refine fg_X5_17 hx hb hown hts hE hs 0 rfl (v := .ref (a 2)) rfl dX5_paysOne_58 ?_
      refine lv_iconst (v := (1 : Int32)) hx hb dX5_paysOne_61 (by decide) ?_
      obtain ⟨v21, hv21, hF⟩ := bd hF
      refine sx_iald hx hb hE hs 2 (f := m_w S) rfl hv21 dX5_paysOne_62 ?_
      refine lv_icmp_ge (tgt := 89) hx hb dX5_paysOne_63 (by decide) (fun hc => ?_) (fun hc => ?_)
      · have hF := (if_pos hc).symm.trans hF
        exact hk S _ _ _ hF hs (lv_sub hl [0, 1] rfl)
      · have hF := (if_neg hc).symm.trans hF
        refine lv_aload_n hx hb dX5_paysOne_66 rfl (lv_at hl 0 rfl) ?_
        refine fg_X5_46 hx hb hown hts hE hs 0 rfl (v := .ref (a 11)) rfl dX5_paysOne_67 ?_
        refine lv_iconst (v := (4 : Int32)) hx hb dX5_paysOne_70 (by decide) ?_
        refine lv_iload_n hx hb dX5_paysOne_71 rfl (lv_at hl 2 rfl) ?_
        refine lv_iadd hx hb dX5_paysOne_72 ?_
        refine lv_aload_n hx hb dX5_paysOne_73 rfl (lv_at hl 0 rfl) ?_
        refine fg_X5_17 hx hb hown hts hE hs 0 rfl (v := .ref (a 2)) rfl dX5_paysOne_74 ?_
        refine lv_iload_n hx hb dX5_paysOne_77 rfl (lv_at hl 1 rfl) ?_
        refine lv_iload_n hx hb dX5_paysOne_78 rfl (lv_at hl 2 rfl) ?_
        obtain ⟨q22, hq22, hF⟩ := bd hF
        refine sx_S (As := [.ref (a 2), .int x1, .int x2]) (rest := [.int ((4 : Int32) + x2), .ref (a 11)]) (st1 := [.long q22, .int ((4 : Int32) + x2), .ref (a 11)]) (c_X5_debtOf G l (a 2) (m_w S) x1 x2 q22 hq22) v_X5_266 ⟨(Nat.le_of_ble_eq_true rfl), (Nat.le_of_ble_eq_true rfl)⟩ hx hb hml hown hts hE hA hs ⟨Nat.le_refl 0, Nat.le_refl 0⟩ rfl rfl rfl hl.1 (Nat.le_of_ble_eq_true rfl) dX5_paysOne_79 (pM_w G a S (m_w S)) (ws' := WM G a S) (pM_w G a S (m_w S)) (fun H locs hs => ?_)
        obtain ⟨f23, hf23, hF⟩ := bd hF
        obtain ⟨S24, eS24, hF⟩ := nm_some hF
        refine sx_last hx hb hE hs 11 (f := m_out S) rfl hf23 (ws' := WM G a S24) (by subst eS24; rfl) dX5_paysOne_82 (fun H locs hs => ?_)
        obtain ⟨v25, ev25, hF⟩ := nm_some hF
        refine lv_iinc (v := v25) (lv' := [(2, .int v25), (0, .ref (a 0)), (1, .int x1)]) hx hb dX5_paysOne_83 hl (k := 2) rfl (by rw [ev25]; rfl) (by decide) rfl (fun ls hl => ?_)
        refine lv_goto (tgt := 56) hx hb dX5_paysOne_86 (by decide) ?_
        exact hrec S24 v25 _ _ _ hF hs (lv_sub hl [1, 2, 0] rfl)
  unfold F_X5_paysOne at hF
  refine lv_aload_n hx hb dX5_paysOne_0 rfl (lv_at hl 0 rfl) ?_
  refine fg_X5_17 hx hb hown hts hE hs 0 rfl (v := .ref (a 2)) rfl dX5_paysOne_1 ?_
  refine lv_iload_n hx hb dX5_paysOne_4 rfl (lv_at hl 1 rfl) ?_
  refine lv_iconst (v := (5 : Int32)) hx hb dX5_paysOne_5 (by decide) ?_
  obtain ⟨q1, hq1, hF⟩ := bd hF
  refine sx_S (As := [.ref (a 2), .int x1, .int (5 : Int32)]) (rest := []) (st1 := [.int q1]) (c_X5_ofShip G l (a 2) (m_w S) x1 (5 : Int32) q1 hq1) v_X5_243 ⟨(Nat.le_of_ble_eq_true rfl), (Nat.le_of_ble_eq_true rfl)⟩ hx hb hml hown hts hE hA hs ⟨Nat.le_refl 0, Nat.le_refl 0⟩ rfl rfl rfl hl.1 (Nat.le_of_ble_eq_true rfl) dX5_paysOne_6 (pM_w G a S (m_w S)) (ws' := WM G a S) (pM_w G a S (m_w S)) (fun H locs hs => ?_)
  refine lv_iconst (v := (1 : Int32)) hx hb dX5_paysOne_9 (by decide) ?_
  refine lv_icmp_ne (tgt := 92) hx hb dX5_paysOne_10 (by decide) (fun hc => ?_) (fun hc => ?_)
  · have hF := (if_neg hc).symm.trans hF
    refine lv_aload_n hx hb dX5_paysOne_92 rfl (lv_at hl 0 rfl) ?_
    refine lv_iload_n hx hb dX5_paysOne_93 rfl (lv_at hl 1 rfl) ?_
    obtain ⟨q2, hq2, hF⟩ := bd hF
    refine sx_V (As := [.int x1]) (rest := []) (st1 := []) (c_X5_sharesLives G l a S x1 q2 hq2) v_X5_309 ⟨(Nat.le_of_ble_eq_true rfl), (Nat.le_of_ble_eq_true rfl)⟩ hx hb hml hown hts hE hA hs ⟨Nat.le_refl 0, Nat.le_refl 0⟩ 0 rfl rfl rfl rfl rfl hl.1 (Nat.le_of_ble_eq_true rfl) dX5_paysOne_94 (pmW _) (ws' := WM G a q2) (pmW _) (fun H locs hs => ?_)
    refine lv_aload_n hx hb dX5_paysOne_97 rfl (lv_at hl 0 rfl) ?_
    refine fg_X5_17 hx hb hown hts hE hs 0 rfl (v := .ref (a 2)) rfl dX5_paysOne_98 ?_
    refine lv_iload_n hx hb dX5_paysOne_101 rfl (lv_at hl 1 rfl) ?_
    refine lv_iconst (v := (5 : Int32)) hx hb dX5_paysOne_102 (by decide) ?_
    obtain ⟨q3, hq3, hF⟩ := bd hF
    refine sx_S (As := [.ref (a 2), .int x1, .int (5 : Int32)]) (rest := []) (st1 := [.long q3]) (c_X5_fundOf G l (a 2) (m_w q2) x1 (5 : Int32) q3 hq3) v_X5_298 ⟨(Nat.le_of_ble_eq_true rfl), (Nat.le_of_ble_eq_true rfl)⟩ hx hb hml hown hts hE hA hs ⟨Nat.le_refl 0, Nat.le_refl 0⟩ rfl rfl rfl hl.1 (Nat.le_of_ble_eq_true rfl) dX5_paysOne_103 (pM_w G a q2 (m_w q2)) (ws' := WM G a q2) (pM_w G a q2 (m_w q2)) (fun H locs hs => ?_)
    refine lv_lstore_n (lv' := [(2, .long q3), (0, .ref (a 0)), (1, .int x1)]) hx hb dX5_paysOne_106 rfl hl (by decide) rfl (fun ls hl => ?_)
    refine lv_iconst (v := (0 : Int32)) hx hb dX5_paysOne_107 (by decide) ?_
    refine lv_istore (lv' := [(4, .int (0 : Int32)), (2, .long q3), (0, .ref (a 0)), (1, .int x1)]) hx hb dX5_paysOne_108 hl (by decide) rfl (fun ls hl => ?_)
    refine hL110 x1 _ (fun S7 H locs ls hF hs hl => ?_) FU q2 q3 (0 : Int32) _ _ _ hF hs (lv_sub hl [2, 3, 1, 0] rfl)
    exact hJ135_n S7 x1 _ _ _ hF hs (lv_sub hl [0, 1] rfl)
  · have hF := (if_pos hc).symm.trans hF
    refine lv_aload_n hx hb dX5_paysOne_13 rfl (lv_at hl 0 rfl) ?_
    refine lv_aload_n hx hb dX5_paysOne_14 rfl (lv_at hl 0 rfl) ?_
    refine fg_X5_46 hx hb hown hts hE hs 0 rfl (v := .ref (a 11)) rfl dX5_paysOne_15 ?_
    obtain ⟨q13, hq13, hF⟩ := bd hF
    obtain ⟨S14, eS14, hF⟩ := nm_some hF
    refine sx_V (As := [.ref (a 11)]) (rest := []) (st1 := []) (c_X5_clears G l (a 0) (a 11) (m_out S) q13 hq13) v_X5_291 ⟨(Nat.le_of_ble_eq_true rfl), (Nat.le_of_ble_eq_true rfl)⟩ hx hb hml hown hts hE hA hs ⟨Nat.le_refl 0, Nat.le_refl 0⟩ 0 rfl rfl rfl rfl rfl hl.1 (Nat.le_of_ble_eq_true rfl) dX5_paysOne_18 (pM_out G a S (m_out S)) (ws' := WM G a S14) (by subst eS14; exact pM_out G a S q13) (fun H locs hs => ?_)
    refine lv_iconst (v := (0 : Int32)) hx hb dX5_paysOne_21 (by decide) ?_
    refine lv_istore_n (lv' := [(2, .int (0 : Int32)), (0, .ref (a 0)), (1, .int x1)]) hx hb dX5_paysOne_22 rfl hl (by decide) rfl (fun ls hl => ?_)
    refine hL23 x1 _ (fun S20 H locs ls hF hs hl => ?_) FU S14 (0 : Int32) _ _ _ hF hs (lv_sub hl [1, 2, 0] rfl)
    refine lv_iconst (v := (0 : Int32)) hx hb dX5_paysOne_54 (by decide) ?_
    refine lv_istore_n (lv' := [(2, .int (0 : Int32)), (0, .ref (a 0)), (1, .int x1)]) hx hb dX5_paysOne_55 rfl hl (by decide) rfl (fun ls hl => ?_)
    refine hL56 x1 _ (fun S26 H locs ls hF hs hl => ?_) FU S20 (0 : Int32) _ _ _ hF hs (lv_sub hl [1, 2, 0] rfl)
    refine lv_goto (tgt := 135) hx hb dX5_paysOne_89 (by decide) ?_
    exact hJ135_n S26 x1 _ _ _ hF hs (lv_sub hl [0, 1] rfl)
set_option maxHeartbeats 4000000 in
set_option maxRecDepth 100000 in
theorem c_X5_paysAll (G : GT) (l : Launch) (a : Nat → Nat) (S : MS) (r : MS) (hF : F_X5_paysAll S = some r) : MT G l yX5_paysAll cX5_paysAll 2 (none) 11 254 [.ref (a 0)] (WM G a S) none (WM G a r) := by
  refine MT.of (by decide) (Nat.le_of_ble_eq_true rfl) ?_
  intro p e s m args below meth c A ls hx hb hr hml hown hts hlk hE hA hs hl Q hQ
  have hl : lv_has ls 2 [(0, .ref (a 0))] := hl
  have hL2 : ∀ (k : MS → Option (MS)) (hk : ∀ (S : MS) (H : Heap) (locs : List Loc) (ls : Array Slot), k S = some r → SI G A s H locs (WM G a S) → lv_has ls 2 [] → W p l e (RM 11 254) s m args below meth c H locs 0 0 Q (F0 m 23 ls [])) (fu : Nat) (S : MS) (x1 : Int32) (H : Heap) (locs : List Loc) (ls : Array Slot), lo2 (B_X5_paysAll_2 k) fu S x1 = some r → SI G A s H locs (WM G a S) → lv_has ls 2 [(0, .ref (a 0)), (1, .int x1)] → W p l e (RM 11 254) s m args below meth c H locs 0 0 Q (F0 m 2 ls []) := by
    intro k hk fu
    induction fu with
    | zero =>
      intro S x1 H locs ls hF hs hl
      exact nomatch (show (none : Option (MS)) = some r from hF)
    | succ fu hrec =>
      intro S x1 H locs ls hF hs hl
      have hF : (B_X5_paysAll_2 k) (lo2 (B_X5_paysAll_2 k) fu) S x1 = some r := hF
      unfold B_X5_paysAll_2 at hF
      refine lv_iload_n hx hb dX5_paysAll_2 rfl (lv_at hl 1 rfl) ?_
      refine lv_aload_n hx hb dX5_paysAll_3 rfl (lv_at hl 0 rfl) ?_
      refine fg_X5_17 hx hb hown hts hE hs 0 rfl (v := .ref (a 2)) rfl dX5_paysAll_4 ?_
      refine lv_iconst (v := (0 : Int32)) hx hb dX5_paysAll_7 (by decide) ?_
      obtain ⟨v1, hv1, hF⟩ := bd hF
      refine sx_iald hx hb hE hs 2 (f := m_w S) rfl hv1 dX5_paysAll_8 ?_
      refine lv_icmp_ge (tgt := 23) hx hb dX5_paysAll_9 (by decide) (fun hc => ?_) (fun hc => ?_)
      · have hF := (if_pos hc).symm.trans hF
        exact hk S _ _ _ hF hs (lv_sub hl [] rfl)
      · have hF := (if_neg hc).symm.trans hF
        refine lv_aload_n hx hb dX5_paysAll_12 rfl (lv_at hl 0 rfl) ?_
        refine lv_iload_n hx hb dX5_paysAll_13 rfl (lv_at hl 1 rfl) ?_
        obtain ⟨q2, hq2, hF⟩ := bd hF
        refine sx_V (As := [.int x1]) (rest := []) (st1 := []) (c_X5_paysOne G l a S x1 q2 hq2) v_X5_315 ⟨(Nat.le_of_ble_eq_true rfl), (Nat.le_of_ble_eq_true rfl)⟩ hx hb hml hown hts hE hA hs ⟨Nat.le_refl 0, Nat.le_refl 0⟩ 0 rfl rfl rfl rfl rfl hl.1 (Nat.le_of_ble_eq_true rfl) dX5_paysAll_14 (pmW _) (ws' := WM G a q2) (pmW _) (fun H locs hs => ?_)
        obtain ⟨v3, ev3, hF⟩ := nm_some hF
        refine lv_iinc (v := v3) (lv' := [(1, .int v3), (0, .ref (a 0))]) hx hb dX5_paysAll_17 hl (k := 1) rfl (by rw [ev3]; rfl) (by decide) rfl (fun ls hl => ?_)
        refine lv_goto (tgt := 2) hx hb dX5_paysAll_20 (by decide) ?_
        exact hrec q2 v3 _ _ _ hF hs (lv_sub hl [1, 0] rfl)
  unfold F_X5_paysAll at hF
  refine lv_iconst (v := (0 : Int32)) hx hb dX5_paysAll_0 (by decide) ?_
  refine lv_istore_n (lv' := [(1, .int (0 : Int32)), (0, .ref (a 0))]) hx hb dX5_paysAll_1 rfl hl (by decide) rfl (fun ls hl => ?_)
  refine hL2 _ (fun S4 H locs ls hF hs hl => ?_) FU S (0 : Int32) _ _ _ hF hs (lv_sub hl [1, 0] rfl)
  exact sx_vret hx hb hr hlk hQ (congrArg (fun z => WM G a z) (Option.some.inj hF)) hs dX5_paysAll_23
set_option maxHeartbeats 4000000 in
set_option maxRecDepth 100000 in
theorem c_X5_lays (G : GT) (l : Launch) (a : Nat → Nat) (S : MS) (r : MS) (hF : F_X5_lays S = some r) : MT G l yX5_lays cX5_lays 2 (none) 0 0 [.ref (a 0)] (WM G a S) none (WM G a r) := by
  refine MT.of (by decide) (Nat.le_of_ble_eq_true rfl) ?_
  intro p e s m args below meth c A ls hx hb hr hml hown hts hlk hE hA hs hl Q hQ
  have hl : lv_has ls 2 [(0, .ref (a 0))] := hl
  have hL2 : ∀ (k : MS → Option (MS)) (hk : ∀ (S : MS) (H : Heap) (locs : List Loc) (ls : Array Slot), k S = some r → SI G A s H locs (WM G a S) → lv_has ls 2 [] → W p l e (RM 0 0) s m args below meth c H locs 0 0 Q (F0 m 26 ls [])) (fu : Nat) (S : MS) (x1 : Int32) (H : Heap) (locs : List Loc) (ls : Array Slot), lo2 (B_X5_lays_2 k) fu S x1 = some r → SI G A s H locs (WM G a S) → lv_has ls 2 [(0, .ref (a 0)), (1, .int x1)] → W p l e (RM 0 0) s m args below meth c H locs 0 0 Q (F0 m 2 ls []) := by
    intro k hk fu
    induction fu with
    | zero =>
      intro S x1 H locs ls hF hs hl
      exact nomatch (show (none : Option (MS)) = some r from hF)
    | succ fu hrec =>
      intro S x1 H locs ls hF hs hl
      have hF : (B_X5_lays_2 k) (lo2 (B_X5_lays_2 k) fu) S x1 = some r := hF
      unfold B_X5_lays_2 at hF
      refine lv_iload_n hx hb dX5_lays_2 rfl (lv_at hl 1 rfl) ?_
      refine lv_bipush (v := (82 : Int32)) hx hb dX5_lays_3 (by decide) ?_
      refine lv_icmp_ge (tgt := 26) hx hb dX5_lays_5 (by decide) (fun hc => ?_) (fun hc => ?_)
      · have hF := (if_pos hc).symm.trans hF
        exact hk S _ _ _ hF hs (lv_sub hl [] rfl)
      · have hF := (if_neg hc).symm.trans hF
        refine lv_aload_n hx hb dX5_lays_8 rfl (lv_at hl 0 rfl) ?_
        refine fg_X5_17 hx hb hown hts hE hs 0 rfl (v := .ref (a 2)) rfl dX5_lays_9 ?_
        refine lv_iload_n hx hb dX5_lays_12 rfl (lv_at hl 1 rfl) ?_
        refine lv_aload_n hx hb dX5_lays_13 rfl (lv_at hl 0 rfl) ?_
        refine fg_X5_13 hx hb hown hts hE hs 0 rfl (v := .ref (a 1)) rfl dX5_lays_14 ?_
        refine lv_iload_n hx hb dX5_lays_17 rfl (lv_at hl 1 rfl) ?_
        obtain ⟨v1, hv1, hF⟩ := bd hF
        refine sx_iald hx hb hE hs 1 (f := m_s S) rfl hv1 dX5_lays_18 ?_
        obtain ⟨f2, hf2, hF⟩ := bd hF
        obtain ⟨S3, eS3, hF⟩ := nm_some hF
        refine sx_iast hx hb hE hs 2 (f := m_w S) rfl hf2 (ws' := WM G a S3) (by subst eS3; rfl) dX5_lays_19 (fun H locs hs => ?_)
        obtain ⟨v4, ev4, hF⟩ := nm_some hF
        refine lv_iinc (v := v4) (lv' := [(1, .int v4), (0, .ref (a 0))]) hx hb dX5_lays_20 hl (k := 1) rfl (by rw [ev4]; rfl) (by decide) rfl (fun ls hl => ?_)
        refine lv_goto (tgt := 2) hx hb dX5_lays_23 (by decide) ?_
        exact hrec S3 v4 _ _ _ hF hs (lv_sub hl [1, 0] rfl)
  unfold F_X5_lays at hF
  refine lv_iconst (v := (0 : Int32)) hx hb dX5_lays_0 (by decide) ?_
  refine lv_istore_n (lv' := [(1, .int (0 : Int32)), (0, .ref (a 0))]) hx hb dX5_lays_1 rfl hl (by decide) rfl (fun ls hl => ?_)
  refine hL2 _ (fun S5 H locs ls hF hs hl => ?_) FU S (0 : Int32) _ _ _ hF hs (lv_sub hl [1, 0] rfl)
  exact sx_vret hx hb hr hlk hQ (congrArg (fun z => WM G a z) (Option.some.inj hF)) hs dX5_lays_26
set_option maxHeartbeats 4000000 in
set_option maxRecDepth 100000 in
theorem c_X5_laysPaid (G : GT) (l : Launch) (a : Nat → Nat) (S : MS) (r : MS) (hF : F_X5_laysPaid S = some r) : MT G l yX5_laysPaid cX5_laysPaid 1 (none) 12 275 [.ref (a 0)] (WM G a S) none (WM G a r) := by
  refine MT.of (by decide) (Nat.le_of_ble_eq_true rfl) ?_
  intro p e s m args below meth c A ls hx hb hr hml hown hts hlk hE hA hs hl Q hQ
  have hl : lv_has ls 1 [(0, .ref (a 0))] := hl
  unfold F_X5_laysPaid at hF
  refine lv_aload_n hx hb dX5_laysPaid_0 rfl (lv_at hl 0 rfl) ?_
  obtain ⟨q1, hq1, hF⟩ := bd hF
  refine sx_V (As := []) (rest := []) (st1 := []) (c_X5_lays G l a S q1 hq1) v_X5_318 ⟨(Nat.le_of_ble_eq_true rfl), (Nat.le_of_ble_eq_true rfl)⟩ hx hb hml hown hts hE hA hs ⟨Nat.le_refl 0, Nat.le_refl 0⟩ 0 rfl rfl rfl rfl rfl hl.1 (Nat.le_of_ble_eq_true rfl) dX5_laysPaid_1 (pmW _) (ws' := WM G a q1) (pmW _) (fun H locs hs => ?_)
  refine lv_aload_n hx hb dX5_laysPaid_4 rfl (lv_at hl 0 rfl) ?_
  obtain ⟨q2, hq2, hF⟩ := bd hF
  refine sx_V (As := []) (rest := []) (st1 := []) (c_X5_paysAll G l a q1 q2 hq2) v_X5_321 ⟨(Nat.le_of_ble_eq_true rfl), (Nat.le_of_ble_eq_true rfl)⟩ hx hb hml hown hts hE hA hs ⟨Nat.le_refl 0, Nat.le_refl 0⟩ 0 rfl rfl rfl rfl rfl hl.1 (Nat.le_of_ble_eq_true rfl) dX5_laysPaid_5 (pmW _) (ws' := WM G a q2) (pmW _) (fun H locs hs => ?_)
  exact sx_vret hx hb hr hlk hQ (congrArg (fun z => WM G a z) (Option.some.inj hF)) hs dX5_laysPaid_8
set_option maxHeartbeats 4000000 in
set_option maxRecDepth 100000 in
theorem c_X5_paidTo (G : GT) (l : Launch) (a : Nat → Nat) (S : MS) (x1 : Int32) (r : Int64) (hF : F_X5_paidTo S x1 = some r) : MT G l yX5_paidTo cX5_paidTo 5 (some .long) 0 0 [.ref (a 0), .int x1] (WM G a S) (some (.long r)) (WM G a S) := by
  refine MT.of (by decide) (Nat.le_of_ble_eq_true rfl) ?_
  intro p e s m args below meth c A ls hx hb hr hml hown hts hlk hE hA hs hl Q hQ
  have hl : lv_has ls 5 [(0, .ref (a 0)), (1, .int x1)] := hl
  have hL5 : ∀ (x1 : Int32) (k : Int64 → Option (Int64)) (hk : ∀ (x2 : Int64) (H : Heap) (locs : List Loc) (ls : Array Slot), k x2 = some r → SI G A s H locs (WM G a S) → lv_has ls 5 [(2, .long x2)] → W p l e (RM 0 0) s m args below meth c H locs 0 0 Q (F0 m 39 ls [])) (fu : Nat) (x2 : Int64) (x4 : Int32) (H : Heap) (locs : List Loc) (ls : Array Slot), lo2 (B_X5_paidTo_5 S x1 k) fu x2 x4 = some r → SI G A s H locs (WM G a S) → lv_has ls 5 [(0, .ref (a 0)), (1, .int x1), (2, .long x2), (4, .int x4)] → W p l e (RM 0 0) s m args below meth c H locs 0 0 Q (F0 m 5 ls []) := by
    intro x1 k hk fu
    induction fu with
    | zero =>
      intro x2 x4 H locs ls hF hs hl
      exact nomatch (show (none : Option (Int64)) = some r from hF)
    | succ fu hrec =>
      intro x2 x4 H locs ls hF hs hl
      have hF : (B_X5_paidTo_5 S x1 k) (lo2 (B_X5_paidTo_5 S x1 k) fu) x2 x4 = some r := hF
      unfold B_X5_paidTo_5 at hF
      refine lv_iload hx hb dX5_paidTo_5 (lv_at hl 3 rfl) ?_
      refine lv_aload_n hx hb dX5_paidTo_7 rfl (lv_at hl 0 rfl) ?_
      refine fg_X5_17 hx hb hown hts hE hs 0 rfl (v := .ref (a 2)) rfl dX5_paidTo_8 ?_
      refine lv_iconst (v := (0 : Int32)) hx hb dX5_paidTo_11 (by decide) ?_
      obtain ⟨v1, hv1, hF⟩ := bd hF
      refine sx_iald hx hb hE hs 2 (f := m_w S) rfl hv1 dX5_paidTo_12 ?_
      refine lv_icmp_ge (tgt := 39) hx hb dX5_paidTo_13 (by decide) (fun hc => ?_) (fun hc => ?_)
      · have hF := (if_pos hc).symm.trans hF
        exact hk x2 _ _ _ hF hs (lv_sub hl [2] rfl)
      · have hF := (if_neg hc).symm.trans hF
        refine lv_lload_n hx hb dX5_paidTo_16 rfl (lv_at hl 2 rfl) ?_
        refine lv_aload_n hx hb dX5_paidTo_17 rfl (lv_at hl 0 rfl) ?_
        refine fg_X5_49 hx hb hown hts hE hs 0 rfl (v := .ref (a 12)) rfl dX5_paidTo_18 ?_
        refine lv_bipush (v := (16 : Int32)) hx hb dX5_paidTo_21 (by decide) ?_
        refine lv_iload hx hb dX5_paidTo_23 (lv_at hl 3 rfl) ?_
        refine lv_imul hx hb dX5_paidTo_25 ?_
        refine lv_iconst (v := (4 : Int32)) hx hb dX5_paidTo_26 (by decide) ?_
        refine lv_iadd hx hb dX5_paidTo_27 ?_
        refine lv_iload_n hx hb dX5_paidTo_28 rfl (lv_at hl 1 rfl) ?_
        refine lv_iadd hx hb dX5_paidTo_29 ?_
        obtain ⟨v2, hv2, hF⟩ := bd hF
        refine sx_lald hx hb hE hs 12 (f := m_paid S) rfl hv2 dX5_paidTo_30 ?_
        refine lv_ladd hx hb dX5_paidTo_31 ?_
        obtain ⟨v3, ev3, hF⟩ := nm_some hF
        refine sx_topl ev3 ?_
        refine lv_lstore_n (lv' := [(2, .long v3), (0, .ref (a 0)), (1, .int x1), (4, .int x4)]) hx hb dX5_paidTo_32 rfl hl (by decide) rfl (fun ls hl => ?_)
        obtain ⟨v4, ev4, hF⟩ := nm_some hF
        refine lv_iinc (v := v4) (lv' := [(4, .int v4), (2, .long v3), (0, .ref (a 0)), (1, .int x1)]) hx hb dX5_paidTo_33 hl (k := 3) rfl (by rw [ev4]; rfl) (by decide) rfl (fun ls hl => ?_)
        refine lv_goto (tgt := 5) hx hb dX5_paidTo_36 (by decide) ?_
        exact hrec v3 v4 _ _ _ hF hs (lv_sub hl [2, 3, 1, 0] rfl)
  unfold F_X5_paidTo at hF
  refine lv_lconst (v := (0 : Int64)) hx hb dX5_paidTo_0 (by decide) ?_
  refine lv_lstore_n (lv' := [(2, .long (0 : Int64)), (0, .ref (a 0)), (1, .int x1)]) hx hb dX5_paidTo_1 rfl hl (by decide) rfl (fun ls hl => ?_)
  refine lv_iconst (v := (0 : Int32)) hx hb dX5_paidTo_2 (by decide) ?_
  refine lv_istore (lv' := [(4, .int (0 : Int32)), (2, .long (0 : Int64)), (0, .ref (a 0)), (1, .int x1)]) hx hb dX5_paidTo_3 hl (by decide) rfl (fun ls hl => ?_)
  refine hL5 x1 _ (fun z5 H locs ls hF hs hl => ?_) FU (0 : Int64) (0 : Int32) _ _ _ hF hs (lv_sub hl [2, 3, 1, 0] rfl)
  refine lv_lload_n hx hb dX5_paidTo_39 rfl (lv_at hl 0 rfl) ?_
  exact sx_lret hx hb hr hlk hQ (Option.some.inj hF) rfl hs dX5_paidTo_40
set_option maxHeartbeats 4000000 in
set_option maxRecDepth 100000 in
theorem c_X5_givenOf (G : GT) (l : Launch) (a : Nat → Nat) (S : MS) (x1 : Int32) (r : Int64) (hF : F_X5_givenOf S x1 = some r) : MT G l yX5_givenOf cX5_givenOf 3 (some .long) 7 160 [.ref (a 0), .int x1] (WM G a S) (some (.long r)) (WM G a S) := by
  refine MT.of (by decide) (Nat.le_of_ble_eq_true rfl) ?_
  intro p e s m args below meth c A ls hx hb hr hml hown hts hlk hE hA hs hl Q hQ
  have hl : lv_has ls 3 [(0, .ref (a 0)), (1, .int x1)] := hl
  unfold F_X5_givenOf at hF
  refine lv_aload_n hx hb dX5_givenOf_0 rfl (lv_at hl 0 rfl) ?_
  refine fg_X5_17 hx hb hown hts hE hs 0 rfl (v := .ref (a 2)) rfl dX5_givenOf_1 ?_
  refine lv_iload_n hx hb dX5_givenOf_4 rfl (lv_at hl 1 rfl) ?_
  refine lv_iconst (v := (1 : Int32)) hx hb dX5_givenOf_5 (by decide) ?_
  obtain ⟨q1, hq1, hF⟩ := bd hF
  refine sx_S (As := [.ref (a 2), .int x1, .int (1 : Int32)]) (rest := []) (st1 := [.int q1]) (c_X5_ofClaim G l (a 2) (m_w S) x1 (1 : Int32) q1 hq1) v_X5_255 ⟨(Nat.le_of_ble_eq_true rfl), (Nat.le_of_ble_eq_true rfl)⟩ hx hb hml hown hts hE hA hs ⟨Nat.le_refl 0, Nat.le_refl 0⟩ rfl rfl rfl hl.1 (Nat.le_of_ble_eq_true rfl) dX5_givenOf_6 (pM_w G a S (m_w S)) (ws' := WM G a S) (pM_w G a S (m_w S)) (fun H locs hs => ?_)
  refine lv_istore_n (lv' := [(2, .int q1), (0, .ref (a 0)), (1, .int x1)]) hx hb dX5_givenOf_9 rfl hl (by decide) rfl (fun ls hl => ?_)
  refine lv_aload_n hx hb dX5_givenOf_10 rfl (lv_at hl 1 rfl) ?_
  refine fg_X5_17 hx hb hown hts hE hs 0 rfl (v := .ref (a 2)) rfl dX5_givenOf_11 ?_
  refine lv_iload_n hx hb dX5_givenOf_14 rfl (lv_at hl 2 rfl) ?_
  refine lv_iconst (v := (0 : Int32)) hx hb dX5_givenOf_15 (by decide) ?_
  obtain ⟨q2, hq2, hF⟩ := bd hF
  refine sx_S (As := [.ref (a 2), .int x1, .int (0 : Int32)]) (rest := []) (st1 := [.int q2]) (c_X5_ofClaim G l (a 2) (m_w S) x1 (0 : Int32) q2 hq2) v_X5_255 ⟨(Nat.le_of_ble_eq_true rfl), (Nat.le_of_ble_eq_true rfl)⟩ hx hb hml hown hts hE hA hs ⟨Nat.le_refl 0, Nat.le_refl 0⟩ rfl rfl rfl hl.1 (Nat.le_of_ble_eq_true rfl) dX5_givenOf_16 (pM_w G a S (m_w S)) (ws' := WM G a S) (pM_w G a S (m_w S)) (fun H locs hs => ?_)
  refine lv_if_ne (tgt := 34) hx hb dX5_givenOf_19 (by decide) (fun hc => ?_) (fun hc => ?_)
  · have hF := (if_neg hc).symm.trans hF
    refine lv_lconst (v := (0 : Int64)) hx hb dX5_givenOf_34 (by decide) ?_
    exact sx_lret hx hb hr hlk hQ (Option.some.inj hF) rfl hs dX5_givenOf_35
  · have hF := (if_pos hc).symm.trans hF
    refine lv_aload_n hx hb dX5_givenOf_22 rfl (lv_at hl 1 rfl) ?_
    refine fg_X5_17 hx hb hown hts hE hs 0 rfl (v := .ref (a 2)) rfl dX5_givenOf_23 ?_
    refine lv_iload_n hx hb dX5_givenOf_26 rfl (lv_at hl 0 rfl) ?_
    refine lv_iconst (v := (4 : Int32)) hx hb dX5_givenOf_27 (by decide) ?_
    obtain ⟨q3, hq3, hF⟩ := bd hF
    refine sx_S (As := [.ref (a 2), .int q1, .int (4 : Int32)]) (rest := []) (st1 := [.int q3]) (c_X5_ofShip G l (a 2) (m_w S) q1 (4 : Int32) q3 hq3) v_X5_243 ⟨(Nat.le_of_ble_eq_true rfl), (Nat.le_of_ble_eq_true rfl)⟩ hx hb hml hown hts hE hA hs ⟨Nat.le_refl 0, Nat.le_refl 0⟩ rfl rfl rfl hl.1 (Nat.le_of_ble_eq_true rfl) dX5_givenOf_28 (pM_w G a S (m_w S)) (ws' := WM G a S) (pM_w G a S (m_w S)) (fun H locs hs => ?_)
    refine lv_if_ne (tgt := 36) hx hb dX5_givenOf_31 (by decide) (fun hc => ?_) (fun hc => ?_)
    · have hF := (if_neg hc).symm.trans hF
      refine lv_aload_n hx hb dX5_givenOf_36 rfl (lv_at hl 1 rfl) ?_
      refine fg_X5_17 hx hb hown hts hE hs 0 rfl (v := .ref (a 2)) rfl dX5_givenOf_37 ?_
      refine lv_iload_n hx hb dX5_givenOf_40 rfl (lv_at hl 2 rfl) ?_
      obtain ⟨q4, hq4, hF⟩ := bd hF
      refine sx_S (As := [.ref (a 2), .int x1]) (rest := []) (st1 := [.long q4]) (c_X5_backOf G l (a 2) (m_w S) x1 q4 hq4) v_X5_324 ⟨(Nat.le_of_ble_eq_true rfl), (Nat.le_of_ble_eq_true rfl)⟩ hx hb hml hown hts hE hA hs ⟨Nat.le_refl 0, Nat.le_refl 0⟩ rfl rfl rfl hl.1 (Nat.le_of_ble_eq_true rfl) dX5_givenOf_41 (pM_w G a S (m_w S)) (ws' := WM G a S) (pM_w G a S (m_w S)) (fun H locs hs => ?_)
      refine lv_aload_n hx hb dX5_givenOf_44 rfl (lv_at hl 1 rfl) ?_
      refine lv_iload_n hx hb dX5_givenOf_45 rfl (lv_at hl 2 rfl) ?_
      obtain ⟨q5, hq5, hF⟩ := bd hF
      refine sx_V (As := [.int x1]) (rest := [.long q4]) (st1 := [.long q5, .long q4]) (c_X5_paidTo G l a S x1 q5 hq5) v_X5_328 ⟨(Nat.le_of_ble_eq_true rfl), (Nat.le_of_ble_eq_true rfl)⟩ hx hb hml hown hts hE hA hs ⟨Nat.le_refl 0, Nat.le_refl 0⟩ 0 rfl rfl rfl rfl rfl hl.1 (Nat.le_of_ble_eq_true rfl) dX5_givenOf_46 (pmW _) (ws' := WM G a S) (pmW _) (fun H locs hs => ?_)
      obtain ⟨q6, hq6, hF⟩ := bd hF
      refine sx_S (As := [.long q4, .long q5]) (rest := []) (st1 := [.long q6]) (c_X5_lesser G l  q4 q5 q6 hq6) v_X5_282 ⟨(Nat.le_of_ble_eq_true rfl), (Nat.le_of_ble_eq_true rfl)⟩ hx hb hml hown hts hE hA hs ⟨Nat.le_refl 0, Nat.le_refl 0⟩ rfl rfl rfl hl.1 (Nat.le_of_ble_eq_true rfl) dX5_givenOf_49 (List.Perm.refl _) (ws' := WM G a S) (List.Perm.refl _) (fun H locs hs => ?_)
      exact sx_lret hx hb hr hlk hQ (Option.some.inj hF) rfl hs dX5_givenOf_52
    · have hF := (if_pos hc).symm.trans hF
      refine lv_lconst (v := (0 : Int64)) hx hb dX5_givenOf_34 (by decide) ?_
      exact sx_lret hx hb hr hlk hQ (Option.some.inj hF) rfl hs dX5_givenOf_35
set_option maxHeartbeats 4000000 in
set_option maxRecDepth 100000 in
theorem c_X5_paidBy (G : GT) (l : Launch) (a : Nat → Nat) (S : MS) (x1 : Int32) (r : Int64) (hF : F_X5_paidBy S x1 = some r) : MT G l yX5_paidBy cX5_paidBy 5 (some .long) 0 0 [.ref (a 0), .int x1] (WM G a S) (some (.long r)) (WM G a S) := by
  refine MT.of (by decide) (Nat.le_of_ble_eq_true rfl) ?_
  intro p e s m args below meth c A ls hx hb hr hml hown hts hlk hE hA hs hl Q hQ
  have hl : lv_has ls 5 [(0, .ref (a 0)), (1, .int x1)] := hl
  have hL5 : ∀ (x1 : Int32) (k : Int64 → Option (Int64)) (hk : ∀ (x2 : Int64) (H : Heap) (locs : List Loc) (ls : Array Slot), k x2 = some r → SI G A s H locs (WM G a S) → lv_has ls 5 [(2, .long x2)] → W p l e (RM 0 0) s m args below meth c H locs 0 0 Q (F0 m 33 ls [])) (fu : Nat) (x2 : Int64) (x4 : Int32) (H : Heap) (locs : List Loc) (ls : Array Slot), lo2 (B_X5_paidBy_5 S x1 k) fu x2 x4 = some r → SI G A s H locs (WM G a S) → lv_has ls 5 [(0, .ref (a 0)), (1, .int x1), (2, .long x2), (4, .int x4)] → W p l e (RM 0 0) s m args below meth c H locs 0 0 Q (F0 m 5 ls []) := by
    intro x1 k hk fu
    induction fu with
    | zero =>
      intro x2 x4 H locs ls hF hs hl
      exact nomatch (show (none : Option (Int64)) = some r from hF)
    | succ fu hrec =>
      intro x2 x4 H locs ls hF hs hl
      have hF : (B_X5_paidBy_5 S x1 k) (lo2 (B_X5_paidBy_5 S x1 k) fu) x2 x4 = some r := hF
      unfold B_X5_paidBy_5 at hF
      refine lv_iload hx hb dX5_paidBy_5 (lv_at hl 3 rfl) ?_
      refine lv_bipush (v := (16 : Int32)) hx hb dX5_paidBy_7 (by decide) ?_
      refine lv_icmp_ge (tgt := 33) hx hb dX5_paidBy_9 (by decide) (fun hc => ?_) (fun hc => ?_)
      · have hF := (if_pos hc).symm.trans hF
        exact hk x2 _ _ _ hF hs (lv_sub hl [2] rfl)
      · have hF := (if_neg hc).symm.trans hF
        refine lv_lload_n hx hb dX5_paidBy_12 rfl (lv_at hl 2 rfl) ?_
        refine lv_aload_n hx hb dX5_paidBy_13 rfl (lv_at hl 0 rfl) ?_
        refine fg_X5_49 hx hb hown hts hE hs 0 rfl (v := .ref (a 12)) rfl dX5_paidBy_14 ?_
        refine lv_bipush (v := (16 : Int32)) hx hb dX5_paidBy_17 (by decide) ?_
        refine lv_iload_n hx hb dX5_paidBy_19 rfl (lv_at hl 1 rfl) ?_
        refine lv_imul hx hb dX5_paidBy_20 ?_
        refine lv_iload hx hb dX5_paidBy_21 (lv_at hl 3 rfl) ?_
        refine lv_iadd hx hb dX5_paidBy_23 ?_
        obtain ⟨v1, hv1, hF⟩ := bd hF
        refine sx_lald hx hb hE hs 12 (f := m_paid S) rfl hv1 dX5_paidBy_24 ?_
        refine lv_ladd hx hb dX5_paidBy_25 ?_
        obtain ⟨v2, ev2, hF⟩ := nm_some hF
        refine sx_topl ev2 ?_
        refine lv_lstore_n (lv' := [(2, .long v2), (0, .ref (a 0)), (1, .int x1), (4, .int x4)]) hx hb dX5_paidBy_26 rfl hl (by decide) rfl (fun ls hl => ?_)
        obtain ⟨v3, ev3, hF⟩ := nm_some hF
        refine lv_iinc (v := v3) (lv' := [(4, .int v3), (2, .long v2), (0, .ref (a 0)), (1, .int x1)]) hx hb dX5_paidBy_27 hl (k := 3) rfl (by rw [ev3]; rfl) (by decide) rfl (fun ls hl => ?_)
        refine lv_goto (tgt := 5) hx hb dX5_paidBy_30 (by decide) ?_
        exact hrec v2 v3 _ _ _ hF hs (lv_sub hl [2, 3, 1, 0] rfl)
  unfold F_X5_paidBy at hF
  refine lv_lconst (v := (0 : Int64)) hx hb dX5_paidBy_0 (by decide) ?_
  refine lv_lstore_n (lv' := [(2, .long (0 : Int64)), (0, .ref (a 0)), (1, .int x1)]) hx hb dX5_paidBy_1 rfl hl (by decide) rfl (fun ls hl => ?_)
  refine lv_iconst (v := (0 : Int32)) hx hb dX5_paidBy_2 (by decide) ?_
  refine lv_istore (lv' := [(4, .int (0 : Int32)), (2, .long (0 : Int64)), (0, .ref (a 0)), (1, .int x1)]) hx hb dX5_paidBy_3 hl (by decide) rfl (fun ls hl => ?_)
  refine hL5 x1 _ (fun z4 H locs ls hF hs hl => ?_) FU (0 : Int64) (0 : Int32) _ _ _ hF hs (lv_sub hl [2, 3, 1, 0] rfl)
  refine lv_lload_n hx hb dX5_paidBy_33 rfl (lv_at hl 0 rfl) ?_
  exact sx_lret hx hb hr hlk hQ (Option.some.inj hF) rfl hs dX5_paidBy_34
set_option maxHeartbeats 4000000 in
set_option maxRecDepth 100000 in
theorem c_X5_netOf (G : GT) (l : Launch) (a : Nat → Nat) (S : MS) (x1 : Int32) (r : Int64) (hF : F_X5_netOf S x1 = some r) : MT G l yX5_netOf cX5_netOf 5 (some .long) 8 182 [.ref (a 0), .int x1] (WM G a S) (some (.long r)) (WM G a S) := by
  refine MT.of (by decide) (Nat.le_of_ble_eq_true rfl) ?_
  intro p e s m args below meth c A ls hx hb hr hml hown hts hlk hE hA hs hl Q hQ
  have hl : lv_has ls 5 [(0, .ref (a 0)), (1, .int x1)] := hl
  have hL21 : ∀ (x1 : Int32) (k : Int64 → Option (Int64)) (hk : ∀ (x2 : Int64) (H : Heap) (locs : List Loc) (ls : Array Slot), k x2 = some r → SI G A s H locs (WM G a S) → lv_has ls 5 [(0, .ref (a 0)), (1, .int x1), (2, .long x2)] → W p l e (RM 8 182) s m args below meth c H locs 0 0 Q (F0 m 53 ls [])) (fu : Nat) (x2 : Int64) (x4 : Int32) (H : Heap) (locs : List Loc) (ls : Array Slot), lo2 (B_X5_netOf_21 S x1 k) fu x2 x4 = some r → SI G A s H locs (WM G a S) → lv_has ls 5 [(0, .ref (a 0)), (1, .int x1), (2, .long x2), (4, .int x4)] → W p l e (RM 8 182) s m args below meth c H locs 0 0 Q (F0 m 21 ls []) := by
    intro x1 k hk fu
    induction fu with
    | zero =>
      intro x2 x4 H locs ls hF hs hl
      exact nomatch (show (none : Option (Int64)) = some r from hF)
    | succ fu hrec =>
      intro x2 x4 H locs ls hF hs hl
      have hF : (B_X5_netOf_21 S x1 k) (lo2 (B_X5_netOf_21 S x1 k) fu) x2 x4 = some r := hF
      unfold B_X5_netOf_21 at hF
      refine lv_iload hx hb dX5_netOf_21 (lv_at hl 3 rfl) ?_
      refine lv_aload_n hx hb dX5_netOf_23 rfl (lv_at hl 0 rfl) ?_
      refine fg_X5_17 hx hb hown hts hE hs 0 rfl (v := .ref (a 2)) rfl dX5_netOf_24 ?_
      refine lv_iconst (v := (0 : Int32)) hx hb dX5_netOf_27 (by decide) ?_
      obtain ⟨v4, hv4, hF⟩ := bd hF
      refine sx_iald hx hb hE hs 2 (f := m_w S) rfl hv4 dX5_netOf_28 ?_
      refine lv_icmp_ge (tgt := 53) hx hb dX5_netOf_29 (by decide) (fun hc => ?_) (fun hc => ?_)
      · have hF := (if_pos hc).symm.trans hF
        exact hk x2 _ _ _ hF hs (lv_sub hl [0, 1, 2] rfl)
      · have hF := (if_neg hc).symm.trans hF
        refine lv_lload_n hx hb dX5_netOf_32 rfl (lv_at hl 2 rfl) ?_
        refine lv_aload_n hx hb dX5_netOf_33 rfl (lv_at hl 0 rfl) ?_
        refine fg_X5_49 hx hb hown hts hE hs 0 rfl (v := .ref (a 12)) rfl dX5_netOf_34 ?_
        refine lv_bipush (v := (16 : Int32)) hx hb dX5_netOf_37 (by decide) ?_
        refine lv_iload hx hb dX5_netOf_39 (lv_at hl 3 rfl) ?_
        refine lv_imul hx hb dX5_netOf_41 ?_
        refine lv_iload_n hx hb dX5_netOf_42 rfl (lv_at hl 1 rfl) ?_
        refine lv_iadd hx hb dX5_netOf_43 ?_
        obtain ⟨v5, hv5, hF⟩ := bd hF
        refine sx_lald hx hb hE hs 12 (f := m_paid S) rfl hv5 dX5_netOf_44 ?_
        refine lv_ladd hx hb dX5_netOf_45 ?_
        obtain ⟨v6, ev6, hF⟩ := nm_some hF
        refine sx_topl ev6 ?_
        refine lv_lstore_n (lv' := [(2, .long v6), (0, .ref (a 0)), (1, .int x1), (4, .int x4)]) hx hb dX5_netOf_46 rfl hl (by decide) rfl (fun ls hl => ?_)
        obtain ⟨v7, ev7, hF⟩ := nm_some hF
        refine lv_iinc (v := v7) (lv' := [(4, .int v7), (2, .long v6), (0, .ref (a 0)), (1, .int x1)]) hx hb dX5_netOf_47 hl (k := 3) rfl (by rw [ev7]; rfl) (by decide) rfl (fun ls hl => ?_)
        refine lv_goto (tgt := 21) hx hb dX5_netOf_50 (by decide) ?_
        exact hrec v6 v7 _ _ _ hF hs (lv_sub hl [2, 3, 1, 0] rfl)
  have hJ92_56 : ∀ (x1 : Int32) (k : Int64 → Option (Int64)) (rc : Int64 → Int32 → Option (Int64)) (hk : ∀ (x2 : Int64) (H : Heap) (locs : List Loc) (ls : Array Slot), k x2 = some r → SI G A s H locs (WM G a S) → lv_has ls 5 [(2, .long x2)] → W p l e (RM 8 182) s m args below meth c H locs 0 0 Q (F0 m 100 ls [])) (hrec : ∀ (x2 : Int64) (x4 : Int32) (H : Heap) (locs : List Loc) (ls : Array Slot), rc x2 x4 = some r → SI G A s H locs (WM G a S) → lv_has ls 5 [(0, .ref (a 0)), (1, .int x1), (2, .long x2), (4, .int x4)] → W p l e (RM 8 182) s m args below meth c H locs 0 0 Q (F0 m 56 ls [])) (x4 : Int32) (y0 : Int64) (y1 : Int64) (H : Heap) (locs : List Loc) (ls : Array Slot), J_X5_netOf_92 k rc S x1 x4 y0 y1 = some r → SI G A s H locs (WM G a S) → lv_has ls 5 [(0, .ref (a 0)), (1, .int x1), (4, .int x4)] → W p l e (RM 8 182) s m args below meth c H locs 0 0 Q (F0 m 92 ls [.long y0, .long y1]) := by
    intro x1 k rc hk hrec x4 y0 y1 H locs ls hF hs hl
    unfold J_X5_netOf_92 at hF
    refine lv_ladd hx hb dX5_netOf_92 ?_
    obtain ⟨v11, ev11, hF⟩ := nm_some hF
    refine sx_topl ev11 ?_
    refine lv_lstore_n (lv' := [(2, .long v11), (0, .ref (a 0)), (1, .int x1), (4, .int x4)]) hx hb dX5_netOf_93 rfl hl (by decide) rfl (fun ls hl => ?_)
    obtain ⟨v12, ev12, hF⟩ := nm_some hF
    refine lv_iinc (v := v12) (lv' := [(4, .int v12), (2, .long v11), (0, .ref (a 0)), (1, .int x1)]) hx hb dX5_netOf_94 hl (k := 3) rfl (by rw [ev12]; rfl) (by decide) rfl (fun ls hl => ?_)
    refine lv_goto (tgt := 56) hx hb dX5_netOf_97 (by decide) ?_
    exact hrec v11 v12 _ _ _ hF hs (lv_sub hl [2, 3, 1, 0] rfl)
  have hL56 : ∀ (x1 : Int32) (k : Int64 → Option (Int64)) (hk : ∀ (x2 : Int64) (H : Heap) (locs : List Loc) (ls : Array Slot), k x2 = some r → SI G A s H locs (WM G a S) → lv_has ls 5 [(2, .long x2)] → W p l e (RM 8 182) s m args below meth c H locs 0 0 Q (F0 m 100 ls [])) (fu : Nat) (x2 : Int64) (x4 : Int32) (H : Heap) (locs : List Loc) (ls : Array Slot), lo2 (B_X5_netOf_56 S x1 k) fu x2 x4 = some r → SI G A s H locs (WM G a S) → lv_has ls 5 [(0, .ref (a 0)), (1, .int x1), (2, .long x2), (4, .int x4)] → W p l e (RM 8 182) s m args below meth c H locs 0 0 Q (F0 m 56 ls []) := by
    intro x1 k hk fu
    induction fu with
    | zero =>
      intro x2 x4 H locs ls hF hs hl
      exact nomatch (show (none : Option (Int64)) = some r from hF)
    | succ fu hrec =>
      intro x2 x4 H locs ls hF hs hl
      have hF : (B_X5_netOf_56 S x1 k) (lo2 (B_X5_netOf_56 S x1 k) fu) x2 x4 = some r := hF
      unfold B_X5_netOf_56 at hF
      refine lv_iload hx hb dX5_netOf_56 (lv_at hl 3 rfl) ?_
      refine lv_aload_n hx hb dX5_netOf_58 rfl (lv_at hl 0 rfl) ?_
      refine fg_X5_17 hx hb hown hts hE hs 0 rfl (v := .ref (a 2)) rfl dX5_netOf_59 ?_
      refine lv_iconst (v := (1 : Int32)) hx hb dX5_netOf_62 (by decide) ?_
      obtain ⟨v9, hv9, hF⟩ := bd hF
      refine sx_iald hx hb hE hs 2 (f := m_w S) rfl hv9 dX5_netOf_63 ?_
      refine lv_icmp_ge (tgt := 100) hx hb dX5_netOf_64 (by decide) (fun hc => ?_) (fun hc => ?_)
      · have hF := (if_pos hc).symm.trans hF
        exact hk x2 _ _ _ hF hs (lv_sub hl [2] rfl)
      · have hF := (if_neg hc).symm.trans hF
        refine lv_lload_n hx hb dX5_netOf_67 rfl (lv_at hl 2 rfl) ?_
        refine lv_aload_n hx hb dX5_netOf_68 rfl (lv_at hl 0 rfl) ?_
        refine fg_X5_17 hx hb hown hts hE hs 0 rfl (v := .ref (a 2)) rfl dX5_netOf_69 ?_
        refine lv_iload hx hb dX5_netOf_72 (lv_at hl 3 rfl) ?_
        refine lv_iconst (v := (1 : Int32)) hx hb dX5_netOf_74 (by decide) ?_
        obtain ⟨q10, hq10, hF⟩ := bd hF
        refine sx_S (As := [.ref (a 2), .int x4, .int (1 : Int32)]) (rest := [.long x2]) (st1 := [.int q10, .long x2]) (c_X5_ofClaim G l (a 2) (m_w S) x4 (1 : Int32) q10 hq10) v_X5_255 ⟨(Nat.le_of_ble_eq_true rfl), (Nat.le_of_ble_eq_true rfl)⟩ hx hb hml hown hts hE hA hs ⟨Nat.le_refl 0, Nat.le_refl 0⟩ rfl rfl rfl hl.1 (Nat.le_of_ble_eq_true rfl) dX5_netOf_75 (pM_w G a S (m_w S)) (ws' := WM G a S) (pM_w G a S (m_w S)) (fun H locs hs => ?_)
        refine lv_iload_n hx hb dX5_netOf_78 rfl (lv_at hl 1 rfl) ?_
        refine lv_icmp_ne (tgt := 91) hx hb dX5_netOf_79 (by decide) (fun hc => ?_) (fun hc => ?_)
        · have hF := (if_neg hc).symm.trans hF
          refine lv_lconst (v := (0 : Int64)) hx hb dX5_netOf_91 (by decide) ?_
          exact hJ92_56 x1 _ _ hk hrec x4 (0 : Int64) x2 _ _ _ hF hs (lv_sub hl [0, 1, 3] rfl)
        · have hF := (if_pos hc).symm.trans hF
          refine lv_aload_n hx hb dX5_netOf_82 rfl (lv_at hl 0 rfl) ?_
          refine lv_iload hx hb dX5_netOf_83 (lv_at hl 3 rfl) ?_
          obtain ⟨q13, hq13, hF⟩ := bd hF
          refine sx_V (As := [.int x4]) (rest := [.long x2]) (st1 := [.long q13, .long x2]) (c_X5_givenOf G l a S x4 q13 hq13) v_X5_334 ⟨(Nat.le_of_ble_eq_true rfl), (Nat.le_of_ble_eq_true rfl)⟩ hx hb hml hown hts hE hA hs ⟨Nat.le_refl 0, Nat.le_refl 0⟩ 0 rfl rfl rfl rfl rfl hl.1 (Nat.le_of_ble_eq_true rfl) dX5_netOf_85 (pmW _) (ws' := WM G a S) (pmW _) (fun H locs hs => ?_)
          refine lv_goto (tgt := 92) hx hb dX5_netOf_88 (by decide) ?_
          exact hJ92_56 x1 _ _ hk hrec x4 q13 x2 _ _ _ hF hs (lv_sub hl [0, 1, 3] rfl)
  unfold F_X5_netOf at hF
  refine lv_aload_n hx hb dX5_netOf_0 rfl (lv_at hl 0 rfl) ?_
  refine lv_iload_n hx hb dX5_netOf_1 rfl (lv_at hl 1 rfl) ?_
  obtain ⟨q1, hq1, hF⟩ := bd hF
  refine sx_V (As := [.int x1]) (rest := []) (st1 := [.long q1]) (c_X5_paidBy G l a S x1 q1 hq1) v_X5_331 ⟨(Nat.le_of_ble_eq_true rfl), (Nat.le_of_ble_eq_true rfl)⟩ hx hb hml hown hts hE hA hs ⟨Nat.le_refl 0, Nat.le_refl 0⟩ 0 rfl rfl rfl rfl rfl hl.1 (Nat.le_of_ble_eq_true rfl) dX5_netOf_2 (pmW _) (ws' := WM G a S) (pmW _) (fun H locs hs => ?_)
  refine lv_lneg hx hb dX5_netOf_5 ?_
  refine lv_aload_n hx hb dX5_netOf_6 rfl (lv_at hl 0 rfl) ?_
  refine fg_X5_17 hx hb hown hts hE hs 0 rfl (v := .ref (a 2)) rfl dX5_netOf_7 ?_
  refine lv_iload_n hx hb dX5_netOf_10 rfl (lv_at hl 1 rfl) ?_
  refine lv_iconst (v := (2 : Int32)) hx hb dX5_netOf_11 (by decide) ?_
  obtain ⟨q2, hq2, hF⟩ := bd hF
  refine sx_S (As := [.ref (a 2), .int x1, .int (2 : Int32)]) (rest := [.long (-q1)]) (st1 := [.int q2, .long (-q1)]) (c_X5_ofShip G l (a 2) (m_w S) x1 (2 : Int32) q2 hq2) v_X5_243 ⟨(Nat.le_of_ble_eq_true rfl), (Nat.le_of_ble_eq_true rfl)⟩ hx hb hml hown hts hE hA hs ⟨Nat.le_refl 0, Nat.le_refl 0⟩ rfl rfl rfl hl.1 (Nat.le_of_ble_eq_true rfl) dX5_netOf_12 (pM_w G a S (m_w S)) (ws' := WM G a S) (pM_w G a S (m_w S)) (fun H locs hs => ?_)
  refine lv_i2l hx hb dX5_netOf_15 rfl ?_
  refine lv_lsub hx hb dX5_netOf_16 ?_
  obtain ⟨v3, ev3, hF⟩ := nm_some hF
  refine sx_topl ev3 ?_
  refine lv_lstore_n (lv' := [(2, .long v3), (0, .ref (a 0)), (1, .int x1)]) hx hb dX5_netOf_17 rfl hl (by decide) rfl (fun ls hl => ?_)
  refine lv_iconst (v := (0 : Int32)) hx hb dX5_netOf_18 (by decide) ?_
  refine lv_istore (lv' := [(4, .int (0 : Int32)), (2, .long v3), (0, .ref (a 0)), (1, .int x1)]) hx hb dX5_netOf_19 hl (by decide) rfl (fun ls hl => ?_)
  refine hL21 x1 _ (fun z8 H locs ls hF hs hl => ?_) FU v3 (0 : Int32) _ _ _ hF hs (lv_sub hl [2, 3, 1, 0] rfl)
  refine lv_iconst (v := (0 : Int32)) hx hb dX5_netOf_53 (by decide) ?_
  refine lv_istore (lv' := [(4, .int (0 : Int32)), (0, .ref (a 0)), (1, .int x1), (2, .long z8)]) hx hb dX5_netOf_54 hl (by decide) rfl (fun ls hl => ?_)
  refine hL56 x1 _ (fun z14 H locs ls hF hs hl => ?_) FU z8 (0 : Int32) _ _ _ hF hs (lv_sub hl [1, 2, 3, 0] rfl)
  refine lv_lload_n hx hb dX5_netOf_100 rfl (lv_at hl 0 rfl) ?_
  exact sx_lret hx hb hr hlk hQ (Option.some.inj hF) rfl hs dX5_netOf_101
set_option maxHeartbeats 4000000 in
set_option maxRecDepth 100000 in
theorem c_X5_part (G : GT) (l : Launch) (a : Nat → Nat) (S : MS) (x1 : Int32) (x2 : Int32) (r : Int32 × MS) (hF : F_X5_part S x1 x2 = some r) : MT G l yX5_part cX5_part 3 (some .int) 4 89 [.ref (a 0), .int x1, .int x2] (WM G a S) (some (.int r.1)) (WM G a r.2) := by
  refine MT.of (by decide) (Nat.le_of_ble_eq_true rfl) ?_
  intro p e s m args below meth c A ls hx hb hr hml hown hts hlk hE hA hs hl Q hQ
  have hl : lv_has ls 3 [(0, .ref (a 0)), (1, .int x1), (2, .int x2)] := hl
  have hJ43_n : ∀ (S : MS) (x1 : Int32) (x2 : Int32) (y0 : Int32) (H : Heap) (locs : List Loc) (ls : Array Slot), J_X5_part_43 S x1 x2 y0 = some r → SI G A s H locs (WM G a S) → lv_has ls 3 [(0, .ref (a 0)), (1, .int x1), (2, .int x2)] → W p l e (RM 4 89) s m args below meth c H locs 0 0 Q (F0 m 43 ls [.int y0, .ref (a 0)]) := by
    intro S x1 x2 y0 H locs ls hF hs hl
    unfold J_X5_part_43 at hF
    refine lv_iconst (v := (2 : Int32)) hx hb dX5_part_43 (by decide) ?_
    obtain ⟨q5, hq5, hF⟩ := bd hF
    refine sx_V (As := [.int y0, .int (2 : Int32)]) (rest := []) (st1 := [.int q5.1]) (c_X5_refuse G l a S y0 (2 : Int32) q5 hq5) v_X5_215 ⟨(Nat.le_of_ble_eq_true rfl), (Nat.le_of_ble_eq_true rfl)⟩ hx hb hml hown hts hE hA hs ⟨Nat.le_refl 0, Nat.le_refl 0⟩ 0 rfl rfl rfl rfl rfl hl.1 (Nat.le_of_ble_eq_true rfl) dX5_part_44 (pmW _) (ws' := WM G a q5.2) (pmW _) (fun H locs hs => ?_)
    refine lv_if_eq (tgt := 52) hx hb dX5_part_47 (by decide) (fun hc => ?_) (fun hc => ?_)
    · have hF := (if_pos hc).symm.trans hF
      refine lv_aload_n hx hb dX5_part_52 rfl (lv_at hl 0 rfl) ?_
      refine fg_X5_13 hx hb hown hts hE hs 0 rfl (v := .ref (a 1)) rfl dX5_part_53 ?_
      refine lv_iload_n hx hb dX5_part_56 rfl (lv_at hl 1 rfl) ?_
      refine lv_iload_n hx hb dX5_part_57 rfl (lv_at hl 2 rfl) ?_
      refine lv_i2l hx hb dX5_part_58 rfl ?_
      obtain ⟨q6, hq6, hF⟩ := bd hF
      refine sx_S (As := [.ref (a 1), .int x1, .long x2.toInt64]) (rest := []) (st1 := [.long q6]) (c_X5_partOf G l (a 1) (m_s q5.2) x1 x2.toInt64 q6 hq6) v_X5_262 ⟨(Nat.le_of_ble_eq_true rfl), (Nat.le_of_ble_eq_true rfl)⟩ hx hb hml hown hts hE hA hs ⟨Nat.le_refl 0, Nat.le_refl 0⟩ rfl rfl rfl hl.1 (Nat.le_of_ble_eq_true rfl) dX5_part_59 (pM_s G a q5.2 (m_s q5.2)) (ws' := WM G a q5.2) (pM_s G a q5.2 (m_s q5.2)) (fun H locs hs => ?_)
      refine lv_l2i hx hb dX5_part_62 rfl ?_
      exact sx_iret hx hb hr hlk hQ (congrArg Prod.fst (Option.some.inj hF)) (congrArg (fun z => WM G a z) (congrArg Prod.snd (Option.some.inj hF))) hs dX5_part_63
    · have hF := (if_neg hc).symm.trans hF
      refine lv_iconst (v := (-1 : Int32)) hx hb dX5_part_50 (by decide) ?_
      exact sx_iret hx hb hr hlk hQ (congrArg Prod.fst (Option.some.inj hF)) (congrArg (fun z => WM G a z) (congrArg Prod.snd (Option.some.inj hF))) hs dX5_part_51
  have hJ18_n : ∀ (S : MS) (x1 : Int32) (x2 : Int32) (y0 : Int32) (H : Heap) (locs : List Loc) (ls : Array Slot), J_X5_part_18 S x1 x2 y0 = some r → SI G A s H locs (WM G a S) → lv_has ls 3 [(0, .ref (a 0)), (1, .int x1), (2, .int x2)] → W p l e (RM 4 89) s m args below meth c H locs 0 0 Q (F0 m 18 ls [.int y0, .ref (a 0)]) := by
    intro S x1 x2 y0 H locs ls hF hs hl
    unfold J_X5_part_18 at hF
    refine lv_iconst (v := (1 : Int32)) hx hb dX5_part_18 (by decide) ?_
    obtain ⟨q3, hq3, hF⟩ := bd hF
    refine sx_V (As := [.int y0, .int (1 : Int32)]) (rest := []) (st1 := [.int q3.1]) (c_X5_refuse G l a S y0 (1 : Int32) q3 hq3) v_X5_215 ⟨(Nat.le_of_ble_eq_true rfl), (Nat.le_of_ble_eq_true rfl)⟩ hx hb hml hown hts hE hA hs ⟨Nat.le_refl 0, Nat.le_refl 0⟩ 0 rfl rfl rfl rfl rfl hl.1 (Nat.le_of_ble_eq_true rfl) dX5_part_19 (pmW _) (ws' := WM G a q3.2) (pmW _) (fun H locs hs => ?_)
    refine lv_if_ne (tgt := 50) hx hb dX5_part_22 (by decide) (fun hc => ?_) (fun hc => ?_)
    · have hF := (if_neg hc).symm.trans hF
      refine lv_iconst (v := (-1 : Int32)) hx hb dX5_part_50 (by decide) ?_
      exact sx_iret hx hb hr hlk hQ (congrArg Prod.fst (Option.some.inj hF)) (congrArg (fun z => WM G a z) (congrArg Prod.snd (Option.some.inj hF))) hs dX5_part_51
    · have hF := (if_pos hc).symm.trans hF
      refine lv_aload_n hx hb dX5_part_25 rfl (lv_at hl 0 rfl) ?_
      refine lv_iload_n hx hb dX5_part_26 rfl (lv_at hl 2 rfl) ?_
      refine lv_i2l hx hb dX5_part_27 rfl ?_
      refine lv_lconst (v := (0 : Int64)) hx hb dX5_part_28 (by decide) ?_
      refine lv_ldc2 (v := (9999999 : Int64)) hx hb hown (hts _ g1244) dX5_part_29 ?_
      obtain ⟨q4, hq4, hF⟩ := bd hF
      refine sx_S (As := [.long x2.toInt64, .long (0 : Int64), .long (9999999 : Int64)]) (rest := [.ref (a 0)]) (st1 := [.int q4, .ref (a 0)]) (c_X5_in G l  x2.toInt64 (0 : Int64) (9999999 : Int64) q4 hq4) v_X5_161 ⟨(Nat.le_of_ble_eq_true rfl), (Nat.le_of_ble_eq_true rfl)⟩ hx hb hml hown hts hE hA hs ⟨Nat.le_refl 0, Nat.le_refl 0⟩ rfl rfl rfl hl.1 (Nat.le_of_ble_eq_true rfl) dX5_part_32 (List.Perm.refl _) (ws' := WM G a q3.2) (List.Perm.refl _) (fun H locs hs => ?_)
      refine lv_if_ne (tgt := 42) hx hb dX5_part_35 (by decide) (fun hc => ?_) (fun hc => ?_)
      · have hF := (if_neg hc).symm.trans hF
        refine lv_iconst (v := (0 : Int32)) hx hb dX5_part_42 (by decide) ?_
        exact hJ43_n q3.2 x1 x2 (0 : Int32) _ _ _ hF hs (lv_sub hl [0, 1, 2] rfl)
      · have hF := (if_pos hc).symm.trans hF
        refine lv_iconst (v := (1 : Int32)) hx hb dX5_part_38 (by decide) ?_
        refine lv_goto (tgt := 43) hx hb dX5_part_39 (by decide) ?_
        exact hJ43_n q3.2 x1 x2 (1 : Int32) _ _ _ hF hs (lv_sub hl [0, 1, 2] rfl)
  unfold F_X5_part at hF
  refine lv_aload_n hx hb dX5_part_0 rfl (lv_at hl 0 rfl) ?_
  obtain ⟨q1, hq1, hF⟩ := bd hF
  refine sx_V (As := []) (rest := []) (st1 := []) (c_X5_begins G l a S q1 hq1) v_X5_212 ⟨(Nat.le_of_ble_eq_true rfl), (Nat.le_of_ble_eq_true rfl)⟩ hx hb hml hown hts hE hA hs ⟨Nat.le_refl 0, Nat.le_refl 0⟩ 0 rfl rfl rfl rfl rfl hl.1 (Nat.le_of_ble_eq_true rfl) dX5_part_1 (pmW _) (ws' := WM G a q1) (pmW _) (fun H locs hs => ?_)
  refine lv_aload_n hx hb dX5_part_4 rfl (lv_at hl 0 rfl) ?_
  refine lv_aload_n hx hb dX5_part_5 rfl (lv_at hl 0 rfl) ?_
  refine lv_iload_n hx hb dX5_part_6 rfl (lv_at hl 1 rfl) ?_
  obtain ⟨q2, hq2, hF⟩ := bd hF
  refine sx_V (As := [.int x1]) (rest := [.ref (a 0)]) (st1 := [.int q2, .ref (a 0)]) (c_X5_isShip G l a q1 x1 q2 hq2) v_X5_234 ⟨(Nat.le_of_ble_eq_true rfl), (Nat.le_of_ble_eq_true rfl)⟩ hx hb hml hown hts hE hA hs ⟨Nat.le_refl 0, Nat.le_refl 0⟩ 0 rfl rfl rfl rfl rfl hl.1 (Nat.le_of_ble_eq_true rfl) dX5_part_7 (pmW _) (ws' := WM G a q1) (pmW _) (fun H locs hs => ?_)
  refine lv_if_ne (tgt := 17) hx hb dX5_part_10 (by decide) (fun hc => ?_) (fun hc => ?_)
  · have hF := (if_neg hc).symm.trans hF
    refine lv_iconst (v := (0 : Int32)) hx hb dX5_part_17 (by decide) ?_
    exact hJ18_n q1 x1 x2 (0 : Int32) _ _ _ hF hs (lv_sub hl [0, 1, 2] rfl)
  · have hF := (if_pos hc).symm.trans hF
    refine lv_iconst (v := (1 : Int32)) hx hb dX5_part_13 (by decide) ?_
    refine lv_goto (tgt := 18) hx hb dX5_part_14 (by decide) ?_
    exact hJ18_n q1 x1 x2 (1 : Int32) _ _ _ hF hs (lv_sub hl [0, 1, 2] rfl)
set_option maxHeartbeats 4000000 in
set_option maxRecDepth 100000 in
theorem c_X5_owes (G : GT) (l : Launch) (a : Nat → Nat) (S : MS) (x1 : Int32) (x2 : Int32) (r : Int32 × MS) (hF : F_X5_owes S x1 x2 = some r) : MT G l yX5_owes cX5_owes 3 (some .int) 5 114 [.ref (a 0), .int x1, .int x2] (WM G a S) (some (.int r.1)) (WM G a r.2) := by
  refine MT.of (by decide) (Nat.le_of_ble_eq_true rfl) ?_
  intro p e s m args below meth c A ls hx hb hr hml hown hts hlk hE hA hs hl Q hQ
  have hl : lv_has ls 3 [(0, .ref (a 0)), (1, .int x1), (2, .int x2)] := hl
  have hJ26_n : ∀ (S : MS) (x1 : Int32) (x2 : Int32) (y0 : Int32) (H : Heap) (locs : List Loc) (ls : Array Slot), J_X5_owes_26 S x1 x2 y0 = some r → SI G A s H locs (WM G a S) → lv_has ls 3 [(0, .ref (a 0)), (1, .int x1), (2, .int x2)] → W p l e (RM 5 114) s m args below meth c H locs 0 0 Q (F0 m 26 ls [.int y0, .ref (a 0)]) := by
    intro S x1 x2 y0 H locs ls hF hs hl
    unfold J_X5_owes_26 at hF
    refine lv_iconst (v := (1 : Int32)) hx hb dX5_owes_26 (by decide) ?_
    obtain ⟨q3, hq3, hF⟩ := bd hF
    refine sx_V (As := [.int y0, .int (1 : Int32)]) (rest := []) (st1 := [.int q3.1]) (c_X5_refuse G l a S y0 (1 : Int32) q3 hq3) v_X5_215 ⟨(Nat.le_of_ble_eq_true rfl), (Nat.le_of_ble_eq_true rfl)⟩ hx hb hml hown hts hE hA hs ⟨Nat.le_refl 0, Nat.le_refl 0⟩ 0 rfl rfl rfl rfl rfl hl.1 (Nat.le_of_ble_eq_true rfl) dX5_owes_27 (pmW _) (ws' := WM G a q3.2) (pmW _) (fun H locs hs => ?_)
    refine lv_if_eq (tgt := 35) hx hb dX5_owes_30 (by decide) (fun hc => ?_) (fun hc => ?_)
    · have hF := (if_pos hc).symm.trans hF
      refine lv_aload_n hx hb dX5_owes_35 rfl (lv_at hl 0 rfl) ?_
      refine fg_X5_13 hx hb hown hts hE hs 0 rfl (v := .ref (a 1)) rfl dX5_owes_36 ?_
      refine lv_iload_n hx hb dX5_owes_39 rfl (lv_at hl 1 rfl) ?_
      refine lv_iload_n hx hb dX5_owes_40 rfl (lv_at hl 2 rfl) ?_
      obtain ⟨q4, hq4, hF⟩ := bd hF
      refine sx_S (As := [.ref (a 1), .int x1, .int x2]) (rest := []) (st1 := [.long q4]) (c_X5_debtOf G l (a 1) (m_s q3.2) x1 x2 q4 hq4) v_X5_266 ⟨(Nat.le_of_ble_eq_true rfl), (Nat.le_of_ble_eq_true rfl)⟩ hx hb hml hown hts hE hA hs ⟨Nat.le_refl 0, Nat.le_refl 0⟩ rfl rfl rfl hl.1 (Nat.le_of_ble_eq_true rfl) dX5_owes_41 (pM_s G a q3.2 (m_s q3.2)) (ws' := WM G a q3.2) (pM_s G a q3.2 (m_s q3.2)) (fun H locs hs => ?_)
      refine lv_l2i hx hb dX5_owes_44 rfl ?_
      exact sx_iret hx hb hr hlk hQ (congrArg Prod.fst (Option.some.inj hF)) (congrArg (fun z => WM G a z) (congrArg Prod.snd (Option.some.inj hF))) hs dX5_owes_45
    · have hF := (if_neg hc).symm.trans hF
      refine lv_iconst (v := (-1 : Int32)) hx hb dX5_owes_33 (by decide) ?_
      exact sx_iret hx hb hr hlk hQ (congrArg Prod.fst (Option.some.inj hF)) (congrArg (fun z => WM G a z) (congrArg Prod.snd (Option.some.inj hF))) hs dX5_owes_34
  have hJ21_n : ∀ (S : MS) (x1 : Int32) (x2 : Int32) (H : Heap) (locs : List Loc) (ls : Array Slot), J_X5_owes_21 S x1 x2 = some r → SI G A s H locs (WM G a S) → lv_has ls 3 [(0, .ref (a 0)), (1, .int x1), (2, .int x2)] → W p l e (RM 5 114) s m args below meth c H locs 0 0 Q (F0 m 21 ls [.ref (a 0)]) := by
    intro S x1 x2 H locs ls hF hs hl
    unfold J_X5_owes_21 at hF
    refine lv_iconst (v := (1 : Int32)) hx hb dX5_owes_21 (by decide) ?_
    refine lv_goto (tgt := 26) hx hb dX5_owes_22 (by decide) ?_
    exact hJ26_n S x1 x2 (1 : Int32) _ _ _ hF hs (lv_sub hl [0, 1, 2] rfl)
  unfold F_X5_owes at hF
  refine lv_aload_n hx hb dX5_owes_0 rfl (lv_at hl 0 rfl) ?_
  obtain ⟨q1, hq1, hF⟩ := bd hF
  refine sx_V (As := []) (rest := []) (st1 := []) (c_X5_begins G l a S q1 hq1) v_X5_212 ⟨(Nat.le_of_ble_eq_true rfl), (Nat.le_of_ble_eq_true rfl)⟩ hx hb hml hown hts hE hA hs ⟨Nat.le_refl 0, Nat.le_refl 0⟩ 0 rfl rfl rfl rfl rfl hl.1 (Nat.le_of_ble_eq_true rfl) dX5_owes_1 (pmW _) (ws' := WM G a q1) (pmW _) (fun H locs hs => ?_)
  refine lv_aload_n hx hb dX5_owes_4 rfl (lv_at hl 0 rfl) ?_
  refine lv_aload_n hx hb dX5_owes_5 rfl (lv_at hl 0 rfl) ?_
  refine lv_iload_n hx hb dX5_owes_6 rfl (lv_at hl 1 rfl) ?_
  obtain ⟨q2, hq2, hF⟩ := bd hF
  refine sx_V (As := [.int x1]) (rest := [.ref (a 0)]) (st1 := [.int q2, .ref (a 0)]) (c_X5_isShip G l a q1 x1 q2 hq2) v_X5_234 ⟨(Nat.le_of_ble_eq_true rfl), (Nat.le_of_ble_eq_true rfl)⟩ hx hb hml hown hts hE hA hs ⟨Nat.le_refl 0, Nat.le_refl 0⟩ 0 rfl rfl rfl rfl rfl hl.1 (Nat.le_of_ble_eq_true rfl) dX5_owes_7 (pmW _) (ws' := WM G a q1) (pmW _) (fun H locs hs => ?_)
  refine lv_if_eq (tgt := 21) hx hb dX5_owes_10 (by decide) (fun hc => ?_) (fun hc => ?_)
  · have hF := (if_pos hc).symm.trans hF
    exact hJ21_n q1 x1 x2 _ _ _ hF hs (lv_sub hl [0, 1, 2] rfl)
  · have hF := (if_neg hc).symm.trans hF
    refine lv_aload_n hx hb dX5_owes_13 rfl (lv_at hl 0 rfl) ?_
    refine lv_iload_n hx hb dX5_owes_14 rfl (lv_at hl 2 rfl) ?_
    obtain ⟨q5, hq5, hF⟩ := bd hF
    refine sx_V (As := [.int x2]) (rest := [.ref (a 0)]) (st1 := [.int q5, .ref (a 0)]) (c_X5_isClaim G l a q1 x2 q5 hq5) v_X5_247 ⟨(Nat.le_of_ble_eq_true rfl), (Nat.le_of_ble_eq_true rfl)⟩ hx hb hml hown hts hE hA hs ⟨Nat.le_refl 0, Nat.le_refl 0⟩ 0 rfl rfl rfl rfl rfl hl.1 (Nat.le_of_ble_eq_true rfl) dX5_owes_15 (pmW _) (ws' := WM G a q1) (pmW _) (fun H locs hs => ?_)
    refine lv_if_ne (tgt := 25) hx hb dX5_owes_18 (by decide) (fun hc => ?_) (fun hc => ?_)
    · have hF := (if_neg hc).symm.trans hF
      refine lv_iconst (v := (0 : Int32)) hx hb dX5_owes_25 (by decide) ?_
      exact hJ26_n q1 x1 x2 (0 : Int32) _ _ _ hF hs (lv_sub hl [0, 1, 2] rfl)
    · have hF := (if_pos hc).symm.trans hF
      exact hJ21_n q1 x1 x2 _ _ _ hF hs (lv_sub hl [0, 1, 2] rfl)
set_option maxHeartbeats 4000000 in
set_option maxRecDepth 100000 in
theorem c_X5_between (G : GT) (l : Launch) (a : Nat → Nat) (S : MS) (x1 : Int32) (x2 : Int32) (x3 : Int32) (r : Int64 × MS) (hF : F_X5_between S x1 x2 x3 = some r) : MT G l yX5_between cX5_between 4 (some .long) 9 207 [.ref (a 0), .int x1, .int x2, .int x3] (WM G a S) (some (.long r.1)) (WM G a r.2) := by
  refine MT.of (by decide) (Nat.le_of_ble_eq_true rfl) ?_
  intro p e s m args below meth c A ls hx hb hr hml hown hts hlk hE hA hs hl Q hQ
  have hl : lv_has ls 4 [(0, .ref (a 0)), (1, .int x1), (2, .int x2), (3, .int x3)] := hl
  have hJ63_n : ∀ (S : MS) (H : Heap) (locs : List Loc) (ls : Array Slot), J_X5_between_63 S = some r → SI G A s H locs (WM G a S) → lv_has ls 4 [] → W p l e (RM 9 207) s m args below meth c H locs 0 0 Q (F0 m 63 ls []) := by
    intro S H locs ls hF hs hl
    unfold J_X5_between_63 at hF
    refine lv_ldc2 (v := (-1 : Int64)) hx hb hown (hts _ g1263) dX5_between_63 ?_
    exact sx_lret hx hb hr hlk hQ (congrArg Prod.fst (Option.some.inj hF)) (congrArg (fun z => WM G a z) (congrArg Prod.snd (Option.some.inj hF))) hs dX5_between_66
  have hJ56_n : ∀ (S : MS) (x1 : Int32) (x2 : Int32) (x3 : Int32) (y0 : Int32) (H : Heap) (locs : List Loc) (ls : Array Slot), J_X5_between_56 S x1 x2 x3 y0 = some r → SI G A s H locs (WM G a S) → lv_has ls 4 [(0, .ref (a 0)), (1, .int x1), (2, .int x2), (3, .int x3)] → W p l e (RM 9 207) s m args below meth c H locs 0 0 Q (F0 m 56 ls [.int y0, .ref (a 0)]) := by
    intro S x1 x2 x3 y0 H locs ls hF hs hl
    unfold J_X5_between_56 at hF
    refine lv_iconst (v := (5 : Int32)) hx hb dX5_between_56 (by decide) ?_
    obtain ⟨q4, hq4, hF⟩ := bd hF
    refine sx_V (As := [.int y0, .int (5 : Int32)]) (rest := []) (st1 := [.int q4.1]) (c_X5_refuse G l a S y0 (5 : Int32) q4 hq4) v_X5_215 ⟨(Nat.le_of_ble_eq_true rfl), (Nat.le_of_ble_eq_true rfl)⟩ hx hb hml hown hts hE hA hs ⟨Nat.le_refl 0, Nat.le_refl 0⟩ 0 rfl rfl rfl rfl rfl hl.1 (Nat.le_of_ble_eq_true rfl) dX5_between_57 (pmW _) (ws' := WM G a q4.2) (pmW _) (fun H locs hs => ?_)
    refine lv_if_eq (tgt := 67) hx hb dX5_between_60 (by decide) (fun hc => ?_) (fun hc => ?_)
    · have hF := (if_pos hc).symm.trans hF
      refine lv_iload_n hx hb dX5_between_67 rfl (lv_at hl 3 rfl) ?_
      by_cases hv5_0 : x3 = (0 : Int32)
      · have hF := (if_pos hv5_0).symm.trans hF
        refine lv_tableIn (off := 28) (tgt := 96) hx hb dX5_between_68 (by rw [hv5_0]; decide) (by rw [hv5_0]; decide) (by rw [hv5_0]; decide) (by decide) ?_
        refine lv_aload_n hx hb dX5_between_96 rfl (lv_at hl 0 rfl) ?_
        refine fg_X5_13 hx hb hown hts hE hs 0 rfl (v := .ref (a 1)) rfl dX5_between_97 ?_
        refine lv_iload_n hx hb dX5_between_100 rfl (lv_at hl 1 rfl) ?_
        refine lv_iload_n hx hb dX5_between_101 rfl (lv_at hl 2 rfl) ?_
        obtain ⟨q6, hq6, hF⟩ := bd hF
        refine sx_S (As := [.ref (a 1), .int x1, .int x2]) (rest := []) (st1 := [.long q6]) (c_X5_hullOwed G l (a 1) (m_s q4.2) x1 x2 q6 hq6) v_X5_273 ⟨(Nat.le_of_ble_eq_true rfl), (Nat.le_of_ble_eq_true rfl)⟩ hx hb hml hown hts hE hA hs ⟨Nat.le_refl 0, Nat.le_refl 0⟩ rfl rfl rfl hl.1 (Nat.le_of_ble_eq_true rfl) dX5_between_102 (pM_s G a q4.2 (m_s q4.2)) (ws' := WM G a q4.2) (pM_s G a q4.2 (m_s q4.2)) (fun H locs hs => ?_)
        exact sx_lret hx hb hr hlk hQ (congrArg Prod.fst (Option.some.inj hF)) (congrArg (fun z => WM G a z) (congrArg Prod.snd (Option.some.inj hF))) hs dX5_between_105
      · have hF := (if_neg hv5_0).symm.trans hF
        by_cases hv5_1 : x3 = (1 : Int32)
        · have hF := (if_pos hv5_1).symm.trans hF
          refine lv_tableIn (off := 38) (tgt := 106) hx hb dX5_between_68 (by rw [hv5_1]; decide) (by rw [hv5_1]; decide) (by rw [hv5_1]; decide) (by decide) ?_
          refine lv_aload_n hx hb dX5_between_106 rfl (lv_at hl 0 rfl) ?_
          refine fg_X5_13 hx hb hown hts hE hs 0 rfl (v := .ref (a 1)) rfl dX5_between_107 ?_
          refine lv_iload_n hx hb dX5_between_110 rfl (lv_at hl 1 rfl) ?_
          refine lv_iload_n hx hb dX5_between_111 rfl (lv_at hl 2 rfl) ?_
          obtain ⟨q7, hq7, hF⟩ := bd hF
          refine sx_S (As := [.ref (a 1), .int x1, .int x2]) (rest := []) (st1 := [.long q7]) (c_X5_backOwed G l (a 1) (m_s q4.2) x1 x2 q7 hq7) v_X5_276 ⟨(Nat.le_of_ble_eq_true rfl), (Nat.le_of_ble_eq_true rfl)⟩ hx hb hml hown hts hE hA hs ⟨Nat.le_refl 0, Nat.le_refl 0⟩ rfl rfl rfl hl.1 (Nat.le_of_ble_eq_true rfl) dX5_between_112 (pM_s G a q4.2 (m_s q4.2)) (ws' := WM G a q4.2) (pM_s G a q4.2 (m_s q4.2)) (fun H locs hs => ?_)
          exact sx_lret hx hb hr hlk hQ (congrArg Prod.fst (Option.some.inj hF)) (congrArg (fun z => WM G a z) (congrArg Prod.snd (Option.some.inj hF))) hs dX5_between_115
        · have hF := (if_neg hv5_1).symm.trans hF
          by_cases hv5_2 : x3 = (2 : Int32)
          · have hF := (if_pos hv5_2).symm.trans hF
            refine lv_tableIn (off := 48) (tgt := 116) hx hb dX5_between_68 (by rw [hv5_2]; decide) (by rw [hv5_2]; decide) (by rw [hv5_2]; decide) (by decide) ?_
            refine lv_aload_n hx hb dX5_between_116 rfl (lv_at hl 0 rfl) ?_
            refine fg_X5_13 hx hb hown hts hE hs 0 rfl (v := .ref (a 1)) rfl dX5_between_117 ?_
            refine lv_iload_n hx hb dX5_between_120 rfl (lv_at hl 1 rfl) ?_
            refine lv_iload_n hx hb dX5_between_121 rfl (lv_at hl 2 rfl) ?_
            obtain ⟨q8, hq8, hF⟩ := bd hF
            refine sx_S (As := [.ref (a 1), .int x1, .int x2]) (rest := []) (st1 := [.long q8]) (c_X5_bothOwed G l (a 1) (m_s q4.2) x1 x2 q8 hq8) v_X5_279 ⟨(Nat.le_of_ble_eq_true rfl), (Nat.le_of_ble_eq_true rfl)⟩ hx hb hml hown hts hE hA hs ⟨Nat.le_refl 0, Nat.le_refl 0⟩ rfl rfl rfl hl.1 (Nat.le_of_ble_eq_true rfl) dX5_between_122 (pM_s G a q4.2 (m_s q4.2)) (ws' := WM G a q4.2) (pM_s G a q4.2 (m_s q4.2)) (fun H locs hs => ?_)
            exact sx_lret hx hb hr hlk hQ (congrArg Prod.fst (Option.some.inj hF)) (congrArg (fun z => WM G a z) (congrArg Prod.snd (Option.some.inj hF))) hs dX5_between_125
          · have hF := (if_neg hv5_2).symm.trans hF
            refine lv_tableOut (tgt := 126) hx hb dX5_between_68 (sw_out (lo := 0) (hi := 2) (fun z h1 h2 => by rcases (show z = 0 ∨ z = 1 ∨ z = 2 by omega) with rfl | rfl | rfl <;> intro hz <;> first | exact hv5_0 (Int32.toInt_inj.mp hz) | exact hv5_1 (Int32.toInt_inj.mp hz) | exact hv5_2 (Int32.toInt_inj.mp hz))) (by decide) ?_
            refine lv_aload_n hx hb dX5_between_126 rfl (lv_at hl 0 rfl) ?_
            refine fg_X5_13 hx hb hown hts hE hs 0 rfl (v := .ref (a 1)) rfl dX5_between_127 ?_
            refine lv_iload_n hx hb dX5_between_130 rfl (lv_at hl 1 rfl) ?_
            refine lv_iload_n hx hb dX5_between_131 rfl (lv_at hl 2 rfl) ?_
            obtain ⟨q9, hq9, hF⟩ := bd hF
            refine sx_S (As := [.ref (a 1), .int x1, .int x2]) (rest := []) (st1 := [.long q9]) (c_X5_lawOwed G l (a 1) (m_s q4.2) x1 x2 q9 hq9) v_X5_295 ⟨(Nat.le_of_ble_eq_true rfl), (Nat.le_of_ble_eq_true rfl)⟩ hx hb hml hown hts hE hA hs ⟨Nat.le_refl 0, Nat.le_refl 0⟩ rfl rfl rfl hl.1 (Nat.le_of_ble_eq_true rfl) dX5_between_132 (pM_s G a q4.2 (m_s q4.2)) (ws' := WM G a q4.2) (pM_s G a q4.2 (m_s q4.2)) (fun H locs hs => ?_)
            exact sx_lret hx hb hr hlk hQ (congrArg Prod.fst (Option.some.inj hF)) (congrArg (fun z => WM G a z) (congrArg Prod.snd (Option.some.inj hF))) hs dX5_between_135
    · have hF := (if_neg hc).symm.trans hF
      exact hJ63_n q4.2 _ _ _ hF hs (lv_sub hl [] rfl)
  have hJ38_n : ∀ (S : MS) (x1 : Int32) (x2 : Int32) (x3 : Int32) (y0 : Int32) (H : Heap) (locs : List Loc) (ls : Array Slot), J_X5_between_38 S x1 x2 x3 y0 = some r → SI G A s H locs (WM G a S) → lv_has ls 4 [(0, .ref (a 0)), (1, .int x1), (2, .int x2), (3, .int x3)] → W p l e (RM 9 207) s m args below meth c H locs 0 0 Q (F0 m 38 ls [.int y0, .ref (a 0)]) := by
    intro S x1 x2 x3 y0 H locs ls hF hs hl
    unfold J_X5_between_38 at hF
    refine lv_iconst (v := (1 : Int32)) hx hb dX5_between_38 (by decide) ?_
    obtain ⟨q3, hq3, hF⟩ := bd hF
    refine sx_V (As := [.int y0, .int (1 : Int32)]) (rest := []) (st1 := [.int q3.1]) (c_X5_refuse G l a S y0 (1 : Int32) q3 hq3) v_X5_215 ⟨(Nat.le_of_ble_eq_true rfl), (Nat.le_of_ble_eq_true rfl)⟩ hx hb hml hown hts hE hA hs ⟨Nat.le_refl 0, Nat.le_refl 0⟩ 0 rfl rfl rfl rfl rfl hl.1 (Nat.le_of_ble_eq_true rfl) dX5_between_39 (pmW _) (ws' := WM G a q3.2) (pmW _) (fun H locs hs => ?_)
    refine lv_if_ne (tgt := 63) hx hb dX5_between_42 (by decide) (fun hc => ?_) (fun hc => ?_)
    · have hF := (if_neg hc).symm.trans hF
      exact hJ63_n q3.2 _ _ _ hF hs (lv_sub hl [] rfl)
    · have hF := (if_pos hc).symm.trans hF
      refine lv_aload_n hx hb dX5_between_45 rfl (lv_at hl 0 rfl) ?_
      refine lv_iload_n hx hb dX5_between_46 rfl (lv_at hl 1 rfl) ?_
      refine lv_iload_n hx hb dX5_between_47 rfl (lv_at hl 2 rfl) ?_
      refine lv_icmp_ne (tgt := 55) hx hb dX5_between_48 (by decide) (fun hc => ?_) (fun hc => ?_)
      · have hF := (if_neg hc).symm.trans hF
        refine lv_iconst (v := (0 : Int32)) hx hb dX5_between_55 (by decide) ?_
        exact hJ56_n q3.2 x1 x2 x3 (0 : Int32) _ _ _ hF hs (lv_sub hl [0, 1, 2, 3] rfl)
      · have hF := (if_pos hc).symm.trans hF
        refine lv_iconst (v := (1 : Int32)) hx hb dX5_between_51 (by decide) ?_
        refine lv_goto (tgt := 56) hx hb dX5_between_52 (by decide) ?_
        exact hJ56_n q3.2 x1 x2 x3 (1 : Int32) _ _ _ hF hs (lv_sub hl [0, 1, 2, 3] rfl)
  have hJ33_n : ∀ (S : MS) (x1 : Int32) (x2 : Int32) (x3 : Int32) (H : Heap) (locs : List Loc) (ls : Array Slot), J_X5_between_33 S x1 x2 x3 = some r → SI G A s H locs (WM G a S) → lv_has ls 4 [(0, .ref (a 0)), (1, .int x1), (2, .int x2), (3, .int x3)] → W p l e (RM 9 207) s m args below meth c H locs 0 0 Q (F0 m 33 ls [.ref (a 0)]) := by
    intro S x1 x2 x3 H locs ls hF hs hl
    unfold J_X5_between_33 at hF
    refine lv_iconst (v := (1 : Int32)) hx hb dX5_between_33 (by decide) ?_
    refine lv_goto (tgt := 38) hx hb dX5_between_34 (by decide) ?_
    exact hJ38_n S x1 x2 x3 (1 : Int32) _ _ _ hF hs (lv_sub hl [0, 1, 2, 3] rfl)
  unfold F_X5_between at hF
  refine lv_aload_n hx hb dX5_between_0 rfl (lv_at hl 0 rfl) ?_
  obtain ⟨q1, hq1, hF⟩ := bd hF
  refine sx_V (As := []) (rest := []) (st1 := []) (c_X5_begins G l a S q1 hq1) v_X5_212 ⟨(Nat.le_of_ble_eq_true rfl), (Nat.le_of_ble_eq_true rfl)⟩ hx hb hml hown hts hE hA hs ⟨Nat.le_refl 0, Nat.le_refl 0⟩ 0 rfl rfl rfl rfl rfl hl.1 (Nat.le_of_ble_eq_true rfl) dX5_between_1 (pmW _) (ws' := WM G a q1) (pmW _) (fun H locs hs => ?_)
  refine lv_aload_n hx hb dX5_between_4 rfl (lv_at hl 0 rfl) ?_
  refine lv_aload_n hx hb dX5_between_5 rfl (lv_at hl 0 rfl) ?_
  refine lv_iload_n hx hb dX5_between_6 rfl (lv_at hl 1 rfl) ?_
  obtain ⟨q2, hq2, hF⟩ := bd hF
  refine sx_V (As := [.int x1]) (rest := [.ref (a 0)]) (st1 := [.int q2, .ref (a 0)]) (c_X5_isShip G l a q1 x1 q2 hq2) v_X5_234 ⟨(Nat.le_of_ble_eq_true rfl), (Nat.le_of_ble_eq_true rfl)⟩ hx hb hml hown hts hE hA hs ⟨Nat.le_refl 0, Nat.le_refl 0⟩ 0 rfl rfl rfl rfl rfl hl.1 (Nat.le_of_ble_eq_true rfl) dX5_between_7 (pmW _) (ws' := WM G a q1) (pmW _) (fun H locs hs => ?_)
  refine lv_if_eq (tgt := 33) hx hb dX5_between_10 (by decide) (fun hc => ?_) (fun hc => ?_)
  · have hF := (if_pos hc).symm.trans hF
    exact hJ33_n q1 x1 x2 x3 _ _ _ hF hs (lv_sub hl [0, 1, 2, 3] rfl)
  · have hF := (if_neg hc).symm.trans hF
    refine lv_aload_n hx hb dX5_between_13 rfl (lv_at hl 0 rfl) ?_
    refine lv_iload_n hx hb dX5_between_14 rfl (lv_at hl 2 rfl) ?_
    obtain ⟨q10, hq10, hF⟩ := bd hF
    refine sx_V (As := [.int x2]) (rest := [.ref (a 0)]) (st1 := [.int q10, .ref (a 0)]) (c_X5_isShip G l a q1 x2 q10 hq10) v_X5_234 ⟨(Nat.le_of_ble_eq_true rfl), (Nat.le_of_ble_eq_true rfl)⟩ hx hb hml hown hts hE hA hs ⟨Nat.le_refl 0, Nat.le_refl 0⟩ 0 rfl rfl rfl rfl rfl hl.1 (Nat.le_of_ble_eq_true rfl) dX5_between_15 (pmW _) (ws' := WM G a q1) (pmW _) (fun H locs hs => ?_)
    refine lv_if_eq (tgt := 33) hx hb dX5_between_18 (by decide) (fun hc => ?_) (fun hc => ?_)
    · have hF := (if_pos hc).symm.trans hF
      exact hJ33_n q1 x1 x2 x3 _ _ _ hF hs (lv_sub hl [0, 1, 2, 3] rfl)
    · have hF := (if_neg hc).symm.trans hF
      refine lv_iload_n hx hb dX5_between_21 rfl (lv_at hl 3 rfl) ?_
      refine lv_i2l hx hb dX5_between_22 rfl ?_
      refine lv_lconst (v := (0 : Int64)) hx hb dX5_between_23 (by decide) ?_
      refine lv_ldc2 (v := (3 : Int64)) hx hb hown (hts _ g1262) dX5_between_24 ?_
      obtain ⟨q11, hq11, hF⟩ := bd hF
      refine sx_S (As := [.long x3.toInt64, .long (0 : Int64), .long (3 : Int64)]) (rest := [.ref (a 0)]) (st1 := [.int q11, .ref (a 0)]) (c_X5_in G l  x3.toInt64 (0 : Int64) (3 : Int64) q11 hq11) v_X5_161 ⟨(Nat.le_of_ble_eq_true rfl), (Nat.le_of_ble_eq_true rfl)⟩ hx hb hml hown hts hE hA hs ⟨Nat.le_refl 0, Nat.le_refl 0⟩ rfl rfl rfl hl.1 (Nat.le_of_ble_eq_true rfl) dX5_between_27 (List.Perm.refl _) (ws' := WM G a q1) (List.Perm.refl _) (fun H locs hs => ?_)
      refine lv_if_ne (tgt := 37) hx hb dX5_between_30 (by decide) (fun hc => ?_) (fun hc => ?_)
      · have hF := (if_neg hc).symm.trans hF
        refine lv_iconst (v := (0 : Int32)) hx hb dX5_between_37 (by decide) ?_
        exact hJ38_n q1 x1 x2 x3 (0 : Int32) _ _ _ hF hs (lv_sub hl [0, 1, 2, 3] rfl)
      · have hF := (if_pos hc).symm.trans hF
        exact hJ33_n q1 x1 x2 x3 _ _ _ hF hs (lv_sub hl [0, 1, 2, 3] rfl)
set_option maxHeartbeats 4000000 in
set_option maxRecDepth 100000 in
theorem c_X5_back (G : GT) (l : Launch) (a : Nat → Nat) (S : MS) (x1 : Int32) (r : Int64 × MS) (hF : F_X5_back S x1 = some r) : MT G l yX5_back cX5_back 2 (some .long) 7 160 [.ref (a 0), .int x1] (WM G a S) (some (.long r.1)) (WM G a r.2) := by
  refine MT.of (by decide) (Nat.le_of_ble_eq_true rfl) ?_
  intro p e s m args below meth c A ls hx hb hr hml hown hts hlk hE hA hs hl Q hQ
  have hl : lv_has ls 2 [(0, .ref (a 0)), (1, .int x1)] := hl
  have hJ18_n : ∀ (S : MS) (x1 : Int32) (y0 : Int32) (H : Heap) (locs : List Loc) (ls : Array Slot), J_X5_back_18 S x1 y0 = some r → SI G A s H locs (WM G a S) → lv_has ls 2 [(0, .ref (a 0)), (1, .int x1)] → W p l e (RM 7 160) s m args below meth c H locs 0 0 Q (F0 m 18 ls [.int y0, .ref (a 0)]) := by
    intro S x1 y0 H locs ls hF hs hl
    unfold J_X5_back_18 at hF
    refine lv_iconst (v := (1 : Int32)) hx hb dX5_back_18 (by decide) ?_
    obtain ⟨q3, hq3, hF⟩ := bd hF
    refine sx_V (As := [.int y0, .int (1 : Int32)]) (rest := []) (st1 := [.int q3.1]) (c_X5_refuse G l a S y0 (1 : Int32) q3 hq3) v_X5_215 ⟨(Nat.le_of_ble_eq_true rfl), (Nat.le_of_ble_eq_true rfl)⟩ hx hb hml hown hts hE hA hs ⟨Nat.le_refl 0, Nat.le_refl 0⟩ 0 rfl rfl rfl rfl rfl hl.1 (Nat.le_of_ble_eq_true rfl) dX5_back_19 (pmW _) (ws' := WM G a q3.2) (pmW _) (fun H locs hs => ?_)
    refine lv_if_eq (tgt := 29) hx hb dX5_back_22 (by decide) (fun hc => ?_) (fun hc => ?_)
    · have hF := (if_pos hc).symm.trans hF
      refine lv_aload_n hx hb dX5_back_29 rfl (lv_at hl 0 rfl) ?_
      refine fg_X5_13 hx hb hown hts hE hs 0 rfl (v := .ref (a 1)) rfl dX5_back_30 ?_
      refine lv_iload_n hx hb dX5_back_33 rfl (lv_at hl 1 rfl) ?_
      obtain ⟨q4, hq4, hF⟩ := bd hF
      refine sx_S (As := [.ref (a 1), .int x1]) (rest := []) (st1 := [.long q4]) (c_X5_backOf G l (a 1) (m_s q3.2) x1 q4 hq4) v_X5_324 ⟨(Nat.le_of_ble_eq_true rfl), (Nat.le_of_ble_eq_true rfl)⟩ hx hb hml hown hts hE hA hs ⟨Nat.le_refl 0, Nat.le_refl 0⟩ rfl rfl rfl hl.1 (Nat.le_of_ble_eq_true rfl) dX5_back_34 (pM_s G a q3.2 (m_s q3.2)) (ws' := WM G a q3.2) (pM_s G a q3.2 (m_s q3.2)) (fun H locs hs => ?_)
      exact sx_lret hx hb hr hlk hQ (congrArg Prod.fst (Option.some.inj hF)) (congrArg (fun z => WM G a z) (congrArg Prod.snd (Option.some.inj hF))) hs dX5_back_37
    · have hF := (if_neg hc).symm.trans hF
      refine lv_ldc2 (v := (-1 : Int64)) hx hb hown (hts _ g1263) dX5_back_25 ?_
      exact sx_lret hx hb hr hlk hQ (congrArg Prod.fst (Option.some.inj hF)) (congrArg (fun z => WM G a z) (congrArg Prod.snd (Option.some.inj hF))) hs dX5_back_28
  unfold F_X5_back at hF
  refine lv_aload_n hx hb dX5_back_0 rfl (lv_at hl 0 rfl) ?_
  obtain ⟨q1, hq1, hF⟩ := bd hF
  refine sx_V (As := []) (rest := []) (st1 := []) (c_X5_begins G l a S q1 hq1) v_X5_212 ⟨(Nat.le_of_ble_eq_true rfl), (Nat.le_of_ble_eq_true rfl)⟩ hx hb hml hown hts hE hA hs ⟨Nat.le_refl 0, Nat.le_refl 0⟩ 0 rfl rfl rfl rfl rfl hl.1 (Nat.le_of_ble_eq_true rfl) dX5_back_1 (pmW _) (ws' := WM G a q1) (pmW _) (fun H locs hs => ?_)
  refine lv_aload_n hx hb dX5_back_4 rfl (lv_at hl 0 rfl) ?_
  refine lv_aload_n hx hb dX5_back_5 rfl (lv_at hl 0 rfl) ?_
  refine lv_iload_n hx hb dX5_back_6 rfl (lv_at hl 1 rfl) ?_
  obtain ⟨q2, hq2, hF⟩ := bd hF
  refine sx_V (As := [.int x1]) (rest := [.ref (a 0)]) (st1 := [.int q2, .ref (a 0)]) (c_X5_isClaim G l a q1 x1 q2 hq2) v_X5_247 ⟨(Nat.le_of_ble_eq_true rfl), (Nat.le_of_ble_eq_true rfl)⟩ hx hb hml hown hts hE hA hs ⟨Nat.le_refl 0, Nat.le_refl 0⟩ 0 rfl rfl rfl rfl rfl hl.1 (Nat.le_of_ble_eq_true rfl) dX5_back_7 (pmW _) (ws' := WM G a q1) (pmW _) (fun H locs hs => ?_)
  refine lv_if_ne (tgt := 17) hx hb dX5_back_10 (by decide) (fun hc => ?_) (fun hc => ?_)
  · have hF := (if_neg hc).symm.trans hF
    refine lv_iconst (v := (0 : Int32)) hx hb dX5_back_17 (by decide) ?_
    exact hJ18_n q1 x1 (0 : Int32) _ _ _ hF hs (lv_sub hl [0, 1] rfl)
  · have hF := (if_pos hc).symm.trans hF
    refine lv_iconst (v := (1 : Int32)) hx hb dX5_back_13 (by decide) ?_
    refine lv_goto (tgt := 18) hx hb dX5_back_14 (by decide) ?_
    exact hJ18_n q1 x1 (1 : Int32) _ _ _ hF hs (lv_sub hl [0, 1] rfl)
set_option maxHeartbeats 4000000 in
set_option maxRecDepth 100000 in
theorem c_X5_fund (G : GT) (l : Launch) (a : Nat → Nat) (S : MS) (x1 : Int32) (x2 : Int32) (r : Int32 × MS) (hF : F_X5_fund S x1 x2 = some r) : MT G l yX5_fund cX5_fund 3 (some .int) 2 47 [.ref (a 0), .int x1, .int x2] (WM G a S) (some (.int r.1)) (WM G a r.2) := by
  refine MT.of (by decide) (Nat.le_of_ble_eq_true rfl) ?_
  intro p e s m args below meth c A ls hx hb hr hml hown hts hlk hE hA hs hl Q hQ
  have hl : lv_has ls 3 [(0, .ref (a 0)), (1, .int x1), (2, .int x2)] := hl
  have hJ52_n : ∀ (S : MS) (y0 : Int32) (y1 : Int32) (H : Heap) (locs : List Loc) (ls : Array Slot), J_X5_fund_52 S y0 y1 = some r → SI G A s H locs (WM G a S) → lv_has ls 3 [] → W p l e (RM 2 47) s m args below meth c H locs 0 0 Q (F0 m 52 ls [.int y0, .int y1, .ref (a 1)]) := by
    intro S y0 y1 H locs ls hF hs hl
    unfold J_X5_fund_52 at hF
    obtain ⟨q4, hq4, hF⟩ := bd hF
    refine sx_S (As := [.ref (a 1), .int y1, .int y0]) (rest := []) (st1 := [.long q4]) (c_X5_fundOf G l (a 1) (m_s S) y1 y0 q4 hq4) v_X5_298 ⟨(Nat.le_of_ble_eq_true rfl), (Nat.le_of_ble_eq_true rfl)⟩ hx hb hml hown hts hE hA hs ⟨Nat.le_refl 0, Nat.le_refl 0⟩ rfl rfl rfl hl.1 (Nat.le_of_ble_eq_true rfl) dX5_fund_52 (pM_s G a S (m_s S)) (ws' := WM G a S) (pM_s G a S (m_s S)) (fun H locs hs => ?_)
    refine lv_l2i hx hb dX5_fund_55 rfl ?_
    exact sx_iret hx hb hr hlk hQ (congrArg Prod.fst (Option.some.inj hF)) (congrArg (fun z => WM G a z) (congrArg Prod.snd (Option.some.inj hF))) hs dX5_fund_56
  have hJ28_n : ∀ (S : MS) (x1 : Int32) (x2 : Int32) (y0 : Int32) (H : Heap) (locs : List Loc) (ls : Array Slot), J_X5_fund_28 S x1 x2 y0 = some r → SI G A s H locs (WM G a S) → lv_has ls 3 [(0, .ref (a 0)), (1, .int x1), (2, .int x2)] → W p l e (RM 2 47) s m args below meth c H locs 0 0 Q (F0 m 28 ls [.int y0, .ref (a 0)]) := by
    intro S x1 x2 y0 H locs ls hF hs hl
    unfold J_X5_fund_28 at hF
    refine lv_iconst (v := (1 : Int32)) hx hb dX5_fund_28 (by decide) ?_
    obtain ⟨q3, hq3, hF⟩ := bd hF
    refine sx_V (As := [.int y0, .int (1 : Int32)]) (rest := []) (st1 := [.int q3.1]) (c_X5_refuse G l a S y0 (1 : Int32) q3 hq3) v_X5_215 ⟨(Nat.le_of_ble_eq_true rfl), (Nat.le_of_ble_eq_true rfl)⟩ hx hb hml hown hts hE hA hs ⟨Nat.le_refl 0, Nat.le_refl 0⟩ 0 rfl rfl rfl rfl rfl hl.1 (Nat.le_of_ble_eq_true rfl) dX5_fund_29 (pmW _) (ws' := WM G a q3.2) (pmW _) (fun H locs hs => ?_)
    refine lv_if_eq (tgt := 37) hx hb dX5_fund_32 (by decide) (fun hc => ?_) (fun hc => ?_)
    · have hF := (if_pos hc).symm.trans hF
      refine lv_aload_n hx hb dX5_fund_37 rfl (lv_at hl 0 rfl) ?_
      refine fg_X5_13 hx hb hown hts hE hs 0 rfl (v := .ref (a 1)) rfl dX5_fund_38 ?_
      refine lv_iload_n hx hb dX5_fund_41 rfl (lv_at hl 1 rfl) ?_
      refine lv_iload_n hx hb dX5_fund_42 rfl (lv_at hl 2 rfl) ?_
      refine lv_if_ne (tgt := 51) hx hb dX5_fund_43 (by decide) (fun hc => ?_) (fun hc => ?_)
      · have hF := (if_neg hc).symm.trans hF
        refine lv_iconst (v := (5 : Int32)) hx hb dX5_fund_51 (by decide) ?_
        exact hJ52_n q3.2 (5 : Int32) x1 _ _ _ hF hs (lv_sub hl [] rfl)
      · have hF := (if_pos hc).symm.trans hF
        refine lv_bipush (v := (6 : Int32)) hx hb dX5_fund_46 (by decide) ?_
        refine lv_goto (tgt := 52) hx hb dX5_fund_48 (by decide) ?_
        exact hJ52_n q3.2 (6 : Int32) x1 _ _ _ hF hs (lv_sub hl [] rfl)
    · have hF := (if_neg hc).symm.trans hF
      refine lv_iconst (v := (-1 : Int32)) hx hb dX5_fund_35 (by decide) ?_
      exact sx_iret hx hb hr hlk hQ (congrArg Prod.fst (Option.some.inj hF)) (congrArg (fun z => WM G a z) (congrArg Prod.snd (Option.some.inj hF))) hs dX5_fund_36
  have hJ23_n : ∀ (S : MS) (x1 : Int32) (x2 : Int32) (H : Heap) (locs : List Loc) (ls : Array Slot), J_X5_fund_23 S x1 x2 = some r → SI G A s H locs (WM G a S) → lv_has ls 3 [(0, .ref (a 0)), (1, .int x1), (2, .int x2)] → W p l e (RM 2 47) s m args below meth c H locs 0 0 Q (F0 m 23 ls [.ref (a 0)]) := by
    intro S x1 x2 H locs ls hF hs hl
    unfold J_X5_fund_23 at hF
    refine lv_iconst (v := (1 : Int32)) hx hb dX5_fund_23 (by decide) ?_
    refine lv_goto (tgt := 28) hx hb dX5_fund_24 (by decide) ?_
    exact hJ28_n S x1 x2 (1 : Int32) _ _ _ hF hs (lv_sub hl [0, 1, 2] rfl)
  unfold F_X5_fund at hF
  refine lv_aload_n hx hb dX5_fund_0 rfl (lv_at hl 0 rfl) ?_
  obtain ⟨q1, hq1, hF⟩ := bd hF
  refine sx_V (As := []) (rest := []) (st1 := []) (c_X5_begins G l a S q1 hq1) v_X5_212 ⟨(Nat.le_of_ble_eq_true rfl), (Nat.le_of_ble_eq_true rfl)⟩ hx hb hml hown hts hE hA hs ⟨Nat.le_refl 0, Nat.le_refl 0⟩ 0 rfl rfl rfl rfl rfl hl.1 (Nat.le_of_ble_eq_true rfl) dX5_fund_1 (pmW _) (ws' := WM G a q1) (pmW _) (fun H locs hs => ?_)
  refine lv_aload_n hx hb dX5_fund_4 rfl (lv_at hl 0 rfl) ?_
  refine lv_aload_n hx hb dX5_fund_5 rfl (lv_at hl 0 rfl) ?_
  refine lv_iload_n hx hb dX5_fund_6 rfl (lv_at hl 1 rfl) ?_
  obtain ⟨q2, hq2, hF⟩ := bd hF
  refine sx_V (As := [.int x1]) (rest := [.ref (a 0)]) (st1 := [.int q2, .ref (a 0)]) (c_X5_isShip G l a q1 x1 q2 hq2) v_X5_234 ⟨(Nat.le_of_ble_eq_true rfl), (Nat.le_of_ble_eq_true rfl)⟩ hx hb hml hown hts hE hA hs ⟨Nat.le_refl 0, Nat.le_refl 0⟩ 0 rfl rfl rfl rfl rfl hl.1 (Nat.le_of_ble_eq_true rfl) dX5_fund_7 (pmW _) (ws' := WM G a q1) (pmW _) (fun H locs hs => ?_)
  refine lv_if_eq (tgt := 23) hx hb dX5_fund_10 (by decide) (fun hc => ?_) (fun hc => ?_)
  · have hF := (if_pos hc).symm.trans hF
    exact hJ23_n q1 x1 x2 _ _ _ hF hs (lv_sub hl [0, 1, 2] rfl)
  · have hF := (if_neg hc).symm.trans hF
    refine lv_iload_n hx hb dX5_fund_13 rfl (lv_at hl 2 rfl) ?_
    refine lv_i2l hx hb dX5_fund_14 rfl ?_
    refine lv_lconst (v := (0 : Int64)) hx hb dX5_fund_15 (by decide) ?_
    refine lv_lconst (v := (1 : Int64)) hx hb dX5_fund_16 (by decide) ?_
    obtain ⟨q5, hq5, hF⟩ := bd hF
    refine sx_S (As := [.long x2.toInt64, .long (0 : Int64), .long (1 : Int64)]) (rest := [.ref (a 0)]) (st1 := [.int q5, .ref (a 0)]) (c_X5_in G l  x2.toInt64 (0 : Int64) (1 : Int64) q5 hq5) v_X5_161 ⟨(Nat.le_of_ble_eq_true rfl), (Nat.le_of_ble_eq_true rfl)⟩ hx hb hml hown hts hE hA hs ⟨Nat.le_refl 0, Nat.le_refl 0⟩ rfl rfl rfl hl.1 (Nat.le_of_ble_eq_true rfl) dX5_fund_17 (List.Perm.refl _) (ws' := WM G a q1) (List.Perm.refl _) (fun H locs hs => ?_)
    refine lv_if_ne (tgt := 27) hx hb dX5_fund_20 (by decide) (fun hc => ?_) (fun hc => ?_)
    · have hF := (if_neg hc).symm.trans hF
      refine lv_iconst (v := (0 : Int32)) hx hb dX5_fund_27 (by decide) ?_
      exact hJ28_n q1 x1 x2 (0 : Int32) _ _ _ hF hs (lv_sub hl [0, 1, 2] rfl)
    · have hF := (if_pos hc).symm.trans hF
      exact hJ23_n q1 x1 x2 _ _ _ hF hs (lv_sub hl [0, 1, 2] rfl)
set_option maxHeartbeats 4000000 in
set_option maxRecDepth 100000 in
theorem c_X5_pays (G : GT) (l : Launch) (a : Nat → Nat) (S : MS) (x1 : Int32) (x2 : Int32) (r : Int32 × MS) (hF : F_X5_pays S x1 x2 = some r) : MT G l yX5_pays cX5_pays 3 (some .int) 13 295 [.ref (a 0), .int x1, .int x2] (WM G a S) (some (.int r.1)) (WM G a r.2) := by
  refine MT.of (by decide) (Nat.le_of_ble_eq_true rfl) ?_
  intro p e s m args below meth c A ls hx hb hr hml hown hts hlk hE hA hs hl Q hQ
  have hl : lv_has ls 3 [(0, .ref (a 0)), (1, .int x1), (2, .int x2)] := hl
  have hJ26_n : ∀ (S : MS) (x1 : Int32) (x2 : Int32) (y0 : Int32) (H : Heap) (locs : List Loc) (ls : Array Slot), J_X5_pays_26 S x1 x2 y0 = some r → SI G A s H locs (WM G a S) → lv_has ls 3 [(0, .ref (a 0)), (1, .int x1), (2, .int x2)] → W p l e (RM 13 295) s m args below meth c H locs 0 0 Q (F0 m 26 ls [.int y0, .ref (a 0)]) := by
    intro S x1 x2 y0 H locs ls hF hs hl
    unfold J_X5_pays_26 at hF
    refine lv_iconst (v := (1 : Int32)) hx hb dX5_pays_26 (by decide) ?_
    obtain ⟨q3, hq3, hF⟩ := bd hF
    refine sx_V (As := [.int y0, .int (1 : Int32)]) (rest := []) (st1 := [.int q3.1]) (c_X5_refuse G l a S y0 (1 : Int32) q3 hq3) v_X5_215 ⟨(Nat.le_of_ble_eq_true rfl), (Nat.le_of_ble_eq_true rfl)⟩ hx hb hml hown hts hE hA hs ⟨Nat.le_refl 0, Nat.le_refl 0⟩ 0 rfl rfl rfl rfl rfl hl.1 (Nat.le_of_ble_eq_true rfl) dX5_pays_27 (pmW _) (ws' := WM G a q3.2) (pmW _) (fun H locs hs => ?_)
    refine lv_if_eq (tgt := 35) hx hb dX5_pays_30 (by decide) (fun hc => ?_) (fun hc => ?_)
    · have hF := (if_pos hc).symm.trans hF
      refine lv_aload_n hx hb dX5_pays_35 rfl (lv_at hl 0 rfl) ?_
      obtain ⟨q4, hq4, hF⟩ := bd hF
      refine sx_V (As := []) (rest := []) (st1 := []) (c_X5_laysPaid G l a q3.2 q4 hq4) v_X5_343 ⟨(Nat.le_of_ble_eq_true rfl), (Nat.le_of_ble_eq_true rfl)⟩ hx hb hml hown hts hE hA hs ⟨Nat.le_refl 0, Nat.le_refl 0⟩ 0 rfl rfl rfl rfl rfl hl.1 (Nat.le_of_ble_eq_true rfl) dX5_pays_36 (pmW _) (ws' := WM G a q4) (pmW _) (fun H locs hs => ?_)
      refine lv_aload_n hx hb dX5_pays_39 rfl (lv_at hl 0 rfl) ?_
      refine fg_X5_49 hx hb hown hts hE hs 0 rfl (v := .ref (a 12)) rfl dX5_pays_40 ?_
      refine lv_bipush (v := (16 : Int32)) hx hb dX5_pays_43 (by decide) ?_
      refine lv_iload_n hx hb dX5_pays_45 rfl (lv_at hl 1 rfl) ?_
      refine lv_imul hx hb dX5_pays_46 ?_
      refine lv_iconst (v := (4 : Int32)) hx hb dX5_pays_47 (by decide) ?_
      refine lv_iadd hx hb dX5_pays_48 ?_
      refine lv_iload_n hx hb dX5_pays_49 rfl (lv_at hl 2 rfl) ?_
      refine lv_iadd hx hb dX5_pays_50 ?_
      obtain ⟨v5, hv5, hF⟩ := bd hF
      refine sx_lald hx hb hE hs 12 (f := m_paid q4) rfl hv5 dX5_pays_51 ?_
      refine lv_l2i hx hb dX5_pays_52 rfl ?_
      exact sx_iret hx hb hr hlk hQ (congrArg Prod.fst (Option.some.inj hF)) (congrArg (fun z => WM G a z) (congrArg Prod.snd (Option.some.inj hF))) hs dX5_pays_53
    · have hF := (if_neg hc).symm.trans hF
      refine lv_iconst (v := (-1 : Int32)) hx hb dX5_pays_33 (by decide) ?_
      exact sx_iret hx hb hr hlk hQ (congrArg Prod.fst (Option.some.inj hF)) (congrArg (fun z => WM G a z) (congrArg Prod.snd (Option.some.inj hF))) hs dX5_pays_34
  have hJ21_n : ∀ (S : MS) (x1 : Int32) (x2 : Int32) (H : Heap) (locs : List Loc) (ls : Array Slot), J_X5_pays_21 S x1 x2 = some r → SI G A s H locs (WM G a S) → lv_has ls 3 [(0, .ref (a 0)), (1, .int x1), (2, .int x2)] → W p l e (RM 13 295) s m args below meth c H locs 0 0 Q (F0 m 21 ls [.ref (a 0)]) := by
    intro S x1 x2 H locs ls hF hs hl
    unfold J_X5_pays_21 at hF
    refine lv_iconst (v := (1 : Int32)) hx hb dX5_pays_21 (by decide) ?_
    refine lv_goto (tgt := 26) hx hb dX5_pays_22 (by decide) ?_
    exact hJ26_n S x1 x2 (1 : Int32) _ _ _ hF hs (lv_sub hl [0, 1, 2] rfl)
  unfold F_X5_pays at hF
  refine lv_aload_n hx hb dX5_pays_0 rfl (lv_at hl 0 rfl) ?_
  obtain ⟨q1, hq1, hF⟩ := bd hF
  refine sx_V (As := []) (rest := []) (st1 := []) (c_X5_begins G l a S q1 hq1) v_X5_212 ⟨(Nat.le_of_ble_eq_true rfl), (Nat.le_of_ble_eq_true rfl)⟩ hx hb hml hown hts hE hA hs ⟨Nat.le_refl 0, Nat.le_refl 0⟩ 0 rfl rfl rfl rfl rfl hl.1 (Nat.le_of_ble_eq_true rfl) dX5_pays_1 (pmW _) (ws' := WM G a q1) (pmW _) (fun H locs hs => ?_)
  refine lv_aload_n hx hb dX5_pays_4 rfl (lv_at hl 0 rfl) ?_
  refine lv_aload_n hx hb dX5_pays_5 rfl (lv_at hl 0 rfl) ?_
  refine lv_iload_n hx hb dX5_pays_6 rfl (lv_at hl 1 rfl) ?_
  obtain ⟨q2, hq2, hF⟩ := bd hF
  refine sx_V (As := [.int x1]) (rest := [.ref (a 0)]) (st1 := [.int q2, .ref (a 0)]) (c_X5_isShip G l a q1 x1 q2 hq2) v_X5_234 ⟨(Nat.le_of_ble_eq_true rfl), (Nat.le_of_ble_eq_true rfl)⟩ hx hb hml hown hts hE hA hs ⟨Nat.le_refl 0, Nat.le_refl 0⟩ 0 rfl rfl rfl rfl rfl hl.1 (Nat.le_of_ble_eq_true rfl) dX5_pays_7 (pmW _) (ws' := WM G a q1) (pmW _) (fun H locs hs => ?_)
  refine lv_if_eq (tgt := 21) hx hb dX5_pays_10 (by decide) (fun hc => ?_) (fun hc => ?_)
  · have hF := (if_pos hc).symm.trans hF
    exact hJ21_n q1 x1 x2 _ _ _ hF hs (lv_sub hl [0, 1, 2] rfl)
  · have hF := (if_neg hc).symm.trans hF
    refine lv_aload_n hx hb dX5_pays_13 rfl (lv_at hl 0 rfl) ?_
    refine lv_iload_n hx hb dX5_pays_14 rfl (lv_at hl 2 rfl) ?_
    obtain ⟨q6, hq6, hF⟩ := bd hF
    refine sx_V (As := [.int x2]) (rest := [.ref (a 0)]) (st1 := [.int q6, .ref (a 0)]) (c_X5_isClaim G l a q1 x2 q6 hq6) v_X5_247 ⟨(Nat.le_of_ble_eq_true rfl), (Nat.le_of_ble_eq_true rfl)⟩ hx hb hml hown hts hE hA hs ⟨Nat.le_refl 0, Nat.le_refl 0⟩ 0 rfl rfl rfl rfl rfl hl.1 (Nat.le_of_ble_eq_true rfl) dX5_pays_15 (pmW _) (ws' := WM G a q1) (pmW _) (fun H locs hs => ?_)
    refine lv_if_ne (tgt := 25) hx hb dX5_pays_18 (by decide) (fun hc => ?_) (fun hc => ?_)
    · have hF := (if_neg hc).symm.trans hF
      refine lv_iconst (v := (0 : Int32)) hx hb dX5_pays_25 (by decide) ?_
      exact hJ26_n q1 x1 x2 (0 : Int32) _ _ _ hF hs (lv_sub hl [0, 1, 2] rfl)
    · have hF := (if_pos hc).symm.trans hF
      exact hJ21_n q1 x1 x2 _ _ _ hF hs (lv_sub hl [0, 1, 2] rfl)
set_option maxHeartbeats 4000000 in
set_option maxRecDepth 100000 in
theorem c_X5_paysTo (G : GT) (l : Launch) (a : Nat → Nat) (S : MS) (x1 : Int32) (x2 : Int32) (r : Int64 × MS) (hF : F_X5_paysTo S x1 x2 = some r) : MT G l yX5_paysTo cX5_paysTo 3 (some .long) 13 295 [.ref (a 0), .int x1, .int x2] (WM G a S) (some (.long r.1)) (WM G a r.2) := by
  refine MT.of (by decide) (Nat.le_of_ble_eq_true rfl) ?_
  intro p e s m args below meth c A ls hx hb hr hml hown hts hlk hE hA hs hl Q hQ
  have hl : lv_has ls 3 [(0, .ref (a 0)), (1, .int x1), (2, .int x2)] := hl
  have hJ51_n : ∀ (S : MS) (H : Heap) (locs : List Loc) (ls : Array Slot), J_X5_paysTo_51 S = some r → SI G A s H locs (WM G a S) → lv_has ls 3 [] → W p l e (RM 13 295) s m args below meth c H locs 0 0 Q (F0 m 51 ls []) := by
    intro S H locs ls hF hs hl
    unfold J_X5_paysTo_51 at hF
    refine lv_ldc2 (v := (-1 : Int64)) hx hb hown (hts _ g1263) dX5_paysTo_51 ?_
    exact sx_lret hx hb hr hlk hQ (congrArg Prod.fst (Option.some.inj hF)) (congrArg (fun z => WM G a z) (congrArg Prod.snd (Option.some.inj hF))) hs dX5_paysTo_54
  have hJ44_n : ∀ (S : MS) (x1 : Int32) (x2 : Int32) (y0 : Int32) (H : Heap) (locs : List Loc) (ls : Array Slot), J_X5_paysTo_44 S x1 x2 y0 = some r → SI G A s H locs (WM G a S) → lv_has ls 3 [(0, .ref (a 0)), (1, .int x1), (2, .int x2)] → W p l e (RM 13 295) s m args below meth c H locs 0 0 Q (F0 m 44 ls [.int y0, .ref (a 0)]) := by
    intro S x1 x2 y0 H locs ls hF hs hl
    unfold J_X5_paysTo_44 at hF
    refine lv_iconst (v := (5 : Int32)) hx hb dX5_paysTo_44 (by decide) ?_
    obtain ⟨q4, hq4, hF⟩ := bd hF
    refine sx_V (As := [.int y0, .int (5 : Int32)]) (rest := []) (st1 := [.int q4.1]) (c_X5_refuse G l a S y0 (5 : Int32) q4 hq4) v_X5_215 ⟨(Nat.le_of_ble_eq_true rfl), (Nat.le_of_ble_eq_true rfl)⟩ hx hb hml hown hts hE hA hs ⟨Nat.le_refl 0, Nat.le_refl 0⟩ 0 rfl rfl rfl rfl rfl hl.1 (Nat.le_of_ble_eq_true rfl) dX5_paysTo_45 (pmW _) (ws' := WM G a q4.2) (pmW _) (fun H locs hs => ?_)
    refine lv_if_eq (tgt := 55) hx hb dX5_paysTo_48 (by decide) (fun hc => ?_) (fun hc => ?_)
    · have hF := (if_pos hc).symm.trans hF
      refine lv_aload_n hx hb dX5_paysTo_55 rfl (lv_at hl 0 rfl) ?_
      obtain ⟨q5, hq5, hF⟩ := bd hF
      refine sx_V (As := []) (rest := []) (st1 := []) (c_X5_laysPaid G l a q4.2 q5 hq5) v_X5_343 ⟨(Nat.le_of_ble_eq_true rfl), (Nat.le_of_ble_eq_true rfl)⟩ hx hb hml hown hts hE hA hs ⟨Nat.le_refl 0, Nat.le_refl 0⟩ 0 rfl rfl rfl rfl rfl hl.1 (Nat.le_of_ble_eq_true rfl) dX5_paysTo_56 (pmW _) (ws' := WM G a q5) (pmW _) (fun H locs hs => ?_)
      refine lv_aload_n hx hb dX5_paysTo_59 rfl (lv_at hl 0 rfl) ?_
      refine fg_X5_49 hx hb hown hts hE hs 0 rfl (v := .ref (a 12)) rfl dX5_paysTo_60 ?_
      refine lv_bipush (v := (16 : Int32)) hx hb dX5_paysTo_63 (by decide) ?_
      refine lv_iload_n hx hb dX5_paysTo_65 rfl (lv_at hl 1 rfl) ?_
      refine lv_imul hx hb dX5_paysTo_66 ?_
      refine lv_iload_n hx hb dX5_paysTo_67 rfl (lv_at hl 2 rfl) ?_
      refine lv_iadd hx hb dX5_paysTo_68 ?_
      obtain ⟨v6, hv6, hF⟩ := bd hF
      refine sx_lald hx hb hE hs 12 (f := m_paid q5) rfl hv6 dX5_paysTo_69 ?_
      exact sx_lret hx hb hr hlk hQ (congrArg Prod.fst (Option.some.inj hF)) (congrArg (fun z => WM G a z) (congrArg Prod.snd (Option.some.inj hF))) hs dX5_paysTo_70
    · have hF := (if_neg hc).symm.trans hF
      exact hJ51_n q4.2 _ _ _ hF hs (lv_sub hl [] rfl)
  have hJ26_n : ∀ (S : MS) (x1 : Int32) (x2 : Int32) (y0 : Int32) (H : Heap) (locs : List Loc) (ls : Array Slot), J_X5_paysTo_26 S x1 x2 y0 = some r → SI G A s H locs (WM G a S) → lv_has ls 3 [(0, .ref (a 0)), (1, .int x1), (2, .int x2)] → W p l e (RM 13 295) s m args below meth c H locs 0 0 Q (F0 m 26 ls [.int y0, .ref (a 0)]) := by
    intro S x1 x2 y0 H locs ls hF hs hl
    unfold J_X5_paysTo_26 at hF
    refine lv_iconst (v := (1 : Int32)) hx hb dX5_paysTo_26 (by decide) ?_
    obtain ⟨q3, hq3, hF⟩ := bd hF
    refine sx_V (As := [.int y0, .int (1 : Int32)]) (rest := []) (st1 := [.int q3.1]) (c_X5_refuse G l a S y0 (1 : Int32) q3 hq3) v_X5_215 ⟨(Nat.le_of_ble_eq_true rfl), (Nat.le_of_ble_eq_true rfl)⟩ hx hb hml hown hts hE hA hs ⟨Nat.le_refl 0, Nat.le_refl 0⟩ 0 rfl rfl rfl rfl rfl hl.1 (Nat.le_of_ble_eq_true rfl) dX5_paysTo_27 (pmW _) (ws' := WM G a q3.2) (pmW _) (fun H locs hs => ?_)
    refine lv_if_ne (tgt := 51) hx hb dX5_paysTo_30 (by decide) (fun hc => ?_) (fun hc => ?_)
    · have hF := (if_neg hc).symm.trans hF
      exact hJ51_n q3.2 _ _ _ hF hs (lv_sub hl [] rfl)
    · have hF := (if_pos hc).symm.trans hF
      refine lv_aload_n hx hb dX5_paysTo_33 rfl (lv_at hl 0 rfl) ?_
      refine lv_iload_n hx hb dX5_paysTo_34 rfl (lv_at hl 1 rfl) ?_
      refine lv_iload_n hx hb dX5_paysTo_35 rfl (lv_at hl 2 rfl) ?_
      refine lv_icmp_ne (tgt := 43) hx hb dX5_paysTo_36 (by decide) (fun hc => ?_) (fun hc => ?_)
      · have hF := (if_neg hc).symm.trans hF
        refine lv_iconst (v := (0 : Int32)) hx hb dX5_paysTo_43 (by decide) ?_
        exact hJ44_n q3.2 x1 x2 (0 : Int32) _ _ _ hF hs (lv_sub hl [0, 1, 2] rfl)
      · have hF := (if_pos hc).symm.trans hF
        refine lv_iconst (v := (1 : Int32)) hx hb dX5_paysTo_39 (by decide) ?_
        refine lv_goto (tgt := 44) hx hb dX5_paysTo_40 (by decide) ?_
        exact hJ44_n q3.2 x1 x2 (1 : Int32) _ _ _ hF hs (lv_sub hl [0, 1, 2] rfl)
  have hJ21_n : ∀ (S : MS) (x1 : Int32) (x2 : Int32) (H : Heap) (locs : List Loc) (ls : Array Slot), J_X5_paysTo_21 S x1 x2 = some r → SI G A s H locs (WM G a S) → lv_has ls 3 [(0, .ref (a 0)), (1, .int x1), (2, .int x2)] → W p l e (RM 13 295) s m args below meth c H locs 0 0 Q (F0 m 21 ls [.ref (a 0)]) := by
    intro S x1 x2 H locs ls hF hs hl
    unfold J_X5_paysTo_21 at hF
    refine lv_iconst (v := (1 : Int32)) hx hb dX5_paysTo_21 (by decide) ?_
    refine lv_goto (tgt := 26) hx hb dX5_paysTo_22 (by decide) ?_
    exact hJ26_n S x1 x2 (1 : Int32) _ _ _ hF hs (lv_sub hl [0, 1, 2] rfl)
  unfold F_X5_paysTo at hF
  refine lv_aload_n hx hb dX5_paysTo_0 rfl (lv_at hl 0 rfl) ?_
  obtain ⟨q1, hq1, hF⟩ := bd hF
  refine sx_V (As := []) (rest := []) (st1 := []) (c_X5_begins G l a S q1 hq1) v_X5_212 ⟨(Nat.le_of_ble_eq_true rfl), (Nat.le_of_ble_eq_true rfl)⟩ hx hb hml hown hts hE hA hs ⟨Nat.le_refl 0, Nat.le_refl 0⟩ 0 rfl rfl rfl rfl rfl hl.1 (Nat.le_of_ble_eq_true rfl) dX5_paysTo_1 (pmW _) (ws' := WM G a q1) (pmW _) (fun H locs hs => ?_)
  refine lv_aload_n hx hb dX5_paysTo_4 rfl (lv_at hl 0 rfl) ?_
  refine lv_aload_n hx hb dX5_paysTo_5 rfl (lv_at hl 0 rfl) ?_
  refine lv_iload_n hx hb dX5_paysTo_6 rfl (lv_at hl 1 rfl) ?_
  obtain ⟨q2, hq2, hF⟩ := bd hF
  refine sx_V (As := [.int x1]) (rest := [.ref (a 0)]) (st1 := [.int q2, .ref (a 0)]) (c_X5_isShip G l a q1 x1 q2 hq2) v_X5_234 ⟨(Nat.le_of_ble_eq_true rfl), (Nat.le_of_ble_eq_true rfl)⟩ hx hb hml hown hts hE hA hs ⟨Nat.le_refl 0, Nat.le_refl 0⟩ 0 rfl rfl rfl rfl rfl hl.1 (Nat.le_of_ble_eq_true rfl) dX5_paysTo_7 (pmW _) (ws' := WM G a q1) (pmW _) (fun H locs hs => ?_)
  refine lv_if_eq (tgt := 21) hx hb dX5_paysTo_10 (by decide) (fun hc => ?_) (fun hc => ?_)
  · have hF := (if_pos hc).symm.trans hF
    exact hJ21_n q1 x1 x2 _ _ _ hF hs (lv_sub hl [0, 1, 2] rfl)
  · have hF := (if_neg hc).symm.trans hF
    refine lv_aload_n hx hb dX5_paysTo_13 rfl (lv_at hl 0 rfl) ?_
    refine lv_iload_n hx hb dX5_paysTo_14 rfl (lv_at hl 2 rfl) ?_
    obtain ⟨q7, hq7, hF⟩ := bd hF
    refine sx_V (As := [.int x2]) (rest := [.ref (a 0)]) (st1 := [.int q7, .ref (a 0)]) (c_X5_isShip G l a q1 x2 q7 hq7) v_X5_234 ⟨(Nat.le_of_ble_eq_true rfl), (Nat.le_of_ble_eq_true rfl)⟩ hx hb hml hown hts hE hA hs ⟨Nat.le_refl 0, Nat.le_refl 0⟩ 0 rfl rfl rfl rfl rfl hl.1 (Nat.le_of_ble_eq_true rfl) dX5_paysTo_15 (pmW _) (ws' := WM G a q1) (pmW _) (fun H locs hs => ?_)
    refine lv_if_ne (tgt := 25) hx hb dX5_paysTo_18 (by decide) (fun hc => ?_) (fun hc => ?_)
    · have hF := (if_neg hc).symm.trans hF
      refine lv_iconst (v := (0 : Int32)) hx hb dX5_paysTo_25 (by decide) ?_
      exact hJ26_n q1 x1 x2 (0 : Int32) _ _ _ hF hs (lv_sub hl [0, 1, 2] rfl)
    · have hF := (if_pos hc).symm.trans hF
      exact hJ21_n q1 x1 x2 _ _ _ hF hs (lv_sub hl [0, 1, 2] rfl)
set_option maxHeartbeats 4000000 in
set_option maxRecDepth 100000 in
theorem c_X5_owedBy (G : GT) (l : Launch) (a : Nat → Nat) (S : MS) (x1 : Int32) (r : Int64) (hF : F_X5_owedBy S x1 = some r) : MT G l yX5_owedBy cX5_owedBy 5 (some .long) 9 207 [.ref (a 0), .int x1] (WM G a S) (some (.long r)) (WM G a S) := by
  refine MT.of (by decide) (Nat.le_of_ble_eq_true rfl) ?_
  intro p e s m args below meth c A ls hx hb hr hml hown hts hlk hE hA hs hl Q hQ
  have hl : lv_has ls 5 [(0, .ref (a 0)), (1, .int x1)] := hl
  have hL5 : ∀ (x1 : Int32) (k : Int64 → Option (Int64)) (hk : ∀ (x2 : Int64) (H : Heap) (locs : List Loc) (ls : Array Slot), k x2 = some r → SI G A s H locs (WM G a S) → lv_has ls 5 [(0, .ref (a 0)), (1, .int x1), (2, .long x2)] → W p l e (RM 9 207) s m args below meth c H locs 0 0 Q (F0 m 35 ls [])) (fu : Nat) (x2 : Int64) (x4 : Int32) (H : Heap) (locs : List Loc) (ls : Array Slot), lo2 (B_X5_owedBy_5 S x1 k) fu x2 x4 = some r → SI G A s H locs (WM G a S) → lv_has ls 5 [(0, .ref (a 0)), (1, .int x1), (2, .long x2), (4, .int x4)] → W p l e (RM 9 207) s m args below meth c H locs 0 0 Q (F0 m 5 ls []) := by
    intro x1 k hk fu
    induction fu with
    | zero =>
      intro x2 x4 H locs ls hF hs hl
      exact nomatch (show (none : Option (Int64)) = some r from hF)
    | succ fu hrec =>
      intro x2 x4 H locs ls hF hs hl
      have hF : (B_X5_owedBy_5 S x1 k) (lo2 (B_X5_owedBy_5 S x1 k) fu) x2 x4 = some r := hF
      unfold B_X5_owedBy_5 at hF
      refine lv_iload hx hb dX5_owedBy_5 (lv_at hl 3 rfl) ?_
      refine lv_aload_n hx hb dX5_owedBy_7 rfl (lv_at hl 0 rfl) ?_
      refine fg_X5_13 hx hb hown hts hE hs 0 rfl (v := .ref (a 1)) rfl dX5_owedBy_8 ?_
      refine lv_iconst (v := (0 : Int32)) hx hb dX5_owedBy_11 (by decide) ?_
      obtain ⟨v1, hv1, hF⟩ := bd hF
      refine sx_iald hx hb hE hs 1 (f := m_s S) rfl hv1 dX5_owedBy_12 ?_
      refine lv_icmp_ge (tgt := 35) hx hb dX5_owedBy_13 (by decide) (fun hc => ?_) (fun hc => ?_)
      · have hF := (if_pos hc).symm.trans hF
        exact hk x2 _ _ _ hF hs (lv_sub hl [0, 1, 2] rfl)
      · have hF := (if_neg hc).symm.trans hF
        refine lv_lload_n hx hb dX5_owedBy_16 rfl (lv_at hl 2 rfl) ?_
        refine lv_aload_n hx hb dX5_owedBy_17 rfl (lv_at hl 0 rfl) ?_
        refine fg_X5_13 hx hb hown hts hE hs 0 rfl (v := .ref (a 1)) rfl dX5_owedBy_18 ?_
        refine lv_iload_n hx hb dX5_owedBy_21 rfl (lv_at hl 1 rfl) ?_
        refine lv_iload hx hb dX5_owedBy_22 (lv_at hl 3 rfl) ?_
        obtain ⟨q2, hq2, hF⟩ := bd hF
        refine sx_S (As := [.ref (a 1), .int x1, .int x4]) (rest := [.long x2]) (st1 := [.long q2, .long x2]) (c_X5_lawOwed G l (a 1) (m_s S) x1 x4 q2 hq2) v_X5_295 ⟨(Nat.le_of_ble_eq_true rfl), (Nat.le_of_ble_eq_true rfl)⟩ hx hb hml hown hts hE hA hs ⟨Nat.le_refl 0, Nat.le_refl 0⟩ rfl rfl rfl hl.1 (Nat.le_of_ble_eq_true rfl) dX5_owedBy_24 (pM_s G a S (m_s S)) (ws' := WM G a S) (pM_s G a S (m_s S)) (fun H locs hs => ?_)
        refine lv_ladd hx hb dX5_owedBy_27 ?_
        obtain ⟨v3, ev3, hF⟩ := nm_some hF
        refine sx_topl ev3 ?_
        refine lv_lstore_n (lv' := [(2, .long v3), (0, .ref (a 0)), (1, .int x1), (4, .int x4)]) hx hb dX5_owedBy_28 rfl hl (by decide) rfl (fun ls hl => ?_)
        obtain ⟨v4, ev4, hF⟩ := nm_some hF
        refine lv_iinc (v := v4) (lv' := [(4, .int v4), (2, .long v3), (0, .ref (a 0)), (1, .int x1)]) hx hb dX5_owedBy_29 hl (k := 3) rfl (by rw [ev4]; rfl) (by decide) rfl (fun ls hl => ?_)
        refine lv_goto (tgt := 5) hx hb dX5_owedBy_32 (by decide) ?_
        exact hrec v3 v4 _ _ _ hF hs (lv_sub hl [2, 3, 1, 0] rfl)
  have hL38 : ∀ (x1 : Int32) (k : Int64 → Option (Int64)) (hk : ∀ (x2 : Int64) (H : Heap) (locs : List Loc) (ls : Array Slot), k x2 = some r → SI G A s H locs (WM G a S) → lv_has ls 5 [(2, .long x2)] → W p l e (RM 9 207) s m args below meth c H locs 0 0 Q (F0 m 68 ls [])) (fu : Nat) (x2 : Int64) (x4 : Int32) (H : Heap) (locs : List Loc) (ls : Array Slot), lo2 (B_X5_owedBy_38 S x1 k) fu x2 x4 = some r → SI G A s H locs (WM G a S) → lv_has ls 5 [(0, .ref (a 0)), (1, .int x1), (2, .long x2), (4, .int x4)] → W p l e (RM 9 207) s m args below meth c H locs 0 0 Q (F0 m 38 ls []) := by
    intro x1 k hk fu
    induction fu with
    | zero =>
      intro x2 x4 H locs ls hF hs hl
      exact nomatch (show (none : Option (Int64)) = some r from hF)
    | succ fu hrec =>
      intro x2 x4 H locs ls hF hs hl
      have hF : (B_X5_owedBy_38 S x1 k) (lo2 (B_X5_owedBy_38 S x1 k) fu) x2 x4 = some r := hF
      unfold B_X5_owedBy_38 at hF
      refine lv_iload hx hb dX5_owedBy_38 (lv_at hl 3 rfl) ?_
      refine lv_aload_n hx hb dX5_owedBy_40 rfl (lv_at hl 0 rfl) ?_
      refine fg_X5_13 hx hb hown hts hE hs 0 rfl (v := .ref (a 1)) rfl dX5_owedBy_41 ?_
      refine lv_iconst (v := (1 : Int32)) hx hb dX5_owedBy_44 (by decide) ?_
      obtain ⟨v6, hv6, hF⟩ := bd hF
      refine sx_iald hx hb hE hs 1 (f := m_s S) rfl hv6 dX5_owedBy_45 ?_
      refine lv_icmp_ge (tgt := 68) hx hb dX5_owedBy_46 (by decide) (fun hc => ?_) (fun hc => ?_)
      · have hF := (if_pos hc).symm.trans hF
        exact hk x2 _ _ _ hF hs (lv_sub hl [2] rfl)
      · have hF := (if_neg hc).symm.trans hF
        refine lv_lload_n hx hb dX5_owedBy_49 rfl (lv_at hl 2 rfl) ?_
        refine lv_aload_n hx hb dX5_owedBy_50 rfl (lv_at hl 0 rfl) ?_
        refine fg_X5_13 hx hb hown hts hE hs 0 rfl (v := .ref (a 1)) rfl dX5_owedBy_51 ?_
        refine lv_iload_n hx hb dX5_owedBy_54 rfl (lv_at hl 1 rfl) ?_
        refine lv_iload hx hb dX5_owedBy_55 (lv_at hl 3 rfl) ?_
        obtain ⟨q7, hq7, hF⟩ := bd hF
        refine sx_S (As := [.ref (a 1), .int x1, .int x4]) (rest := [.long x2]) (st1 := [.long q7, .long x2]) (c_X5_debtOf G l (a 1) (m_s S) x1 x4 q7 hq7) v_X5_266 ⟨(Nat.le_of_ble_eq_true rfl), (Nat.le_of_ble_eq_true rfl)⟩ hx hb hml hown hts hE hA hs ⟨Nat.le_refl 0, Nat.le_refl 0⟩ rfl rfl rfl hl.1 (Nat.le_of_ble_eq_true rfl) dX5_owedBy_57 (pM_s G a S (m_s S)) (ws' := WM G a S) (pM_s G a S (m_s S)) (fun H locs hs => ?_)
        refine lv_ladd hx hb dX5_owedBy_60 ?_
        obtain ⟨v8, ev8, hF⟩ := nm_some hF
        refine sx_topl ev8 ?_
        refine lv_lstore_n (lv' := [(2, .long v8), (0, .ref (a 0)), (1, .int x1), (4, .int x4)]) hx hb dX5_owedBy_61 rfl hl (by decide) rfl (fun ls hl => ?_)
        obtain ⟨v9, ev9, hF⟩ := nm_some hF
        refine lv_iinc (v := v9) (lv' := [(4, .int v9), (2, .long v8), (0, .ref (a 0)), (1, .int x1)]) hx hb dX5_owedBy_62 hl (k := 3) rfl (by rw [ev9]; rfl) (by decide) rfl (fun ls hl => ?_)
        refine lv_goto (tgt := 38) hx hb dX5_owedBy_65 (by decide) ?_
        exact hrec v8 v9 _ _ _ hF hs (lv_sub hl [2, 3, 1, 0] rfl)
  unfold F_X5_owedBy at hF
  refine lv_lconst (v := (0 : Int64)) hx hb dX5_owedBy_0 (by decide) ?_
  refine lv_lstore_n (lv' := [(2, .long (0 : Int64)), (0, .ref (a 0)), (1, .int x1)]) hx hb dX5_owedBy_1 rfl hl (by decide) rfl (fun ls hl => ?_)
  refine lv_iconst (v := (0 : Int32)) hx hb dX5_owedBy_2 (by decide) ?_
  refine lv_istore (lv' := [(4, .int (0 : Int32)), (2, .long (0 : Int64)), (0, .ref (a 0)), (1, .int x1)]) hx hb dX5_owedBy_3 hl (by decide) rfl (fun ls hl => ?_)
  refine hL5 x1 _ (fun z5 H locs ls hF hs hl => ?_) FU (0 : Int64) (0 : Int32) _ _ _ hF hs (lv_sub hl [2, 3, 1, 0] rfl)
  refine lv_iconst (v := (0 : Int32)) hx hb dX5_owedBy_35 (by decide) ?_
  refine lv_istore (lv' := [(4, .int (0 : Int32)), (0, .ref (a 0)), (1, .int x1), (2, .long z5)]) hx hb dX5_owedBy_36 hl (by decide) rfl (fun ls hl => ?_)
  refine hL38 x1 _ (fun z10 H locs ls hF hs hl => ?_) FU z5 (0 : Int32) _ _ _ hF hs (lv_sub hl [1, 2, 3, 0] rfl)
  refine lv_lload_n hx hb dX5_owedBy_68 rfl (lv_at hl 0 rfl) ?_
  exact sx_lret hx hb hr hlk hQ (Option.some.inj hF) rfl hs dX5_owedBy_69
set_option maxHeartbeats 4000000 in
set_option maxRecDepth 100000 in
theorem c_X5_sum (G : GT) (l : Launch) (a : Nat → Nat) (S : MS) (x1 : Int32) (x2 : Int32) (r : Int64 × MS) (hF : F_X5_sum S x1 x2 = some r) : MT G l yX5_sum cX5_sum 3 (some .long) 13 295 [.ref (a 0), .int x1, .int x2] (WM G a S) (some (.long r.1)) (WM G a r.2) := by
  refine MT.of (by decide) (Nat.le_of_ble_eq_true rfl) ?_
  intro p e s m args below meth c A ls hx hb hr hml hown hts hlk hE hA hs hl Q hQ
  have hl : lv_has ls 3 [(0, .ref (a 0)), (1, .int x1), (2, .int x2)] := hl
  have hJ28_n : ∀ (S : MS) (x1 : Int32) (x2 : Int32) (y0 : Int32) (H : Heap) (locs : List Loc) (ls : Array Slot), J_X5_sum_28 S x1 x2 y0 = some r → SI G A s H locs (WM G a S) → lv_has ls 3 [(0, .ref (a 0)), (1, .int x1), (2, .int x2)] → W p l e (RM 13 295) s m args below meth c H locs 0 0 Q (F0 m 28 ls [.int y0, .ref (a 0)]) := by
    intro S x1 x2 y0 H locs ls hF hs hl
    unfold J_X5_sum_28 at hF
    refine lv_iconst (v := (1 : Int32)) hx hb dX5_sum_28 (by decide) ?_
    obtain ⟨q3, hq3, hF⟩ := bd hF
    refine sx_V (As := [.int y0, .int (1 : Int32)]) (rest := []) (st1 := [.int q3.1]) (c_X5_refuse G l a S y0 (1 : Int32) q3 hq3) v_X5_215 ⟨(Nat.le_of_ble_eq_true rfl), (Nat.le_of_ble_eq_true rfl)⟩ hx hb hml hown hts hE hA hs ⟨Nat.le_refl 0, Nat.le_refl 0⟩ 0 rfl rfl rfl rfl rfl hl.1 (Nat.le_of_ble_eq_true rfl) dX5_sum_29 (pmW _) (ws' := WM G a q3.2) (pmW _) (fun H locs hs => ?_)
    refine lv_if_eq (tgt := 39) hx hb dX5_sum_32 (by decide) (fun hc => ?_) (fun hc => ?_)
    · have hF := (if_pos hc).symm.trans hF
      refine lv_iload_n hx hb dX5_sum_39 rfl (lv_at hl 2 rfl) ?_
      refine lv_if_ne (tgt := 49) hx hb dX5_sum_40 (by decide) (fun hc => ?_) (fun hc => ?_)
      · have hF := (if_neg hc).symm.trans hF
        refine lv_aload_n hx hb dX5_sum_49 rfl (lv_at hl 0 rfl) ?_
        obtain ⟨q4, hq4, hF⟩ := bd hF
        refine sx_V (As := []) (rest := []) (st1 := []) (c_X5_laysPaid G l a q3.2 q4 hq4) v_X5_343 ⟨(Nat.le_of_ble_eq_true rfl), (Nat.le_of_ble_eq_true rfl)⟩ hx hb hml hown hts hE hA hs ⟨Nat.le_refl 0, Nat.le_refl 0⟩ 0 rfl rfl rfl rfl rfl hl.1 (Nat.le_of_ble_eq_true rfl) dX5_sum_50 (pmW _) (ws' := WM G a q4) (pmW _) (fun H locs hs => ?_)
        refine lv_aload_n hx hb dX5_sum_53 rfl (lv_at hl 0 rfl) ?_
        refine lv_iload_n hx hb dX5_sum_54 rfl (lv_at hl 1 rfl) ?_
        obtain ⟨q5, hq5, hF⟩ := bd hF
        refine sx_V (As := [.int x1]) (rest := []) (st1 := [.long q5]) (c_X5_paidBy G l a q4 x1 q5 hq5) v_X5_331 ⟨(Nat.le_of_ble_eq_true rfl), (Nat.le_of_ble_eq_true rfl)⟩ hx hb hml hown hts hE hA hs ⟨Nat.le_refl 0, Nat.le_refl 0⟩ 0 rfl rfl rfl rfl rfl hl.1 (Nat.le_of_ble_eq_true rfl) dX5_sum_55 (pmW _) (ws' := WM G a q4) (pmW _) (fun H locs hs => ?_)
        exact sx_lret hx hb hr hlk hQ (congrArg Prod.fst (Option.some.inj hF)) (congrArg (fun z => WM G a z) (congrArg Prod.snd (Option.some.inj hF))) hs dX5_sum_58
      · have hF := (if_pos hc).symm.trans hF
        refine lv_aload_n hx hb dX5_sum_43 rfl (lv_at hl 0 rfl) ?_
        refine lv_iload_n hx hb dX5_sum_44 rfl (lv_at hl 1 rfl) ?_
        obtain ⟨q6, hq6, hF⟩ := bd hF
        refine sx_V (As := [.int x1]) (rest := []) (st1 := [.long q6]) (c_X5_owedBy G l a q3.2 x1 q6 hq6) v_X5_346 ⟨(Nat.le_of_ble_eq_true rfl), (Nat.le_of_ble_eq_true rfl)⟩ hx hb hml hown hts hE hA hs ⟨Nat.le_refl 0, Nat.le_refl 0⟩ 0 rfl rfl rfl rfl rfl hl.1 (Nat.le_of_ble_eq_true rfl) dX5_sum_45 (pmW _) (ws' := WM G a q3.2) (pmW _) (fun H locs hs => ?_)
        exact sx_lret hx hb hr hlk hQ (congrArg Prod.fst (Option.some.inj hF)) (congrArg (fun z => WM G a z) (congrArg Prod.snd (Option.some.inj hF))) hs dX5_sum_48
    · have hF := (if_neg hc).symm.trans hF
      refine lv_ldc2 (v := (-1 : Int64)) hx hb hown (hts _ g1263) dX5_sum_35 ?_
      exact sx_lret hx hb hr hlk hQ (congrArg Prod.fst (Option.some.inj hF)) (congrArg (fun z => WM G a z) (congrArg Prod.snd (Option.some.inj hF))) hs dX5_sum_38
  have hJ23_n : ∀ (S : MS) (x1 : Int32) (x2 : Int32) (H : Heap) (locs : List Loc) (ls : Array Slot), J_X5_sum_23 S x1 x2 = some r → SI G A s H locs (WM G a S) → lv_has ls 3 [(0, .ref (a 0)), (1, .int x1), (2, .int x2)] → W p l e (RM 13 295) s m args below meth c H locs 0 0 Q (F0 m 23 ls [.ref (a 0)]) := by
    intro S x1 x2 H locs ls hF hs hl
    unfold J_X5_sum_23 at hF
    refine lv_iconst (v := (1 : Int32)) hx hb dX5_sum_23 (by decide) ?_
    refine lv_goto (tgt := 28) hx hb dX5_sum_24 (by decide) ?_
    exact hJ28_n S x1 x2 (1 : Int32) _ _ _ hF hs (lv_sub hl [0, 1, 2] rfl)
  unfold F_X5_sum at hF
  refine lv_aload_n hx hb dX5_sum_0 rfl (lv_at hl 0 rfl) ?_
  obtain ⟨q1, hq1, hF⟩ := bd hF
  refine sx_V (As := []) (rest := []) (st1 := []) (c_X5_begins G l a S q1 hq1) v_X5_212 ⟨(Nat.le_of_ble_eq_true rfl), (Nat.le_of_ble_eq_true rfl)⟩ hx hb hml hown hts hE hA hs ⟨Nat.le_refl 0, Nat.le_refl 0⟩ 0 rfl rfl rfl rfl rfl hl.1 (Nat.le_of_ble_eq_true rfl) dX5_sum_1 (pmW _) (ws' := WM G a q1) (pmW _) (fun H locs hs => ?_)
  refine lv_aload_n hx hb dX5_sum_4 rfl (lv_at hl 0 rfl) ?_
  refine lv_aload_n hx hb dX5_sum_5 rfl (lv_at hl 0 rfl) ?_
  refine lv_iload_n hx hb dX5_sum_6 rfl (lv_at hl 1 rfl) ?_
  obtain ⟨q2, hq2, hF⟩ := bd hF
  refine sx_V (As := [.int x1]) (rest := [.ref (a 0)]) (st1 := [.int q2, .ref (a 0)]) (c_X5_isShip G l a q1 x1 q2 hq2) v_X5_234 ⟨(Nat.le_of_ble_eq_true rfl), (Nat.le_of_ble_eq_true rfl)⟩ hx hb hml hown hts hE hA hs ⟨Nat.le_refl 0, Nat.le_refl 0⟩ 0 rfl rfl rfl rfl rfl hl.1 (Nat.le_of_ble_eq_true rfl) dX5_sum_7 (pmW _) (ws' := WM G a q1) (pmW _) (fun H locs hs => ?_)
  refine lv_if_eq (tgt := 23) hx hb dX5_sum_10 (by decide) (fun hc => ?_) (fun hc => ?_)
  · have hF := (if_pos hc).symm.trans hF
    exact hJ23_n q1 x1 x2 _ _ _ hF hs (lv_sub hl [0, 1, 2] rfl)
  · have hF := (if_neg hc).symm.trans hF
    refine lv_iload_n hx hb dX5_sum_13 rfl (lv_at hl 2 rfl) ?_
    refine lv_i2l hx hb dX5_sum_14 rfl ?_
    refine lv_lconst (v := (0 : Int64)) hx hb dX5_sum_15 (by decide) ?_
    refine lv_lconst (v := (1 : Int64)) hx hb dX5_sum_16 (by decide) ?_
    obtain ⟨q7, hq7, hF⟩ := bd hF
    refine sx_S (As := [.long x2.toInt64, .long (0 : Int64), .long (1 : Int64)]) (rest := [.ref (a 0)]) (st1 := [.int q7, .ref (a 0)]) (c_X5_in G l  x2.toInt64 (0 : Int64) (1 : Int64) q7 hq7) v_X5_161 ⟨(Nat.le_of_ble_eq_true rfl), (Nat.le_of_ble_eq_true rfl)⟩ hx hb hml hown hts hE hA hs ⟨Nat.le_refl 0, Nat.le_refl 0⟩ rfl rfl rfl hl.1 (Nat.le_of_ble_eq_true rfl) dX5_sum_17 (List.Perm.refl _) (ws' := WM G a q1) (List.Perm.refl _) (fun H locs hs => ?_)
    refine lv_if_ne (tgt := 27) hx hb dX5_sum_20 (by decide) (fun hc => ?_) (fun hc => ?_)
    · have hF := (if_neg hc).symm.trans hF
      refine lv_iconst (v := (0 : Int32)) hx hb dX5_sum_27 (by decide) ?_
      exact hJ28_n q1 x1 x2 (0 : Int32) _ _ _ hF hs (lv_sub hl [0, 1, 2] rfl)
    · have hF := (if_pos hc).symm.trans hF
      exact hJ23_n q1 x1 x2 _ _ _ hF hs (lv_sub hl [0, 1, 2] rfl)
set_option maxHeartbeats 4000000 in
set_option maxRecDepth 100000 in
theorem c_X5_bites (G : GT) (l : Launch) (a : Nat → Nat) (S : MS) (x1 : Int32) (r : Int32 × MS) (hF : F_X5_bites S x1 = some r) : MT G l yX5_bites cX5_bites 2 (some .int) 13 295 [.ref (a 0), .int x1] (WM G a S) (some (.int r.1)) (WM G a r.2) := by
  refine MT.of (by decide) (Nat.le_of_ble_eq_true rfl) ?_
  intro p e s m args below meth c A ls hx hb hr hml hown hts hlk hE hA hs hl Q hQ
  have hl : lv_has ls 2 [(0, .ref (a 0)), (1, .int x1)] := hl
  have hJ18_n : ∀ (S : MS) (x1 : Int32) (y0 : Int32) (H : Heap) (locs : List Loc) (ls : Array Slot), J_X5_bites_18 S x1 y0 = some r → SI G A s H locs (WM G a S) → lv_has ls 2 [(0, .ref (a 0)), (1, .int x1)] → W p l e (RM 13 295) s m args below meth c H locs 0 0 Q (F0 m 18 ls [.int y0, .ref (a 0)]) := by
    intro S x1 y0 H locs ls hF hs hl
    unfold J_X5_bites_18 at hF
    refine lv_iconst (v := (1 : Int32)) hx hb dX5_bites_18 (by decide) ?_
    obtain ⟨q3, hq3, hF⟩ := bd hF
    refine sx_V (As := [.int y0, .int (1 : Int32)]) (rest := []) (st1 := [.int q3.1]) (c_X5_refuse G l a S y0 (1 : Int32) q3 hq3) v_X5_215 ⟨(Nat.le_of_ble_eq_true rfl), (Nat.le_of_ble_eq_true rfl)⟩ hx hb hml hown hts hE hA hs ⟨Nat.le_refl 0, Nat.le_refl 0⟩ 0 rfl rfl rfl rfl rfl hl.1 (Nat.le_of_ble_eq_true rfl) dX5_bites_19 (pmW _) (ws' := WM G a q3.2) (pmW _) (fun H locs hs => ?_)
    refine lv_if_eq (tgt := 27) hx hb dX5_bites_22 (by decide) (fun hc => ?_) (fun hc => ?_)
    · have hF := (if_pos hc).symm.trans hF
      refine lv_aload_n hx hb dX5_bites_27 rfl (lv_at hl 0 rfl) ?_
      obtain ⟨q4, hq4, hF⟩ := bd hF
      refine sx_V (As := []) (rest := []) (st1 := []) (c_X5_laysPaid G l a q3.2 q4 hq4) v_X5_343 ⟨(Nat.le_of_ble_eq_true rfl), (Nat.le_of_ble_eq_true rfl)⟩ hx hb hml hown hts hE hA hs ⟨Nat.le_refl 0, Nat.le_refl 0⟩ 0 rfl rfl rfl rfl rfl hl.1 (Nat.le_of_ble_eq_true rfl) dX5_bites_28 (pmW _) (ws' := WM G a q4) (pmW _) (fun H locs hs => ?_)
      refine lv_aload_n hx hb dX5_bites_31 rfl (lv_at hl 0 rfl) ?_
      refine lv_iload_n hx hb dX5_bites_32 rfl (lv_at hl 1 rfl) ?_
      obtain ⟨q5, hq5, hF⟩ := bd hF
      refine sx_V (As := [.int x1]) (rest := []) (st1 := [.long q5]) (c_X5_paidBy G l a q4 x1 q5 hq5) v_X5_331 ⟨(Nat.le_of_ble_eq_true rfl), (Nat.le_of_ble_eq_true rfl)⟩ hx hb hml hown hts hE hA hs ⟨Nat.le_refl 0, Nat.le_refl 0⟩ 0 rfl rfl rfl rfl rfl hl.1 (Nat.le_of_ble_eq_true rfl) dX5_bites_33 (pmW _) (ws' := WM G a q4) (pmW _) (fun H locs hs => ?_)
      refine lv_aload_n hx hb dX5_bites_36 rfl (lv_at hl 0 rfl) ?_
      refine lv_iload_n hx hb dX5_bites_37 rfl (lv_at hl 1 rfl) ?_
      obtain ⟨q6, hq6, hF⟩ := bd hF
      refine sx_V (As := [.int x1]) (rest := [.long q5]) (st1 := [.long q6, .long q5]) (c_X5_owedBy G l a q4 x1 q6 hq6) v_X5_346 ⟨(Nat.le_of_ble_eq_true rfl), (Nat.le_of_ble_eq_true rfl)⟩ hx hb hml hown hts hE hA hs ⟨Nat.le_refl 0, Nat.le_refl 0⟩ 0 rfl rfl rfl rfl rfl hl.1 (Nat.le_of_ble_eq_true rfl) dX5_bites_38 (pmW _) (ws' := WM G a q4) (pmW _) (fun H locs hs => ?_)
      refine W.lcmp hx hb dX5_bites_41 ?_
      refine lv_if_ge (tgt := 49) hx hb dX5_bites_42 (by decide) (fun hc => ?_) (fun hc => ?_)
      · have hF := (if_pos hc).symm.trans hF
        refine lv_iconst (v := (0 : Int32)) hx hb dX5_bites_49 (by decide) ?_
        exact sx_iret hx hb hr hlk hQ (congrArg Prod.fst (Option.some.inj hF)) (congrArg (fun z => WM G a z) (congrArg Prod.snd (Option.some.inj hF))) hs dX5_bites_50
      · have hF := (if_neg hc).symm.trans hF
        refine lv_iconst (v := (1 : Int32)) hx hb dX5_bites_45 (by decide) ?_
        refine lv_goto (tgt := 50) hx hb dX5_bites_46 (by decide) ?_
        exact sx_iret hx hb hr hlk hQ (congrArg Prod.fst (Option.some.inj hF)) (congrArg (fun z => WM G a z) (congrArg Prod.snd (Option.some.inj hF))) hs dX5_bites_50
    · have hF := (if_neg hc).symm.trans hF
      refine lv_iconst (v := (-1 : Int32)) hx hb dX5_bites_25 (by decide) ?_
      exact sx_iret hx hb hr hlk hQ (congrArg Prod.fst (Option.some.inj hF)) (congrArg (fun z => WM G a z) (congrArg Prod.snd (Option.some.inj hF))) hs dX5_bites_26
  unfold F_X5_bites at hF
  refine lv_aload_n hx hb dX5_bites_0 rfl (lv_at hl 0 rfl) ?_
  obtain ⟨q1, hq1, hF⟩ := bd hF
  refine sx_V (As := []) (rest := []) (st1 := []) (c_X5_begins G l a S q1 hq1) v_X5_212 ⟨(Nat.le_of_ble_eq_true rfl), (Nat.le_of_ble_eq_true rfl)⟩ hx hb hml hown hts hE hA hs ⟨Nat.le_refl 0, Nat.le_refl 0⟩ 0 rfl rfl rfl rfl rfl hl.1 (Nat.le_of_ble_eq_true rfl) dX5_bites_1 (pmW _) (ws' := WM G a q1) (pmW _) (fun H locs hs => ?_)
  refine lv_aload_n hx hb dX5_bites_4 rfl (lv_at hl 0 rfl) ?_
  refine lv_aload_n hx hb dX5_bites_5 rfl (lv_at hl 0 rfl) ?_
  refine lv_iload_n hx hb dX5_bites_6 rfl (lv_at hl 1 rfl) ?_
  obtain ⟨q2, hq2, hF⟩ := bd hF
  refine sx_V (As := [.int x1]) (rest := [.ref (a 0)]) (st1 := [.int q2, .ref (a 0)]) (c_X5_isShip G l a q1 x1 q2 hq2) v_X5_234 ⟨(Nat.le_of_ble_eq_true rfl), (Nat.le_of_ble_eq_true rfl)⟩ hx hb hml hown hts hE hA hs ⟨Nat.le_refl 0, Nat.le_refl 0⟩ 0 rfl rfl rfl rfl rfl hl.1 (Nat.le_of_ble_eq_true rfl) dX5_bites_7 (pmW _) (ws' := WM G a q1) (pmW _) (fun H locs hs => ?_)
  refine lv_if_ne (tgt := 17) hx hb dX5_bites_10 (by decide) (fun hc => ?_) (fun hc => ?_)
  · have hF := (if_neg hc).symm.trans hF
    refine lv_iconst (v := (0 : Int32)) hx hb dX5_bites_17 (by decide) ?_
    exact hJ18_n q1 x1 (0 : Int32) _ _ _ hF hs (lv_sub hl [0, 1] rfl)
  · have hF := (if_pos hc).symm.trans hF
    refine lv_iconst (v := (1 : Int32)) hx hb dX5_bites_13 (by decide) ?_
    refine lv_goto (tgt := 18) hx hb dX5_bites_14 (by decide) ?_
    exact hJ18_n q1 x1 (1 : Int32) _ _ _ hF hs (lv_sub hl [0, 1] rfl)
set_option maxHeartbeats 4000000 in
set_option maxRecDepth 100000 in
theorem c_X5_gets (G : GT) (l : Launch) (a : Nat → Nat) (S : MS) (x1 : Int32) (x2 : Int32) (r : Int64 × MS) (hF : F_X5_gets S x1 x2 = some r) : MT G l yX5_gets cX5_gets 3 (some .long) 13 295 [.ref (a 0), .int x1, .int x2] (WM G a S) (some (.long r.1)) (WM G a r.2) := by
  refine MT.of (by decide) (Nat.le_of_ble_eq_true rfl) ?_
  intro p e s m args below meth c A ls hx hb hr hml hown hts hlk hE hA hs hl Q hQ
  have hl : lv_has ls 3 [(0, .ref (a 0)), (1, .int x1), (2, .int x2)] := hl
  have hJ30_n : ∀ (S : MS) (x1 : Int32) (x2 : Int32) (y0 : Int32) (H : Heap) (locs : List Loc) (ls : Array Slot), J_X5_gets_30 S x1 x2 y0 = some r → SI G A s H locs (WM G a S) → lv_has ls 3 [(0, .ref (a 0)), (1, .int x1), (2, .int x2)] → W p l e (RM 13 295) s m args below meth c H locs 0 0 Q (F0 m 30 ls [.int y0, .ref (a 0)]) := by
    intro S x1 x2 y0 H locs ls hF hs hl
    unfold J_X5_gets_30 at hF
    refine lv_iconst (v := (1 : Int32)) hx hb dX5_gets_30 (by decide) ?_
    obtain ⟨q3, hq3, hF⟩ := bd hF
    refine sx_V (As := [.int y0, .int (1 : Int32)]) (rest := []) (st1 := [.int q3.1]) (c_X5_refuse G l a S y0 (1 : Int32) q3 hq3) v_X5_215 ⟨(Nat.le_of_ble_eq_true rfl), (Nat.le_of_ble_eq_true rfl)⟩ hx hb hml hown hts hE hA hs ⟨Nat.le_refl 0, Nat.le_refl 0⟩ 0 rfl rfl rfl rfl rfl hl.1 (Nat.le_of_ble_eq_true rfl) dX5_gets_31 (pmW _) (ws' := WM G a q3.2) (pmW _) (fun H locs hs => ?_)
    refine lv_if_eq (tgt := 41) hx hb dX5_gets_34 (by decide) (fun hc => ?_) (fun hc => ?_)
    · have hF := (if_pos hc).symm.trans hF
      refine lv_aload_n hx hb dX5_gets_41 rfl (lv_at hl 0 rfl) ?_
      obtain ⟨q4, hq4, hF⟩ := bd hF
      refine sx_V (As := []) (rest := []) (st1 := []) (c_X5_laysPaid G l a q3.2 q4 hq4) v_X5_343 ⟨(Nat.le_of_ble_eq_true rfl), (Nat.le_of_ble_eq_true rfl)⟩ hx hb hml hown hts hE hA hs ⟨Nat.le_refl 0, Nat.le_refl 0⟩ 0 rfl rfl rfl rfl rfl hl.1 (Nat.le_of_ble_eq_true rfl) dX5_gets_42 (pmW _) (ws' := WM G a q4) (pmW _) (fun H locs hs => ?_)
      refine lv_iload_n hx hb dX5_gets_45 rfl (lv_at hl 2 rfl) ?_
      refine lv_if_ne (tgt := 61) hx hb dX5_gets_46 (by decide) (fun hc => ?_) (fun hc => ?_)
      · have hF := (if_neg hc).symm.trans hF
        refine lv_iload_n hx hb dX5_gets_61 rfl (lv_at hl 2 rfl) ?_
        refine lv_iconst (v := (1 : Int32)) hx hb dX5_gets_62 (by decide) ?_
        refine lv_icmp_ne (tgt := 74) hx hb dX5_gets_63 (by decide) (fun hc => ?_) (fun hc => ?_)
        · have hF := (if_neg hc).symm.trans hF
          refine lv_aload_n hx hb dX5_gets_74 rfl (lv_at hl 0 rfl) ?_
          refine lv_iload_n hx hb dX5_gets_75 rfl (lv_at hl 1 rfl) ?_
          obtain ⟨q5, hq5, hF⟩ := bd hF
          refine sx_V (As := [.int x1]) (rest := []) (st1 := [.long q5]) (c_X5_paidTo G l a q4 x1 q5 hq5) v_X5_328 ⟨(Nat.le_of_ble_eq_true rfl), (Nat.le_of_ble_eq_true rfl)⟩ hx hb hml hown hts hE hA hs ⟨Nat.le_refl 0, Nat.le_refl 0⟩ 0 rfl rfl rfl rfl rfl hl.1 (Nat.le_of_ble_eq_true rfl) dX5_gets_76 (pmW _) (ws' := WM G a q4) (pmW _) (fun H locs hs => ?_)
          exact sx_lret hx hb hr hlk hQ (congrArg Prod.fst (Option.some.inj hF)) (congrArg (fun z => WM G a z) (congrArg Prod.snd (Option.some.inj hF))) hs dX5_gets_79
        · have hF := (if_pos hc).symm.trans hF
          refine lv_aload_n hx hb dX5_gets_66 rfl (lv_at hl 0 rfl) ?_
          refine lv_iload_n hx hb dX5_gets_67 rfl (lv_at hl 1 rfl) ?_
          obtain ⟨q6, hq6, hF⟩ := bd hF
          refine sx_V (As := [.int x1]) (rest := []) (st1 := [.long q6]) (c_X5_givenOf G l a q4 x1 q6 hq6) v_X5_334 ⟨(Nat.le_of_ble_eq_true rfl), (Nat.le_of_ble_eq_true rfl)⟩ hx hb hml hown hts hE hA hs ⟨Nat.le_refl 0, Nat.le_refl 0⟩ 0 rfl rfl rfl rfl rfl hl.1 (Nat.le_of_ble_eq_true rfl) dX5_gets_68 (pmW _) (ws' := WM G a q4) (pmW _) (fun H locs hs => ?_)
          refine lv_goto (tgt := 79) hx hb dX5_gets_71 (by decide) ?_
          exact sx_lret hx hb hr hlk hQ (congrArg Prod.fst (Option.some.inj hF)) (congrArg (fun z => WM G a z) (congrArg Prod.snd (Option.some.inj hF))) hs dX5_gets_79
      · have hF := (if_pos hc).symm.trans hF
        refine lv_aload_n hx hb dX5_gets_49 rfl (lv_at hl 0 rfl) ?_
        refine lv_iload_n hx hb dX5_gets_50 rfl (lv_at hl 1 rfl) ?_
        obtain ⟨q7, hq7, hF⟩ := bd hF
        refine sx_V (As := [.int x1]) (rest := []) (st1 := [.long q7]) (c_X5_paidTo G l a q4 x1 q7 hq7) v_X5_328 ⟨(Nat.le_of_ble_eq_true rfl), (Nat.le_of_ble_eq_true rfl)⟩ hx hb hml hown hts hE hA hs ⟨Nat.le_refl 0, Nat.le_refl 0⟩ 0 rfl rfl rfl rfl rfl hl.1 (Nat.le_of_ble_eq_true rfl) dX5_gets_51 (pmW _) (ws' := WM G a q4) (pmW _) (fun H locs hs => ?_)
        refine lv_aload_n hx hb dX5_gets_54 rfl (lv_at hl 0 rfl) ?_
        refine lv_iload_n hx hb dX5_gets_55 rfl (lv_at hl 1 rfl) ?_
        obtain ⟨q8, hq8, hF⟩ := bd hF
        refine sx_V (As := [.int x1]) (rest := [.long q7]) (st1 := [.long q8, .long q7]) (c_X5_givenOf G l a q4 x1 q8 hq8) v_X5_334 ⟨(Nat.le_of_ble_eq_true rfl), (Nat.le_of_ble_eq_true rfl)⟩ hx hb hml hown hts hE hA hs ⟨Nat.le_refl 0, Nat.le_refl 0⟩ 0 rfl rfl rfl rfl rfl hl.1 (Nat.le_of_ble_eq_true rfl) dX5_gets_56 (pmW _) (ws' := WM G a q4) (pmW _) (fun H locs hs => ?_)
        refine lv_lsub hx hb dX5_gets_59 ?_
        exact sx_lret hx hb hr hlk hQ (congrArg Prod.fst (Option.some.inj hF)) (congrArg (fun z => WM G a z) (congrArg Prod.snd (Option.some.inj hF))) hs dX5_gets_60
    · have hF := (if_neg hc).symm.trans hF
      refine lv_ldc2 (v := (-1 : Int64)) hx hb hown (hts _ g1263) dX5_gets_37 ?_
      exact sx_lret hx hb hr hlk hQ (congrArg Prod.fst (Option.some.inj hF)) (congrArg (fun z => WM G a z) (congrArg Prod.snd (Option.some.inj hF))) hs dX5_gets_40
  have hJ25_n : ∀ (S : MS) (x1 : Int32) (x2 : Int32) (H : Heap) (locs : List Loc) (ls : Array Slot), J_X5_gets_25 S x1 x2 = some r → SI G A s H locs (WM G a S) → lv_has ls 3 [(0, .ref (a 0)), (1, .int x1), (2, .int x2)] → W p l e (RM 13 295) s m args below meth c H locs 0 0 Q (F0 m 25 ls [.ref (a 0)]) := by
    intro S x1 x2 H locs ls hF hs hl
    unfold J_X5_gets_25 at hF
    refine lv_iconst (v := (1 : Int32)) hx hb dX5_gets_25 (by decide) ?_
    refine lv_goto (tgt := 30) hx hb dX5_gets_26 (by decide) ?_
    exact hJ30_n S x1 x2 (1 : Int32) _ _ _ hF hs (lv_sub hl [0, 1, 2] rfl)
  unfold F_X5_gets at hF
  refine lv_aload_n hx hb dX5_gets_0 rfl (lv_at hl 0 rfl) ?_
  obtain ⟨q1, hq1, hF⟩ := bd hF
  refine sx_V (As := []) (rest := []) (st1 := []) (c_X5_begins G l a S q1 hq1) v_X5_212 ⟨(Nat.le_of_ble_eq_true rfl), (Nat.le_of_ble_eq_true rfl)⟩ hx hb hml hown hts hE hA hs ⟨Nat.le_refl 0, Nat.le_refl 0⟩ 0 rfl rfl rfl rfl rfl hl.1 (Nat.le_of_ble_eq_true rfl) dX5_gets_1 (pmW _) (ws' := WM G a q1) (pmW _) (fun H locs hs => ?_)
  refine lv_aload_n hx hb dX5_gets_4 rfl (lv_at hl 0 rfl) ?_
  refine lv_aload_n hx hb dX5_gets_5 rfl (lv_at hl 0 rfl) ?_
  refine lv_iload_n hx hb dX5_gets_6 rfl (lv_at hl 1 rfl) ?_
  obtain ⟨q2, hq2, hF⟩ := bd hF
  refine sx_V (As := [.int x1]) (rest := [.ref (a 0)]) (st1 := [.int q2, .ref (a 0)]) (c_X5_isClaim G l a q1 x1 q2 hq2) v_X5_247 ⟨(Nat.le_of_ble_eq_true rfl), (Nat.le_of_ble_eq_true rfl)⟩ hx hb hml hown hts hE hA hs ⟨Nat.le_refl 0, Nat.le_refl 0⟩ 0 rfl rfl rfl rfl rfl hl.1 (Nat.le_of_ble_eq_true rfl) dX5_gets_7 (pmW _) (ws' := WM G a q1) (pmW _) (fun H locs hs => ?_)
  refine lv_if_eq (tgt := 25) hx hb dX5_gets_10 (by decide) (fun hc => ?_) (fun hc => ?_)
  · have hF := (if_pos hc).symm.trans hF
    exact hJ25_n q1 x1 x2 _ _ _ hF hs (lv_sub hl [0, 1, 2] rfl)
  · have hF := (if_neg hc).symm.trans hF
    refine lv_iload_n hx hb dX5_gets_13 rfl (lv_at hl 2 rfl) ?_
    refine lv_i2l hx hb dX5_gets_14 rfl ?_
    refine lv_lconst (v := (0 : Int64)) hx hb dX5_gets_15 (by decide) ?_
    refine lv_ldc2 (v := (2 : Int64)) hx hb hown (hts _ g1364) dX5_gets_16 ?_
    obtain ⟨q9, hq9, hF⟩ := bd hF
    refine sx_S (As := [.long x2.toInt64, .long (0 : Int64), .long (2 : Int64)]) (rest := [.ref (a 0)]) (st1 := [.int q9, .ref (a 0)]) (c_X5_in G l  x2.toInt64 (0 : Int64) (2 : Int64) q9 hq9) v_X5_161 ⟨(Nat.le_of_ble_eq_true rfl), (Nat.le_of_ble_eq_true rfl)⟩ hx hb hml hown hts hE hA hs ⟨Nat.le_refl 0, Nat.le_refl 0⟩ rfl rfl rfl hl.1 (Nat.le_of_ble_eq_true rfl) dX5_gets_19 (List.Perm.refl _) (ws' := WM G a q1) (List.Perm.refl _) (fun H locs hs => ?_)
    refine lv_if_ne (tgt := 29) hx hb dX5_gets_22 (by decide) (fun hc => ?_) (fun hc => ?_)
    · have hF := (if_neg hc).symm.trans hF
      refine lv_iconst (v := (0 : Int32)) hx hb dX5_gets_29 (by decide) ?_
      exact hJ30_n q1 x1 x2 (0 : Int32) _ _ _ hF hs (lv_sub hl [0, 1, 2] rfl)
    · have hF := (if_pos hc).symm.trans hF
      exact hJ25_n q1 x1 x2 _ _ _ hF hs (lv_sub hl [0, 1, 2] rfl)
set_option maxHeartbeats 4000000 in
set_option maxRecDepth 100000 in
theorem c_X5_cover (G : GT) (l : Launch) (a : Nat → Nat) (S : MS) (x1 : Int32) (x2 : Int32) (r : Int64 × MS) (hF : F_X5_cover S x1 x2 = some r) : MT G l yX5_cover cX5_cover 7 (some .long) 13 295 [.ref (a 0), .int x1, .int x2] (WM G a S) (some (.long r.1)) (WM G a r.2) := by
  refine MT.of (by decide) (Nat.le_of_ble_eq_true rfl) ?_
  intro p e s m args below meth c A ls hx hb hr hml hown hts hlk hE hA hs hl Q hQ
  have hl : lv_has ls 7 [(0, .ref (a 0)), (1, .int x1), (2, .int x2)] := hl
  have hJ96_52 : ∀ (x1 : Int32) (x2 : Int32) (k : MS → Int64 → Option (Int64 × MS)) (rc : MS → Int64 → Int32 → Option (Int64 × MS)) (hk : ∀ (S : MS) (x3 : Int64) (H : Heap) (locs : List Loc) (ls : Array Slot), k S x3 = some r → SI G A s H locs (WM G a S) → lv_has ls 7 [(0, .ref (a 0)), (1, .int x1), (2, .int x2), (3, .long x3)] → W p l e (RM 13 295) s m args below meth c H locs 0 0 Q (F0 m 104 ls [])) (hrec : ∀ (S : MS) (x3 : Int64) (x5 : Int32) (H : Heap) (locs : List Loc) (ls : Array Slot), rc S x3 x5 = some r → SI G A s H locs (WM G a S) → lv_has ls 7 [(0, .ref (a 0)), (1, .int x1), (2, .int x2), (3, .long x3), (5, .int x5)] → W p l e (RM 13 295) s m args below meth c H locs 0 0 Q (F0 m 52 ls [])) (S : MS) (x5 : Int32) (y0 : Int64) (y1 : Int64) (H : Heap) (locs : List Loc) (ls : Array Slot), J_X5_cover_96 k rc S x1 x2 x5 y0 y1 = some r → SI G A s H locs (WM G a S) → lv_has ls 7 [(0, .ref (a 0)), (1, .int x1), (2, .int x2), (5, .int x5)] → W p l e (RM 13 295) s m args below meth c H locs 0 0 Q (F0 m 96 ls [.long y0, .long y1]) := by
    intro x1 x2 k rc hk hrec S x5 y0 y1 H locs ls hF hs hl
    unfold J_X5_cover_96 at hF
    refine lv_lsub hx hb dX5_cover_96 ?_
    obtain ⟨v8, ev8, hF⟩ := nm_some hF
    refine sx_topl ev8 ?_
    refine lv_lstore_n (lv' := [(3, .long v8), (0, .ref (a 0)), (1, .int x1), (2, .int x2), (5, .int x5)]) hx hb dX5_cover_97 rfl hl (by decide) rfl (fun ls hl => ?_)
    obtain ⟨v9, ev9, hF⟩ := nm_some hF
    refine lv_iinc (v := v9) (lv' := [(5, .int v9), (3, .long v8), (0, .ref (a 0)), (1, .int x1), (2, .int x2)]) hx hb dX5_cover_98 hl (k := 4) rfl (by rw [ev9]; rfl) (by decide) rfl (fun ls hl => ?_)
    refine lv_goto (tgt := 52) hx hb dX5_cover_101 (by decide) ?_
    exact hrec S v8 v9 _ _ _ hF hs (lv_sub hl [2, 3, 4, 1, 0] rfl)
  have hL52 : ∀ (x1 : Int32) (x2 : Int32) (k : MS → Int64 → Option (Int64 × MS)) (hk : ∀ (S : MS) (x3 : Int64) (H : Heap) (locs : List Loc) (ls : Array Slot), k S x3 = some r → SI G A s H locs (WM G a S) → lv_has ls 7 [(0, .ref (a 0)), (1, .int x1), (2, .int x2), (3, .long x3)] → W p l e (RM 13 295) s m args below meth c H locs 0 0 Q (F0 m 104 ls [])) (fu : Nat) (S : MS) (x3 : Int64) (x5 : Int32) (H : Heap) (locs : List Loc) (ls : Array Slot), lo3 (B_X5_cover_52 x1 x2 k) fu S x3 x5 = some r → SI G A s H locs (WM G a S) → lv_has ls 7 [(0, .ref (a 0)), (1, .int x1), (2, .int x2), (3, .long x3), (5, .int x5)] → W p l e (RM 13 295) s m args below meth c H locs 0 0 Q (F0 m 52 ls []) := by
    intro x1 x2 k hk fu
    induction fu with
    | zero =>
      intro S x3 x5 H locs ls hF hs hl
      exact nomatch (show (none : Option (Int64 × MS)) = some r from hF)
    | succ fu hrec =>
      intro S x3 x5 H locs ls hF hs hl
      have hF : (B_X5_cover_52 x1 x2 k) (lo3 (B_X5_cover_52 x1 x2 k) fu) S x3 x5 = some r := hF
      unfold B_X5_cover_52 at hF
      refine lv_iload hx hb dX5_cover_52 (lv_at hl 4 rfl) ?_
      refine lv_aload_n hx hb dX5_cover_54 rfl (lv_at hl 0 rfl) ?_
      refine fg_X5_13 hx hb hown hts hE hs 0 rfl (v := .ref (a 1)) rfl dX5_cover_55 ?_
      refine lv_iconst (v := (1 : Int32)) hx hb dX5_cover_58 (by decide) ?_
      obtain ⟨v6, hv6, hF⟩ := bd hF
      refine sx_iald hx hb hE hs 1 (f := m_s S) rfl hv6 dX5_cover_59 ?_
      refine lv_icmp_ge (tgt := 104) hx hb dX5_cover_60 (by decide) (fun hc => ?_) (fun hc => ?_)
      · have hF := (if_pos hc).symm.trans hF
        exact hk S x3 _ _ _ hF hs (lv_sub hl [0, 1, 2, 3] rfl)
      · have hF := (if_neg hc).symm.trans hF
        refine lv_lload_n hx hb dX5_cover_63 rfl (lv_at hl 3 rfl) ?_
        refine lv_aload_n hx hb dX5_cover_64 rfl (lv_at hl 0 rfl) ?_
        refine fg_X5_13 hx hb hown hts hE hs 0 rfl (v := .ref (a 1)) rfl dX5_cover_65 ?_
        refine lv_iload hx hb dX5_cover_68 (lv_at hl 4 rfl) ?_
        refine lv_iconst (v := (0 : Int32)) hx hb dX5_cover_70 (by decide) ?_
        obtain ⟨q7, hq7, hF⟩ := bd hF
        refine sx_S (As := [.ref (a 1), .int x5, .int (0 : Int32)]) (rest := [.long x3]) (st1 := [.int q7, .long x3]) (c_X5_ofClaim G l (a 1) (m_s S) x5 (0 : Int32) q7 hq7) v_X5_255 ⟨(Nat.le_of_ble_eq_true rfl), (Nat.le_of_ble_eq_true rfl)⟩ hx hb hml hown hts hE hA hs ⟨Nat.le_refl 0, Nat.le_refl 0⟩ rfl rfl rfl hl.1 (Nat.le_of_ble_eq_true rfl) dX5_cover_71 (pM_s G a S (m_s S)) (ws' := WM G a S) (pM_s G a S (m_s S)) (fun H locs hs => ?_)
        refine lv_iconst (v := (1 : Int32)) hx hb dX5_cover_74 (by decide) ?_
        refine lv_icmp_ne (tgt := 95) hx hb dX5_cover_75 (by decide) (fun hc => ?_) (fun hc => ?_)
        · have hF := (if_neg hc).symm.trans hF
          refine lv_lconst (v := (0 : Int64)) hx hb dX5_cover_95 (by decide) ?_
          exact hJ96_52 x1 x2 _ _ hk hrec S x5 (0 : Int64) x3 _ _ _ hF hs (lv_sub hl [0, 1, 2, 4] rfl)
        · have hF := (if_pos hc).symm.trans hF
          refine lv_aload_n hx hb dX5_cover_78 rfl (lv_at hl 0 rfl) ?_
          refine fg_X5_49 hx hb hown hts hE hs 0 rfl (v := .ref (a 12)) rfl dX5_cover_79 ?_
          refine lv_bipush (v := (16 : Int32)) hx hb dX5_cover_82 (by decide) ?_
          refine lv_iload_n hx hb dX5_cover_84 rfl (lv_at hl 1 rfl) ?_
          refine lv_imul hx hb dX5_cover_85 ?_
          refine lv_iconst (v := (4 : Int32)) hx hb dX5_cover_86 (by decide) ?_
          refine lv_iadd hx hb dX5_cover_87 ?_
          refine lv_iload hx hb dX5_cover_88 (lv_at hl 4 rfl) ?_
          refine lv_iadd hx hb dX5_cover_90 ?_
          obtain ⟨v10, hv10, hF⟩ := bd hF
          refine sx_lald hx hb hE hs 12 (f := m_paid S) rfl hv10 dX5_cover_91 ?_
          refine lv_goto (tgt := 96) hx hb dX5_cover_92 (by decide) ?_
          exact hJ96_52 x1 x2 _ _ hk hrec S x5 v10 x3 _ _ _ hF hs (lv_sub hl [0, 1, 2, 4] rfl)
  have hJ28_n : ∀ (S : MS) (x1 : Int32) (x2 : Int32) (y0 : Int32) (H : Heap) (locs : List Loc) (ls : Array Slot), J_X5_cover_28 S x1 x2 y0 = some r → SI G A s H locs (WM G a S) → lv_has ls 7 [(0, .ref (a 0)), (1, .int x1), (2, .int x2)] → W p l e (RM 13 295) s m args below meth c H locs 0 0 Q (F0 m 28 ls [.int y0, .ref (a 0)]) := by
    intro S x1 x2 y0 H locs ls hF hs hl
    unfold J_X5_cover_28 at hF
    refine lv_iconst (v := (1 : Int32)) hx hb dX5_cover_28 (by decide) ?_
    obtain ⟨q3, hq3, hF⟩ := bd hF
    refine sx_V (As := [.int y0, .int (1 : Int32)]) (rest := []) (st1 := [.int q3.1]) (c_X5_refuse G l a S y0 (1 : Int32) q3 hq3) v_X5_215 ⟨(Nat.le_of_ble_eq_true rfl), (Nat.le_of_ble_eq_true rfl)⟩ hx hb hml hown hts hE hA hs ⟨Nat.le_refl 0, Nat.le_refl 0⟩ 0 rfl rfl rfl rfl rfl hl.1 (Nat.le_of_ble_eq_true rfl) dX5_cover_29 (pmW _) (ws' := WM G a q3.2) (pmW _) (fun H locs hs => ?_)
    refine lv_if_eq (tgt := 39) hx hb dX5_cover_32 (by decide) (fun hc => ?_) (fun hc => ?_)
    · have hF := (if_pos hc).symm.trans hF
      refine lv_aload_n hx hb dX5_cover_39 rfl (lv_at hl 0 rfl) ?_
      obtain ⟨q4, hq4, hF⟩ := bd hF
      refine sx_V (As := []) (rest := []) (st1 := []) (c_X5_laysPaid G l a q3.2 q4 hq4) v_X5_343 ⟨(Nat.le_of_ble_eq_true rfl), (Nat.le_of_ble_eq_true rfl)⟩ hx hb hml hown hts hE hA hs ⟨Nat.le_refl 0, Nat.le_refl 0⟩ 0 rfl rfl rfl rfl rfl hl.1 (Nat.le_of_ble_eq_true rfl) dX5_cover_40 (pmW _) (ws' := WM G a q4) (pmW _) (fun H locs hs => ?_)
      refine lv_aload_n hx hb dX5_cover_43 rfl (lv_at hl 0 rfl) ?_
      refine lv_iload_n hx hb dX5_cover_44 rfl (lv_at hl 1 rfl) ?_
      obtain ⟨q5, hq5, hF⟩ := bd hF
      refine sx_V (As := [.int x1]) (rest := []) (st1 := [.long q5]) (c_X5_paidBy G l a q4 x1 q5 hq5) v_X5_331 ⟨(Nat.le_of_ble_eq_true rfl), (Nat.le_of_ble_eq_true rfl)⟩ hx hb hml hown hts hE hA hs ⟨Nat.le_refl 0, Nat.le_refl 0⟩ 0 rfl rfl rfl rfl rfl hl.1 (Nat.le_of_ble_eq_true rfl) dX5_cover_45 (pmW _) (ws' := WM G a q4) (pmW _) (fun H locs hs => ?_)
      refine lv_lstore_n (lv' := [(3, .long q5), (0, .ref (a 0)), (1, .int x1), (2, .int x2)]) hx hb dX5_cover_48 rfl hl (by decide) rfl (fun ls hl => ?_)
      refine lv_iconst (v := (0 : Int32)) hx hb dX5_cover_49 (by decide) ?_
      refine lv_istore (lv' := [(5, .int (0 : Int32)), (3, .long q5), (0, .ref (a 0)), (1, .int x1), (2, .int x2)]) hx hb dX5_cover_50 hl (by decide) rfl (fun ls hl => ?_)
      refine hL52 x1 x2 _ (fun S11 z12 H locs ls hF hs hl => ?_) FU q4 q5 (0 : Int32) _ _ _ hF hs (lv_sub hl [2, 3, 4, 1, 0] rfl)
      refine lv_lload_n hx hb dX5_cover_104 rfl (lv_at hl 3 rfl) ?_
      refine lv_ldc2 (v := (3 : Int64)) hx hb hown (hts _ g1262) dX5_cover_105 ?_
      refine lv_lmul hx hb dX5_cover_108 ?_
      refine lv_ldc2 (v := (4 : Int64)) hx hb hown (hts _ g1229) dX5_cover_109 ?_
      obtain ⟨v13, hv13, hF⟩ := bd hF
      refine sx_ldiv hx hb hv13 dX5_cover_112 ?_
      refine lv_aload_n hx hb dX5_cover_113 rfl (lv_at hl 0 rfl) ?_
      refine fg_X5_13 hx hb hown hts hE hs 0 rfl (v := .ref (a 1)) rfl dX5_cover_114 ?_
      refine lv_iload_n hx hb dX5_cover_117 rfl (lv_at hl 1 rfl) ?_
      refine lv_iconst (v := (3 : Int32)) hx hb dX5_cover_118 (by decide) ?_
      obtain ⟨q14, hq14, hF⟩ := bd hF
      refine sx_S (As := [.ref (a 1), .int x1, .int (3 : Int32)]) (rest := [.long v13]) (st1 := [.int q14, .long v13]) (c_X5_ofShip G l (a 1) (m_s S11) x1 (3 : Int32) q14 hq14) v_X5_243 ⟨(Nat.le_of_ble_eq_true rfl), (Nat.le_of_ble_eq_true rfl)⟩ hx hb hml hown hts hE hA hs ⟨Nat.le_refl 0, Nat.le_refl 0⟩ rfl rfl rfl hl.1 (Nat.le_of_ble_eq_true rfl) dX5_cover_119 (pM_s G a S11 (m_s S11)) (ws' := WM G a S11) (pM_s G a S11 (m_s S11)) (fun H locs hs => ?_)
      refine lv_i2l hx hb dX5_cover_122 rfl ?_
      refine lv_ldc2 (v := (3 : Int64)) hx hb hown (hts _ g1262) dX5_cover_123 ?_
      refine lv_lmul hx hb dX5_cover_126 ?_
      refine lv_ldc2 (v := (4 : Int64)) hx hb hown (hts _ g1229) dX5_cover_127 ?_
      obtain ⟨v15, hv15, hF⟩ := bd hF
      refine sx_ldiv hx hb hv15 dX5_cover_130 ?_
      obtain ⟨q16, hq16, hF⟩ := bd hF
      refine sx_S (As := [.long v13, .long v15]) (rest := []) (st1 := [.long q16]) (c_X5_lesser G l  v13 v15 q16 hq16) v_X5_282 ⟨(Nat.le_of_ble_eq_true rfl), (Nat.le_of_ble_eq_true rfl)⟩ hx hb hml hown hts hE hA hs ⟨Nat.le_refl 0, Nat.le_refl 0⟩ rfl rfl rfl hl.1 (Nat.le_of_ble_eq_true rfl) dX5_cover_131 (List.Perm.refl _) (ws' := WM G a S11) (List.Perm.refl _) (fun H locs hs => ?_)
      refine lv_lstore (lv' := [(5, .long q16), (0, .ref (a 0)), (1, .int x1), (2, .int x2), (3, .long z12)]) hx hb dX5_cover_134 hl (by decide) rfl (fun ls hl => ?_)
      refine lv_iload_n hx hb dX5_cover_136 rfl (lv_at hl 3 rfl) ?_
      refine lv_if_ne (tgt := 145) hx hb dX5_cover_137 (by decide) (fun hc => ?_) (fun hc => ?_)
      · have hF := (if_neg hc).symm.trans hF
        refine lv_aload_n hx hb dX5_cover_145 rfl (lv_at hl 1 rfl) ?_
        refine lv_iload_n hx hb dX5_cover_146 rfl (lv_at hl 2 rfl) ?_
        obtain ⟨q17, hq17, hF⟩ := bd hF
        refine sx_V (As := [.int x1]) (rest := []) (st1 := [.long q17]) (c_X5_paidBy G l a S11 x1 q17 hq17) v_X5_331 ⟨(Nat.le_of_ble_eq_true rfl), (Nat.le_of_ble_eq_true rfl)⟩ hx hb hml hown hts hE hA hs ⟨Nat.le_refl 0, Nat.le_refl 0⟩ 0 rfl rfl rfl rfl rfl hl.1 (Nat.le_of_ble_eq_true rfl) dX5_cover_147 (pmW _) (ws' := WM G a S11) (pmW _) (fun H locs hs => ?_)
        refine lv_lload hx hb dX5_cover_150 (lv_at hl 0 rfl) ?_
        refine lv_lsub hx hb dX5_cover_152 ?_
        exact sx_lret hx hb hr hlk hQ (congrArg Prod.fst (Option.some.inj hF)) (congrArg (fun z => WM G a z) (congrArg Prod.snd (Option.some.inj hF))) hs dX5_cover_153
      · have hF := (if_pos hc).symm.trans hF
        refine lv_lload hx hb dX5_cover_140 (lv_at hl 0 rfl) ?_
        refine lv_goto (tgt := 153) hx hb dX5_cover_142 (by decide) ?_
        exact sx_lret hx hb hr hlk hQ (congrArg Prod.fst (Option.some.inj hF)) (congrArg (fun z => WM G a z) (congrArg Prod.snd (Option.some.inj hF))) hs dX5_cover_153
    · have hF := (if_neg hc).symm.trans hF
      refine lv_ldc2 (v := (-1 : Int64)) hx hb hown (hts _ g1263) dX5_cover_35 ?_
      exact sx_lret hx hb hr hlk hQ (congrArg Prod.fst (Option.some.inj hF)) (congrArg (fun z => WM G a z) (congrArg Prod.snd (Option.some.inj hF))) hs dX5_cover_38
  have hJ23_n : ∀ (S : MS) (x1 : Int32) (x2 : Int32) (H : Heap) (locs : List Loc) (ls : Array Slot), J_X5_cover_23 S x1 x2 = some r → SI G A s H locs (WM G a S) → lv_has ls 7 [(0, .ref (a 0)), (1, .int x1), (2, .int x2)] → W p l e (RM 13 295) s m args below meth c H locs 0 0 Q (F0 m 23 ls [.ref (a 0)]) := by
    intro S x1 x2 H locs ls hF hs hl
    unfold J_X5_cover_23 at hF
    refine lv_iconst (v := (1 : Int32)) hx hb dX5_cover_23 (by decide) ?_
    refine lv_goto (tgt := 28) hx hb dX5_cover_24 (by decide) ?_
    exact hJ28_n S x1 x2 (1 : Int32) _ _ _ hF hs (lv_sub hl [0, 1, 2] rfl)
  unfold F_X5_cover at hF
  refine lv_aload_n hx hb dX5_cover_0 rfl (lv_at hl 0 rfl) ?_
  obtain ⟨q1, hq1, hF⟩ := bd hF
  refine sx_V (As := []) (rest := []) (st1 := []) (c_X5_begins G l a S q1 hq1) v_X5_212 ⟨(Nat.le_of_ble_eq_true rfl), (Nat.le_of_ble_eq_true rfl)⟩ hx hb hml hown hts hE hA hs ⟨Nat.le_refl 0, Nat.le_refl 0⟩ 0 rfl rfl rfl rfl rfl hl.1 (Nat.le_of_ble_eq_true rfl) dX5_cover_1 (pmW _) (ws' := WM G a q1) (pmW _) (fun H locs hs => ?_)
  refine lv_aload_n hx hb dX5_cover_4 rfl (lv_at hl 0 rfl) ?_
  refine lv_aload_n hx hb dX5_cover_5 rfl (lv_at hl 0 rfl) ?_
  refine lv_iload_n hx hb dX5_cover_6 rfl (lv_at hl 1 rfl) ?_
  obtain ⟨q2, hq2, hF⟩ := bd hF
  refine sx_V (As := [.int x1]) (rest := [.ref (a 0)]) (st1 := [.int q2, .ref (a 0)]) (c_X5_isShip G l a q1 x1 q2 hq2) v_X5_234 ⟨(Nat.le_of_ble_eq_true rfl), (Nat.le_of_ble_eq_true rfl)⟩ hx hb hml hown hts hE hA hs ⟨Nat.le_refl 0, Nat.le_refl 0⟩ 0 rfl rfl rfl rfl rfl hl.1 (Nat.le_of_ble_eq_true rfl) dX5_cover_7 (pmW _) (ws' := WM G a q1) (pmW _) (fun H locs hs => ?_)
  refine lv_if_eq (tgt := 23) hx hb dX5_cover_10 (by decide) (fun hc => ?_) (fun hc => ?_)
  · have hF := (if_pos hc).symm.trans hF
    exact hJ23_n q1 x1 x2 _ _ _ hF hs (lv_sub hl [0, 1, 2] rfl)
  · have hF := (if_neg hc).symm.trans hF
    refine lv_iload_n hx hb dX5_cover_13 rfl (lv_at hl 2 rfl) ?_
    refine lv_i2l hx hb dX5_cover_14 rfl ?_
    refine lv_lconst (v := (0 : Int64)) hx hb dX5_cover_15 (by decide) ?_
    refine lv_lconst (v := (1 : Int64)) hx hb dX5_cover_16 (by decide) ?_
    obtain ⟨q18, hq18, hF⟩ := bd hF
    refine sx_S (As := [.long x2.toInt64, .long (0 : Int64), .long (1 : Int64)]) (rest := [.ref (a 0)]) (st1 := [.int q18, .ref (a 0)]) (c_X5_in G l  x2.toInt64 (0 : Int64) (1 : Int64) q18 hq18) v_X5_161 ⟨(Nat.le_of_ble_eq_true rfl), (Nat.le_of_ble_eq_true rfl)⟩ hx hb hml hown hts hE hA hs ⟨Nat.le_refl 0, Nat.le_refl 0⟩ rfl rfl rfl hl.1 (Nat.le_of_ble_eq_true rfl) dX5_cover_17 (List.Perm.refl _) (ws' := WM G a q1) (List.Perm.refl _) (fun H locs hs => ?_)
    refine lv_if_ne (tgt := 27) hx hb dX5_cover_20 (by decide) (fun hc => ?_) (fun hc => ?_)
    · have hF := (if_neg hc).symm.trans hF
      refine lv_iconst (v := (0 : Int32)) hx hb dX5_cover_27 (by decide) ?_
      exact hJ28_n q1 x1 x2 (0 : Int32) _ _ _ hF hs (lv_sub hl [0, 1, 2] rfl)
    · have hF := (if_pos hc).symm.trans hF
      exact hJ23_n q1 x1 x2 _ _ _ hF hs (lv_sub hl [0, 1, 2] rfl)
set_option maxHeartbeats 4000000 in
set_option maxRecDepth 100000 in
theorem c_X5_net (G : GT) (l : Launch) (a : Nat → Nat) (S : MS) (x1 : Int32) (r : Int64 × MS) (hF : F_X5_net S x1 = some r) : MT G l yX5_net cX5_net 2 (some .long) 13 295 [.ref (a 0), .int x1] (WM G a S) (some (.long r.1)) (WM G a r.2) := by
  refine MT.of (by decide) (Nat.le_of_ble_eq_true rfl) ?_
  intro p e s m args below meth c A ls hx hb hr hml hown hts hlk hE hA hs hl Q hQ
  have hl : lv_has ls 2 [(0, .ref (a 0)), (1, .int x1)] := hl
  have hJ18_n : ∀ (S : MS) (x1 : Int32) (y0 : Int32) (H : Heap) (locs : List Loc) (ls : Array Slot), J_X5_net_18 S x1 y0 = some r → SI G A s H locs (WM G a S) → lv_has ls 2 [(0, .ref (a 0)), (1, .int x1)] → W p l e (RM 13 295) s m args below meth c H locs 0 0 Q (F0 m 18 ls [.int y0, .ref (a 0)]) := by
    intro S x1 y0 H locs ls hF hs hl
    unfold J_X5_net_18 at hF
    refine lv_iconst (v := (1 : Int32)) hx hb dX5_net_18 (by decide) ?_
    obtain ⟨q3, hq3, hF⟩ := bd hF
    refine sx_V (As := [.int y0, .int (1 : Int32)]) (rest := []) (st1 := [.int q3.1]) (c_X5_refuse G l a S y0 (1 : Int32) q3 hq3) v_X5_215 ⟨(Nat.le_of_ble_eq_true rfl), (Nat.le_of_ble_eq_true rfl)⟩ hx hb hml hown hts hE hA hs ⟨Nat.le_refl 0, Nat.le_refl 0⟩ 0 rfl rfl rfl rfl rfl hl.1 (Nat.le_of_ble_eq_true rfl) dX5_net_19 (pmW _) (ws' := WM G a q3.2) (pmW _) (fun H locs hs => ?_)
    refine lv_if_eq (tgt := 29) hx hb dX5_net_22 (by decide) (fun hc => ?_) (fun hc => ?_)
    · have hF := (if_pos hc).symm.trans hF
      refine lv_aload_n hx hb dX5_net_29 rfl (lv_at hl 0 rfl) ?_
      obtain ⟨q4, hq4, hF⟩ := bd hF
      refine sx_V (As := []) (rest := []) (st1 := []) (c_X5_laysPaid G l a q3.2 q4 hq4) v_X5_343 ⟨(Nat.le_of_ble_eq_true rfl), (Nat.le_of_ble_eq_true rfl)⟩ hx hb hml hown hts hE hA hs ⟨Nat.le_refl 0, Nat.le_refl 0⟩ 0 rfl rfl rfl rfl rfl hl.1 (Nat.le_of_ble_eq_true rfl) dX5_net_30 (pmW _) (ws' := WM G a q4) (pmW _) (fun H locs hs => ?_)
      refine lv_aload_n hx hb dX5_net_33 rfl (lv_at hl 0 rfl) ?_
      refine lv_iload_n hx hb dX5_net_34 rfl (lv_at hl 1 rfl) ?_
      obtain ⟨q5, hq5, hF⟩ := bd hF
      refine sx_V (As := [.int x1]) (rest := []) (st1 := [.long q5]) (c_X5_netOf G l a q4 x1 q5 hq5) v_X5_353 ⟨(Nat.le_of_ble_eq_true rfl), (Nat.le_of_ble_eq_true rfl)⟩ hx hb hml hown hts hE hA hs ⟨Nat.le_refl 0, Nat.le_refl 0⟩ 0 rfl rfl rfl rfl rfl hl.1 (Nat.le_of_ble_eq_true rfl) dX5_net_35 (pmW _) (ws' := WM G a q4) (pmW _) (fun H locs hs => ?_)
      exact sx_lret hx hb hr hlk hQ (congrArg Prod.fst (Option.some.inj hF)) (congrArg (fun z => WM G a z) (congrArg Prod.snd (Option.some.inj hF))) hs dX5_net_38
    · have hF := (if_neg hc).symm.trans hF
      refine lv_ldc2 (v := (-1000000000000 : Int64)) hx hb hown (hts _ g1381) dX5_net_25 ?_
      exact sx_lret hx hb hr hlk hQ (congrArg Prod.fst (Option.some.inj hF)) (congrArg (fun z => WM G a z) (congrArg Prod.snd (Option.some.inj hF))) hs dX5_net_28
  unfold F_X5_net at hF
  refine lv_aload_n hx hb dX5_net_0 rfl (lv_at hl 0 rfl) ?_
  obtain ⟨q1, hq1, hF⟩ := bd hF
  refine sx_V (As := []) (rest := []) (st1 := []) (c_X5_begins G l a S q1 hq1) v_X5_212 ⟨(Nat.le_of_ble_eq_true rfl), (Nat.le_of_ble_eq_true rfl)⟩ hx hb hml hown hts hE hA hs ⟨Nat.le_refl 0, Nat.le_refl 0⟩ 0 rfl rfl rfl rfl rfl hl.1 (Nat.le_of_ble_eq_true rfl) dX5_net_1 (pmW _) (ws' := WM G a q1) (pmW _) (fun H locs hs => ?_)
  refine lv_aload_n hx hb dX5_net_4 rfl (lv_at hl 0 rfl) ?_
  refine lv_aload_n hx hb dX5_net_5 rfl (lv_at hl 0 rfl) ?_
  refine lv_iload_n hx hb dX5_net_6 rfl (lv_at hl 1 rfl) ?_
  obtain ⟨q2, hq2, hF⟩ := bd hF
  refine sx_V (As := [.int x1]) (rest := [.ref (a 0)]) (st1 := [.int q2, .ref (a 0)]) (c_X5_isShip G l a q1 x1 q2 hq2) v_X5_234 ⟨(Nat.le_of_ble_eq_true rfl), (Nat.le_of_ble_eq_true rfl)⟩ hx hb hml hown hts hE hA hs ⟨Nat.le_refl 0, Nat.le_refl 0⟩ 0 rfl rfl rfl rfl rfl hl.1 (Nat.le_of_ble_eq_true rfl) dX5_net_7 (pmW _) (ws' := WM G a q1) (pmW _) (fun H locs hs => ?_)
  refine lv_if_ne (tgt := 17) hx hb dX5_net_10 (by decide) (fun hc => ?_) (fun hc => ?_)
  · have hF := (if_neg hc).symm.trans hF
    refine lv_iconst (v := (0 : Int32)) hx hb dX5_net_17 (by decide) ?_
    exact hJ18_n q1 x1 (0 : Int32) _ _ _ hF hs (lv_sub hl [0, 1] rfl)
  · have hF := (if_pos hc).symm.trans hF
    refine lv_iconst (v := (1 : Int32)) hx hb dX5_net_13 (by decide) ?_
    refine lv_goto (tgt := 18) hx hb dX5_net_14 (by decide) ?_
    exact hJ18_n q1 x1 (1 : Int32) _ _ _ hF hs (lv_sub hl [0, 1] rfl)
set_option maxHeartbeats 4000000 in
set_option maxRecDepth 100000 in
theorem c_X5_netWith (G : GT) (l : Launch) (a : Nat → Nat) (S : MS) (x1 : Int32) (x2 : Int32) (r : Int64 × MS) (hF : F_X5_netWith S x1 x2 = some r) : MT G l yX5_netWith cX5_netWith 4 (some .long) 12 275 [.ref (a 0), .int x1, .int x2] (WM G a S) (some (.long r.1)) (WM G a r.2) := by
  refine MT.of (by decide) (Nat.le_of_ble_eq_true rfl) ?_
  intro p e s m args below meth c A ls hx hb hr hml hown hts hlk hE hA hs hl Q hQ
  have hl : lv_has ls 4 [(0, .ref (a 0)), (1, .int x1), (2, .int x2)] := hl
  have hL6 : ∀ (x1 : Int32) (x2 : Int32) (k : MS → Option (Int64 × MS)) (hk : ∀ (S : MS) (H : Heap) (locs : List Loc) (ls : Array Slot), k S = some r → SI G A s H locs (WM G a S) → lv_has ls 4 [(0, .ref (a 0)), (1, .int x1)] → W p l e (RM 12 275) s m args below meth c H locs 0 0 Q (F0 m 30 ls [])) (fu : Nat) (S : MS) (x3 : Int32) (H : Heap) (locs : List Loc) (ls : Array Slot), lo2 (B_X5_netWith_6 x1 x2 k) fu S x3 = some r → SI G A s H locs (WM G a S) → lv_has ls 4 [(0, .ref (a 0)), (1, .int x1), (2, .int x2), (3, .int x3)] → W p l e (RM 12 275) s m args below meth c H locs 0 0 Q (F0 m 6 ls []) := by
    intro x1 x2 k hk fu
    induction fu with
    | zero =>
      intro S x3 H locs ls hF hs hl
      exact nomatch (show (none : Option (Int64 × MS)) = some r from hF)
    | succ fu hrec =>
      intro S x3 H locs ls hF hs hl
      have hF : (B_X5_netWith_6 x1 x2 k) (lo2 (B_X5_netWith_6 x1 x2 k) fu) S x3 = some r := hF
      unfold B_X5_netWith_6 at hF
      refine lv_iload_n hx hb dX5_netWith_6 rfl (lv_at hl 3 rfl) ?_
      refine lv_iconst (v := (3 : Int32)) hx hb dX5_netWith_7 (by decide) ?_
      refine lv_icmp_ge (tgt := 30) hx hb dX5_netWith_8 (by decide) (fun hc => ?_) (fun hc => ?_)
      · have hF := (if_pos hc).symm.trans hF
        exact hk S _ _ _ hF hs (lv_sub hl [0, 1] rfl)
      · have hF := (if_neg hc).symm.trans hF
        refine lv_aload_n hx hb dX5_netWith_11 rfl (lv_at hl 0 rfl) ?_
        refine fg_X5_17 hx hb hown hts hE hs 0 rfl (v := .ref (a 2)) rfl dX5_netWith_12 ?_
        refine lv_iconst (v := (2 : Int32)) hx hb dX5_netWith_15 (by decide) ?_
        refine lv_iload_n hx hb dX5_netWith_16 rfl (lv_at hl 3 rfl) ?_
        refine lv_iadd hx hb dX5_netWith_17 ?_
        refine lv_iload_n hx hb dX5_netWith_18 rfl (lv_at hl 2 rfl) ?_
        refine lv_iload_n hx hb dX5_netWith_19 rfl (lv_at hl 3 rfl) ?_
        refine lv_ishr hx hb dX5_netWith_20 ?_
        refine lv_iconst (v := (1 : Int32)) hx hb dX5_netWith_21 (by decide) ?_
        refine lv_iand hx hb dX5_netWith_22 ?_
        obtain ⟨f2, hf2, hF⟩ := bd hF
        obtain ⟨S3, eS3, hF⟩ := nm_some hF
        refine sx_iast hx hb hE hs 2 (f := m_w S) rfl hf2 (ws' := WM G a S3) (by subst eS3; rfl) dX5_netWith_23 (fun H locs hs => ?_)
        obtain ⟨v4, ev4, hF⟩ := nm_some hF
        refine lv_iinc (v := v4) (lv' := [(3, .int v4), (0, .ref (a 0)), (1, .int x1), (2, .int x2)]) hx hb dX5_netWith_24 hl (k := 3) rfl (by rw [ev4]; rfl) (by decide) rfl (fun ls hl => ?_)
        refine lv_goto (tgt := 6) hx hb dX5_netWith_27 (by decide) ?_
        exact hrec S3 v4 _ _ _ hF hs (lv_sub hl [1, 2, 3, 0] rfl)
  unfold F_X5_netWith at hF
  refine lv_aload_n hx hb dX5_netWith_0 rfl (lv_at hl 0 rfl) ?_
  obtain ⟨q1, hq1, hF⟩ := bd hF
  refine sx_V (As := []) (rest := []) (st1 := []) (c_X5_lays G l a S q1 hq1) v_X5_318 ⟨(Nat.le_of_ble_eq_true rfl), (Nat.le_of_ble_eq_true rfl)⟩ hx hb hml hown hts hE hA hs ⟨Nat.le_refl 0, Nat.le_refl 0⟩ 0 rfl rfl rfl rfl rfl hl.1 (Nat.le_of_ble_eq_true rfl) dX5_netWith_1 (pmW _) (ws' := WM G a q1) (pmW _) (fun H locs hs => ?_)
  refine lv_iconst (v := (0 : Int32)) hx hb dX5_netWith_4 (by decide) ?_
  refine lv_istore_n (lv' := [(3, .int (0 : Int32)), (0, .ref (a 0)), (1, .int x1), (2, .int x2)]) hx hb dX5_netWith_5 rfl hl (by decide) rfl (fun ls hl => ?_)
  refine hL6 x1 x2 _ (fun S5 H locs ls hF hs hl => ?_) FU q1 (0 : Int32) _ _ _ hF hs (lv_sub hl [1, 2, 3, 0] rfl)
  refine lv_aload_n hx hb dX5_netWith_30 rfl (lv_at hl 0 rfl) ?_
  obtain ⟨q6, hq6, hF⟩ := bd hF
  refine sx_V (As := []) (rest := []) (st1 := []) (c_X5_paysAll G l a S5 q6 hq6) v_X5_321 ⟨(Nat.le_of_ble_eq_true rfl), (Nat.le_of_ble_eq_true rfl)⟩ hx hb hml hown hts hE hA hs ⟨Nat.le_refl 0, Nat.le_refl 0⟩ 0 rfl rfl rfl rfl rfl hl.1 (Nat.le_of_ble_eq_true rfl) dX5_netWith_31 (pmW _) (ws' := WM G a q6) (pmW _) (fun H locs hs => ?_)
  refine lv_aload_n hx hb dX5_netWith_34 rfl (lv_at hl 0 rfl) ?_
  refine lv_iload_n hx hb dX5_netWith_35 rfl (lv_at hl 1 rfl) ?_
  obtain ⟨q7, hq7, hF⟩ := bd hF
  refine sx_V (As := [.int x1]) (rest := []) (st1 := [.long q7]) (c_X5_netOf G l a q6 x1 q7 hq7) v_X5_353 ⟨(Nat.le_of_ble_eq_true rfl), (Nat.le_of_ble_eq_true rfl)⟩ hx hb hml hown hts hE hA hs ⟨Nat.le_refl 0, Nat.le_refl 0⟩ 0 rfl rfl rfl rfl rfl hl.1 (Nat.le_of_ble_eq_true rfl) dX5_netWith_36 (pmW _) (ws' := WM G a q6) (pmW _) (fun H locs hs => ?_)
  exact sx_lret hx hb hr hlk hQ (congrArg Prod.fst (Option.some.inj hF)) (congrArg (fun z => WM G a z) (congrArg Prod.snd (Option.some.inj hF))) hs dX5_netWith_39
set_option maxHeartbeats 4000000 in
set_option maxRecDepth 100000 in
theorem c_X5_netBy (G : GT) (l : Launch) (a : Nat → Nat) (S : MS) (x1 : Int32) (x2 : Int32) (r : Int64 × MS) (hF : F_X5_netBy S x1 x2 = some r) : MT G l yX5_netBy cX5_netBy 3 (some .long) 13 298 [.ref (a 0), .int x1, .int x2] (WM G a S) (some (.long r.1)) (WM G a r.2) := by
  refine MT.of (by decide) (Nat.le_of_ble_eq_true rfl) ?_
  intro p e s m args below meth c A ls hx hb hr hml hown hts hlk hE hA hs hl Q hQ
  have hl : lv_has ls 3 [(0, .ref (a 0)), (1, .int x1), (2, .int x2)] := hl
  have hJ50_n : ∀ (S : MS) (H : Heap) (locs : List Loc) (ls : Array Slot), J_X5_netBy_50 S = some r → SI G A s H locs (WM G a S) → lv_has ls 3 [] → W p l e (RM 13 298) s m args below meth c H locs 0 0 Q (F0 m 50 ls []) := by
    intro S H locs ls hF hs hl
    unfold J_X5_netBy_50 at hF
    refine lv_ldc2 (v := (-1000000000000 : Int64)) hx hb hown (hts _ g1381) dX5_netBy_50 ?_
    exact sx_lret hx hb hr hlk hQ (congrArg Prod.fst (Option.some.inj hF)) (congrArg (fun z => WM G a z) (congrArg Prod.snd (Option.some.inj hF))) hs dX5_netBy_53
  have hJ43_n : ∀ (S : MS) (x1 : Int32) (x2 : Int32) (y0 : Int32) (H : Heap) (locs : List Loc) (ls : Array Slot), J_X5_netBy_43 S x1 x2 y0 = some r → SI G A s H locs (WM G a S) → lv_has ls 3 [(0, .ref (a 0)), (1, .int x1), (2, .int x2)] → W p l e (RM 13 298) s m args below meth c H locs 0 0 Q (F0 m 43 ls [.int y0, .ref (a 0)]) := by
    intro S x1 x2 y0 H locs ls hF hs hl
    unfold J_X5_netBy_43 at hF
    refine lv_iconst (v := (2 : Int32)) hx hb dX5_netBy_43 (by decide) ?_
    obtain ⟨q5, hq5, hF⟩ := bd hF
    refine sx_V (As := [.int y0, .int (2 : Int32)]) (rest := []) (st1 := [.int q5.1]) (c_X5_refuse G l a S y0 (2 : Int32) q5 hq5) v_X5_215 ⟨(Nat.le_of_ble_eq_true rfl), (Nat.le_of_ble_eq_true rfl)⟩ hx hb hml hown hts hE hA hs ⟨Nat.le_refl 0, Nat.le_refl 0⟩ 0 rfl rfl rfl rfl rfl hl.1 (Nat.le_of_ble_eq_true rfl) dX5_netBy_44 (pmW _) (ws' := WM G a q5.2) (pmW _) (fun H locs hs => ?_)
    refine lv_if_eq (tgt := 54) hx hb dX5_netBy_47 (by decide) (fun hc => ?_) (fun hc => ?_)
    · have hF := (if_pos hc).symm.trans hF
      refine lv_aload_n hx hb dX5_netBy_54 rfl (lv_at hl 0 rfl) ?_
      refine lv_iload_n hx hb dX5_netBy_55 rfl (lv_at hl 1 rfl) ?_
      refine lv_iload_n hx hb dX5_netBy_56 rfl (lv_at hl 2 rfl) ?_
      obtain ⟨q6, hq6, hF⟩ := bd hF
      refine sx_V (As := [.int x1, .int x2]) (rest := []) (st1 := [.long q6.1]) (c_X5_netWith G l a q5.2 x1 x2 q6 hq6) v_X5_358 ⟨(Nat.le_of_ble_eq_true rfl), (Nat.le_of_ble_eq_true rfl)⟩ hx hb hml hown hts hE hA hs ⟨Nat.le_refl 0, Nat.le_refl 0⟩ 0 rfl rfl rfl rfl rfl hl.1 (Nat.le_of_ble_eq_true rfl) dX5_netBy_57 (pmW _) (ws' := WM G a q6.2) (pmW _) (fun H locs hs => ?_)
      exact sx_lret hx hb hr hlk hQ (congrArg Prod.fst (Option.some.inj hF)) (congrArg (fun z => WM G a z) (congrArg Prod.snd (Option.some.inj hF))) hs dX5_netBy_60
    · have hF := (if_neg hc).symm.trans hF
      exact hJ50_n q5.2 _ _ _ hF hs (lv_sub hl [] rfl)
  have hJ18_n : ∀ (S : MS) (x1 : Int32) (x2 : Int32) (y0 : Int32) (H : Heap) (locs : List Loc) (ls : Array Slot), J_X5_netBy_18 S x1 x2 y0 = some r → SI G A s H locs (WM G a S) → lv_has ls 3 [(0, .ref (a 0)), (1, .int x1), (2, .int x2)] → W p l e (RM 13 298) s m args below meth c H locs 0 0 Q (F0 m 18 ls [.int y0, .ref (a 0)]) := by
    intro S x1 x2 y0 H locs ls hF hs hl
    unfold J_X5_netBy_18 at hF
    refine lv_iconst (v := (1 : Int32)) hx hb dX5_netBy_18 (by decide) ?_
    obtain ⟨q3, hq3, hF⟩ := bd hF
    refine sx_V (As := [.int y0, .int (1 : Int32)]) (rest := []) (st1 := [.int q3.1]) (c_X5_refuse G l a S y0 (1 : Int32) q3 hq3) v_X5_215 ⟨(Nat.le_of_ble_eq_true rfl), (Nat.le_of_ble_eq_true rfl)⟩ hx hb hml hown hts hE hA hs ⟨Nat.le_refl 0, Nat.le_refl 0⟩ 0 rfl rfl rfl rfl rfl hl.1 (Nat.le_of_ble_eq_true rfl) dX5_netBy_19 (pmW _) (ws' := WM G a q3.2) (pmW _) (fun H locs hs => ?_)
    refine lv_if_ne (tgt := 50) hx hb dX5_netBy_22 (by decide) (fun hc => ?_) (fun hc => ?_)
    · have hF := (if_neg hc).symm.trans hF
      exact hJ50_n q3.2 _ _ _ hF hs (lv_sub hl [] rfl)
    · have hF := (if_pos hc).symm.trans hF
      refine lv_aload_n hx hb dX5_netBy_25 rfl (lv_at hl 0 rfl) ?_
      refine lv_iload_n hx hb dX5_netBy_26 rfl (lv_at hl 2 rfl) ?_
      refine lv_i2l hx hb dX5_netBy_27 rfl ?_
      refine lv_lconst (v := (0 : Int64)) hx hb dX5_netBy_28 (by decide) ?_
      refine lv_ldc2 (v := (7 : Int64)) hx hb hown (hts _ g1390) dX5_netBy_29 ?_
      obtain ⟨q4, hq4, hF⟩ := bd hF
      refine sx_S (As := [.long x2.toInt64, .long (0 : Int64), .long (7 : Int64)]) (rest := [.ref (a 0)]) (st1 := [.int q4, .ref (a 0)]) (c_X5_in G l  x2.toInt64 (0 : Int64) (7 : Int64) q4 hq4) v_X5_161 ⟨(Nat.le_of_ble_eq_true rfl), (Nat.le_of_ble_eq_true rfl)⟩ hx hb hml hown hts hE hA hs ⟨Nat.le_refl 0, Nat.le_refl 0⟩ rfl rfl rfl hl.1 (Nat.le_of_ble_eq_true rfl) dX5_netBy_32 (List.Perm.refl _) (ws' := WM G a q3.2) (List.Perm.refl _) (fun H locs hs => ?_)
      refine lv_if_ne (tgt := 42) hx hb dX5_netBy_35 (by decide) (fun hc => ?_) (fun hc => ?_)
      · have hF := (if_neg hc).symm.trans hF
        refine lv_iconst (v := (0 : Int32)) hx hb dX5_netBy_42 (by decide) ?_
        exact hJ43_n q3.2 x1 x2 (0 : Int32) _ _ _ hF hs (lv_sub hl [0, 1, 2] rfl)
      · have hF := (if_pos hc).symm.trans hF
        refine lv_iconst (v := (1 : Int32)) hx hb dX5_netBy_38 (by decide) ?_
        refine lv_goto (tgt := 43) hx hb dX5_netBy_39 (by decide) ?_
        exact hJ43_n q3.2 x1 x2 (1 : Int32) _ _ _ hF hs (lv_sub hl [0, 1, 2] rfl)
  unfold F_X5_netBy at hF
  refine lv_aload_n hx hb dX5_netBy_0 rfl (lv_at hl 0 rfl) ?_
  obtain ⟨q1, hq1, hF⟩ := bd hF
  refine sx_V (As := []) (rest := []) (st1 := []) (c_X5_begins G l a S q1 hq1) v_X5_212 ⟨(Nat.le_of_ble_eq_true rfl), (Nat.le_of_ble_eq_true rfl)⟩ hx hb hml hown hts hE hA hs ⟨Nat.le_refl 0, Nat.le_refl 0⟩ 0 rfl rfl rfl rfl rfl hl.1 (Nat.le_of_ble_eq_true rfl) dX5_netBy_1 (pmW _) (ws' := WM G a q1) (pmW _) (fun H locs hs => ?_)
  refine lv_aload_n hx hb dX5_netBy_4 rfl (lv_at hl 0 rfl) ?_
  refine lv_aload_n hx hb dX5_netBy_5 rfl (lv_at hl 0 rfl) ?_
  refine lv_iload_n hx hb dX5_netBy_6 rfl (lv_at hl 1 rfl) ?_
  obtain ⟨q2, hq2, hF⟩ := bd hF
  refine sx_V (As := [.int x1]) (rest := [.ref (a 0)]) (st1 := [.int q2, .ref (a 0)]) (c_X5_isShip G l a q1 x1 q2 hq2) v_X5_234 ⟨(Nat.le_of_ble_eq_true rfl), (Nat.le_of_ble_eq_true rfl)⟩ hx hb hml hown hts hE hA hs ⟨Nat.le_refl 0, Nat.le_refl 0⟩ 0 rfl rfl rfl rfl rfl hl.1 (Nat.le_of_ble_eq_true rfl) dX5_netBy_7 (pmW _) (ws' := WM G a q1) (pmW _) (fun H locs hs => ?_)
  refine lv_if_ne (tgt := 17) hx hb dX5_netBy_10 (by decide) (fun hc => ?_) (fun hc => ?_)
  · have hF := (if_neg hc).symm.trans hF
    refine lv_iconst (v := (0 : Int32)) hx hb dX5_netBy_17 (by decide) ?_
    exact hJ18_n q1 x1 x2 (0 : Int32) _ _ _ hF hs (lv_sub hl [0, 1, 2] rfl)
  · have hF := (if_pos hc).symm.trans hF
    refine lv_iconst (v := (1 : Int32)) hx hb dX5_netBy_13 (by decide) ?_
    refine lv_goto (tgt := 18) hx hb dX5_netBy_14 (by decide) ?_
    exact hJ18_n q1 x1 x2 (1 : Int32) _ _ _ hF hs (lv_sub hl [0, 1, 2] rfl)
set_option maxHeartbeats 4000000 in
set_option maxRecDepth 100000 in
theorem c_X5_wished (G : GT) (l : Launch) (a : Nat → Nat) (S : MS) (x1 : Int32) (r : Int32 × MS) (hF : F_X5_wished S x1 = some r) : MT G l yX5_wished cX5_wished 8 (some .int) 13 298 [.ref (a 0), .int x1] (WM G a S) (some (.int r.1)) (WM G a r.2) := by
  refine MT.of (by decide) (Nat.le_of_ble_eq_true rfl) ?_
  intro p e s m args below meth c A ls hx hb hr hml hown hts hlk hE hA hs hl Q hQ
  have hl : lv_has ls 8 [(0, .ref (a 0)), (1, .int x1)] := hl
  have hJ68_39 : ∀ (x1 : Int32) (k : MS → Int32 → Option (Int32 × MS)) (rc : MS → Int32 → Int64 → Int32 → Option (Int32 × MS)) (hk : ∀ (S : MS) (x2 : Int32) (H : Heap) (locs : List Loc) (ls : Array Slot), k S x2 = some r → SI G A s H locs (WM G a S) → lv_has ls 8 [(2, .int x2)] → W p l e (RM 13 298) s m args below meth c H locs 0 0 Q (F0 m 74 ls [])) (hrec : ∀ (S : MS) (x2 : Int32) (x3 : Int64) (x5 : Int32) (H : Heap) (locs : List Loc) (ls : Array Slot), rc S x2 x3 x5 = some r → SI G A s H locs (WM G a S) → lv_has ls 8 [(0, .ref (a 0)), (1, .int x1), (2, .int x2), (3, .long x3), (5, .int x5)] → W p l e (RM 13 298) s m args below meth c H locs 0 0 Q (F0 m 39 ls [])) (S : MS) (x2 : Int32) (x3 : Int64) (x5 : Int32) (H : Heap) (locs : List Loc) (ls : Array Slot), J_X5_wished_68 k rc S x1 x2 x3 x5 = some r → SI G A s H locs (WM G a S) → lv_has ls 8 [(0, .ref (a 0)), (1, .int x1), (2, .int x2), (3, .long x3), (5, .int x5)] → W p l e (RM 13 298) s m args below meth c H locs 0 0 Q (F0 m 68 ls []) := by
    intro x1 k rc hk hrec S x2 x3 x5 H locs ls hF hs hl
    unfold J_X5_wished_68 at hF
    obtain ⟨v6, ev6, hF⟩ := nm_some hF
    refine lv_iinc (v := v6) (lv' := [(5, .int v6), (0, .ref (a 0)), (1, .int x1), (2, .int x2), (3, .long x3)]) hx hb dX5_wished_68 hl (k := 4) rfl (by rw [ev6]; rfl) (by decide) rfl (fun ls hl => ?_)
    refine lv_goto (tgt := 39) hx hb dX5_wished_71 (by decide) ?_
    exact hrec S x2 x3 v6 _ _ _ hF hs (lv_sub hl [1, 2, 3, 4, 0] rfl)
  have hL39 : ∀ (x1 : Int32) (k : MS → Int32 → Option (Int32 × MS)) (hk : ∀ (S : MS) (x2 : Int32) (H : Heap) (locs : List Loc) (ls : Array Slot), k S x2 = some r → SI G A s H locs (WM G a S) → lv_has ls 8 [(2, .int x2)] → W p l e (RM 13 298) s m args below meth c H locs 0 0 Q (F0 m 74 ls [])) (fu : Nat) (S : MS) (x2 : Int32) (x3 : Int64) (x5 : Int32) (H : Heap) (locs : List Loc) (ls : Array Slot), lo4 (B_X5_wished_39 x1 k) fu S x2 x3 x5 = some r → SI G A s H locs (WM G a S) → lv_has ls 8 [(0, .ref (a 0)), (1, .int x1), (2, .int x2), (3, .long x3), (5, .int x5)] → W p l e (RM 13 298) s m args below meth c H locs 0 0 Q (F0 m 39 ls []) := by
    intro x1 k hk fu
    induction fu with
    | zero =>
      intro S x2 x3 x5 H locs ls hF hs hl
      exact nomatch (show (none : Option (Int32 × MS)) = some r from hF)
    | succ fu hrec =>
      intro S x2 x3 x5 H locs ls hF hs hl
      have hF : (B_X5_wished_39 x1 k) (lo4 (B_X5_wished_39 x1 k) fu) S x2 x3 x5 = some r := hF
      unfold B_X5_wished_39 at hF
      refine lv_iload hx hb dX5_wished_39 (lv_at hl 4 rfl) ?_
      refine lv_bipush (v := (8 : Int32)) hx hb dX5_wished_41 (by decide) ?_
      refine lv_icmp_ge (tgt := 74) hx hb dX5_wished_43 (by decide) (fun hc => ?_) (fun hc => ?_)
      · have hF := (if_pos hc).symm.trans hF
        exact hk S x2 _ _ _ hF hs (lv_sub hl [2] rfl)
      · have hF := (if_neg hc).symm.trans hF
        refine lv_aload_n hx hb dX5_wished_46 rfl (lv_at hl 0 rfl) ?_
        refine lv_iload_n hx hb dX5_wished_47 rfl (lv_at hl 1 rfl) ?_
        refine lv_iload hx hb dX5_wished_48 (lv_at hl 4 rfl) ?_
        obtain ⟨q5, hq5, hF⟩ := bd hF
        refine sx_V (As := [.int x1, .int x5]) (rest := []) (st1 := [.long q5.1]) (c_X5_netWith G l a S x1 x5 q5 hq5) v_X5_358 ⟨(Nat.le_of_ble_eq_true rfl), (Nat.le_of_ble_eq_true rfl)⟩ hx hb hml hown hts hE hA hs ⟨Nat.le_refl 0, Nat.le_refl 0⟩ 0 rfl rfl rfl rfl rfl hl.1 (Nat.le_of_ble_eq_true rfl) dX5_wished_50 (pmW _) (ws' := WM G a q5.2) (pmW _) (fun H locs hs => ?_)
        refine lv_lstore (lv' := [(6, .long q5.1), (0, .ref (a 0)), (1, .int x1), (2, .int x2), (3, .long x3), (5, .int x5)]) hx hb dX5_wished_53 hl (by decide) rfl (fun ls hl => ?_)
        refine lv_lload hx hb dX5_wished_55 (lv_at hl 0 rfl) ?_
        refine lv_lload_n hx hb dX5_wished_57 rfl (lv_at hl 4 rfl) ?_
        refine W.lcmp hx hb dX5_wished_58 ?_
        refine lv_if_le (tgt := 68) hx hb dX5_wished_59 (by decide) (fun hc => ?_) (fun hc => ?_)
        · have hF := (if_pos hc).symm.trans hF
          exact hJ68_39 x1 _ _ hk hrec q5.2 x2 x3 x5 _ _ _ hF hs (lv_sub hl [1, 2, 3, 4, 5] rfl)
        · have hF := (if_neg hc).symm.trans hF
          refine lv_lload hx hb dX5_wished_62 (lv_at hl 0 rfl) ?_
          refine lv_lstore_n (lv' := [(3, .long q5.1), (6, .long q5.1), (0, .ref (a 0)), (1, .int x1), (2, .int x2), (5, .int x5)]) hx hb dX5_wished_64 rfl hl (by decide) rfl (fun ls hl => ?_)
          refine lv_iload hx hb dX5_wished_65 (lv_at hl 5 rfl) ?_
          refine lv_istore_n (lv' := [(2, .int x5), (3, .long q5.1), (6, .long q5.1), (0, .ref (a 0)), (1, .int x1), (5, .int x5)]) hx hb dX5_wished_67 rfl hl (by decide) rfl (fun ls hl => ?_)
          exact hJ68_39 x1 _ _ hk hrec q5.2 x5 q5.1 x5 _ _ _ hF hs (lv_sub hl [3, 4, 0, 1, 5] rfl)
  have hJ18_n : ∀ (S : MS) (x1 : Int32) (y0 : Int32) (H : Heap) (locs : List Loc) (ls : Array Slot), J_X5_wished_18 S x1 y0 = some r → SI G A s H locs (WM G a S) → lv_has ls 8 [(0, .ref (a 0)), (1, .int x1)] → W p l e (RM 13 298) s m args below meth c H locs 0 0 Q (F0 m 18 ls [.int y0, .ref (a 0)]) := by
    intro S x1 y0 H locs ls hF hs hl
    unfold J_X5_wished_18 at hF
    refine lv_iconst (v := (1 : Int32)) hx hb dX5_wished_18 (by decide) ?_
    obtain ⟨q3, hq3, hF⟩ := bd hF
    refine sx_V (As := [.int y0, .int (1 : Int32)]) (rest := []) (st1 := [.int q3.1]) (c_X5_refuse G l a S y0 (1 : Int32) q3 hq3) v_X5_215 ⟨(Nat.le_of_ble_eq_true rfl), (Nat.le_of_ble_eq_true rfl)⟩ hx hb hml hown hts hE hA hs ⟨Nat.le_refl 0, Nat.le_refl 0⟩ 0 rfl rfl rfl rfl rfl hl.1 (Nat.le_of_ble_eq_true rfl) dX5_wished_19 (pmW _) (ws' := WM G a q3.2) (pmW _) (fun H locs hs => ?_)
    refine lv_if_eq (tgt := 27) hx hb dX5_wished_22 (by decide) (fun hc => ?_) (fun hc => ?_)
    · have hF := (if_pos hc).symm.trans hF
      refine lv_iconst (v := (0 : Int32)) hx hb dX5_wished_27 (by decide) ?_
      refine lv_istore_n (lv' := [(2, .int (0 : Int32)), (0, .ref (a 0)), (1, .int x1)]) hx hb dX5_wished_28 rfl hl (by decide) rfl (fun ls hl => ?_)
      refine lv_aload_n hx hb dX5_wished_29 rfl (lv_at hl 1 rfl) ?_
      refine lv_iload_n hx hb dX5_wished_30 rfl (lv_at hl 2 rfl) ?_
      refine lv_iconst (v := (0 : Int32)) hx hb dX5_wished_31 (by decide) ?_
      obtain ⟨q4, hq4, hF⟩ := bd hF
      refine sx_V (As := [.int x1, .int (0 : Int32)]) (rest := []) (st1 := [.long q4.1]) (c_X5_netWith G l a q3.2 x1 (0 : Int32) q4 hq4) v_X5_358 ⟨(Nat.le_of_ble_eq_true rfl), (Nat.le_of_ble_eq_true rfl)⟩ hx hb hml hown hts hE hA hs ⟨Nat.le_refl 0, Nat.le_refl 0⟩ 0 rfl rfl rfl rfl rfl hl.1 (Nat.le_of_ble_eq_true rfl) dX5_wished_32 (pmW _) (ws' := WM G a q4.2) (pmW _) (fun H locs hs => ?_)
      refine lv_lstore_n (lv' := [(3, .long q4.1), (2, .int (0 : Int32)), (0, .ref (a 0)), (1, .int x1)]) hx hb dX5_wished_35 rfl hl (by decide) rfl (fun ls hl => ?_)
      refine lv_iconst (v := (1 : Int32)) hx hb dX5_wished_36 (by decide) ?_
      refine lv_istore (lv' := [(5, .int (1 : Int32)), (3, .long q4.1), (2, .int (0 : Int32)), (0, .ref (a 0)), (1, .int x1)]) hx hb dX5_wished_37 hl (by decide) rfl (fun ls hl => ?_)
      refine hL39 x1 _ (fun S7 z8 H locs ls hF hs hl => ?_) FU q4.2 (0 : Int32) q4.1 (1 : Int32) _ _ _ hF hs (lv_sub hl [3, 4, 2, 1, 0] rfl)
      refine lv_iload_n hx hb dX5_wished_74 rfl (lv_at hl 0 rfl) ?_
      exact sx_iret hx hb hr hlk hQ (congrArg Prod.fst (Option.some.inj hF)) (congrArg (fun z => WM G a z) (congrArg Prod.snd (Option.some.inj hF))) hs dX5_wished_75
    · have hF := (if_neg hc).symm.trans hF
      refine lv_iconst (v := (-1 : Int32)) hx hb dX5_wished_25 (by decide) ?_
      exact sx_iret hx hb hr hlk hQ (congrArg Prod.fst (Option.some.inj hF)) (congrArg (fun z => WM G a z) (congrArg Prod.snd (Option.some.inj hF))) hs dX5_wished_26
  unfold F_X5_wished at hF
  refine lv_aload_n hx hb dX5_wished_0 rfl (lv_at hl 0 rfl) ?_
  obtain ⟨q1, hq1, hF⟩ := bd hF
  refine sx_V (As := []) (rest := []) (st1 := []) (c_X5_begins G l a S q1 hq1) v_X5_212 ⟨(Nat.le_of_ble_eq_true rfl), (Nat.le_of_ble_eq_true rfl)⟩ hx hb hml hown hts hE hA hs ⟨Nat.le_refl 0, Nat.le_refl 0⟩ 0 rfl rfl rfl rfl rfl hl.1 (Nat.le_of_ble_eq_true rfl) dX5_wished_1 (pmW _) (ws' := WM G a q1) (pmW _) (fun H locs hs => ?_)
  refine lv_aload_n hx hb dX5_wished_4 rfl (lv_at hl 0 rfl) ?_
  refine lv_aload_n hx hb dX5_wished_5 rfl (lv_at hl 0 rfl) ?_
  refine lv_iload_n hx hb dX5_wished_6 rfl (lv_at hl 1 rfl) ?_
  obtain ⟨q2, hq2, hF⟩ := bd hF
  refine sx_V (As := [.int x1]) (rest := [.ref (a 0)]) (st1 := [.int q2, .ref (a 0)]) (c_X5_isShip G l a q1 x1 q2 hq2) v_X5_234 ⟨(Nat.le_of_ble_eq_true rfl), (Nat.le_of_ble_eq_true rfl)⟩ hx hb hml hown hts hE hA hs ⟨Nat.le_refl 0, Nat.le_refl 0⟩ 0 rfl rfl rfl rfl rfl hl.1 (Nat.le_of_ble_eq_true rfl) dX5_wished_7 (pmW _) (ws' := WM G a q1) (pmW _) (fun H locs hs => ?_)
  refine lv_if_ne (tgt := 17) hx hb dX5_wished_10 (by decide) (fun hc => ?_) (fun hc => ?_)
  · have hF := (if_neg hc).symm.trans hF
    refine lv_iconst (v := (0 : Int32)) hx hb dX5_wished_17 (by decide) ?_
    exact hJ18_n q1 x1 (0 : Int32) _ _ _ hF hs (lv_sub hl [0, 1] rfl)
  · have hF := (if_pos hc).symm.trans hF
    refine lv_iconst (v := (1 : Int32)) hx hb dX5_wished_13 (by decide) ?_
    refine lv_goto (tgt := 18) hx hb dX5_wished_14 (by decide) ?_
    exact hJ18_n q1 x1 (1 : Int32) _ _ _ hF hs (lv_sub hl [0, 1] rfl)
set_option maxHeartbeats 4000000 in
set_option maxRecDepth 100000 in
theorem c_X5_gap (G : GT) (l : Launch) (a : Nat → Nat) (S : MS) (x1 : Int32) (r : Int64 × MS) (hF : F_X5_gap S x1 = some r) : MT G l yX5_gap cX5_gap 5 (some .long) 13 298 [.ref (a 0), .int x1] (WM G a S) (some (.long r.1)) (WM G a r.2) := by
  refine MT.of (by decide) (Nat.le_of_ble_eq_true rfl) ?_
  intro p e s m args below meth c A ls hx hb hr hml hown hts hlk hE hA hs hl Q hQ
  have hl : lv_has ls 5 [(0, .ref (a 0)), (1, .int x1)] := hl
  have hJ18_n : ∀ (S : MS) (x1 : Int32) (y0 : Int32) (H : Heap) (locs : List Loc) (ls : Array Slot), J_X5_gap_18 S x1 y0 = some r → SI G A s H locs (WM G a S) → lv_has ls 5 [(0, .ref (a 0)), (1, .int x1)] → W p l e (RM 13 298) s m args below meth c H locs 0 0 Q (F0 m 18 ls [.int y0, .ref (a 0)]) := by
    intro S x1 y0 H locs ls hF hs hl
    unfold J_X5_gap_18 at hF
    refine lv_iconst (v := (1 : Int32)) hx hb dX5_gap_18 (by decide) ?_
    obtain ⟨q3, hq3, hF⟩ := bd hF
    refine sx_V (As := [.int y0, .int (1 : Int32)]) (rest := []) (st1 := [.int q3.1]) (c_X5_refuse G l a S y0 (1 : Int32) q3 hq3) v_X5_215 ⟨(Nat.le_of_ble_eq_true rfl), (Nat.le_of_ble_eq_true rfl)⟩ hx hb hml hown hts hE hA hs ⟨Nat.le_refl 0, Nat.le_refl 0⟩ 0 rfl rfl rfl rfl rfl hl.1 (Nat.le_of_ble_eq_true rfl) dX5_gap_19 (pmW _) (ws' := WM G a q3.2) (pmW _) (fun H locs hs => ?_)
    refine lv_if_eq (tgt := 29) hx hb dX5_gap_22 (by decide) (fun hc => ?_) (fun hc => ?_)
    · have hF := (if_pos hc).symm.trans hF
      refine lv_aload_n hx hb dX5_gap_29 rfl (lv_at hl 0 rfl) ?_
      refine fg_X5_13 hx hb hown hts hE hs 0 rfl (v := .ref (a 1)) rfl dX5_gap_30 ?_
      refine lv_iconst (v := (2 : Int32)) hx hb dX5_gap_33 (by decide) ?_
      obtain ⟨v4, hv4, hF⟩ := bd hF
      refine sx_iald hx hb hE hs 1 (f := m_s q3.2) rfl hv4 dX5_gap_34 ?_
      refine lv_iconst (v := (2 : Int32)) hx hb dX5_gap_35 (by decide) ?_
      refine lv_aload_n hx hb dX5_gap_36 rfl (lv_at hl 0 rfl) ?_
      refine fg_X5_13 hx hb hown hts hE hs 0 rfl (v := .ref (a 1)) rfl dX5_gap_37 ?_
      refine lv_iconst (v := (3 : Int32)) hx hb dX5_gap_40 (by decide) ?_
      obtain ⟨v5, hv5, hF⟩ := bd hF
      refine sx_iald hx hb hE hs 1 (f := m_s q3.2) rfl hv5 dX5_gap_41 ?_
      refine lv_imul hx hb dX5_gap_42 ?_
      refine lv_iadd hx hb dX5_gap_43 ?_
      obtain ⟨v6, ev6, hF⟩ := nm_some hF
      refine sx_topi ev6 ?_
      refine lv_istore_n (lv' := [(2, .int v6), (0, .ref (a 0)), (1, .int x1)]) hx hb dX5_gap_44 rfl hl (by decide) rfl (fun ls hl => ?_)
      refine lv_aload_n hx hb dX5_gap_45 rfl (lv_at hl 1 rfl) ?_
      refine lv_iload_n hx hb dX5_gap_46 rfl (lv_at hl 2 rfl) ?_
      refine lv_iload_n hx hb dX5_gap_47 rfl (lv_at hl 0 rfl) ?_
      refine lv_iconst (v := (4 : Int32)) hx hb dX5_gap_48 (by decide) ?_
      refine lv_iadd hx hb dX5_gap_49 ?_
      obtain ⟨q7, hq7, hF⟩ := bd hF
      refine sx_V (As := [.int x1, .int (v6 + (4 : Int32))]) (rest := []) (st1 := [.long q7.1]) (c_X5_netWith G l a q3.2 x1 (v6 + (4 : Int32)) q7 hq7) v_X5_358 ⟨(Nat.le_of_ble_eq_true rfl), (Nat.le_of_ble_eq_true rfl)⟩ hx hb hml hown hts hE hA hs ⟨Nat.le_refl 0, Nat.le_refl 0⟩ 0 rfl rfl rfl rfl rfl hl.1 (Nat.le_of_ble_eq_true rfl) dX5_gap_50 (pmW _) (ws' := WM G a q7.2) (pmW _) (fun H locs hs => ?_)
      refine lv_lstore_n (lv' := [(3, .long q7.1), (2, .int v6), (0, .ref (a 0)), (1, .int x1)]) hx hb dX5_gap_53 rfl hl (by decide) rfl (fun ls hl => ?_)
      refine lv_lload_n hx hb dX5_gap_54 rfl (lv_at hl 0 rfl) ?_
      refine lv_aload_n hx hb dX5_gap_55 rfl (lv_at hl 2 rfl) ?_
      refine lv_iload_n hx hb dX5_gap_56 rfl (lv_at hl 3 rfl) ?_
      refine lv_iload_n hx hb dX5_gap_57 rfl (lv_at hl 1 rfl) ?_
      obtain ⟨q8, hq8, hF⟩ := bd hF
      refine sx_V (As := [.int x1, .int v6]) (rest := [.long q7.1]) (st1 := [.long q8.1, .long q7.1]) (c_X5_netWith G l a q7.2 x1 v6 q8 hq8) v_X5_358 ⟨(Nat.le_of_ble_eq_true rfl), (Nat.le_of_ble_eq_true rfl)⟩ hx hb hml hown hts hE hA hs ⟨Nat.le_refl 0, Nat.le_refl 0⟩ 0 rfl rfl rfl rfl rfl hl.1 (Nat.le_of_ble_eq_true rfl) dX5_gap_58 (pmW _) (ws' := WM G a q8.2) (pmW _) (fun H locs hs => ?_)
      refine lv_lsub hx hb dX5_gap_61 ?_
      exact sx_lret hx hb hr hlk hQ (congrArg Prod.fst (Option.some.inj hF)) (congrArg (fun z => WM G a z) (congrArg Prod.snd (Option.some.inj hF))) hs dX5_gap_62
    · have hF := (if_neg hc).symm.trans hF
      refine lv_ldc2 (v := (-1000000000000 : Int64)) hx hb hown (hts _ g1381) dX5_gap_25 ?_
      exact sx_lret hx hb hr hlk hQ (congrArg Prod.fst (Option.some.inj hF)) (congrArg (fun z => WM G a z) (congrArg Prod.snd (Option.some.inj hF))) hs dX5_gap_28
  unfold F_X5_gap at hF
  refine lv_aload_n hx hb dX5_gap_0 rfl (lv_at hl 0 rfl) ?_
  obtain ⟨q1, hq1, hF⟩ := bd hF
  refine sx_V (As := []) (rest := []) (st1 := []) (c_X5_begins G l a S q1 hq1) v_X5_212 ⟨(Nat.le_of_ble_eq_true rfl), (Nat.le_of_ble_eq_true rfl)⟩ hx hb hml hown hts hE hA hs ⟨Nat.le_refl 0, Nat.le_refl 0⟩ 0 rfl rfl rfl rfl rfl hl.1 (Nat.le_of_ble_eq_true rfl) dX5_gap_1 (pmW _) (ws' := WM G a q1) (pmW _) (fun H locs hs => ?_)
  refine lv_aload_n hx hb dX5_gap_4 rfl (lv_at hl 0 rfl) ?_
  refine lv_aload_n hx hb dX5_gap_5 rfl (lv_at hl 0 rfl) ?_
  refine lv_iload_n hx hb dX5_gap_6 rfl (lv_at hl 1 rfl) ?_
  obtain ⟨q2, hq2, hF⟩ := bd hF
  refine sx_V (As := [.int x1]) (rest := [.ref (a 0)]) (st1 := [.int q2, .ref (a 0)]) (c_X5_isShip G l a q1 x1 q2 hq2) v_X5_234 ⟨(Nat.le_of_ble_eq_true rfl), (Nat.le_of_ble_eq_true rfl)⟩ hx hb hml hown hts hE hA hs ⟨Nat.le_refl 0, Nat.le_refl 0⟩ 0 rfl rfl rfl rfl rfl hl.1 (Nat.le_of_ble_eq_true rfl) dX5_gap_7 (pmW _) (ws' := WM G a q1) (pmW _) (fun H locs hs => ?_)
  refine lv_if_ne (tgt := 17) hx hb dX5_gap_10 (by decide) (fun hc => ?_) (fun hc => ?_)
  · have hF := (if_neg hc).symm.trans hF
    refine lv_iconst (v := (0 : Int32)) hx hb dX5_gap_17 (by decide) ?_
    exact hJ18_n q1 x1 (0 : Int32) _ _ _ hF hs (lv_sub hl [0, 1] rfl)
  · have hF := (if_pos hc).symm.trans hF
    refine lv_iconst (v := (1 : Int32)) hx hb dX5_gap_13 (by decide) ?_
    refine lv_goto (tgt := 18) hx hb dX5_gap_14 (by decide) ?_
    exact hJ18_n q1 x1 (1 : Int32) _ _ _ hF hs (lv_sub hl [0, 1] rfl)
set_option maxHeartbeats 4000000 in
set_option maxRecDepth 100000 in
theorem c_X5_neededOf (G : GT) (l : Launch) (a : Nat → Nat) (S : MS) (x1 : Int32) (r : Int64 × MS) (hF : F_X5_neededOf S x1 = some r) : MT G l yX5_neededOf cX5_neededOf 5 (some .long) 9 207 [.ref (a 0), .int x1] (WM G a S) (some (.long r.1)) (WM G a r.2) := by
  refine MT.of (by decide) (Nat.le_of_ble_eq_true rfl) ?_
  intro p e s m args below meth c A ls hx hb hr hml hown hts hlk hE hA hs hl Q hQ
  have hl : lv_has ls 5 [(0, .ref (a 0)), (1, .int x1)] := hl
  have hL10 : ∀ (x1 : Int32) (k : MS → Int64 → Option (Int64 × MS)) (hk : ∀ (S : MS) (x2 : Int64) (H : Heap) (locs : List Loc) (ls : Array Slot), k S x2 = some r → SI G A s H locs (WM G a S) → lv_has ls 5 [(0, .ref (a 0)), (1, .int x1), (2, .long x2)] → W p l e (RM 9 207) s m args below meth c H locs 0 0 Q (F0 m 40 ls [])) (fu : Nat) (S : MS) (x2 : Int64) (x4 : Int32) (H : Heap) (locs : List Loc) (ls : Array Slot), lo3 (B_X5_neededOf_10 x1 k) fu S x2 x4 = some r → SI G A s H locs (WM G a S) → lv_has ls 5 [(0, .ref (a 0)), (1, .int x1), (2, .long x2), (4, .int x4)] → W p l e (RM 9 207) s m args below meth c H locs 0 0 Q (F0 m 10 ls []) := by
    intro x1 k hk fu
    induction fu with
    | zero =>
      intro S x2 x4 H locs ls hF hs hl
      exact nomatch (show (none : Option (Int64 × MS)) = some r from hF)
    | succ fu hrec =>
      intro S x2 x4 H locs ls hF hs hl
      have hF : (B_X5_neededOf_10 x1 k) (lo3 (B_X5_neededOf_10 x1 k) fu) S x2 x4 = some r := hF
      unfold B_X5_neededOf_10 at hF
      refine lv_iload hx hb dX5_neededOf_10 (lv_at hl 3 rfl) ?_
      refine lv_aload_n hx hb dX5_neededOf_12 rfl (lv_at hl 0 rfl) ?_
      refine fg_X5_17 hx hb hown hts hE hs 0 rfl (v := .ref (a 2)) rfl dX5_neededOf_13 ?_
      refine lv_iconst (v := (0 : Int32)) hx hb dX5_neededOf_16 (by decide) ?_
      obtain ⟨v2, hv2, hF⟩ := bd hF
      refine sx_iald hx hb hE hs 2 (f := m_w S) rfl hv2 dX5_neededOf_17 ?_
      refine lv_icmp_ge (tgt := 40) hx hb dX5_neededOf_18 (by decide) (fun hc => ?_) (fun hc => ?_)
      · have hF := (if_pos hc).symm.trans hF
        exact hk S x2 _ _ _ hF hs (lv_sub hl [0, 1, 2] rfl)
      · have hF := (if_neg hc).symm.trans hF
        refine lv_lload_n hx hb dX5_neededOf_21 rfl (lv_at hl 2 rfl) ?_
        refine lv_aload_n hx hb dX5_neededOf_22 rfl (lv_at hl 0 rfl) ?_
        refine fg_X5_17 hx hb hown hts hE hs 0 rfl (v := .ref (a 2)) rfl dX5_neededOf_23 ?_
        refine lv_iload_n hx hb dX5_neededOf_26 rfl (lv_at hl 1 rfl) ?_
        refine lv_iload hx hb dX5_neededOf_27 (lv_at hl 3 rfl) ?_
        obtain ⟨q3, hq3, hF⟩ := bd hF
        refine sx_S (As := [.ref (a 2), .int x1, .int x4]) (rest := [.long x2]) (st1 := [.long q3, .long x2]) (c_X5_lawOwed G l (a 2) (m_w S) x1 x4 q3 hq3) v_X5_295 ⟨(Nat.le_of_ble_eq_true rfl), (Nat.le_of_ble_eq_true rfl)⟩ hx hb hml hown hts hE hA hs ⟨Nat.le_refl 0, Nat.le_refl 0⟩ rfl rfl rfl hl.1 (Nat.le_of_ble_eq_true rfl) dX5_neededOf_29 (pM_w G a S (m_w S)) (ws' := WM G a S) (pM_w G a S (m_w S)) (fun H locs hs => ?_)
        refine lv_ladd hx hb dX5_neededOf_32 ?_
        obtain ⟨v4, ev4, hF⟩ := nm_some hF
        refine sx_topl ev4 ?_
        refine lv_lstore_n (lv' := [(2, .long v4), (0, .ref (a 0)), (1, .int x1), (4, .int x4)]) hx hb dX5_neededOf_33 rfl hl (by decide) rfl (fun ls hl => ?_)
        obtain ⟨v5, ev5, hF⟩ := nm_some hF
        refine lv_iinc (v := v5) (lv' := [(4, .int v5), (2, .long v4), (0, .ref (a 0)), (1, .int x1)]) hx hb dX5_neededOf_34 hl (k := 3) rfl (by rw [ev5]; rfl) (by decide) rfl (fun ls hl => ?_)
        refine lv_goto (tgt := 10) hx hb dX5_neededOf_37 (by decide) ?_
        exact hrec S v4 v5 _ _ _ hF hs (lv_sub hl [2, 3, 1, 0] rfl)
  have hL43 : ∀ (x1 : Int32) (k : MS → Int64 → Option (Int64 × MS)) (hk : ∀ (S : MS) (x2 : Int64) (H : Heap) (locs : List Loc) (ls : Array Slot), k S x2 = some r → SI G A s H locs (WM G a S) → lv_has ls 5 [(2, .long x2)] → W p l e (RM 9 207) s m args below meth c H locs 0 0 Q (F0 m 83 ls [])) (fu : Nat) (S : MS) (x2 : Int64) (x4 : Int32) (H : Heap) (locs : List Loc) (ls : Array Slot), lo3 (B_X5_neededOf_43 x1 k) fu S x2 x4 = some r → SI G A s H locs (WM G a S) → lv_has ls 5 [(0, .ref (a 0)), (1, .int x1), (2, .long x2), (4, .int x4)] → W p l e (RM 9 207) s m args below meth c H locs 0 0 Q (F0 m 43 ls []) := by
    intro x1 k hk fu
    induction fu with
    | zero =>
      intro S x2 x4 H locs ls hF hs hl
      exact nomatch (show (none : Option (Int64 × MS)) = some r from hF)
    | succ fu hrec =>
      intro S x2 x4 H locs ls hF hs hl
      have hF : (B_X5_neededOf_43 x1 k) (lo3 (B_X5_neededOf_43 x1 k) fu) S x2 x4 = some r := hF
      unfold B_X5_neededOf_43 at hF
      refine lv_iload hx hb dX5_neededOf_43 (lv_at hl 3 rfl) ?_
      refine lv_aload_n hx hb dX5_neededOf_45 rfl (lv_at hl 0 rfl) ?_
      refine fg_X5_17 hx hb hown hts hE hs 0 rfl (v := .ref (a 2)) rfl dX5_neededOf_46 ?_
      refine lv_iconst (v := (1 : Int32)) hx hb dX5_neededOf_49 (by decide) ?_
      obtain ⟨v8, hv8, hF⟩ := bd hF
      refine sx_iald hx hb hE hs 2 (f := m_w S) rfl hv8 dX5_neededOf_50 ?_
      refine lv_icmp_ge (tgt := 83) hx hb dX5_neededOf_51 (by decide) (fun hc => ?_) (fun hc => ?_)
      · have hF := (if_pos hc).symm.trans hF
        exact hk S x2 _ _ _ hF hs (lv_sub hl [2] rfl)
      · have hF := (if_neg hc).symm.trans hF
        refine lv_lload_n hx hb dX5_neededOf_54 rfl (lv_at hl 2 rfl) ?_
        refine lv_aload_n hx hb dX5_neededOf_55 rfl (lv_at hl 0 rfl) ?_
        refine fg_X5_17 hx hb hown hts hE hs 0 rfl (v := .ref (a 2)) rfl dX5_neededOf_56 ?_
        refine lv_iload_n hx hb dX5_neededOf_59 rfl (lv_at hl 1 rfl) ?_
        refine lv_iload hx hb dX5_neededOf_60 (lv_at hl 3 rfl) ?_
        obtain ⟨q9, hq9, hF⟩ := bd hF
        refine sx_S (As := [.ref (a 2), .int x1, .int x4]) (rest := [.long x2]) (st1 := [.long q9, .long x2]) (c_X5_debtOf G l (a 2) (m_w S) x1 x4 q9 hq9) v_X5_266 ⟨(Nat.le_of_ble_eq_true rfl), (Nat.le_of_ble_eq_true rfl)⟩ hx hb hml hown hts hE hA hs ⟨Nat.le_refl 0, Nat.le_refl 0⟩ rfl rfl rfl hl.1 (Nat.le_of_ble_eq_true rfl) dX5_neededOf_62 (pM_w G a S (m_w S)) (ws' := WM G a S) (pM_w G a S (m_w S)) (fun H locs hs => ?_)
        refine lv_aload_n hx hb dX5_neededOf_65 rfl (lv_at hl 0 rfl) ?_
        refine fg_X5_46 hx hb hown hts hE hs 0 rfl (v := .ref (a 11)) rfl dX5_neededOf_66 ?_
        refine lv_iconst (v := (4 : Int32)) hx hb dX5_neededOf_69 (by decide) ?_
        refine lv_iload hx hb dX5_neededOf_70 (lv_at hl 3 rfl) ?_
        refine lv_iadd hx hb dX5_neededOf_72 ?_
        obtain ⟨v10, hv10, hF⟩ := bd hF
        refine sx_lald hx hb hE hs 11 (f := m_out S) rfl hv10 dX5_neededOf_73 ?_
        refine lv_lsub hx hb dX5_neededOf_74 ?_
        refine lv_ladd hx hb dX5_neededOf_75 ?_
        obtain ⟨v11, ev11, hF⟩ := nm_some hF
        refine sx_topl ev11 ?_
        refine lv_lstore_n (lv' := [(2, .long v11), (0, .ref (a 0)), (1, .int x1), (4, .int x4)]) hx hb dX5_neededOf_76 rfl hl (by decide) rfl (fun ls hl => ?_)
        obtain ⟨v12, ev12, hF⟩ := nm_some hF
        refine lv_iinc (v := v12) (lv' := [(4, .int v12), (2, .long v11), (0, .ref (a 0)), (1, .int x1)]) hx hb dX5_neededOf_77 hl (k := 3) rfl (by rw [ev12]; rfl) (by decide) rfl (fun ls hl => ?_)
        refine lv_goto (tgt := 43) hx hb dX5_neededOf_80 (by decide) ?_
        exact hrec S v11 v12 _ _ _ hF hs (lv_sub hl [2, 3, 1, 0] rfl)
  unfold F_X5_neededOf at hF
  refine lv_aload_n hx hb dX5_neededOf_0 rfl (lv_at hl 0 rfl) ?_
  refine lv_iload_n hx hb dX5_neededOf_1 rfl (lv_at hl 1 rfl) ?_
  obtain ⟨q1, hq1, hF⟩ := bd hF
  refine sx_V (As := [.int x1]) (rest := []) (st1 := []) (c_X5_sharesLives G l a S x1 q1 hq1) v_X5_309 ⟨(Nat.le_of_ble_eq_true rfl), (Nat.le_of_ble_eq_true rfl)⟩ hx hb hml hown hts hE hA hs ⟨Nat.le_refl 0, Nat.le_refl 0⟩ 0 rfl rfl rfl rfl rfl hl.1 (Nat.le_of_ble_eq_true rfl) dX5_neededOf_2 (pmW _) (ws' := WM G a q1) (pmW _) (fun H locs hs => ?_)
  refine lv_lconst (v := (0 : Int64)) hx hb dX5_neededOf_5 (by decide) ?_
  refine lv_lstore_n (lv' := [(2, .long (0 : Int64)), (0, .ref (a 0)), (1, .int x1)]) hx hb dX5_neededOf_6 rfl hl (by decide) rfl (fun ls hl => ?_)
  refine lv_iconst (v := (0 : Int32)) hx hb dX5_neededOf_7 (by decide) ?_
  refine lv_istore (lv' := [(4, .int (0 : Int32)), (2, .long (0 : Int64)), (0, .ref (a 0)), (1, .int x1)]) hx hb dX5_neededOf_8 hl (by decide) rfl (fun ls hl => ?_)
  refine hL10 x1 _ (fun S6 z7 H locs ls hF hs hl => ?_) FU q1 (0 : Int64) (0 : Int32) _ _ _ hF hs (lv_sub hl [2, 3, 1, 0] rfl)
  refine lv_iconst (v := (0 : Int32)) hx hb dX5_neededOf_40 (by decide) ?_
  refine lv_istore (lv' := [(4, .int (0 : Int32)), (0, .ref (a 0)), (1, .int x1), (2, .long z7)]) hx hb dX5_neededOf_41 hl (by decide) rfl (fun ls hl => ?_)
  refine hL43 x1 _ (fun S13 z14 H locs ls hF hs hl => ?_) FU S6 z7 (0 : Int32) _ _ _ hF hs (lv_sub hl [1, 2, 3, 0] rfl)
  refine lv_lload_n hx hb dX5_neededOf_83 rfl (lv_at hl 0 rfl) ?_
  exact sx_lret hx hb hr hlk hQ (congrArg Prod.fst (Option.some.inj hF)) (congrArg (fun z => WM G a z) (congrArg Prod.snd (Option.some.inj hF))) hs dX5_neededOf_84
set_option maxHeartbeats 4000000 in
set_option maxRecDepth 100000 in
theorem c_X5_enough (G : GT) (l : Launch) (a : Nat → Nat) (S : MS) (r : Int32 × MS) (hF : F_X5_enough S = some r) : MT G l yX5_enough cX5_enough 10 (some .int) 10 231 [.ref (a 0)] (WM G a S) (some (.int r.1)) (WM G a r.2) := by
  refine MT.of (by decide) (Nat.le_of_ble_eq_true rfl) ?_
  intro p e s m args below meth c A ls hx hb hr hml hown hts hlk hE hA hs hl Q hQ
  have hl : lv_has ls 10 [(0, .ref (a 0))] := hl
  have hJ120_34 : ∀ (k : MS → Int64 → Option (Int32 × MS)) (rc : MS → Int64 → Int32 → Option (Int32 × MS)) (hk : ∀ (S : MS) (x1 : Int64) (H : Heap) (locs : List Loc) (ls : Array Slot), k S x1 = some r → SI G A s H locs (WM G a S) → lv_has ls 10 [(1, .long x1)] → W p l e (RM 10 231) s m args below meth c H locs 0 0 Q (F0 m 136 ls [])) (hrec : ∀ (S : MS) (x1 : Int64) (x3 : Int32) (H : Heap) (locs : List Loc) (ls : Array Slot), rc S x1 x3 = some r → SI G A s H locs (WM G a S) → lv_has ls 10 [(0, .ref (a 0)), (1, .long x1), (3, .int x3)] → W p l e (RM 10 231) s m args below meth c H locs 0 0 Q (F0 m 34 ls [])) (S : MS) (H : Heap) (locs : List Loc) (ls : Array Slot), J_X5_enough_120 k rc S = some r → SI G A s H locs (WM G a S) → lv_has ls 10 [] → W p l e (RM 10 231) s m args below meth c H locs 0 0 Q (F0 m 120 ls []) := by
    intro k rc hk hrec S H locs ls hF hs hl
    unfold J_X5_enough_120 at hF
    refine lv_bipush (v := (-2 : Int32)) hx hb dX5_enough_120 (by decide) ?_
    exact sx_iret hx hb hr hlk hQ (congrArg Prod.fst (Option.some.inj hF)) (congrArg (fun z => WM G a z) (congrArg Prod.snd (Option.some.inj hF))) hs dX5_enough_122
  have hJ130_34 : ∀ (k : MS → Int64 → Option (Int32 × MS)) (rc : MS → Int64 → Int32 → Option (Int32 × MS)) (hk : ∀ (S : MS) (x1 : Int64) (H : Heap) (locs : List Loc) (ls : Array Slot), k S x1 = some r → SI G A s H locs (WM G a S) → lv_has ls 10 [(1, .long x1)] → W p l e (RM 10 231) s m args below meth c H locs 0 0 Q (F0 m 136 ls [])) (hrec : ∀ (S : MS) (x1 : Int64) (x3 : Int32) (H : Heap) (locs : List Loc) (ls : Array Slot), rc S x1 x3 = some r → SI G A s H locs (WM G a S) → lv_has ls 10 [(0, .ref (a 0)), (1, .long x1), (3, .int x3)] → W p l e (RM 10 231) s m args below meth c H locs 0 0 Q (F0 m 34 ls [])) (S : MS) (x1 : Int64) (x3 : Int32) (H : Heap) (locs : List Loc) (ls : Array Slot), J_X5_enough_130 k rc S x1 x3 = some r → SI G A s H locs (WM G a S) → lv_has ls 10 [(0, .ref (a 0)), (1, .long x1), (3, .int x3)] → W p l e (RM 10 231) s m args below meth c H locs 0 0 Q (F0 m 130 ls []) := by
    intro k rc hk hrec S x1 x3 H locs ls hF hs hl
    unfold J_X5_enough_130 at hF
    obtain ⟨v12, ev12, hF⟩ := nm_some hF
    refine lv_iinc (v := v12) (lv' := [(3, .int v12), (0, .ref (a 0)), (1, .long x1)]) hx hb dX5_enough_130 hl (k := 2) rfl (by rw [ev12]; rfl) (by decide) rfl (fun ls hl => ?_)
    refine lv_goto (tgt := 34) hx hb dX5_enough_133 (by decide) ?_
    exact hrec S x1 v12 _ _ _ hF hs (lv_sub hl [1, 2, 0] rfl)
  have hL34 : ∀ (k : MS → Int64 → Option (Int32 × MS)) (hk : ∀ (S : MS) (x1 : Int64) (H : Heap) (locs : List Loc) (ls : Array Slot), k S x1 = some r → SI G A s H locs (WM G a S) → lv_has ls 10 [(1, .long x1)] → W p l e (RM 10 231) s m args below meth c H locs 0 0 Q (F0 m 136 ls [])) (fu : Nat) (S : MS) (x1 : Int64) (x3 : Int32) (H : Heap) (locs : List Loc) (ls : Array Slot), lo3 (B_X5_enough_34 k) fu S x1 x3 = some r → SI G A s H locs (WM G a S) → lv_has ls 10 [(0, .ref (a 0)), (1, .long x1), (3, .int x3)] → W p l e (RM 10 231) s m args below meth c H locs 0 0 Q (F0 m 34 ls []) := by
    intro k hk fu
    induction fu with
    | zero =>
      intro S x1 x3 H locs ls hF hs hl
      exact nomatch (show (none : Option (Int32 × MS)) = some r from hF)
    | succ fu hrec =>
      intro S x1 x3 H locs ls hF hs hl
      have hF : (B_X5_enough_34 k) (lo3 (B_X5_enough_34 k) fu) S x1 x3 = some r := hF
      unfold B_X5_enough_34 at hF
      refine lv_iload_n hx hb dX5_enough_34 rfl (lv_at hl 2 rfl) ?_
      refine lv_aload_n hx hb dX5_enough_35 rfl (lv_at hl 0 rfl) ?_
      refine fg_X5_17 hx hb hown hts hE hs 0 rfl (v := .ref (a 2)) rfl dX5_enough_36 ?_
      refine lv_iconst (v := (0 : Int32)) hx hb dX5_enough_39 (by decide) ?_
      obtain ⟨v4, hv4, hF⟩ := bd hF
      refine sx_iald hx hb hE hs 2 (f := m_w S) rfl hv4 dX5_enough_40 ?_
      refine lv_icmp_ge (tgt := 136) hx hb dX5_enough_41 (by decide) (fun hc => ?_) (fun hc => ?_)
      · have hF := (if_pos hc).symm.trans hF
        exact hk S x1 _ _ _ hF hs (lv_sub hl [1] rfl)
      · have hF := (if_neg hc).symm.trans hF
        refine lv_aload_n hx hb dX5_enough_44 rfl (lv_at hl 0 rfl) ?_
        refine fg_X5_17 hx hb hown hts hE hs 0 rfl (v := .ref (a 2)) rfl dX5_enough_45 ?_
        refine lv_iload_n hx hb dX5_enough_48 rfl (lv_at hl 2 rfl) ?_
        refine lv_iconst (v := (5 : Int32)) hx hb dX5_enough_49 (by decide) ?_
        obtain ⟨q5, hq5, hF⟩ := bd hF
        refine sx_S (As := [.ref (a 2), .int x3, .int (5 : Int32)]) (rest := []) (st1 := [.int q5]) (c_X5_ofShip G l (a 2) (m_w S) x3 (5 : Int32) q5 hq5) v_X5_243 ⟨(Nat.le_of_ble_eq_true rfl), (Nat.le_of_ble_eq_true rfl)⟩ hx hb hml hown hts hE hA hs ⟨Nat.le_refl 0, Nat.le_refl 0⟩ rfl rfl rfl hl.1 (Nat.le_of_ble_eq_true rfl) dX5_enough_50 (pM_w G a S (m_w S)) (ws' := WM G a S) (pM_w G a S (m_w S)) (fun H locs hs => ?_)
        refine lv_iconst (v := (1 : Int32)) hx hb dX5_enough_53 (by decide) ?_
        refine lv_icmp_ne (tgt := 60) hx hb dX5_enough_54 (by decide) (fun hc => ?_) (fun hc => ?_)
        · have hF := (if_neg hc).symm.trans hF
          refine lv_aload_n hx hb dX5_enough_60 rfl (lv_at hl 0 rfl) ?_
          refine lv_iload_n hx hb dX5_enough_61 rfl (lv_at hl 2 rfl) ?_
          obtain ⟨q6, hq6, hF⟩ := bd hF
          refine sx_V (As := [.int x3]) (rest := []) (st1 := [.long q6.1]) (c_X5_neededOf G l a S x3 q6 hq6) v_X5_362 ⟨(Nat.le_of_ble_eq_true rfl), (Nat.le_of_ble_eq_true rfl)⟩ hx hb hml hown hts hE hA hs ⟨Nat.le_refl 0, Nat.le_refl 0⟩ 0 rfl rfl rfl rfl rfl hl.1 (Nat.le_of_ble_eq_true rfl) dX5_enough_62 (pmW _) (ws' := WM G a q6.2) (pmW _) (fun H locs hs => ?_)
          refine lv_lstore (lv' := [(4, .long q6.1), (0, .ref (a 0)), (1, .long x1), (3, .int x3)]) hx hb dX5_enough_65 hl (by decide) rfl (fun ls hl => ?_)
          refine lv_aload_n hx hb dX5_enough_67 rfl (lv_at hl 1 rfl) ?_
          refine fg_X5_17 hx hb hown hts hE hs 0 rfl (v := .ref (a 2)) rfl dX5_enough_68 ?_
          refine lv_iload_n hx hb dX5_enough_71 rfl (lv_at hl 3 rfl) ?_
          refine lv_iconst (v := (0 : Int32)) hx hb dX5_enough_72 (by decide) ?_
          obtain ⟨q7, hq7, hF⟩ := bd hF
          refine sx_S (As := [.ref (a 2), .int x3, .int (0 : Int32)]) (rest := []) (st1 := [.int q7]) (c_X5_ofShip G l (a 2) (m_w q6.2) x3 (0 : Int32) q7 hq7) v_X5_243 ⟨(Nat.le_of_ble_eq_true rfl), (Nat.le_of_ble_eq_true rfl)⟩ hx hb hml hown hts hE hA hs ⟨Nat.le_refl 0, Nat.le_refl 0⟩ rfl rfl rfl hl.1 (Nat.le_of_ble_eq_true rfl) dX5_enough_73 (pM_w G a q6.2 (m_w q6.2)) (ws' := WM G a q6.2) (pM_w G a q6.2 (m_w q6.2)) (fun H locs hs => ?_)
          refine lv_i2l hx hb dX5_enough_76 rfl ?_
          refine lv_aload_n hx hb dX5_enough_77 rfl (lv_at hl 1 rfl) ?_
          refine fg_X5_17 hx hb hown hts hE hs 0 rfl (v := .ref (a 2)) rfl dX5_enough_78 ?_
          refine lv_bipush (v := (7 : Int32)) hx hb dX5_enough_81 (by decide) ?_
          obtain ⟨v8, hv8, hF⟩ := bd hF
          refine sx_iald hx hb hE hs 2 (f := m_w q6.2) rfl hv8 dX5_enough_83 ?_
          refine lv_i2l hx hb dX5_enough_84 rfl ?_
          obtain ⟨q9, hq9, hF⟩ := bd hF
          refine sx_S (As := [.long q7.toInt64, .long v8.toInt64]) (rest := []) (st1 := [.long q9]) (c_X5_greater G l  q7.toInt64 v8.toInt64 q9 hq9) v_X5_286 ⟨(Nat.le_of_ble_eq_true rfl), (Nat.le_of_ble_eq_true rfl)⟩ hx hb hml hown hts hE hA hs ⟨Nat.le_refl 0, Nat.le_refl 0⟩ rfl rfl rfl hl.1 (Nat.le_of_ble_eq_true rfl) dX5_enough_85 (List.Perm.refl _) (ws' := WM G a q6.2) (List.Perm.refl _) (fun H locs hs => ?_)
          refine lv_lstore (lv' := [(6, .long q9), (4, .long q6.1), (0, .ref (a 0)), (1, .long x1), (3, .int x3)]) hx hb dX5_enough_88 hl (by decide) rfl (fun ls hl => ?_)
          refine lv_lload hx hb dX5_enough_90 (lv_at hl 1 rfl) ?_
          refine lv_lload hx hb dX5_enough_92 (lv_at hl 0 rfl) ?_
          refine lv_ladd hx hb dX5_enough_94 ?_
          refine lv_lconst (v := (1 : Int64)) hx hb dX5_enough_95 (by decide) ?_
          refine lv_lsub hx hb dX5_enough_96 ?_
          refine lv_lload hx hb dX5_enough_97 (lv_at hl 0 rfl) ?_
          obtain ⟨v10, hv10, hF⟩ := bd hF
          refine sx_ldiv hx hb hv10 dX5_enough_99 ?_
          refine lv_lstore (lv' := [(8, .long v10), (6, .long q9), (4, .long q6.1), (0, .ref (a 0)), (1, .long x1), (3, .int x3)]) hx hb dX5_enough_100 hl (by decide) rfl (fun ls hl => ?_)
          refine lv_lload hx hb dX5_enough_102 (lv_at hl 2 rfl) ?_
          refine lv_ldc2 (v := (2000000000 : Int64)) hx hb hown (hts _ g1299) dX5_enough_104 ?_
          refine W.lcmp hx hb dX5_enough_107 ?_
          refine lv_if_gt (tgt := 120) hx hb dX5_enough_108 (by decide) (fun hc => ?_) (fun hc => ?_)
          · have hF := (if_pos hc).symm.trans hF
            exact hJ120_34 _ _ hk hrec q6.2 _ _ _ hF hs (lv_sub hl [] rfl)
          · have hF := (if_neg hc).symm.trans hF
            refine lv_lload hx hb dX5_enough_111 (lv_at hl 0 rfl) ?_
            refine lv_ldc2 (v := (99999 : Int64)) hx hb hown (hts _ g1411) dX5_enough_113 ?_
            refine W.lcmp hx hb dX5_enough_116 ?_
            refine lv_if_le (tgt := 123) hx hb dX5_enough_117 (by decide) (fun hc => ?_) (fun hc => ?_)
            · have hF := (if_pos hc).symm.trans hF
              refine lv_lload_n hx hb dX5_enough_123 rfl (lv_at hl 4 rfl) ?_
              refine lv_lload hx hb dX5_enough_124 (lv_at hl 0 rfl) ?_
              obtain ⟨q11, hq11, hF⟩ := bd hF
              refine sx_S (As := [.long x1, .long v10]) (rest := []) (st1 := [.long q11]) (c_X5_greater G l  x1 v10 q11 hq11) v_X5_286 ⟨(Nat.le_of_ble_eq_true rfl), (Nat.le_of_ble_eq_true rfl)⟩ hx hb hml hown hts hE hA hs ⟨Nat.le_refl 0, Nat.le_refl 0⟩ rfl rfl rfl hl.1 (Nat.le_of_ble_eq_true rfl) dX5_enough_126 (List.Perm.refl _) (ws' := WM G a q6.2) (List.Perm.refl _) (fun H locs hs => ?_)
              refine lv_lstore_n (lv' := [(1, .long q11), (8, .long v10), (6, .long q9), (4, .long q6.1), (0, .ref (a 0)), (3, .int x3)]) hx hb dX5_enough_129 rfl hl (by decide) rfl (fun ls hl => ?_)
              exact hJ130_34 _ _ hk hrec q6.2 q11 x3 _ _ _ hF hs (lv_sub hl [4, 0, 5] rfl)
            · have hF := (if_neg hc).symm.trans hF
              exact hJ120_34 _ _ hk hrec q6.2 _ _ _ hF hs (lv_sub hl [] rfl)
        · have hF := (if_pos hc).symm.trans hF
          refine lv_goto (tgt := 130) hx hb dX5_enough_57 (by decide) ?_
          exact hJ130_34 _ _ hk hrec S x1 x3 _ _ _ hF hs (lv_sub hl [0, 1, 2] rfl)
  have hJ17_n : ∀ (S : MS) (y0 : Int32) (H : Heap) (locs : List Loc) (ls : Array Slot), J_X5_enough_17 S y0 = some r → SI G A s H locs (WM G a S) → lv_has ls 10 [(0, .ref (a 0))] → W p l e (RM 10 231) s m args below meth c H locs 0 0 Q (F0 m 17 ls [.int y0, .ref (a 0)]) := by
    intro S y0 H locs ls hF hs hl
    unfold J_X5_enough_17 at hF
    refine lv_iconst (v := (1 : Int32)) hx hb dX5_enough_17 (by decide) ?_
    obtain ⟨q2, hq2, hF⟩ := bd hF
    refine sx_V (As := [.int y0, .int (1 : Int32)]) (rest := []) (st1 := [.int q2.1]) (c_X5_refuse G l a S y0 (1 : Int32) q2 hq2) v_X5_215 ⟨(Nat.le_of_ble_eq_true rfl), (Nat.le_of_ble_eq_true rfl)⟩ hx hb hml hown hts hE hA hs ⟨Nat.le_refl 0, Nat.le_refl 0⟩ 0 rfl rfl rfl rfl rfl hl.1 (Nat.le_of_ble_eq_true rfl) dX5_enough_18 (pmW _) (ws' := WM G a q2.2) (pmW _) (fun H locs hs => ?_)
    refine lv_if_eq (tgt := 26) hx hb dX5_enough_21 (by decide) (fun hc => ?_) (fun hc => ?_)
    · have hF := (if_pos hc).symm.trans hF
      refine lv_aload_n hx hb dX5_enough_26 rfl (lv_at hl 0 rfl) ?_
      obtain ⟨q3, hq3, hF⟩ := bd hF
      refine sx_V (As := []) (rest := []) (st1 := []) (c_X5_lays G l a q2.2 q3 hq3) v_X5_318 ⟨(Nat.le_of_ble_eq_true rfl), (Nat.le_of_ble_eq_true rfl)⟩ hx hb hml hown hts hE hA hs ⟨Nat.le_refl 0, Nat.le_refl 0⟩ 0 rfl rfl rfl rfl rfl hl.1 (Nat.le_of_ble_eq_true rfl) dX5_enough_27 (pmW _) (ws' := WM G a q3) (pmW _) (fun H locs hs => ?_)
      refine lv_lconst (v := (0 : Int64)) hx hb dX5_enough_30 (by decide) ?_
      refine lv_lstore_n (lv' := [(1, .long (0 : Int64)), (0, .ref (a 0))]) hx hb dX5_enough_31 rfl hl (by decide) rfl (fun ls hl => ?_)
      refine lv_iconst (v := (0 : Int32)) hx hb dX5_enough_32 (by decide) ?_
      refine lv_istore_n (lv' := [(3, .int (0 : Int32)), (1, .long (0 : Int64)), (0, .ref (a 0))]) hx hb dX5_enough_33 rfl hl (by decide) rfl (fun ls hl => ?_)
      refine hL34 _ (fun S13 z14 H locs ls hF hs hl => ?_) FU q3 (0 : Int64) (0 : Int32) _ _ _ hF hs (lv_sub hl [2, 1, 0] rfl)
      refine lv_lload_n hx hb dX5_enough_136 rfl (lv_at hl 0 rfl) ?_
      refine lv_l2i hx hb dX5_enough_137 rfl ?_
      exact sx_iret hx hb hr hlk hQ (congrArg Prod.fst (Option.some.inj hF)) (congrArg (fun z => WM G a z) (congrArg Prod.snd (Option.some.inj hF))) hs dX5_enough_138
    · have hF := (if_neg hc).symm.trans hF
      refine lv_iconst (v := (-1 : Int32)) hx hb dX5_enough_24 (by decide) ?_
      exact sx_iret hx hb hr hlk hQ (congrArg Prod.fst (Option.some.inj hF)) (congrArg (fun z => WM G a z) (congrArg Prod.snd (Option.some.inj hF))) hs dX5_enough_25
  unfold F_X5_enough at hF
  refine lv_aload_n hx hb dX5_enough_0 rfl (lv_at hl 0 rfl) ?_
  obtain ⟨q1, hq1, hF⟩ := bd hF
  refine sx_V (As := []) (rest := []) (st1 := []) (c_X5_begins G l a S q1 hq1) v_X5_212 ⟨(Nat.le_of_ble_eq_true rfl), (Nat.le_of_ble_eq_true rfl)⟩ hx hb hml hown hts hE hA hs ⟨Nat.le_refl 0, Nat.le_refl 0⟩ 0 rfl rfl rfl rfl rfl hl.1 (Nat.le_of_ble_eq_true rfl) dX5_enough_1 (pmW _) (ws' := WM G a q1) (pmW _) (fun H locs hs => ?_)
  refine lv_aload_n hx hb dX5_enough_4 rfl (lv_at hl 0 rfl) ?_
  refine lv_aload_n hx hb dX5_enough_5 rfl (lv_at hl 0 rfl) ?_
  refine fg_X5_225 hx hb hown hts hE hs 0 rfl (v := .int (m_told q1)) rfl dX5_enough_6 ?_
  refine lv_if_ne (tgt := 16) hx hb dX5_enough_9 (by decide) (fun hc => ?_) (fun hc => ?_)
  · have hF := (if_neg hc).symm.trans hF
    refine lv_iconst (v := (0 : Int32)) hx hb dX5_enough_16 (by decide) ?_
    exact hJ17_n q1 (0 : Int32) _ _ _ hF hs (lv_sub hl [0] rfl)
  · have hF := (if_pos hc).symm.trans hF
    refine lv_iconst (v := (1 : Int32)) hx hb dX5_enough_12 (by decide) ?_
    refine lv_goto (tgt := 17) hx hb dX5_enough_13 (by decide) ?_
    exact hJ17_n q1 (1 : Int32) _ _ _ hF hs (lv_sub hl [0] rfl)
set_option maxHeartbeats 4000000 in
set_option maxRecDepth 100000 in
theorem c_X5_netShifted (G : GT) (l : Launch) (a : Nat → Nat) (S : MS) (x1 : Int32) (x2 : Int32) (x3 : Int32) (r : Int64 × MS) (hF : F_X5_netShifted S x1 x2 x3 = some r) : MT G l yX5_netShifted cX5_netShifted 5 (some .long) 12 275 [.ref (a 0), .int x1, .int x2, .int x3] (WM G a S) (some (.long r.1)) (WM G a r.2) := by
  refine MT.of (by decide) (Nat.le_of_ble_eq_true rfl) ?_
  intro p e s m args below meth c A ls hx hb hr hml hown hts hlk hE hA hs hl Q hQ
  have hl : lv_has ls 5 [(0, .ref (a 0)), (1, .int x1), (2, .int x2), (3, .int x3)] := hl
  unfold F_X5_netShifted at hF
  refine lv_aload_n hx hb dX5_netShifted_0 rfl (lv_at hl 0 rfl) ?_
  obtain ⟨q1, hq1, hF⟩ := bd hF
  refine sx_V (As := []) (rest := []) (st1 := []) (c_X5_lays G l a S q1 hq1) v_X5_318 ⟨(Nat.le_of_ble_eq_true rfl), (Nat.le_of_ble_eq_true rfl)⟩ hx hb hml hown hts hE hA hs ⟨Nat.le_refl 0, Nat.le_refl 0⟩ 0 rfl rfl rfl rfl rfl hl.1 (Nat.le_of_ble_eq_true rfl) dX5_netShifted_1 (pmW _) (ws' := WM G a q1) (pmW _) (fun H locs hs => ?_)
  refine lv_aload_n hx hb dX5_netShifted_4 rfl (lv_at hl 0 rfl) ?_
  refine fg_X5_17 hx hb hown hts hE hs 0 rfl (v := .ref (a 2)) rfl dX5_netShifted_5 ?_
  refine lv_iload_n hx hb dX5_netShifted_8 rfl (lv_at hl 1 rfl) ?_
  refine lv_iconst (v := (1 : Int32)) hx hb dX5_netShifted_9 (by decide) ?_
  obtain ⟨q2, hq2, hF⟩ := bd hF
  refine sx_S (As := [.ref (a 2), .int x1, .int (1 : Int32)]) (rest := []) (st1 := [.int q2]) (c_X5_ofShip G l (a 2) (m_w q1) x1 (1 : Int32) q2 hq2) v_X5_243 ⟨(Nat.le_of_ble_eq_true rfl), (Nat.le_of_ble_eq_true rfl)⟩ hx hb hml hown hts hE hA hs ⟨Nat.le_refl 0, Nat.le_refl 0⟩ rfl rfl rfl hl.1 (Nat.le_of_ble_eq_true rfl) dX5_netShifted_10 (pM_w G a q1 (m_w q1)) (ws' := WM G a q1) (pM_w G a q1 (m_w q1)) (fun H locs hs => ?_)
  refine lv_aload_n hx hb dX5_netShifted_13 rfl (lv_at hl 0 rfl) ?_
  refine fg_X5_17 hx hb hown hts hE hs 0 rfl (v := .ref (a 2)) rfl dX5_netShifted_14 ?_
  refine lv_iload_n hx hb dX5_netShifted_17 rfl (lv_at hl 2 rfl) ?_
  refine lv_iconst (v := (1 : Int32)) hx hb dX5_netShifted_18 (by decide) ?_
  obtain ⟨q3, hq3, hF⟩ := bd hF
  refine sx_S (As := [.ref (a 2), .int x2, .int (1 : Int32)]) (rest := [.int q2]) (st1 := [.int q3, .int q2]) (c_X5_ofShip G l (a 2) (m_w q1) x2 (1 : Int32) q3 hq3) v_X5_243 ⟨(Nat.le_of_ble_eq_true rfl), (Nat.le_of_ble_eq_true rfl)⟩ hx hb hml hown hts hE hA hs ⟨Nat.le_refl 0, Nat.le_refl 0⟩ rfl rfl rfl hl.1 (Nat.le_of_ble_eq_true rfl) dX5_netShifted_19 (pM_w G a q1 (m_w q1)) (ws' := WM G a q1) (pM_w G a q1 (m_w q1)) (fun H locs hs => ?_)
  refine lv_iadd hx hb dX5_netShifted_22 ?_
  obtain ⟨v4, ev4, hF⟩ := nm_some hF
  refine sx_topi ev4 ?_
  refine lv_istore (lv' := [(4, .int v4), (0, .ref (a 0)), (1, .int x1), (2, .int x2), (3, .int x3)]) hx hb dX5_netShifted_23 hl (by decide) rfl (fun ls hl => ?_)
  refine lv_aload_n hx hb dX5_netShifted_25 rfl (lv_at hl 1 rfl) ?_
  refine fg_X5_17 hx hb hown hts hE hs 0 rfl (v := .ref (a 2)) rfl dX5_netShifted_26 ?_
  refine lv_bipush (v := (10 : Int32)) hx hb dX5_netShifted_29 (by decide) ?_
  refine lv_bipush (v := (6 : Int32)) hx hb dX5_netShifted_31 (by decide) ?_
  refine lv_iload_n hx hb dX5_netShifted_33 rfl (lv_at hl 2 rfl) ?_
  refine lv_imul hx hb dX5_netShifted_34 ?_
  refine lv_iadd hx hb dX5_netShifted_35 ?_
  refine lv_iconst (v := (1 : Int32)) hx hb dX5_netShifted_36 (by decide) ?_
  refine lv_iadd hx hb dX5_netShifted_37 ?_
  refine lv_iload_n hx hb dX5_netShifted_38 rfl (lv_at hl 4 rfl) ?_
  obtain ⟨f5, hf5, hF⟩ := bd hF
  obtain ⟨S6, eS6, hF⟩ := nm_some hF
  refine sx_iast hx hb hE hs 2 (f := m_w q1) rfl hf5 (ws' := WM G a S6) (by subst eS6; rfl) dX5_netShifted_39 (fun H locs hs => ?_)
  refine lv_aload_n hx hb dX5_netShifted_40 rfl (lv_at hl 1 rfl) ?_
  refine fg_X5_17 hx hb hown hts hE hs 0 rfl (v := .ref (a 2)) rfl dX5_netShifted_41 ?_
  refine lv_bipush (v := (10 : Int32)) hx hb dX5_netShifted_44 (by decide) ?_
  refine lv_bipush (v := (6 : Int32)) hx hb dX5_netShifted_46 (by decide) ?_
  refine lv_iload_n hx hb dX5_netShifted_48 rfl (lv_at hl 3 rfl) ?_
  refine lv_imul hx hb dX5_netShifted_49 ?_
  refine lv_iadd hx hb dX5_netShifted_50 ?_
  refine lv_iconst (v := (1 : Int32)) hx hb dX5_netShifted_51 (by decide) ?_
  refine lv_iadd hx hb dX5_netShifted_52 ?_
  refine lv_iload hx hb dX5_netShifted_53 (lv_at hl 0 rfl) ?_
  refine lv_iload_n hx hb dX5_netShifted_55 rfl (lv_at hl 4 rfl) ?_
  refine lv_isub hx hb dX5_netShifted_56 ?_
  obtain ⟨f7, hf7, hF⟩ := bd hF
  obtain ⟨S8, eS8, hF⟩ := nm_some hF
  refine sx_iast hx hb hE hs 2 (f := m_w S6) rfl hf7 (ws' := WM G a S8) (by subst eS8; rfl) dX5_netShifted_57 (fun H locs hs => ?_)
  refine lv_aload_n hx hb dX5_netShifted_58 rfl (lv_at hl 1 rfl) ?_
  obtain ⟨q9, hq9, hF⟩ := bd hF
  refine sx_V (As := []) (rest := []) (st1 := []) (c_X5_paysAll G l a S8 q9 hq9) v_X5_321 ⟨(Nat.le_of_ble_eq_true rfl), (Nat.le_of_ble_eq_true rfl)⟩ hx hb hml hown hts hE hA hs ⟨Nat.le_refl 0, Nat.le_refl 0⟩ 0 rfl rfl rfl rfl rfl hl.1 (Nat.le_of_ble_eq_true rfl) dX5_netShifted_59 (pmW _) (ws' := WM G a q9) (pmW _) (fun H locs hs => ?_)
  refine lv_aload_n hx hb dX5_netShifted_62 rfl (lv_at hl 1 rfl) ?_
  refine lv_iload_n hx hb dX5_netShifted_63 rfl (lv_at hl 2 rfl) ?_
  obtain ⟨q10, hq10, hF⟩ := bd hF
  refine sx_V (As := [.int x1]) (rest := []) (st1 := [.long q10]) (c_X5_netOf G l a q9 x1 q10 hq10) v_X5_353 ⟨(Nat.le_of_ble_eq_true rfl), (Nat.le_of_ble_eq_true rfl)⟩ hx hb hml hown hts hE hA hs ⟨Nat.le_refl 0, Nat.le_refl 0⟩ 0 rfl rfl rfl rfl rfl hl.1 (Nat.le_of_ble_eq_true rfl) dX5_netShifted_64 (pmW _) (ws' := WM G a q9) (pmW _) (fun H locs hs => ?_)
  exact sx_lret hx hb hr hlk hQ (congrArg Prod.fst (Option.some.inj hF)) (congrArg (fun z => WM G a z) (congrArg Prod.snd (Option.some.inj hF))) hs dX5_netShifted_67
set_option maxHeartbeats 4000000 in
set_option maxRecDepth 100000 in
theorem c_X5_would (G : GT) (l : Launch) (a : Nat → Nat) (S : MS) (x1 : Int32) (x2 : Int32) (x3 : Int32) (r : Int64 × MS) (hF : F_X5_would S x1 x2 x3 = some r) : MT G l yX5_would cX5_would 4 (some .long) 13 299 [.ref (a 0), .int x1, .int x2, .int x3] (WM G a S) (some (.long r.1)) (WM G a r.2) := by
  refine MT.of (by decide) (Nat.le_of_ble_eq_true rfl) ?_
  intro p e s m args below meth c A ls hx hb hr hml hown hts hlk hE hA hs hl Q hQ
  have hl : lv_has ls 4 [(0, .ref (a 0)), (1, .int x1), (2, .int x2), (3, .int x3)] := hl
  have hJ51_n : ∀ (S : MS) (H : Heap) (locs : List Loc) (ls : Array Slot), J_X5_would_51 S = some r → SI G A s H locs (WM G a S) → lv_has ls 4 [] → W p l e (RM 13 299) s m args below meth c H locs 0 0 Q (F0 m 51 ls []) := by
    intro S H locs ls hF hs hl
    unfold J_X5_would_51 at hF
    refine lv_ldc2 (v := (-1000000000000 : Int64)) hx hb hown (hts _ g1381) dX5_would_51 ?_
    exact sx_lret hx hb hr hlk hQ (congrArg Prod.fst (Option.some.inj hF)) (congrArg (fun z => WM G a z) (congrArg Prod.snd (Option.some.inj hF))) hs dX5_would_54
  have hJ90_n : ∀ (S : MS) (x1 : Int32) (x2 : Int32) (x3 : Int32) (y0 : Int32) (H : Heap) (locs : List Loc) (ls : Array Slot), J_X5_would_90 S x1 x2 x3 y0 = some r → SI G A s H locs (WM G a S) → lv_has ls 4 [(0, .ref (a 0)), (1, .int x1), (2, .int x2), (3, .int x3)] → W p l e (RM 13 299) s m args below meth c H locs 0 0 Q (F0 m 90 ls [.int y0, .ref (a 0)]) := by
    intro S x1 x2 x3 y0 H locs ls hF hs hl
    unfold J_X5_would_90 at hF
    refine lv_iconst (v := (2 : Int32)) hx hb dX5_would_90 (by decide) ?_
    obtain ⟨q8, hq8, hF⟩ := bd hF
    refine sx_V (As := [.int y0, .int (2 : Int32)]) (rest := []) (st1 := [.int q8.1]) (c_X5_refuse G l a S y0 (2 : Int32) q8 hq8) v_X5_215 ⟨(Nat.le_of_ble_eq_true rfl), (Nat.le_of_ble_eq_true rfl)⟩ hx hb hml hown hts hE hA hs ⟨Nat.le_refl 0, Nat.le_refl 0⟩ 0 rfl rfl rfl rfl rfl hl.1 (Nat.le_of_ble_eq_true rfl) dX5_would_91 (pmW _) (ws' := WM G a q8.2) (pmW _) (fun H locs hs => ?_)
    refine lv_if_eq (tgt := 101) hx hb dX5_would_94 (by decide) (fun hc => ?_) (fun hc => ?_)
    · have hF := (if_pos hc).symm.trans hF
      refine lv_aload_n hx hb dX5_would_101 rfl (lv_at hl 0 rfl) ?_
      refine lv_iload_n hx hb dX5_would_102 rfl (lv_at hl 1 rfl) ?_
      refine lv_iload_n hx hb dX5_would_103 rfl (lv_at hl 2 rfl) ?_
      refine lv_iload_n hx hb dX5_would_104 rfl (lv_at hl 3 rfl) ?_
      obtain ⟨q9, hq9, hF⟩ := bd hF
      refine sx_V (As := [.int x1, .int x2, .int x3]) (rest := []) (st1 := [.long q9.1]) (c_X5_netShifted G l a q8.2 x1 x2 x3 q9 hq9) v_X5_367 ⟨(Nat.le_of_ble_eq_true rfl), (Nat.le_of_ble_eq_true rfl)⟩ hx hb hml hown hts hE hA hs ⟨Nat.le_refl 0, Nat.le_refl 0⟩ 0 rfl rfl rfl rfl rfl hl.1 (Nat.le_of_ble_eq_true rfl) dX5_would_105 (pmW _) (ws' := WM G a q9.2) (pmW _) (fun H locs hs => ?_)
      exact sx_lret hx hb hr hlk hQ (congrArg Prod.fst (Option.some.inj hF)) (congrArg (fun z => WM G a z) (congrArg Prod.snd (Option.some.inj hF))) hs dX5_would_108
    · have hF := (if_neg hc).symm.trans hF
      refine lv_ldc2 (v := (-1000000000000 : Int64)) hx hb hown (hts _ g1381) dX5_would_97 ?_
      exact sx_lret hx hb hr hlk hQ (congrArg Prod.fst (Option.some.inj hF)) (congrArg (fun z => WM G a z) (congrArg Prod.snd (Option.some.inj hF))) hs dX5_would_100
  have hJ44_n : ∀ (S : MS) (x1 : Int32) (x2 : Int32) (x3 : Int32) (y0 : Int32) (H : Heap) (locs : List Loc) (ls : Array Slot), J_X5_would_44 S x1 x2 x3 y0 = some r → SI G A s H locs (WM G a S) → lv_has ls 4 [(0, .ref (a 0)), (1, .int x1), (2, .int x2), (3, .int x3)] → W p l e (RM 13 299) s m args below meth c H locs 0 0 Q (F0 m 44 ls [.int y0, .ref (a 0)]) := by
    intro S x1 x2 x3 y0 H locs ls hF hs hl
    unfold J_X5_would_44 at hF
    refine lv_iconst (v := (5 : Int32)) hx hb dX5_would_44 (by decide) ?_
    obtain ⟨q4, hq4, hF⟩ := bd hF
    refine sx_V (As := [.int y0, .int (5 : Int32)]) (rest := []) (st1 := [.int q4.1]) (c_X5_refuse G l a S y0 (5 : Int32) q4 hq4) v_X5_215 ⟨(Nat.le_of_ble_eq_true rfl), (Nat.le_of_ble_eq_true rfl)⟩ hx hb hml hown hts hE hA hs ⟨Nat.le_refl 0, Nat.le_refl 0⟩ 0 rfl rfl rfl rfl rfl hl.1 (Nat.le_of_ble_eq_true rfl) dX5_would_45 (pmW _) (ws' := WM G a q4.2) (pmW _) (fun H locs hs => ?_)
    refine lv_if_eq (tgt := 55) hx hb dX5_would_48 (by decide) (fun hc => ?_) (fun hc => ?_)
    · have hF := (if_pos hc).symm.trans hF
      refine lv_aload_n hx hb dX5_would_55 rfl (lv_at hl 0 rfl) ?_
      refine lv_iload_n hx hb dX5_would_56 rfl (lv_at hl 3 rfl) ?_
      refine lv_i2l hx hb dX5_would_57 rfl ?_
      refine lv_lconst (v := (0 : Int64)) hx hb dX5_would_58 (by decide) ?_
      refine lv_aload_n hx hb dX5_would_59 rfl (lv_at hl 0 rfl) ?_
      refine fg_X5_13 hx hb hown hts hE hs 0 rfl (v := .ref (a 1)) rfl dX5_would_60 ?_
      refine lv_iload_n hx hb dX5_would_63 rfl (lv_at hl 1 rfl) ?_
      refine lv_iconst (v := (1 : Int32)) hx hb dX5_would_64 (by decide) ?_
      obtain ⟨q5, hq5, hF⟩ := bd hF
      refine sx_S (As := [.ref (a 1), .int x1, .int (1 : Int32)]) (rest := [.long (0 : Int64), .long x3.toInt64, .ref (a 0)]) (st1 := [.int q5, .long (0 : Int64), .long x3.toInt64, .ref (a 0)]) (c_X5_ofShip G l (a 1) (m_s q4.2) x1 (1 : Int32) q5 hq5) v_X5_243 ⟨(Nat.le_of_ble_eq_true rfl), (Nat.le_of_ble_eq_true rfl)⟩ hx hb hml hown hts hE hA hs ⟨Nat.le_refl 0, Nat.le_refl 0⟩ rfl rfl rfl hl.1 (Nat.le_of_ble_eq_true rfl) dX5_would_65 (pM_s G a q4.2 (m_s q4.2)) (ws' := WM G a q4.2) (pM_s G a q4.2 (m_s q4.2)) (fun H locs hs => ?_)
      refine lv_aload_n hx hb dX5_would_68 rfl (lv_at hl 0 rfl) ?_
      refine fg_X5_13 hx hb hown hts hE hs 0 rfl (v := .ref (a 1)) rfl dX5_would_69 ?_
      refine lv_iload_n hx hb dX5_would_72 rfl (lv_at hl 2 rfl) ?_
      refine lv_iconst (v := (1 : Int32)) hx hb dX5_would_73 (by decide) ?_
      obtain ⟨q6, hq6, hF⟩ := bd hF
      refine sx_S (As := [.ref (a 1), .int x2, .int (1 : Int32)]) (rest := [.int q5, .long (0 : Int64), .long x3.toInt64, .ref (a 0)]) (st1 := [.int q6, .int q5, .long (0 : Int64), .long x3.toInt64, .ref (a 0)]) (c_X5_ofShip G l (a 1) (m_s q4.2) x2 (1 : Int32) q6 hq6) v_X5_243 ⟨(Nat.le_of_ble_eq_true rfl), (Nat.le_of_ble_eq_true rfl)⟩ hx hb hml hown hts hE hA hs ⟨Nat.le_refl 0, Nat.le_refl 0⟩ rfl rfl rfl hl.1 (Nat.le_of_ble_eq_true rfl) dX5_would_74 (pM_s G a q4.2 (m_s q4.2)) (ws' := WM G a q4.2) (pM_s G a q4.2 (m_s q4.2)) (fun H locs hs => ?_)
      refine lv_iadd hx hb dX5_would_77 ?_
      refine lv_i2l hx hb dX5_would_78 rfl ?_
      obtain ⟨q7, hq7, hF⟩ := bd hF
      refine sx_S (As := [.long x3.toInt64, .long (0 : Int64), .long ((q5 + q6).toInt64)]) (rest := [.ref (a 0)]) (st1 := [.int q7, .ref (a 0)]) (c_X5_in G l  x3.toInt64 (0 : Int64) ((q5 + q6).toInt64) q7 hq7) v_X5_161 ⟨(Nat.le_of_ble_eq_true rfl), (Nat.le_of_ble_eq_true rfl)⟩ hx hb hml hown hts hE hA hs ⟨Nat.le_refl 0, Nat.le_refl 0⟩ rfl rfl rfl hl.1 (Nat.le_of_ble_eq_true rfl) dX5_would_79 (List.Perm.refl _) (ws' := WM G a q4.2) (List.Perm.refl _) (fun H locs hs => ?_)
      refine lv_if_ne (tgt := 89) hx hb dX5_would_82 (by decide) (fun hc => ?_) (fun hc => ?_)
      · have hF := (if_neg hc).symm.trans hF
        refine lv_iconst (v := (0 : Int32)) hx hb dX5_would_89 (by decide) ?_
        exact hJ90_n q4.2 x1 x2 x3 (0 : Int32) _ _ _ hF hs (lv_sub hl [0, 1, 2, 3] rfl)
      · have hF := (if_pos hc).symm.trans hF
        refine lv_iconst (v := (1 : Int32)) hx hb dX5_would_85 (by decide) ?_
        refine lv_goto (tgt := 90) hx hb dX5_would_86 (by decide) ?_
        exact hJ90_n q4.2 x1 x2 x3 (1 : Int32) _ _ _ hF hs (lv_sub hl [0, 1, 2, 3] rfl)
    · have hF := (if_neg hc).symm.trans hF
      exact hJ51_n q4.2 _ _ _ hF hs (lv_sub hl [] rfl)
  have hJ26_n : ∀ (S : MS) (x1 : Int32) (x2 : Int32) (x3 : Int32) (y0 : Int32) (H : Heap) (locs : List Loc) (ls : Array Slot), J_X5_would_26 S x1 x2 x3 y0 = some r → SI G A s H locs (WM G a S) → lv_has ls 4 [(0, .ref (a 0)), (1, .int x1), (2, .int x2), (3, .int x3)] → W p l e (RM 13 299) s m args below meth c H locs 0 0 Q (F0 m 26 ls [.int y0, .ref (a 0)]) := by
    intro S x1 x2 x3 y0 H locs ls hF hs hl
    unfold J_X5_would_26 at hF
    refine lv_iconst (v := (1 : Int32)) hx hb dX5_would_26 (by decide) ?_
    obtain ⟨q3, hq3, hF⟩ := bd hF
    refine sx_V (As := [.int y0, .int (1 : Int32)]) (rest := []) (st1 := [.int q3.1]) (c_X5_refuse G l a S y0 (1 : Int32) q3 hq3) v_X5_215 ⟨(Nat.le_of_ble_eq_true rfl), (Nat.le_of_ble_eq_true rfl)⟩ hx hb hml hown hts hE hA hs ⟨Nat.le_refl 0, Nat.le_refl 0⟩ 0 rfl rfl rfl rfl rfl hl.1 (Nat.le_of_ble_eq_true rfl) dX5_would_27 (pmW _) (ws' := WM G a q3.2) (pmW _) (fun H locs hs => ?_)
    refine lv_if_ne (tgt := 51) hx hb dX5_would_30 (by decide) (fun hc => ?_) (fun hc => ?_)
    · have hF := (if_neg hc).symm.trans hF
      exact hJ51_n q3.2 _ _ _ hF hs (lv_sub hl [] rfl)
    · have hF := (if_pos hc).symm.trans hF
      refine lv_aload_n hx hb dX5_would_33 rfl (lv_at hl 0 rfl) ?_
      refine lv_iload_n hx hb dX5_would_34 rfl (lv_at hl 1 rfl) ?_
      refine lv_iload_n hx hb dX5_would_35 rfl (lv_at hl 2 rfl) ?_
      refine lv_icmp_ne (tgt := 43) hx hb dX5_would_36 (by decide) (fun hc => ?_) (fun hc => ?_)
      · have hF := (if_neg hc).symm.trans hF
        refine lv_iconst (v := (0 : Int32)) hx hb dX5_would_43 (by decide) ?_
        exact hJ44_n q3.2 x1 x2 x3 (0 : Int32) _ _ _ hF hs (lv_sub hl [0, 1, 2, 3] rfl)
      · have hF := (if_pos hc).symm.trans hF
        refine lv_iconst (v := (1 : Int32)) hx hb dX5_would_39 (by decide) ?_
        refine lv_goto (tgt := 44) hx hb dX5_would_40 (by decide) ?_
        exact hJ44_n q3.2 x1 x2 x3 (1 : Int32) _ _ _ hF hs (lv_sub hl [0, 1, 2, 3] rfl)
  have hJ21_n : ∀ (S : MS) (x1 : Int32) (x2 : Int32) (x3 : Int32) (H : Heap) (locs : List Loc) (ls : Array Slot), J_X5_would_21 S x1 x2 x3 = some r → SI G A s H locs (WM G a S) → lv_has ls 4 [(0, .ref (a 0)), (1, .int x1), (2, .int x2), (3, .int x3)] → W p l e (RM 13 299) s m args below meth c H locs 0 0 Q (F0 m 21 ls [.ref (a 0)]) := by
    intro S x1 x2 x3 H locs ls hF hs hl
    unfold J_X5_would_21 at hF
    refine lv_iconst (v := (1 : Int32)) hx hb dX5_would_21 (by decide) ?_
    refine lv_goto (tgt := 26) hx hb dX5_would_22 (by decide) ?_
    exact hJ26_n S x1 x2 x3 (1 : Int32) _ _ _ hF hs (lv_sub hl [0, 1, 2, 3] rfl)
  unfold F_X5_would at hF
  refine lv_aload_n hx hb dX5_would_0 rfl (lv_at hl 0 rfl) ?_
  obtain ⟨q1, hq1, hF⟩ := bd hF
  refine sx_V (As := []) (rest := []) (st1 := []) (c_X5_begins G l a S q1 hq1) v_X5_212 ⟨(Nat.le_of_ble_eq_true rfl), (Nat.le_of_ble_eq_true rfl)⟩ hx hb hml hown hts hE hA hs ⟨Nat.le_refl 0, Nat.le_refl 0⟩ 0 rfl rfl rfl rfl rfl hl.1 (Nat.le_of_ble_eq_true rfl) dX5_would_1 (pmW _) (ws' := WM G a q1) (pmW _) (fun H locs hs => ?_)
  refine lv_aload_n hx hb dX5_would_4 rfl (lv_at hl 0 rfl) ?_
  refine lv_aload_n hx hb dX5_would_5 rfl (lv_at hl 0 rfl) ?_
  refine lv_iload_n hx hb dX5_would_6 rfl (lv_at hl 1 rfl) ?_
  obtain ⟨q2, hq2, hF⟩ := bd hF
  refine sx_V (As := [.int x1]) (rest := [.ref (a 0)]) (st1 := [.int q2, .ref (a 0)]) (c_X5_isShip G l a q1 x1 q2 hq2) v_X5_234 ⟨(Nat.le_of_ble_eq_true rfl), (Nat.le_of_ble_eq_true rfl)⟩ hx hb hml hown hts hE hA hs ⟨Nat.le_refl 0, Nat.le_refl 0⟩ 0 rfl rfl rfl rfl rfl hl.1 (Nat.le_of_ble_eq_true rfl) dX5_would_7 (pmW _) (ws' := WM G a q1) (pmW _) (fun H locs hs => ?_)
  refine lv_if_eq (tgt := 21) hx hb dX5_would_10 (by decide) (fun hc => ?_) (fun hc => ?_)
  · have hF := (if_pos hc).symm.trans hF
    exact hJ21_n q1 x1 x2 x3 _ _ _ hF hs (lv_sub hl [0, 1, 2, 3] rfl)
  · have hF := (if_neg hc).symm.trans hF
    refine lv_aload_n hx hb dX5_would_13 rfl (lv_at hl 0 rfl) ?_
    refine lv_iload_n hx hb dX5_would_14 rfl (lv_at hl 2 rfl) ?_
    obtain ⟨q10, hq10, hF⟩ := bd hF
    refine sx_V (As := [.int x2]) (rest := [.ref (a 0)]) (st1 := [.int q10, .ref (a 0)]) (c_X5_isShip G l a q1 x2 q10 hq10) v_X5_234 ⟨(Nat.le_of_ble_eq_true rfl), (Nat.le_of_ble_eq_true rfl)⟩ hx hb hml hown hts hE hA hs ⟨Nat.le_refl 0, Nat.le_refl 0⟩ 0 rfl rfl rfl rfl rfl hl.1 (Nat.le_of_ble_eq_true rfl) dX5_would_15 (pmW _) (ws' := WM G a q1) (pmW _) (fun H locs hs => ?_)
    refine lv_if_ne (tgt := 25) hx hb dX5_would_18 (by decide) (fun hc => ?_) (fun hc => ?_)
    · have hF := (if_neg hc).symm.trans hF
      refine lv_iconst (v := (0 : Int32)) hx hb dX5_would_25 (by decide) ?_
      exact hJ26_n q1 x1 x2 x3 (0 : Int32) _ _ _ hF hs (lv_sub hl [0, 1, 2, 3] rfl)
    · have hF := (if_pos hc).symm.trans hF
      exact hJ21_n q1 x1 x2 x3 _ _ _ hF hs (lv_sub hl [0, 1, 2, 3] rfl)
set_option maxHeartbeats 4000000 in
set_option maxRecDepth 100000 in
theorem c_X5_worse (G : GT) (l : Launch) (a : Nat → Nat) (S : MS) (x1 : Int32) (x2 : Int32) (x3 : Int32) (r : Int32 × MS) (hF : F_X5_worse S x1 x2 x3 = some r) : MT G l yX5_worse cX5_worse 6 (some .int) 13 299 [.ref (a 0), .int x1, .int x2, .int x3] (WM G a S) (some (.int r.1)) (WM G a r.2) := by
  refine MT.of (by decide) (Nat.le_of_ble_eq_true rfl) ?_
  intro p e s m args below meth c A ls hx hb hr hml hown hts hlk hE hA hs hl Q hQ
  have hl : lv_has ls 6 [(0, .ref (a 0)), (1, .int x1), (2, .int x2), (3, .int x3)] := hl
  have hL104 : ∀ (x1 : Int32) (x2 : Int32) (x3 : Int32) (x4 : Int32) (k : MS → Option (Int32 × MS)) (hk : ∀ (S : MS) (H : Heap) (locs : List Loc) (ls : Array Slot), k S = some r → SI G A s H locs (WM G a S) → lv_has ls 6 [] → W p l e (RM 13 299) s m args below meth c H locs 0 0 Q (F0 m 134 ls [])) (fu : Nat) (S : MS) (x5 : Int32) (H : Heap) (locs : List Loc) (ls : Array Slot), lo2 (B_X5_worse_104 x1 x2 x3 x4 k) fu S x5 = some r → SI G A s H locs (WM G a S) → lv_has ls 6 [(0, .ref (a 0)), (1, .int x1), (2, .int x2), (3, .int x3), (4, .int x4), (5, .int x5)] → W p l e (RM 13 299) s m args below meth c H locs 0 0 Q (F0 m 104 ls []) := by
    intro x1 x2 x3 x4 k hk fu
    induction fu with
    | zero =>
      intro S x5 H locs ls hF hs hl
      exact nomatch (show (none : Option (Int32 × MS)) = some r from hF)
    | succ fu hrec =>
      intro S x5 H locs ls hF hs hl
      have hF : (B_X5_worse_104 x1 x2 x3 x4 k) (lo2 (B_X5_worse_104 x1 x2 x3 x4 k) fu) S x5 = some r := hF
      unfold B_X5_worse_104 at hF
      refine lv_iload hx hb dX5_worse_104 (lv_at hl 5 rfl) ?_
      refine lv_iload hx hb dX5_worse_106 (lv_at hl 4 rfl) ?_
      refine lv_icmp_gt (tgt := 134) hx hb dX5_worse_108 (by decide) (fun hc => ?_) (fun hc => ?_)
      · have hF := (if_pos hc).symm.trans hF
        exact hk S _ _ _ hF hs (lv_sub hl [] rfl)
      · have hF := (if_neg hc).symm.trans hF
        refine lv_aload_n hx hb dX5_worse_111 rfl (lv_at hl 0 rfl) ?_
        refine lv_iload_n hx hb dX5_worse_112 rfl (lv_at hl 1 rfl) ?_
        refine lv_iload_n hx hb dX5_worse_113 rfl (lv_at hl 2 rfl) ?_
        refine lv_iload hx hb dX5_worse_114 (lv_at hl 5 rfl) ?_
        obtain ⟨q10, hq10, hF⟩ := bd hF
        refine sx_V (As := [.int x1, .int x2, .int x5]) (rest := []) (st1 := [.long q10.1]) (c_X5_netShifted G l a S x1 x2 x5 q10 hq10) v_X5_367 ⟨(Nat.le_of_ble_eq_true rfl), (Nat.le_of_ble_eq_true rfl)⟩ hx hb hml hown hts hE hA hs ⟨Nat.le_refl 0, Nat.le_refl 0⟩ 0 rfl rfl rfl rfl rfl hl.1 (Nat.le_of_ble_eq_true rfl) dX5_worse_116 (pmW _) (ws' := WM G a q10.2) (pmW _) (fun H locs hs => ?_)
        refine lv_iload_n hx hb dX5_worse_119 rfl (lv_at hl 3 rfl) ?_
        refine lv_i2l hx hb dX5_worse_120 rfl ?_
        refine W.lcmp hx hb dX5_worse_121 ?_
        refine lv_if_ge (tgt := 128) hx hb dX5_worse_122 (by decide) (fun hc => ?_) (fun hc => ?_)
        · have hF := (if_pos hc).symm.trans hF
          obtain ⟨v11, ev11, hF⟩ := nm_some hF
          refine lv_iinc (v := v11) (lv' := [(5, .int v11), (0, .ref (a 0)), (1, .int x1), (2, .int x2), (3, .int x3), (4, .int x4)]) hx hb dX5_worse_128 hl (k := 5) rfl (by rw [ev11]; rfl) (by decide) rfl (fun ls hl => ?_)
          refine lv_goto (tgt := 104) hx hb dX5_worse_131 (by decide) ?_
          exact hrec q10.2 v11 _ _ _ hF hs (lv_sub hl [1, 2, 3, 4, 5, 0] rfl)
        · have hF := (if_neg hc).symm.trans hF
          refine lv_iload hx hb dX5_worse_125 (lv_at hl 5 rfl) ?_
          exact sx_iret hx hb hr hlk hQ (congrArg Prod.fst (Option.some.inj hF)) (congrArg (fun z => WM G a z) (congrArg Prod.snd (Option.some.inj hF))) hs dX5_worse_127
  have hJ71_n : ∀ (S : MS) (x1 : Int32) (x2 : Int32) (x3 : Int32) (y0 : Int32) (H : Heap) (locs : List Loc) (ls : Array Slot), J_X5_worse_71 S x1 x2 x3 y0 = some r → SI G A s H locs (WM G a S) → lv_has ls 6 [(0, .ref (a 0)), (1, .int x1), (2, .int x2), (3, .int x3)] → W p l e (RM 13 299) s m args below meth c H locs 0 0 Q (F0 m 71 ls [.int y0, .ref (a 0)]) := by
    intro S x1 x2 x3 y0 H locs ls hF hs hl
    unfold J_X5_worse_71 at hF
    refine lv_iconst (v := (5 : Int32)) hx hb dX5_worse_71 (by decide) ?_
    obtain ⟨q6, hq6, hF⟩ := bd hF
    refine sx_V (As := [.int y0, .int (5 : Int32)]) (rest := []) (st1 := [.int q6.1]) (c_X5_refuse G l a S y0 (5 : Int32) q6 hq6) v_X5_215 ⟨(Nat.le_of_ble_eq_true rfl), (Nat.le_of_ble_eq_true rfl)⟩ hx hb hml hown hts hE hA hs ⟨Nat.le_refl 0, Nat.le_refl 0⟩ 0 rfl rfl rfl rfl rfl hl.1 (Nat.le_of_ble_eq_true rfl) dX5_worse_72 (pmW _) (ws' := WM G a q6.2) (pmW _) (fun H locs hs => ?_)
    refine lv_if_eq (tgt := 80) hx hb dX5_worse_75 (by decide) (fun hc => ?_) (fun hc => ?_)
    · have hF := (if_pos hc).symm.trans hF
      refine lv_aload_n hx hb dX5_worse_80 rfl (lv_at hl 0 rfl) ?_
      refine fg_X5_13 hx hb hown hts hE hs 0 rfl (v := .ref (a 1)) rfl dX5_worse_81 ?_
      refine lv_iload_n hx hb dX5_worse_84 rfl (lv_at hl 1 rfl) ?_
      refine lv_iconst (v := (1 : Int32)) hx hb dX5_worse_85 (by decide) ?_
      obtain ⟨q7, hq7, hF⟩ := bd hF
      refine sx_S (As := [.ref (a 1), .int x1, .int (1 : Int32)]) (rest := []) (st1 := [.int q7]) (c_X5_ofShip G l (a 1) (m_s q6.2) x1 (1 : Int32) q7 hq7) v_X5_243 ⟨(Nat.le_of_ble_eq_true rfl), (Nat.le_of_ble_eq_true rfl)⟩ hx hb hml hown hts hE hA hs ⟨Nat.le_refl 0, Nat.le_refl 0⟩ rfl rfl rfl hl.1 (Nat.le_of_ble_eq_true rfl) dX5_worse_86 (pM_s G a q6.2 (m_s q6.2)) (ws' := WM G a q6.2) (pM_s G a q6.2 (m_s q6.2)) (fun H locs hs => ?_)
      refine lv_aload_n hx hb dX5_worse_89 rfl (lv_at hl 0 rfl) ?_
      refine fg_X5_13 hx hb hown hts hE hs 0 rfl (v := .ref (a 1)) rfl dX5_worse_90 ?_
      refine lv_iload_n hx hb dX5_worse_93 rfl (lv_at hl 2 rfl) ?_
      refine lv_iconst (v := (1 : Int32)) hx hb dX5_worse_94 (by decide) ?_
      obtain ⟨q8, hq8, hF⟩ := bd hF
      refine sx_S (As := [.ref (a 1), .int x2, .int (1 : Int32)]) (rest := [.int q7]) (st1 := [.int q8, .int q7]) (c_X5_ofShip G l (a 1) (m_s q6.2) x2 (1 : Int32) q8 hq8) v_X5_243 ⟨(Nat.le_of_ble_eq_true rfl), (Nat.le_of_ble_eq_true rfl)⟩ hx hb hml hown hts hE hA hs ⟨Nat.le_refl 0, Nat.le_refl 0⟩ rfl rfl rfl hl.1 (Nat.le_of_ble_eq_true rfl) dX5_worse_95 (pM_s G a q6.2 (m_s q6.2)) (ws' := WM G a q6.2) (pM_s G a q6.2 (m_s q6.2)) (fun H locs hs => ?_)
      refine lv_iadd hx hb dX5_worse_98 ?_
      obtain ⟨v9, ev9, hF⟩ := nm_some hF
      refine sx_topi ev9 ?_
      refine lv_istore (lv' := [(4, .int v9), (0, .ref (a 0)), (1, .int x1), (2, .int x2), (3, .int x3)]) hx hb dX5_worse_99 hl (by decide) rfl (fun ls hl => ?_)
      refine lv_iconst (v := (0 : Int32)) hx hb dX5_worse_101 (by decide) ?_
      refine lv_istore (lv' := [(5, .int (0 : Int32)), (4, .int v9), (0, .ref (a 0)), (1, .int x1), (2, .int x2), (3, .int x3)]) hx hb dX5_worse_102 hl (by decide) rfl (fun ls hl => ?_)
      refine hL104 x1 x2 x3 v9 _ (fun S12 H locs ls hF hs hl => ?_) FU q6.2 (0 : Int32) _ _ _ hF hs (lv_sub hl [2, 3, 4, 5, 1, 0] rfl)
      refine lv_bipush (v := (-2 : Int32)) hx hb dX5_worse_134 (by decide) ?_
      exact sx_iret hx hb hr hlk hQ (congrArg Prod.fst (Option.some.inj hF)) (congrArg (fun z => WM G a z) (congrArg Prod.snd (Option.some.inj hF))) hs dX5_worse_136
    · have hF := (if_neg hc).symm.trans hF
      refine lv_iconst (v := (-1 : Int32)) hx hb dX5_worse_78 (by decide) ?_
      exact sx_iret hx hb hr hlk hQ (congrArg Prod.fst (Option.some.inj hF)) (congrArg (fun z => WM G a z) (congrArg Prod.snd (Option.some.inj hF))) hs dX5_worse_79
  have hJ53_n : ∀ (S : MS) (x1 : Int32) (x2 : Int32) (x3 : Int32) (y0 : Int32) (H : Heap) (locs : List Loc) (ls : Array Slot), J_X5_worse_53 S x1 x2 x3 y0 = some r → SI G A s H locs (WM G a S) → lv_has ls 6 [(0, .ref (a 0)), (1, .int x1), (2, .int x2), (3, .int x3)] → W p l e (RM 13 299) s m args below meth c H locs 0 0 Q (F0 m 53 ls [.int y0, .ref (a 0)]) := by
    intro S x1 x2 x3 y0 H locs ls hF hs hl
    unfold J_X5_worse_53 at hF
    refine lv_iconst (v := (2 : Int32)) hx hb dX5_worse_53 (by decide) ?_
    obtain ⟨q5, hq5, hF⟩ := bd hF
    refine sx_V (As := [.int y0, .int (2 : Int32)]) (rest := []) (st1 := [.int q5.1]) (c_X5_refuse G l a S y0 (2 : Int32) q5 hq5) v_X5_215 ⟨(Nat.le_of_ble_eq_true rfl), (Nat.le_of_ble_eq_true rfl)⟩ hx hb hml hown hts hE hA hs ⟨Nat.le_refl 0, Nat.le_refl 0⟩ 0 rfl rfl rfl rfl rfl hl.1 (Nat.le_of_ble_eq_true rfl) dX5_worse_54 (pmW _) (ws' := WM G a q5.2) (pmW _) (fun H locs hs => ?_)
    refine lv_if_ne (tgt := 78) hx hb dX5_worse_57 (by decide) (fun hc => ?_) (fun hc => ?_)
    · have hF := (if_neg hc).symm.trans hF
      refine lv_iconst (v := (-1 : Int32)) hx hb dX5_worse_78 (by decide) ?_
      exact sx_iret hx hb hr hlk hQ (congrArg Prod.fst (Option.some.inj hF)) (congrArg (fun z => WM G a z) (congrArg Prod.snd (Option.some.inj hF))) hs dX5_worse_79
    · have hF := (if_pos hc).symm.trans hF
      refine lv_aload_n hx hb dX5_worse_60 rfl (lv_at hl 0 rfl) ?_
      refine lv_iload_n hx hb dX5_worse_61 rfl (lv_at hl 1 rfl) ?_
      refine lv_iload_n hx hb dX5_worse_62 rfl (lv_at hl 2 rfl) ?_
      refine lv_icmp_ne (tgt := 70) hx hb dX5_worse_63 (by decide) (fun hc => ?_) (fun hc => ?_)
      · have hF := (if_neg hc).symm.trans hF
        refine lv_iconst (v := (0 : Int32)) hx hb dX5_worse_70 (by decide) ?_
        exact hJ71_n q5.2 x1 x2 x3 (0 : Int32) _ _ _ hF hs (lv_sub hl [0, 1, 2, 3] rfl)
      · have hF := (if_pos hc).symm.trans hF
        refine lv_iconst (v := (1 : Int32)) hx hb dX5_worse_66 (by decide) ?_
        refine lv_goto (tgt := 71) hx hb dX5_worse_67 (by decide) ?_
        exact hJ71_n q5.2 x1 x2 x3 (1 : Int32) _ _ _ hF hs (lv_sub hl [0, 1, 2, 3] rfl)
  have hJ26_n : ∀ (S : MS) (x1 : Int32) (x2 : Int32) (x3 : Int32) (y0 : Int32) (H : Heap) (locs : List Loc) (ls : Array Slot), J_X5_worse_26 S x1 x2 x3 y0 = some r → SI G A s H locs (WM G a S) → lv_has ls 6 [(0, .ref (a 0)), (1, .int x1), (2, .int x2), (3, .int x3)] → W p l e (RM 13 299) s m args below meth c H locs 0 0 Q (F0 m 26 ls [.int y0, .ref (a 0)]) := by
    intro S x1 x2 x3 y0 H locs ls hF hs hl
    unfold J_X5_worse_26 at hF
    refine lv_iconst (v := (1 : Int32)) hx hb dX5_worse_26 (by decide) ?_
    obtain ⟨q3, hq3, hF⟩ := bd hF
    refine sx_V (As := [.int y0, .int (1 : Int32)]) (rest := []) (st1 := [.int q3.1]) (c_X5_refuse G l a S y0 (1 : Int32) q3 hq3) v_X5_215 ⟨(Nat.le_of_ble_eq_true rfl), (Nat.le_of_ble_eq_true rfl)⟩ hx hb hml hown hts hE hA hs ⟨Nat.le_refl 0, Nat.le_refl 0⟩ 0 rfl rfl rfl rfl rfl hl.1 (Nat.le_of_ble_eq_true rfl) dX5_worse_27 (pmW _) (ws' := WM G a q3.2) (pmW _) (fun H locs hs => ?_)
    refine lv_if_ne (tgt := 78) hx hb dX5_worse_30 (by decide) (fun hc => ?_) (fun hc => ?_)
    · have hF := (if_neg hc).symm.trans hF
      refine lv_iconst (v := (-1 : Int32)) hx hb dX5_worse_78 (by decide) ?_
      exact sx_iret hx hb hr hlk hQ (congrArg Prod.fst (Option.some.inj hF)) (congrArg (fun z => WM G a z) (congrArg Prod.snd (Option.some.inj hF))) hs dX5_worse_79
    · have hF := (if_pos hc).symm.trans hF
      refine lv_aload_n hx hb dX5_worse_33 rfl (lv_at hl 0 rfl) ?_
      refine lv_iload_n hx hb dX5_worse_34 rfl (lv_at hl 3 rfl) ?_
      refine lv_i2l hx hb dX5_worse_35 rfl ?_
      refine lv_ldc2 (v := (-1000000000 : Int64)) hx hb hown (hts _ g1424) dX5_worse_36 ?_
      refine lv_ldc2 (v := (1000000000 : Int64)) hx hb hown (hts _ g1425) dX5_worse_39 ?_
      obtain ⟨q4, hq4, hF⟩ := bd hF
      refine sx_S (As := [.long x3.toInt64, .long (-1000000000 : Int64), .long (1000000000 : Int64)]) (rest := [.ref (a 0)]) (st1 := [.int q4, .ref (a 0)]) (c_X5_in G l  x3.toInt64 (-1000000000 : Int64) (1000000000 : Int64) q4 hq4) v_X5_161 ⟨(Nat.le_of_ble_eq_true rfl), (Nat.le_of_ble_eq_true rfl)⟩ hx hb hml hown hts hE hA hs ⟨Nat.le_refl 0, Nat.le_refl 0⟩ rfl rfl rfl hl.1 (Nat.le_of_ble_eq_true rfl) dX5_worse_42 (List.Perm.refl _) (ws' := WM G a q3.2) (List.Perm.refl _) (fun H locs hs => ?_)
      refine lv_if_ne (tgt := 52) hx hb dX5_worse_45 (by decide) (fun hc => ?_) (fun hc => ?_)
      · have hF := (if_neg hc).symm.trans hF
        refine lv_iconst (v := (0 : Int32)) hx hb dX5_worse_52 (by decide) ?_
        exact hJ53_n q3.2 x1 x2 x3 (0 : Int32) _ _ _ hF hs (lv_sub hl [0, 1, 2, 3] rfl)
      · have hF := (if_pos hc).symm.trans hF
        refine lv_iconst (v := (1 : Int32)) hx hb dX5_worse_48 (by decide) ?_
        refine lv_goto (tgt := 53) hx hb dX5_worse_49 (by decide) ?_
        exact hJ53_n q3.2 x1 x2 x3 (1 : Int32) _ _ _ hF hs (lv_sub hl [0, 1, 2, 3] rfl)
  have hJ21_n : ∀ (S : MS) (x1 : Int32) (x2 : Int32) (x3 : Int32) (H : Heap) (locs : List Loc) (ls : Array Slot), J_X5_worse_21 S x1 x2 x3 = some r → SI G A s H locs (WM G a S) → lv_has ls 6 [(0, .ref (a 0)), (1, .int x1), (2, .int x2), (3, .int x3)] → W p l e (RM 13 299) s m args below meth c H locs 0 0 Q (F0 m 21 ls [.ref (a 0)]) := by
    intro S x1 x2 x3 H locs ls hF hs hl
    unfold J_X5_worse_21 at hF
    refine lv_iconst (v := (1 : Int32)) hx hb dX5_worse_21 (by decide) ?_
    refine lv_goto (tgt := 26) hx hb dX5_worse_22 (by decide) ?_
    exact hJ26_n S x1 x2 x3 (1 : Int32) _ _ _ hF hs (lv_sub hl [0, 1, 2, 3] rfl)
  unfold F_X5_worse at hF
  refine lv_aload_n hx hb dX5_worse_0 rfl (lv_at hl 0 rfl) ?_
  obtain ⟨q1, hq1, hF⟩ := bd hF
  refine sx_V (As := []) (rest := []) (st1 := []) (c_X5_begins G l a S q1 hq1) v_X5_212 ⟨(Nat.le_of_ble_eq_true rfl), (Nat.le_of_ble_eq_true rfl)⟩ hx hb hml hown hts hE hA hs ⟨Nat.le_refl 0, Nat.le_refl 0⟩ 0 rfl rfl rfl rfl rfl hl.1 (Nat.le_of_ble_eq_true rfl) dX5_worse_1 (pmW _) (ws' := WM G a q1) (pmW _) (fun H locs hs => ?_)
  refine lv_aload_n hx hb dX5_worse_4 rfl (lv_at hl 0 rfl) ?_
  refine lv_aload_n hx hb dX5_worse_5 rfl (lv_at hl 0 rfl) ?_
  refine lv_iload_n hx hb dX5_worse_6 rfl (lv_at hl 1 rfl) ?_
  obtain ⟨q2, hq2, hF⟩ := bd hF
  refine sx_V (As := [.int x1]) (rest := [.ref (a 0)]) (st1 := [.int q2, .ref (a 0)]) (c_X5_isShip G l a q1 x1 q2 hq2) v_X5_234 ⟨(Nat.le_of_ble_eq_true rfl), (Nat.le_of_ble_eq_true rfl)⟩ hx hb hml hown hts hE hA hs ⟨Nat.le_refl 0, Nat.le_refl 0⟩ 0 rfl rfl rfl rfl rfl hl.1 (Nat.le_of_ble_eq_true rfl) dX5_worse_7 (pmW _) (ws' := WM G a q1) (pmW _) (fun H locs hs => ?_)
  refine lv_if_eq (tgt := 21) hx hb dX5_worse_10 (by decide) (fun hc => ?_) (fun hc => ?_)
  · have hF := (if_pos hc).symm.trans hF
    exact hJ21_n q1 x1 x2 x3 _ _ _ hF hs (lv_sub hl [0, 1, 2, 3] rfl)
  · have hF := (if_neg hc).symm.trans hF
    refine lv_aload_n hx hb dX5_worse_13 rfl (lv_at hl 0 rfl) ?_
    refine lv_iload_n hx hb dX5_worse_14 rfl (lv_at hl 2 rfl) ?_
    obtain ⟨q13, hq13, hF⟩ := bd hF
    refine sx_V (As := [.int x2]) (rest := [.ref (a 0)]) (st1 := [.int q13, .ref (a 0)]) (c_X5_isShip G l a q1 x2 q13 hq13) v_X5_234 ⟨(Nat.le_of_ble_eq_true rfl), (Nat.le_of_ble_eq_true rfl)⟩ hx hb hml hown hts hE hA hs ⟨Nat.le_refl 0, Nat.le_refl 0⟩ 0 rfl rfl rfl rfl rfl hl.1 (Nat.le_of_ble_eq_true rfl) dX5_worse_15 (pmW _) (ws' := WM G a q1) (pmW _) (fun H locs hs => ?_)
    refine lv_if_ne (tgt := 25) hx hb dX5_worse_18 (by decide) (fun hc => ?_) (fun hc => ?_)
    · have hF := (if_neg hc).symm.trans hF
      refine lv_iconst (v := (0 : Int32)) hx hb dX5_worse_25 (by decide) ?_
      exact hJ26_n q1 x1 x2 x3 (0 : Int32) _ _ _ hF hs (lv_sub hl [0, 1, 2, 3] rfl)
    · have hF := (if_pos hc).symm.trans hF
      exact hJ21_n q1 x1 x2 x3 _ _ _ hF hs (lv_sub hl [0, 1, 2, 3] rfl)
set_option maxHeartbeats 4000000 in
set_option maxRecDepth 100000 in
theorem c_X5_draw (G : GT) (l : Launch) (a : Nat → Nat) (S : MS) (x1 : Int32) (r : Int32 × MS) (hF : F_X5_draw S x1 = some r) : MT G l yX5_draw cX5_draw 2 (some .int) 0 0 [.ref (a 0), .int x1] (WM G a S) (some (.int r.1)) (WM G a r.2) := by
  refine MT.of (by decide) (Nat.le_of_ble_eq_true rfl) ?_
  intro p e s m args below meth c A ls hx hb hr hml hown hts hlk hE hA hs hl Q hQ
  have hl : lv_has ls 2 [(0, .ref (a 0)), (1, .int x1)] := hl
  unfold F_X5_draw at hF
  refine lv_aload_n hx hb dX5_draw_0 rfl (lv_at hl 0 rfl) ?_
  refine lv_aload_n hx hb dX5_draw_1 rfl (lv_at hl 0 rfl) ?_
  refine fg_X5_375 hx hb hown hts hE hs 0 rfl (v := .long (m_drawn S)) rfl dX5_draw_2 ?_
  refine lv_ldc2 (v := (48271 : Int64)) hx hb hown (hts _ g1440) dX5_draw_5 ?_
  refine lv_lmul hx hb dX5_draw_8 ?_
  refine lv_ldc2 (v := (2147483647 : Int64)) hx hb hown (hts _ g1441) dX5_draw_9 ?_
  obtain ⟨v1, hv1, hF⟩ := bd hF
  refine sx_lrem hx hb hv1 dX5_draw_12 ?_
  obtain ⟨S2, eS2, hF⟩ := nm_some hF
  refine fp_X5_375 hx hb hown hts hE hs 0 rfl (ws' := WM G a S2) (Nat.le_of_ble_eq_true rfl) (by subst eS2; rfl) dX5_draw_13 (fun H locs hs => ?_)
  refine lv_aload_n hx hb dX5_draw_16 rfl (lv_at hl 0 rfl) ?_
  refine fg_X5_375 hx hb hown hts hE hs 0 rfl (v := .long (m_drawn S2)) rfl dX5_draw_17 ?_
  refine lv_iload_n hx hb dX5_draw_20 rfl (lv_at hl 1 rfl) ?_
  refine lv_i2l hx hb dX5_draw_21 rfl ?_
  obtain ⟨v3, hv3, hF⟩ := bd hF
  refine sx_lrem hx hb hv3 dX5_draw_22 ?_
  refine lv_l2i hx hb dX5_draw_23 rfl ?_
  exact sx_iret hx hb hr hlk hQ (congrArg Prod.fst (Option.some.inj hF)) (congrArg (fun z => WM G a z) (congrArg Prod.snd (Option.some.inj hF))) hs dX5_draw_24
set_option maxHeartbeats 4000000 in
set_option maxRecDepth 100000 in
theorem c_X5_netJudged (G : GT) (l : Launch) (a : Nat → Nat) (S : MS) (x1 : Int32) (r : Int64 × MS) (hF : F_X5_netJudged S x1 = some r) : MT G l yX5_netJudged cX5_netJudged 3 (some .long) 12 275 [.ref (a 0), .int x1] (WM G a S) (some (.long r.1)) (WM G a r.2) := by
  refine MT.of (by decide) (Nat.le_of_ble_eq_true rfl) ?_
  intro p e s m args below meth c A ls hx hb hr hml hown hts hlk hE hA hs hl Q hQ
  have hl : lv_has ls 3 [(0, .ref (a 0)), (1, .int x1)] := hl
  have hL6 : ∀ (x1 : Int32) (k : MS → Option (Int64 × MS)) (hk : ∀ (S : MS) (H : Heap) (locs : List Loc) (ls : Array Slot), k S = some r → SI G A s H locs (WM G a S) → lv_has ls 3 [(0, .ref (a 0)), (1, .int x1)] → W p l e (RM 12 275) s m args below meth c H locs 0 0 Q (F0 m 37 ls [])) (fu : Nat) (S : MS) (x2 : Int32) (H : Heap) (locs : List Loc) (ls : Array Slot), lo2 (B_X5_netJudged_6 x1 k) fu S x2 = some r → SI G A s H locs (WM G a S) → lv_has ls 3 [(0, .ref (a 0)), (1, .int x1), (2, .int x2)] → W p l e (RM 12 275) s m args below meth c H locs 0 0 Q (F0 m 6 ls []) := by
    intro x1 k hk fu
    induction fu with
    | zero =>
      intro S x2 H locs ls hF hs hl
      exact nomatch (show (none : Option (Int64 × MS)) = some r from hF)
    | succ fu hrec =>
      intro S x2 H locs ls hF hs hl
      have hF : (B_X5_netJudged_6 x1 k) (lo2 (B_X5_netJudged_6 x1 k) fu) S x2 = some r := hF
      unfold B_X5_netJudged_6 at hF
      refine lv_iload_n hx hb dX5_netJudged_6 rfl (lv_at hl 2 rfl) ?_
      refine lv_aload_n hx hb dX5_netJudged_7 rfl (lv_at hl 0 rfl) ?_
      refine fg_X5_17 hx hb hown hts hE hs 0 rfl (v := .ref (a 2)) rfl dX5_netJudged_8 ?_
      refine lv_iconst (v := (0 : Int32)) hx hb dX5_netJudged_11 (by decide) ?_
      obtain ⟨v2, hv2, hF⟩ := bd hF
      refine sx_iald hx hb hE hs 2 (f := m_w S) rfl hv2 dX5_netJudged_12 ?_
      refine lv_icmp_ge (tgt := 37) hx hb dX5_netJudged_13 (by decide) (fun hc => ?_) (fun hc => ?_)
      · have hF := (if_pos hc).symm.trans hF
        exact hk S _ _ _ hF hs (lv_sub hl [0, 1] rfl)
      · have hF := (if_neg hc).symm.trans hF
        refine lv_aload_n hx hb dX5_netJudged_16 rfl (lv_at hl 0 rfl) ?_
        refine fg_X5_17 hx hb hown hts hE hs 0 rfl (v := .ref (a 2)) rfl dX5_netJudged_17 ?_
        refine lv_bipush (v := (10 : Int32)) hx hb dX5_netJudged_20 (by decide) ?_
        refine lv_bipush (v := (6 : Int32)) hx hb dX5_netJudged_22 (by decide) ?_
        refine lv_iload_n hx hb dX5_netJudged_24 rfl (lv_at hl 2 rfl) ?_
        refine lv_imul hx hb dX5_netJudged_25 ?_
        refine lv_iadd hx hb dX5_netJudged_26 ?_
        refine lv_iconst (v := (1 : Int32)) hx hb dX5_netJudged_27 (by decide) ?_
        refine lv_iadd hx hb dX5_netJudged_28 ?_
        refine lv_iconst (v := (0 : Int32)) hx hb dX5_netJudged_29 (by decide) ?_
        obtain ⟨f3, hf3, hF⟩ := bd hF
        obtain ⟨S4, eS4, hF⟩ := nm_some hF
        refine sx_iast hx hb hE hs 2 (f := m_w S) rfl hf3 (ws' := WM G a S4) (by subst eS4; rfl) dX5_netJudged_30 (fun H locs hs => ?_)
        obtain ⟨v5, ev5, hF⟩ := nm_some hF
        refine lv_iinc (v := v5) (lv' := [(2, .int v5), (0, .ref (a 0)), (1, .int x1)]) hx hb dX5_netJudged_31 hl (k := 2) rfl (by rw [ev5]; rfl) (by decide) rfl (fun ls hl => ?_)
        refine lv_goto (tgt := 6) hx hb dX5_netJudged_34 (by decide) ?_
        exact hrec S4 v5 _ _ _ hF hs (lv_sub hl [1, 2, 0] rfl)
  have hL39 : ∀ (x1 : Int32) (k : MS → Option (Int64 × MS)) (hk : ∀ (S : MS) (H : Heap) (locs : List Loc) (ls : Array Slot), k S = some r → SI G A s H locs (WM G a S) → lv_has ls 3 [(0, .ref (a 0)), (1, .int x1)] → W p l e (RM 12 275) s m args below meth c H locs 0 0 Q (F0 m 78 ls [])) (fu : Nat) (S : MS) (x2 : Int32) (H : Heap) (locs : List Loc) (ls : Array Slot), lo2 (B_X5_netJudged_39 x1 k) fu S x2 = some r → SI G A s H locs (WM G a S) → lv_has ls 3 [(0, .ref (a 0)), (1, .int x1), (2, .int x2)] → W p l e (RM 12 275) s m args below meth c H locs 0 0 Q (F0 m 39 ls []) := by
    intro x1 k hk fu
    induction fu with
    | zero =>
      intro S x2 H locs ls hF hs hl
      exact nomatch (show (none : Option (Int64 × MS)) = some r from hF)
    | succ fu hrec =>
      intro S x2 H locs ls hF hs hl
      have hF : (B_X5_netJudged_39 x1 k) (lo2 (B_X5_netJudged_39 x1 k) fu) S x2 = some r := hF
      unfold B_X5_netJudged_39 at hF
      refine lv_iload_n hx hb dX5_netJudged_39 rfl (lv_at hl 2 rfl) ?_
      refine lv_bipush (v := (10 : Int32)) hx hb dX5_netJudged_40 (by decide) ?_
      refine lv_icmp_ge (tgt := 78) hx hb dX5_netJudged_42 (by decide) (fun hc => ?_) (fun hc => ?_)
      · have hF := (if_pos hc).symm.trans hF
        exact hk S _ _ _ hF hs (lv_sub hl [0, 1] rfl)
      · have hF := (if_neg hc).symm.trans hF
        refine lv_aload_n hx hb dX5_netJudged_45 rfl (lv_at hl 0 rfl) ?_
        refine fg_X5_17 hx hb hown hts hE hs 0 rfl (v := .ref (a 2)) rfl dX5_netJudged_46 ?_
        refine lv_bipush (v := (10 : Int32)) hx hb dX5_netJudged_49 (by decide) ?_
        refine lv_bipush (v := (6 : Int32)) hx hb dX5_netJudged_51 (by decide) ?_
        refine lv_aload_n hx hb dX5_netJudged_53 rfl (lv_at hl 0 rfl) ?_
        refine lv_aload_n hx hb dX5_netJudged_54 rfl (lv_at hl 0 rfl) ?_
        refine fg_X5_17 hx hb hown hts hE hs 0 rfl (v := .ref (a 2)) rfl dX5_netJudged_55 ?_
        refine lv_iconst (v := (0 : Int32)) hx hb dX5_netJudged_58 (by decide) ?_
        obtain ⟨v7, hv7, hF⟩ := bd hF
        refine sx_iald hx hb hE hs 2 (f := m_w S) rfl hv7 dX5_netJudged_59 ?_
        obtain ⟨q8, hq8, hF⟩ := bd hF
        refine sx_V (As := [.int v7]) (rest := [.int (6 : Int32), .int (10 : Int32), .ref (a 2)]) (st1 := [.int q8.1, .int (6 : Int32), .int (10 : Int32), .ref (a 2)]) (c_X5_draw G l a S v7 q8 hq8) v_X5_382 ⟨(Nat.le_of_ble_eq_true rfl), (Nat.le_of_ble_eq_true rfl)⟩ hx hb hml hown hts hE hA hs ⟨Nat.le_refl 0, Nat.le_refl 0⟩ 0 rfl rfl rfl rfl rfl hl.1 (Nat.le_of_ble_eq_true rfl) dX5_netJudged_60 (pmW _) (ws' := WM G a q8.2) (pmW _) (fun H locs hs => ?_)
        refine lv_imul hx hb dX5_netJudged_63 ?_
        refine lv_iadd hx hb dX5_netJudged_64 ?_
        refine lv_iconst (v := (1 : Int32)) hx hb dX5_netJudged_65 (by decide) ?_
        refine lv_iadd hx hb dX5_netJudged_66 ?_
        obtain ⟨v9, ev9, hF⟩ := nm_some hF
        refine sx_topi ev9 ?_
        refine lv_dup2_11 hx hb dX5_netJudged_67 rfl rfl ?_
        obtain ⟨v10, hv10, hF⟩ := bd hF
        refine sx_iald hx hb hE hs 2 (f := m_w q8.2) rfl hv10 dX5_netJudged_68 ?_
        refine lv_iconst (v := (1 : Int32)) hx hb dX5_netJudged_69 (by decide) ?_
        refine lv_iadd hx hb dX5_netJudged_70 ?_
        obtain ⟨f11, hf11, hF⟩ := bd hF
        obtain ⟨S12, eS12, hF⟩ := nm_some hF
        refine sx_iast hx hb hE hs 2 (f := m_w q8.2) rfl hf11 (ws' := WM G a S12) (by subst eS12; rfl) dX5_netJudged_71 (fun H locs hs => ?_)
        obtain ⟨v13, ev13, hF⟩ := nm_some hF
        refine lv_iinc (v := v13) (lv' := [(2, .int v13), (0, .ref (a 0)), (1, .int x1)]) hx hb dX5_netJudged_72 hl (k := 2) rfl (by rw [ev13]; rfl) (by decide) rfl (fun ls hl => ?_)
        refine lv_goto (tgt := 39) hx hb dX5_netJudged_75 (by decide) ?_
        exact hrec S12 v13 _ _ _ hF hs (lv_sub hl [1, 2, 0] rfl)
  unfold F_X5_netJudged at hF
  refine lv_aload_n hx hb dX5_netJudged_0 rfl (lv_at hl 0 rfl) ?_
  obtain ⟨q1, hq1, hF⟩ := bd hF
  refine sx_V (As := []) (rest := []) (st1 := []) (c_X5_lays G l a S q1 hq1) v_X5_318 ⟨(Nat.le_of_ble_eq_true rfl), (Nat.le_of_ble_eq_true rfl)⟩ hx hb hml hown hts hE hA hs ⟨Nat.le_refl 0, Nat.le_refl 0⟩ 0 rfl rfl rfl rfl rfl hl.1 (Nat.le_of_ble_eq_true rfl) dX5_netJudged_1 (pmW _) (ws' := WM G a q1) (pmW _) (fun H locs hs => ?_)
  refine lv_iconst (v := (0 : Int32)) hx hb dX5_netJudged_4 (by decide) ?_
  refine lv_istore_n (lv' := [(2, .int (0 : Int32)), (0, .ref (a 0)), (1, .int x1)]) hx hb dX5_netJudged_5 rfl hl (by decide) rfl (fun ls hl => ?_)
  refine hL6 x1 _ (fun S6 H locs ls hF hs hl => ?_) FU q1 (0 : Int32) _ _ _ hF hs (lv_sub hl [1, 2, 0] rfl)
  refine lv_iconst (v := (0 : Int32)) hx hb dX5_netJudged_37 (by decide) ?_
  refine lv_istore_n (lv' := [(2, .int (0 : Int32)), (0, .ref (a 0)), (1, .int x1)]) hx hb dX5_netJudged_38 rfl hl (by decide) rfl (fun ls hl => ?_)
  refine hL39 x1 _ (fun S14 H locs ls hF hs hl => ?_) FU S6 (0 : Int32) _ _ _ hF hs (lv_sub hl [1, 2, 0] rfl)
  refine lv_aload_n hx hb dX5_netJudged_78 rfl (lv_at hl 0 rfl) ?_
  obtain ⟨q15, hq15, hF⟩ := bd hF
  refine sx_V (As := []) (rest := []) (st1 := []) (c_X5_paysAll G l a S14 q15 hq15) v_X5_321 ⟨(Nat.le_of_ble_eq_true rfl), (Nat.le_of_ble_eq_true rfl)⟩ hx hb hml hown hts hE hA hs ⟨Nat.le_refl 0, Nat.le_refl 0⟩ 0 rfl rfl rfl rfl rfl hl.1 (Nat.le_of_ble_eq_true rfl) dX5_netJudged_79 (pmW _) (ws' := WM G a q15) (pmW _) (fun H locs hs => ?_)
  refine lv_aload_n hx hb dX5_netJudged_82 rfl (lv_at hl 0 rfl) ?_
  refine lv_iload_n hx hb dX5_netJudged_83 rfl (lv_at hl 1 rfl) ?_
  obtain ⟨q16, hq16, hF⟩ := bd hF
  refine sx_V (As := [.int x1]) (rest := []) (st1 := [.long q16]) (c_X5_netOf G l a q15 x1 q16 hq16) v_X5_353 ⟨(Nat.le_of_ble_eq_true rfl), (Nat.le_of_ble_eq_true rfl)⟩ hx hb hml hown hts hE hA hs ⟨Nat.le_refl 0, Nat.le_refl 0⟩ 0 rfl rfl rfl rfl rfl hl.1 (Nat.le_of_ble_eq_true rfl) dX5_netJudged_84 (pmW _) (ws' := WM G a q15) (pmW _) (fun H locs hs => ?_)
  exact sx_lret hx hb hr hlk hQ (congrArg Prod.fst (Option.some.inj hF)) (congrArg (fun z => WM G a z) (congrArg Prod.snd (Option.some.inj hF))) hs dX5_netJudged_87
set_option maxHeartbeats 4000000 in
set_option maxRecDepth 100000 in
theorem c_X5_judged (G : GT) (l : Launch) (a : Nat → Nat) (S : MS) (x1 : Int32) (x2 : Int32) (x3 : Int32) (x4 : Int32) (r : Int64 × MS) (hF : F_X5_judged S x1 x2 x3 x4 = some r) : MT G l yX5_judged cX5_judged 14 (some .long) 13 297 [.ref (a 0), .int x1, .int x2, .int x3, .int x4] (WM G a S) (some (.long r.1)) (WM G a r.2) := by
  refine MT.of (by decide) (Nat.le_of_ble_eq_true rfl) ?_
  intro p e s m args below meth c A ls hx hb hr hml hown hts hlk hE hA hs hl Q hQ
  have hl : lv_has ls 14 [(0, .ref (a 0)), (1, .int x1), (2, .int x2), (3, .int x3), (4, .int x4)] := hl
  have hJ75_n : ∀ (S : MS) (H : Heap) (locs : List Loc) (ls : Array Slot), J_X5_judged_75 S = some r → SI G A s H locs (WM G a S) → lv_has ls 14 [] → W p l e (RM 13 297) s m args below meth c H locs 0 0 Q (F0 m 75 ls []) := by
    intro S H locs ls hF hs hl
    unfold J_X5_judged_75 at hF
    refine lv_ldc2 (v := (-1000000000000 : Int64)) hx hb hown (hts _ g1381) dX5_judged_75 ?_
    exact sx_lret hx hb hr hlk hQ (congrArg Prod.fst (Option.some.inj hF)) (congrArg (fun z => WM G a z) (congrArg Prod.snd (Option.some.inj hF))) hs dX5_judged_78
  have hJ153_97 : ∀ (x1 : Int32) (x3 : Int32) (x4 : Int32) (k : MS → Int64 → Int64 → Int64 → Option (Int64 × MS)) (rc : MS → Int64 → Int64 → Int64 → Int32 → Option (Int64 × MS)) (hk : ∀ (S : MS) (x5 : Int64) (x7 : Int64) (x9 : Int64) (H : Heap) (locs : List Loc) (ls : Array Slot), k S x5 x7 x9 = some r → SI G A s H locs (WM G a S) → lv_has ls 14 [(4, .int x4), (5, .long x5), (7, .long x7), (9, .long x9)] → W p l e (RM 13 297) s m args below meth c H locs 0 0 Q (F0 m 161 ls [])) (hrec : ∀ (S : MS) (x5 : Int64) (x7 : Int64) (x9 : Int64) (x11 : Int32) (H : Heap) (locs : List Loc) (ls : Array Slot), rc S x5 x7 x9 x11 = some r → SI G A s H locs (WM G a S) → lv_has ls 14 [(0, .ref (a 0)), (1, .int x1), (3, .int x3), (4, .int x4), (5, .long x5), (7, .long x7), (9, .long x9), (11, .int x11)] → W p l e (RM 13 297) s m args below meth c H locs 0 0 Q (F0 m 97 ls [])) (S : MS) (x5 : Int64) (x7 : Int64) (x11 : Int32) (y0 : Int64) (H : Heap) (locs : List Loc) (ls : Array Slot), J_X5_judged_153 k rc S x1 x3 x4 x5 x7 x11 y0 = some r → SI G A s H locs (WM G a S) → lv_has ls 14 [(0, .ref (a 0)), (1, .int x1), (3, .int x3), (4, .int x4), (5, .long x5), (7, .long x7), (11, .int x11)] → W p l e (RM 13 297) s m args below meth c H locs 0 0 Q (F0 m 153 ls [.long y0]) := by
    intro x1 x3 x4 k rc hk hrec S x5 x7 x11 y0 H locs ls hF hs hl
    unfold J_X5_judged_153 at hF
    refine lv_lstore (lv' := [(9, .long y0), (0, .ref (a 0)), (1, .int x1), (3, .int x3), (4, .int x4), (5, .long x5), (7, .long x7), (11, .int x11)]) hx hb dX5_judged_153 hl (by decide) rfl (fun ls hl => ?_)
    obtain ⟨v11, ev11, hF⟩ := nm_some hF
    refine lv_iinc (v := v11) (lv' := [(11, .int v11), (9, .long y0), (0, .ref (a 0)), (1, .int x1), (3, .int x3), (4, .int x4), (5, .long x5), (7, .long x7)]) hx hb dX5_judged_155 hl (k := 7) rfl (by rw [ev11]; rfl) (by decide) rfl (fun ls hl => ?_)
    refine lv_goto (tgt := 97) hx hb dX5_judged_158 (by decide) ?_
    exact hrec S x5 x7 y0 v11 _ _ _ hF hs (lv_sub hl [2, 3, 4, 5, 6, 7, 1, 0] rfl)
  have hJ134_97 : ∀ (x1 : Int32) (x3 : Int32) (x4 : Int32) (k : MS → Int64 → Int64 → Int64 → Option (Int64 × MS)) (rc : MS → Int64 → Int64 → Int64 → Int32 → Option (Int64 × MS)) (hk : ∀ (S : MS) (x5 : Int64) (x7 : Int64) (x9 : Int64) (H : Heap) (locs : List Loc) (ls : Array Slot), k S x5 x7 x9 = some r → SI G A s H locs (WM G a S) → lv_has ls 14 [(4, .int x4), (5, .long x5), (7, .long x7), (9, .long x9)] → W p l e (RM 13 297) s m args below meth c H locs 0 0 Q (F0 m 161 ls [])) (hrec : ∀ (S : MS) (x5 : Int64) (x7 : Int64) (x9 : Int64) (x11 : Int32) (H : Heap) (locs : List Loc) (ls : Array Slot), rc S x5 x7 x9 x11 = some r → SI G A s H locs (WM G a S) → lv_has ls 14 [(0, .ref (a 0)), (1, .int x1), (3, .int x3), (4, .int x4), (5, .long x5), (7, .long x7), (9, .long x9), (11, .int x11)] → W p l e (RM 13 297) s m args below meth c H locs 0 0 Q (F0 m 97 ls [])) (S : MS) (x5 : Int64) (x9 : Int64) (x11 : Int32) (x12 : Int64) (y0 : Int64) (H : Heap) (locs : List Loc) (ls : Array Slot), J_X5_judged_134 k rc S x1 x3 x4 x5 x9 x11 x12 y0 = some r → SI G A s H locs (WM G a S) → lv_has ls 14 [(0, .ref (a 0)), (1, .int x1), (3, .int x3), (4, .int x4), (5, .long x5), (9, .long x9), (11, .int x11), (12, .long x12)] → W p l e (RM 13 297) s m args below meth c H locs 0 0 Q (F0 m 134 ls [.long y0]) := by
    intro x1 x3 x4 k rc hk hrec S x5 x9 x11 x12 y0 H locs ls hF hs hl
    unfold J_X5_judged_134 at hF
    refine lv_lstore (lv' := [(7, .long y0), (0, .ref (a 0)), (1, .int x1), (3, .int x3), (4, .int x4), (5, .long x5), (9, .long x9), (11, .int x11), (12, .long x12)]) hx hb dX5_judged_134 hl (by decide) rfl (fun ls hl => ?_)
    refine lv_iload hx hb dX5_judged_136 (lv_at hl 7 rfl) ?_
    refine lv_if_ne (tgt := 146) hx hb dX5_judged_138 (by decide) (fun hc => ?_) (fun hc => ?_)
    · have hF := (if_neg hc).symm.trans hF
      refine lv_lload hx hb dX5_judged_146 (lv_at hl 6 rfl) ?_
      refine lv_lload hx hb dX5_judged_148 (lv_at hl 8 rfl) ?_
      obtain ⟨q10, hq10, hF⟩ := bd hF
      refine sx_S (As := [.long x9, .long x12]) (rest := []) (st1 := [.long q10]) (c_X5_greater G l  x9 x12 q10 hq10) v_X5_286 ⟨(Nat.le_of_ble_eq_true rfl), (Nat.le_of_ble_eq_true rfl)⟩ hx hb hml hown hts hE hA hs ⟨Nat.le_refl 0, Nat.le_refl 0⟩ rfl rfl rfl hl.1 (Nat.le_of_ble_eq_true rfl) dX5_judged_150 (List.Perm.refl _) (ws' := WM G a S) (List.Perm.refl _) (fun H locs hs => ?_)
      exact hJ153_97 x1 x3 x4 _ _ hk hrec S x5 y0 x11 q10 _ _ _ hF hs (lv_sub hl [1, 2, 3, 4, 5, 0, 7] rfl)
    · have hF := (if_pos hc).symm.trans hF
      refine lv_lload hx hb dX5_judged_141 (lv_at hl 8 rfl) ?_
      refine lv_goto (tgt := 153) hx hb dX5_judged_143 (by decide) ?_
      exact hJ153_97 x1 x3 x4 _ _ hk hrec S x5 y0 x11 x12 _ _ _ hF hs (lv_sub hl [1, 2, 3, 4, 5, 0, 7] rfl)
  have hL97 : ∀ (x1 : Int32) (x3 : Int32) (x4 : Int32) (k : MS → Int64 → Int64 → Int64 → Option (Int64 × MS)) (hk : ∀ (S : MS) (x5 : Int64) (x7 : Int64) (x9 : Int64) (H : Heap) (locs : List Loc) (ls : Array Slot), k S x5 x7 x9 = some r → SI G A s H locs (WM G a S) → lv_has ls 14 [(4, .int x4), (5, .long x5), (7, .long x7), (9, .long x9)] → W p l e (RM 13 297) s m args below meth c H locs 0 0 Q (F0 m 161 ls [])) (fu : Nat) (S : MS) (x5 : Int64) (x7 : Int64) (x9 : Int64) (x11 : Int32) (H : Heap) (locs : List Loc) (ls : Array Slot), lo5 (B_X5_judged_97 x1 x3 x4 k) fu S x5 x7 x9 x11 = some r → SI G A s H locs (WM G a S) → lv_has ls 14 [(0, .ref (a 0)), (1, .int x1), (3, .int x3), (4, .int x4), (5, .long x5), (7, .long x7), (9, .long x9), (11, .int x11)] → W p l e (RM 13 297) s m args below meth c H locs 0 0 Q (F0 m 97 ls []) := by
    intro x1 x3 x4 k hk fu
    induction fu with
    | zero =>
      intro S x5 x7 x9 x11 H locs ls hF hs hl
      exact nomatch (show (none : Option (Int64 × MS)) = some r from hF)
    | succ fu hrec =>
      intro S x5 x7 x9 x11 H locs ls hF hs hl
      have hF : (B_X5_judged_97 x1 x3 x4 k) (lo5 (B_X5_judged_97 x1 x3 x4 k) fu) S x5 x7 x9 x11 = some r := hF
      unfold B_X5_judged_97 at hF
      refine lv_iload hx hb dX5_judged_97 (lv_at hl 7 rfl) ?_
      refine lv_iload_n hx hb dX5_judged_99 rfl (lv_at hl 2 rfl) ?_
      refine lv_icmp_ge (tgt := 161) hx hb dX5_judged_100 (by decide) (fun hc => ?_) (fun hc => ?_)
      · have hF := (if_pos hc).symm.trans hF
        exact hk S x5 x7 x9 _ _ _ hF hs (lv_sub hl [3, 4, 5, 6] rfl)
      · have hF := (if_neg hc).symm.trans hF
        refine lv_aload_n hx hb dX5_judged_103 rfl (lv_at hl 0 rfl) ?_
        refine lv_iload_n hx hb dX5_judged_104 rfl (lv_at hl 1 rfl) ?_
        obtain ⟨q7, hq7, hF⟩ := bd hF
        refine sx_V (As := [.int x1]) (rest := []) (st1 := [.long q7.1]) (c_X5_netJudged G l a S x1 q7 hq7) v_X5_389 ⟨(Nat.le_of_ble_eq_true rfl), (Nat.le_of_ble_eq_true rfl)⟩ hx hb hml hown hts hE hA hs ⟨Nat.le_refl 0, Nat.le_refl 0⟩ 0 rfl rfl rfl rfl rfl hl.1 (Nat.le_of_ble_eq_true rfl) dX5_judged_105 (pmW _) (ws' := WM G a q7.2) (pmW _) (fun H locs hs => ?_)
        refine lv_lstore (lv' := [(12, .long q7.1), (0, .ref (a 0)), (1, .int x1), (3, .int x3), (4, .int x4), (5, .long x5), (7, .long x7), (9, .long x9), (11, .int x11)]) hx hb dX5_judged_108 hl (by decide) rfl (fun ls hl => ?_)
        refine lv_lload hx hb dX5_judged_110 (lv_at hl 5 rfl) ?_
        refine lv_lload hx hb dX5_judged_112 (lv_at hl 0 rfl) ?_
        refine lv_ladd hx hb dX5_judged_114 ?_
        obtain ⟨v8, ev8, hF⟩ := nm_some hF
        refine sx_topl ev8 ?_
        refine lv_lstore (lv' := [(5, .long v8), (12, .long q7.1), (0, .ref (a 0)), (1, .int x1), (3, .int x3), (4, .int x4), (7, .long x7), (9, .long x9), (11, .int x11)]) hx hb dX5_judged_115 hl (by decide) rfl (fun ls hl => ?_)
        refine lv_iload hx hb dX5_judged_117 (lv_at hl 8 rfl) ?_
        refine lv_if_ne (tgt := 127) hx hb dX5_judged_119 (by decide) (fun hc => ?_) (fun hc => ?_)
        · have hF := (if_neg hc).symm.trans hF
          refine lv_lload hx hb dX5_judged_127 (lv_at hl 6 rfl) ?_
          refine lv_lload hx hb dX5_judged_129 (lv_at hl 1 rfl) ?_
          obtain ⟨q9, hq9, hF⟩ := bd hF
          refine sx_S (As := [.long x7, .long q7.1]) (rest := []) (st1 := [.long q9]) (c_X5_lesser G l  x7 q7.1 q9 hq9) v_X5_282 ⟨(Nat.le_of_ble_eq_true rfl), (Nat.le_of_ble_eq_true rfl)⟩ hx hb hml hown hts hE hA hs ⟨Nat.le_refl 0, Nat.le_refl 0⟩ rfl rfl rfl hl.1 (Nat.le_of_ble_eq_true rfl) dX5_judged_131 (List.Perm.refl _) (ws' := WM G a q7.2) (List.Perm.refl _) (fun H locs hs => ?_)
          exact hJ134_97 x1 x3 x4 _ _ hk hrec q7.2 v8 x9 x11 q7.1 q9 _ _ _ hF hs (lv_sub hl [2, 3, 4, 5, 0, 7, 8, 1] rfl)
        · have hF := (if_pos hc).symm.trans hF
          refine lv_lload hx hb dX5_judged_122 (lv_at hl 1 rfl) ?_
          refine lv_goto (tgt := 134) hx hb dX5_judged_124 (by decide) ?_
          exact hJ134_97 x1 x3 x4 _ _ hk hrec q7.2 v8 x9 x11 q7.1 q7.1 _ _ _ hF hs (lv_sub hl [2, 3, 4, 5, 0, 7, 8, 1] rfl)
  have hJ68_n : ∀ (S : MS) (x1 : Int32) (x2 : Int32) (x3 : Int32) (x4 : Int32) (y0 : Int32) (H : Heap) (locs : List Loc) (ls : Array Slot), J_X5_judged_68 S x1 x2 x3 x4 y0 = some r → SI G A s H locs (WM G a S) → lv_has ls 14 [(0, .ref (a 0)), (1, .int x1), (2, .int x2), (3, .int x3), (4, .int x4)] → W p l e (RM 13 297) s m args below meth c H locs 0 0 Q (F0 m 68 ls [.int y0, .ref (a 0)]) := by
    intro S x1 x2 x3 x4 y0 H locs ls hF hs hl
    unfold J_X5_judged_68 at hF
    refine lv_iconst (v := (2 : Int32)) hx hb dX5_judged_68 (by decide) ?_
    obtain ⟨q5, hq5, hF⟩ := bd hF
    refine sx_V (As := [.int y0, .int (2 : Int32)]) (rest := []) (st1 := [.int q5.1]) (c_X5_refuse G l a S y0 (2 : Int32) q5 hq5) v_X5_215 ⟨(Nat.le_of_ble_eq_true rfl), (Nat.le_of_ble_eq_true rfl)⟩ hx hb hml hown hts hE hA hs ⟨Nat.le_refl 0, Nat.le_refl 0⟩ 0 rfl rfl rfl rfl rfl hl.1 (Nat.le_of_ble_eq_true rfl) dX5_judged_69 (pmW _) (ws' := WM G a q5.2) (pmW _) (fun H locs hs => ?_)
    refine lv_if_eq (tgt := 79) hx hb dX5_judged_72 (by decide) (fun hc => ?_) (fun hc => ?_)
    · have hF := (if_pos hc).symm.trans hF
      refine lv_aload_n hx hb dX5_judged_79 rfl (lv_at hl 0 rfl) ?_
      refine lv_iload_n hx hb dX5_judged_80 rfl (lv_at hl 2 rfl) ?_
      refine lv_i2l hx hb dX5_judged_81 rfl ?_
      obtain ⟨S6, eS6, hF⟩ := nm_some hF
      refine fp_X5_375 hx hb hown hts hE hs 0 rfl (ws' := WM G a S6) (Nat.le_of_ble_eq_true rfl) (by subst eS6; rfl) dX5_judged_82 (fun H locs hs => ?_)
      refine lv_lconst (v := (0 : Int64)) hx hb dX5_judged_85 (by decide) ?_
      refine lv_lstore (lv' := [(5, .long (0 : Int64)), (0, .ref (a 0)), (1, .int x1), (2, .int x2), (3, .int x3), (4, .int x4)]) hx hb dX5_judged_86 hl (by decide) rfl (fun ls hl => ?_)
      refine lv_lconst (v := (0 : Int64)) hx hb dX5_judged_88 (by decide) ?_
      refine lv_lstore (lv' := [(7, .long (0 : Int64)), (5, .long (0 : Int64)), (0, .ref (a 0)), (1, .int x1), (2, .int x2), (3, .int x3), (4, .int x4)]) hx hb dX5_judged_89 hl (by decide) rfl (fun ls hl => ?_)
      refine lv_lconst (v := (0 : Int64)) hx hb dX5_judged_91 (by decide) ?_
      refine lv_lstore (lv' := [(9, .long (0 : Int64)), (7, .long (0 : Int64)), (5, .long (0 : Int64)), (0, .ref (a 0)), (1, .int x1), (2, .int x2), (3, .int x3), (4, .int x4)]) hx hb dX5_judged_92 hl (by decide) rfl (fun ls hl => ?_)
      refine lv_iconst (v := (0 : Int32)) hx hb dX5_judged_94 (by decide) ?_
      refine lv_istore (lv' := [(11, .int (0 : Int32)), (9, .long (0 : Int64)), (7, .long (0 : Int64)), (5, .long (0 : Int64)), (0, .ref (a 0)), (1, .int x1), (2, .int x2), (3, .int x3), (4, .int x4)]) hx hb dX5_judged_95 hl (by decide) rfl (fun ls hl => ?_)
      refine hL97 x1 x3 x4 _ (fun S12 z13 z14 z15 H locs ls hF hs hl => ?_) FU S6 (0 : Int64) (0 : Int64) (0 : Int64) (0 : Int32) _ _ _ hF hs (lv_sub hl [4, 5, 7, 8, 3, 2, 1, 0] rfl)
      refine lv_iload hx hb dX5_judged_161 (lv_at hl 0 rfl) ?_
      refine lv_if_ne (tgt := 171) hx hb dX5_judged_163 (by decide) (fun hc => ?_) (fun hc => ?_)
      · have hF := (if_neg hc).symm.trans hF
        refine lv_iload hx hb dX5_judged_171 (lv_at hl 0 rfl) ?_
        refine lv_iconst (v := (1 : Int32)) hx hb dX5_judged_173 (by decide) ?_
        refine lv_icmp_ne (tgt := 182) hx hb dX5_judged_174 (by decide) (fun hc => ?_) (fun hc => ?_)
        · have hF := (if_neg hc).symm.trans hF
          refine lv_lload hx hb dX5_judged_182 (lv_at hl 3 rfl) ?_
          exact sx_lret hx hb hr hlk hQ (congrArg Prod.fst (Option.some.inj hF)) (congrArg (fun z => WM G a z) (congrArg Prod.snd (Option.some.inj hF))) hs dX5_judged_184
        · have hF := (if_pos hc).symm.trans hF
          refine lv_lload hx hb dX5_judged_177 (lv_at hl 2 rfl) ?_
          refine lv_goto (tgt := 184) hx hb dX5_judged_179 (by decide) ?_
          exact sx_lret hx hb hr hlk hQ (congrArg Prod.fst (Option.some.inj hF)) (congrArg (fun z => WM G a z) (congrArg Prod.snd (Option.some.inj hF))) hs dX5_judged_184
      · have hF := (if_pos hc).symm.trans hF
        refine lv_lload hx hb dX5_judged_166 (lv_at hl 1 rfl) ?_
        refine lv_goto (tgt := 184) hx hb dX5_judged_168 (by decide) ?_
        exact sx_lret hx hb hr hlk hQ (congrArg Prod.fst (Option.some.inj hF)) (congrArg (fun z => WM G a z) (congrArg Prod.snd (Option.some.inj hF))) hs dX5_judged_184
    · have hF := (if_neg hc).symm.trans hF
      exact hJ75_n q5.2 _ _ _ hF hs (lv_sub hl [] rfl)
  have hJ63_n : ∀ (S : MS) (x1 : Int32) (x2 : Int32) (x3 : Int32) (x4 : Int32) (H : Heap) (locs : List Loc) (ls : Array Slot), J_X5_judged_63 S x1 x2 x3 x4 = some r → SI G A s H locs (WM G a S) → lv_has ls 14 [(0, .ref (a 0)), (1, .int x1), (2, .int x2), (3, .int x3), (4, .int x4)] → W p l e (RM 13 297) s m args below meth c H locs 0 0 Q (F0 m 63 ls [.ref (a 0)]) := by
    intro S x1 x2 x3 x4 H locs ls hF hs hl
    unfold J_X5_judged_63 at hF
    refine lv_iconst (v := (1 : Int32)) hx hb dX5_judged_63 (by decide) ?_
    refine lv_goto (tgt := 68) hx hb dX5_judged_64 (by decide) ?_
    exact hJ68_n S x1 x2 x3 x4 (1 : Int32) _ _ _ hF hs (lv_sub hl [0, 1, 2, 3, 4] rfl)
  have hJ31_n : ∀ (S : MS) (x1 : Int32) (x2 : Int32) (x3 : Int32) (x4 : Int32) (y0 : Int32) (H : Heap) (locs : List Loc) (ls : Array Slot), J_X5_judged_31 S x1 x2 x3 x4 y0 = some r → SI G A s H locs (WM G a S) → lv_has ls 14 [(0, .ref (a 0)), (1, .int x1), (2, .int x2), (3, .int x3), (4, .int x4)] → W p l e (RM 13 297) s m args below meth c H locs 0 0 Q (F0 m 31 ls [.int y0, .ref (a 0)]) := by
    intro S x1 x2 x3 x4 y0 H locs ls hF hs hl
    unfold J_X5_judged_31 at hF
    refine lv_iconst (v := (1 : Int32)) hx hb dX5_judged_31 (by decide) ?_
    obtain ⟨q3, hq3, hF⟩ := bd hF
    refine sx_V (As := [.int y0, .int (1 : Int32)]) (rest := []) (st1 := [.int q3.1]) (c_X5_refuse G l a S y0 (1 : Int32) q3 hq3) v_X5_215 ⟨(Nat.le_of_ble_eq_true rfl), (Nat.le_of_ble_eq_true rfl)⟩ hx hb hml hown hts hE hA hs ⟨Nat.le_refl 0, Nat.le_refl 0⟩ 0 rfl rfl rfl rfl rfl hl.1 (Nat.le_of_ble_eq_true rfl) dX5_judged_32 (pmW _) (ws' := WM G a q3.2) (pmW _) (fun H locs hs => ?_)
    refine lv_if_ne (tgt := 75) hx hb dX5_judged_35 (by decide) (fun hc => ?_) (fun hc => ?_)
    · have hF := (if_neg hc).symm.trans hF
      exact hJ75_n q3.2 _ _ _ hF hs (lv_sub hl [] rfl)
    · have hF := (if_pos hc).symm.trans hF
      refine lv_aload_n hx hb dX5_judged_38 rfl (lv_at hl 0 rfl) ?_
      refine lv_iload_n hx hb dX5_judged_39 rfl (lv_at hl 2 rfl) ?_
      refine lv_i2l hx hb dX5_judged_40 rfl ?_
      refine lv_lconst (v := (1 : Int64)) hx hb dX5_judged_41 (by decide) ?_
      refine lv_ldc2 (v := (2147483646 : Int64)) hx hb hown (hts _ g1430) dX5_judged_42 ?_
      obtain ⟨q4, hq4, hF⟩ := bd hF
      refine sx_S (As := [.long x2.toInt64, .long (1 : Int64), .long (2147483646 : Int64)]) (rest := [.ref (a 0)]) (st1 := [.int q4, .ref (a 0)]) (c_X5_in G l  x2.toInt64 (1 : Int64) (2147483646 : Int64) q4 hq4) v_X5_161 ⟨(Nat.le_of_ble_eq_true rfl), (Nat.le_of_ble_eq_true rfl)⟩ hx hb hml hown hts hE hA hs ⟨Nat.le_refl 0, Nat.le_refl 0⟩ rfl rfl rfl hl.1 (Nat.le_of_ble_eq_true rfl) dX5_judged_45 (List.Perm.refl _) (ws' := WM G a q3.2) (List.Perm.refl _) (fun H locs hs => ?_)
      refine lv_if_eq (tgt := 63) hx hb dX5_judged_48 (by decide) (fun hc => ?_) (fun hc => ?_)
      · have hF := (if_pos hc).symm.trans hF
        exact hJ63_n q3.2 x1 x2 x3 x4 _ _ _ hF hs (lv_sub hl [0, 1, 2, 3, 4] rfl)
      · have hF := (if_neg hc).symm.trans hF
        refine lv_iload_n hx hb dX5_judged_51 rfl (lv_at hl 3 rfl) ?_
        refine lv_i2l hx hb dX5_judged_52 rfl ?_
        refine lv_lconst (v := (1 : Int64)) hx hb dX5_judged_53 (by decide) ?_
        refine lv_ldc2 (v := (50 : Int64)) hx hb hown (hts _ g1431) dX5_judged_54 ?_
        obtain ⟨q16, hq16, hF⟩ := bd hF
        refine sx_S (As := [.long x3.toInt64, .long (1 : Int64), .long (50 : Int64)]) (rest := [.ref (a 0)]) (st1 := [.int q16, .ref (a 0)]) (c_X5_in G l  x3.toInt64 (1 : Int64) (50 : Int64) q16 hq16) v_X5_161 ⟨(Nat.le_of_ble_eq_true rfl), (Nat.le_of_ble_eq_true rfl)⟩ hx hb hml hown hts hE hA hs ⟨Nat.le_refl 0, Nat.le_refl 0⟩ rfl rfl rfl hl.1 (Nat.le_of_ble_eq_true rfl) dX5_judged_57 (List.Perm.refl _) (ws' := WM G a q3.2) (List.Perm.refl _) (fun H locs hs => ?_)
        refine lv_if_ne (tgt := 67) hx hb dX5_judged_60 (by decide) (fun hc => ?_) (fun hc => ?_)
        · have hF := (if_neg hc).symm.trans hF
          refine lv_iconst (v := (0 : Int32)) hx hb dX5_judged_67 (by decide) ?_
          exact hJ68_n q3.2 x1 x2 x3 x4 (0 : Int32) _ _ _ hF hs (lv_sub hl [0, 1, 2, 3, 4] rfl)
        · have hF := (if_pos hc).symm.trans hF
          exact hJ63_n q3.2 x1 x2 x3 x4 _ _ _ hF hs (lv_sub hl [0, 1, 2, 3, 4] rfl)
  have hJ26_n : ∀ (S : MS) (x1 : Int32) (x2 : Int32) (x3 : Int32) (x4 : Int32) (H : Heap) (locs : List Loc) (ls : Array Slot), J_X5_judged_26 S x1 x2 x3 x4 = some r → SI G A s H locs (WM G a S) → lv_has ls 14 [(0, .ref (a 0)), (1, .int x1), (2, .int x2), (3, .int x3), (4, .int x4)] → W p l e (RM 13 297) s m args below meth c H locs 0 0 Q (F0 m 26 ls [.ref (a 0)]) := by
    intro S x1 x2 x3 x4 H locs ls hF hs hl
    unfold J_X5_judged_26 at hF
    refine lv_iconst (v := (1 : Int32)) hx hb dX5_judged_26 (by decide) ?_
    refine lv_goto (tgt := 31) hx hb dX5_judged_27 (by decide) ?_
    exact hJ31_n S x1 x2 x3 x4 (1 : Int32) _ _ _ hF hs (lv_sub hl [0, 1, 2, 3, 4] rfl)
  unfold F_X5_judged at hF
  refine lv_aload_n hx hb dX5_judged_0 rfl (lv_at hl 0 rfl) ?_
  obtain ⟨q1, hq1, hF⟩ := bd hF
  refine sx_V (As := []) (rest := []) (st1 := []) (c_X5_begins G l a S q1 hq1) v_X5_212 ⟨(Nat.le_of_ble_eq_true rfl), (Nat.le_of_ble_eq_true rfl)⟩ hx hb hml hown hts hE hA hs ⟨Nat.le_refl 0, Nat.le_refl 0⟩ 0 rfl rfl rfl rfl rfl hl.1 (Nat.le_of_ble_eq_true rfl) dX5_judged_1 (pmW _) (ws' := WM G a q1) (pmW _) (fun H locs hs => ?_)
  refine lv_aload_n hx hb dX5_judged_4 rfl (lv_at hl 0 rfl) ?_
  refine lv_aload_n hx hb dX5_judged_5 rfl (lv_at hl 0 rfl) ?_
  refine lv_iload_n hx hb dX5_judged_6 rfl (lv_at hl 1 rfl) ?_
  obtain ⟨q2, hq2, hF⟩ := bd hF
  refine sx_V (As := [.int x1]) (rest := [.ref (a 0)]) (st1 := [.int q2, .ref (a 0)]) (c_X5_isShip G l a q1 x1 q2 hq2) v_X5_234 ⟨(Nat.le_of_ble_eq_true rfl), (Nat.le_of_ble_eq_true rfl)⟩ hx hb hml hown hts hE hA hs ⟨Nat.le_refl 0, Nat.le_refl 0⟩ 0 rfl rfl rfl rfl rfl hl.1 (Nat.le_of_ble_eq_true rfl) dX5_judged_7 (pmW _) (ws' := WM G a q1) (pmW _) (fun H locs hs => ?_)
  refine lv_if_eq (tgt := 26) hx hb dX5_judged_10 (by decide) (fun hc => ?_) (fun hc => ?_)
  · have hF := (if_pos hc).symm.trans hF
    exact hJ26_n q1 x1 x2 x3 x4 _ _ _ hF hs (lv_sub hl [0, 1, 2, 3, 4] rfl)
  · have hF := (if_neg hc).symm.trans hF
    refine lv_iload hx hb dX5_judged_13 (lv_at hl 4 rfl) ?_
    refine lv_i2l hx hb dX5_judged_15 rfl ?_
    refine lv_lconst (v := (0 : Int64)) hx hb dX5_judged_16 (by decide) ?_
    refine lv_ldc2 (v := (2 : Int64)) hx hb hown (hts _ g1364) dX5_judged_17 ?_
    obtain ⟨q17, hq17, hF⟩ := bd hF
    refine sx_S (As := [.long x4.toInt64, .long (0 : Int64), .long (2 : Int64)]) (rest := [.ref (a 0)]) (st1 := [.int q17, .ref (a 0)]) (c_X5_in G l  x4.toInt64 (0 : Int64) (2 : Int64) q17 hq17) v_X5_161 ⟨(Nat.le_of_ble_eq_true rfl), (Nat.le_of_ble_eq_true rfl)⟩ hx hb hml hown hts hE hA hs ⟨Nat.le_refl 0, Nat.le_refl 0⟩ rfl rfl rfl hl.1 (Nat.le_of_ble_eq_true rfl) dX5_judged_20 (List.Perm.refl _) (ws' := WM G a q1) (List.Perm.refl _) (fun H locs hs => ?_)
    refine lv_if_ne (tgt := 30) hx hb dX5_judged_23 (by decide) (fun hc => ?_) (fun hc => ?_)
    · have hF := (if_neg hc).symm.trans hF
      refine lv_iconst (v := (0 : Int32)) hx hb dX5_judged_30 (by decide) ?_
      exact hJ31_n q1 x1 x2 x3 x4 (0 : Int32) _ _ _ hF hs (lv_sub hl [0, 1, 2, 3, 4] rfl)
    · have hF := (if_pos hc).symm.trans hF
      exact hJ26_n q1 x1 x2 x3 x4 _ _ _ hF hs (lv_sub hl [0, 1, 2, 3, 4] rfl)
set_option maxHeartbeats 4000000 in
set_option maxRecDepth 100000 in
theorem c_X5_all (G : GT) (l : Launch) (a : Nat → Nat) (S : MS) (r : Int64 × MS) (hF : F_X5_all S = some r) : MT G l yX5_all cX5_all 4 (some .long) 13 295 [.ref (a 0)] (WM G a S) (some (.long r.1)) (WM G a r.2) := by
  refine MT.of (by decide) (Nat.le_of_ble_eq_true rfl) ?_
  intro p e s m args below meth c A ls hx hb hr hml hown hts hlk hE hA hs hl Q hQ
  have hl : lv_has ls 4 [(0, .ref (a 0))] := hl
  have hL36 : ∀ (k : MS → Int64 → Option (Int64 × MS)) (hk : ∀ (S : MS) (x1 : Int64) (H : Heap) (locs : List Loc) (ls : Array Slot), k S x1 = some r → SI G A s H locs (WM G a S) → lv_has ls 4 [(0, .ref (a 0)), (1, .long x1)] → W p l e (RM 13 295) s m args below meth c H locs 0 0 Q (F0 m 60 ls [])) (fu : Nat) (S : MS) (x1 : Int64) (x3 : Int32) (H : Heap) (locs : List Loc) (ls : Array Slot), lo3 (B_X5_all_36 k) fu S x1 x3 = some r → SI G A s H locs (WM G a S) → lv_has ls 4 [(0, .ref (a 0)), (1, .long x1), (3, .int x3)] → W p l e (RM 13 295) s m args below meth c H locs 0 0 Q (F0 m 36 ls []) := by
    intro k hk fu
    induction fu with
    | zero =>
      intro S x1 x3 H locs ls hF hs hl
      exact nomatch (show (none : Option (Int64 × MS)) = some r from hF)
    | succ fu hrec =>
      intro S x1 x3 H locs ls hF hs hl
      have hF : (B_X5_all_36 k) (lo3 (B_X5_all_36 k) fu) S x1 x3 = some r := hF
      unfold B_X5_all_36 at hF
      refine lv_iload_n hx hb dX5_all_36 rfl (lv_at hl 2 rfl) ?_
      refine lv_aload_n hx hb dX5_all_37 rfl (lv_at hl 0 rfl) ?_
      refine fg_X5_17 hx hb hown hts hE hs 0 rfl (v := .ref (a 2)) rfl dX5_all_38 ?_
      refine lv_iconst (v := (0 : Int32)) hx hb dX5_all_41 (by decide) ?_
      obtain ⟨v4, hv4, hF⟩ := bd hF
      refine sx_iald hx hb hE hs 2 (f := m_w S) rfl hv4 dX5_all_42 ?_
      refine lv_icmp_ge (tgt := 60) hx hb dX5_all_43 (by decide) (fun hc => ?_) (fun hc => ?_)
      · have hF := (if_pos hc).symm.trans hF
        exact hk S x1 _ _ _ hF hs (lv_sub hl [0, 1] rfl)
      · have hF := (if_neg hc).symm.trans hF
        refine lv_lload_n hx hb dX5_all_46 rfl (lv_at hl 1 rfl) ?_
        refine lv_aload_n hx hb dX5_all_47 rfl (lv_at hl 0 rfl) ?_
        refine lv_iload_n hx hb dX5_all_48 rfl (lv_at hl 2 rfl) ?_
        obtain ⟨q5, hq5, hF⟩ := bd hF
        refine sx_V (As := [.int x3]) (rest := [.long x1]) (st1 := [.long q5, .long x1]) (c_X5_netOf G l a S x3 q5 hq5) v_X5_353 ⟨(Nat.le_of_ble_eq_true rfl), (Nat.le_of_ble_eq_true rfl)⟩ hx hb hml hown hts hE hA hs ⟨Nat.le_refl 0, Nat.le_refl 0⟩ 0 rfl rfl rfl rfl rfl hl.1 (Nat.le_of_ble_eq_true rfl) dX5_all_49 (pmW _) (ws' := WM G a S) (pmW _) (fun H locs hs => ?_)
        refine lv_ladd hx hb dX5_all_52 ?_
        obtain ⟨v6, ev6, hF⟩ := nm_some hF
        refine sx_topl ev6 ?_
        refine lv_lstore_n (lv' := [(1, .long v6), (0, .ref (a 0)), (3, .int x3)]) hx hb dX5_all_53 rfl hl (by decide) rfl (fun ls hl => ?_)
        obtain ⟨v7, ev7, hF⟩ := nm_some hF
        refine lv_iinc (v := v7) (lv' := [(3, .int v7), (1, .long v6), (0, .ref (a 0))]) hx hb dX5_all_54 hl (k := 2) rfl (by rw [ev7]; rfl) (by decide) rfl (fun ls hl => ?_)
        refine lv_goto (tgt := 36) hx hb dX5_all_57 (by decide) ?_
        exact hrec S v6 v7 _ _ _ hF hs (lv_sub hl [2, 1, 0] rfl)
  have hL62 : ∀ (k : MS → Int64 → Option (Int64 × MS)) (hk : ∀ (S : MS) (x1 : Int64) (H : Heap) (locs : List Loc) (ls : Array Slot), k S x1 = some r → SI G A s H locs (WM G a S) → lv_has ls 4 [(1, .long x1)] → W p l e (RM 13 295) s m args below meth c H locs 0 0 Q (F0 m 92 ls [])) (fu : Nat) (S : MS) (x1 : Int64) (x3 : Int32) (H : Heap) (locs : List Loc) (ls : Array Slot), lo3 (B_X5_all_62 k) fu S x1 x3 = some r → SI G A s H locs (WM G a S) → lv_has ls 4 [(0, .ref (a 0)), (1, .long x1), (3, .int x3)] → W p l e (RM 13 295) s m args below meth c H locs 0 0 Q (F0 m 62 ls []) := by
    intro k hk fu
    induction fu with
    | zero =>
      intro S x1 x3 H locs ls hF hs hl
      exact nomatch (show (none : Option (Int64 × MS)) = some r from hF)
    | succ fu hrec =>
      intro S x1 x3 H locs ls hF hs hl
      have hF : (B_X5_all_62 k) (lo3 (B_X5_all_62 k) fu) S x1 x3 = some r := hF
      unfold B_X5_all_62 at hF
      refine lv_iload_n hx hb dX5_all_62 rfl (lv_at hl 2 rfl) ?_
      refine lv_aload_n hx hb dX5_all_63 rfl (lv_at hl 0 rfl) ?_
      refine fg_X5_17 hx hb hown hts hE hs 0 rfl (v := .ref (a 2)) rfl dX5_all_64 ?_
      refine lv_iconst (v := (1 : Int32)) hx hb dX5_all_67 (by decide) ?_
      obtain ⟨v10, hv10, hF⟩ := bd hF
      refine sx_iald hx hb hE hs 2 (f := m_w S) rfl hv10 dX5_all_68 ?_
      refine lv_icmp_ge (tgt := 92) hx hb dX5_all_69 (by decide) (fun hc => ?_) (fun hc => ?_)
      · have hF := (if_pos hc).symm.trans hF
        exact hk S x1 _ _ _ hF hs (lv_sub hl [1] rfl)
      · have hF := (if_neg hc).symm.trans hF
        refine lv_lload_n hx hb dX5_all_72 rfl (lv_at hl 1 rfl) ?_
        refine lv_aload_n hx hb dX5_all_73 rfl (lv_at hl 0 rfl) ?_
        refine lv_iload_n hx hb dX5_all_74 rfl (lv_at hl 2 rfl) ?_
        obtain ⟨q11, hq11, hF⟩ := bd hF
        refine sx_V (As := [.int x3]) (rest := [.long x1]) (st1 := [.long q11, .long x1]) (c_X5_paidTo G l a S x3 q11 hq11) v_X5_328 ⟨(Nat.le_of_ble_eq_true rfl), (Nat.le_of_ble_eq_true rfl)⟩ hx hb hml hown hts hE hA hs ⟨Nat.le_refl 0, Nat.le_refl 0⟩ 0 rfl rfl rfl rfl rfl hl.1 (Nat.le_of_ble_eq_true rfl) dX5_all_75 (pmW _) (ws' := WM G a S) (pmW _) (fun H locs hs => ?_)
        refine lv_aload_n hx hb dX5_all_78 rfl (lv_at hl 0 rfl) ?_
        refine lv_iload_n hx hb dX5_all_79 rfl (lv_at hl 2 rfl) ?_
        obtain ⟨q12, hq12, hF⟩ := bd hF
        refine sx_V (As := [.int x3]) (rest := [.long q11, .long x1]) (st1 := [.long q12, .long q11, .long x1]) (c_X5_givenOf G l a S x3 q12 hq12) v_X5_334 ⟨(Nat.le_of_ble_eq_true rfl), (Nat.le_of_ble_eq_true rfl)⟩ hx hb hml hown hts hE hA hs ⟨Nat.le_refl 0, Nat.le_refl 0⟩ 0 rfl rfl rfl rfl rfl hl.1 (Nat.le_of_ble_eq_true rfl) dX5_all_80 (pmW _) (ws' := WM G a S) (pmW _) (fun H locs hs => ?_)
        refine lv_lsub hx hb dX5_all_83 ?_
        refine lv_ladd hx hb dX5_all_84 ?_
        obtain ⟨v13, ev13, hF⟩ := nm_some hF
        refine sx_topl ev13 ?_
        refine lv_lstore_n (lv' := [(1, .long v13), (0, .ref (a 0)), (3, .int x3)]) hx hb dX5_all_85 rfl hl (by decide) rfl (fun ls hl => ?_)
        obtain ⟨v14, ev14, hF⟩ := nm_some hF
        refine lv_iinc (v := v14) (lv' := [(3, .int v14), (1, .long v13), (0, .ref (a 0))]) hx hb dX5_all_86 hl (k := 2) rfl (by rw [ev14]; rfl) (by decide) rfl (fun ls hl => ?_)
        refine lv_goto (tgt := 62) hx hb dX5_all_89 (by decide) ?_
        exact hrec S v13 v14 _ _ _ hF hs (lv_sub hl [2, 1, 0] rfl)
  have hJ17_n : ∀ (S : MS) (y0 : Int32) (H : Heap) (locs : List Loc) (ls : Array Slot), J_X5_all_17 S y0 = some r → SI G A s H locs (WM G a S) → lv_has ls 4 [(0, .ref (a 0))] → W p l e (RM 13 295) s m args below meth c H locs 0 0 Q (F0 m 17 ls [.int y0, .ref (a 0)]) := by
    intro S y0 H locs ls hF hs hl
    unfold J_X5_all_17 at hF
    refine lv_iconst (v := (1 : Int32)) hx hb dX5_all_17 (by decide) ?_
    obtain ⟨q2, hq2, hF⟩ := bd hF
    refine sx_V (As := [.int y0, .int (1 : Int32)]) (rest := []) (st1 := [.int q2.1]) (c_X5_refuse G l a S y0 (1 : Int32) q2 hq2) v_X5_215 ⟨(Nat.le_of_ble_eq_true rfl), (Nat.le_of_ble_eq_true rfl)⟩ hx hb hml hown hts hE hA hs ⟨Nat.le_refl 0, Nat.le_refl 0⟩ 0 rfl rfl rfl rfl rfl hl.1 (Nat.le_of_ble_eq_true rfl) dX5_all_18 (pmW _) (ws' := WM G a q2.2) (pmW _) (fun H locs hs => ?_)
    refine lv_if_eq (tgt := 28) hx hb dX5_all_21 (by decide) (fun hc => ?_) (fun hc => ?_)
    · have hF := (if_pos hc).symm.trans hF
      refine lv_aload_n hx hb dX5_all_28 rfl (lv_at hl 0 rfl) ?_
      obtain ⟨q3, hq3, hF⟩ := bd hF
      refine sx_V (As := []) (rest := []) (st1 := []) (c_X5_laysPaid G l a q2.2 q3 hq3) v_X5_343 ⟨(Nat.le_of_ble_eq_true rfl), (Nat.le_of_ble_eq_true rfl)⟩ hx hb hml hown hts hE hA hs ⟨Nat.le_refl 0, Nat.le_refl 0⟩ 0 rfl rfl rfl rfl rfl hl.1 (Nat.le_of_ble_eq_true rfl) dX5_all_29 (pmW _) (ws' := WM G a q3) (pmW _) (fun H locs hs => ?_)
      refine lv_lconst (v := (0 : Int64)) hx hb dX5_all_32 (by decide) ?_
      refine lv_lstore_n (lv' := [(1, .long (0 : Int64)), (0, .ref (a 0))]) hx hb dX5_all_33 rfl hl (by decide) rfl (fun ls hl => ?_)
      refine lv_iconst (v := (0 : Int32)) hx hb dX5_all_34 (by decide) ?_
      refine lv_istore_n (lv' := [(3, .int (0 : Int32)), (1, .long (0 : Int64)), (0, .ref (a 0))]) hx hb dX5_all_35 rfl hl (by decide) rfl (fun ls hl => ?_)
      refine hL36 _ (fun S8 z9 H locs ls hF hs hl => ?_) FU q3 (0 : Int64) (0 : Int32) _ _ _ hF hs (lv_sub hl [2, 1, 0] rfl)
      refine lv_iconst (v := (0 : Int32)) hx hb dX5_all_60 (by decide) ?_
      refine lv_istore_n (lv' := [(3, .int (0 : Int32)), (0, .ref (a 0)), (1, .long z9)]) hx hb dX5_all_61 rfl hl (by decide) rfl (fun ls hl => ?_)
      refine hL62 _ (fun S15 z16 H locs ls hF hs hl => ?_) FU S8 z9 (0 : Int32) _ _ _ hF hs (lv_sub hl [1, 2, 0] rfl)
      refine lv_lload_n hx hb dX5_all_92 rfl (lv_at hl 0 rfl) ?_
      exact sx_lret hx hb hr hlk hQ (congrArg Prod.fst (Option.some.inj hF)) (congrArg (fun z => WM G a z) (congrArg Prod.snd (Option.some.inj hF))) hs dX5_all_93
    · have hF := (if_neg hc).symm.trans hF
      refine lv_ldc2 (v := (-1000000000000 : Int64)) hx hb hown (hts _ g1381) dX5_all_24 ?_
      exact sx_lret hx hb hr hlk hQ (congrArg Prod.fst (Option.some.inj hF)) (congrArg (fun z => WM G a z) (congrArg Prod.snd (Option.some.inj hF))) hs dX5_all_27
  unfold F_X5_all at hF
  refine lv_aload_n hx hb dX5_all_0 rfl (lv_at hl 0 rfl) ?_
  obtain ⟨q1, hq1, hF⟩ := bd hF
  refine sx_V (As := []) (rest := []) (st1 := []) (c_X5_begins G l a S q1 hq1) v_X5_212 ⟨(Nat.le_of_ble_eq_true rfl), (Nat.le_of_ble_eq_true rfl)⟩ hx hb hml hown hts hE hA hs ⟨Nat.le_refl 0, Nat.le_refl 0⟩ 0 rfl rfl rfl rfl rfl hl.1 (Nat.le_of_ble_eq_true rfl) dX5_all_1 (pmW _) (ws' := WM G a q1) (pmW _) (fun H locs hs => ?_)
  refine lv_aload_n hx hb dX5_all_4 rfl (lv_at hl 0 rfl) ?_
  refine lv_aload_n hx hb dX5_all_5 rfl (lv_at hl 0 rfl) ?_
  refine fg_X5_225 hx hb hown hts hE hs 0 rfl (v := .int (m_told q1)) rfl dX5_all_6 ?_
  refine lv_if_ne (tgt := 16) hx hb dX5_all_9 (by decide) (fun hc => ?_) (fun hc => ?_)
  · have hF := (if_neg hc).symm.trans hF
    refine lv_iconst (v := (0 : Int32)) hx hb dX5_all_16 (by decide) ?_
    exact hJ17_n q1 (0 : Int32) _ _ _ hF hs (lv_sub hl [0] rfl)
  · have hF := (if_pos hc).symm.trans hF
    refine lv_iconst (v := (1 : Int32)) hx hb dX5_all_12 (by decide) ?_
    refine lv_goto (tgt := 17) hx hb dX5_all_13 (by decide) ?_
    exact hJ17_n q1 (1 : Int32) _ _ _ hF hs (lv_sub hl [0] rfl)
set_option maxHeartbeats 4000000 in
set_option maxRecDepth 100000 in
theorem c_X5_keeps (G : GT) (l : Launch) (a : Nat → Nat) (S : MS) (r : MS) (hF : F_X5_keeps S = some r) : MT G l yX5_keeps cX5_keeps 2 (none) 0 0 [.ref (a 0)] (WM G a S) none (WM G a r) := by
  refine MT.of (by decide) (Nat.le_of_ble_eq_true rfl) ?_
  intro p e s m args below meth c A ls hx hb hr hml hown hts hlk hE hA hs hl Q hQ
  have hl : lv_has ls 2 [(0, .ref (a 0))] := hl
  have hL51 : ∀ (k : MS → Option (MS)) (hk : ∀ (S : MS) (H : Heap) (locs : List Loc) (ls : Array Slot), k S = some r → SI G A s H locs (WM G a S) → lv_has ls 2 [(0, .ref (a 0))] → W p l e (RM 0 0) s m args below meth c H locs 0 0 Q (F0 m 83 ls [])) (fu : Nat) (S : MS) (x1 : Int32) (H : Heap) (locs : List Loc) (ls : Array Slot), lo2 (B_X5_keeps_51 k) fu S x1 = some r → SI G A s H locs (WM G a S) → lv_has ls 2 [(0, .ref (a 0)), (1, .int x1)] → W p l e (RM 0 0) s m args below meth c H locs 0 0 Q (F0 m 51 ls []) := by
    intro k hk fu
    induction fu with
    | zero =>
      intro S x1 H locs ls hF hs hl
      exact nomatch (show (none : Option (MS)) = some r from hF)
    | succ fu hrec =>
      intro S x1 H locs ls hF hs hl
      have hF : (B_X5_keeps_51 k) (lo2 (B_X5_keeps_51 k) fu) S x1 = some r := hF
      unfold B_X5_keeps_51 at hF
      refine lv_iload_n hx hb dX5_keeps_51 rfl (lv_at hl 1 rfl) ?_
      refine lv_bipush (v := (82 : Int32)) hx hb dX5_keeps_52 (by decide) ?_
      refine lv_icmp_ge (tgt := 83) hx hb dX5_keeps_54 (by decide) (fun hc => ?_) (fun hc => ?_)
      · have hF := (if_pos hc).symm.trans hF
        exact hk S _ _ _ hF hs (lv_sub hl [0] rfl)
      · have hF := (if_neg hc).symm.trans hF
        refine lv_aload_n hx hb dX5_keeps_57 rfl (lv_at hl 0 rfl) ?_
        refine fg_X5_23 hx hb hown hts hE hs 0 rfl (v := .ref (a 4)) rfl dX5_keeps_58 ?_
        refine lv_bipush (v := (82 : Int32)) hx hb dX5_keeps_61 (by decide) ?_
        refine lv_aload_n hx hb dX5_keeps_63 rfl (lv_at hl 0 rfl) ?_
        refine fg_X5_229 hx hb hown hts hE hs 0 rfl (v := .int (m_acts S)) rfl dX5_keeps_64 ?_
        refine lv_imul hx hb dX5_keeps_67 ?_
        refine lv_iload_n hx hb dX5_keeps_68 rfl (lv_at hl 1 rfl) ?_
        refine lv_iadd hx hb dX5_keeps_69 ?_
        refine lv_aload_n hx hb dX5_keeps_70 rfl (lv_at hl 0 rfl) ?_
        refine fg_X5_13 hx hb hown hts hE hs 0 rfl (v := .ref (a 1)) rfl dX5_keeps_71 ?_
        refine lv_iload_n hx hb dX5_keeps_74 rfl (lv_at hl 1 rfl) ?_
        obtain ⟨v1, hv1, hF⟩ := bd hF
        refine sx_iald hx hb hE hs 1 (f := m_s S) rfl hv1 dX5_keeps_75 ?_
        obtain ⟨f2, hf2, hF⟩ := bd hF
        obtain ⟨S3, eS3, hF⟩ := nm_some hF
        refine sx_iast hx hb hE hs 4 (f := m_past S) rfl hf2 (ws' := WM G a S3) (by subst eS3; rfl) dX5_keeps_76 (fun H locs hs => ?_)
        obtain ⟨v4, ev4, hF⟩ := nm_some hF
        refine lv_iinc (v := v4) (lv' := [(1, .int v4), (0, .ref (a 0))]) hx hb dX5_keeps_77 hl (k := 1) rfl (by rw [ev4]; rfl) (by decide) rfl (fun ls hl => ?_)
        refine lv_goto (tgt := 51) hx hb dX5_keeps_80 (by decide) ?_
        exact hrec S3 v4 _ _ _ hF hs (lv_sub hl [1, 0] rfl)
  have hJ49_n : ∀ (S : MS) (H : Heap) (locs : List Loc) (ls : Array Slot), J_X5_keeps_49 S = some r → SI G A s H locs (WM G a S) → lv_has ls 2 [(0, .ref (a 0))] → W p l e (RM 0 0) s m args below meth c H locs 0 0 Q (F0 m 49 ls []) := by
    intro S H locs ls hF hs hl
    unfold J_X5_keeps_49 at hF
    refine lv_iconst (v := (0 : Int32)) hx hb dX5_keeps_49 (by decide) ?_
    refine lv_istore_n (lv' := [(1, .int (0 : Int32)), (0, .ref (a 0))]) hx hb dX5_keeps_50 rfl hl (by decide) rfl (fun ls hl => ?_)
    refine hL51 _ (fun S5 H locs ls hF hs hl => ?_) FU S (0 : Int32) _ _ _ hF hs (lv_sub hl [1, 0] rfl)
    refine lv_aload_n hx hb dX5_keeps_83 rfl (lv_at hl 0 rfl) ?_
    refine lv_dup hx hb dX5_keeps_84 rfl ?_
    refine fg_X5_229 hx hb hown hts hE hs 0 rfl (v := .int (m_acts S5)) rfl dX5_keeps_85 ?_
    refine lv_iconst (v := (1 : Int32)) hx hb dX5_keeps_88 (by decide) ?_
    refine lv_iadd hx hb dX5_keeps_89 ?_
    obtain ⟨S6, eS6, hF⟩ := nm_some hF
    refine fp_X5_229 hx hb hown hts hE hs 0 rfl (ws' := WM G a S6) (Nat.le_of_ble_eq_true rfl) (by subst eS6; rfl) dX5_keeps_90 (fun H locs hs => ?_)
    exact sx_vret hx hb hr hlk hQ (congrArg (fun z => WM G a z) (Option.some.inj hF)) hs dX5_keeps_93
  have hL11 : ∀ (k : MS → Option (MS)) (hk : ∀ (S : MS) (H : Heap) (locs : List Loc) (ls : Array Slot), k S = some r → SI G A s H locs (WM G a S) → lv_has ls 2 [(0, .ref (a 0))] → W p l e (RM 0 0) s m args below meth c H locs 0 0 Q (F0 m 39 ls [])) (fu : Nat) (S : MS) (x1 : Int32) (H : Heap) (locs : List Loc) (ls : Array Slot), lo2 (B_X5_keeps_11 k) fu S x1 = some r → SI G A s H locs (WM G a S) → lv_has ls 2 [(0, .ref (a 0)), (1, .int x1)] → W p l e (RM 0 0) s m args below meth c H locs 0 0 Q (F0 m 11 ls []) := by
    intro k hk fu
    induction fu with
    | zero =>
      intro S x1 H locs ls hF hs hl
      exact nomatch (show (none : Option (MS)) = some r from hF)
    | succ fu hrec =>
      intro S x1 H locs ls hF hs hl
      have hF : (B_X5_keeps_11 k) (lo2 (B_X5_keeps_11 k) fu) S x1 = some r := hF
      unfold B_X5_keeps_11 at hF
      refine lv_iload_n hx hb dX5_keeps_11 rfl (lv_at hl 1 rfl) ?_
      refine lv_sipush (v := (738 : Int32)) hx hb dX5_keeps_12 (by decide) ?_
      refine lv_icmp_ge (tgt := 39) hx hb dX5_keeps_15 (by decide) (fun hc => ?_) (fun hc => ?_)
      · have hF := (if_pos hc).symm.trans hF
        exact hk S _ _ _ hF hs (lv_sub hl [0] rfl)
      · have hF := (if_neg hc).symm.trans hF
        refine lv_aload_n hx hb dX5_keeps_18 rfl (lv_at hl 0 rfl) ?_
        refine fg_X5_23 hx hb hown hts hE hs 0 rfl (v := .ref (a 4)) rfl dX5_keeps_19 ?_
        refine lv_iload_n hx hb dX5_keeps_22 rfl (lv_at hl 1 rfl) ?_
        refine lv_aload_n hx hb dX5_keeps_23 rfl (lv_at hl 0 rfl) ?_
        refine fg_X5_23 hx hb hown hts hE hs 0 rfl (v := .ref (a 4)) rfl dX5_keeps_24 ?_
        refine lv_iload_n hx hb dX5_keeps_27 rfl (lv_at hl 1 rfl) ?_
        refine lv_bipush (v := (82 : Int32)) hx hb dX5_keeps_28 (by decide) ?_
        refine lv_iadd hx hb dX5_keeps_30 ?_
        obtain ⟨v7, hv7, hF⟩ := bd hF
        refine sx_iald hx hb hE hs 4 (f := m_past S) rfl hv7 dX5_keeps_31 ?_
        obtain ⟨f8, hf8, hF⟩ := bd hF
        obtain ⟨S9, eS9, hF⟩ := nm_some hF
        refine sx_iast hx hb hE hs 4 (f := m_past S) rfl hf8 (ws' := WM G a S9) (by subst eS9; rfl) dX5_keeps_32 (fun H locs hs => ?_)
        obtain ⟨v10, ev10, hF⟩ := nm_some hF
        refine lv_iinc (v := v10) (lv' := [(1, .int v10), (0, .ref (a 0))]) hx hb dX5_keeps_33 hl (k := 1) rfl (by rw [ev10]; rfl) (by decide) rfl (fun ls hl => ?_)
        refine lv_goto (tgt := 11) hx hb dX5_keeps_36 (by decide) ?_
        exact hrec S9 v10 _ _ _ hF hs (lv_sub hl [1, 0] rfl)
  unfold F_X5_keeps at hF
  refine lv_aload_n hx hb dX5_keeps_0 rfl (lv_at hl 0 rfl) ?_
  refine fg_X5_229 hx hb hown hts hE hs 0 rfl (v := .int (m_acts S)) rfl dX5_keeps_1 ?_
  refine lv_bipush (v := (10 : Int32)) hx hb dX5_keeps_4 (by decide) ?_
  refine lv_icmp_ne (tgt := 49) hx hb dX5_keeps_6 (by decide) (fun hc => ?_) (fun hc => ?_)
  · have hF := (if_neg hc).symm.trans hF
    exact hJ49_n S _ _ _ hF hs (lv_sub hl [0] rfl)
  · have hF := (if_pos hc).symm.trans hF
    refine lv_iconst (v := (0 : Int32)) hx hb dX5_keeps_9 (by decide) ?_
    refine lv_istore_n (lv' := [(1, .int (0 : Int32)), (0, .ref (a 0))]) hx hb dX5_keeps_10 rfl hl (by decide) rfl (fun ls hl => ?_)
    refine hL11 _ (fun S11 H locs ls hF hs hl => ?_) FU S (0 : Int32) _ _ _ hF hs (lv_sub hl [1, 0] rfl)
    refine lv_aload_n hx hb dX5_keeps_39 rfl (lv_at hl 0 rfl) ?_
    refine lv_dup hx hb dX5_keeps_40 rfl ?_
    refine fg_X5_229 hx hb hown hts hE hs 0 rfl (v := .int (m_acts S11)) rfl dX5_keeps_41 ?_
    refine lv_iconst (v := (1 : Int32)) hx hb dX5_keeps_44 (by decide) ?_
    refine lv_isub hx hb dX5_keeps_45 ?_
    obtain ⟨S12, eS12, hF⟩ := nm_some hF
    refine fp_X5_229 hx hb hown hts hE hs 0 rfl (ws' := WM G a S12) (Nat.le_of_ble_eq_true rfl) (by subst eS12; rfl) dX5_keeps_46 (fun H locs hs => ?_)
    exact hJ49_n S12 _ _ _ hF hs (lv_sub hl [0] rfl)
set_option maxHeartbeats 4000000 in
set_option maxRecDepth 100000 in
theorem c_X5_shift (G : GT) (l : Launch) (a : Nat → Nat) (S : MS) (x1 : Int32) (x2 : Int32) (x3 : Int32) (r : Int32 × MS) (hF : F_X5_shift S x1 x2 x3 = some r) : MT G l yX5_shift cX5_shift 4 (some .int) 2 46 [.ref (a 0), .int x1, .int x2, .int x3] (WM G a S) (some (.int r.1)) (WM G a r.2) := by
  refine MT.of (by decide) (Nat.le_of_ble_eq_true rfl) ?_
  intro p e s m args below meth c A ls hx hb hr hml hown hts hlk hE hA hs hl Q hQ
  have hl : lv_has ls 4 [(0, .ref (a 0)), (1, .int x1), (2, .int x2), (3, .int x3)] := hl
  have hJ82_n : ∀ (S : MS) (x1 : Int32) (x2 : Int32) (x3 : Int32) (y0 : Int32) (H : Heap) (locs : List Loc) (ls : Array Slot), J_X5_shift_82 S x1 x2 x3 y0 = some r → SI G A s H locs (WM G a S) → lv_has ls 4 [(0, .ref (a 0)), (1, .int x1), (2, .int x2), (3, .int x3)] → W p l e (RM 2 46) s m args below meth c H locs 0 0 Q (F0 m 82 ls [.int y0, .ref (a 0)]) := by
    intro S x1 x2 x3 y0 H locs ls hF hs hl
    unfold J_X5_shift_82 at hF
    refine lv_iconst (v := (5 : Int32)) hx hb dX5_shift_82 (by decide) ?_
    obtain ⟨q6, hq6, hF⟩ := bd hF
    refine sx_V (As := [.int y0, .int (5 : Int32)]) (rest := []) (st1 := [.int q6.1]) (c_X5_refuse G l a S y0 (5 : Int32) q6 hq6) v_X5_215 ⟨(Nat.le_of_ble_eq_true rfl), (Nat.le_of_ble_eq_true rfl)⟩ hx hb hml hown hts hE hA hs ⟨Nat.le_refl 0, Nat.le_refl 0⟩ 0 rfl rfl rfl rfl rfl hl.1 (Nat.le_of_ble_eq_true rfl) dX5_shift_83 (pmW _) (ws' := WM G a q6.2) (pmW _) (fun H locs hs => ?_)
    refine lv_if_eq (tgt := 91) hx hb dX5_shift_86 (by decide) (fun hc => ?_) (fun hc => ?_)
    · have hF := (if_pos hc).symm.trans hF
      refine lv_aload_n hx hb dX5_shift_91 rfl (lv_at hl 0 rfl) ?_
      obtain ⟨q7, hq7, hF⟩ := bd hF
      refine sx_V (As := []) (rest := []) (st1 := []) (c_X5_keeps G l a q6.2 q7 hq7) v_X5_392 ⟨(Nat.le_of_ble_eq_true rfl), (Nat.le_of_ble_eq_true rfl)⟩ hx hb hml hown hts hE hA hs ⟨Nat.le_refl 0, Nat.le_refl 0⟩ 0 rfl rfl rfl rfl rfl hl.1 (Nat.le_of_ble_eq_true rfl) dX5_shift_92 (pmW _) (ws' := WM G a q7) (pmW _) (fun H locs hs => ?_)
      refine lv_aload_n hx hb dX5_shift_95 rfl (lv_at hl 0 rfl) ?_
      refine fg_X5_13 hx hb hown hts hE hs 0 rfl (v := .ref (a 1)) rfl dX5_shift_96 ?_
      refine lv_bipush (v := (10 : Int32)) hx hb dX5_shift_99 (by decide) ?_
      refine lv_bipush (v := (6 : Int32)) hx hb dX5_shift_101 (by decide) ?_
      refine lv_iload_n hx hb dX5_shift_103 rfl (lv_at hl 1 rfl) ?_
      refine lv_imul hx hb dX5_shift_104 ?_
      refine lv_iadd hx hb dX5_shift_105 ?_
      refine lv_iconst (v := (1 : Int32)) hx hb dX5_shift_106 (by decide) ?_
      refine lv_iadd hx hb dX5_shift_107 ?_
      obtain ⟨v8, ev8, hF⟩ := nm_some hF
      refine sx_topi ev8 ?_
      refine lv_dup2_11 hx hb dX5_shift_108 rfl rfl ?_
      obtain ⟨v9, hv9, hF⟩ := bd hF
      refine sx_iald hx hb hE hs 1 (f := m_s q7) rfl hv9 dX5_shift_109 ?_
      refine lv_iload_n hx hb dX5_shift_110 rfl (lv_at hl 3 rfl) ?_
      refine lv_isub hx hb dX5_shift_111 ?_
      obtain ⟨f10, hf10, hF⟩ := bd hF
      obtain ⟨S11, eS11, hF⟩ := nm_some hF
      refine sx_iast hx hb hE hs 1 (f := m_s q7) rfl hf10 (ws' := WM G a S11) (by subst eS11; rfl) dX5_shift_112 (fun H locs hs => ?_)
      refine lv_aload_n hx hb dX5_shift_113 rfl (lv_at hl 0 rfl) ?_
      refine fg_X5_13 hx hb hown hts hE hs 0 rfl (v := .ref (a 1)) rfl dX5_shift_114 ?_
      refine lv_bipush (v := (10 : Int32)) hx hb dX5_shift_117 (by decide) ?_
      refine lv_bipush (v := (6 : Int32)) hx hb dX5_shift_119 (by decide) ?_
      refine lv_iload_n hx hb dX5_shift_121 rfl (lv_at hl 2 rfl) ?_
      refine lv_imul hx hb dX5_shift_122 ?_
      refine lv_iadd hx hb dX5_shift_123 ?_
      refine lv_iconst (v := (1 : Int32)) hx hb dX5_shift_124 (by decide) ?_
      refine lv_iadd hx hb dX5_shift_125 ?_
      obtain ⟨v12, ev12, hF⟩ := nm_some hF
      refine sx_topi ev12 ?_
      refine lv_dup2_11 hx hb dX5_shift_126 rfl rfl ?_
      obtain ⟨v13, hv13, hF⟩ := bd hF
      refine sx_iald hx hb hE hs 1 (f := m_s S11) rfl hv13 dX5_shift_127 ?_
      refine lv_iload_n hx hb dX5_shift_128 rfl (lv_at hl 3 rfl) ?_
      refine lv_iadd hx hb dX5_shift_129 ?_
      obtain ⟨f14, hf14, hF⟩ := bd hF
      obtain ⟨S15, eS15, hF⟩ := nm_some hF
      refine sx_iast hx hb hE hs 1 (f := m_s S11) rfl hf14 (ws' := WM G a S15) (by subst eS15; rfl) dX5_shift_130 (fun H locs hs => ?_)
      refine lv_aload_n hx hb dX5_shift_131 rfl (lv_at hl 0 rfl) ?_
      refine fg_X5_13 hx hb hown hts hE hs 0 rfl (v := .ref (a 1)) rfl dX5_shift_132 ?_
      refine lv_iload_n hx hb dX5_shift_135 rfl (lv_at hl 2 rfl) ?_
      refine lv_iconst (v := (1 : Int32)) hx hb dX5_shift_136 (by decide) ?_
      obtain ⟨q16, hq16, hF⟩ := bd hF
      refine sx_S (As := [.ref (a 1), .int x2, .int (1 : Int32)]) (rest := []) (st1 := [.int q16]) (c_X5_ofShip G l (a 1) (m_s S15) x2 (1 : Int32) q16 hq16) v_X5_243 ⟨(Nat.le_of_ble_eq_true rfl), (Nat.le_of_ble_eq_true rfl)⟩ hx hb hml hown hts hE hA hs ⟨Nat.le_refl 0, Nat.le_refl 0⟩ rfl rfl rfl hl.1 (Nat.le_of_ble_eq_true rfl) dX5_shift_137 (pM_s G a S15 (m_s S15)) (ws' := WM G a S15) (pM_s G a S15 (m_s S15)) (fun H locs hs => ?_)
      exact sx_iret hx hb hr hlk hQ (congrArg Prod.fst (Option.some.inj hF)) (congrArg (fun z => WM G a z) (congrArg Prod.snd (Option.some.inj hF))) hs dX5_shift_140
    · have hF := (if_neg hc).symm.trans hF
      refine lv_iconst (v := (-1 : Int32)) hx hb dX5_shift_89 (by decide) ?_
      exact sx_iret hx hb hr hlk hQ (congrArg Prod.fst (Option.some.inj hF)) (congrArg (fun z => WM G a z) (congrArg Prod.snd (Option.some.inj hF))) hs dX5_shift_90
  have hJ77_n : ∀ (S : MS) (x1 : Int32) (x2 : Int32) (x3 : Int32) (H : Heap) (locs : List Loc) (ls : Array Slot), J_X5_shift_77 S x1 x2 x3 = some r → SI G A s H locs (WM G a S) → lv_has ls 4 [(0, .ref (a 0)), (1, .int x1), (2, .int x2), (3, .int x3)] → W p l e (RM 2 46) s m args below meth c H locs 0 0 Q (F0 m 77 ls [.ref (a 0)]) := by
    intro S x1 x2 x3 H locs ls hF hs hl
    unfold J_X5_shift_77 at hF
    refine lv_iconst (v := (1 : Int32)) hx hb dX5_shift_77 (by decide) ?_
    refine lv_goto (tgt := 82) hx hb dX5_shift_78 (by decide) ?_
    exact hJ82_n S x1 x2 x3 (1 : Int32) _ _ _ hF hs (lv_sub hl [0, 1, 2, 3] rfl)
  have hJ51_n : ∀ (S : MS) (x1 : Int32) (x2 : Int32) (x3 : Int32) (y0 : Int32) (H : Heap) (locs : List Loc) (ls : Array Slot), J_X5_shift_51 S x1 x2 x3 y0 = some r → SI G A s H locs (WM G a S) → lv_has ls 4 [(0, .ref (a 0)), (1, .int x1), (2, .int x2), (3, .int x3)] → W p l e (RM 2 46) s m args below meth c H locs 0 0 Q (F0 m 51 ls [.int y0, .ref (a 0)]) := by
    intro S x1 x2 x3 y0 H locs ls hF hs hl
    unfold J_X5_shift_51 at hF
    refine lv_iconst (v := (2 : Int32)) hx hb dX5_shift_51 (by decide) ?_
    obtain ⟨q5, hq5, hF⟩ := bd hF
    refine sx_V (As := [.int y0, .int (2 : Int32)]) (rest := []) (st1 := [.int q5.1]) (c_X5_refuse G l a S y0 (2 : Int32) q5 hq5) v_X5_215 ⟨(Nat.le_of_ble_eq_true rfl), (Nat.le_of_ble_eq_true rfl)⟩ hx hb hml hown hts hE hA hs ⟨Nat.le_refl 0, Nat.le_refl 0⟩ 0 rfl rfl rfl rfl rfl hl.1 (Nat.le_of_ble_eq_true rfl) dX5_shift_52 (pmW _) (ws' := WM G a q5.2) (pmW _) (fun H locs hs => ?_)
    refine lv_if_ne (tgt := 89) hx hb dX5_shift_55 (by decide) (fun hc => ?_) (fun hc => ?_)
    · have hF := (if_neg hc).symm.trans hF
      refine lv_iconst (v := (-1 : Int32)) hx hb dX5_shift_89 (by decide) ?_
      exact sx_iret hx hb hr hlk hQ (congrArg Prod.fst (Option.some.inj hF)) (congrArg (fun z => WM G a z) (congrArg Prod.snd (Option.some.inj hF))) hs dX5_shift_90
    · have hF := (if_pos hc).symm.trans hF
      refine lv_aload_n hx hb dX5_shift_58 rfl (lv_at hl 0 rfl) ?_
      refine lv_iload_n hx hb dX5_shift_59 rfl (lv_at hl 1 rfl) ?_
      refine lv_iload_n hx hb dX5_shift_60 rfl (lv_at hl 2 rfl) ?_
      refine lv_icmp_eq (tgt := 77) hx hb dX5_shift_61 (by decide) (fun hc => ?_) (fun hc => ?_)
      · have hF := (if_pos hc).symm.trans hF
        exact hJ77_n q5.2 x1 x2 x3 _ _ _ hF hs (lv_sub hl [0, 1, 2, 3] rfl)
      · have hF := (if_neg hc).symm.trans hF
        refine lv_aload_n hx hb dX5_shift_64 rfl (lv_at hl 0 rfl) ?_
        refine fg_X5_13 hx hb hown hts hE hs 0 rfl (v := .ref (a 1)) rfl dX5_shift_65 ?_
        refine lv_iload_n hx hb dX5_shift_68 rfl (lv_at hl 1 rfl) ?_
        refine lv_iconst (v := (1 : Int32)) hx hb dX5_shift_69 (by decide) ?_
        obtain ⟨q17, hq17, hF⟩ := bd hF
        refine sx_S (As := [.ref (a 1), .int x1, .int (1 : Int32)]) (rest := [.ref (a 0)]) (st1 := [.int q17, .ref (a 0)]) (c_X5_ofShip G l (a 1) (m_s q5.2) x1 (1 : Int32) q17 hq17) v_X5_243 ⟨(Nat.le_of_ble_eq_true rfl), (Nat.le_of_ble_eq_true rfl)⟩ hx hb hml hown hts hE hA hs ⟨Nat.le_refl 0, Nat.le_refl 0⟩ rfl rfl rfl hl.1 (Nat.le_of_ble_eq_true rfl) dX5_shift_70 (pM_s G a q5.2 (m_s q5.2)) (ws' := WM G a q5.2) (pM_s G a q5.2 (m_s q5.2)) (fun H locs hs => ?_)
        refine lv_iload_n hx hb dX5_shift_73 rfl (lv_at hl 3 rfl) ?_
        refine lv_icmp_ge (tgt := 81) hx hb dX5_shift_74 (by decide) (fun hc => ?_) (fun hc => ?_)
        · have hF := (if_pos hc).symm.trans hF
          refine lv_iconst (v := (0 : Int32)) hx hb dX5_shift_81 (by decide) ?_
          exact hJ82_n q5.2 x1 x2 x3 (0 : Int32) _ _ _ hF hs (lv_sub hl [0, 1, 2, 3] rfl)
        · have hF := (if_neg hc).symm.trans hF
          exact hJ77_n q5.2 x1 x2 x3 _ _ _ hF hs (lv_sub hl [0, 1, 2, 3] rfl)
  have hJ26_n : ∀ (S : MS) (x1 : Int32) (x2 : Int32) (x3 : Int32) (y0 : Int32) (H : Heap) (locs : List Loc) (ls : Array Slot), J_X5_shift_26 S x1 x2 x3 y0 = some r → SI G A s H locs (WM G a S) → lv_has ls 4 [(0, .ref (a 0)), (1, .int x1), (2, .int x2), (3, .int x3)] → W p l e (RM 2 46) s m args below meth c H locs 0 0 Q (F0 m 26 ls [.int y0, .ref (a 0)]) := by
    intro S x1 x2 x3 y0 H locs ls hF hs hl
    unfold J_X5_shift_26 at hF
    refine lv_iconst (v := (1 : Int32)) hx hb dX5_shift_26 (by decide) ?_
    obtain ⟨q3, hq3, hF⟩ := bd hF
    refine sx_V (As := [.int y0, .int (1 : Int32)]) (rest := []) (st1 := [.int q3.1]) (c_X5_refuse G l a S y0 (1 : Int32) q3 hq3) v_X5_215 ⟨(Nat.le_of_ble_eq_true rfl), (Nat.le_of_ble_eq_true rfl)⟩ hx hb hml hown hts hE hA hs ⟨Nat.le_refl 0, Nat.le_refl 0⟩ 0 rfl rfl rfl rfl rfl hl.1 (Nat.le_of_ble_eq_true rfl) dX5_shift_27 (pmW _) (ws' := WM G a q3.2) (pmW _) (fun H locs hs => ?_)
    refine lv_if_ne (tgt := 89) hx hb dX5_shift_30 (by decide) (fun hc => ?_) (fun hc => ?_)
    · have hF := (if_neg hc).symm.trans hF
      refine lv_iconst (v := (-1 : Int32)) hx hb dX5_shift_89 (by decide) ?_
      exact sx_iret hx hb hr hlk hQ (congrArg Prod.fst (Option.some.inj hF)) (congrArg (fun z => WM G a z) (congrArg Prod.snd (Option.some.inj hF))) hs dX5_shift_90
    · have hF := (if_pos hc).symm.trans hF
      refine lv_aload_n hx hb dX5_shift_33 rfl (lv_at hl 0 rfl) ?_
      refine lv_iload_n hx hb dX5_shift_34 rfl (lv_at hl 3 rfl) ?_
      refine lv_i2l hx hb dX5_shift_35 rfl ?_
      refine lv_lconst (v := (1 : Int64)) hx hb dX5_shift_36 (by decide) ?_
      refine lv_ldc2 (v := (10 : Int64)) hx hb hown (hts _ g1205) dX5_shift_37 ?_
      obtain ⟨q4, hq4, hF⟩ := bd hF
      refine sx_S (As := [.long x3.toInt64, .long (1 : Int64), .long (10 : Int64)]) (rest := [.ref (a 0)]) (st1 := [.int q4, .ref (a 0)]) (c_X5_in G l  x3.toInt64 (1 : Int64) (10 : Int64) q4 hq4) v_X5_161 ⟨(Nat.le_of_ble_eq_true rfl), (Nat.le_of_ble_eq_true rfl)⟩ hx hb hml hown hts hE hA hs ⟨Nat.le_refl 0, Nat.le_refl 0⟩ rfl rfl rfl hl.1 (Nat.le_of_ble_eq_true rfl) dX5_shift_40 (List.Perm.refl _) (ws' := WM G a q3.2) (List.Perm.refl _) (fun H locs hs => ?_)
      refine lv_if_ne (tgt := 50) hx hb dX5_shift_43 (by decide) (fun hc => ?_) (fun hc => ?_)
      · have hF := (if_neg hc).symm.trans hF
        refine lv_iconst (v := (0 : Int32)) hx hb dX5_shift_50 (by decide) ?_
        exact hJ51_n q3.2 x1 x2 x3 (0 : Int32) _ _ _ hF hs (lv_sub hl [0, 1, 2, 3] rfl)
      · have hF := (if_pos hc).symm.trans hF
        refine lv_iconst (v := (1 : Int32)) hx hb dX5_shift_46 (by decide) ?_
        refine lv_goto (tgt := 51) hx hb dX5_shift_47 (by decide) ?_
        exact hJ51_n q3.2 x1 x2 x3 (1 : Int32) _ _ _ hF hs (lv_sub hl [0, 1, 2, 3] rfl)
  have hJ21_n : ∀ (S : MS) (x1 : Int32) (x2 : Int32) (x3 : Int32) (H : Heap) (locs : List Loc) (ls : Array Slot), J_X5_shift_21 S x1 x2 x3 = some r → SI G A s H locs (WM G a S) → lv_has ls 4 [(0, .ref (a 0)), (1, .int x1), (2, .int x2), (3, .int x3)] → W p l e (RM 2 46) s m args below meth c H locs 0 0 Q (F0 m 21 ls [.ref (a 0)]) := by
    intro S x1 x2 x3 H locs ls hF hs hl
    unfold J_X5_shift_21 at hF
    refine lv_iconst (v := (1 : Int32)) hx hb dX5_shift_21 (by decide) ?_
    refine lv_goto (tgt := 26) hx hb dX5_shift_22 (by decide) ?_
    exact hJ26_n S x1 x2 x3 (1 : Int32) _ _ _ hF hs (lv_sub hl [0, 1, 2, 3] rfl)
  unfold F_X5_shift at hF
  refine lv_aload_n hx hb dX5_shift_0 rfl (lv_at hl 0 rfl) ?_
  obtain ⟨q1, hq1, hF⟩ := bd hF
  refine sx_V (As := []) (rest := []) (st1 := []) (c_X5_begins G l a S q1 hq1) v_X5_212 ⟨(Nat.le_of_ble_eq_true rfl), (Nat.le_of_ble_eq_true rfl)⟩ hx hb hml hown hts hE hA hs ⟨Nat.le_refl 0, Nat.le_refl 0⟩ 0 rfl rfl rfl rfl rfl hl.1 (Nat.le_of_ble_eq_true rfl) dX5_shift_1 (pmW _) (ws' := WM G a q1) (pmW _) (fun H locs hs => ?_)
  refine lv_aload_n hx hb dX5_shift_4 rfl (lv_at hl 0 rfl) ?_
  refine lv_aload_n hx hb dX5_shift_5 rfl (lv_at hl 0 rfl) ?_
  refine lv_iload_n hx hb dX5_shift_6 rfl (lv_at hl 1 rfl) ?_
  obtain ⟨q2, hq2, hF⟩ := bd hF
  refine sx_V (As := [.int x1]) (rest := [.ref (a 0)]) (st1 := [.int q2, .ref (a 0)]) (c_X5_isShip G l a q1 x1 q2 hq2) v_X5_234 ⟨(Nat.le_of_ble_eq_true rfl), (Nat.le_of_ble_eq_true rfl)⟩ hx hb hml hown hts hE hA hs ⟨Nat.le_refl 0, Nat.le_refl 0⟩ 0 rfl rfl rfl rfl rfl hl.1 (Nat.le_of_ble_eq_true rfl) dX5_shift_7 (pmW _) (ws' := WM G a q1) (pmW _) (fun H locs hs => ?_)
  refine lv_if_eq (tgt := 21) hx hb dX5_shift_10 (by decide) (fun hc => ?_) (fun hc => ?_)
  · have hF := (if_pos hc).symm.trans hF
    exact hJ21_n q1 x1 x2 x3 _ _ _ hF hs (lv_sub hl [0, 1, 2, 3] rfl)
  · have hF := (if_neg hc).symm.trans hF
    refine lv_aload_n hx hb dX5_shift_13 rfl (lv_at hl 0 rfl) ?_
    refine lv_iload_n hx hb dX5_shift_14 rfl (lv_at hl 2 rfl) ?_
    obtain ⟨q18, hq18, hF⟩ := bd hF
    refine sx_V (As := [.int x2]) (rest := [.ref (a 0)]) (st1 := [.int q18, .ref (a 0)]) (c_X5_isShip G l a q1 x2 q18 hq18) v_X5_234 ⟨(Nat.le_of_ble_eq_true rfl), (Nat.le_of_ble_eq_true rfl)⟩ hx hb hml hown hts hE hA hs ⟨Nat.le_refl 0, Nat.le_refl 0⟩ 0 rfl rfl rfl rfl rfl hl.1 (Nat.le_of_ble_eq_true rfl) dX5_shift_15 (pmW _) (ws' := WM G a q1) (pmW _) (fun H locs hs => ?_)
    refine lv_if_ne (tgt := 25) hx hb dX5_shift_18 (by decide) (fun hc => ?_) (fun hc => ?_)
    · have hF := (if_neg hc).symm.trans hF
      refine lv_iconst (v := (0 : Int32)) hx hb dX5_shift_25 (by decide) ?_
      exact hJ26_n q1 x1 x2 x3 (0 : Int32) _ _ _ hF hs (lv_sub hl [0, 1, 2, 3] rfl)
    · have hF := (if_pos hc).symm.trans hF
      exact hJ21_n q1 x1 x2 x3 _ _ _ hF hs (lv_sub hl [0, 1, 2, 3] rfl)
set_option maxHeartbeats 4000000 in
set_option maxRecDepth 100000 in
theorem c_X5_file (G : GT) (l : Launch) (a : Nat → Nat) (S : MS) (x1 : Int32) (x2 : Int32) (x3 : Int32) (x4 : Int32) (r : Int32 × MS) (hF : F_X5_file S x1 x2 x3 x4 = some r) : MT G l yX5_file cX5_file 6 (some .int) 2 46 [.ref (a 0), .int x1, .int x2, .int x3, .int x4] (WM G a S) (some (.int r.1)) (WM G a r.2) := by
  refine MT.of (by decide) (Nat.le_of_ble_eq_true rfl) ?_
  intro p e s m args below meth c A ls hx hb hr hml hown hts hlk hE hA hs hl Q hQ
  have hl : lv_has ls 6 [(0, .ref (a 0)), (1, .int x1), (2, .int x2), (3, .int x3), (4, .int x4)] := hl
  have hJ159_n : ∀ (S : MS) (x3 : Int32) (x4 : Int32) (x5 : Int32) (y0 : Int32) (y1 : Int32) (H : Heap) (locs : List Loc) (ls : Array Slot), J_X5_file_159 S x3 x4 x5 y0 y1 = some r → SI G A s H locs (WM G a S) → lv_has ls 6 [(0, .ref (a 0)), (3, .int x3), (4, .int x4), (5, .int x5)] → W p l e (RM 2 46) s m args below meth c H locs 0 0 Q (F0 m 159 ls [.int y0, .int y1, .ref (a 1)]) := by
    intro S x3 x4 x5 y0 y1 H locs ls hF hs hl
    unfold J_X5_file_159 at hF
    obtain ⟨f12, hf12, hF⟩ := bd hF
    obtain ⟨S13, eS13, hF⟩ := nm_some hF
    refine sx_iast hx hb hE hs 1 (f := m_s S) rfl hf12 (ws' := WM G a S13) (by subst eS13; rfl) dX5_file_159 (fun H locs hs => ?_)
    refine lv_aload_n hx hb dX5_file_160 rfl (lv_at hl 0 rfl) ?_
    refine fg_X5_13 hx hb hown hts hE hs 0 rfl (v := .ref (a 1)) rfl dX5_file_161 ?_
    refine lv_iload hx hb dX5_file_164 (lv_at hl 3 rfl) ?_
    refine lv_iconst (v := (2 : Int32)) hx hb dX5_file_166 (by decide) ?_
    refine lv_iadd hx hb dX5_file_167 ?_
    refine lv_iload_n hx hb dX5_file_168 rfl (lv_at hl 1 rfl) ?_
    obtain ⟨f14, hf14, hF⟩ := bd hF
    obtain ⟨S15, eS15, hF⟩ := nm_some hF
    refine sx_iast hx hb hE hs 1 (f := m_s S13) rfl hf14 (ws' := WM G a S15) (by subst eS15; rfl) dX5_file_169 (fun H locs hs => ?_)
    refine lv_aload_n hx hb dX5_file_170 rfl (lv_at hl 0 rfl) ?_
    refine fg_X5_13 hx hb hown hts hE hs 0 rfl (v := .ref (a 1)) rfl dX5_file_171 ?_
    refine lv_iload hx hb dX5_file_174 (lv_at hl 3 rfl) ?_
    refine lv_iconst (v := (3 : Int32)) hx hb dX5_file_176 (by decide) ?_
    refine lv_iadd hx hb dX5_file_177 ?_
    refine lv_iload hx hb dX5_file_178 (lv_at hl 2 rfl) ?_
    obtain ⟨f16, hf16, hF⟩ := bd hF
    obtain ⟨S17, eS17, hF⟩ := nm_some hF
    refine sx_iast hx hb hE hs 1 (f := m_s S15) rfl hf16 (ws' := WM G a S17) (by subst eS17; rfl) dX5_file_180 (fun H locs hs => ?_)
    refine lv_aload_n hx hb dX5_file_181 rfl (lv_at hl 0 rfl) ?_
    refine fg_X5_13 hx hb hown hts hE hs 0 rfl (v := .ref (a 1)) rfl dX5_file_182 ?_
    refine lv_iconst (v := (1 : Int32)) hx hb dX5_file_185 (by decide) ?_
    refine lv_dup2_11 hx hb dX5_file_186 rfl rfl ?_
    obtain ⟨v18, hv18, hF⟩ := bd hF
    refine sx_iald hx hb hE hs 1 (f := m_s S17) rfl hv18 dX5_file_187 ?_
    refine lv_iconst (v := (1 : Int32)) hx hb dX5_file_188 (by decide) ?_
    refine lv_iadd hx hb dX5_file_189 ?_
    obtain ⟨f19, hf19, hF⟩ := bd hF
    obtain ⟨S20, eS20, hF⟩ := nm_some hF
    refine sx_iast hx hb hE hs 1 (f := m_s S17) rfl hf19 (ws' := WM G a S20) (by subst eS20; rfl) dX5_file_190 (fun H locs hs => ?_)
    refine lv_aload_n hx hb dX5_file_191 rfl (lv_at hl 0 rfl) ?_
    refine fg_X5_13 hx hb hown hts hE hs 0 rfl (v := .ref (a 1)) rfl dX5_file_192 ?_
    refine lv_iconst (v := (1 : Int32)) hx hb dX5_file_195 (by decide) ?_
    obtain ⟨v21, hv21, hF⟩ := bd hF
    refine sx_iald hx hb hE hs 1 (f := m_s S20) rfl hv21 dX5_file_196 ?_
    refine lv_iconst (v := (1 : Int32)) hx hb dX5_file_197 (by decide) ?_
    refine lv_isub hx hb dX5_file_198 ?_
    exact sx_iret hx hb hr hlk hQ (congrArg Prod.fst (Option.some.inj hF)) (congrArg (fun z => WM G a z) (congrArg Prod.snd (Option.some.inj hF))) hs dX5_file_199
  have hJ105_n : ∀ (S : MS) (x1 : Int32) (x2 : Int32) (x3 : Int32) (x4 : Int32) (y0 : Int32) (H : Heap) (locs : List Loc) (ls : Array Slot), J_X5_file_105 S x1 x2 x3 x4 y0 = some r → SI G A s H locs (WM G a S) → lv_has ls 6 [(0, .ref (a 0)), (1, .int x1), (2, .int x2), (3, .int x3), (4, .int x4)] → W p l e (RM 2 46) s m args below meth c H locs 0 0 Q (F0 m 105 ls [.int y0, .ref (a 0)]) := by
    intro S x1 x2 x3 x4 y0 H locs ls hF hs hl
    unfold J_X5_file_105 at hF
    refine lv_iconst (v := (3 : Int32)) hx hb dX5_file_105 (by decide) ?_
    obtain ⟨q6, hq6, hF⟩ := bd hF
    refine sx_V (As := [.int y0, .int (3 : Int32)]) (rest := []) (st1 := [.int q6.1]) (c_X5_refuse G l a S y0 (3 : Int32) q6 hq6) v_X5_215 ⟨(Nat.le_of_ble_eq_true rfl), (Nat.le_of_ble_eq_true rfl)⟩ hx hb hml hown hts hE hA hs ⟨Nat.le_refl 0, Nat.le_refl 0⟩ 0 rfl rfl rfl rfl rfl hl.1 (Nat.le_of_ble_eq_true rfl) dX5_file_106 (pmW _) (ws' := WM G a q6.2) (pmW _) (fun H locs hs => ?_)
    refine lv_if_eq (tgt := 114) hx hb dX5_file_109 (by decide) (fun hc => ?_) (fun hc => ?_)
    · have hF := (if_pos hc).symm.trans hF
      refine lv_aload_n hx hb dX5_file_114 rfl (lv_at hl 0 rfl) ?_
      obtain ⟨q7, hq7, hF⟩ := bd hF
      refine sx_V (As := []) (rest := []) (st1 := []) (c_X5_keeps G l a q6.2 q7 hq7) v_X5_392 ⟨(Nat.le_of_ble_eq_true rfl), (Nat.le_of_ble_eq_true rfl)⟩ hx hb hml hown hts hE hA hs ⟨Nat.le_refl 0, Nat.le_refl 0⟩ 0 rfl rfl rfl rfl rfl hl.1 (Nat.le_of_ble_eq_true rfl) dX5_file_115 (pmW _) (ws' := WM G a q7) (pmW _) (fun H locs hs => ?_)
      refine lv_bipush (v := (34 : Int32)) hx hb dX5_file_118 (by decide) ?_
      refine lv_iconst (v := (4 : Int32)) hx hb dX5_file_120 (by decide) ?_
      refine lv_aload_n hx hb dX5_file_121 rfl (lv_at hl 0 rfl) ?_
      refine fg_X5_13 hx hb hown hts hE hs 0 rfl (v := .ref (a 1)) rfl dX5_file_122 ?_
      refine lv_iconst (v := (1 : Int32)) hx hb dX5_file_125 (by decide) ?_
      obtain ⟨v8, hv8, hF⟩ := bd hF
      refine sx_iald hx hb hE hs 1 (f := m_s q7) rfl hv8 dX5_file_126 ?_
      refine lv_imul hx hb dX5_file_127 ?_
      refine lv_iadd hx hb dX5_file_128 ?_
      obtain ⟨v9, ev9, hF⟩ := nm_some hF
      refine sx_topi ev9 ?_
      refine lv_istore (lv' := [(5, .int v9), (0, .ref (a 0)), (1, .int x1), (2, .int x2), (3, .int x3), (4, .int x4)]) hx hb dX5_file_129 hl (by decide) rfl (fun ls hl => ?_)
      refine lv_aload_n hx hb dX5_file_131 rfl (lv_at hl 1 rfl) ?_
      refine fg_X5_13 hx hb hown hts hE hs 0 rfl (v := .ref (a 1)) rfl dX5_file_132 ?_
      refine lv_iload hx hb dX5_file_135 (lv_at hl 0 rfl) ?_
      refine lv_iconst (v := (0 : Int32)) hx hb dX5_file_137 (by decide) ?_
      refine lv_iadd hx hb dX5_file_138 ?_
      refine lv_iload_n hx hb dX5_file_139 rfl (lv_at hl 2 rfl) ?_
      obtain ⟨f10, hf10, hF⟩ := bd hF
      obtain ⟨S11, eS11, hF⟩ := nm_some hF
      refine sx_iast hx hb hE hs 1 (f := m_s q7) rfl hf10 (ws' := WM G a S11) (by subst eS11; rfl) dX5_file_140 (fun H locs hs => ?_)
      refine lv_aload_n hx hb dX5_file_141 rfl (lv_at hl 1 rfl) ?_
      refine fg_X5_13 hx hb hown hts hE hs 0 rfl (v := .ref (a 1)) rfl dX5_file_142 ?_
      refine lv_iload hx hb dX5_file_145 (lv_at hl 0 rfl) ?_
      refine lv_iconst (v := (1 : Int32)) hx hb dX5_file_147 (by decide) ?_
      refine lv_iadd hx hb dX5_file_148 ?_
      refine lv_iload_n hx hb dX5_file_149 rfl (lv_at hl 2 rfl) ?_
      refine lv_if_ne (tgt := 157) hx hb dX5_file_150 (by decide) (fun hc => ?_) (fun hc => ?_)
      · have hF := (if_neg hc).symm.trans hF
        refine lv_bipush (v := (-2 : Int32)) hx hb dX5_file_157 (by decide) ?_
        exact hJ159_n S11 x3 x4 v9 (-2 : Int32) (v9 + (1 : Int32)) _ _ _ hF hs (lv_sub hl [1, 4, 5, 0] rfl)
      · have hF := (if_pos hc).symm.trans hF
        refine lv_iload_n hx hb dX5_file_153 rfl (lv_at hl 3 rfl) ?_
        refine lv_goto (tgt := 159) hx hb dX5_file_154 (by decide) ?_
        exact hJ159_n S11 x3 x4 v9 x2 (v9 + (1 : Int32)) _ _ _ hF hs (lv_sub hl [1, 4, 5, 0] rfl)
    · have hF := (if_neg hc).symm.trans hF
      refine lv_iconst (v := (-1 : Int32)) hx hb dX5_file_112 (by decide) ?_
      exact sx_iret hx hb hr hlk hQ (congrArg Prod.fst (Option.some.inj hF)) (congrArg (fun z => WM G a z) (congrArg Prod.snd (Option.some.inj hF))) hs dX5_file_113
  have hJ81_n : ∀ (S : MS) (x1 : Int32) (x2 : Int32) (x3 : Int32) (x4 : Int32) (y0 : Int32) (H : Heap) (locs : List Loc) (ls : Array Slot), J_X5_file_81 S x1 x2 x3 x4 y0 = some r → SI G A s H locs (WM G a S) → lv_has ls 6 [(0, .ref (a 0)), (1, .int x1), (2, .int x2), (3, .int x3), (4, .int x4)] → W p l e (RM 2 46) s m args below meth c H locs 0 0 Q (F0 m 81 ls [.int y0, .ref (a 0)]) := by
    intro S x1 x2 x3 x4 y0 H locs ls hF hs hl
    unfold J_X5_file_81 at hF
    refine lv_iconst (v := (2 : Int32)) hx hb dX5_file_81 (by decide) ?_
    obtain ⟨q4, hq4, hF⟩ := bd hF
    refine sx_V (As := [.int y0, .int (2 : Int32)]) (rest := []) (st1 := [.int q4.1]) (c_X5_refuse G l a S y0 (2 : Int32) q4 hq4) v_X5_215 ⟨(Nat.le_of_ble_eq_true rfl), (Nat.le_of_ble_eq_true rfl)⟩ hx hb hml hown hts hE hA hs ⟨Nat.le_refl 0, Nat.le_refl 0⟩ 0 rfl rfl rfl rfl rfl hl.1 (Nat.le_of_ble_eq_true rfl) dX5_file_82 (pmW _) (ws' := WM G a q4.2) (pmW _) (fun H locs hs => ?_)
    refine lv_if_ne (tgt := 112) hx hb dX5_file_85 (by decide) (fun hc => ?_) (fun hc => ?_)
    · have hF := (if_neg hc).symm.trans hF
      refine lv_iconst (v := (-1 : Int32)) hx hb dX5_file_112 (by decide) ?_
      exact sx_iret hx hb hr hlk hQ (congrArg Prod.fst (Option.some.inj hF)) (congrArg (fun z => WM G a z) (congrArg Prod.snd (Option.some.inj hF))) hs dX5_file_113
    · have hF := (if_pos hc).symm.trans hF
      refine lv_aload_n hx hb dX5_file_88 rfl (lv_at hl 0 rfl) ?_
      refine lv_aload_n hx hb dX5_file_89 rfl (lv_at hl 0 rfl) ?_
      refine fg_X5_13 hx hb hown hts hE hs 0 rfl (v := .ref (a 1)) rfl dX5_file_90 ?_
      refine lv_iconst (v := (1 : Int32)) hx hb dX5_file_93 (by decide) ?_
      obtain ⟨v5, hv5, hF⟩ := bd hF
      refine sx_iald hx hb hE hs 1 (f := m_s q4.2) rfl hv5 dX5_file_94 ?_
      refine lv_bipush (v := (12 : Int32)) hx hb dX5_file_95 (by decide) ?_
      refine lv_icmp_ne (tgt := 104) hx hb dX5_file_97 (by decide) (fun hc => ?_) (fun hc => ?_)
      · have hF := (if_neg hc).symm.trans hF
        refine lv_iconst (v := (0 : Int32)) hx hb dX5_file_104 (by decide) ?_
        exact hJ105_n q4.2 x1 x2 x3 x4 (0 : Int32) _ _ _ hF hs (lv_sub hl [0, 1, 2, 3, 4] rfl)
      · have hF := (if_pos hc).symm.trans hF
        refine lv_iconst (v := (1 : Int32)) hx hb dX5_file_100 (by decide) ?_
        refine lv_goto (tgt := 105) hx hb dX5_file_101 (by decide) ?_
        exact hJ105_n q4.2 x1 x2 x3 x4 (1 : Int32) _ _ _ hF hs (lv_sub hl [0, 1, 2, 3, 4] rfl)
  have hJ76_n : ∀ (S : MS) (x1 : Int32) (x2 : Int32) (x3 : Int32) (x4 : Int32) (H : Heap) (locs : List Loc) (ls : Array Slot), J_X5_file_76 S x1 x2 x3 x4 = some r → SI G A s H locs (WM G a S) → lv_has ls 6 [(0, .ref (a 0)), (1, .int x1), (2, .int x2), (3, .int x3), (4, .int x4)] → W p l e (RM 2 46) s m args below meth c H locs 0 0 Q (F0 m 76 ls [.ref (a 0)]) := by
    intro S x1 x2 x3 x4 H locs ls hF hs hl
    unfold J_X5_file_76 at hF
    refine lv_iconst (v := (1 : Int32)) hx hb dX5_file_76 (by decide) ?_
    refine lv_goto (tgt := 81) hx hb dX5_file_77 (by decide) ?_
    exact hJ81_n S x1 x2 x3 x4 (1 : Int32) _ _ _ hF hs (lv_sub hl [0, 1, 2, 3, 4] rfl)
  have hJ41_n : ∀ (S : MS) (x1 : Int32) (x2 : Int32) (x3 : Int32) (x4 : Int32) (y0 : Int32) (H : Heap) (locs : List Loc) (ls : Array Slot), J_X5_file_41 S x1 x2 x3 x4 y0 = some r → SI G A s H locs (WM G a S) → lv_has ls 6 [(0, .ref (a 0)), (1, .int x1), (2, .int x2), (3, .int x3), (4, .int x4)] → W p l e (RM 2 46) s m args below meth c H locs 0 0 Q (F0 m 41 ls [.int y0, .ref (a 0)]) := by
    intro S x1 x2 x3 x4 y0 H locs ls hF hs hl
    unfold J_X5_file_41 at hF
    refine lv_iconst (v := (1 : Int32)) hx hb dX5_file_41 (by decide) ?_
    obtain ⟨q2, hq2, hF⟩ := bd hF
    refine sx_V (As := [.int y0, .int (1 : Int32)]) (rest := []) (st1 := [.int q2.1]) (c_X5_refuse G l a S y0 (1 : Int32) q2 hq2) v_X5_215 ⟨(Nat.le_of_ble_eq_true rfl), (Nat.le_of_ble_eq_true rfl)⟩ hx hb hml hown hts hE hA hs ⟨Nat.le_refl 0, Nat.le_refl 0⟩ 0 rfl rfl rfl rfl rfl hl.1 (Nat.le_of_ble_eq_true rfl) dX5_file_42 (pmW _) (ws' := WM G a q2.2) (pmW _) (fun H locs hs => ?_)
    refine lv_if_eq (tgt := 50) hx hb dX5_file_45 (by decide) (fun hc => ?_) (fun hc => ?_)
    · have hF := (if_pos hc).symm.trans hF
      refine lv_aload_n hx hb dX5_file_50 rfl (lv_at hl 0 rfl) ?_
      refine lv_iload_n hx hb dX5_file_51 rfl (lv_at hl 3 rfl) ?_
      refine lv_i2l hx hb dX5_file_52 rfl ?_
      refine lv_lconst (v := (1 : Int64)) hx hb dX5_file_53 (by decide) ?_
      refine lv_ldc2 (v := (9999999 : Int64)) hx hb hown (hts _ g1244) dX5_file_54 ?_
      obtain ⟨q3, hq3, hF⟩ := bd hF
      refine sx_S (As := [.long x3.toInt64, .long (1 : Int64), .long (9999999 : Int64)]) (rest := [.ref (a 0)]) (st1 := [.int q3, .ref (a 0)]) (c_X5_in G l  x3.toInt64 (1 : Int64) (9999999 : Int64) q3 hq3) v_X5_161 ⟨(Nat.le_of_ble_eq_true rfl), (Nat.le_of_ble_eq_true rfl)⟩ hx hb hml hown hts hE hA hs ⟨Nat.le_refl 0, Nat.le_refl 0⟩ rfl rfl rfl hl.1 (Nat.le_of_ble_eq_true rfl) dX5_file_57 (List.Perm.refl _) (ws' := WM G a q2.2) (List.Perm.refl _) (fun H locs hs => ?_)
      refine lv_if_eq (tgt := 76) hx hb dX5_file_60 (by decide) (fun hc => ?_) (fun hc => ?_)
      · have hF := (if_pos hc).symm.trans hF
        exact hJ76_n q2.2 x1 x2 x3 x4 _ _ _ hF hs (lv_sub hl [0, 1, 2, 3, 4] rfl)
      · have hF := (if_neg hc).symm.trans hF
        refine lv_iload hx hb dX5_file_63 (lv_at hl 4 rfl) ?_
        refine lv_i2l hx hb dX5_file_65 rfl ?_
        refine lv_lconst (v := (0 : Int64)) hx hb dX5_file_66 (by decide) ?_
        refine lv_ldc2 (v := (999 : Int64)) hx hb hown (hts _ g1458) dX5_file_67 ?_
        obtain ⟨q22, hq22, hF⟩ := bd hF
        refine sx_S (As := [.long x4.toInt64, .long (0 : Int64), .long (999 : Int64)]) (rest := [.ref (a 0)]) (st1 := [.int q22, .ref (a 0)]) (c_X5_in G l  x4.toInt64 (0 : Int64) (999 : Int64) q22 hq22) v_X5_161 ⟨(Nat.le_of_ble_eq_true rfl), (Nat.le_of_ble_eq_true rfl)⟩ hx hb hml hown hts hE hA hs ⟨Nat.le_refl 0, Nat.le_refl 0⟩ rfl rfl rfl hl.1 (Nat.le_of_ble_eq_true rfl) dX5_file_70 (List.Perm.refl _) (ws' := WM G a q2.2) (List.Perm.refl _) (fun H locs hs => ?_)
        refine lv_if_ne (tgt := 80) hx hb dX5_file_73 (by decide) (fun hc => ?_) (fun hc => ?_)
        · have hF := (if_neg hc).symm.trans hF
          refine lv_iconst (v := (0 : Int32)) hx hb dX5_file_80 (by decide) ?_
          exact hJ81_n q2.2 x1 x2 x3 x4 (0 : Int32) _ _ _ hF hs (lv_sub hl [0, 1, 2, 3, 4] rfl)
        · have hF := (if_pos hc).symm.trans hF
          exact hJ76_n q2.2 x1 x2 x3 x4 _ _ _ hF hs (lv_sub hl [0, 1, 2, 3, 4] rfl)
    · have hF := (if_neg hc).symm.trans hF
      refine lv_iconst (v := (-1 : Int32)) hx hb dX5_file_48 (by decide) ?_
      exact sx_iret hx hb hr hlk hQ (congrArg Prod.fst (Option.some.inj hF)) (congrArg (fun z => WM G a z) (congrArg Prod.snd (Option.some.inj hF))) hs dX5_file_49
  have hJ36_n : ∀ (S : MS) (x1 : Int32) (x2 : Int32) (x3 : Int32) (x4 : Int32) (H : Heap) (locs : List Loc) (ls : Array Slot), J_X5_file_36 S x1 x2 x3 x4 = some r → SI G A s H locs (WM G a S) → lv_has ls 6 [(0, .ref (a 0)), (1, .int x1), (2, .int x2), (3, .int x3), (4, .int x4)] → W p l e (RM 2 46) s m args below meth c H locs 0 0 Q (F0 m 36 ls [.ref (a 0)]) := by
    intro S x1 x2 x3 x4 H locs ls hF hs hl
    unfold J_X5_file_36 at hF
    refine lv_iconst (v := (1 : Int32)) hx hb dX5_file_36 (by decide) ?_
    refine lv_goto (tgt := 41) hx hb dX5_file_37 (by decide) ?_
    exact hJ41_n S x1 x2 x3 x4 (1 : Int32) _ _ _ hF hs (lv_sub hl [0, 1, 2, 3, 4] rfl)
  have hJ40_n : ∀ (S : MS) (x1 : Int32) (x2 : Int32) (x3 : Int32) (x4 : Int32) (H : Heap) (locs : List Loc) (ls : Array Slot), J_X5_file_40 S x1 x2 x3 x4 = some r → SI G A s H locs (WM G a S) → lv_has ls 6 [(0, .ref (a 0)), (1, .int x1), (2, .int x2), (3, .int x3), (4, .int x4)] → W p l e (RM 2 46) s m args below meth c H locs 0 0 Q (F0 m 40 ls [.ref (a 0)]) := by
    intro S x1 x2 x3 x4 H locs ls hF hs hl
    unfold J_X5_file_40 at hF
    refine lv_iconst (v := (0 : Int32)) hx hb dX5_file_40 (by decide) ?_
    exact hJ41_n S x1 x2 x3 x4 (0 : Int32) _ _ _ hF hs (lv_sub hl [0, 1, 2, 3, 4] rfl)
  unfold F_X5_file at hF
  refine lv_aload_n hx hb dX5_file_0 rfl (lv_at hl 0 rfl) ?_
  obtain ⟨q1, hq1, hF⟩ := bd hF
  refine sx_V (As := []) (rest := []) (st1 := []) (c_X5_begins G l a S q1 hq1) v_X5_212 ⟨(Nat.le_of_ble_eq_true rfl), (Nat.le_of_ble_eq_true rfl)⟩ hx hb hml hown hts hE hA hs ⟨Nat.le_refl 0, Nat.le_refl 0⟩ 0 rfl rfl rfl rfl rfl hl.1 (Nat.le_of_ble_eq_true rfl) dX5_file_1 (pmW _) (ws' := WM G a q1) (pmW _) (fun H locs hs => ?_)
  refine lv_aload_n hx hb dX5_file_4 rfl (lv_at hl 0 rfl) ?_
  refine lv_aload_n hx hb dX5_file_5 rfl (lv_at hl 0 rfl) ?_
  refine fg_X5_225 hx hb hown hts hE hs 0 rfl (v := .int (m_told q1)) rfl dX5_file_6 ?_
  refine lv_if_eq (tgt := 36) hx hb dX5_file_9 (by decide) (fun hc => ?_) (fun hc => ?_)
  · have hF := (if_pos hc).symm.trans hF
    exact hJ36_n q1 x1 x2 x3 x4 _ _ _ hF hs (lv_sub hl [0, 1, 2, 3, 4] rfl)
  · have hF := (if_neg hc).symm.trans hF
    refine lv_iload_n hx hb dX5_file_12 rfl (lv_at hl 1 rfl) ?_
    refine lv_i2l hx hb dX5_file_13 rfl ?_
    refine lv_lconst (v := (0 : Int64)) hx hb dX5_file_14 (by decide) ?_
    refine lv_ldc2 (v := (2 : Int64)) hx hb hown (hts _ g1364) dX5_file_15 ?_
    obtain ⟨q23, hq23, hF⟩ := bd hF
    refine sx_S (As := [.long x1.toInt64, .long (0 : Int64), .long (2 : Int64)]) (rest := [.ref (a 0)]) (st1 := [.int q23, .ref (a 0)]) (c_X5_in G l  x1.toInt64 (0 : Int64) (2 : Int64) q23 hq23) v_X5_161 ⟨(Nat.le_of_ble_eq_true rfl), (Nat.le_of_ble_eq_true rfl)⟩ hx hb hml hown hts hE hA hs ⟨Nat.le_refl 0, Nat.le_refl 0⟩ rfl rfl rfl hl.1 (Nat.le_of_ble_eq_true rfl) dX5_file_18 (List.Perm.refl _) (ws' := WM G a q1) (List.Perm.refl _) (fun H locs hs => ?_)
    refine lv_if_eq (tgt := 36) hx hb dX5_file_21 (by decide) (fun hc => ?_) (fun hc => ?_)
    · have hF := (if_pos hc).symm.trans hF
      exact hJ36_n q1 x1 x2 x3 x4 _ _ _ hF hs (lv_sub hl [0, 1, 2, 3, 4] rfl)
    · have hF := (if_neg hc).symm.trans hF
      refine lv_iload_n hx hb dX5_file_24 rfl (lv_at hl 1 rfl) ?_
      refine lv_if_ne (tgt := 40) hx hb dX5_file_25 (by decide) (fun hc => ?_) (fun hc => ?_)
      · have hF := (if_neg hc).symm.trans hF
        exact hJ40_n q1 x1 x2 x3 x4 _ _ _ hF hs (lv_sub hl [0, 1, 2, 3, 4] rfl)
      · have hF := (if_pos hc).symm.trans hF
        refine lv_aload_n hx hb dX5_file_28 rfl (lv_at hl 0 rfl) ?_
        refine lv_iload_n hx hb dX5_file_29 rfl (lv_at hl 2 rfl) ?_
        obtain ⟨q24, hq24, hF⟩ := bd hF
        refine sx_V (As := [.int x2]) (rest := [.ref (a 0)]) (st1 := [.int q24, .ref (a 0)]) (c_X5_isShip G l a q1 x2 q24 hq24) v_X5_234 ⟨(Nat.le_of_ble_eq_true rfl), (Nat.le_of_ble_eq_true rfl)⟩ hx hb hml hown hts hE hA hs ⟨Nat.le_refl 0, Nat.le_refl 0⟩ 0 rfl rfl rfl rfl rfl hl.1 (Nat.le_of_ble_eq_true rfl) dX5_file_30 (pmW _) (ws' := WM G a q1) (pmW _) (fun H locs hs => ?_)
        refine lv_if_ne (tgt := 40) hx hb dX5_file_33 (by decide) (fun hc => ?_) (fun hc => ?_)
        · have hF := (if_neg hc).symm.trans hF
          exact hJ40_n q1 x1 x2 x3 x4 _ _ _ hF hs (lv_sub hl [0, 1, 2, 3, 4] rfl)
        · have hF := (if_pos hc).symm.trans hF
          exact hJ36_n q1 x1 x2 x3 x4 _ _ _ hF hs (lv_sub hl [0, 1, 2, 3, 4] rfl)
set_option maxHeartbeats 4000000 in
set_option maxRecDepth 100000 in
theorem c_X5_withdraw (G : GT) (l : Launch) (a : Nat → Nat) (S : MS) (x1 : Int32) (r : Int32 × MS) (hF : F_X5_withdraw S x1 = some r) : MT G l yX5_withdraw cX5_withdraw 3 (some .int) 2 46 [.ref (a 0), .int x1] (WM G a S) (some (.int r.1)) (WM G a r.2) := by
  refine MT.of (by decide) (Nat.le_of_ble_eq_true rfl) ?_
  intro p e s m args below meth c A ls hx hb hr hml hown hts hlk hE hA hs hl Q hQ
  have hl : lv_has ls 3 [(0, .ref (a 0)), (1, .int x1)] := hl
  have hL48 : ∀ (k : MS → Option (Int32 × MS)) (hk : ∀ (S : MS) (H : Heap) (locs : List Loc) (ls : Array Slot), k S = some r → SI G A s H locs (WM G a S) → lv_has ls 3 [(0, .ref (a 0))] → W p l e (RM 2 46) s m args below meth c H locs 0 0 Q (F0 m 83 ls [])) (fu : Nat) (S : MS) (x2 : Int32) (H : Heap) (locs : List Loc) (ls : Array Slot), lo2 (B_X5_withdraw_48 k) fu S x2 = some r → SI G A s H locs (WM G a S) → lv_has ls 3 [(0, .ref (a 0)), (2, .int x2)] → W p l e (RM 2 46) s m args below meth c H locs 0 0 Q (F0 m 48 ls []) := by
    intro k hk fu
    induction fu with
    | zero =>
      intro S x2 H locs ls hF hs hl
      exact nomatch (show (none : Option (Int32 × MS)) = some r from hF)
    | succ fu hrec =>
      intro S x2 H locs ls hF hs hl
      have hF : (B_X5_withdraw_48 k) (lo2 (B_X5_withdraw_48 k) fu) S x2 = some r := hF
      unfold B_X5_withdraw_48 at hF
      refine lv_iload_n hx hb dX5_withdraw_48 rfl (lv_at hl 1 rfl) ?_
      refine lv_bipush (v := (34 : Int32)) hx hb dX5_withdraw_49 (by decide) ?_
      refine lv_iconst (v := (4 : Int32)) hx hb dX5_withdraw_51 (by decide) ?_
      refine lv_aload_n hx hb dX5_withdraw_52 rfl (lv_at hl 0 rfl) ?_
      refine fg_X5_13 hx hb hown hts hE hs 0 rfl (v := .ref (a 1)) rfl dX5_withdraw_53 ?_
      refine lv_iconst (v := (1 : Int32)) hx hb dX5_withdraw_56 (by decide) ?_
      obtain ⟨v9, hv9, hF⟩ := bd hF
      refine sx_iald hx hb hE hs 1 (f := m_s S) rfl hv9 dX5_withdraw_57 ?_
      refine lv_imul hx hb dX5_withdraw_58 ?_
      refine lv_iadd hx hb dX5_withdraw_59 ?_
      refine lv_icmp_ge (tgt := 83) hx hb dX5_withdraw_60 (by decide) (fun hc => ?_) (fun hc => ?_)
      · have hF := (if_pos hc).symm.trans hF
        exact hk S _ _ _ hF hs (lv_sub hl [0] rfl)
      · have hF := (if_neg hc).symm.trans hF
        refine lv_aload_n hx hb dX5_withdraw_63 rfl (lv_at hl 0 rfl) ?_
        refine fg_X5_13 hx hb hown hts hE hs 0 rfl (v := .ref (a 1)) rfl dX5_withdraw_64 ?_
        refine lv_iload_n hx hb dX5_withdraw_67 rfl (lv_at hl 1 rfl) ?_
        refine lv_aload_n hx hb dX5_withdraw_68 rfl (lv_at hl 0 rfl) ?_
        refine fg_X5_13 hx hb hown hts hE hs 0 rfl (v := .ref (a 1)) rfl dX5_withdraw_69 ?_
        refine lv_iload_n hx hb dX5_withdraw_72 rfl (lv_at hl 1 rfl) ?_
        refine lv_iconst (v := (4 : Int32)) hx hb dX5_withdraw_73 (by decide) ?_
        refine lv_iadd hx hb dX5_withdraw_74 ?_
        obtain ⟨v10, hv10, hF⟩ := bd hF
        refine sx_iald hx hb hE hs 1 (f := m_s S) rfl hv10 dX5_withdraw_75 ?_
        obtain ⟨f11, hf11, hF⟩ := bd hF
        obtain ⟨S12, eS12, hF⟩ := nm_some hF
        refine sx_iast hx hb hE hs 1 (f := m_s S) rfl hf11 (ws' := WM G a S12) (by subst eS12; rfl) dX5_withdraw_76 (fun H locs hs => ?_)
        obtain ⟨v13, ev13, hF⟩ := nm_some hF
        refine lv_iinc (v := v13) (lv' := [(2, .int v13), (0, .ref (a 0))]) hx hb dX5_withdraw_77 hl (k := 1) rfl (by rw [ev13]; rfl) (by decide) rfl (fun ls hl => ?_)
        refine lv_goto (tgt := 48) hx hb dX5_withdraw_80 (by decide) ?_
        exact hrec S12 v13 _ _ _ hF hs (lv_sub hl [1, 0] rfl)
  have hJ18_n : ∀ (S : MS) (x1 : Int32) (y0 : Int32) (H : Heap) (locs : List Loc) (ls : Array Slot), J_X5_withdraw_18 S x1 y0 = some r → SI G A s H locs (WM G a S) → lv_has ls 3 [(0, .ref (a 0)), (1, .int x1)] → W p l e (RM 2 46) s m args below meth c H locs 0 0 Q (F0 m 18 ls [.int y0, .ref (a 0)]) := by
    intro S x1 y0 H locs ls hF hs hl
    unfold J_X5_withdraw_18 at hF
    refine lv_iconst (v := (1 : Int32)) hx hb dX5_withdraw_18 (by decide) ?_
    obtain ⟨q3, hq3, hF⟩ := bd hF
    refine sx_V (As := [.int y0, .int (1 : Int32)]) (rest := []) (st1 := [.int q3.1]) (c_X5_refuse G l a S y0 (1 : Int32) q3 hq3) v_X5_215 ⟨(Nat.le_of_ble_eq_true rfl), (Nat.le_of_ble_eq_true rfl)⟩ hx hb hml hown hts hE hA hs ⟨Nat.le_refl 0, Nat.le_refl 0⟩ 0 rfl rfl rfl rfl rfl hl.1 (Nat.le_of_ble_eq_true rfl) dX5_withdraw_19 (pmW _) (ws' := WM G a q3.2) (pmW _) (fun H locs hs => ?_)
    refine lv_if_eq (tgt := 27) hx hb dX5_withdraw_22 (by decide) (fun hc => ?_) (fun hc => ?_)
    · have hF := (if_pos hc).symm.trans hF
      refine lv_aload_n hx hb dX5_withdraw_27 rfl (lv_at hl 0 rfl) ?_
      obtain ⟨q4, hq4, hF⟩ := bd hF
      refine sx_V (As := []) (rest := []) (st1 := []) (c_X5_keeps G l a q3.2 q4 hq4) v_X5_392 ⟨(Nat.le_of_ble_eq_true rfl), (Nat.le_of_ble_eq_true rfl)⟩ hx hb hml hown hts hE hA hs ⟨Nat.le_refl 0, Nat.le_refl 0⟩ 0 rfl rfl rfl rfl rfl hl.1 (Nat.le_of_ble_eq_true rfl) dX5_withdraw_28 (pmW _) (ws' := WM G a q4) (pmW _) (fun H locs hs => ?_)
      refine lv_aload_n hx hb dX5_withdraw_31 rfl (lv_at hl 0 rfl) ?_
      refine fg_X5_13 hx hb hown hts hE hs 0 rfl (v := .ref (a 1)) rfl dX5_withdraw_32 ?_
      refine lv_iconst (v := (1 : Int32)) hx hb dX5_withdraw_35 (by decide) ?_
      refine lv_dup2_11 hx hb dX5_withdraw_36 rfl rfl ?_
      obtain ⟨v5, hv5, hF⟩ := bd hF
      refine sx_iald hx hb hE hs 1 (f := m_s q4) rfl hv5 dX5_withdraw_37 ?_
      refine lv_iconst (v := (1 : Int32)) hx hb dX5_withdraw_38 (by decide) ?_
      refine lv_isub hx hb dX5_withdraw_39 ?_
      obtain ⟨f6, hf6, hF⟩ := bd hF
      obtain ⟨S7, eS7, hF⟩ := nm_some hF
      refine sx_iast hx hb hE hs 1 (f := m_s q4) rfl hf6 (ws' := WM G a S7) (by subst eS7; rfl) dX5_withdraw_40 (fun H locs hs => ?_)
      refine lv_bipush (v := (34 : Int32)) hx hb dX5_withdraw_41 (by decide) ?_
      refine lv_iconst (v := (4 : Int32)) hx hb dX5_withdraw_43 (by decide) ?_
      refine lv_iload_n hx hb dX5_withdraw_44 rfl (lv_at hl 1 rfl) ?_
      refine lv_imul hx hb dX5_withdraw_45 ?_
      refine lv_iadd hx hb dX5_withdraw_46 ?_
      obtain ⟨v8, ev8, hF⟩ := nm_some hF
      refine sx_topi ev8 ?_
      refine lv_istore_n (lv' := [(2, .int v8), (0, .ref (a 0)), (1, .int x1)]) hx hb dX5_withdraw_47 rfl hl (by decide) rfl (fun ls hl => ?_)
      refine hL48 _ (fun S14 H locs ls hF hs hl => ?_) FU S7 v8 _ _ _ hF hs (lv_sub hl [1, 0] rfl)
      refine lv_aload_n hx hb dX5_withdraw_83 rfl (lv_at hl 0 rfl) ?_
      refine fg_X5_13 hx hb hown hts hE hs 0 rfl (v := .ref (a 1)) rfl dX5_withdraw_84 ?_
      refine lv_iconst (v := (1 : Int32)) hx hb dX5_withdraw_87 (by decide) ?_
      obtain ⟨v15, hv15, hF⟩ := bd hF
      refine sx_iald hx hb hE hs 1 (f := m_s S14) rfl hv15 dX5_withdraw_88 ?_
      exact sx_iret hx hb hr hlk hQ (congrArg Prod.fst (Option.some.inj hF)) (congrArg (fun z => WM G a z) (congrArg Prod.snd (Option.some.inj hF))) hs dX5_withdraw_89
    · have hF := (if_neg hc).symm.trans hF
      refine lv_iconst (v := (-1 : Int32)) hx hb dX5_withdraw_25 (by decide) ?_
      exact sx_iret hx hb hr hlk hQ (congrArg Prod.fst (Option.some.inj hF)) (congrArg (fun z => WM G a z) (congrArg Prod.snd (Option.some.inj hF))) hs dX5_withdraw_26
  unfold F_X5_withdraw at hF
  refine lv_aload_n hx hb dX5_withdraw_0 rfl (lv_at hl 0 rfl) ?_
  obtain ⟨q1, hq1, hF⟩ := bd hF
  refine sx_V (As := []) (rest := []) (st1 := []) (c_X5_begins G l a S q1 hq1) v_X5_212 ⟨(Nat.le_of_ble_eq_true rfl), (Nat.le_of_ble_eq_true rfl)⟩ hx hb hml hown hts hE hA hs ⟨Nat.le_refl 0, Nat.le_refl 0⟩ 0 rfl rfl rfl rfl rfl hl.1 (Nat.le_of_ble_eq_true rfl) dX5_withdraw_1 (pmW _) (ws' := WM G a q1) (pmW _) (fun H locs hs => ?_)
  refine lv_aload_n hx hb dX5_withdraw_4 rfl (lv_at hl 0 rfl) ?_
  refine lv_aload_n hx hb dX5_withdraw_5 rfl (lv_at hl 0 rfl) ?_
  refine lv_iload_n hx hb dX5_withdraw_6 rfl (lv_at hl 1 rfl) ?_
  obtain ⟨q2, hq2, hF⟩ := bd hF
  refine sx_V (As := [.int x1]) (rest := [.ref (a 0)]) (st1 := [.int q2, .ref (a 0)]) (c_X5_isClaim G l a q1 x1 q2 hq2) v_X5_247 ⟨(Nat.le_of_ble_eq_true rfl), (Nat.le_of_ble_eq_true rfl)⟩ hx hb hml hown hts hE hA hs ⟨Nat.le_refl 0, Nat.le_refl 0⟩ 0 rfl rfl rfl rfl rfl hl.1 (Nat.le_of_ble_eq_true rfl) dX5_withdraw_7 (pmW _) (ws' := WM G a q1) (pmW _) (fun H locs hs => ?_)
  refine lv_if_ne (tgt := 17) hx hb dX5_withdraw_10 (by decide) (fun hc => ?_) (fun hc => ?_)
  · have hF := (if_neg hc).symm.trans hF
    refine lv_iconst (v := (0 : Int32)) hx hb dX5_withdraw_17 (by decide) ?_
    exact hJ18_n q1 x1 (0 : Int32) _ _ _ hF hs (lv_sub hl [0, 1] rfl)
  · have hF := (if_pos hc).symm.trans hF
    refine lv_iconst (v := (1 : Int32)) hx hb dX5_withdraw_13 (by decide) ?_
    refine lv_goto (tgt := 18) hx hb dX5_withdraw_14 (by decide) ?_
    exact hJ18_n q1 x1 (1 : Int32) _ _ _ hF hs (lv_sub hl [0, 1] rfl)
set_option maxHeartbeats 4000000 in
set_option maxRecDepth 100000 in
theorem c_X5_isWithin (G : GT) (l : Launch) (x0 : Int32) (x1 : Int32) (r : Int32) (hF : F_X5_isWithin x0 x1 = some r) : MT G l yX5_isWithin cX5_isWithin 2 (some .boolean) 1 25 [.int x0, .int x1] (([] : va_W)) (some (.int r)) (([] : va_W)) := by
  refine MT.of (by decide) (Nat.le_of_ble_eq_true rfl) ?_
  intro p e s m args below meth c A ls hx hb hr hml hown hts hlk hE hA hs hl Q hQ
  have hl : lv_has ls 2 [(0, .int x0), (1, .int x1)] := hl
  have hJ52_n : ∀ (x1 : Int32) (H : Heap) (locs : List Loc) (ls : Array Slot), J_X5_isWithin_52 x1 = some r → SI G A s H locs (([] : va_W)) → lv_has ls 2 [(1, .int x1)] → W p l e (RM 1 25) s m args below meth c H locs 0 0 Q (F0 m 52 ls []) := by
    intro x1 H locs ls hF hs hl
    unfold J_X5_isWithin_52 at hF
    refine lv_iload_n hx hb dX5_isWithin_52 rfl (lv_at hl 0 rfl) ?_
    refine lv_i2l hx hb dX5_isWithin_53 rfl ?_
    refine lv_lconst (v := (0 : Int64)) hx hb dX5_isWithin_54 (by decide) ?_
    refine lv_lconst (v := (1 : Int64)) hx hb dX5_isWithin_55 (by decide) ?_
    obtain ⟨q3, hq3, hF⟩ := bd hF
    refine sx_S (As := [.long x1.toInt64, .long (0 : Int64), .long (1 : Int64)]) (rest := []) (st1 := [.int q3]) (c_X5_in G l  x1.toInt64 (0 : Int64) (1 : Int64) q3 hq3) v_X5_161 ⟨(Nat.le_of_ble_eq_true rfl), (Nat.le_of_ble_eq_true rfl)⟩ hx hb hml hown hts hE hA hs ⟨Nat.le_refl 0, Nat.le_refl 0⟩ rfl rfl rfl hl.1 (Nat.le_of_ble_eq_true rfl) dX5_isWithin_56 (List.Perm.refl _) (ws' := ([] : va_W)) (List.Perm.refl _) (fun H locs hs => ?_)
    obtain ⟨hz, hF⟩ := zz_some hF
    exact sx_zret hx hb hr hlk hQ hz (Option.some.inj hF) rfl hs dX5_isWithin_59
  have hJ42_n : ∀ (x1 : Int32) (H : Heap) (locs : List Loc) (ls : Array Slot), J_X5_isWithin_42 x1 = some r → SI G A s H locs (([] : va_W)) → lv_has ls 2 [(1, .int x1)] → W p l e (RM 1 25) s m args below meth c H locs 0 0 Q (F0 m 42 ls []) := by
    intro x1 H locs ls hF hs hl
    unfold J_X5_isWithin_42 at hF
    refine lv_iload_n hx hb dX5_isWithin_42 rfl (lv_at hl 0 rfl) ?_
    refine lv_i2l hx hb dX5_isWithin_43 rfl ?_
    refine lv_lconst (v := (0 : Int64)) hx hb dX5_isWithin_44 (by decide) ?_
    refine lv_ldc2 (v := (9999999 : Int64)) hx hb hown (hts _ g1244) dX5_isWithin_45 ?_
    obtain ⟨q4, hq4, hF⟩ := bd hF
    refine sx_S (As := [.long x1.toInt64, .long (0 : Int64), .long (9999999 : Int64)]) (rest := []) (st1 := [.int q4]) (c_X5_in G l  x1.toInt64 (0 : Int64) (9999999 : Int64) q4 hq4) v_X5_161 ⟨(Nat.le_of_ble_eq_true rfl), (Nat.le_of_ble_eq_true rfl)⟩ hx hb hml hown hts hE hA hs ⟨Nat.le_refl 0, Nat.le_refl 0⟩ rfl rfl rfl hl.1 (Nat.le_of_ble_eq_true rfl) dX5_isWithin_48 (List.Perm.refl _) (ws' := ([] : va_W)) (List.Perm.refl _) (fun H locs hs => ?_)
    obtain ⟨hz, hF⟩ := zz_some hF
    exact sx_zret hx hb hr hlk hQ hz (Option.some.inj hF) rfl hs dX5_isWithin_51
  unfold F_X5_isWithin at hF
  refine lv_iload_n hx hb dX5_isWithin_0 rfl (lv_at hl 0 rfl) ?_
  by_cases hv1_0 : x0 = (0 : Int32)
  · have hF := (if_pos hv1_0).symm.trans hF
    refine lv_tableIn (off := 31) (tgt := 32) hx hb dX5_isWithin_1 (by rw [hv1_0]; decide) (by rw [hv1_0]; decide) (by rw [hv1_0]; decide) (by decide) ?_
    refine lv_iload_n hx hb dX5_isWithin_32 rfl (lv_at hl 1 rfl) ?_
    refine lv_i2l hx hb dX5_isWithin_33 rfl ?_
    refine lv_lconst (v := (1 : Int64)) hx hb dX5_isWithin_34 (by decide) ?_
    refine lv_ldc2 (v := (99999 : Int64)) hx hb hown (hts _ g1411) dX5_isWithin_35 ?_
    obtain ⟨q2, hq2, hF⟩ := bd hF
    refine sx_S (As := [.long x1.toInt64, .long (1 : Int64), .long (99999 : Int64)]) (rest := []) (st1 := [.int q2]) (c_X5_in G l  x1.toInt64 (1 : Int64) (99999 : Int64) q2 hq2) v_X5_161 ⟨(Nat.le_of_ble_eq_true rfl), (Nat.le_of_ble_eq_true rfl)⟩ hx hb hml hown hts hE hA hs ⟨Nat.le_refl 0, Nat.le_refl 0⟩ rfl rfl rfl hl.1 (Nat.le_of_ble_eq_true rfl) dX5_isWithin_38 (List.Perm.refl _) (ws' := ([] : va_W)) (List.Perm.refl _) (fun H locs hs => ?_)
    obtain ⟨hz, hF⟩ := zz_some hF
    exact sx_zret hx hb hr hlk hQ hz (Option.some.inj hF) rfl hs dX5_isWithin_41
  · have hF := (if_neg hv1_0).symm.trans hF
    by_cases hv1_1 : x0 = (1 : Int32)
    · have hF := (if_pos hv1_1).symm.trans hF
      refine lv_tableIn (off := 51) (tgt := 52) hx hb dX5_isWithin_1 (by rw [hv1_1]; decide) (by rw [hv1_1]; decide) (by rw [hv1_1]; decide) (by decide) ?_
      exact hJ52_n x1 _ _ _ hF hs (lv_sub hl [1] rfl)
    · have hF := (if_neg hv1_1).symm.trans hF
      by_cases hv1_2 : x0 = (2 : Int32)
      · have hF := (if_pos hv1_2).symm.trans hF
        refine lv_tableIn (off := 41) (tgt := 42) hx hb dX5_isWithin_1 (by rw [hv1_2]; decide) (by rw [hv1_2]; decide) (by rw [hv1_2]; decide) (by decide) ?_
        exact hJ42_n x1 _ _ _ hF hs (lv_sub hl [1] rfl)
      · have hF := (if_neg hv1_2).symm.trans hF
        by_cases hv1_3 : x0 = (3 : Int32)
        · have hF := (if_pos hv1_3).symm.trans hF
          refine lv_tableIn (off := 41) (tgt := 42) hx hb dX5_isWithin_1 (by rw [hv1_3]; decide) (by rw [hv1_3]; decide) (by rw [hv1_3]; decide) (by decide) ?_
          exact hJ42_n x1 _ _ _ hF hs (lv_sub hl [1] rfl)
        · have hF := (if_neg hv1_3).symm.trans hF
          refine lv_tableOut (tgt := 52) hx hb dX5_isWithin_1 (sw_out (lo := 0) (hi := 3) (fun z h1 h2 => by rcases (show z = 0 ∨ z = 1 ∨ z = 2 ∨ z = 3 by omega) with rfl | rfl | rfl | rfl <;> intro hz <;> first | exact hv1_0 (Int32.toInt_inj.mp hz) | exact hv1_1 (Int32.toInt_inj.mp hz) | exact hv1_2 (Int32.toInt_inj.mp hz) | exact hv1_3 (Int32.toInt_inj.mp hz))) (by decide) ?_
          exact hJ52_n x1 _ _ _ hF hs (lv_sub hl [1] rfl)
set_option maxHeartbeats 4000000 in
set_option maxRecDepth 100000 in
theorem c_X5_become (G : GT) (l : Launch) (a : Nat → Nat) (S : MS) (x1 : Int32) (x2 : Int32) (x3 : Int32) (r : Int32 × MS) (hF : F_X5_become S x1 x2 x3 = some r) : MT G l yX5_become cX5_become 5 (some .int) 2 46 [.ref (a 0), .int x1, .int x2, .int x3] (WM G a S) (some (.int r.1)) (WM G a r.2) := by
  refine MT.of (by decide) (Nat.le_of_ble_eq_true rfl) ?_
  intro p e s m args below meth c A ls hx hb hr hml hown hts hlk hE hA hs hl Q hQ
  have hl : lv_has ls 5 [(0, .ref (a 0)), (1, .int x1), (2, .int x2), (3, .int x3)] := hl
  have hJ56_n : ∀ (S : MS) (x1 : Int32) (x2 : Int32) (x3 : Int32) (y0 : Int32) (H : Heap) (locs : List Loc) (ls : Array Slot), J_X5_become_56 S x1 x2 x3 y0 = some r → SI G A s H locs (WM G a S) → lv_has ls 5 [(0, .ref (a 0)), (1, .int x1), (2, .int x2), (3, .int x3)] → W p l e (RM 2 46) s m args below meth c H locs 0 0 Q (F0 m 56 ls [.int y0, .ref (a 0)]) := by
    intro S x1 x2 x3 y0 H locs ls hF hs hl
    unfold J_X5_become_56 at hF
    refine lv_iconst (v := (2 : Int32)) hx hb dX5_become_56 (by decide) ?_
    obtain ⟨q5, hq5, hF⟩ := bd hF
    refine sx_V (As := [.int y0, .int (2 : Int32)]) (rest := []) (st1 := [.int q5.1]) (c_X5_refuse G l a S y0 (2 : Int32) q5 hq5) v_X5_215 ⟨(Nat.le_of_ble_eq_true rfl), (Nat.le_of_ble_eq_true rfl)⟩ hx hb hml hown hts hE hA hs ⟨Nat.le_refl 0, Nat.le_refl 0⟩ 0 rfl rfl rfl rfl rfl hl.1 (Nat.le_of_ble_eq_true rfl) dX5_become_57 (pmW _) (ws' := WM G a q5.2) (pmW _) (fun H locs hs => ?_)
    refine lv_if_eq (tgt := 65) hx hb dX5_become_60 (by decide) (fun hc => ?_) (fun hc => ?_)
    · have hF := (if_pos hc).symm.trans hF
      refine lv_aload_n hx hb dX5_become_65 rfl (lv_at hl 0 rfl) ?_
      obtain ⟨q6, hq6, hF⟩ := bd hF
      refine sx_V (As := []) (rest := []) (st1 := []) (c_X5_keeps G l a q5.2 q6 hq6) v_X5_392 ⟨(Nat.le_of_ble_eq_true rfl), (Nat.le_of_ble_eq_true rfl)⟩ hx hb hml hown hts hE hA hs ⟨Nat.le_refl 0, Nat.le_refl 0⟩ 0 rfl rfl rfl rfl rfl hl.1 (Nat.le_of_ble_eq_true rfl) dX5_become_66 (pmW _) (ws' := WM G a q6) (pmW _) (fun H locs hs => ?_)
      refine lv_aload_n hx hb dX5_become_69 rfl (lv_at hl 0 rfl) ?_
      refine fg_X5_13 hx hb hown hts hE hs 0 rfl (v := .ref (a 1)) rfl dX5_become_70 ?_
      refine lv_iload_n hx hb dX5_become_73 rfl (lv_at hl 1 rfl) ?_
      refine lv_iload_n hx hb dX5_become_74 rfl (lv_at hl 2 rfl) ?_
      obtain ⟨q7, hq7, hF⟩ := bd hF
      refine sx_S (As := [.ref (a 1), .int x1, .int x2]) (rest := []) (st1 := [.int q7]) (c_X5_ofShip G l (a 1) (m_s q6) x1 x2 q7 hq7) v_X5_243 ⟨(Nat.le_of_ble_eq_true rfl), (Nat.le_of_ble_eq_true rfl)⟩ hx hb hml hown hts hE hA hs ⟨Nat.le_refl 0, Nat.le_refl 0⟩ rfl rfl rfl hl.1 (Nat.le_of_ble_eq_true rfl) dX5_become_75 (pM_s G a q6 (m_s q6)) (ws' := WM G a q6) (pM_s G a q6 (m_s q6)) (fun H locs hs => ?_)
      refine lv_istore (lv' := [(4, .int q7), (0, .ref (a 0)), (1, .int x1), (2, .int x2), (3, .int x3)]) hx hb dX5_become_78 hl (by decide) rfl (fun ls hl => ?_)
      refine lv_aload_n hx hb dX5_become_80 rfl (lv_at hl 1 rfl) ?_
      refine fg_X5_13 hx hb hown hts hE hs 0 rfl (v := .ref (a 1)) rfl dX5_become_81 ?_
      refine lv_bipush (v := (10 : Int32)) hx hb dX5_become_84 (by decide) ?_
      refine lv_bipush (v := (6 : Int32)) hx hb dX5_become_86 (by decide) ?_
      refine lv_iload_n hx hb dX5_become_88 rfl (lv_at hl 2 rfl) ?_
      refine lv_imul hx hb dX5_become_89 ?_
      refine lv_iadd hx hb dX5_become_90 ?_
      refine lv_iload_n hx hb dX5_become_91 rfl (lv_at hl 3 rfl) ?_
      refine lv_iadd hx hb dX5_become_92 ?_
      refine lv_iload_n hx hb dX5_become_93 rfl (lv_at hl 4 rfl) ?_
      obtain ⟨f8, hf8, hF⟩ := bd hF
      obtain ⟨S9, eS9, hF⟩ := nm_some hF
      refine sx_iast hx hb hE hs 1 (f := m_s q6) rfl hf8 (ws' := WM G a S9) (by subst eS9; rfl) dX5_become_94 (fun H locs hs => ?_)
      refine lv_iload hx hb dX5_become_95 (lv_at hl 0 rfl) ?_
      exact sx_iret hx hb hr hlk hQ (congrArg Prod.fst (Option.some.inj hF)) (congrArg (fun z => WM G a z) (congrArg Prod.snd (Option.some.inj hF))) hs dX5_become_97
    · have hF := (if_neg hc).symm.trans hF
      refine lv_iconst (v := (-1 : Int32)) hx hb dX5_become_63 (by decide) ?_
      exact sx_iret hx hb hr hlk hQ (congrArg Prod.fst (Option.some.inj hF)) (congrArg (fun z => WM G a z) (congrArg Prod.snd (Option.some.inj hF))) hs dX5_become_64
  have hJ35_n : ∀ (S : MS) (x1 : Int32) (x2 : Int32) (x3 : Int32) (y0 : Int32) (H : Heap) (locs : List Loc) (ls : Array Slot), J_X5_become_35 S x1 x2 x3 y0 = some r → SI G A s H locs (WM G a S) → lv_has ls 5 [(0, .ref (a 0)), (1, .int x1), (2, .int x2), (3, .int x3)] → W p l e (RM 2 46) s m args below meth c H locs 0 0 Q (F0 m 35 ls [.int y0, .ref (a 0)]) := by
    intro S x1 x2 x3 y0 H locs ls hF hs hl
    unfold J_X5_become_35 at hF
    refine lv_iconst (v := (1 : Int32)) hx hb dX5_become_35 (by decide) ?_
    obtain ⟨q3, hq3, hF⟩ := bd hF
    refine sx_V (As := [.int y0, .int (1 : Int32)]) (rest := []) (st1 := [.int q3.1]) (c_X5_refuse G l a S y0 (1 : Int32) q3 hq3) v_X5_215 ⟨(Nat.le_of_ble_eq_true rfl), (Nat.le_of_ble_eq_true rfl)⟩ hx hb hml hown hts hE hA hs ⟨Nat.le_refl 0, Nat.le_refl 0⟩ 0 rfl rfl rfl rfl rfl hl.1 (Nat.le_of_ble_eq_true rfl) dX5_become_36 (pmW _) (ws' := WM G a q3.2) (pmW _) (fun H locs hs => ?_)
    refine lv_if_ne (tgt := 63) hx hb dX5_become_39 (by decide) (fun hc => ?_) (fun hc => ?_)
    · have hF := (if_neg hc).symm.trans hF
      refine lv_iconst (v := (-1 : Int32)) hx hb dX5_become_63 (by decide) ?_
      exact sx_iret hx hb hr hlk hQ (congrArg Prod.fst (Option.some.inj hF)) (congrArg (fun z => WM G a z) (congrArg Prod.snd (Option.some.inj hF))) hs dX5_become_64
    · have hF := (if_pos hc).symm.trans hF
      refine lv_aload_n hx hb dX5_become_42 rfl (lv_at hl 0 rfl) ?_
      refine lv_iload_n hx hb dX5_become_43 rfl (lv_at hl 2 rfl) ?_
      refine lv_iload_n hx hb dX5_become_44 rfl (lv_at hl 3 rfl) ?_
      obtain ⟨q4, hq4, hF⟩ := bd hF
      refine sx_S (As := [.int x2, .int x3]) (rest := [.ref (a 0)]) (st1 := [.int q4, .ref (a 0)]) (c_X5_isWithin G l  x2 x3 q4 hq4) v_X5_399 ⟨(Nat.le_of_ble_eq_true rfl), (Nat.le_of_ble_eq_true rfl)⟩ hx hb hml hown hts hE hA hs ⟨Nat.le_refl 0, Nat.le_refl 0⟩ rfl rfl rfl hl.1 (Nat.le_of_ble_eq_true rfl) dX5_become_45 (List.Perm.refl _) (ws' := WM G a q3.2) (List.Perm.refl _) (fun H locs hs => ?_)
      refine lv_if_ne (tgt := 55) hx hb dX5_become_48 (by decide) (fun hc => ?_) (fun hc => ?_)
      · have hF := (if_neg hc).symm.trans hF
        refine lv_iconst (v := (0 : Int32)) hx hb dX5_become_55 (by decide) ?_
        exact hJ56_n q3.2 x1 x2 x3 (0 : Int32) _ _ _ hF hs (lv_sub hl [0, 1, 2, 3] rfl)
      · have hF := (if_pos hc).symm.trans hF
        refine lv_iconst (v := (1 : Int32)) hx hb dX5_become_51 (by decide) ?_
        refine lv_goto (tgt := 56) hx hb dX5_become_52 (by decide) ?_
        exact hJ56_n q3.2 x1 x2 x3 (1 : Int32) _ _ _ hF hs (lv_sub hl [0, 1, 2, 3] rfl)
  have hJ30_n : ∀ (S : MS) (x1 : Int32) (x2 : Int32) (x3 : Int32) (H : Heap) (locs : List Loc) (ls : Array Slot), J_X5_become_30 S x1 x2 x3 = some r → SI G A s H locs (WM G a S) → lv_has ls 5 [(0, .ref (a 0)), (1, .int x1), (2, .int x2), (3, .int x3)] → W p l e (RM 2 46) s m args below meth c H locs 0 0 Q (F0 m 30 ls [.ref (a 0)]) := by
    intro S x1 x2 x3 H locs ls hF hs hl
    unfold J_X5_become_30 at hF
    refine lv_iconst (v := (1 : Int32)) hx hb dX5_become_30 (by decide) ?_
    refine lv_goto (tgt := 35) hx hb dX5_become_31 (by decide) ?_
    exact hJ35_n S x1 x2 x3 (1 : Int32) _ _ _ hF hs (lv_sub hl [0, 1, 2, 3] rfl)
  unfold F_X5_become at hF
  refine lv_aload_n hx hb dX5_become_0 rfl (lv_at hl 0 rfl) ?_
  obtain ⟨q1, hq1, hF⟩ := bd hF
  refine sx_V (As := []) (rest := []) (st1 := []) (c_X5_begins G l a S q1 hq1) v_X5_212 ⟨(Nat.le_of_ble_eq_true rfl), (Nat.le_of_ble_eq_true rfl)⟩ hx hb hml hown hts hE hA hs ⟨Nat.le_refl 0, Nat.le_refl 0⟩ 0 rfl rfl rfl rfl rfl hl.1 (Nat.le_of_ble_eq_true rfl) dX5_become_1 (pmW _) (ws' := WM G a q1) (pmW _) (fun H locs hs => ?_)
  refine lv_aload_n hx hb dX5_become_4 rfl (lv_at hl 0 rfl) ?_
  refine lv_aload_n hx hb dX5_become_5 rfl (lv_at hl 0 rfl) ?_
  refine lv_iload_n hx hb dX5_become_6 rfl (lv_at hl 1 rfl) ?_
  obtain ⟨q2, hq2, hF⟩ := bd hF
  refine sx_V (As := [.int x1]) (rest := [.ref (a 0)]) (st1 := [.int q2, .ref (a 0)]) (c_X5_isShip G l a q1 x1 q2 hq2) v_X5_234 ⟨(Nat.le_of_ble_eq_true rfl), (Nat.le_of_ble_eq_true rfl)⟩ hx hb hml hown hts hE hA hs ⟨Nat.le_refl 0, Nat.le_refl 0⟩ 0 rfl rfl rfl rfl rfl hl.1 (Nat.le_of_ble_eq_true rfl) dX5_become_7 (pmW _) (ws' := WM G a q1) (pmW _) (fun H locs hs => ?_)
  refine lv_if_eq (tgt := 30) hx hb dX5_become_10 (by decide) (fun hc => ?_) (fun hc => ?_)
  · have hF := (if_pos hc).symm.trans hF
    exact hJ30_n q1 x1 x2 x3 _ _ _ hF hs (lv_sub hl [0, 1, 2, 3] rfl)
  · have hF := (if_neg hc).symm.trans hF
    refine lv_iload_n hx hb dX5_become_13 rfl (lv_at hl 2 rfl) ?_
    refine lv_i2l hx hb dX5_become_14 rfl ?_
    refine lv_lconst (v := (0 : Int64)) hx hb dX5_become_15 (by decide) ?_
    refine lv_ldc2 (v := (5 : Int64)) hx hb hown (hts _ g1467) dX5_become_16 ?_
    obtain ⟨q10, hq10, hF⟩ := bd hF
    refine sx_S (As := [.long x2.toInt64, .long (0 : Int64), .long (5 : Int64)]) (rest := [.ref (a 0)]) (st1 := [.int q10, .ref (a 0)]) (c_X5_in G l  x2.toInt64 (0 : Int64) (5 : Int64) q10 hq10) v_X5_161 ⟨(Nat.le_of_ble_eq_true rfl), (Nat.le_of_ble_eq_true rfl)⟩ hx hb hml hown hts hE hA hs ⟨Nat.le_refl 0, Nat.le_refl 0⟩ rfl rfl rfl hl.1 (Nat.le_of_ble_eq_true rfl) dX5_become_19 (List.Perm.refl _) (ws' := WM G a q1) (List.Perm.refl _) (fun H locs hs => ?_)
    refine lv_if_eq (tgt := 30) hx hb dX5_become_22 (by decide) (fun hc => ?_) (fun hc => ?_)
    · have hF := (if_pos hc).symm.trans hF
      exact hJ30_n q1 x1 x2 x3 _ _ _ hF hs (lv_sub hl [0, 1, 2, 3] rfl)
    · have hF := (if_neg hc).symm.trans hF
      refine lv_iload_n hx hb dX5_become_25 rfl (lv_at hl 2 rfl) ?_
      refine lv_iconst (v := (1 : Int32)) hx hb dX5_become_26 (by decide) ?_
      refine lv_icmp_ne (tgt := 34) hx hb dX5_become_27 (by decide) (fun hc => ?_) (fun hc => ?_)
      · have hF := (if_neg hc).symm.trans hF
        refine lv_iconst (v := (0 : Int32)) hx hb dX5_become_34 (by decide) ?_
        exact hJ35_n q1 x1 x2 x3 (0 : Int32) _ _ _ hF hs (lv_sub hl [0, 1, 2, 3] rfl)
      · have hF := (if_pos hc).symm.trans hF
        exact hJ30_n q1 x1 x2 x3 _ _ _ hF hs (lv_sub hl [0, 1, 2, 3] rfl)
set_option maxHeartbeats 4000000 in
set_option maxRecDepth 100000 in
theorem c_X5_law (G : GT) (l : Launch) (a : Nat → Nat) (S : MS) (x1 : Int32) (x2 : Int32) (r : Int32 × MS) (hF : F_X5_law S x1 x2 = some r) : MT G l yX5_law cX5_law 6 (some .int) 1 25 [.ref (a 0), .int x1, .int x2] (WM G a S) (some (.int r.1)) (WM G a r.2) := by
  refine MT.of (by decide) (Nat.le_of_ble_eq_true rfl) ?_
  intro p e s m args below meth c A ls hx hb hr hml hown hts hlk hE hA hs hl Q hQ
  have hl : lv_has ls 6 [(0, .ref (a 0)), (1, .int x1), (2, .int x2)] := hl
  have hJ120_n : ∀ (S : MS) (x1 : Int32) (x2 : Int32) (y0 : Int32) (H : Heap) (locs : List Loc) (ls : Array Slot), J_X5_law_120 S x1 x2 y0 = some r → SI G A s H locs (WM G a S) → lv_has ls 6 [(0, .ref (a 0)), (1, .int x1), (2, .int x2)] → W p l e (RM 1 25) s m args below meth c H locs 0 0 Q (F0 m 120 ls [.int y0, .ref (a 0)]) := by
    intro S x1 x2 y0 H locs ls hF hs hl
    unfold J_X5_law_120 at hF
    refine lv_iconst (v := (5 : Int32)) hx hb dX5_law_120 (by decide) ?_
    obtain ⟨q9, hq9, hF⟩ := bd hF
    refine sx_V (As := [.int y0, .int (5 : Int32)]) (rest := []) (st1 := [.int q9.1]) (c_X5_refuse G l a S y0 (5 : Int32) q9 hq9) v_X5_215 ⟨(Nat.le_of_ble_eq_true rfl), (Nat.le_of_ble_eq_true rfl)⟩ hx hb hml hown hts hE hA hs ⟨Nat.le_refl 0, Nat.le_refl 0⟩ 0 rfl rfl rfl rfl rfl hl.1 (Nat.le_of_ble_eq_true rfl) dX5_law_121 (pmW _) (ws' := WM G a q9.2) (pmW _) (fun H locs hs => ?_)
    refine lv_if_eq (tgt := 129) hx hb dX5_law_124 (by decide) (fun hc => ?_) (fun hc => ?_)
    · have hF := (if_pos hc).symm.trans hF
      refine lv_aload_n hx hb dX5_law_129 rfl (lv_at hl 0 rfl) ?_
      obtain ⟨q10, hq10, hF⟩ := bd hF
      refine sx_V (As := []) (rest := []) (st1 := []) (c_X5_keeps G l a q9.2 q10 hq10) v_X5_392 ⟨(Nat.le_of_ble_eq_true rfl), (Nat.le_of_ble_eq_true rfl)⟩ hx hb hml hown hts hE hA hs ⟨Nat.le_refl 0, Nat.le_refl 0⟩ 0 rfl rfl rfl rfl rfl hl.1 (Nat.le_of_ble_eq_true rfl) dX5_law_130 (pmW _) (ws' := WM G a q10) (pmW _) (fun H locs hs => ?_)
      refine lv_aload_n hx hb dX5_law_133 rfl (lv_at hl 0 rfl) ?_
      refine fg_X5_13 hx hb hown hts hE hs 0 rfl (v := .ref (a 1)) rfl dX5_law_134 ?_
      refine lv_iload_n hx hb dX5_law_137 rfl (lv_at hl 1 rfl) ?_
      obtain ⟨v11, hv11, hF⟩ := bd hF
      refine sx_iald hx hb hE hs 1 (f := m_s q10) rfl hv11 dX5_law_138 ?_
      refine lv_istore (lv' := [(5, .int v11), (0, .ref (a 0)), (1, .int x1), (2, .int x2)]) hx hb dX5_law_139 hl (by decide) rfl (fun ls hl => ?_)
      refine lv_aload_n hx hb dX5_law_141 rfl (lv_at hl 1 rfl) ?_
      refine fg_X5_13 hx hb hown hts hE hs 0 rfl (v := .ref (a 1)) rfl dX5_law_142 ?_
      refine lv_iload_n hx hb dX5_law_145 rfl (lv_at hl 2 rfl) ?_
      refine lv_iload_n hx hb dX5_law_146 rfl (lv_at hl 3 rfl) ?_
      obtain ⟨f12, hf12, hF⟩ := bd hF
      obtain ⟨S13, eS13, hF⟩ := nm_some hF
      refine sx_iast hx hb hE hs 1 (f := m_s q10) rfl hf12 (ws' := WM G a S13) (by subst eS13; rfl) dX5_law_147 (fun H locs hs => ?_)
      refine lv_iload hx hb dX5_law_148 (lv_at hl 0 rfl) ?_
      exact sx_iret hx hb hr hlk hQ (congrArg Prod.fst (Option.some.inj hF)) (congrArg (fun z => WM G a z) (congrArg Prod.snd (Option.some.inj hF))) hs dX5_law_150
    · have hF := (if_neg hc).symm.trans hF
      refine lv_iconst (v := (-1 : Int32)) hx hb dX5_law_127 (by decide) ?_
      exact sx_iret hx hb hr hlk hQ (congrArg Prod.fst (Option.some.inj hF)) (congrArg (fun z => WM G a z) (congrArg Prod.snd (Option.some.inj hF))) hs dX5_law_128
  have hJ106_n : ∀ (S : MS) (x1 : Int32) (x2 : Int32) (x3 : Int32) (y0 : Int32) (H : Heap) (locs : List Loc) (ls : Array Slot), J_X5_law_106 S x1 x2 x3 y0 = some r → SI G A s H locs (WM G a S) → lv_has ls 6 [(0, .ref (a 0)), (1, .int x1), (2, .int x2), (3, .int x3)] → W p l e (RM 1 25) s m args below meth c H locs 0 0 Q (F0 m 106 ls [.int y0]) := by
    intro S x1 x2 x3 y0 H locs ls hF hs hl
    unfold J_X5_law_106 at hF
    refine lv_istore (lv' := [(4, .int y0), (0, .ref (a 0)), (1, .int x1), (2, .int x2), (3, .int x3)]) hx hb dX5_law_106 hl (by decide) rfl (fun ls hl => ?_)
    refine lv_aload_n hx hb dX5_law_108 rfl (lv_at hl 1 rfl) ?_
    refine lv_iload hx hb dX5_law_109 (lv_at hl 0 rfl) ?_
    refine lv_iload_n hx hb dX5_law_111 rfl (lv_at hl 4 rfl) ?_
    refine lv_icmp_ge (tgt := 119) hx hb dX5_law_112 (by decide) (fun hc => ?_) (fun hc => ?_)
    · have hF := (if_pos hc).symm.trans hF
      refine lv_iconst (v := (0 : Int32)) hx hb dX5_law_119 (by decide) ?_
      exact hJ120_n S x1 x2 (0 : Int32) _ _ _ hF hs (lv_sub hl [1, 2, 3] rfl)
    · have hF := (if_neg hc).symm.trans hF
      refine lv_iconst (v := (1 : Int32)) hx hb dX5_law_115 (by decide) ?_
      refine lv_goto (tgt := 120) hx hb dX5_law_116 (by decide) ?_
      exact hJ120_n S x1 x2 (1 : Int32) _ _ _ hF hs (lv_sub hl [1, 2, 3] rfl)
  have hJ88_n : ∀ (S : MS) (x1 : Int32) (x2 : Int32) (y0 : Int32) (H : Heap) (locs : List Loc) (ls : Array Slot), J_X5_law_88 S x1 x2 y0 = some r → SI G A s H locs (WM G a S) → lv_has ls 6 [(0, .ref (a 0)), (1, .int x1), (2, .int x2)] → W p l e (RM 1 25) s m args below meth c H locs 0 0 Q (F0 m 88 ls [.int y0]) := by
    intro S x1 x2 y0 H locs ls hF hs hl
    unfold J_X5_law_88 at hF
    refine lv_istore_n (lv' := [(3, .int y0), (0, .ref (a 0)), (1, .int x1), (2, .int x2)]) hx hb dX5_law_88 rfl hl (by decide) rfl (fun ls hl => ?_)
    refine lv_iload_n hx hb dX5_law_89 rfl (lv_at hl 2 rfl) ?_
    refine lv_bipush (v := (9 : Int32)) hx hb dX5_law_90 (by decide) ?_
    refine lv_icmp_ne (tgt := 99) hx hb dX5_law_92 (by decide) (fun hc => ?_) (fun hc => ?_)
    · have hF := (if_neg hc).symm.trans hF
      refine lv_aload_n hx hb dX5_law_99 rfl (lv_at hl 1 rfl) ?_
      refine fg_X5_13 hx hb hown hts hE hs 0 rfl (v := .ref (a 1)) rfl dX5_law_100 ?_
      refine lv_bipush (v := (9 : Int32)) hx hb dX5_law_103 (by decide) ?_
      obtain ⟨v8, hv8, hF⟩ := bd hF
      refine sx_iald hx hb hE hs 1 (f := m_s S) rfl hv8 dX5_law_105 ?_
      exact hJ106_n S x1 x2 y0 v8 _ _ _ hF hs (lv_sub hl [1, 2, 3, 0] rfl)
    · have hF := (if_pos hc).symm.trans hF
      refine lv_iload_n hx hb dX5_law_95 rfl (lv_at hl 3 rfl) ?_
      refine lv_goto (tgt := 106) hx hb dX5_law_96 (by decide) ?_
      exact hJ106_n S x1 x2 y0 x2 _ _ _ hF hs (lv_sub hl [1, 2, 3, 0] rfl)
  have hJ62_n : ∀ (S : MS) (x1 : Int32) (x2 : Int32) (y0 : Int32) (H : Heap) (locs : List Loc) (ls : Array Slot), J_X5_law_62 S x1 x2 y0 = some r → SI G A s H locs (WM G a S) → lv_has ls 6 [(0, .ref (a 0)), (1, .int x1), (2, .int x2)] → W p l e (RM 1 25) s m args below meth c H locs 0 0 Q (F0 m 62 ls [.int y0, .ref (a 0)]) := by
    intro S x1 x2 y0 H locs ls hF hs hl
    unfold J_X5_law_62 at hF
    refine lv_iconst (v := (2 : Int32)) hx hb dX5_law_62 (by decide) ?_
    obtain ⟨q6, hq6, hF⟩ := bd hF
    refine sx_V (As := [.int y0, .int (2 : Int32)]) (rest := []) (st1 := [.int q6.1]) (c_X5_refuse G l a S y0 (2 : Int32) q6 hq6) v_X5_215 ⟨(Nat.le_of_ble_eq_true rfl), (Nat.le_of_ble_eq_true rfl)⟩ hx hb hml hown hts hE hA hs ⟨Nat.le_refl 0, Nat.le_refl 0⟩ 0 rfl rfl rfl rfl rfl hl.1 (Nat.le_of_ble_eq_true rfl) dX5_law_63 (pmW _) (ws' := WM G a q6.2) (pmW _) (fun H locs hs => ?_)
    refine lv_if_eq (tgt := 71) hx hb dX5_law_66 (by decide) (fun hc => ?_) (fun hc => ?_)
    · have hF := (if_pos hc).symm.trans hF
      refine lv_iload_n hx hb dX5_law_71 rfl (lv_at hl 1 rfl) ?_
      refine lv_bipush (v := (8 : Int32)) hx hb dX5_law_72 (by decide) ?_
      refine lv_icmp_ne (tgt := 81) hx hb dX5_law_74 (by decide) (fun hc => ?_) (fun hc => ?_)
      · have hF := (if_neg hc).symm.trans hF
        refine lv_aload_n hx hb dX5_law_81 rfl (lv_at hl 0 rfl) ?_
        refine fg_X5_13 hx hb hown hts hE hs 0 rfl (v := .ref (a 1)) rfl dX5_law_82 ?_
        refine lv_bipush (v := (8 : Int32)) hx hb dX5_law_85 (by decide) ?_
        obtain ⟨v7, hv7, hF⟩ := bd hF
        refine sx_iald hx hb hE hs 1 (f := m_s q6.2) rfl hv7 dX5_law_87 ?_
        exact hJ88_n q6.2 x1 x2 v7 _ _ _ hF hs (lv_sub hl [0, 1, 2] rfl)
      · have hF := (if_pos hc).symm.trans hF
        refine lv_iload_n hx hb dX5_law_77 rfl (lv_at hl 2 rfl) ?_
        refine lv_goto (tgt := 88) hx hb dX5_law_78 (by decide) ?_
        exact hJ88_n q6.2 x1 x2 x2 _ _ _ hF hs (lv_sub hl [0, 1, 2] rfl)
    · have hF := (if_neg hc).symm.trans hF
      refine lv_iconst (v := (-1 : Int32)) hx hb dX5_law_69 (by decide) ?_
      exact sx_iret hx hb hr hlk hQ (congrArg Prod.fst (Option.some.inj hF)) (congrArg (fun z => WM G a z) (congrArg Prod.snd (Option.some.inj hF))) hs dX5_law_70
  have hJ31_n : ∀ (S : MS) (x1 : Int32) (x2 : Int32) (y0 : Int32) (H : Heap) (locs : List Loc) (ls : Array Slot), J_X5_law_31 S x1 x2 y0 = some r → SI G A s H locs (WM G a S) → lv_has ls 6 [(0, .ref (a 0)), (1, .int x1), (2, .int x2)] → W p l e (RM 1 25) s m args below meth c H locs 0 0 Q (F0 m 31 ls [.int y0, .ref (a 0)]) := by
    intro S x1 x2 y0 H locs ls hF hs hl
    unfold J_X5_law_31 at hF
    refine lv_iconst (v := (1 : Int32)) hx hb dX5_law_31 (by decide) ?_
    obtain ⟨q2, hq2, hF⟩ := bd hF
    refine sx_V (As := [.int y0, .int (1 : Int32)]) (rest := []) (st1 := [.int q2.1]) (c_X5_refuse G l a S y0 (1 : Int32) q2 hq2) v_X5_215 ⟨(Nat.le_of_ble_eq_true rfl), (Nat.le_of_ble_eq_true rfl)⟩ hx hb hml hown hts hE hA hs ⟨Nat.le_refl 0, Nat.le_refl 0⟩ 0 rfl rfl rfl rfl rfl hl.1 (Nat.le_of_ble_eq_true rfl) dX5_law_32 (pmW _) (ws' := WM G a q2.2) (pmW _) (fun H locs hs => ?_)
    refine lv_if_ne (tgt := 69) hx hb dX5_law_35 (by decide) (fun hc => ?_) (fun hc => ?_)
    · have hF := (if_neg hc).symm.trans hF
      refine lv_iconst (v := (-1 : Int32)) hx hb dX5_law_69 (by decide) ?_
      exact sx_iret hx hb hr hlk hQ (congrArg Prod.fst (Option.some.inj hF)) (congrArg (fun z => WM G a z) (congrArg Prod.snd (Option.some.inj hF))) hs dX5_law_70
    · have hF := (if_pos hc).symm.trans hF
      refine lv_aload_n hx hb dX5_law_38 rfl (lv_at hl 0 rfl) ?_
      refine lv_iload_n hx hb dX5_law_39 rfl (lv_at hl 2 rfl) ?_
      refine lv_i2l hx hb dX5_law_40 rfl ?_
      refine lv_iload_n hx hb dX5_law_41 rfl (lv_at hl 1 rfl) ?_
      obtain ⟨q3, hq3, hF⟩ := bd hF
      refine sx_S (As := [.int x1]) (rest := [.long x2.toInt64, .ref (a 0)]) (st1 := [.int q3, .long x2.toInt64, .ref (a 0)]) (c_X5_lowOf G l  x1 q3 hq3) v_X5_185 ⟨(Nat.le_of_ble_eq_true rfl), (Nat.le_of_ble_eq_true rfl)⟩ hx hb hml hown hts hE hA hs ⟨Nat.le_refl 0, Nat.le_refl 0⟩ rfl rfl rfl hl.1 (Nat.le_of_ble_eq_true rfl) dX5_law_42 (List.Perm.refl _) (ws' := WM G a q2.2) (List.Perm.refl _) (fun H locs hs => ?_)
      refine lv_i2l hx hb dX5_law_45 rfl ?_
      refine lv_iload_n hx hb dX5_law_46 rfl (lv_at hl 1 rfl) ?_
      obtain ⟨q4, hq4, hF⟩ := bd hF
      refine sx_S (As := [.int x1]) (rest := [.long q3.toInt64, .long x2.toInt64, .ref (a 0)]) (st1 := [.int q4, .long q3.toInt64, .long x2.toInt64, .ref (a 0)]) (c_X5_highOf G l  x1 q4 hq4) v_X5_188 ⟨(Nat.le_of_ble_eq_true rfl), (Nat.le_of_ble_eq_true rfl)⟩ hx hb hml hown hts hE hA hs ⟨Nat.le_refl 0, Nat.le_refl 0⟩ rfl rfl rfl hl.1 (Nat.le_of_ble_eq_true rfl) dX5_law_47 (List.Perm.refl _) (ws' := WM G a q2.2) (List.Perm.refl _) (fun H locs hs => ?_)
      refine lv_i2l hx hb dX5_law_50 rfl ?_
      obtain ⟨q5, hq5, hF⟩ := bd hF
      refine sx_S (As := [.long x2.toInt64, .long q3.toInt64, .long q4.toInt64]) (rest := [.ref (a 0)]) (st1 := [.int q5, .ref (a 0)]) (c_X5_in G l  x2.toInt64 q3.toInt64 q4.toInt64 q5 hq5) v_X5_161 ⟨(Nat.le_of_ble_eq_true rfl), (Nat.le_of_ble_eq_true rfl)⟩ hx hb hml hown hts hE hA hs ⟨Nat.le_refl 0, Nat.le_refl 0⟩ rfl rfl rfl hl.1 (Nat.le_of_ble_eq_true rfl) dX5_law_51 (List.Perm.refl _) (ws' := WM G a q2.2) (List.Perm.refl _) (fun H locs hs => ?_)
      refine lv_if_ne (tgt := 61) hx hb dX5_law_54 (by decide) (fun hc => ?_) (fun hc => ?_)
      · have hF := (if_neg hc).symm.trans hF
        refine lv_iconst (v := (0 : Int32)) hx hb dX5_law_61 (by decide) ?_
        exact hJ62_n q2.2 x1 x2 (0 : Int32) _ _ _ hF hs (lv_sub hl [0, 1, 2] rfl)
      · have hF := (if_pos hc).symm.trans hF
        refine lv_iconst (v := (1 : Int32)) hx hb dX5_law_57 (by decide) ?_
        refine lv_goto (tgt := 62) hx hb dX5_law_58 (by decide) ?_
        exact hJ62_n q2.2 x1 x2 (1 : Int32) _ _ _ hF hs (lv_sub hl [0, 1, 2] rfl)
  have hJ26_n : ∀ (S : MS) (x1 : Int32) (x2 : Int32) (H : Heap) (locs : List Loc) (ls : Array Slot), J_X5_law_26 S x1 x2 = some r → SI G A s H locs (WM G a S) → lv_has ls 6 [(0, .ref (a 0)), (1, .int x1), (2, .int x2)] → W p l e (RM 1 25) s m args below meth c H locs 0 0 Q (F0 m 26 ls [.ref (a 0)]) := by
    intro S x1 x2 H locs ls hF hs hl
    unfold J_X5_law_26 at hF
    refine lv_iconst (v := (1 : Int32)) hx hb dX5_law_26 (by decide) ?_
    refine lv_goto (tgt := 31) hx hb dX5_law_27 (by decide) ?_
    exact hJ31_n S x1 x2 (1 : Int32) _ _ _ hF hs (lv_sub hl [0, 1, 2] rfl)
  unfold F_X5_law at hF
  refine lv_aload_n hx hb dX5_law_0 rfl (lv_at hl 0 rfl) ?_
  obtain ⟨q1, hq1, hF⟩ := bd hF
  refine sx_V (As := []) (rest := []) (st1 := []) (c_X5_begins G l a S q1 hq1) v_X5_212 ⟨(Nat.le_of_ble_eq_true rfl), (Nat.le_of_ble_eq_true rfl)⟩ hx hb hml hown hts hE hA hs ⟨Nat.le_refl 0, Nat.le_refl 0⟩ 0 rfl rfl rfl rfl rfl hl.1 (Nat.le_of_ble_eq_true rfl) dX5_law_1 (pmW _) (ws' := WM G a q1) (pmW _) (fun H locs hs => ?_)
  refine lv_aload_n hx hb dX5_law_4 rfl (lv_at hl 0 rfl) ?_
  refine lv_aload_n hx hb dX5_law_5 rfl (lv_at hl 0 rfl) ?_
  refine fg_X5_225 hx hb hown hts hE hs 0 rfl (v := .int (m_told q1)) rfl dX5_law_6 ?_
  refine lv_if_eq (tgt := 26) hx hb dX5_law_9 (by decide) (fun hc => ?_) (fun hc => ?_)
  · have hF := (if_pos hc).symm.trans hF
    exact hJ26_n q1 x1 x2 _ _ _ hF hs (lv_sub hl [0, 1, 2] rfl)
  · have hF := (if_neg hc).symm.trans hF
    refine lv_iload_n hx hb dX5_law_12 rfl (lv_at hl 1 rfl) ?_
    refine lv_i2l hx hb dX5_law_13 rfl ?_
    refine lv_ldc2 (v := (2 : Int64)) hx hb hown (hts _ g1364) dX5_law_14 ?_
    refine lv_ldc2 (v := (9 : Int64)) hx hb hown (hts _ g1475) dX5_law_17 ?_
    obtain ⟨q14, hq14, hF⟩ := bd hF
    refine sx_S (As := [.long x1.toInt64, .long (2 : Int64), .long (9 : Int64)]) (rest := [.ref (a 0)]) (st1 := [.int q14, .ref (a 0)]) (c_X5_in G l  x1.toInt64 (2 : Int64) (9 : Int64) q14 hq14) v_X5_161 ⟨(Nat.le_of_ble_eq_true rfl), (Nat.le_of_ble_eq_true rfl)⟩ hx hb hml hown hts hE hA hs ⟨Nat.le_refl 0, Nat.le_refl 0⟩ rfl rfl rfl hl.1 (Nat.le_of_ble_eq_true rfl) dX5_law_20 (List.Perm.refl _) (ws' := WM G a q1) (List.Perm.refl _) (fun H locs hs => ?_)
    refine lv_if_ne (tgt := 30) hx hb dX5_law_23 (by decide) (fun hc => ?_) (fun hc => ?_)
    · have hF := (if_neg hc).symm.trans hF
      refine lv_iconst (v := (0 : Int32)) hx hb dX5_law_30 (by decide) ?_
      exact hJ31_n q1 x1 x2 (0 : Int32) _ _ _ hF hs (lv_sub hl [0, 1, 2] rfl)
    · have hF := (if_pos hc).symm.trans hF
      exact hJ26_n q1 x1 x2 _ _ _ hF hs (lv_sub hl [0, 1, 2] rfl)
set_option maxHeartbeats 4000000 in
set_option maxRecDepth 100000 in
theorem c_X5_undo (G : GT) (l : Launch) (a : Nat → Nat) (S : MS) (r : Int32 × MS) (hF : F_X5_undo S = some r) : MT G l yX5_undo cX5_undo 2 (some .int) 1 22 [.ref (a 0)] (WM G a S) (some (.int r.1)) (WM G a r.2) := by
  refine MT.of (by decide) (Nat.le_of_ble_eq_true rfl) ?_
  intro p e s m args below meth c A ls hx hb hr hml hown hts hlk hE hA hs hl Q hQ
  have hl : lv_has ls 2 [(0, .ref (a 0))] := hl
  have hL58 : ∀ (k : MS → Option (Int32 × MS)) (hk : ∀ (S : MS) (H : Heap) (locs : List Loc) (ls : Array Slot), k S = some r → SI G A s H locs (WM G a S) → lv_has ls 2 [(0, .ref (a 0))] → W p l e (RM 1 22) s m args below meth c H locs 0 0 Q (F0 m 90 ls [])) (fu : Nat) (S : MS) (x1 : Int32) (H : Heap) (locs : List Loc) (ls : Array Slot), lo2 (B_X5_undo_58 k) fu S x1 = some r → SI G A s H locs (WM G a S) → lv_has ls 2 [(0, .ref (a 0)), (1, .int x1)] → W p l e (RM 1 22) s m args below meth c H locs 0 0 Q (F0 m 58 ls []) := by
    intro k hk fu
    induction fu with
    | zero =>
      intro S x1 H locs ls hF hs hl
      exact nomatch (show (none : Option (Int32 × MS)) = some r from hF)
    | succ fu hrec =>
      intro S x1 H locs ls hF hs hl
      have hF : (B_X5_undo_58 k) (lo2 (B_X5_undo_58 k) fu) S x1 = some r := hF
      unfold B_X5_undo_58 at hF
      refine lv_iload_n hx hb dX5_undo_58 rfl (lv_at hl 1 rfl) ?_
      refine lv_bipush (v := (82 : Int32)) hx hb dX5_undo_59 (by decide) ?_
      refine lv_icmp_ge (tgt := 90) hx hb dX5_undo_61 (by decide) (fun hc => ?_) (fun hc => ?_)
      · have hF := (if_pos hc).symm.trans hF
        exact hk S _ _ _ hF hs (lv_sub hl [0] rfl)
      · have hF := (if_neg hc).symm.trans hF
        refine lv_aload_n hx hb dX5_undo_64 rfl (lv_at hl 0 rfl) ?_
        refine fg_X5_13 hx hb hown hts hE hs 0 rfl (v := .ref (a 1)) rfl dX5_undo_65 ?_
        refine lv_iload_n hx hb dX5_undo_68 rfl (lv_at hl 1 rfl) ?_
        refine lv_aload_n hx hb dX5_undo_69 rfl (lv_at hl 0 rfl) ?_
        refine fg_X5_23 hx hb hown hts hE hs 0 rfl (v := .ref (a 4)) rfl dX5_undo_70 ?_
        refine lv_bipush (v := (82 : Int32)) hx hb dX5_undo_73 (by decide) ?_
        refine lv_aload_n hx hb dX5_undo_75 rfl (lv_at hl 0 rfl) ?_
        refine fg_X5_229 hx hb hown hts hE hs 0 rfl (v := .int (m_acts S)) rfl dX5_undo_76 ?_
        refine lv_imul hx hb dX5_undo_79 ?_
        refine lv_iload_n hx hb dX5_undo_80 rfl (lv_at hl 1 rfl) ?_
        refine lv_iadd hx hb dX5_undo_81 ?_
        obtain ⟨v5, hv5, hF⟩ := bd hF
        refine sx_iald hx hb hE hs 4 (f := m_past S) rfl hv5 dX5_undo_82 ?_
        obtain ⟨f6, hf6, hF⟩ := bd hF
        obtain ⟨S7, eS7, hF⟩ := nm_some hF
        refine sx_iast hx hb hE hs 1 (f := m_s S) rfl hf6 (ws' := WM G a S7) (by subst eS7; rfl) dX5_undo_83 (fun H locs hs => ?_)
        obtain ⟨v8, ev8, hF⟩ := nm_some hF
        refine lv_iinc (v := v8) (lv' := [(1, .int v8), (0, .ref (a 0))]) hx hb dX5_undo_84 hl (k := 1) rfl (by rw [ev8]; rfl) (by decide) rfl (fun ls hl => ?_)
        refine lv_goto (tgt := 58) hx hb dX5_undo_87 (by decide) ?_
        exact hrec S7 v8 _ _ _ hF hs (lv_sub hl [1, 0] rfl)
  have hJ37_n : ∀ (S : MS) (y0 : Int32) (H : Heap) (locs : List Loc) (ls : Array Slot), J_X5_undo_37 S y0 = some r → SI G A s H locs (WM G a S) → lv_has ls 2 [(0, .ref (a 0))] → W p l e (RM 1 22) s m args below meth c H locs 0 0 Q (F0 m 37 ls [.int y0, .ref (a 0)]) := by
    intro S y0 H locs ls hF hs hl
    unfold J_X5_undo_37 at hF
    refine lv_iconst (v := (5 : Int32)) hx hb dX5_undo_37 (by decide) ?_
    obtain ⟨q3, hq3, hF⟩ := bd hF
    refine sx_V (As := [.int y0, .int (5 : Int32)]) (rest := []) (st1 := [.int q3.1]) (c_X5_refuse G l a S y0 (5 : Int32) q3 hq3) v_X5_215 ⟨(Nat.le_of_ble_eq_true rfl), (Nat.le_of_ble_eq_true rfl)⟩ hx hb hml hown hts hE hA hs ⟨Nat.le_refl 0, Nat.le_refl 0⟩ 0 rfl rfl rfl rfl rfl hl.1 (Nat.le_of_ble_eq_true rfl) dX5_undo_38 (pmW _) (ws' := WM G a q3.2) (pmW _) (fun H locs hs => ?_)
    refine lv_if_eq (tgt := 46) hx hb dX5_undo_41 (by decide) (fun hc => ?_) (fun hc => ?_)
    · have hF := (if_pos hc).symm.trans hF
      refine lv_aload_n hx hb dX5_undo_46 rfl (lv_at hl 0 rfl) ?_
      refine lv_dup hx hb dX5_undo_47 rfl ?_
      refine fg_X5_229 hx hb hown hts hE hs 0 rfl (v := .int (m_acts q3.2)) rfl dX5_undo_48 ?_
      refine lv_iconst (v := (1 : Int32)) hx hb dX5_undo_51 (by decide) ?_
      refine lv_isub hx hb dX5_undo_52 ?_
      obtain ⟨S4, eS4, hF⟩ := nm_some hF
      refine fp_X5_229 hx hb hown hts hE hs 0 rfl (ws' := WM G a S4) (Nat.le_of_ble_eq_true rfl) (by subst eS4; rfl) dX5_undo_53 (fun H locs hs => ?_)
      refine lv_iconst (v := (0 : Int32)) hx hb dX5_undo_56 (by decide) ?_
      refine lv_istore_n (lv' := [(1, .int (0 : Int32)), (0, .ref (a 0))]) hx hb dX5_undo_57 rfl hl (by decide) rfl (fun ls hl => ?_)
      refine hL58 _ (fun S9 H locs ls hF hs hl => ?_) FU S4 (0 : Int32) _ _ _ hF hs (lv_sub hl [1, 0] rfl)
      refine lv_aload_n hx hb dX5_undo_90 rfl (lv_at hl 0 rfl) ?_
      refine fg_X5_229 hx hb hown hts hE hs 0 rfl (v := .int (m_acts S9)) rfl dX5_undo_91 ?_
      exact sx_iret hx hb hr hlk hQ (congrArg Prod.fst (Option.some.inj hF)) (congrArg (fun z => WM G a z) (congrArg Prod.snd (Option.some.inj hF))) hs dX5_undo_94
    · have hF := (if_neg hc).symm.trans hF
      refine lv_iconst (v := (-1 : Int32)) hx hb dX5_undo_44 (by decide) ?_
      exact sx_iret hx hb hr hlk hQ (congrArg Prod.fst (Option.some.inj hF)) (congrArg (fun z => WM G a z) (congrArg Prod.snd (Option.some.inj hF))) hs dX5_undo_45
  have hJ17_n : ∀ (S : MS) (y0 : Int32) (H : Heap) (locs : List Loc) (ls : Array Slot), J_X5_undo_17 S y0 = some r → SI G A s H locs (WM G a S) → lv_has ls 2 [(0, .ref (a 0))] → W p l e (RM 1 22) s m args below meth c H locs 0 0 Q (F0 m 17 ls [.int y0, .ref (a 0)]) := by
    intro S y0 H locs ls hF hs hl
    unfold J_X5_undo_17 at hF
    refine lv_iconst (v := (1 : Int32)) hx hb dX5_undo_17 (by decide) ?_
    obtain ⟨q2, hq2, hF⟩ := bd hF
    refine sx_V (As := [.int y0, .int (1 : Int32)]) (rest := []) (st1 := [.int q2.1]) (c_X5_refuse G l a S y0 (1 : Int32) q2 hq2) v_X5_215 ⟨(Nat.le_of_ble_eq_true rfl), (Nat.le_of_ble_eq_true rfl)⟩ hx hb hml hown hts hE hA hs ⟨Nat.le_refl 0, Nat.le_refl 0⟩ 0 rfl rfl rfl rfl rfl hl.1 (Nat.le_of_ble_eq_true rfl) dX5_undo_18 (pmW _) (ws' := WM G a q2.2) (pmW _) (fun H locs hs => ?_)
    refine lv_if_ne (tgt := 44) hx hb dX5_undo_21 (by decide) (fun hc => ?_) (fun hc => ?_)
    · have hF := (if_neg hc).symm.trans hF
      refine lv_iconst (v := (-1 : Int32)) hx hb dX5_undo_44 (by decide) ?_
      exact sx_iret hx hb hr hlk hQ (congrArg Prod.fst (Option.some.inj hF)) (congrArg (fun z => WM G a z) (congrArg Prod.snd (Option.some.inj hF))) hs dX5_undo_45
    · have hF := (if_pos hc).symm.trans hF
      refine lv_aload_n hx hb dX5_undo_24 rfl (lv_at hl 0 rfl) ?_
      refine lv_aload_n hx hb dX5_undo_25 rfl (lv_at hl 0 rfl) ?_
      refine fg_X5_229 hx hb hown hts hE hs 0 rfl (v := .int (m_acts q2.2)) rfl dX5_undo_26 ?_
      refine lv_if_ne (tgt := 36) hx hb dX5_undo_29 (by decide) (fun hc => ?_) (fun hc => ?_)
      · have hF := (if_neg hc).symm.trans hF
        refine lv_iconst (v := (0 : Int32)) hx hb dX5_undo_36 (by decide) ?_
        exact hJ37_n q2.2 (0 : Int32) _ _ _ hF hs (lv_sub hl [0] rfl)
      · have hF := (if_pos hc).symm.trans hF
        refine lv_iconst (v := (1 : Int32)) hx hb dX5_undo_32 (by decide) ?_
        refine lv_goto (tgt := 37) hx hb dX5_undo_33 (by decide) ?_
        exact hJ37_n q2.2 (1 : Int32) _ _ _ hF hs (lv_sub hl [0] rfl)
  unfold F_X5_undo at hF
  refine lv_aload_n hx hb dX5_undo_0 rfl (lv_at hl 0 rfl) ?_
  obtain ⟨q1, hq1, hF⟩ := bd hF
  refine sx_V (As := []) (rest := []) (st1 := []) (c_X5_begins G l a S q1 hq1) v_X5_212 ⟨(Nat.le_of_ble_eq_true rfl), (Nat.le_of_ble_eq_true rfl)⟩ hx hb hml hown hts hE hA hs ⟨Nat.le_refl 0, Nat.le_refl 0⟩ 0 rfl rfl rfl rfl rfl hl.1 (Nat.le_of_ble_eq_true rfl) dX5_undo_1 (pmW _) (ws' := WM G a q1) (pmW _) (fun H locs hs => ?_)
  refine lv_aload_n hx hb dX5_undo_4 rfl (lv_at hl 0 rfl) ?_
  refine lv_aload_n hx hb dX5_undo_5 rfl (lv_at hl 0 rfl) ?_
  refine fg_X5_225 hx hb hown hts hE hs 0 rfl (v := .int (m_told q1)) rfl dX5_undo_6 ?_
  refine lv_if_ne (tgt := 16) hx hb dX5_undo_9 (by decide) (fun hc => ?_) (fun hc => ?_)
  · have hF := (if_neg hc).symm.trans hF
    refine lv_iconst (v := (0 : Int32)) hx hb dX5_undo_16 (by decide) ?_
    exact hJ17_n q1 (0 : Int32) _ _ _ hF hs (lv_sub hl [0] rfl)
  · have hF := (if_pos hc).symm.trans hF
    refine lv_iconst (v := (1 : Int32)) hx hb dX5_undo_12 (by decide) ?_
    refine lv_goto (tgt := 17) hx hb dX5_undo_13 (by decide) ?_
    exact hJ17_n q1 (1 : Int32) _ _ _ hF hs (lv_sub hl [0] rfl)
set_option maxHeartbeats 4000000 in
set_option maxRecDepth 100000 in
theorem c_X5_image (G : GT) (l : Launch) (a : Nat → Nat) (S : MS) (x1 : Int32) (r : Int32 × MS) (hF : F_X5_image S x1 = some r) : MT G l yX5_image cX5_image 3 (some .boolean) 1 25 [.ref (a 0), .int x1] (WM G a S) (some (.int r.1)) (WM G a r.2) := by
  refine MT.of (by decide) (Nat.le_of_ble_eq_true rfl) ?_
  intro p e s m args below meth c A ls hx hb hr hml hown hts hlk hE hA hs hl Q hQ
  have hl : lv_has ls 3 [(0, .ref (a 0)), (1, .int x1)] := hl
  have hL38 : ∀ (x1 : Int32) (k : MS → Option (Int32 × MS)) (hk : ∀ (S : MS) (H : Heap) (locs : List Loc) (ls : Array Slot), k S = some r → SI G A s H locs (WM G a S) → lv_has ls 3 [(0, .ref (a 0)), (1, .int x1)] → W p l e (RM 1 25) s m args below meth c H locs 0 0 Q (F0 m 67 ls [])) (fu : Nat) (S : MS) (x2 : Int32) (H : Heap) (locs : List Loc) (ls : Array Slot), lo2 (B_X5_image_38 x1 k) fu S x2 = some r → SI G A s H locs (WM G a S) → lv_has ls 3 [(0, .ref (a 0)), (1, .int x1), (2, .int x2)] → W p l e (RM 1 25) s m args below meth c H locs 0 0 Q (F0 m 38 ls []) := by
    intro x1 k hk fu
    induction fu with
    | zero =>
      intro S x2 H locs ls hF hs hl
      exact nomatch (show (none : Option (Int32 × MS)) = some r from hF)
    | succ fu hrec =>
      intro S x2 H locs ls hF hs hl
      have hF : (B_X5_image_38 x1 k) (lo2 (B_X5_image_38 x1 k) fu) S x2 = some r := hF
      unfold B_X5_image_38 at hF
      refine lv_iload_n hx hb dX5_image_38 rfl (lv_at hl 2 rfl) ?_
      refine lv_bipush (v := (82 : Int32)) hx hb dX5_image_39 (by decide) ?_
      refine lv_icmp_ge (tgt := 67) hx hb dX5_image_41 (by decide) (fun hc => ?_) (fun hc => ?_)
      · have hF := (if_pos hc).symm.trans hF
        exact hk S _ _ _ hF hs (lv_sub hl [0, 1] rfl)
      · have hF := (if_neg hc).symm.trans hF
        refine lv_aload_n hx hb dX5_image_44 rfl (lv_at hl 0 rfl) ?_
        refine fg_X5_26 hx hb hown hts hE hs 0 rfl (v := .ref (a 5)) rfl dX5_image_45 ?_
        refine lv_bipush (v := (82 : Int32)) hx hb dX5_image_48 (by decide) ?_
        refine lv_iload_n hx hb dX5_image_50 rfl (lv_at hl 1 rfl) ?_
        refine lv_imul hx hb dX5_image_51 ?_
        refine lv_iload_n hx hb dX5_image_52 rfl (lv_at hl 2 rfl) ?_
        refine lv_iadd hx hb dX5_image_53 ?_
        refine lv_aload_n hx hb dX5_image_54 rfl (lv_at hl 0 rfl) ?_
        refine fg_X5_13 hx hb hown hts hE hs 0 rfl (v := .ref (a 1)) rfl dX5_image_55 ?_
        refine lv_iload_n hx hb dX5_image_58 rfl (lv_at hl 2 rfl) ?_
        obtain ⟨v3, hv3, hF⟩ := bd hF
        refine sx_iald hx hb hE hs 1 (f := m_s S) rfl hv3 dX5_image_59 ?_
        obtain ⟨f4, hf4, hF⟩ := bd hF
        obtain ⟨S5, eS5, hF⟩ := nm_some hF
        refine sx_iast hx hb hE hs 5 (f := m_kept S) rfl hf4 (ws' := WM G a S5) (by subst eS5; rfl) dX5_image_60 (fun H locs hs => ?_)
        obtain ⟨v6, ev6, hF⟩ := nm_some hF
        refine lv_iinc (v := v6) (lv' := [(2, .int v6), (0, .ref (a 0)), (1, .int x1)]) hx hb dX5_image_61 hl (k := 2) rfl (by rw [ev6]; rfl) (by decide) rfl (fun ls hl => ?_)
        refine lv_goto (tgt := 38) hx hb dX5_image_64 (by decide) ?_
        exact hrec S5 v6 _ _ _ hF hs (lv_sub hl [1, 2, 0] rfl)
  have hJ27_n : ∀ (S : MS) (x1 : Int32) (y0 : Int32) (H : Heap) (locs : List Loc) (ls : Array Slot), J_X5_image_27 S x1 y0 = some r → SI G A s H locs (WM G a S) → lv_has ls 3 [(0, .ref (a 0)), (1, .int x1)] → W p l e (RM 1 25) s m args below meth c H locs 0 0 Q (F0 m 27 ls [.int y0, .ref (a 0)]) := by
    intro S x1 y0 H locs ls hF hs hl
    unfold J_X5_image_27 at hF
    refine lv_iconst (v := (1 : Int32)) hx hb dX5_image_27 (by decide) ?_
    obtain ⟨q2, hq2, hF⟩ := bd hF
    refine sx_V (As := [.int y0, .int (1 : Int32)]) (rest := []) (st1 := [.int q2.1]) (c_X5_refuse G l a S y0 (1 : Int32) q2 hq2) v_X5_215 ⟨(Nat.le_of_ble_eq_true rfl), (Nat.le_of_ble_eq_true rfl)⟩ hx hb hml hown hts hE hA hs ⟨Nat.le_refl 0, Nat.le_refl 0⟩ 0 rfl rfl rfl rfl rfl hl.1 (Nat.le_of_ble_eq_true rfl) dX5_image_28 (pmW _) (ws' := WM G a q2.2) (pmW _) (fun H locs hs => ?_)
    refine lv_if_eq (tgt := 36) hx hb dX5_image_31 (by decide) (fun hc => ?_) (fun hc => ?_)
    · have hF := (if_pos hc).symm.trans hF
      refine lv_iconst (v := (0 : Int32)) hx hb dX5_image_36 (by decide) ?_
      refine lv_istore_n (lv' := [(2, .int (0 : Int32)), (0, .ref (a 0)), (1, .int x1)]) hx hb dX5_image_37 rfl hl (by decide) rfl (fun ls hl => ?_)
      refine hL38 x1 _ (fun S7 H locs ls hF hs hl => ?_) FU q2.2 (0 : Int32) _ _ _ hF hs (lv_sub hl [1, 2, 0] rfl)
      refine lv_aload_n hx hb dX5_image_67 rfl (lv_at hl 0 rfl) ?_
      refine fg_X5_29 hx hb hown hts hE hs 0 rfl (v := .ref (a 6)) rfl dX5_image_68 ?_
      refine lv_iload_n hx hb dX5_image_71 rfl (lv_at hl 1 rfl) ?_
      refine lv_iconst (v := (1 : Int32)) hx hb dX5_image_72 (by decide) ?_
      obtain ⟨f8, hf8, hF⟩ := bd hF
      obtain ⟨S9, eS9, hF⟩ := nm_some hF
      refine sx_zast hx hb hE hs 6 (f := m_isKept S7) rfl rfl hf8 (ws' := WM G a S9) (by subst eS9; rfl) dX5_image_73 (fun H locs hs => ?_)
      refine lv_iconst (v := (1 : Int32)) hx hb dX5_image_74 (by decide) ?_
      exact sx_zret hx hb hr hlk hQ (Or.inr rfl) (congrArg Prod.fst (Option.some.inj hF)) (congrArg (fun z => WM G a z) (congrArg Prod.snd (Option.some.inj hF))) hs dX5_image_75
    · have hF := (if_neg hc).symm.trans hF
      refine lv_iconst (v := (0 : Int32)) hx hb dX5_image_34 (by decide) ?_
      exact sx_zret hx hb hr hlk hQ (Or.inl rfl) (congrArg Prod.fst (Option.some.inj hF)) (congrArg (fun z => WM G a z) (congrArg Prod.snd (Option.some.inj hF))) hs dX5_image_35
  have hJ22_n : ∀ (S : MS) (x1 : Int32) (H : Heap) (locs : List Loc) (ls : Array Slot), J_X5_image_22 S x1 = some r → SI G A s H locs (WM G a S) → lv_has ls 3 [(0, .ref (a 0)), (1, .int x1)] → W p l e (RM 1 25) s m args below meth c H locs 0 0 Q (F0 m 22 ls [.ref (a 0)]) := by
    intro S x1 H locs ls hF hs hl
    unfold J_X5_image_22 at hF
    refine lv_iconst (v := (1 : Int32)) hx hb dX5_image_22 (by decide) ?_
    refine lv_goto (tgt := 27) hx hb dX5_image_23 (by decide) ?_
    exact hJ27_n S x1 (1 : Int32) _ _ _ hF hs (lv_sub hl [0, 1] rfl)
  unfold F_X5_image at hF
  refine lv_aload_n hx hb dX5_image_0 rfl (lv_at hl 0 rfl) ?_
  obtain ⟨q1, hq1, hF⟩ := bd hF
  refine sx_V (As := []) (rest := []) (st1 := []) (c_X5_begins G l a S q1 hq1) v_X5_212 ⟨(Nat.le_of_ble_eq_true rfl), (Nat.le_of_ble_eq_true rfl)⟩ hx hb hml hown hts hE hA hs ⟨Nat.le_refl 0, Nat.le_refl 0⟩ 0 rfl rfl rfl rfl rfl hl.1 (Nat.le_of_ble_eq_true rfl) dX5_image_1 (pmW _) (ws' := WM G a q1) (pmW _) (fun H locs hs => ?_)
  refine lv_aload_n hx hb dX5_image_4 rfl (lv_at hl 0 rfl) ?_
  refine lv_aload_n hx hb dX5_image_5 rfl (lv_at hl 0 rfl) ?_
  refine fg_X5_225 hx hb hown hts hE hs 0 rfl (v := .int (m_told q1)) rfl dX5_image_6 ?_
  refine lv_if_eq (tgt := 22) hx hb dX5_image_9 (by decide) (fun hc => ?_) (fun hc => ?_)
  · have hF := (if_pos hc).symm.trans hF
    exact hJ22_n q1 x1 _ _ _ hF hs (lv_sub hl [0, 1] rfl)
  · have hF := (if_neg hc).symm.trans hF
    refine lv_iload_n hx hb dX5_image_12 rfl (lv_at hl 1 rfl) ?_
    refine lv_i2l hx hb dX5_image_13 rfl ?_
    refine lv_lconst (v := (0 : Int64)) hx hb dX5_image_14 (by decide) ?_
    refine lv_lconst (v := (1 : Int64)) hx hb dX5_image_15 (by decide) ?_
    obtain ⟨q10, hq10, hF⟩ := bd hF
    refine sx_S (As := [.long x1.toInt64, .long (0 : Int64), .long (1 : Int64)]) (rest := [.ref (a 0)]) (st1 := [.int q10, .ref (a 0)]) (c_X5_in G l  x1.toInt64 (0 : Int64) (1 : Int64) q10 hq10) v_X5_161 ⟨(Nat.le_of_ble_eq_true rfl), (Nat.le_of_ble_eq_true rfl)⟩ hx hb hml hown hts hE hA hs ⟨Nat.le_refl 0, Nat.le_refl 0⟩ rfl rfl rfl hl.1 (Nat.le_of_ble_eq_true rfl) dX5_image_16 (List.Perm.refl _) (ws' := WM G a q1) (List.Perm.refl _) (fun H locs hs => ?_)
    refine lv_if_ne (tgt := 26) hx hb dX5_image_19 (by decide) (fun hc => ?_) (fun hc => ?_)
    · have hF := (if_neg hc).symm.trans hF
      refine lv_iconst (v := (0 : Int32)) hx hb dX5_image_26 (by decide) ?_
      exact hJ27_n q1 x1 (0 : Int32) _ _ _ hF hs (lv_sub hl [0, 1] rfl)
    · have hF := (if_pos hc).symm.trans hF
      exact hJ22_n q1 x1 _ _ _ hF hs (lv_sub hl [0, 1] rfl)
set_option maxHeartbeats 4000000 in
set_option maxRecDepth 100000 in
theorem c_X5_again (G : GT) (l : Launch) (a : Nat → Nat) (S : MS) (x1 : Int32) (r : Int32 × MS) (hF : F_X5_again S x1 = some r) : MT G l yX5_again cX5_again 3 (some .boolean) 1 25 [.ref (a 0), .int x1] (WM G a S) (some (.int r.1)) (WM G a r.2) := by
  refine MT.of (by decide) (Nat.le_of_ble_eq_true rfl) ?_
  intro p e s m args below meth c A ls hx hb hr hml hown hts hlk hE hA hs hl Q hQ
  have hl : lv_has ls 3 [(0, .ref (a 0)), (1, .int x1)] := hl
  have hL47 : ∀ (x1 : Int32) (k : MS → Option (Int32 × MS)) (hk : ∀ (S : MS) (H : Heap) (locs : List Loc) (ls : Array Slot), k S = some r → SI G A s H locs (WM G a S) → lv_has ls 3 [(0, .ref (a 0))] → W p l e (RM 1 25) s m args below meth c H locs 0 0 Q (F0 m 76 ls [])) (fu : Nat) (S : MS) (x2 : Int32) (H : Heap) (locs : List Loc) (ls : Array Slot), lo2 (B_X5_again_47 x1 k) fu S x2 = some r → SI G A s H locs (WM G a S) → lv_has ls 3 [(0, .ref (a 0)), (1, .int x1), (2, .int x2)] → W p l e (RM 1 25) s m args below meth c H locs 0 0 Q (F0 m 47 ls []) := by
    intro x1 k hk fu
    induction fu with
    | zero =>
      intro S x2 H locs ls hF hs hl
      exact nomatch (show (none : Option (Int32 × MS)) = some r from hF)
    | succ fu hrec =>
      intro S x2 H locs ls hF hs hl
      have hF : (B_X5_again_47 x1 k) (lo2 (B_X5_again_47 x1 k) fu) S x2 = some r := hF
      unfold B_X5_again_47 at hF
      refine lv_iload_n hx hb dX5_again_47 rfl (lv_at hl 2 rfl) ?_
      refine lv_bipush (v := (82 : Int32)) hx hb dX5_again_48 (by decide) ?_
      refine lv_icmp_ge (tgt := 76) hx hb dX5_again_50 (by decide) (fun hc => ?_) (fun hc => ?_)
      · have hF := (if_pos hc).symm.trans hF
        exact hk S _ _ _ hF hs (lv_sub hl [0] rfl)
      · have hF := (if_neg hc).symm.trans hF
        refine lv_aload_n hx hb dX5_again_53 rfl (lv_at hl 0 rfl) ?_
        refine fg_X5_13 hx hb hown hts hE hs 0 rfl (v := .ref (a 1)) rfl dX5_again_54 ?_
        refine lv_iload_n hx hb dX5_again_57 rfl (lv_at hl 2 rfl) ?_
        refine lv_aload_n hx hb dX5_again_58 rfl (lv_at hl 0 rfl) ?_
        refine fg_X5_26 hx hb hown hts hE hs 0 rfl (v := .ref (a 5)) rfl dX5_again_59 ?_
        refine lv_bipush (v := (82 : Int32)) hx hb dX5_again_62 (by decide) ?_
        refine lv_iload_n hx hb dX5_again_64 rfl (lv_at hl 1 rfl) ?_
        refine lv_imul hx hb dX5_again_65 ?_
        refine lv_iload_n hx hb dX5_again_66 rfl (lv_at hl 2 rfl) ?_
        refine lv_iadd hx hb dX5_again_67 ?_
        obtain ⟨v3, hv3, hF⟩ := bd hF
        refine sx_iald hx hb hE hs 5 (f := m_kept S) rfl hv3 dX5_again_68 ?_
        obtain ⟨f4, hf4, hF⟩ := bd hF
        obtain ⟨S5, eS5, hF⟩ := nm_some hF
        refine sx_iast hx hb hE hs 1 (f := m_s S) rfl hf4 (ws' := WM G a S5) (by subst eS5; rfl) dX5_again_69 (fun H locs hs => ?_)
        obtain ⟨v6, ev6, hF⟩ := nm_some hF
        refine lv_iinc (v := v6) (lv' := [(2, .int v6), (0, .ref (a 0)), (1, .int x1)]) hx hb dX5_again_70 hl (k := 2) rfl (by rw [ev6]; rfl) (by decide) rfl (fun ls hl => ?_)
        refine lv_goto (tgt := 47) hx hb dX5_again_73 (by decide) ?_
        exact hrec S5 v6 _ _ _ hF hs (lv_sub hl [1, 2, 0] rfl)
  have hJ36_n : ∀ (S : MS) (x1 : Int32) (y0 : Int32) (H : Heap) (locs : List Loc) (ls : Array Slot), J_X5_again_36 S x1 y0 = some r → SI G A s H locs (WM G a S) → lv_has ls 3 [(0, .ref (a 0)), (1, .int x1)] → W p l e (RM 1 25) s m args below meth c H locs 0 0 Q (F0 m 36 ls [.int y0, .ref (a 0)]) := by
    intro S x1 y0 H locs ls hF hs hl
    unfold J_X5_again_36 at hF
    refine lv_iconst (v := (1 : Int32)) hx hb dX5_again_36 (by decide) ?_
    obtain ⟨q2, hq2, hF⟩ := bd hF
    refine sx_V (As := [.int y0, .int (1 : Int32)]) (rest := []) (st1 := [.int q2.1]) (c_X5_refuse G l a S y0 (1 : Int32) q2 hq2) v_X5_215 ⟨(Nat.le_of_ble_eq_true rfl), (Nat.le_of_ble_eq_true rfl)⟩ hx hb hml hown hts hE hA hs ⟨Nat.le_refl 0, Nat.le_refl 0⟩ 0 rfl rfl rfl rfl rfl hl.1 (Nat.le_of_ble_eq_true rfl) dX5_again_37 (pmW _) (ws' := WM G a q2.2) (pmW _) (fun H locs hs => ?_)
    refine lv_if_eq (tgt := 45) hx hb dX5_again_40 (by decide) (fun hc => ?_) (fun hc => ?_)
    · have hF := (if_pos hc).symm.trans hF
      refine lv_iconst (v := (0 : Int32)) hx hb dX5_again_45 (by decide) ?_
      refine lv_istore_n (lv' := [(2, .int (0 : Int32)), (0, .ref (a 0)), (1, .int x1)]) hx hb dX5_again_46 rfl hl (by decide) rfl (fun ls hl => ?_)
      refine hL47 x1 _ (fun S7 H locs ls hF hs hl => ?_) FU q2.2 (0 : Int32) _ _ _ hF hs (lv_sub hl [1, 2, 0] rfl)
      refine lv_aload_n hx hb dX5_again_76 rfl (lv_at hl 0 rfl) ?_
      refine lv_iconst (v := (0 : Int32)) hx hb dX5_again_77 (by decide) ?_
      obtain ⟨S8, eS8, hF⟩ := nm_some hF
      refine fp_X5_229 hx hb hown hts hE hs 0 rfl (ws' := WM G a S8) (Nat.le_of_ble_eq_true rfl) (by subst eS8; rfl) dX5_again_78 (fun H locs hs => ?_)
      refine lv_iconst (v := (1 : Int32)) hx hb dX5_again_81 (by decide) ?_
      exact sx_zret hx hb hr hlk hQ (Or.inr rfl) (congrArg Prod.fst (Option.some.inj hF)) (congrArg (fun z => WM G a z) (congrArg Prod.snd (Option.some.inj hF))) hs dX5_again_82
    · have hF := (if_neg hc).symm.trans hF
      refine lv_iconst (v := (0 : Int32)) hx hb dX5_again_43 (by decide) ?_
      exact sx_zret hx hb hr hlk hQ (Or.inl rfl) (congrArg Prod.fst (Option.some.inj hF)) (congrArg (fun z => WM G a z) (congrArg Prod.snd (Option.some.inj hF))) hs dX5_again_44
  have hJ31_n : ∀ (S : MS) (x1 : Int32) (H : Heap) (locs : List Loc) (ls : Array Slot), J_X5_again_31 S x1 = some r → SI G A s H locs (WM G a S) → lv_has ls 3 [(0, .ref (a 0)), (1, .int x1)] → W p l e (RM 1 25) s m args below meth c H locs 0 0 Q (F0 m 31 ls [.ref (a 0)]) := by
    intro S x1 H locs ls hF hs hl
    unfold J_X5_again_31 at hF
    refine lv_iconst (v := (1 : Int32)) hx hb dX5_again_31 (by decide) ?_
    refine lv_goto (tgt := 36) hx hb dX5_again_32 (by decide) ?_
    exact hJ36_n S x1 (1 : Int32) _ _ _ hF hs (lv_sub hl [0, 1] rfl)
  unfold F_X5_again at hF
  refine lv_aload_n hx hb dX5_again_0 rfl (lv_at hl 0 rfl) ?_
  obtain ⟨q1, hq1, hF⟩ := bd hF
  refine sx_V (As := []) (rest := []) (st1 := []) (c_X5_begins G l a S q1 hq1) v_X5_212 ⟨(Nat.le_of_ble_eq_true rfl), (Nat.le_of_ble_eq_true rfl)⟩ hx hb hml hown hts hE hA hs ⟨Nat.le_refl 0, Nat.le_refl 0⟩ 0 rfl rfl rfl rfl rfl hl.1 (Nat.le_of_ble_eq_true rfl) dX5_again_1 (pmW _) (ws' := WM G a q1) (pmW _) (fun H locs hs => ?_)
  refine lv_aload_n hx hb dX5_again_4 rfl (lv_at hl 0 rfl) ?_
  refine lv_aload_n hx hb dX5_again_5 rfl (lv_at hl 0 rfl) ?_
  refine fg_X5_225 hx hb hown hts hE hs 0 rfl (v := .int (m_told q1)) rfl dX5_again_6 ?_
  refine lv_if_eq (tgt := 31) hx hb dX5_again_9 (by decide) (fun hc => ?_) (fun hc => ?_)
  · have hF := (if_pos hc).symm.trans hF
    exact hJ31_n q1 x1 _ _ _ hF hs (lv_sub hl [0, 1] rfl)
  · have hF := (if_neg hc).symm.trans hF
    refine lv_iload_n hx hb dX5_again_12 rfl (lv_at hl 1 rfl) ?_
    refine lv_i2l hx hb dX5_again_13 rfl ?_
    refine lv_lconst (v := (0 : Int64)) hx hb dX5_again_14 (by decide) ?_
    refine lv_lconst (v := (1 : Int64)) hx hb dX5_again_15 (by decide) ?_
    obtain ⟨q9, hq9, hF⟩ := bd hF
    refine sx_S (As := [.long x1.toInt64, .long (0 : Int64), .long (1 : Int64)]) (rest := [.ref (a 0)]) (st1 := [.int q9, .ref (a 0)]) (c_X5_in G l  x1.toInt64 (0 : Int64) (1 : Int64) q9 hq9) v_X5_161 ⟨(Nat.le_of_ble_eq_true rfl), (Nat.le_of_ble_eq_true rfl)⟩ hx hb hml hown hts hE hA hs ⟨Nat.le_refl 0, Nat.le_refl 0⟩ rfl rfl rfl hl.1 (Nat.le_of_ble_eq_true rfl) dX5_again_16 (List.Perm.refl _) (ws' := WM G a q1) (List.Perm.refl _) (fun H locs hs => ?_)
    refine lv_if_eq (tgt := 31) hx hb dX5_again_19 (by decide) (fun hc => ?_) (fun hc => ?_)
    · have hF := (if_pos hc).symm.trans hF
      exact hJ31_n q1 x1 _ _ _ hF hs (lv_sub hl [0, 1] rfl)
    · have hF := (if_neg hc).symm.trans hF
      refine lv_aload_n hx hb dX5_again_22 rfl (lv_at hl 0 rfl) ?_
      refine fg_X5_29 hx hb hown hts hE hs 0 rfl (v := .ref (a 6)) rfl dX5_again_23 ?_
      refine lv_iload_n hx hb dX5_again_26 rfl (lv_at hl 1 rfl) ?_
      obtain ⟨v10, hv10, hF⟩ := bd hF
      refine sx_zald hx hb hE hs 6 (f := m_isKept q1) rfl hv10 dX5_again_27 ?_
      refine lv_if_ne (tgt := 35) hx hb dX5_again_28 (by decide) (fun hc => ?_) (fun hc => ?_)
      · have hF := (if_neg hc).symm.trans hF
        refine lv_iconst (v := (0 : Int32)) hx hb dX5_again_35 (by decide) ?_
        exact hJ36_n q1 x1 (0 : Int32) _ _ _ hF hs (lv_sub hl [0, 1] rfl)
      · have hF := (if_pos hc).symm.trans hF
        exact hJ31_n q1 x1 _ _ _ hF hs (lv_sub hl [0, 1] rfl)
