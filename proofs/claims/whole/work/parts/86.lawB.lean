/-! ===== 86.lawB: the law's cases ===== -/
set_option maxHeartbeats 4000000 in
set_option maxRecDepth 100000 in
theorem k_19 {p : Program} {l : Launch} {e : Env} {s : State} {m : MethodId} {below : List Frame} {meth : Method} {c : Code} {G : GT} {A : Nat → Prop} {b L i : Nat} {xs : Nat → Int32} {a a2 : Nat → Nat} {o : Nat} {S : XS} {M : MS} {f : Fin 1 → Int64} {H : Heap} {locs : List Loc} {cells slots : Nat} {Q : State → Prop} {ls : Array Slot} (K : LAWK p l s m c b L xs G A) (hi : i + 6 ≤ L) (hL : L ≤ 3072) (hr : Rel S M) (hs : SI G A s H locs (WW G a a2 o S M f)) (hl : lv_has ls 7 (LVs b a a2 o i)) (hc : cells + 1 ≤ 601024) (hsl : slots + 6 ≤ 7293034)
    (hk : ∀ (S' : XS) (M' : MS) (f' : Fin 1 → Int64) (H : Heap) (locs : List Loc) (ls : Array Slot), Rel S' M' → SI G A s H locs (WW G a a2 o S' M' f') → lv_has ls 7 (LVs b a a2 o i) → W p l e room_1 s m #[Value.ref b] below meth c H locs (cells + 1) (slots + 6) Q (F0 m 1513 ls [])) : W p l e room_1 s m #[Value.ref b] below meth c H locs cells slots Q (F0 m 858 ls []) := by
  obtain ⟨hx, hb, hml, hown, hts, hE, hZ, hA, hX, hbl, hbA, hfl⟩ := K
  have hs := sx_perm hs (pw _ _ _)
  refine lv_aload_n hx hb dL_law_858 rfl (lv_at hl 1 rfl) ?_
  refine lv_aload_n hx hb dL_law_859 rfl (lv_at hl 0 rfl) ?_
  refine lv_iload hx hb dL_law_860 (lv_at hl 4 rfl) ?_
  refine lv_iconst (v := (1 : Int32)) hx hb dL_law_862 (by decide) ?_
  refine lv_iadd hx hb dL_law_863 ?_
  refine va_sld hx hb hX hbl hbA hs.2.2 (inK (k := 1) hi (by decide) hL) dL_law_864 ?_
  refine lv_aload_n hx hb dL_law_865 rfl (lv_at hl 0 rfl) ?_
  refine lv_iload hx hb dL_law_866 (lv_at hl 4 rfl) ?_
  refine lv_iconst (v := (2 : Int32)) hx hb dL_law_868 (by decide) ?_
  refine lv_iadd hx hb dL_law_869 ?_
  refine va_sld hx hb hX hbl hbA hs.2.2 (inK (k := 2) hi (by decide) hL) dL_law_870 ?_
  obtain ⟨r, S2, M2, e1, e2, hr2⟩ := (A_netBy hr.core (xs (nI i + (1 : Int32)).toNatClampNeg) (xs (nI i + (2 : Int32)).toNatClampNeg)).step hr
  refine sx_V (As := [.int (xs (nI i + (1 : Int32)).toNatClampNeg), .int (xs (nI i + (2 : Int32)).toNatClampNeg)]) (rest := []) (st1 := [.long r]) (c_X4_netBy G l a S (xs (nI i + (1 : Int32)).toNatClampNeg) (xs (nI i + (2 : Int32)).toNatClampNeg) (r, S2) e1) vl_101 ⟨(Nat.le_of_ble_eq_true rfl), (Nat.le_of_ble_eq_true rfl)⟩ hx hb hml hown hts hE hA hs ⟨Nat.le_of_succ_le hc, Nat.le_trans (Nat.le_add_right _ 6) hsl⟩ 0 rfl rfl rfl rfl rfl hl.1 (Nat.le_of_ble_eq_true rfl) dL_law_871 (List.Perm.refl _) (ws' := WW G a a2 o S2 M f) (pw _ _ _) (fun H locs hs => ?_)
  refine lv_aload_n hx hb dL_law_874 rfl (lv_at hl 2 rfl) ?_
  refine lv_aload_n hx hb dL_law_875 rfl (lv_at hl 0 rfl) ?_
  refine lv_iload hx hb dL_law_876 (lv_at hl 4 rfl) ?_
  refine lv_iconst (v := (1 : Int32)) hx hb dL_law_878 (by decide) ?_
  refine lv_iadd hx hb dL_law_879 ?_
  refine va_sld hx hb hX hbl hbA hs.2.2 (inK (k := 1) hi (by decide) hL) dL_law_880 ?_
  refine lv_aload_n hx hb dL_law_881 rfl (lv_at hl 0 rfl) ?_
  refine lv_iload hx hb dL_law_882 (lv_at hl 4 rfl) ?_
  refine lv_iconst (v := (2 : Int32)) hx hb dL_law_884 (by decide) ?_
  refine lv_iadd hx hb dL_law_885 ?_
  refine va_sld hx hb hX hbl hbA hs.2.2 (inK (k := 2) hi (by decide) hL) dL_law_886 ?_
  refine sx_V (As := [.int (xs (nI i + (1 : Int32)).toNatClampNeg), .int (xs (nI i + (2 : Int32)).toNatClampNeg)]) (rest := [.long r]) (st1 := [.long r, .long r]) (c_X5_netBy G l a2 M (xs (nI i + (1 : Int32)).toNatClampNeg) (xs (nI i + (2 : Int32)).toNatClampNeg) (r, M2) e2) vl_104 ⟨(Nat.le_of_ble_eq_true rfl), (Nat.le_of_ble_eq_true rfl)⟩ hx hb hml hown hts hE hA hs ⟨Nat.le_of_succ_le hc, Nat.le_trans (Nat.le_add_right _ 6) hsl⟩ 0 rfl rfl rfl rfl rfl hl.1 (Nat.le_of_ble_eq_true rfl) dL_law_887 (List.Perm.refl _) (ws' := WW G a a2 o S2 M2 f) (List.Perm.refl _) (fun H locs hs => ?_)
  refine W.lcmp hx hb dL_law_890 ?_
  refine lv_if_eq (tgt := 1513) hx hb dL_law_891 (by decide) (fun hc9 => ?_) (fun hc9 => ?_)
  · exact W.widen (Nat.le_add_right _ 1) (Nat.le_add_right _ 6) (hk S2 M2 f H locs ls hr2 hs hl)
  · exact absurd (lgc r) hc9
set_option maxHeartbeats 4000000 in
set_option maxRecDepth 100000 in
theorem k_20 {p : Program} {l : Launch} {e : Env} {s : State} {m : MethodId} {below : List Frame} {meth : Method} {c : Code} {G : GT} {A : Nat → Prop} {b L i : Nat} {xs : Nat → Int32} {a a2 : Nat → Nat} {o : Nat} {S : XS} {M : MS} {f : Fin 1 → Int64} {H : Heap} {locs : List Loc} {cells slots : Nat} {Q : State → Prop} {ls : Array Slot} (K : LAWK p l s m c b L xs G A) (hi : i + 6 ≤ L) (hL : L ≤ 3072) (hr : Rel S M) (hs : SI G A s H locs (WW G a a2 o S M f)) (hl : lv_has ls 7 (LVs b a a2 o i)) (hc : cells + 1 ≤ 601024) (hsl : slots + 6 ≤ 7293034)
    (hk : ∀ (S' : XS) (M' : MS) (f' : Fin 1 → Int64) (H : Heap) (locs : List Loc) (ls : Array Slot), Rel S' M' → SI G A s H locs (WW G a a2 o S' M' f') → lv_has ls 7 (LVs b a a2 o i) → W p l e room_1 s m #[Value.ref b] below meth c H locs (cells + 1) (slots + 6) Q (F0 m 1513 ls [])) : W p l e room_1 s m #[Value.ref b] below meth c H locs cells slots Q (F0 m 896 ls []) := by
  obtain ⟨hx, hb, hml, hown, hts, hE, hZ, hA, hX, hbl, hbA, hfl⟩ := K
  have hs := sx_perm hs (pw _ _ _)
  refine lv_aload_n hx hb dL_law_896 rfl (lv_at hl 1 rfl) ?_
  refine lv_aload_n hx hb dL_law_897 rfl (lv_at hl 0 rfl) ?_
  refine lv_iload hx hb dL_law_898 (lv_at hl 4 rfl) ?_
  refine lv_iconst (v := (1 : Int32)) hx hb dL_law_900 (by decide) ?_
  refine lv_iadd hx hb dL_law_901 ?_
  refine va_sld hx hb hX hbl hbA hs.2.2 (inK (k := 1) hi (by decide) hL) dL_law_902 ?_
  obtain ⟨r, S2, M2, e1, e2, hr2⟩ := (A_wished hr.core (xs (nI i + (1 : Int32)).toNatClampNeg)).step hr
  refine sx_V (As := [.int (xs (nI i + (1 : Int32)).toNatClampNeg)]) (rest := []) (st1 := [.int r]) (c_X4_wished G l a S (xs (nI i + (1 : Int32)).toNatClampNeg) (r, S2) e1) vl_105 ⟨(Nat.le_of_ble_eq_true rfl), (Nat.le_of_ble_eq_true rfl)⟩ hx hb hml hown hts hE hA hs ⟨Nat.le_of_succ_le hc, Nat.le_trans (Nat.le_add_right _ 6) hsl⟩ 0 rfl rfl rfl rfl rfl hl.1 (Nat.le_of_ble_eq_true rfl) dL_law_903 (List.Perm.refl _) (ws' := WW G a a2 o S2 M f) (pw _ _ _) (fun H locs hs => ?_)
  refine lv_aload_n hx hb dL_law_906 rfl (lv_at hl 2 rfl) ?_
  refine lv_aload_n hx hb dL_law_907 rfl (lv_at hl 0 rfl) ?_
  refine lv_iload hx hb dL_law_908 (lv_at hl 4 rfl) ?_
  refine lv_iconst (v := (1 : Int32)) hx hb dL_law_910 (by decide) ?_
  refine lv_iadd hx hb dL_law_911 ?_
  refine va_sld hx hb hX hbl hbA hs.2.2 (inK (k := 1) hi (by decide) hL) dL_law_912 ?_
  refine sx_V (As := [.int (xs (nI i + (1 : Int32)).toNatClampNeg)]) (rest := [.int r]) (st1 := [.int r, .int r]) (c_X5_wished G l a2 M (xs (nI i + (1 : Int32)).toNatClampNeg) (r, M2) e2) vl_108 ⟨(Nat.le_of_ble_eq_true rfl), (Nat.le_of_ble_eq_true rfl)⟩ hx hb hml hown hts hE hA hs ⟨Nat.le_of_succ_le hc, Nat.le_trans (Nat.le_add_right _ 6) hsl⟩ 0 rfl rfl rfl rfl rfl hl.1 (Nat.le_of_ble_eq_true rfl) dL_law_913 (List.Perm.refl _) (ws' := WW G a a2 o S2 M2 f) (List.Perm.refl _) (fun H locs hs => ?_)
  refine lv_icmp_eq (tgt := 1513) hx hb dL_law_916 (by decide) (fun hc9 => ?_) (fun hc9 => ?_)
  · exact W.widen (Nat.le_add_right _ 1) (Nat.le_add_right _ 6) (hk S2 M2 f H locs ls hr2 hs hl)
  · exact absurd rfl hc9
set_option maxHeartbeats 4000000 in
set_option maxRecDepth 100000 in
theorem k_21 {p : Program} {l : Launch} {e : Env} {s : State} {m : MethodId} {below : List Frame} {meth : Method} {c : Code} {G : GT} {A : Nat → Prop} {b L i : Nat} {xs : Nat → Int32} {a a2 : Nat → Nat} {o : Nat} {S : XS} {M : MS} {f : Fin 1 → Int64} {H : Heap} {locs : List Loc} {cells slots : Nat} {Q : State → Prop} {ls : Array Slot} (K : LAWK p l s m c b L xs G A) (hi : i + 6 ≤ L) (hL : L ≤ 3072) (hr : Rel S M) (hs : SI G A s H locs (WW G a a2 o S M f)) (hl : lv_has ls 7 (LVs b a a2 o i)) (hc : cells + 1 ≤ 601024) (hsl : slots + 6 ≤ 7293034)
    (hk : ∀ (S' : XS) (M' : MS) (f' : Fin 1 → Int64) (H : Heap) (locs : List Loc) (ls : Array Slot), Rel S' M' → SI G A s H locs (WW G a a2 o S' M' f') → lv_has ls 7 (LVs b a a2 o i) → W p l e room_1 s m #[Value.ref b] below meth c H locs (cells + 1) (slots + 6) Q (F0 m 1513 ls [])) : W p l e room_1 s m #[Value.ref b] below meth c H locs cells slots Q (F0 m 921 ls []) := by
  obtain ⟨hx, hb, hml, hown, hts, hE, hZ, hA, hX, hbl, hbA, hfl⟩ := K
  have hs := sx_perm hs (pw _ _ _)
  refine lv_aload_n hx hb dL_law_921 rfl (lv_at hl 1 rfl) ?_
  refine lv_aload_n hx hb dL_law_922 rfl (lv_at hl 0 rfl) ?_
  refine lv_iload hx hb dL_law_923 (lv_at hl 4 rfl) ?_
  refine lv_iconst (v := (1 : Int32)) hx hb dL_law_925 (by decide) ?_
  refine lv_iadd hx hb dL_law_926 ?_
  refine va_sld hx hb hX hbl hbA hs.2.2 (inK (k := 1) hi (by decide) hL) dL_law_927 ?_
  obtain ⟨r, S2, M2, e1, e2, hr2⟩ := (A_gap hr.core (xs (nI i + (1 : Int32)).toNatClampNeg)).step hr
  refine sx_V (As := [.int (xs (nI i + (1 : Int32)).toNatClampNeg)]) (rest := []) (st1 := [.long r]) (c_X4_gap G l a S (xs (nI i + (1 : Int32)).toNatClampNeg) (r, S2) e1) vl_109 ⟨(Nat.le_of_ble_eq_true rfl), (Nat.le_of_ble_eq_true rfl)⟩ hx hb hml hown hts hE hA hs ⟨Nat.le_of_succ_le hc, Nat.le_trans (Nat.le_add_right _ 6) hsl⟩ 0 rfl rfl rfl rfl rfl hl.1 (Nat.le_of_ble_eq_true rfl) dL_law_928 (List.Perm.refl _) (ws' := WW G a a2 o S2 M f) (pw _ _ _) (fun H locs hs => ?_)
  refine lv_aload_n hx hb dL_law_931 rfl (lv_at hl 2 rfl) ?_
  refine lv_aload_n hx hb dL_law_932 rfl (lv_at hl 0 rfl) ?_
  refine lv_iload hx hb dL_law_933 (lv_at hl 4 rfl) ?_
  refine lv_iconst (v := (1 : Int32)) hx hb dL_law_935 (by decide) ?_
  refine lv_iadd hx hb dL_law_936 ?_
  refine va_sld hx hb hX hbl hbA hs.2.2 (inK (k := 1) hi (by decide) hL) dL_law_937 ?_
  refine sx_V (As := [.int (xs (nI i + (1 : Int32)).toNatClampNeg)]) (rest := [.long r]) (st1 := [.long r, .long r]) (c_X5_gap G l a2 M (xs (nI i + (1 : Int32)).toNatClampNeg) (r, M2) e2) vl_112 ⟨(Nat.le_of_ble_eq_true rfl), (Nat.le_of_ble_eq_true rfl)⟩ hx hb hml hown hts hE hA hs ⟨Nat.le_of_succ_le hc, Nat.le_trans (Nat.le_add_right _ 6) hsl⟩ 0 rfl rfl rfl rfl rfl hl.1 (Nat.le_of_ble_eq_true rfl) dL_law_938 (List.Perm.refl _) (ws' := WW G a a2 o S2 M2 f) (List.Perm.refl _) (fun H locs hs => ?_)
  refine W.lcmp hx hb dL_law_941 ?_
  refine lv_if_eq (tgt := 1513) hx hb dL_law_942 (by decide) (fun hc9 => ?_) (fun hc9 => ?_)
  · exact W.widen (Nat.le_add_right _ 1) (Nat.le_add_right _ 6) (hk S2 M2 f H locs ls hr2 hs hl)
  · exact absurd (lgc r) hc9
set_option maxHeartbeats 4000000 in
set_option maxRecDepth 100000 in
theorem k_22 {p : Program} {l : Launch} {e : Env} {s : State} {m : MethodId} {below : List Frame} {meth : Method} {c : Code} {G : GT} {A : Nat → Prop} {b L i : Nat} {xs : Nat → Int32} {a a2 : Nat → Nat} {o : Nat} {S : XS} {M : MS} {f : Fin 1 → Int64} {H : Heap} {locs : List Loc} {cells slots : Nat} {Q : State → Prop} {ls : Array Slot} (K : LAWK p l s m c b L xs G A) (hi : i + 6 ≤ L) (hL : L ≤ 3072) (hr : Rel S M) (hs : SI G A s H locs (WW G a a2 o S M f)) (hl : lv_has ls 7 (LVs b a a2 o i)) (hc : cells + 1 ≤ 601024) (hsl : slots + 6 ≤ 7293034)
    (hk : ∀ (S' : XS) (M' : MS) (f' : Fin 1 → Int64) (H : Heap) (locs : List Loc) (ls : Array Slot), Rel S' M' → SI G A s H locs (WW G a a2 o S' M' f') → lv_has ls 7 (LVs b a a2 o i) → W p l e room_1 s m #[Value.ref b] below meth c H locs (cells + 1) (slots + 6) Q (F0 m 1513 ls [])) : W p l e room_1 s m #[Value.ref b] below meth c H locs cells slots Q (F0 m 947 ls []) := by
  obtain ⟨hx, hb, hml, hown, hts, hE, hZ, hA, hX, hbl, hbA, hfl⟩ := K
  have hs := sx_perm hs (pw _ _ _)
  refine lv_aload_n hx hb dL_law_947 rfl (lv_at hl 1 rfl) ?_
  obtain ⟨r, S2, M2, e1, e2, hr2⟩ := (A_enough hr.core ).step hr
  refine sx_V (As := []) (rest := []) (st1 := [.int r]) (c_X4_enough G l a S  (r, S2) e1) vl_113 ⟨(Nat.le_of_ble_eq_true rfl), (Nat.le_of_ble_eq_true rfl)⟩ hx hb hml hown hts hE hA hs ⟨Nat.le_of_succ_le hc, Nat.le_trans (Nat.le_add_right _ 6) hsl⟩ 0 rfl rfl rfl rfl rfl hl.1 (Nat.le_of_ble_eq_true rfl) dL_law_948 (List.Perm.refl _) (ws' := WW G a a2 o S2 M f) (pw _ _ _) (fun H locs hs => ?_)
  refine lv_aload_n hx hb dL_law_951 rfl (lv_at hl 2 rfl) ?_
  refine sx_V (As := []) (rest := [.int r]) (st1 := [.int r, .int r]) (c_X5_enough G l a2 M  (r, M2) e2) vl_116 ⟨(Nat.le_of_ble_eq_true rfl), (Nat.le_of_ble_eq_true rfl)⟩ hx hb hml hown hts hE hA hs ⟨Nat.le_of_succ_le hc, Nat.le_trans (Nat.le_add_right _ 6) hsl⟩ 0 rfl rfl rfl rfl rfl hl.1 (Nat.le_of_ble_eq_true rfl) dL_law_952 (List.Perm.refl _) (ws' := WW G a a2 o S2 M2 f) (List.Perm.refl _) (fun H locs hs => ?_)
  refine lv_icmp_eq (tgt := 1513) hx hb dL_law_955 (by decide) (fun hc9 => ?_) (fun hc9 => ?_)
  · exact W.widen (Nat.le_add_right _ 1) (Nat.le_add_right _ 6) (hk S2 M2 f H locs ls hr2 hs hl)
  · exact absurd rfl hc9
set_option maxHeartbeats 4000000 in
set_option maxRecDepth 100000 in
theorem k_23 {p : Program} {l : Launch} {e : Env} {s : State} {m : MethodId} {below : List Frame} {meth : Method} {c : Code} {G : GT} {A : Nat → Prop} {b L i : Nat} {xs : Nat → Int32} {a a2 : Nat → Nat} {o : Nat} {S : XS} {M : MS} {f : Fin 1 → Int64} {H : Heap} {locs : List Loc} {cells slots : Nat} {Q : State → Prop} {ls : Array Slot} (K : LAWK p l s m c b L xs G A) (hi : i + 6 ≤ L) (hL : L ≤ 3072) (hr : Rel S M) (hs : SI G A s H locs (WW G a a2 o S M f)) (hl : lv_has ls 7 (LVs b a a2 o i)) (hc : cells + 1 ≤ 601024) (hsl : slots + 6 ≤ 7293034)
    (hk : ∀ (S' : XS) (M' : MS) (f' : Fin 1 → Int64) (H : Heap) (locs : List Loc) (ls : Array Slot), Rel S' M' → SI G A s H locs (WW G a a2 o S' M' f') → lv_has ls 7 (LVs b a a2 o i) → W p l e room_1 s m #[Value.ref b] below meth c H locs (cells + 1) (slots + 6) Q (F0 m 1513 ls [])) : W p l e room_1 s m #[Value.ref b] below meth c H locs cells slots Q (F0 m 960 ls []) := by
  obtain ⟨hx, hb, hml, hown, hts, hE, hZ, hA, hX, hbl, hbA, hfl⟩ := K
  have hs := sx_perm hs (pw _ _ _)
  refine lv_aload_n hx hb dL_law_960 rfl (lv_at hl 1 rfl) ?_
  refine lv_aload_n hx hb dL_law_961 rfl (lv_at hl 0 rfl) ?_
  refine lv_iload hx hb dL_law_962 (lv_at hl 4 rfl) ?_
  refine lv_iconst (v := (1 : Int32)) hx hb dL_law_964 (by decide) ?_
  refine lv_iadd hx hb dL_law_965 ?_
  refine va_sld hx hb hX hbl hbA hs.2.2 (inK (k := 1) hi (by decide) hL) dL_law_966 ?_
  refine lv_aload_n hx hb dL_law_967 rfl (lv_at hl 0 rfl) ?_
  refine lv_iload hx hb dL_law_968 (lv_at hl 4 rfl) ?_
  refine lv_iconst (v := (2 : Int32)) hx hb dL_law_970 (by decide) ?_
  refine lv_iadd hx hb dL_law_971 ?_
  refine va_sld hx hb hX hbl hbA hs.2.2 (inK (k := 2) hi (by decide) hL) dL_law_972 ?_
  refine lv_aload_n hx hb dL_law_973 rfl (lv_at hl 0 rfl) ?_
  refine lv_iload hx hb dL_law_974 (lv_at hl 4 rfl) ?_
  refine lv_iconst (v := (3 : Int32)) hx hb dL_law_976 (by decide) ?_
  refine lv_iadd hx hb dL_law_977 ?_
  refine va_sld hx hb hX hbl hbA hs.2.2 (inK (k := 3) hi (by decide) hL) dL_law_978 ?_
  obtain ⟨r, S2, M2, e1, e2, hr2⟩ := (A_would hr.core (xs (nI i + (1 : Int32)).toNatClampNeg) (xs (nI i + (2 : Int32)).toNatClampNeg) (xs (nI i + (3 : Int32)).toNatClampNeg)).step hr
  refine sx_V (As := [.int (xs (nI i + (1 : Int32)).toNatClampNeg), .int (xs (nI i + (2 : Int32)).toNatClampNeg), .int (xs (nI i + (3 : Int32)).toNatClampNeg)]) (rest := []) (st1 := [.long r]) (c_X4_would G l a S (xs (nI i + (1 : Int32)).toNatClampNeg) (xs (nI i + (2 : Int32)).toNatClampNeg) (xs (nI i + (3 : Int32)).toNatClampNeg) (r, S2) e1) vl_117 ⟨(Nat.le_of_ble_eq_true rfl), (Nat.le_of_ble_eq_true rfl)⟩ hx hb hml hown hts hE hA hs ⟨Nat.le_of_succ_le hc, Nat.le_trans (Nat.le_add_right _ 6) hsl⟩ 0 rfl rfl rfl rfl rfl hl.1 (Nat.le_of_ble_eq_true rfl) dL_law_979 (List.Perm.refl _) (ws' := WW G a a2 o S2 M f) (pw _ _ _) (fun H locs hs => ?_)
  refine lv_aload_n hx hb dL_law_982 rfl (lv_at hl 2 rfl) ?_
  refine lv_aload_n hx hb dL_law_983 rfl (lv_at hl 0 rfl) ?_
  refine lv_iload hx hb dL_law_984 (lv_at hl 4 rfl) ?_
  refine lv_iconst (v := (1 : Int32)) hx hb dL_law_986 (by decide) ?_
  refine lv_iadd hx hb dL_law_987 ?_
  refine va_sld hx hb hX hbl hbA hs.2.2 (inK (k := 1) hi (by decide) hL) dL_law_988 ?_
  refine lv_aload_n hx hb dL_law_989 rfl (lv_at hl 0 rfl) ?_
  refine lv_iload hx hb dL_law_990 (lv_at hl 4 rfl) ?_
  refine lv_iconst (v := (2 : Int32)) hx hb dL_law_992 (by decide) ?_
  refine lv_iadd hx hb dL_law_993 ?_
  refine va_sld hx hb hX hbl hbA hs.2.2 (inK (k := 2) hi (by decide) hL) dL_law_994 ?_
  refine lv_aload_n hx hb dL_law_995 rfl (lv_at hl 0 rfl) ?_
  refine lv_iload hx hb dL_law_996 (lv_at hl 4 rfl) ?_
  refine lv_iconst (v := (3 : Int32)) hx hb dL_law_998 (by decide) ?_
  refine lv_iadd hx hb dL_law_999 ?_
  refine va_sld hx hb hX hbl hbA hs.2.2 (inK (k := 3) hi (by decide) hL) dL_law_1000 ?_
  refine sx_V (As := [.int (xs (nI i + (1 : Int32)).toNatClampNeg), .int (xs (nI i + (2 : Int32)).toNatClampNeg), .int (xs (nI i + (3 : Int32)).toNatClampNeg)]) (rest := [.long r]) (st1 := [.long r, .long r]) (c_X5_would G l a2 M (xs (nI i + (1 : Int32)).toNatClampNeg) (xs (nI i + (2 : Int32)).toNatClampNeg) (xs (nI i + (3 : Int32)).toNatClampNeg) (r, M2) e2) vl_120 ⟨(Nat.le_of_ble_eq_true rfl), (Nat.le_of_ble_eq_true rfl)⟩ hx hb hml hown hts hE hA hs ⟨Nat.le_of_succ_le hc, Nat.le_trans (Nat.le_add_right _ 6) hsl⟩ 0 rfl rfl rfl rfl rfl hl.1 (Nat.le_of_ble_eq_true rfl) dL_law_1001 (List.Perm.refl _) (ws' := WW G a a2 o S2 M2 f) (List.Perm.refl _) (fun H locs hs => ?_)
  refine W.lcmp hx hb dL_law_1004 ?_
  refine lv_if_eq (tgt := 1513) hx hb dL_law_1005 (by decide) (fun hc9 => ?_) (fun hc9 => ?_)
  · exact W.widen (Nat.le_add_right _ 1) (Nat.le_add_right _ 6) (hk S2 M2 f H locs ls hr2 hs hl)
  · exact absurd (lgc r) hc9
set_option maxHeartbeats 4000000 in
set_option maxRecDepth 100000 in
theorem k_24 {p : Program} {l : Launch} {e : Env} {s : State} {m : MethodId} {below : List Frame} {meth : Method} {c : Code} {G : GT} {A : Nat → Prop} {b L i : Nat} {xs : Nat → Int32} {a a2 : Nat → Nat} {o : Nat} {S : XS} {M : MS} {f : Fin 1 → Int64} {H : Heap} {locs : List Loc} {cells slots : Nat} {Q : State → Prop} {ls : Array Slot} (K : LAWK p l s m c b L xs G A) (hi : i + 6 ≤ L) (hL : L ≤ 3072) (hr : Rel S M) (hs : SI G A s H locs (WW G a a2 o S M f)) (hl : lv_has ls 7 (LVs b a a2 o i)) (hc : cells + 1 ≤ 601024) (hsl : slots + 6 ≤ 7293034)
    (hk : ∀ (S' : XS) (M' : MS) (f' : Fin 1 → Int64) (H : Heap) (locs : List Loc) (ls : Array Slot), Rel S' M' → SI G A s H locs (WW G a a2 o S' M' f') → lv_has ls 7 (LVs b a a2 o i) → W p l e room_1 s m #[Value.ref b] below meth c H locs (cells + 1) (slots + 6) Q (F0 m 1513 ls [])) : W p l e room_1 s m #[Value.ref b] below meth c H locs cells slots Q (F0 m 1010 ls []) := by
  obtain ⟨hx, hb, hml, hown, hts, hE, hZ, hA, hX, hbl, hbA, hfl⟩ := K
  have hs := sx_perm hs (pw _ _ _)
  refine lv_aload_n hx hb dL_law_1010 rfl (lv_at hl 1 rfl) ?_
  refine lv_aload_n hx hb dL_law_1011 rfl (lv_at hl 0 rfl) ?_
  refine lv_iload hx hb dL_law_1012 (lv_at hl 4 rfl) ?_
  refine lv_iconst (v := (1 : Int32)) hx hb dL_law_1014 (by decide) ?_
  refine lv_iadd hx hb dL_law_1015 ?_
  refine va_sld hx hb hX hbl hbA hs.2.2 (inK (k := 1) hi (by decide) hL) dL_law_1016 ?_
  refine lv_aload_n hx hb dL_law_1017 rfl (lv_at hl 0 rfl) ?_
  refine lv_iload hx hb dL_law_1018 (lv_at hl 4 rfl) ?_
  refine lv_iconst (v := (2 : Int32)) hx hb dL_law_1020 (by decide) ?_
  refine lv_iadd hx hb dL_law_1021 ?_
  refine va_sld hx hb hX hbl hbA hs.2.2 (inK (k := 2) hi (by decide) hL) dL_law_1022 ?_
  refine lv_aload_n hx hb dL_law_1023 rfl (lv_at hl 0 rfl) ?_
  refine lv_iload hx hb dL_law_1024 (lv_at hl 4 rfl) ?_
  refine lv_iconst (v := (3 : Int32)) hx hb dL_law_1026 (by decide) ?_
  refine lv_iadd hx hb dL_law_1027 ?_
  refine va_sld hx hb hX hbl hbA hs.2.2 (inK (k := 3) hi (by decide) hL) dL_law_1028 ?_
  obtain ⟨r, S2, M2, e1, e2, hr2⟩ := (A_worse hr.core (xs (nI i + (1 : Int32)).toNatClampNeg) (xs (nI i + (2 : Int32)).toNatClampNeg) (xs (nI i + (3 : Int32)).toNatClampNeg)).step hr
  refine sx_V (As := [.int (xs (nI i + (1 : Int32)).toNatClampNeg), .int (xs (nI i + (2 : Int32)).toNatClampNeg), .int (xs (nI i + (3 : Int32)).toNatClampNeg)]) (rest := []) (st1 := [.int r]) (c_X4_worse G l a S (xs (nI i + (1 : Int32)).toNatClampNeg) (xs (nI i + (2 : Int32)).toNatClampNeg) (xs (nI i + (3 : Int32)).toNatClampNeg) (r, S2) e1) vl_121 ⟨(Nat.le_of_ble_eq_true rfl), (Nat.le_of_ble_eq_true rfl)⟩ hx hb hml hown hts hE hA hs ⟨Nat.le_of_succ_le hc, Nat.le_trans (Nat.le_add_right _ 6) hsl⟩ 0 rfl rfl rfl rfl rfl hl.1 (Nat.le_of_ble_eq_true rfl) dL_law_1029 (List.Perm.refl _) (ws' := WW G a a2 o S2 M f) (pw _ _ _) (fun H locs hs => ?_)
  refine lv_aload_n hx hb dL_law_1032 rfl (lv_at hl 2 rfl) ?_
  refine lv_aload_n hx hb dL_law_1033 rfl (lv_at hl 0 rfl) ?_
  refine lv_iload hx hb dL_law_1034 (lv_at hl 4 rfl) ?_
  refine lv_iconst (v := (1 : Int32)) hx hb dL_law_1036 (by decide) ?_
  refine lv_iadd hx hb dL_law_1037 ?_
  refine va_sld hx hb hX hbl hbA hs.2.2 (inK (k := 1) hi (by decide) hL) dL_law_1038 ?_
  refine lv_aload_n hx hb dL_law_1039 rfl (lv_at hl 0 rfl) ?_
  refine lv_iload hx hb dL_law_1040 (lv_at hl 4 rfl) ?_
  refine lv_iconst (v := (2 : Int32)) hx hb dL_law_1042 (by decide) ?_
  refine lv_iadd hx hb dL_law_1043 ?_
  refine va_sld hx hb hX hbl hbA hs.2.2 (inK (k := 2) hi (by decide) hL) dL_law_1044 ?_
  refine lv_aload_n hx hb dL_law_1045 rfl (lv_at hl 0 rfl) ?_
  refine lv_iload hx hb dL_law_1046 (lv_at hl 4 rfl) ?_
  refine lv_iconst (v := (3 : Int32)) hx hb dL_law_1048 (by decide) ?_
  refine lv_iadd hx hb dL_law_1049 ?_
  refine va_sld hx hb hX hbl hbA hs.2.2 (inK (k := 3) hi (by decide) hL) dL_law_1050 ?_
  refine sx_V (As := [.int (xs (nI i + (1 : Int32)).toNatClampNeg), .int (xs (nI i + (2 : Int32)).toNatClampNeg), .int (xs (nI i + (3 : Int32)).toNatClampNeg)]) (rest := [.int r]) (st1 := [.int r, .int r]) (c_X5_worse G l a2 M (xs (nI i + (1 : Int32)).toNatClampNeg) (xs (nI i + (2 : Int32)).toNatClampNeg) (xs (nI i + (3 : Int32)).toNatClampNeg) (r, M2) e2) vl_125 ⟨(Nat.le_of_ble_eq_true rfl), (Nat.le_of_ble_eq_true rfl)⟩ hx hb hml hown hts hE hA hs ⟨Nat.le_of_succ_le hc, Nat.le_trans (Nat.le_add_right _ 6) hsl⟩ 0 rfl rfl rfl rfl rfl hl.1 (Nat.le_of_ble_eq_true rfl) dL_law_1051 (List.Perm.refl _) (ws' := WW G a a2 o S2 M2 f) (List.Perm.refl _) (fun H locs hs => ?_)
  refine lv_icmp_eq (tgt := 1513) hx hb dL_law_1054 (by decide) (fun hc9 => ?_) (fun hc9 => ?_)
  · exact W.widen (Nat.le_add_right _ 1) (Nat.le_add_right _ 6) (hk S2 M2 f H locs ls hr2 hs hl)
  · exact absurd rfl hc9
set_option maxHeartbeats 4000000 in
set_option maxRecDepth 100000 in
theorem k_25 {p : Program} {l : Launch} {e : Env} {s : State} {m : MethodId} {below : List Frame} {meth : Method} {c : Code} {G : GT} {A : Nat → Prop} {b L i : Nat} {xs : Nat → Int32} {a a2 : Nat → Nat} {o : Nat} {S : XS} {M : MS} {f : Fin 1 → Int64} {H : Heap} {locs : List Loc} {cells slots : Nat} {Q : State → Prop} {ls : Array Slot} (K : LAWK p l s m c b L xs G A) (hi : i + 6 ≤ L) (hL : L ≤ 3072) (hr : Rel S M) (hs : SI G A s H locs (WW G a a2 o S M f)) (hl : lv_has ls 7 (LVs b a a2 o i)) (hc : cells + 1 ≤ 601024) (hsl : slots + 6 ≤ 7293034)
    (hk : ∀ (S' : XS) (M' : MS) (f' : Fin 1 → Int64) (H : Heap) (locs : List Loc) (ls : Array Slot), Rel S' M' → SI G A s H locs (WW G a a2 o S' M' f') → lv_has ls 7 (LVs b a a2 o i) → W p l e room_1 s m #[Value.ref b] below meth c H locs (cells + 1) (slots + 6) Q (F0 m 1513 ls [])) : W p l e room_1 s m #[Value.ref b] below meth c H locs cells slots Q (F0 m 1059 ls []) := by
  obtain ⟨hx, hb, hml, hown, hts, hE, hZ, hA, hX, hbl, hbA, hfl⟩ := K
  have hs := sx_perm hs (pw _ _ _)
  refine lv_aload_n hx hb dL_law_1059 rfl (lv_at hl 1 rfl) ?_
  refine lv_aload_n hx hb dL_law_1060 rfl (lv_at hl 0 rfl) ?_
  refine lv_iload hx hb dL_law_1061 (lv_at hl 4 rfl) ?_
  refine lv_iconst (v := (1 : Int32)) hx hb dL_law_1063 (by decide) ?_
  refine lv_iadd hx hb dL_law_1064 ?_
  refine va_sld hx hb hX hbl hbA hs.2.2 (inK (k := 1) hi (by decide) hL) dL_law_1065 ?_
  refine lv_aload_n hx hb dL_law_1066 rfl (lv_at hl 0 rfl) ?_
  refine lv_iload hx hb dL_law_1067 (lv_at hl 4 rfl) ?_
  refine lv_iconst (v := (2 : Int32)) hx hb dL_law_1069 (by decide) ?_
  refine lv_iadd hx hb dL_law_1070 ?_
  refine va_sld hx hb hX hbl hbA hs.2.2 (inK (k := 2) hi (by decide) hL) dL_law_1071 ?_
  refine lv_aload_n hx hb dL_law_1072 rfl (lv_at hl 0 rfl) ?_
  refine lv_iload hx hb dL_law_1073 (lv_at hl 4 rfl) ?_
  refine lv_iconst (v := (3 : Int32)) hx hb dL_law_1075 (by decide) ?_
  refine lv_iadd hx hb dL_law_1076 ?_
  refine va_sld hx hb hX hbl hbA hs.2.2 (inK (k := 3) hi (by decide) hL) dL_law_1077 ?_
  refine lv_aload_n hx hb dL_law_1078 rfl (lv_at hl 0 rfl) ?_
  refine lv_iload hx hb dL_law_1079 (lv_at hl 4 rfl) ?_
  refine lv_iconst (v := (4 : Int32)) hx hb dL_law_1081 (by decide) ?_
  refine lv_iadd hx hb dL_law_1082 ?_
  refine va_sld hx hb hX hbl hbA hs.2.2 (inK (k := 4) hi (by decide) hL) dL_law_1083 ?_
  obtain ⟨r, S2, M2, e1, e2, hr2⟩ := (A_judged hr.core (xs (nI i + (1 : Int32)).toNatClampNeg) (xs (nI i + (2 : Int32)).toNatClampNeg) (xs (nI i + (3 : Int32)).toNatClampNeg) (xs (nI i + (4 : Int32)).toNatClampNeg)).step hr
  refine sx_V (As := [.int (xs (nI i + (1 : Int32)).toNatClampNeg), .int (xs (nI i + (2 : Int32)).toNatClampNeg), .int (xs (nI i + (3 : Int32)).toNatClampNeg), .int (xs (nI i + (4 : Int32)).toNatClampNeg)]) (rest := []) (st1 := [.long r]) (c_X4_judged G l a S (xs (nI i + (1 : Int32)).toNatClampNeg) (xs (nI i + (2 : Int32)).toNatClampNeg) (xs (nI i + (3 : Int32)).toNatClampNeg) (xs (nI i + (4 : Int32)).toNatClampNeg) (r, S2) e1) vl_126 ⟨(Nat.le_of_ble_eq_true rfl), (Nat.le_of_ble_eq_true rfl)⟩ hx hb hml hown hts hE hA hs ⟨Nat.le_of_succ_le hc, Nat.le_trans (Nat.le_add_right _ 6) hsl⟩ 0 rfl rfl rfl rfl rfl hl.1 (Nat.le_of_ble_eq_true rfl) dL_law_1084 (List.Perm.refl _) (ws' := WW G a a2 o S2 M f) (pw _ _ _) (fun H locs hs => ?_)
  refine lv_aload_n hx hb dL_law_1087 rfl (lv_at hl 2 rfl) ?_
  refine lv_aload_n hx hb dL_law_1088 rfl (lv_at hl 0 rfl) ?_
  refine lv_iload hx hb dL_law_1089 (lv_at hl 4 rfl) ?_
  refine lv_iconst (v := (1 : Int32)) hx hb dL_law_1091 (by decide) ?_
  refine lv_iadd hx hb dL_law_1092 ?_
  refine va_sld hx hb hX hbl hbA hs.2.2 (inK (k := 1) hi (by decide) hL) dL_law_1093 ?_
  refine lv_aload_n hx hb dL_law_1094 rfl (lv_at hl 0 rfl) ?_
  refine lv_iload hx hb dL_law_1095 (lv_at hl 4 rfl) ?_
  refine lv_iconst (v := (2 : Int32)) hx hb dL_law_1097 (by decide) ?_
  refine lv_iadd hx hb dL_law_1098 ?_
  refine va_sld hx hb hX hbl hbA hs.2.2 (inK (k := 2) hi (by decide) hL) dL_law_1099 ?_
  refine lv_aload_n hx hb dL_law_1100 rfl (lv_at hl 0 rfl) ?_
  refine lv_iload hx hb dL_law_1101 (lv_at hl 4 rfl) ?_
  refine lv_iconst (v := (3 : Int32)) hx hb dL_law_1103 (by decide) ?_
  refine lv_iadd hx hb dL_law_1104 ?_
  refine va_sld hx hb hX hbl hbA hs.2.2 (inK (k := 3) hi (by decide) hL) dL_law_1105 ?_
  refine lv_aload_n hx hb dL_law_1106 rfl (lv_at hl 0 rfl) ?_
  refine lv_iload hx hb dL_law_1107 (lv_at hl 4 rfl) ?_
  refine lv_iconst (v := (4 : Int32)) hx hb dL_law_1109 (by decide) ?_
  refine lv_iadd hx hb dL_law_1110 ?_
  refine va_sld hx hb hX hbl hbA hs.2.2 (inK (k := 4) hi (by decide) hL) dL_law_1111 ?_
  refine sx_V (As := [.int (xs (nI i + (1 : Int32)).toNatClampNeg), .int (xs (nI i + (2 : Int32)).toNatClampNeg), .int (xs (nI i + (3 : Int32)).toNatClampNeg), .int (xs (nI i + (4 : Int32)).toNatClampNeg)]) (rest := [.long r]) (st1 := [.long r, .long r]) (c_X5_judged G l a2 M (xs (nI i + (1 : Int32)).toNatClampNeg) (xs (nI i + (2 : Int32)).toNatClampNeg) (xs (nI i + (3 : Int32)).toNatClampNeg) (xs (nI i + (4 : Int32)).toNatClampNeg) (r, M2) e2) vl_130 ⟨(Nat.le_of_ble_eq_true rfl), (Nat.le_of_ble_eq_true rfl)⟩ hx hb hml hown hts hE hA hs ⟨Nat.le_of_succ_le hc, Nat.le_trans (Nat.le_add_right _ 6) hsl⟩ 0 rfl rfl rfl rfl rfl hl.1 (Nat.le_of_ble_eq_true rfl) dL_law_1112 (List.Perm.refl _) (ws' := WW G a a2 o S2 M2 f) (List.Perm.refl _) (fun H locs hs => ?_)
  refine W.lcmp hx hb dL_law_1115 ?_
  refine lv_if_eq (tgt := 1513) hx hb dL_law_1116 (by decide) (fun hc9 => ?_) (fun hc9 => ?_)
  · exact W.widen (Nat.le_add_right _ 1) (Nat.le_add_right _ 6) (hk S2 M2 f H locs ls hr2 hs hl)
  · exact absurd (lgc r) hc9
set_option maxHeartbeats 4000000 in
set_option maxRecDepth 100000 in
theorem k_26 {p : Program} {l : Launch} {e : Env} {s : State} {m : MethodId} {below : List Frame} {meth : Method} {c : Code} {G : GT} {A : Nat → Prop} {b L i : Nat} {xs : Nat → Int32} {a a2 : Nat → Nat} {o : Nat} {S : XS} {M : MS} {f : Fin 1 → Int64} {H : Heap} {locs : List Loc} {cells slots : Nat} {Q : State → Prop} {ls : Array Slot} (K : LAWK p l s m c b L xs G A) (hi : i + 6 ≤ L) (hL : L ≤ 3072) (hr : Rel S M) (hs : SI G A s H locs (WW G a a2 o S M f)) (hl : lv_has ls 7 (LVs b a a2 o i)) (hc : cells + 1 ≤ 601024) (hsl : slots + 6 ≤ 7293034)
    (hk : ∀ (S' : XS) (M' : MS) (f' : Fin 1 → Int64) (H : Heap) (locs : List Loc) (ls : Array Slot), Rel S' M' → SI G A s H locs (WW G a a2 o S' M' f') → lv_has ls 7 (LVs b a a2 o i) → W p l e room_1 s m #[Value.ref b] below meth c H locs (cells + 1) (slots + 6) Q (F0 m 1513 ls [])) : W p l e room_1 s m #[Value.ref b] below meth c H locs cells slots Q (F0 m 1121 ls []) := by
  obtain ⟨hx, hb, hml, hown, hts, hE, hZ, hA, hX, hbl, hbA, hfl⟩ := K
  have hs := sx_perm hs (pw _ _ _)
  refine lv_aload_n hx hb dL_law_1121 rfl (lv_at hl 1 rfl) ?_
  obtain ⟨r, S2, M2, e1, e2, hr2⟩ := (A_all hr.core ).step hr
  refine sx_V (As := []) (rest := []) (st1 := [.long r]) (c_X4_all G l a S  (r, S2) e1) vl_131 ⟨(Nat.le_of_ble_eq_true rfl), (Nat.le_of_ble_eq_true rfl)⟩ hx hb hml hown hts hE hA hs ⟨Nat.le_of_succ_le hc, Nat.le_trans (Nat.le_add_right _ 6) hsl⟩ 0 rfl rfl rfl rfl rfl hl.1 (Nat.le_of_ble_eq_true rfl) dL_law_1122 (List.Perm.refl _) (ws' := WW G a a2 o S2 M f) (pw _ _ _) (fun H locs hs => ?_)
  refine lv_aload_n hx hb dL_law_1125 rfl (lv_at hl 2 rfl) ?_
  refine sx_V (As := []) (rest := [.long r]) (st1 := [.long r, .long r]) (c_X5_all G l a2 M  (r, M2) e2) vl_135 ⟨(Nat.le_of_ble_eq_true rfl), (Nat.le_of_ble_eq_true rfl)⟩ hx hb hml hown hts hE hA hs ⟨Nat.le_of_succ_le hc, Nat.le_trans (Nat.le_add_right _ 6) hsl⟩ 0 rfl rfl rfl rfl rfl hl.1 (Nat.le_of_ble_eq_true rfl) dL_law_1126 (List.Perm.refl _) (ws' := WW G a a2 o S2 M2 f) (List.Perm.refl _) (fun H locs hs => ?_)
  refine W.lcmp hx hb dL_law_1129 ?_
  refine lv_if_eq (tgt := 1513) hx hb dL_law_1130 (by decide) (fun hc9 => ?_) (fun hc9 => ?_)
  · exact W.widen (Nat.le_add_right _ 1) (Nat.le_add_right _ 6) (hk S2 M2 f H locs ls hr2 hs hl)
  · exact absurd (lgc r) hc9
set_option maxHeartbeats 4000000 in
set_option maxRecDepth 100000 in
theorem k_27 {p : Program} {l : Launch} {e : Env} {s : State} {m : MethodId} {below : List Frame} {meth : Method} {c : Code} {G : GT} {A : Nat → Prop} {b L i : Nat} {xs : Nat → Int32} {a a2 : Nat → Nat} {o : Nat} {S : XS} {M : MS} {f : Fin 1 → Int64} {H : Heap} {locs : List Loc} {cells slots : Nat} {Q : State → Prop} {ls : Array Slot} (K : LAWK p l s m c b L xs G A) (hi : i + 6 ≤ L) (hL : L ≤ 3072) (hr : Rel S M) (hs : SI G A s H locs (WW G a a2 o S M f)) (hl : lv_has ls 7 (LVs b a a2 o i)) (hc : cells + 1 ≤ 601024) (hsl : slots + 6 ≤ 7293034)
    (hk : ∀ (S' : XS) (M' : MS) (f' : Fin 1 → Int64) (H : Heap) (locs : List Loc) (ls : Array Slot), Rel S' M' → SI G A s H locs (WW G a a2 o S' M' f') → lv_has ls 7 (LVs b a a2 o i) → W p l e room_1 s m #[Value.ref b] below meth c H locs (cells + 1) (slots + 6) Q (F0 m 1513 ls [])) : W p l e room_1 s m #[Value.ref b] below meth c H locs cells slots Q (F0 m 1135 ls []) := by
  obtain ⟨hx, hb, hml, hown, hts, hE, hZ, hA, hX, hbl, hbA, hfl⟩ := K
  have hs := sx_perm hs (pw _ _ _)
  refine lv_aload_n hx hb dL_law_1135 rfl (lv_at hl 1 rfl) ?_
  refine lv_aload_n hx hb dL_law_1136 rfl (lv_at hl 0 rfl) ?_
  refine lv_iload hx hb dL_law_1137 (lv_at hl 4 rfl) ?_
  refine lv_iconst (v := (1 : Int32)) hx hb dL_law_1139 (by decide) ?_
  refine lv_iadd hx hb dL_law_1140 ?_
  refine va_sld hx hb hX hbl hbA hs.2.2 (inK (k := 1) hi (by decide) hL) dL_law_1141 ?_
  refine lv_aload_n hx hb dL_law_1142 rfl (lv_at hl 0 rfl) ?_
  refine lv_iload hx hb dL_law_1143 (lv_at hl 4 rfl) ?_
  refine lv_iconst (v := (2 : Int32)) hx hb dL_law_1145 (by decide) ?_
  refine lv_iadd hx hb dL_law_1146 ?_
  refine va_sld hx hb hX hbl hbA hs.2.2 (inK (k := 2) hi (by decide) hL) dL_law_1147 ?_
  refine lv_aload_n hx hb dL_law_1148 rfl (lv_at hl 0 rfl) ?_
  refine lv_iload hx hb dL_law_1149 (lv_at hl 4 rfl) ?_
  refine lv_iconst (v := (3 : Int32)) hx hb dL_law_1151 (by decide) ?_
  refine lv_iadd hx hb dL_law_1152 ?_
  refine va_sld hx hb hX hbl hbA hs.2.2 (inK (k := 3) hi (by decide) hL) dL_law_1153 ?_
  obtain ⟨r, S2, M2, e1, e2, hr2⟩ := A_shift hr (xs (nI i + (1 : Int32)).toNatClampNeg) (xs (nI i + (2 : Int32)).toNatClampNeg) (xs (nI i + (3 : Int32)).toNatClampNeg)
  refine sx_V (As := [.int (xs (nI i + (1 : Int32)).toNatClampNeg), .int (xs (nI i + (2 : Int32)).toNatClampNeg), .int (xs (nI i + (3 : Int32)).toNatClampNeg)]) (rest := []) (st1 := [.int r]) (c_X4_shift G l a S (xs (nI i + (1 : Int32)).toNatClampNeg) (xs (nI i + (2 : Int32)).toNatClampNeg) (xs (nI i + (3 : Int32)).toNatClampNeg) (r, S2) e1) vl_136 ⟨(Nat.le_of_ble_eq_true rfl), (Nat.le_of_ble_eq_true rfl)⟩ hx hb hml hown hts hE hA hs ⟨Nat.le_of_succ_le hc, Nat.le_trans (Nat.le_add_right _ 6) hsl⟩ 0 rfl rfl rfl rfl rfl hl.1 (Nat.le_of_ble_eq_true rfl) dL_law_1154 (List.Perm.refl _) (ws' := WW G a a2 o S2 M f) (pw _ _ _) (fun H locs hs => ?_)
  refine lv_aload_n hx hb dL_law_1157 rfl (lv_at hl 2 rfl) ?_
  refine lv_aload_n hx hb dL_law_1158 rfl (lv_at hl 0 rfl) ?_
  refine lv_iload hx hb dL_law_1159 (lv_at hl 4 rfl) ?_
  refine lv_iconst (v := (1 : Int32)) hx hb dL_law_1161 (by decide) ?_
  refine lv_iadd hx hb dL_law_1162 ?_
  refine va_sld hx hb hX hbl hbA hs.2.2 (inK (k := 1) hi (by decide) hL) dL_law_1163 ?_
  refine lv_aload_n hx hb dL_law_1164 rfl (lv_at hl 0 rfl) ?_
  refine lv_iload hx hb dL_law_1165 (lv_at hl 4 rfl) ?_
  refine lv_iconst (v := (2 : Int32)) hx hb dL_law_1167 (by decide) ?_
  refine lv_iadd hx hb dL_law_1168 ?_
  refine va_sld hx hb hX hbl hbA hs.2.2 (inK (k := 2) hi (by decide) hL) dL_law_1169 ?_
  refine lv_aload_n hx hb dL_law_1170 rfl (lv_at hl 0 rfl) ?_
  refine lv_iload hx hb dL_law_1171 (lv_at hl 4 rfl) ?_
  refine lv_iconst (v := (3 : Int32)) hx hb dL_law_1173 (by decide) ?_
  refine lv_iadd hx hb dL_law_1174 ?_
  refine va_sld hx hb hX hbl hbA hs.2.2 (inK (k := 3) hi (by decide) hL) dL_law_1175 ?_
  refine sx_V (As := [.int (xs (nI i + (1 : Int32)).toNatClampNeg), .int (xs (nI i + (2 : Int32)).toNatClampNeg), .int (xs (nI i + (3 : Int32)).toNatClampNeg)]) (rest := [.int r]) (st1 := [.int r, .int r]) (c_X5_shift G l a2 M (xs (nI i + (1 : Int32)).toNatClampNeg) (xs (nI i + (2 : Int32)).toNatClampNeg) (xs (nI i + (3 : Int32)).toNatClampNeg) (r, M2) e2) vl_139 ⟨(Nat.le_of_ble_eq_true rfl), (Nat.le_of_ble_eq_true rfl)⟩ hx hb hml hown hts hE hA hs ⟨Nat.le_of_succ_le hc, Nat.le_trans (Nat.le_add_right _ 6) hsl⟩ 0 rfl rfl rfl rfl rfl hl.1 (Nat.le_of_ble_eq_true rfl) dL_law_1176 (List.Perm.refl _) (ws' := WW G a a2 o S2 M2 f) (List.Perm.refl _) (fun H locs hs => ?_)
  refine lv_icmp_eq (tgt := 1513) hx hb dL_law_1179 (by decide) (fun hc9 => ?_) (fun hc9 => ?_)
  · exact W.widen (Nat.le_add_right _ 1) (Nat.le_add_right _ 6) (hk S2 M2 f H locs ls hr2 hs hl)
  · exact absurd rfl hc9
set_option maxHeartbeats 4000000 in
set_option maxRecDepth 100000 in
theorem k_28 {p : Program} {l : Launch} {e : Env} {s : State} {m : MethodId} {below : List Frame} {meth : Method} {c : Code} {G : GT} {A : Nat → Prop} {b L i : Nat} {xs : Nat → Int32} {a a2 : Nat → Nat} {o : Nat} {S : XS} {M : MS} {f : Fin 1 → Int64} {H : Heap} {locs : List Loc} {cells slots : Nat} {Q : State → Prop} {ls : Array Slot} (K : LAWK p l s m c b L xs G A) (hi : i + 6 ≤ L) (hL : L ≤ 3072) (hr : Rel S M) (hs : SI G A s H locs (WW G a a2 o S M f)) (hl : lv_has ls 7 (LVs b a a2 o i)) (hc : cells + 1 ≤ 601024) (hsl : slots + 6 ≤ 7293034)
    (hk : ∀ (S' : XS) (M' : MS) (f' : Fin 1 → Int64) (H : Heap) (locs : List Loc) (ls : Array Slot), Rel S' M' → SI G A s H locs (WW G a a2 o S' M' f') → lv_has ls 7 (LVs b a a2 o i) → W p l e room_1 s m #[Value.ref b] below meth c H locs (cells + 1) (slots + 6) Q (F0 m 1513 ls [])) : W p l e room_1 s m #[Value.ref b] below meth c H locs cells slots Q (F0 m 1184 ls []) := by
  obtain ⟨hx, hb, hml, hown, hts, hE, hZ, hA, hX, hbl, hbA, hfl⟩ := K
  have hs := sx_perm hs (pw _ _ _)
  refine lv_aload_n hx hb dL_law_1184 rfl (lv_at hl 1 rfl) ?_
  refine lv_aload_n hx hb dL_law_1185 rfl (lv_at hl 0 rfl) ?_
  refine lv_iload hx hb dL_law_1186 (lv_at hl 4 rfl) ?_
  refine lv_iconst (v := (1 : Int32)) hx hb dL_law_1188 (by decide) ?_
  refine lv_iadd hx hb dL_law_1189 ?_
  refine va_sld hx hb hX hbl hbA hs.2.2 (inK (k := 1) hi (by decide) hL) dL_law_1190 ?_
  refine lv_aload_n hx hb dL_law_1191 rfl (lv_at hl 0 rfl) ?_
  refine lv_iload hx hb dL_law_1192 (lv_at hl 4 rfl) ?_
  refine lv_iconst (v := (2 : Int32)) hx hb dL_law_1194 (by decide) ?_
  refine lv_iadd hx hb dL_law_1195 ?_
  refine va_sld hx hb hX hbl hbA hs.2.2 (inK (k := 2) hi (by decide) hL) dL_law_1196 ?_
  refine lv_aload_n hx hb dL_law_1197 rfl (lv_at hl 0 rfl) ?_
  refine lv_iload hx hb dL_law_1198 (lv_at hl 4 rfl) ?_
  refine lv_iconst (v := (3 : Int32)) hx hb dL_law_1200 (by decide) ?_
  refine lv_iadd hx hb dL_law_1201 ?_
  refine va_sld hx hb hX hbl hbA hs.2.2 (inK (k := 3) hi (by decide) hL) dL_law_1202 ?_
  refine lv_aload_n hx hb dL_law_1203 rfl (lv_at hl 0 rfl) ?_
  refine lv_iload hx hb dL_law_1204 (lv_at hl 4 rfl) ?_
  refine lv_iconst (v := (4 : Int32)) hx hb dL_law_1206 (by decide) ?_
  refine lv_iadd hx hb dL_law_1207 ?_
  refine va_sld hx hb hX hbl hbA hs.2.2 (inK (k := 4) hi (by decide) hL) dL_law_1208 ?_
  obtain ⟨r, S2, M2, e1, e2, hr2⟩ := A_file hr (xs (nI i + (1 : Int32)).toNatClampNeg) (xs (nI i + (2 : Int32)).toNatClampNeg) (xs (nI i + (3 : Int32)).toNatClampNeg) (xs (nI i + (4 : Int32)).toNatClampNeg)
  refine sx_V (As := [.int (xs (nI i + (1 : Int32)).toNatClampNeg), .int (xs (nI i + (2 : Int32)).toNatClampNeg), .int (xs (nI i + (3 : Int32)).toNatClampNeg), .int (xs (nI i + (4 : Int32)).toNatClampNeg)]) (rest := []) (st1 := [.int r]) (c_X4_file G l a S (xs (nI i + (1 : Int32)).toNatClampNeg) (xs (nI i + (2 : Int32)).toNatClampNeg) (xs (nI i + (3 : Int32)).toNatClampNeg) (xs (nI i + (4 : Int32)).toNatClampNeg) (r, S2) e1) vl_140 ⟨(Nat.le_of_ble_eq_true rfl), (Nat.le_of_ble_eq_true rfl)⟩ hx hb hml hown hts hE hA hs ⟨Nat.le_of_succ_le hc, Nat.le_trans (Nat.le_add_right _ 6) hsl⟩ 0 rfl rfl rfl rfl rfl hl.1 (Nat.le_of_ble_eq_true rfl) dL_law_1209 (List.Perm.refl _) (ws' := WW G a a2 o S2 M f) (pw _ _ _) (fun H locs hs => ?_)
  refine lv_aload_n hx hb dL_law_1212 rfl (lv_at hl 2 rfl) ?_
  refine lv_aload_n hx hb dL_law_1213 rfl (lv_at hl 0 rfl) ?_
  refine lv_iload hx hb dL_law_1214 (lv_at hl 4 rfl) ?_
  refine lv_iconst (v := (1 : Int32)) hx hb dL_law_1216 (by decide) ?_
  refine lv_iadd hx hb dL_law_1217 ?_
  refine va_sld hx hb hX hbl hbA hs.2.2 (inK (k := 1) hi (by decide) hL) dL_law_1218 ?_
  refine lv_aload_n hx hb dL_law_1219 rfl (lv_at hl 0 rfl) ?_
  refine lv_iload hx hb dL_law_1220 (lv_at hl 4 rfl) ?_
  refine lv_iconst (v := (2 : Int32)) hx hb dL_law_1222 (by decide) ?_
  refine lv_iadd hx hb dL_law_1223 ?_
  refine va_sld hx hb hX hbl hbA hs.2.2 (inK (k := 2) hi (by decide) hL) dL_law_1224 ?_
  refine lv_aload_n hx hb dL_law_1225 rfl (lv_at hl 0 rfl) ?_
  refine lv_iload hx hb dL_law_1226 (lv_at hl 4 rfl) ?_
  refine lv_iconst (v := (3 : Int32)) hx hb dL_law_1228 (by decide) ?_
  refine lv_iadd hx hb dL_law_1229 ?_
  refine va_sld hx hb hX hbl hbA hs.2.2 (inK (k := 3) hi (by decide) hL) dL_law_1230 ?_
  refine lv_aload_n hx hb dL_law_1231 rfl (lv_at hl 0 rfl) ?_
  refine lv_iload hx hb dL_law_1232 (lv_at hl 4 rfl) ?_
  refine lv_iconst (v := (4 : Int32)) hx hb dL_law_1234 (by decide) ?_
  refine lv_iadd hx hb dL_law_1235 ?_
  refine va_sld hx hb hX hbl hbA hs.2.2 (inK (k := 4) hi (by decide) hL) dL_law_1236 ?_
  refine sx_V (As := [.int (xs (nI i + (1 : Int32)).toNatClampNeg), .int (xs (nI i + (2 : Int32)).toNatClampNeg), .int (xs (nI i + (3 : Int32)).toNatClampNeg), .int (xs (nI i + (4 : Int32)).toNatClampNeg)]) (rest := [.int r]) (st1 := [.int r, .int r]) (c_X5_file G l a2 M (xs (nI i + (1 : Int32)).toNatClampNeg) (xs (nI i + (2 : Int32)).toNatClampNeg) (xs (nI i + (3 : Int32)).toNatClampNeg) (xs (nI i + (4 : Int32)).toNatClampNeg) (r, M2) e2) vl_144 ⟨(Nat.le_of_ble_eq_true rfl), (Nat.le_of_ble_eq_true rfl)⟩ hx hb hml hown hts hE hA hs ⟨Nat.le_of_succ_le hc, Nat.le_trans (Nat.le_add_right _ 6) hsl⟩ 0 rfl rfl rfl rfl rfl hl.1 (Nat.le_of_ble_eq_true rfl) dL_law_1237 (List.Perm.refl _) (ws' := WW G a a2 o S2 M2 f) (List.Perm.refl _) (fun H locs hs => ?_)
  refine lv_icmp_eq (tgt := 1513) hx hb dL_law_1240 (by decide) (fun hc9 => ?_) (fun hc9 => ?_)
  · exact W.widen (Nat.le_add_right _ 1) (Nat.le_add_right _ 6) (hk S2 M2 f H locs ls hr2 hs hl)
  · exact absurd rfl hc9
set_option maxHeartbeats 4000000 in
set_option maxRecDepth 100000 in
theorem k_29 {p : Program} {l : Launch} {e : Env} {s : State} {m : MethodId} {below : List Frame} {meth : Method} {c : Code} {G : GT} {A : Nat → Prop} {b L i : Nat} {xs : Nat → Int32} {a a2 : Nat → Nat} {o : Nat} {S : XS} {M : MS} {f : Fin 1 → Int64} {H : Heap} {locs : List Loc} {cells slots : Nat} {Q : State → Prop} {ls : Array Slot} (K : LAWK p l s m c b L xs G A) (hi : i + 6 ≤ L) (hL : L ≤ 3072) (hr : Rel S M) (hs : SI G A s H locs (WW G a a2 o S M f)) (hl : lv_has ls 7 (LVs b a a2 o i)) (hc : cells + 1 ≤ 601024) (hsl : slots + 6 ≤ 7293034)
    (hk : ∀ (S' : XS) (M' : MS) (f' : Fin 1 → Int64) (H : Heap) (locs : List Loc) (ls : Array Slot), Rel S' M' → SI G A s H locs (WW G a a2 o S' M' f') → lv_has ls 7 (LVs b a a2 o i) → W p l e room_1 s m #[Value.ref b] below meth c H locs (cells + 1) (slots + 6) Q (F0 m 1513 ls [])) : W p l e room_1 s m #[Value.ref b] below meth c H locs cells slots Q (F0 m 1245 ls []) := by
  obtain ⟨hx, hb, hml, hown, hts, hE, hZ, hA, hX, hbl, hbA, hfl⟩ := K
  have hs := sx_perm hs (pw _ _ _)
  refine lv_aload_n hx hb dL_law_1245 rfl (lv_at hl 1 rfl) ?_
  refine lv_aload_n hx hb dL_law_1246 rfl (lv_at hl 0 rfl) ?_
  refine lv_iload hx hb dL_law_1247 (lv_at hl 4 rfl) ?_
  refine lv_iconst (v := (1 : Int32)) hx hb dL_law_1249 (by decide) ?_
  refine lv_iadd hx hb dL_law_1250 ?_
  refine va_sld hx hb hX hbl hbA hs.2.2 (inK (k := 1) hi (by decide) hL) dL_law_1251 ?_
  obtain ⟨r, S2, M2, e1, e2, hr2⟩ := A_withdraw hr (xs (nI i + (1 : Int32)).toNatClampNeg)
  refine sx_V (As := [.int (xs (nI i + (1 : Int32)).toNatClampNeg)]) (rest := []) (st1 := [.int r]) (c_X4_withdraw G l a S (xs (nI i + (1 : Int32)).toNatClampNeg) (r, S2) e1) vl_145 ⟨(Nat.le_of_ble_eq_true rfl), (Nat.le_of_ble_eq_true rfl)⟩ hx hb hml hown hts hE hA hs ⟨Nat.le_of_succ_le hc, Nat.le_trans (Nat.le_add_right _ 6) hsl⟩ 0 rfl rfl rfl rfl rfl hl.1 (Nat.le_of_ble_eq_true rfl) dL_law_1252 (List.Perm.refl _) (ws' := WW G a a2 o S2 M f) (pw _ _ _) (fun H locs hs => ?_)
  refine lv_aload_n hx hb dL_law_1255 rfl (lv_at hl 2 rfl) ?_
  refine lv_aload_n hx hb dL_law_1256 rfl (lv_at hl 0 rfl) ?_
  refine lv_iload hx hb dL_law_1257 (lv_at hl 4 rfl) ?_
  refine lv_iconst (v := (1 : Int32)) hx hb dL_law_1259 (by decide) ?_
  refine lv_iadd hx hb dL_law_1260 ?_
  refine va_sld hx hb hX hbl hbA hs.2.2 (inK (k := 1) hi (by decide) hL) dL_law_1261 ?_
  refine sx_V (As := [.int (xs (nI i + (1 : Int32)).toNatClampNeg)]) (rest := [.int r]) (st1 := [.int r, .int r]) (c_X5_withdraw G l a2 M (xs (nI i + (1 : Int32)).toNatClampNeg) (r, M2) e2) vl_148 ⟨(Nat.le_of_ble_eq_true rfl), (Nat.le_of_ble_eq_true rfl)⟩ hx hb hml hown hts hE hA hs ⟨Nat.le_of_succ_le hc, Nat.le_trans (Nat.le_add_right _ 6) hsl⟩ 0 rfl rfl rfl rfl rfl hl.1 (Nat.le_of_ble_eq_true rfl) dL_law_1262 (List.Perm.refl _) (ws' := WW G a a2 o S2 M2 f) (List.Perm.refl _) (fun H locs hs => ?_)
  refine lv_icmp_eq (tgt := 1513) hx hb dL_law_1265 (by decide) (fun hc9 => ?_) (fun hc9 => ?_)
  · exact W.widen (Nat.le_add_right _ 1) (Nat.le_add_right _ 6) (hk S2 M2 f H locs ls hr2 hs hl)
  · exact absurd rfl hc9
set_option maxHeartbeats 4000000 in
set_option maxRecDepth 100000 in
theorem k_30 {p : Program} {l : Launch} {e : Env} {s : State} {m : MethodId} {below : List Frame} {meth : Method} {c : Code} {G : GT} {A : Nat → Prop} {b L i : Nat} {xs : Nat → Int32} {a a2 : Nat → Nat} {o : Nat} {S : XS} {M : MS} {f : Fin 1 → Int64} {H : Heap} {locs : List Loc} {cells slots : Nat} {Q : State → Prop} {ls : Array Slot} (K : LAWK p l s m c b L xs G A) (hi : i + 6 ≤ L) (hL : L ≤ 3072) (hr : Rel S M) (hs : SI G A s H locs (WW G a a2 o S M f)) (hl : lv_has ls 7 (LVs b a a2 o i)) (hc : cells + 1 ≤ 601024) (hsl : slots + 6 ≤ 7293034)
    (hk : ∀ (S' : XS) (M' : MS) (f' : Fin 1 → Int64) (H : Heap) (locs : List Loc) (ls : Array Slot), Rel S' M' → SI G A s H locs (WW G a a2 o S' M' f') → lv_has ls 7 (LVs b a a2 o i) → W p l e room_1 s m #[Value.ref b] below meth c H locs (cells + 1) (slots + 6) Q (F0 m 1513 ls [])) : W p l e room_1 s m #[Value.ref b] below meth c H locs cells slots Q (F0 m 1270 ls []) := by
  obtain ⟨hx, hb, hml, hown, hts, hE, hZ, hA, hX, hbl, hbA, hfl⟩ := K
  have hs := sx_perm hs (pw _ _ _)
  refine lv_aload_n hx hb dL_law_1270 rfl (lv_at hl 1 rfl) ?_
  refine lv_aload_n hx hb dL_law_1271 rfl (lv_at hl 0 rfl) ?_
  refine lv_iload hx hb dL_law_1272 (lv_at hl 4 rfl) ?_
  refine lv_iconst (v := (1 : Int32)) hx hb dL_law_1274 (by decide) ?_
  refine lv_iadd hx hb dL_law_1275 ?_
  refine va_sld hx hb hX hbl hbA hs.2.2 (inK (k := 1) hi (by decide) hL) dL_law_1276 ?_
  refine lv_aload_n hx hb dL_law_1277 rfl (lv_at hl 0 rfl) ?_
  refine lv_iload hx hb dL_law_1278 (lv_at hl 4 rfl) ?_
  refine lv_iconst (v := (2 : Int32)) hx hb dL_law_1280 (by decide) ?_
  refine lv_iadd hx hb dL_law_1281 ?_
  refine va_sld hx hb hX hbl hbA hs.2.2 (inK (k := 2) hi (by decide) hL) dL_law_1282 ?_
  refine lv_aload_n hx hb dL_law_1283 rfl (lv_at hl 0 rfl) ?_
  refine lv_iload hx hb dL_law_1284 (lv_at hl 4 rfl) ?_
  refine lv_iconst (v := (3 : Int32)) hx hb dL_law_1286 (by decide) ?_
  refine lv_iadd hx hb dL_law_1287 ?_
  refine va_sld hx hb hX hbl hbA hs.2.2 (inK (k := 3) hi (by decide) hL) dL_law_1288 ?_
  obtain ⟨r, S2, M2, e1, e2, hr2⟩ := A_become hr (xs (nI i + (1 : Int32)).toNatClampNeg) (xs (nI i + (2 : Int32)).toNatClampNeg) (xs (nI i + (3 : Int32)).toNatClampNeg)
  refine sx_V (As := [.int (xs (nI i + (1 : Int32)).toNatClampNeg), .int (xs (nI i + (2 : Int32)).toNatClampNeg), .int (xs (nI i + (3 : Int32)).toNatClampNeg)]) (rest := []) (st1 := [.int r]) (c_X4_become G l a S (xs (nI i + (1 : Int32)).toNatClampNeg) (xs (nI i + (2 : Int32)).toNatClampNeg) (xs (nI i + (3 : Int32)).toNatClampNeg) (r, S2) e1) vl_149 ⟨(Nat.le_of_ble_eq_true rfl), (Nat.le_of_ble_eq_true rfl)⟩ hx hb hml hown hts hE hA hs ⟨Nat.le_of_succ_le hc, Nat.le_trans (Nat.le_add_right _ 6) hsl⟩ 0 rfl rfl rfl rfl rfl hl.1 (Nat.le_of_ble_eq_true rfl) dL_law_1289 (List.Perm.refl _) (ws' := WW G a a2 o S2 M f) (pw _ _ _) (fun H locs hs => ?_)
  refine lv_aload_n hx hb dL_law_1292 rfl (lv_at hl 2 rfl) ?_
  refine lv_aload_n hx hb dL_law_1293 rfl (lv_at hl 0 rfl) ?_
  refine lv_iload hx hb dL_law_1294 (lv_at hl 4 rfl) ?_
  refine lv_iconst (v := (1 : Int32)) hx hb dL_law_1296 (by decide) ?_
  refine lv_iadd hx hb dL_law_1297 ?_
  refine va_sld hx hb hX hbl hbA hs.2.2 (inK (k := 1) hi (by decide) hL) dL_law_1298 ?_
  refine lv_aload_n hx hb dL_law_1299 rfl (lv_at hl 0 rfl) ?_
  refine lv_iload hx hb dL_law_1300 (lv_at hl 4 rfl) ?_
  refine lv_iconst (v := (2 : Int32)) hx hb dL_law_1302 (by decide) ?_
  refine lv_iadd hx hb dL_law_1303 ?_
  refine va_sld hx hb hX hbl hbA hs.2.2 (inK (k := 2) hi (by decide) hL) dL_law_1304 ?_
  refine lv_aload_n hx hb dL_law_1305 rfl (lv_at hl 0 rfl) ?_
  refine lv_iload hx hb dL_law_1306 (lv_at hl 4 rfl) ?_
  refine lv_iconst (v := (3 : Int32)) hx hb dL_law_1308 (by decide) ?_
  refine lv_iadd hx hb dL_law_1309 ?_
  refine va_sld hx hb hX hbl hbA hs.2.2 (inK (k := 3) hi (by decide) hL) dL_law_1310 ?_
  refine sx_V (As := [.int (xs (nI i + (1 : Int32)).toNatClampNeg), .int (xs (nI i + (2 : Int32)).toNatClampNeg), .int (xs (nI i + (3 : Int32)).toNatClampNeg)]) (rest := [.int r]) (st1 := [.int r, .int r]) (c_X5_become G l a2 M (xs (nI i + (1 : Int32)).toNatClampNeg) (xs (nI i + (2 : Int32)).toNatClampNeg) (xs (nI i + (3 : Int32)).toNatClampNeg) (r, M2) e2) vl_152 ⟨(Nat.le_of_ble_eq_true rfl), (Nat.le_of_ble_eq_true rfl)⟩ hx hb hml hown hts hE hA hs ⟨Nat.le_of_succ_le hc, Nat.le_trans (Nat.le_add_right _ 6) hsl⟩ 0 rfl rfl rfl rfl rfl hl.1 (Nat.le_of_ble_eq_true rfl) dL_law_1311 (List.Perm.refl _) (ws' := WW G a a2 o S2 M2 f) (List.Perm.refl _) (fun H locs hs => ?_)
  refine lv_icmp_eq (tgt := 1513) hx hb dL_law_1314 (by decide) (fun hc9 => ?_) (fun hc9 => ?_)
  · exact W.widen (Nat.le_add_right _ 1) (Nat.le_add_right _ 6) (hk S2 M2 f H locs ls hr2 hs hl)
  · exact absurd rfl hc9
set_option maxHeartbeats 4000000 in
set_option maxRecDepth 100000 in
theorem k_31 {p : Program} {l : Launch} {e : Env} {s : State} {m : MethodId} {below : List Frame} {meth : Method} {c : Code} {G : GT} {A : Nat → Prop} {b L i : Nat} {xs : Nat → Int32} {a a2 : Nat → Nat} {o : Nat} {S : XS} {M : MS} {f : Fin 1 → Int64} {H : Heap} {locs : List Loc} {cells slots : Nat} {Q : State → Prop} {ls : Array Slot} (K : LAWK p l s m c b L xs G A) (hi : i + 6 ≤ L) (hL : L ≤ 3072) (hr : Rel S M) (hs : SI G A s H locs (WW G a a2 o S M f)) (hl : lv_has ls 7 (LVs b a a2 o i)) (hc : cells + 1 ≤ 601024) (hsl : slots + 6 ≤ 7293034)
    (hk : ∀ (S' : XS) (M' : MS) (f' : Fin 1 → Int64) (H : Heap) (locs : List Loc) (ls : Array Slot), Rel S' M' → SI G A s H locs (WW G a a2 o S' M' f') → lv_has ls 7 (LVs b a a2 o i) → W p l e room_1 s m #[Value.ref b] below meth c H locs (cells + 1) (slots + 6) Q (F0 m 1513 ls [])) : W p l e room_1 s m #[Value.ref b] below meth c H locs cells slots Q (F0 m 1319 ls []) := by
  obtain ⟨hx, hb, hml, hown, hts, hE, hZ, hA, hX, hbl, hbA, hfl⟩ := K
  have hs := sx_perm hs (pw _ _ _)
  refine lv_aload_n hx hb dL_law_1319 rfl (lv_at hl 1 rfl) ?_
  refine lv_aload_n hx hb dL_law_1320 rfl (lv_at hl 0 rfl) ?_
  refine lv_iload hx hb dL_law_1321 (lv_at hl 4 rfl) ?_
  refine lv_iconst (v := (1 : Int32)) hx hb dL_law_1323 (by decide) ?_
  refine lv_iadd hx hb dL_law_1324 ?_
  refine va_sld hx hb hX hbl hbA hs.2.2 (inK (k := 1) hi (by decide) hL) dL_law_1325 ?_
  refine lv_aload_n hx hb dL_law_1326 rfl (lv_at hl 0 rfl) ?_
  refine lv_iload hx hb dL_law_1327 (lv_at hl 4 rfl) ?_
  refine lv_iconst (v := (2 : Int32)) hx hb dL_law_1329 (by decide) ?_
  refine lv_iadd hx hb dL_law_1330 ?_
  refine va_sld hx hb hX hbl hbA hs.2.2 (inK (k := 2) hi (by decide) hL) dL_law_1331 ?_
  obtain ⟨r, S2, M2, e1, e2, hr2⟩ := A_law hr (xs (nI i + (1 : Int32)).toNatClampNeg) (xs (nI i + (2 : Int32)).toNatClampNeg)
  refine sx_V (As := [.int (xs (nI i + (1 : Int32)).toNatClampNeg), .int (xs (nI i + (2 : Int32)).toNatClampNeg)]) (rest := []) (st1 := [.int r]) (c_X4_law G l a S (xs (nI i + (1 : Int32)).toNatClampNeg) (xs (nI i + (2 : Int32)).toNatClampNeg) (r, S2) e1) vl_153 ⟨(Nat.le_of_ble_eq_true rfl), (Nat.le_of_ble_eq_true rfl)⟩ hx hb hml hown hts hE hA hs ⟨Nat.le_of_succ_le hc, Nat.le_trans (Nat.le_add_right _ 6) hsl⟩ 0 rfl rfl rfl rfl rfl hl.1 (Nat.le_of_ble_eq_true rfl) dL_law_1332 (List.Perm.refl _) (ws' := WW G a a2 o S2 M f) (pw _ _ _) (fun H locs hs => ?_)
  refine lv_aload_n hx hb dL_law_1335 rfl (lv_at hl 2 rfl) ?_
  refine lv_aload_n hx hb dL_law_1336 rfl (lv_at hl 0 rfl) ?_
  refine lv_iload hx hb dL_law_1337 (lv_at hl 4 rfl) ?_
  refine lv_iconst (v := (1 : Int32)) hx hb dL_law_1339 (by decide) ?_
  refine lv_iadd hx hb dL_law_1340 ?_
  refine va_sld hx hb hX hbl hbA hs.2.2 (inK (k := 1) hi (by decide) hL) dL_law_1341 ?_
  refine lv_aload_n hx hb dL_law_1342 rfl (lv_at hl 0 rfl) ?_
  refine lv_iload hx hb dL_law_1343 (lv_at hl 4 rfl) ?_
  refine lv_iconst (v := (2 : Int32)) hx hb dL_law_1345 (by decide) ?_
  refine lv_iadd hx hb dL_law_1346 ?_
  refine va_sld hx hb hX hbl hbA hs.2.2 (inK (k := 2) hi (by decide) hL) dL_law_1347 ?_
  refine sx_V (As := [.int (xs (nI i + (1 : Int32)).toNatClampNeg), .int (xs (nI i + (2 : Int32)).toNatClampNeg)]) (rest := [.int r]) (st1 := [.int r, .int r]) (c_X5_law G l a2 M (xs (nI i + (1 : Int32)).toNatClampNeg) (xs (nI i + (2 : Int32)).toNatClampNeg) (r, M2) e2) vl_156 ⟨(Nat.le_of_ble_eq_true rfl), (Nat.le_of_ble_eq_true rfl)⟩ hx hb hml hown hts hE hA hs ⟨Nat.le_of_succ_le hc, Nat.le_trans (Nat.le_add_right _ 6) hsl⟩ 0 rfl rfl rfl rfl rfl hl.1 (Nat.le_of_ble_eq_true rfl) dL_law_1348 (List.Perm.refl _) (ws' := WW G a a2 o S2 M2 f) (List.Perm.refl _) (fun H locs hs => ?_)
  refine lv_icmp_eq (tgt := 1513) hx hb dL_law_1351 (by decide) (fun hc9 => ?_) (fun hc9 => ?_)
  · exact W.widen (Nat.le_add_right _ 1) (Nat.le_add_right _ 6) (hk S2 M2 f H locs ls hr2 hs hl)
  · exact absurd rfl hc9
set_option maxHeartbeats 4000000 in
set_option maxRecDepth 100000 in
theorem k_32 {p : Program} {l : Launch} {e : Env} {s : State} {m : MethodId} {below : List Frame} {meth : Method} {c : Code} {G : GT} {A : Nat → Prop} {b L i : Nat} {xs : Nat → Int32} {a a2 : Nat → Nat} {o : Nat} {S : XS} {M : MS} {f : Fin 1 → Int64} {H : Heap} {locs : List Loc} {cells slots : Nat} {Q : State → Prop} {ls : Array Slot} (K : LAWK p l s m c b L xs G A) (hi : i + 6 ≤ L) (hL : L ≤ 3072) (hr : Rel S M) (hs : SI G A s H locs (WW G a a2 o S M f)) (hl : lv_has ls 7 (LVs b a a2 o i)) (hc : cells + 1 ≤ 601024) (hsl : slots + 6 ≤ 7293034)
    (hk : ∀ (S' : XS) (M' : MS) (f' : Fin 1 → Int64) (H : Heap) (locs : List Loc) (ls : Array Slot), Rel S' M' → SI G A s H locs (WW G a a2 o S' M' f') → lv_has ls 7 (LVs b a a2 o i) → W p l e room_1 s m #[Value.ref b] below meth c H locs (cells + 1) (slots + 6) Q (F0 m 1513 ls [])) : W p l e room_1 s m #[Value.ref b] below meth c H locs cells slots Q (F0 m 1356 ls []) := by
  obtain ⟨hx, hb, hml, hown, hts, hE, hZ, hA, hX, hbl, hbA, hfl⟩ := K
  have hs := sx_perm hs (pw _ _ _)
  refine lv_aload_n hx hb dL_law_1356 rfl (lv_at hl 1 rfl) ?_
  obtain ⟨r, S2, M2, e1, e2, hr2⟩ := A_undo hr 
  refine sx_V (As := []) (rest := []) (st1 := [.int r]) (c_X4_undo G l a S  (r, S2) e1) vl_157 ⟨(Nat.le_of_ble_eq_true rfl), (Nat.le_of_ble_eq_true rfl)⟩ hx hb hml hown hts hE hA hs ⟨Nat.le_of_succ_le hc, Nat.le_trans (Nat.le_add_right _ 6) hsl⟩ 0 rfl rfl rfl rfl rfl hl.1 (Nat.le_of_ble_eq_true rfl) dL_law_1357 (List.Perm.refl _) (ws' := WW G a a2 o S2 M f) (pw _ _ _) (fun H locs hs => ?_)
  refine lv_aload_n hx hb dL_law_1360 rfl (lv_at hl 2 rfl) ?_
  refine sx_V (As := []) (rest := [.int r]) (st1 := [.int r, .int r]) (c_X5_undo G l a2 M  (r, M2) e2) vl_160 ⟨(Nat.le_of_ble_eq_true rfl), (Nat.le_of_ble_eq_true rfl)⟩ hx hb hml hown hts hE hA hs ⟨Nat.le_of_succ_le hc, Nat.le_trans (Nat.le_add_right _ 6) hsl⟩ 0 rfl rfl rfl rfl rfl hl.1 (Nat.le_of_ble_eq_true rfl) dL_law_1361 (List.Perm.refl _) (ws' := WW G a a2 o S2 M2 f) (List.Perm.refl _) (fun H locs hs => ?_)
  refine lv_icmp_eq (tgt := 1513) hx hb dL_law_1364 (by decide) (fun hc9 => ?_) (fun hc9 => ?_)
  · exact W.widen (Nat.le_add_right _ 1) (Nat.le_add_right _ 6) (hk S2 M2 f H locs ls hr2 hs hl)
  · exact absurd rfl hc9
set_option maxHeartbeats 4000000 in
set_option maxRecDepth 100000 in
theorem k_33 {p : Program} {l : Launch} {e : Env} {s : State} {m : MethodId} {below : List Frame} {meth : Method} {c : Code} {G : GT} {A : Nat → Prop} {b L i : Nat} {xs : Nat → Int32} {a a2 : Nat → Nat} {o : Nat} {S : XS} {M : MS} {f : Fin 1 → Int64} {H : Heap} {locs : List Loc} {cells slots : Nat} {Q : State → Prop} {ls : Array Slot} (K : LAWK p l s m c b L xs G A) (hi : i + 6 ≤ L) (hL : L ≤ 3072) (hr : Rel S M) (hs : SI G A s H locs (WW G a a2 o S M f)) (hl : lv_has ls 7 (LVs b a a2 o i)) (hc : cells + 1 ≤ 601024) (hsl : slots + 6 ≤ 7293034)
    (hk : ∀ (S' : XS) (M' : MS) (f' : Fin 1 → Int64) (H : Heap) (locs : List Loc) (ls : Array Slot), Rel S' M' → SI G A s H locs (WW G a a2 o S' M' f') → lv_has ls 7 (LVs b a a2 o i) → W p l e room_1 s m #[Value.ref b] below meth c H locs (cells + 1) (slots + 6) Q (F0 m 1513 ls [])) : W p l e room_1 s m #[Value.ref b] below meth c H locs cells slots Q (F0 m 1369 ls []) := by
  obtain ⟨hx, hb, hml, hown, hts, hE, hZ, hA, hX, hbl, hbA, hfl⟩ := K
  have hs := sx_perm hs (pw _ _ _)
  refine lv_aload_n hx hb dL_law_1369 rfl (lv_at hl 1 rfl) ?_
  refine lv_aload_n hx hb dL_law_1370 rfl (lv_at hl 0 rfl) ?_
  refine lv_iload hx hb dL_law_1371 (lv_at hl 4 rfl) ?_
  refine lv_iconst (v := (1 : Int32)) hx hb dL_law_1373 (by decide) ?_
  refine lv_iadd hx hb dL_law_1374 ?_
  refine va_sld hx hb hX hbl hbA hs.2.2 (inK (k := 1) hi (by decide) hL) dL_law_1375 ?_
  obtain ⟨r, S2, M2, e1, e2, hr2⟩ := A_image hr (xs (nI i + (1 : Int32)).toNatClampNeg)
  refine sx_V (As := [.int (xs (nI i + (1 : Int32)).toNatClampNeg)]) (rest := []) (st1 := [.int r]) (c_X4_image G l a S (xs (nI i + (1 : Int32)).toNatClampNeg) (r, S2) e1) vl_161 ⟨(Nat.le_of_ble_eq_true rfl), (Nat.le_of_ble_eq_true rfl)⟩ hx hb hml hown hts hE hA hs ⟨Nat.le_of_succ_le hc, Nat.le_trans (Nat.le_add_right _ 6) hsl⟩ 0 rfl rfl rfl rfl rfl hl.1 (Nat.le_of_ble_eq_true rfl) dL_law_1376 (List.Perm.refl _) (ws' := WW G a a2 o S2 M f) (pw _ _ _) (fun H locs hs => ?_)
  refine lv_aload_n hx hb dL_law_1379 rfl (lv_at hl 2 rfl) ?_
  refine lv_aload_n hx hb dL_law_1380 rfl (lv_at hl 0 rfl) ?_
  refine lv_iload hx hb dL_law_1381 (lv_at hl 4 rfl) ?_
  refine lv_iconst (v := (1 : Int32)) hx hb dL_law_1383 (by decide) ?_
  refine lv_iadd hx hb dL_law_1384 ?_
  refine va_sld hx hb hX hbl hbA hs.2.2 (inK (k := 1) hi (by decide) hL) dL_law_1385 ?_
  refine sx_V (As := [.int (xs (nI i + (1 : Int32)).toNatClampNeg)]) (rest := [.int r]) (st1 := [.int r, .int r]) (c_X5_image G l a2 M (xs (nI i + (1 : Int32)).toNatClampNeg) (r, M2) e2) vl_165 ⟨(Nat.le_of_ble_eq_true rfl), (Nat.le_of_ble_eq_true rfl)⟩ hx hb hml hown hts hE hA hs ⟨Nat.le_of_succ_le hc, Nat.le_trans (Nat.le_add_right _ 6) hsl⟩ 0 rfl rfl rfl rfl rfl hl.1 (Nat.le_of_ble_eq_true rfl) dL_law_1386 (List.Perm.refl _) (ws' := WW G a a2 o S2 M2 f) (List.Perm.refl _) (fun H locs hs => ?_)
  refine lv_icmp_eq (tgt := 1513) hx hb dL_law_1389 (by decide) (fun hc9 => ?_) (fun hc9 => ?_)
  · exact W.widen (Nat.le_add_right _ 1) (Nat.le_add_right _ 6) (hk S2 M2 f H locs ls hr2 hs hl)
  · exact absurd rfl hc9
set_option maxHeartbeats 4000000 in
set_option maxRecDepth 100000 in
theorem k_34 {p : Program} {l : Launch} {e : Env} {s : State} {m : MethodId} {below : List Frame} {meth : Method} {c : Code} {G : GT} {A : Nat → Prop} {b L i : Nat} {xs : Nat → Int32} {a a2 : Nat → Nat} {o : Nat} {S : XS} {M : MS} {f : Fin 1 → Int64} {H : Heap} {locs : List Loc} {cells slots : Nat} {Q : State → Prop} {ls : Array Slot} (K : LAWK p l s m c b L xs G A) (hi : i + 6 ≤ L) (hL : L ≤ 3072) (hr : Rel S M) (hs : SI G A s H locs (WW G a a2 o S M f)) (hl : lv_has ls 7 (LVs b a a2 o i)) (hc : cells + 1 ≤ 601024) (hsl : slots + 6 ≤ 7293034)
    (hk : ∀ (S' : XS) (M' : MS) (f' : Fin 1 → Int64) (H : Heap) (locs : List Loc) (ls : Array Slot), Rel S' M' → SI G A s H locs (WW G a a2 o S' M' f') → lv_has ls 7 (LVs b a a2 o i) → W p l e room_1 s m #[Value.ref b] below meth c H locs (cells + 1) (slots + 6) Q (F0 m 1513 ls [])) : W p l e room_1 s m #[Value.ref b] below meth c H locs cells slots Q (F0 m 1394 ls []) := by
  obtain ⟨hx, hb, hml, hown, hts, hE, hZ, hA, hX, hbl, hbA, hfl⟩ := K
  have hs := sx_perm hs (pw _ _ _)
  refine lv_aload_n hx hb dL_law_1394 rfl (lv_at hl 1 rfl) ?_
  refine lv_aload_n hx hb dL_law_1395 rfl (lv_at hl 0 rfl) ?_
  refine lv_iload hx hb dL_law_1396 (lv_at hl 4 rfl) ?_
  refine lv_iconst (v := (1 : Int32)) hx hb dL_law_1398 (by decide) ?_
  refine lv_iadd hx hb dL_law_1399 ?_
  refine va_sld hx hb hX hbl hbA hs.2.2 (inK (k := 1) hi (by decide) hL) dL_law_1400 ?_
  obtain ⟨r, S2, M2, e1, e2, hr2⟩ := A_again hr (xs (nI i + (1 : Int32)).toNatClampNeg)
  refine sx_V (As := [.int (xs (nI i + (1 : Int32)).toNatClampNeg)]) (rest := []) (st1 := [.int r]) (c_X4_again G l a S (xs (nI i + (1 : Int32)).toNatClampNeg) (r, S2) e1) vl_166 ⟨(Nat.le_of_ble_eq_true rfl), (Nat.le_of_ble_eq_true rfl)⟩ hx hb hml hown hts hE hA hs ⟨Nat.le_of_succ_le hc, Nat.le_trans (Nat.le_add_right _ 6) hsl⟩ 0 rfl rfl rfl rfl rfl hl.1 (Nat.le_of_ble_eq_true rfl) dL_law_1401 (List.Perm.refl _) (ws' := WW G a a2 o S2 M f) (pw _ _ _) (fun H locs hs => ?_)
  refine lv_aload_n hx hb dL_law_1404 rfl (lv_at hl 2 rfl) ?_
  refine lv_aload_n hx hb dL_law_1405 rfl (lv_at hl 0 rfl) ?_
  refine lv_iload hx hb dL_law_1406 (lv_at hl 4 rfl) ?_
  refine lv_iconst (v := (1 : Int32)) hx hb dL_law_1408 (by decide) ?_
  refine lv_iadd hx hb dL_law_1409 ?_
  refine va_sld hx hb hX hbl hbA hs.2.2 (inK (k := 1) hi (by decide) hL) dL_law_1410 ?_
  refine sx_V (As := [.int (xs (nI i + (1 : Int32)).toNatClampNeg)]) (rest := [.int r]) (st1 := [.int r, .int r]) (c_X5_again G l a2 M (xs (nI i + (1 : Int32)).toNatClampNeg) (r, M2) e2) vl_169 ⟨(Nat.le_of_ble_eq_true rfl), (Nat.le_of_ble_eq_true rfl)⟩ hx hb hml hown hts hE hA hs ⟨Nat.le_of_succ_le hc, Nat.le_trans (Nat.le_add_right _ 6) hsl⟩ 0 rfl rfl rfl rfl rfl hl.1 (Nat.le_of_ble_eq_true rfl) dL_law_1411 (List.Perm.refl _) (ws' := WW G a a2 o S2 M2 f) (List.Perm.refl _) (fun H locs hs => ?_)
  refine lv_icmp_eq (tgt := 1513) hx hb dL_law_1414 (by decide) (fun hc9 => ?_) (fun hc9 => ?_)
  · exact W.widen (Nat.le_add_right _ 1) (Nat.le_add_right _ 6) (hk S2 M2 f H locs ls hr2 hs hl)
  · exact absurd rfl hc9
set_option maxHeartbeats 4000000 in
set_option maxRecDepth 100000 in
theorem k_35 {p : Program} {l : Launch} {e : Env} {s : State} {m : MethodId} {below : List Frame} {meth : Method} {c : Code} {G : GT} {A : Nat → Prop} {b L i : Nat} {xs : Nat → Int32} {a a2 : Nat → Nat} {o : Nat} {S : XS} {M : MS} {f : Fin 1 → Int64} {H : Heap} {locs : List Loc} {cells slots : Nat} {Q : State → Prop} {ls : Array Slot} (K : LAWK p l s m c b L xs G A) (hi : i + 6 ≤ L) (hL : L ≤ 3072) (hr : Rel S M) (hs : SI G A s H locs (WW G a a2 o S M f)) (hl : lv_has ls 7 (LVs b a a2 o i)) (hc : cells + 1 ≤ 601024) (hsl : slots + 6 ≤ 7293034)
    (hk : ∀ (S' : XS) (M' : MS) (f' : Fin 1 → Int64) (H : Heap) (locs : List Loc) (ls : Array Slot), Rel S' M' → SI G A s H locs (WW G a a2 o S' M' f') → lv_has ls 7 (LVs b a a2 o i) → W p l e room_1 s m #[Value.ref b] below meth c H locs (cells + 1) (slots + 6) Q (F0 m 1513 ls [])) : W p l e room_1 s m #[Value.ref b] below meth c H locs cells slots Q (F0 m 1419 ls []) := by
  obtain ⟨hx, hb, hml, hown, hts, hE, hZ, hA, hX, hbl, hbA, hfl⟩ := K
  refine lv_aload_n hx hb dL_law_1419 rfl (lv_at hl 1 rfl) ?_
  refine lv_aload_n hx hb dL_law_1420 rfl (lv_at hl 0 rfl) ?_
  refine lv_iload hx hb dL_law_1421 (lv_at hl 4 rfl) ?_
  refine lv_iconst (v := (1 : Int32)) hx hb dL_law_1423 (by decide) ?_
  refine lv_iadd hx hb dL_law_1424 ?_
  refine va_sld hx hb hX hbl hbA hs.2.2 (inK (k := 1) hi (by decide) hL) dL_law_1425 ?_
  refine lv_aload_n hx hb dL_law_1426 rfl (lv_at hl 0 rfl) ?_
  refine lv_iload hx hb dL_law_1427 (lv_at hl 4 rfl) ?_
  refine lv_iconst (v := (2 : Int32)) hx hb dL_law_1429 (by decide) ?_
  refine lv_iadd hx hb dL_law_1430 ?_
  refine va_sld hx hb hX hbl hbA hs.2.2 (inK (k := 2) hi (by decide) hL) dL_law_1431 ?_
  refine lv_aload_n hx hb dL_law_1432 rfl (lv_at hl 3 rfl) ?_
  obtain ⟨r, v, M2, e1, e2, hr2, h9⟩ := A_letter hr (xs (nI i + (1 : Int32)).toNatClampNeg) (xs (nI i + (2 : Int32)).toNatClampNeg)
  refine sx_LS (As := [.ref (a 0), .int (xs (nI i + (1 : Int32)).toNatClampNeg), .int (xs (nI i + (2 : Int32)).toNatClampNeg), .ref o]) (rest := []) (c_L_letter G l hfl a S (xs (nI i + (1 : Int32)).toNatClampNeg) (xs (nI i + (2 : Int32)).toNatClampNeg) r e1 o f) ⟨(Nat.le_of_ble_eq_true rfl), (Nat.le_of_ble_eq_true rfl)⟩ hx hb hml hown hts hE hZ hA hs ⟨hc, hsl⟩ rfl rfl hl.1 (Nat.le_of_ble_eq_true rfl) dL_law_1433 List.perm_append_comm (ws' := WW G a a2 o S M (fLet f r)) List.perm_append_comm (fun H locs hs => ?_)
  refine lv_istore (lv' := (5, .int (rLet r)) :: LVs b a a2 o i) hx hb dL_law_1436 hl (by decide) rfl (fun ls hl => ?_)
  refine lv_aload_n hx hb dL_law_1438 rfl (lv_at hl 3 rfl) ?_
  refine lv_aload_n hx hb dL_law_1439 rfl (lv_at hl 1 rfl) ?_
  refine lv_iload hx hb dL_law_1440 (lv_at hl 5 rfl) ?_
  refine lv_iconst (v := (1 : Int32)) hx hb dL_law_1442 (by decide) ?_
  refine lv_iadd hx hb dL_law_1443 ?_
  refine va_sld hx hb hX hbl hbA hs.2.2 (inK (k := 1) hi (by decide) hL) dL_law_1444 ?_
  refine lv_aload_n hx hb dL_law_1445 rfl (lv_at hl 1 rfl) ?_
  refine lv_iload hx hb dL_law_1446 (lv_at hl 5 rfl) ?_
  refine lv_iconst (v := (2 : Int32)) hx hb dL_law_1448 (by decide) ?_
  refine lv_iadd hx hb dL_law_1449 ?_
  refine va_sld hx hb hX hbl hbA hs.2.2 (inK (k := 2) hi (by decide) hL) dL_law_1450 ?_
  refine sx_V (As := [.int (xs (nI i + (1 : Int32)).toNatClampNeg), .int (xs (nI i + (2 : Int32)).toNatClampNeg)]) (rest := []) (st1 := [.int v]) (c_X5_letter G l a2 M (xs (nI i + (1 : Int32)).toNatClampNeg) (xs (nI i + (2 : Int32)).toNatClampNeg) (v, M2) e2) vl_175 ⟨(Nat.le_of_ble_eq_true rfl), (Nat.le_of_ble_eq_true rfl)⟩ hx hb hml hown hts hE hA hs ⟨hc, hsl⟩ 0 rfl rfl rfl rfl rfl hl.1 (Nat.le_of_ble_eq_true rfl) dL_law_1451 (List.Perm.refl _) (ws' := WW G a a2 o S M2 (fLet f r)) (List.Perm.refl _) (fun H locs hs => ?_)
  refine lv_istore (lv' := (6, .int v) :: (5, .int (rLet r)) :: LVs b a a2 o i) hx hb dL_law_1454 hl (by decide) rfl (fun ls hl => ?_)
  refine lv_aload_n hx hb dL_law_1456 rfl (lv_at hl 4 rfl) ?_
  refine sx_V (As := []) (rest := []) (st1 := [.int (m_thrown M2)]) (c_X5_thrown G l a2 M2 (m_thrown M2) rfl) vl_176 ⟨(Nat.le_of_ble_eq_true rfl), (Nat.le_of_ble_eq_true rfl)⟩ hx hb hml hown hts hE hA hs ⟨hc, hsl⟩ 0 rfl rfl rfl rfl rfl hl.1 (Nat.le_of_ble_eq_true rfl) dL_law_1457 (List.Perm.refl _) (ws' := WW G a a2 o S M2 (fLet f r)) (List.Perm.refl _) (fun H locs hs => ?_)
  refine lv_iload hx hb dL_law_1460 (lv_at hl 1 rfl) ?_
  refine lv_icmp_eq (tgt := 1467) hx hb dL_law_1462 (by decide) (fun hc9 => ?_) (fun hc9 => ?_)
  rotate_left
  · rcases h9 with ⟨rfl, h9⟩ | ⟨rfl, h9⟩
    · exact absurd h9 hc9
    · exact absurd h9 hc9
  refine lv_iload hx hb dL_law_1467 (lv_at hl 1 rfl) ?_
  have hl2 := lv_sub hl [2, 3, 4, 5, 6] rfl
  refine lv_if_ne (tgt := 1484) hx hb dL_law_1469 (by decide) (fun hn9 => ?_) (fun hn9 => ?_)
  · refine lv_goto (tgt := 1513) hx hb dL_law_1484 (by decide) ?_
    exact hk S M2 _ H locs ls hr2 hs hl2
  rcases h9 with ⟨rfl, h9⟩ | ⟨rfl, h9⟩
  · exact absurd hn9 (by decide)
  have hs := sx_perm hs (pw2 _ _ _)
  refine lv_aload_n hx hb dL_law_1472 rfl (lv_at hl 5 rfl) ?_
  refine lv_iconst (v := (0 : Int32)) hx hb dL_law_1473 (by decide) ?_
  refine sx_lald hx hb hE hs 0 (f := upL f 0 v.toInt64) rfl (v := v.toInt64) (rdLet f _) dL_law_1474 ?_
  refine lv_iload hx hb dL_law_1475 (lv_at hl 0 rfl) ?_
  refine lv_i2l hx hb dL_law_1477 rfl ?_
  refine W.lcmp hx hb dL_law_1478 ?_
  refine lv_if_eq (tgt := 1484) hx hb dL_law_1479 (by decide) (fun hm9 => ?_) (fun hm9 => ?_)
  · refine lv_goto (tgt := 1513) hx hb dL_law_1484 (by decide) ?_
    exact hk S M2 _ H locs ls hr2 (sx_perm hs (pw2 _ _ _).symm) hl2
  · exact absurd (lgc _) hm9
set_option maxHeartbeats 4000000 in
set_option maxRecDepth 100000 in
theorem k_36 {p : Program} {l : Launch} {e : Env} {s : State} {m : MethodId} {below : List Frame} {meth : Method} {c : Code} {G : GT} {A : Nat → Prop} {b L i : Nat} {xs : Nat → Int32} {a a2 : Nat → Nat} {o : Nat} {S : XS} {M : MS} {f : Fin 1 → Int64} {H : Heap} {locs : List Loc} {cells slots : Nat} {Q : State → Prop} {ls : Array Slot} (K : LAWK p l s m c b L xs G A) (hi : i + 6 ≤ L) (hL : L ≤ 3072) (hr : Rel S M) (hs : SI G A s H locs (WW G a a2 o S M f)) (hl : lv_has ls 7 (LVs b a a2 o i)) (hc : cells + 1 ≤ 601024) (hsl : slots + 6 ≤ 7293034)
    (hk : ∀ (S' : XS) (M' : MS) (f' : Fin 1 → Int64) (H : Heap) (locs : List Loc) (ls : Array Slot), Rel S' M' → SI G A s H locs (WW G a a2 o S' M' f') → lv_has ls 7 (LVs b a a2 o i) → W p l e room_1 s m #[Value.ref b] below meth c H locs (cells + 1) (slots + 6) Q (F0 m 1513 ls [])) : W p l e room_1 s m #[Value.ref b] below meth c H locs cells slots Q (F0 m 1487 ls []) := by
  obtain ⟨hx, hb, hml, hown, hts, hE, hZ, hA, hX, hbl, hbA, hfl⟩ := K
  have hs := sx_perm hs (pw _ _ _)
  refine lv_aload_n hx hb dL_law_1487 rfl (lv_at hl 1 rfl) ?_
  obtain ⟨r, M2, e1, e2, hr2⟩ := A_size hr
  refine sx_V (As := []) (rest := []) (st1 := [.int r]) (c_X4_size G l a S r e1) vl_179 ⟨(Nat.le_of_ble_eq_true rfl), (Nat.le_of_ble_eq_true rfl)⟩ hx hb hml hown hts hE hA hs ⟨Nat.le_of_succ_le hc, Nat.le_trans (Nat.le_add_right _ 6) hsl⟩ 0 rfl rfl rfl rfl rfl hl.1 (Nat.le_of_ble_eq_true rfl) dL_law_1488 (List.Perm.refl _) (ws' := WW G a a2 o S M f) (pw _ _ _) (fun H locs hs => ?_)
  refine lv_aload_n hx hb dL_law_1491 rfl (lv_at hl 2 rfl) ?_
  refine sx_V (As := []) (rest := [.int r]) (st1 := [.int r, .int r]) (c_X5_size G l a2 M  (r, M2) e2) vl_182 ⟨(Nat.le_of_ble_eq_true rfl), (Nat.le_of_ble_eq_true rfl)⟩ hx hb hml hown hts hE hA hs ⟨Nat.le_of_succ_le hc, Nat.le_trans (Nat.le_add_right _ 6) hsl⟩ 0 rfl rfl rfl rfl rfl hl.1 (Nat.le_of_ble_eq_true rfl) dL_law_1492 (List.Perm.refl _) (ws' := WW G a a2 o S M2 f) (List.Perm.refl _) (fun H locs hs => ?_)
  refine lv_icmp_eq (tgt := 1513) hx hb dL_law_1495 (by decide) (fun hc9 => ?_) (fun hc9 => ?_)
  · exact W.widen (Nat.le_add_right _ 1) (Nat.le_add_right _ 6) (hk S M2 f H locs ls hr2 hs hl)
  · exact absurd rfl hc9
set_option maxHeartbeats 4000000 in
set_option maxRecDepth 100000 in
theorem k_37 {p : Program} {l : Launch} {e : Env} {s : State} {m : MethodId} {below : List Frame} {meth : Method} {c : Code} {G : GT} {A : Nat → Prop} {b L i : Nat} {xs : Nat → Int32} {a a2 : Nat → Nat} {o : Nat} {S : XS} {M : MS} {f : Fin 1 → Int64} {H : Heap} {locs : List Loc} {cells slots : Nat} {Q : State → Prop} {ls : Array Slot} (K : LAWK p l s m c b L xs G A) (hi : i + 6 ≤ L) (hL : L ≤ 3072) (hr : Rel S M) (hs : SI G A s H locs (WW G a a2 o S M f)) (hl : lv_has ls 7 (LVs b a a2 o i)) (hc : cells + 1 ≤ 601024) (hsl : slots + 6 ≤ 7293034)
    (hk : ∀ (S' : XS) (M' : MS) (f' : Fin 1 → Int64) (H : Heap) (locs : List Loc) (ls : Array Slot), Rel S' M' → SI G A s H locs (WW G a a2 o S' M' f') → lv_has ls 7 (LVs b a a2 o i) → W p l e room_1 s m #[Value.ref b] below meth c H locs (cells + 1) (slots + 6) Q (F0 m 1513 ls [])) : W p l e room_1 s m #[Value.ref b] below meth c H locs cells slots Q (F0 m 1500 ls []) := by
  obtain ⟨hx, hb, hml, hown, hts, hE, hZ, hA, hX, hbl, hbA, hfl⟩ := K
  have hs := sx_perm hs (pw _ _ _)
  refine lv_aload_n hx hb dL_law_1500 rfl (lv_at hl 1 rfl) ?_
  obtain ⟨r, M2, e1, e2, hr2⟩ := A_trouble hr
  refine sx_V (As := []) (rest := []) (st1 := [.int r]) (c_X4_trouble G l a S r e1) vl_183 ⟨(Nat.le_of_ble_eq_true rfl), (Nat.le_of_ble_eq_true rfl)⟩ hx hb hml hown hts hE hA hs ⟨Nat.le_of_succ_le hc, Nat.le_trans (Nat.le_add_right _ 6) hsl⟩ 0 rfl rfl rfl rfl rfl hl.1 (Nat.le_of_ble_eq_true rfl) dL_law_1501 (List.Perm.refl _) (ws' := WW G a a2 o S M f) (pw _ _ _) (fun H locs hs => ?_)
  refine lv_aload_n hx hb dL_law_1504 rfl (lv_at hl 2 rfl) ?_
  refine sx_V (As := []) (rest := [.int r]) (st1 := [.int r, .int r]) (c_X5_trouble G l a2 M  (r, M2) e2) vl_186 ⟨(Nat.le_of_ble_eq_true rfl), (Nat.le_of_ble_eq_true rfl)⟩ hx hb hml hown hts hE hA hs ⟨Nat.le_of_succ_le hc, Nat.le_trans (Nat.le_add_right _ 6) hsl⟩ 0 rfl rfl rfl rfl rfl hl.1 (Nat.le_of_ble_eq_true rfl) dL_law_1505 (List.Perm.refl _) (ws' := WW G a a2 o S M2 f) (List.Perm.refl _) (fun H locs hs => ?_)
  refine lv_icmp_eq (tgt := 1513) hx hb dL_law_1508 (by decide) (fun hc9 => ?_) (fun hc9 => ?_)
  · exact W.widen (Nat.le_add_right _ 1) (Nat.le_add_right _ 6) (hk S M2 f H locs ls hr2 hs hl)
  · exact absurd rfl hc9
