section
-- ===== PART A: goes FIRST, ahead of the names: the tables' words, and 'selects' of the private methods out of them =====
/-- a private method of a class that the tables say can be made, by its rows of tables_1 -/
def lw_okq (q : MethodName × Nat) : Prop := (q.1.cls ≠ "java/lang/invoke/MethodHandle" ∧ q.1.cls ≠ "java/lang/invoke/VarHandle") ∧ Cond.instantiable q.1.cls q.2 ∈ tables_1 ∧ Cond.privateMethod q.1 ∈ tables_1 ∧ Cond.instanceMethod q.1 ∈ tables_1
theorem lw_p0 : lw_okq (⟨"BothToBlame", "putBytes", "(I)V"⟩, 12) := ⟨⟨by decide +kernel, by decide +kernel⟩, List.mem_of_getElem? (i := 16) (by decide +kernel), List.mem_of_getElem? (i := 180) (by decide +kernel), List.mem_of_getElem? (i := 181) (by decide +kernel)⟩
theorem lw_p1 : lw_okq (⟨"BothToBlame", "none", "(I)I"⟩, 12) := ⟨⟨by decide +kernel, by decide +kernel⟩, List.mem_of_getElem? (i := 16) (by decide +kernel), List.mem_of_getElem? (i := 191) (by decide +kernel), List.mem_of_getElem? (i := 192) (by decide +kernel)⟩
theorem lw_p2 : lw_okq (⟨"BothToBlame", "refuse", "(I)Z"⟩, 12) := ⟨⟨by decide +kernel, by decide +kernel⟩, List.mem_of_getElem? (i := 16) (by decide +kernel), List.mem_of_getElem? (i := 195) (by decide +kernel), List.mem_of_getElem? (i := 196) (by decide +kernel)⟩
theorem lw_p3 : lw_okq (⟨"BothToBlame$Reader", "read", "(I)I"⟩, 11) := ⟨⟨by decide +kernel, by decide +kernel⟩, List.mem_of_getElem? (i := 24) (by decide +kernel), List.mem_of_getElem? (i := 199) (by decide +kernel), List.mem_of_getElem? (i := 200) (by decide +kernel)⟩
theorem lw_p4 : lw_okq (⟨"BothToBlame$Told", "clear", "()V"⟩, 6) := ⟨⟨by decide +kernel, by decide +kernel⟩, List.mem_of_getElem? (i := 30) (by decide +kernel), List.mem_of_getElem? (i := 203) (by decide +kernel), List.mem_of_getElem? (i := 204) (by decide +kernel)⟩
theorem lw_p5 : lw_okq (⟨"BothToBlame$Reader", "readLines", "()Z"⟩, 11) := ⟨⟨by decide +kernel, by decide +kernel⟩, List.mem_of_getElem? (i := 24) (by decide +kernel), List.mem_of_getElem? (i := 212) (by decide +kernel), List.mem_of_getElem? (i := 213) (by decide +kernel)⟩
theorem lw_p6 : lw_okq (⟨"BothToBlame$Reader", "step", "()V"⟩, 11) := ⟨⟨by decide +kernel, by decide +kernel⟩, List.mem_of_getElem? (i := 24) (by decide +kernel), List.mem_of_getElem? (i := 216) (by decide +kernel), List.mem_of_getElem? (i := 217) (by decide +kernel)⟩
theorem lw_p7 : lw_okq (⟨"BothToBlame$Reader", "stepLetters", "()V"⟩, 11) := ⟨⟨by decide +kernel, by decide +kernel⟩, List.mem_of_getElem? (i := 24) (by decide +kernel), List.mem_of_getElem? (i := 223) (by decide +kernel), List.mem_of_getElem? (i := 224) (by decide +kernel)⟩
theorem lw_p8 : lw_okq (⟨"BothToBlame$Reader", "stepDigits", "()V"⟩, 11) := ⟨⟨by decide +kernel, by decide +kernel⟩, List.mem_of_getElem? (i := 24) (by decide +kernel), List.mem_of_getElem? (i := 230) (by decide +kernel), List.mem_of_getElem? (i := 231) (by decide +kernel)⟩
theorem lw_p9 : lw_okq (⟨"BothToBlame$Reader", "readLine", "()Z"⟩, 11) := ⟨⟨by decide +kernel, by decide +kernel⟩, List.mem_of_getElem? (i := 24) (by decide +kernel), List.mem_of_getElem? (i := 234) (by decide +kernel), List.mem_of_getElem? (i := 235) (by decide +kernel)⟩
theorem lw_p10 : lw_okq (⟨"BothToBlame$Reader", "fixedWord", "()LBothToBlame$Word;"⟩, 11) := ⟨⟨by decide +kernel, by decide +kernel⟩, List.mem_of_getElem? (i := 24) (by decide +kernel), List.mem_of_getElem? (i := 238) (by decide +kernel), List.mem_of_getElem? (i := 239) (by decide +kernel)⟩
theorem lw_p11 : lw_okq (⟨"BothToBlame$Reader", "fail", "(I)Z"⟩, 11) := ⟨⟨by decide +kernel, by decide +kernel⟩, List.mem_of_getElem? (i := 24) (by decide +kernel), List.mem_of_getElem? (i := 244) (by decide +kernel), List.mem_of_getElem? (i := 245) (by decide +kernel)⟩
theorem lw_p12 : lw_okq (⟨"BothToBlame$Reader", "readShip", "()Z"⟩, 11) := ⟨⟨by decide +kernel, by decide +kernel⟩, List.mem_of_getElem? (i := 24) (by decide +kernel), List.mem_of_getElem? (i := 248) (by decide +kernel), List.mem_of_getElem? (i := 249) (by decide +kernel)⟩
theorem lw_p13 : lw_okq (⟨"BothToBlame$Reader", "isName", "()Z"⟩, 11) := ⟨⟨by decide +kernel, by decide +kernel⟩, List.mem_of_getElem? (i := 24) (by decide +kernel), List.mem_of_getElem? (i := 252) (by decide +kernel), List.mem_of_getElem? (i := 253) (by decide +kernel)⟩
theorem lw_p14 : lw_okq (⟨"BothToBlame$Told", "shipNamed", "(J)I"⟩, 6) := ⟨⟨by decide +kernel, by decide +kernel⟩, List.mem_of_getElem? (i := 30) (by decide +kernel), List.mem_of_getElem? (i := 256) (by decide +kernel), List.mem_of_getElem? (i := 257) (by decide +kernel)⟩
theorem lw_p15 : lw_okq (⟨"BothToBlame$Told", "addShip", "(J)V"⟩, 6) := ⟨⟨by decide +kernel, by decide +kernel⟩, List.mem_of_getElem? (i := 30) (by decide +kernel), List.mem_of_getElem? (i := 260) (by decide +kernel), List.mem_of_getElem? (i := 261) (by decide +kernel)⟩
def lw_privs_1 : List (MethodName × Nat) := [(⟨"BothToBlame", "putBytes", "(I)V"⟩, 12), (⟨"BothToBlame", "none", "(I)I"⟩, 12), (⟨"BothToBlame", "refuse", "(I)Z"⟩, 12), (⟨"BothToBlame$Reader", "read", "(I)I"⟩, 11), (⟨"BothToBlame$Told", "clear", "()V"⟩, 6), (⟨"BothToBlame$Reader", "readLines", "()Z"⟩, 11), (⟨"BothToBlame$Reader", "step", "()V"⟩, 11), (⟨"BothToBlame$Reader", "stepLetters", "()V"⟩, 11), (⟨"BothToBlame$Reader", "stepDigits", "()V"⟩, 11), (⟨"BothToBlame$Reader", "readLine", "()Z"⟩, 11), (⟨"BothToBlame$Reader", "fixedWord", "()LBothToBlame$Word;"⟩, 11), (⟨"BothToBlame$Reader", "fail", "(I)Z"⟩, 11), (⟨"BothToBlame$Reader", "readShip", "()Z"⟩, 11), (⟨"BothToBlame$Reader", "isName", "()Z"⟩, 11), (⟨"BothToBlame$Told", "shipNamed", "(J)I"⟩, 6), (⟨"BothToBlame$Told", "addShip", "(J)V"⟩, 6)]
theorem lw_r1 : ∀ q ∈ lw_privs_1, lw_okq q := List.forall_mem_cons.mpr ⟨lw_p0, List.forall_mem_cons.mpr ⟨lw_p1, List.forall_mem_cons.mpr ⟨lw_p2, List.forall_mem_cons.mpr ⟨lw_p3, List.forall_mem_cons.mpr ⟨lw_p4, List.forall_mem_cons.mpr ⟨lw_p5, List.forall_mem_cons.mpr ⟨lw_p6, List.forall_mem_cons.mpr ⟨lw_p7, List.forall_mem_cons.mpr ⟨lw_p8, List.forall_mem_cons.mpr ⟨lw_p9, List.forall_mem_cons.mpr ⟨lw_p10, List.forall_mem_cons.mpr ⟨lw_p11, List.forall_mem_cons.mpr ⟨lw_p12, List.forall_mem_cons.mpr ⟨lw_p13, List.forall_mem_cons.mpr ⟨lw_p14, List.forall_mem_cons.mpr ⟨lw_p15, fun _ h => absurd h List.not_mem_nil⟩⟩⟩⟩⟩⟩⟩⟩⟩⟩⟩⟩⟩⟩⟩⟩
theorem lw_p16 : lw_okq (⟨"BothToBlame$Told", "setShip", "(III)V"⟩, 6) := ⟨⟨by decide +kernel, by decide +kernel⟩, List.mem_of_getElem? (i := 30) (by decide +kernel), List.mem_of_getElem? (i := 264) (by decide +kernel), List.mem_of_getElem? (i := 265) (by decide +kernel)⟩
theorem lw_p17 : lw_okq (⟨"BothToBlame$Reader", "readColumn", "(LBothToBlame$Word;)Z"⟩, 11) := ⟨⟨by decide +kernel, by decide +kernel⟩, List.mem_of_getElem? (i := 24) (by decide +kernel), List.mem_of_getElem? (i := 270) (by decide +kernel), List.mem_of_getElem? (i := 271) (by decide +kernel)⟩
theorem lw_p18 : lw_okq (⟨"BothToBlame$Reader", "readWord", "(LBothToBlame$Word;)Z"⟩, 11) := ⟨⟨by decide +kernel, by decide +kernel⟩, List.mem_of_getElem? (i := 24) (by decide +kernel), List.mem_of_getElem? (i := 274) (by decide +kernel), List.mem_of_getElem? (i := 275) (by decide +kernel)⟩
theorem lw_p19 : lw_okq (⟨"BothToBlame$Reader", "readWhole", "(II)Z"⟩, 11) := ⟨⟨by decide +kernel, by decide +kernel⟩, List.mem_of_getElem? (i := 24) (by decide +kernel), List.mem_of_getElem? (i := 282) (by decide +kernel), List.mem_of_getElem? (i := 283) (by decide +kernel)⟩
theorem lw_p20 : lw_okq (⟨"BothToBlame$Reader", "readMark", "(LBothToBlame$Word;)V"⟩, 11) := ⟨⟨by decide +kernel, by decide +kernel⟩, List.mem_of_getElem? (i := 24) (by decide +kernel), List.mem_of_getElem? (i := 296) (by decide +kernel), List.mem_of_getElem? (i := 297) (by decide +kernel)⟩
theorem lw_p21 : lw_okq (⟨"BothToBlame$Reader", "readClaim", "(I)Z"⟩, 11) := ⟨⟨by decide +kernel, by decide +kernel⟩, List.mem_of_getElem? (i := 24) (by decide +kernel), List.mem_of_getElem? (i := 302) (by decide +kernel), List.mem_of_getElem? (i := 303) (by decide +kernel)⟩
theorem lw_p22 : lw_okq (⟨"BothToBlame$Told", "addClaim", "(IIII)V"⟩, 6) := ⟨⟨by decide +kernel, by decide +kernel⟩, List.mem_of_getElem? (i := 30) (by decide +kernel), List.mem_of_getElem? (i := 309) (by decide +kernel), List.mem_of_getElem? (i := 310) (by decide +kernel)⟩
theorem lw_p23 : lw_okq (⟨"BothToBlame$Reader", "readLaw", "(I)Z"⟩, 11) := ⟨⟨by decide +kernel, by decide +kernel⟩, List.mem_of_getElem? (i := 24) (by decide +kernel), List.mem_of_getElem? (i := 313) (by decide +kernel), List.mem_of_getElem? (i := 314) (by decide +kernel)⟩
theorem lw_p24 : lw_okq (⟨"BothToBlame$Reader", "fitsTogether", "()Z"⟩, 11) := ⟨⟨by decide +kernel, by decide +kernel⟩, List.mem_of_getElem? (i := 24) (by decide +kernel), List.mem_of_getElem? (i := 321) (by decide +kernel), List.mem_of_getElem? (i := 322) (by decide +kernel)⟩
theorem lw_p25 : lw_okq (⟨"BothToBlame$Told", "faultsTogether", "()I"⟩, 6) := ⟨⟨by decide +kernel, by decide +kernel⟩, List.mem_of_getElem? (i := 30) (by decide +kernel), List.mem_of_getElem? (i := 325) (by decide +kernel), List.mem_of_getElem? (i := 326) (by decide +kernel)⟩
theorem lw_p26 : lw_okq (⟨"BothToBlame$Told", "ofShip", "(II)I"⟩, 6) := ⟨⟨by decide +kernel, by decide +kernel⟩, List.mem_of_getElem? (i := 30) (by decide +kernel), List.mem_of_getElem? (i := 329) (by decide +kernel), List.mem_of_getElem? (i := 330) (by decide +kernel)⟩
theorem lw_p27 : lw_okq (⟨"BothToBlame", "accept", "()V"⟩, 12) := ⟨⟨by decide +kernel, by decide +kernel⟩, List.mem_of_getElem? (i := 16) (by decide +kernel), List.mem_of_getElem? (i := 333) (by decide +kernel), List.mem_of_getElem? (i := 334) (by decide +kernel)⟩
theorem lw_p28 : lw_okq (⟨"BothToBlame$Told", "copyFrom", "(LBothToBlame$Told;)V"⟩, 6) := ⟨⟨by decide +kernel, by decide +kernel⟩, List.mem_of_getElem? (i := 30) (by decide +kernel), List.mem_of_getElem? (i := 337) (by decide +kernel), List.mem_of_getElem? (i := 338) (by decide +kernel)⟩
theorem lw_p29 : lw_okq (⟨"BothToBlame", "forgetActs", "()V"⟩, 12) := ⟨⟨by decide +kernel, by decide +kernel⟩, List.mem_of_getElem? (i := 16) (by decide +kernel), List.mem_of_getElem? (i := 341) (by decide +kernel), List.mem_of_getElem? (i := 342) (by decide +kernel)⟩
theorem lw_p30 : lw_okq (⟨"BothToBlame", "hasText", "()Z"⟩, 12) := ⟨⟨by decide +kernel, by decide +kernel⟩, List.mem_of_getElem? (i := 16) (by decide +kernel), List.mem_of_getElem? (i := 357) (by decide +kernel), List.mem_of_getElem? (i := 358) (by decide +kernel)⟩
theorem lw_p31 : lw_okq (⟨"BothToBlame", "hasShip", "(I)Z"⟩, 12) := ⟨⟨by decide +kernel, by decide +kernel⟩, List.mem_of_getElem? (i := 16) (by decide +kernel), List.mem_of_getElem? (i := 365) (by decide +kernel), List.mem_of_getElem? (i := 366) (by decide +kernel)⟩
def lw_privs_2 : List (MethodName × Nat) := [(⟨"BothToBlame$Told", "setShip", "(III)V"⟩, 6), (⟨"BothToBlame$Reader", "readColumn", "(LBothToBlame$Word;)Z"⟩, 11), (⟨"BothToBlame$Reader", "readWord", "(LBothToBlame$Word;)Z"⟩, 11), (⟨"BothToBlame$Reader", "readWhole", "(II)Z"⟩, 11), (⟨"BothToBlame$Reader", "readMark", "(LBothToBlame$Word;)V"⟩, 11), (⟨"BothToBlame$Reader", "readClaim", "(I)Z"⟩, 11), (⟨"BothToBlame$Told", "addClaim", "(IIII)V"⟩, 6), (⟨"BothToBlame$Reader", "readLaw", "(I)Z"⟩, 11), (⟨"BothToBlame$Reader", "fitsTogether", "()Z"⟩, 11), (⟨"BothToBlame$Told", "faultsTogether", "()I"⟩, 6), (⟨"BothToBlame$Told", "ofShip", "(II)I"⟩, 6), (⟨"BothToBlame", "accept", "()V"⟩, 12), (⟨"BothToBlame$Told", "copyFrom", "(LBothToBlame$Told;)V"⟩, 6), (⟨"BothToBlame", "forgetActs", "()V"⟩, 12), (⟨"BothToBlame", "hasText", "()Z"⟩, 12), (⟨"BothToBlame", "hasShip", "(I)Z"⟩, 12)]
theorem lw_r2 : ∀ q ∈ lw_privs_2, lw_okq q := List.forall_mem_cons.mpr ⟨lw_p16, List.forall_mem_cons.mpr ⟨lw_p17, List.forall_mem_cons.mpr ⟨lw_p18, List.forall_mem_cons.mpr ⟨lw_p19, List.forall_mem_cons.mpr ⟨lw_p20, List.forall_mem_cons.mpr ⟨lw_p21, List.forall_mem_cons.mpr ⟨lw_p22, List.forall_mem_cons.mpr ⟨lw_p23, List.forall_mem_cons.mpr ⟨lw_p24, List.forall_mem_cons.mpr ⟨lw_p25, List.forall_mem_cons.mpr ⟨lw_p26, List.forall_mem_cons.mpr ⟨lw_p27, List.forall_mem_cons.mpr ⟨lw_p28, List.forall_mem_cons.mpr ⟨lw_p29, List.forall_mem_cons.mpr ⟨lw_p30, List.forall_mem_cons.mpr ⟨lw_p31, fun _ h => absurd h List.not_mem_nil⟩⟩⟩⟩⟩⟩⟩⟩⟩⟩⟩⟩⟩⟩⟩⟩
theorem lw_p32 : lw_okq (⟨"BothToBlame$Told", "weightOf", "(I)I"⟩, 6) := ⟨⟨by decide +kernel, by decide +kernel⟩, List.mem_of_getElem? (i := 30) (by decide +kernel), List.mem_of_getElem? (i := 369) (by decide +kernel), List.mem_of_getElem? (i := 370) (by decide +kernel)⟩
theorem lw_p33 : lw_okq (⟨"BothToBlame$Told", "holds", "(I)Z"⟩, 6) := ⟨⟨by decide +kernel, by decide +kernel⟩, List.mem_of_getElem? (i := 30) (by decide +kernel), List.mem_of_getElem? (i := 373) (by decide +kernel), List.mem_of_getElem? (i := 374) (by decide +kernel)⟩
theorem lw_p34 : lw_okq (⟨"BothToBlame", "hasClaim", "(I)Z"⟩, 12) := ⟨⟨by decide +kernel, by decide +kernel⟩, List.mem_of_getElem? (i := 16) (by decide +kernel), List.mem_of_getElem? (i := 385) (by decide +kernel), List.mem_of_getElem? (i := 386) (by decide +kernel)⟩
theorem lw_p35 : lw_okq (⟨"BothToBlame$Told", "roundOf", "(I)I"⟩, 6) := ⟨⟨by decide +kernel, by decide +kernel⟩, List.mem_of_getElem? (i := 30) (by decide +kernel), List.mem_of_getElem? (i := 389) (by decide +kernel), List.mem_of_getElem? (i := 390) (by decide +kernel)⟩
theorem lw_p36 : lw_okq (⟨"BothToBlame$Told", "ofClaim", "(II)I"⟩, 6) := ⟨⟨by decide +kernel, by decide +kernel⟩, List.mem_of_getElem? (i := 30) (by decide +kernel), List.mem_of_getElem? (i := 393) (by decide +kernel), List.mem_of_getElem? (i := 394) (by decide +kernel)⟩
theorem lw_p37 : lw_okq (⟨"BothToBlame", "reckon", "()V"⟩, 12) := ⟨⟨by decide +kernel, by decide +kernel⟩, List.mem_of_getElem? (i := 16) (by decide +kernel), List.mem_of_getElem? (i := 403) (by decide +kernel), List.mem_of_getElem? (i := 404) (by decide +kernel)⟩
theorem lw_p38 : lw_okq (⟨"BothToBlame$Reckoning", "take", "(LBothToBlame$Told;)V"⟩, 7) := ⟨⟨by decide +kernel, by decide +kernel⟩, List.mem_of_getElem? (i := 107) (by decide +kernel), List.mem_of_getElem? (i := 407) (by decide +kernel), List.mem_of_getElem? (i := 408) (by decide +kernel)⟩
theorem lw_p39 : lw_okq (⟨"BothToBlame$Reckoning", "settle", "()V"⟩, 7) := ⟨⟨by decide +kernel, by decide +kernel⟩, List.mem_of_getElem? (i := 107) (by decide +kernel), List.mem_of_getElem? (i := 412) (by decide +kernel), List.mem_of_getElem? (i := 413) (by decide +kernel)⟩
theorem lw_p40 : lw_okq (⟨"BothToBlame$Reckoning", "weigh", "()V"⟩, 7) := ⟨⟨by decide +kernel, by decide +kernel⟩, List.mem_of_getElem? (i := 107) (by decide +kernel), List.mem_of_getElem? (i := 419) (by decide +kernel), List.mem_of_getElem? (i := 420) (by decide +kernel)⟩
theorem lw_p41 : lw_okq (⟨"BothToBlame$Reckoning", "oweClaims", "()V"⟩, 7) := ⟨⟨by decide +kernel, by decide +kernel⟩, List.mem_of_getElem? (i := 107) (by decide +kernel), List.mem_of_getElem? (i := 424) (by decide +kernel), List.mem_of_getElem? (i := 425) (by decide +kernel)⟩
theorem lw_p42 : lw_okq (⟨"BothToBlame$Reckoning", "debt", "(II)J"⟩, 7) := ⟨⟨by decide +kernel, by decide +kernel⟩, List.mem_of_getElem? (i := 107) (by decide +kernel), List.mem_of_getElem? (i := 428) (by decide +kernel), List.mem_of_getElem? (i := 429) (by decide +kernel)⟩
theorem lw_p43 : lw_okq (⟨"BothToBlame$Told", "isGoods", "(I)Z"⟩, 6) := ⟨⟨by decide +kernel, by decide +kernel⟩, List.mem_of_getElem? (i := 30) (by decide +kernel), List.mem_of_getElem? (i := 434) (by decide +kernel), List.mem_of_getElem? (i := 435) (by decide +kernel)⟩
theorem lw_p44 : lw_okq (⟨"BothToBlame$Reckoning", "partOf", "(IJ)J"⟩, 7) := ⟨⟨by decide +kernel, by decide +kernel⟩, List.mem_of_getElem? (i := 107) (by decide +kernel), List.mem_of_getElem? (i := 438) (by decide +kernel), List.mem_of_getElem? (i := 439) (by decide +kernel)⟩
theorem lw_p45 : lw_okq (⟨"BothToBlame$Reckoning", "oweBack", "()V"⟩, 7) := ⟨⟨by decide +kernel, by decide +kernel⟩, List.mem_of_getElem? (i := 107) (by decide +kernel), List.mem_of_getElem? (i := 446) (by decide +kernel), List.mem_of_getElem? (i := 447) (by decide +kernel)⟩
theorem lw_p46 : lw_okq (⟨"BothToBlame$Reckoning", "backFor", "(II)J"⟩, 7) := ⟨⟨by decide +kernel, by decide +kernel⟩, List.mem_of_getElem? (i := 107) (by decide +kernel), List.mem_of_getElem? (i := 450) (by decide +kernel), List.mem_of_getElem? (i := 451) (by decide +kernel)⟩
theorem lw_p47 : lw_okq (⟨"BothToBlame$Reckoning", "owedToClaim", "(II)J"⟩, 7) := ⟨⟨by decide +kernel, by decide +kernel⟩, List.mem_of_getElem? (i := 107) (by decide +kernel), List.mem_of_getElem? (i := 454) (by decide +kernel), List.mem_of_getElem? (i := 455) (by decide +kernel)⟩
def lw_privs_3 : List (MethodName × Nat) := [(⟨"BothToBlame$Told", "weightOf", "(I)I"⟩, 6), (⟨"BothToBlame$Told", "holds", "(I)Z"⟩, 6), (⟨"BothToBlame", "hasClaim", "(I)Z"⟩, 12), (⟨"BothToBlame$Told", "roundOf", "(I)I"⟩, 6), (⟨"BothToBlame$Told", "ofClaim", "(II)I"⟩, 6), (⟨"BothToBlame", "reckon", "()V"⟩, 12), (⟨"BothToBlame$Reckoning", "take", "(LBothToBlame$Told;)V"⟩, 7), (⟨"BothToBlame$Reckoning", "settle", "()V"⟩, 7), (⟨"BothToBlame$Reckoning", "weigh", "()V"⟩, 7), (⟨"BothToBlame$Reckoning", "oweClaims", "()V"⟩, 7), (⟨"BothToBlame$Reckoning", "debt", "(II)J"⟩, 7), (⟨"BothToBlame$Told", "isGoods", "(I)Z"⟩, 6), (⟨"BothToBlame$Reckoning", "partOf", "(IJ)J"⟩, 7), (⟨"BothToBlame$Reckoning", "oweBack", "()V"⟩, 7), (⟨"BothToBlame$Reckoning", "backFor", "(II)J"⟩, 7), (⟨"BothToBlame$Reckoning", "owedToClaim", "(II)J"⟩, 7)]
theorem lw_r3 : ∀ q ∈ lw_privs_3, lw_okq q := List.forall_mem_cons.mpr ⟨lw_p32, List.forall_mem_cons.mpr ⟨lw_p33, List.forall_mem_cons.mpr ⟨lw_p34, List.forall_mem_cons.mpr ⟨lw_p35, List.forall_mem_cons.mpr ⟨lw_p36, List.forall_mem_cons.mpr ⟨lw_p37, List.forall_mem_cons.mpr ⟨lw_p38, List.forall_mem_cons.mpr ⟨lw_p39, List.forall_mem_cons.mpr ⟨lw_p40, List.forall_mem_cons.mpr ⟨lw_p41, List.forall_mem_cons.mpr ⟨lw_p42, List.forall_mem_cons.mpr ⟨lw_p43, List.forall_mem_cons.mpr ⟨lw_p44, List.forall_mem_cons.mpr ⟨lw_p45, List.forall_mem_cons.mpr ⟨lw_p46, List.forall_mem_cons.mpr ⟨lw_p47, fun _ h => absurd h List.not_mem_nil⟩⟩⟩⟩⟩⟩⟩⟩⟩⟩⟩⟩⟩⟩⟩⟩
theorem lw_p48 : lw_okq (⟨"BothToBlame$Reckoning", "oweShips", "()V"⟩, 7) := ⟨⟨by decide +kernel, by decide +kernel⟩, List.mem_of_getElem? (i := 107) (by decide +kernel), List.mem_of_getElem? (i := 458) (by decide +kernel), List.mem_of_getElem? (i := 459) (by decide +kernel)⟩
theorem lw_p49 : lw_okq (⟨"BothToBlame$Reckoning", "crossDebt", "(II)J"⟩, 7) := ⟨⟨by decide +kernel, by decide +kernel⟩, List.mem_of_getElem? (i := 107) (by decide +kernel), List.mem_of_getElem? (i := 462) (by decide +kernel), List.mem_of_getElem? (i := 463) (by decide +kernel)⟩
theorem lw_p50 : lw_okq (⟨"BothToBlame$Reckoning", "hullDebt", "(II)J"⟩, 7) := ⟨⟨by decide +kernel, by decide +kernel⟩, List.mem_of_getElem? (i := 107) (by decide +kernel), List.mem_of_getElem? (i := 466) (by decide +kernel), List.mem_of_getElem? (i := 467) (by decide +kernel)⟩
theorem lw_p51 : lw_okq (⟨"BothToBlame$Reckoning", "backTo", "(II)J"⟩, 7) := ⟨⟨by decide +kernel, by decide +kernel⟩, List.mem_of_getElem? (i := 107) (by decide +kernel), List.mem_of_getElem? (i := 471) (by decide +kernel), List.mem_of_getElem? (i := 472) (by decide +kernel)⟩
theorem lw_p52 : lw_okq (⟨"BothToBlame$Reckoning", "pay", "(I)V"⟩, 7) := ⟨⟨by decide +kernel, by decide +kernel⟩, List.mem_of_getElem? (i := 107) (by decide +kernel), List.mem_of_getElem? (i := 478) (by decide +kernel), List.mem_of_getElem? (i := 479) (by decide +kernel)⟩
theorem lw_p53 : lw_okq (⟨"BothToBlame$Reckoning", "payOutOf", "(II)V"⟩, 7) := ⟨⟨by decide +kernel, by decide +kernel⟩, List.mem_of_getElem? (i := 107) (by decide +kernel), List.mem_of_getElem? (i := 483) (by decide +kernel), List.mem_of_getElem? (i := 484) (by decide +kernel)⟩
theorem lw_p54 : lw_okq (⟨"BothToBlame$Told", "fundOf", "(II)J"⟩, 6) := ⟨⟨by decide +kernel, by decide +kernel⟩, List.mem_of_getElem? (i := 30) (by decide +kernel), List.mem_of_getElem? (i := 487) (by decide +kernel), List.mem_of_getElem? (i := 488) (by decide +kernel)⟩
theorem lw_p55 : lw_okq (⟨"BothToBlame$Told", "fundTons", "(I)J"⟩, 6) := ⟨⟨by decide +kernel, by decide +kernel⟩, List.mem_of_getElem? (i := 30) (by decide +kernel), List.mem_of_getElem? (i := 491) (by decide +kernel), List.mem_of_getElem? (i := 492) (by decide +kernel)⟩
theorem lw_p56 : lw_okq (⟨"BothToBlame$Reckoning", "findLacks", "(III)J"⟩, 7) := ⟨⟨by decide +kernel, by decide +kernel⟩, List.mem_of_getElem? (i := 107) (by decide +kernel), List.mem_of_getElem? (i := 500) (by decide +kernel), List.mem_of_getElem? (i := 501) (by decide +kernel)⟩
theorem lw_p57 : lw_okq (⟨"BothToBlame$Reckoning", "takesPart", "(III)Z"⟩, 7) := ⟨⟨by decide +kernel, by decide +kernel⟩, List.mem_of_getElem? (i := 107) (by decide +kernel), List.mem_of_getElem? (i := 504) (by decide +kernel), List.mem_of_getElem? (i := 505) (by decide +kernel)⟩
theorem lw_p58 : lw_okq (⟨"BothToBlame$Reckoning", "shareScarce", "(IJJ)V"⟩, 7) := ⟨⟨by decide +kernel, by decide +kernel⟩, List.mem_of_getElem? (i := 107) (by decide +kernel), List.mem_of_getElem? (i := 508) (by decide +kernel), List.mem_of_getElem? (i := 509) (by decide +kernel)⟩
theorem lw_p59 : lw_okq (⟨"BothToBlame$Reckoning", "payLacks", "(I)V"⟩, 7) := ⟨⟨by decide +kernel, by decide +kernel⟩, List.mem_of_getElem? (i := 107) (by decide +kernel), List.mem_of_getElem? (i := 512) (by decide +kernel), List.mem_of_getElem? (i := 513) (by decide +kernel)⟩
theorem lw_p60 : lw_okq (⟨"BothToBlame$Reckoning", "owedToShip", "(II)J"⟩, 7) := ⟨⟨by decide +kernel, by decide +kernel⟩, List.mem_of_getElem? (i := 107) (by decide +kernel), List.mem_of_getElem? (i := 529) (by decide +kernel), List.mem_of_getElem? (i := 530) (by decide +kernel)⟩
theorem lw_p61 : lw_okq (⟨"BothToBlame$Reckoning", "backForClaim", "(I)J"⟩, 7) := ⟨⟨by decide +kernel, by decide +kernel⟩, List.mem_of_getElem? (i := 107) (by decide +kernel), List.mem_of_getElem? (i := 537) (by decide +kernel), List.mem_of_getElem? (i := 538) (by decide +kernel)⟩
theorem lw_p62 : lw_okq (⟨"BothToBlame$Reckoning", "paidToClaim", "(II)J"⟩, 7) := ⟨⟨by decide +kernel, by decide +kernel⟩, List.mem_of_getElem? (i := 107) (by decide +kernel), List.mem_of_getElem? (i := 550) (by decide +kernel), List.mem_of_getElem? (i := 551) (by decide +kernel)⟩
theorem lw_p63 : lw_okq (⟨"BothToBlame$Reckoning", "paidToShip", "(II)J"⟩, 7) := ⟨⟨by decide +kernel, by decide +kernel⟩, List.mem_of_getElem? (i := 107) (by decide +kernel), List.mem_of_getElem? (i := 558) (by decide +kernel), List.mem_of_getElem? (i := 559) (by decide +kernel)⟩
def lw_privs_4 : List (MethodName × Nat) := [(⟨"BothToBlame$Reckoning", "oweShips", "()V"⟩, 7), (⟨"BothToBlame$Reckoning", "crossDebt", "(II)J"⟩, 7), (⟨"BothToBlame$Reckoning", "hullDebt", "(II)J"⟩, 7), (⟨"BothToBlame$Reckoning", "backTo", "(II)J"⟩, 7), (⟨"BothToBlame$Reckoning", "pay", "(I)V"⟩, 7), (⟨"BothToBlame$Reckoning", "payOutOf", "(II)V"⟩, 7), (⟨"BothToBlame$Told", "fundOf", "(II)J"⟩, 6), (⟨"BothToBlame$Told", "fundTons", "(I)J"⟩, 6), (⟨"BothToBlame$Reckoning", "findLacks", "(III)J"⟩, 7), (⟨"BothToBlame$Reckoning", "takesPart", "(III)Z"⟩, 7), (⟨"BothToBlame$Reckoning", "shareScarce", "(IJJ)V"⟩, 7), (⟨"BothToBlame$Reckoning", "payLacks", "(I)V"⟩, 7), (⟨"BothToBlame$Reckoning", "owedToShip", "(II)J"⟩, 7), (⟨"BothToBlame$Reckoning", "backForClaim", "(I)J"⟩, 7), (⟨"BothToBlame$Reckoning", "paidToClaim", "(II)J"⟩, 7), (⟨"BothToBlame$Reckoning", "paidToShip", "(II)J"⟩, 7)]
theorem lw_r4 : ∀ q ∈ lw_privs_4, lw_okq q := List.forall_mem_cons.mpr ⟨lw_p48, List.forall_mem_cons.mpr ⟨lw_p49, List.forall_mem_cons.mpr ⟨lw_p50, List.forall_mem_cons.mpr ⟨lw_p51, List.forall_mem_cons.mpr ⟨lw_p52, List.forall_mem_cons.mpr ⟨lw_p53, List.forall_mem_cons.mpr ⟨lw_p54, List.forall_mem_cons.mpr ⟨lw_p55, List.forall_mem_cons.mpr ⟨lw_p56, List.forall_mem_cons.mpr ⟨lw_p57, List.forall_mem_cons.mpr ⟨lw_p58, List.forall_mem_cons.mpr ⟨lw_p59, List.forall_mem_cons.mpr ⟨lw_p60, List.forall_mem_cons.mpr ⟨lw_p61, List.forall_mem_cons.mpr ⟨lw_p62, List.forall_mem_cons.mpr ⟨lw_p63, fun _ h => absurd h List.not_mem_nil⟩⟩⟩⟩⟩⟩⟩⟩⟩⟩⟩⟩⟩⟩⟩⟩
theorem lw_p64 : lw_okq (⟨"BothToBlame$Reckoning", "owedByShip", "(I)J"⟩, 7) := ⟨⟨by decide +kernel, by decide +kernel⟩, List.mem_of_getElem? (i := 107) (by decide +kernel), List.mem_of_getElem? (i := 566) (by decide +kernel), List.mem_of_getElem? (i := 567) (by decide +kernel)⟩
theorem lw_p65 : lw_okq (⟨"BothToBlame$Reckoning", "paidByShip", "(I)J"⟩, 7) := ⟨⟨by decide +kernel, by decide +kernel⟩, List.mem_of_getElem? (i := 107) (by decide +kernel), List.mem_of_getElem? (i := 573) (by decide +kernel), List.mem_of_getElem? (i := 574) (by decide +kernel)⟩
theorem lw_p66 : lw_okq (⟨"BothToBlame$Reckoning", "leftToClaim", "(I)J"⟩, 7) := ⟨⟨by decide +kernel, by decide +kernel⟩, List.mem_of_getElem? (i := 107) (by decide +kernel), List.mem_of_getElem? (i := 585) (by decide +kernel), List.mem_of_getElem? (i := 586) (by decide +kernel)⟩
theorem lw_p67 : lw_okq (⟨"BothToBlame$Reckoning", "paidToClaimByAll", "(I)J"⟩, 7) := ⟨⟨by decide +kernel, by decide +kernel⟩, List.mem_of_getElem? (i := 107) (by decide +kernel), List.mem_of_getElem? (i := 589) (by decide +kernel), List.mem_of_getElem? (i := 590) (by decide +kernel)⟩
theorem lw_p68 : lw_okq (⟨"BothToBlame$Reckoning", "givenBack", "(I)J"⟩, 7) := ⟨⟨by decide +kernel, by decide +kernel⟩, List.mem_of_getElem? (i := 107) (by decide +kernel), List.mem_of_getElem? (i := 594) (by decide +kernel), List.mem_of_getElem? (i := 595) (by decide +kernel)⟩
theorem lw_p69 : lw_okq (⟨"BothToBlame$Reckoning", "coveredOf", "(I)J"⟩, 7) := ⟨⟨by decide +kernel, by decide +kernel⟩, List.mem_of_getElem? (i := 107) (by decide +kernel), List.mem_of_getElem? (i := 605) (by decide +kernel), List.mem_of_getElem? (i := 606) (by decide +kernel)⟩
theorem lw_p70 : lw_okq (⟨"BothToBlame$Reckoning", "paidToPersons", "(I)J"⟩, 7) := ⟨⟨by decide +kernel, by decide +kernel⟩, List.mem_of_getElem? (i := 107) (by decide +kernel), List.mem_of_getElem? (i := 610) (by decide +kernel), List.mem_of_getElem? (i := 611) (by decide +kernel)⟩
theorem lw_p71 : lw_okq (⟨"BothToBlame", "nothing", "(I)J"⟩, 12) := ⟨⟨by decide +kernel, by decide +kernel⟩, List.mem_of_getElem? (i := 16) (by decide +kernel), List.mem_of_getElem? (i := 623) (by decide +kernel), List.mem_of_getElem? (i := 624) (by decide +kernel)⟩
theorem lw_p72 : lw_okq (⟨"BothToBlame$Reckoning", "netOf", "(I)J"⟩, 7) := ⟨⟨by decide +kernel, by decide +kernel⟩, List.mem_of_getElem? (i := 107) (by decide +kernel), List.mem_of_getElem? (i := 628) (by decide +kernel), List.mem_of_getElem? (i := 629) (by decide +kernel)⟩
theorem lw_p73 : lw_okq (⟨"BothToBlame", "netUnder", "(II)J"⟩, 12) := ⟨⟨by decide +kernel, by decide +kernel⟩, List.mem_of_getElem? (i := 16) (by decide +kernel), List.mem_of_getElem? (i := 637) (by decide +kernel), List.mem_of_getElem? (i := 638) (by decide +kernel)⟩
theorem lw_p74 : lw_okq (⟨"BothToBlame$Reckoning", "rateNeeded", "(I)J"⟩, 7) := ⟨⟨by decide +kernel, by decide +kernel⟩, List.mem_of_getElem? (i := 107) (by decide +kernel), List.mem_of_getElem? (i := 653) (by decide +kernel), List.mem_of_getElem? (i := 654) (by decide +kernel)⟩
theorem lw_p75 : lw_okq (⟨"BothToBlame$Reckoning", "owedToPersons", "(I)J"⟩, 7) := ⟨⟨by decide +kernel, by decide +kernel⟩, List.mem_of_getElem? (i := 107) (by decide +kernel), List.mem_of_getElem? (i := 657) (by decide +kernel), List.mem_of_getElem? (i := 658) (by decide +kernel)⟩
theorem lw_p76 : lw_okq (⟨"BothToBlame", "tenthsOfBoth", "(II)I"⟩, 12) := ⟨⟨by decide +kernel, by decide +kernel⟩, List.mem_of_getElem? (i := 16) (by decide +kernel), List.mem_of_getElem? (i := 671) (by decide +kernel), List.mem_of_getElem? (i := 672) (by decide +kernel)⟩
theorem lw_p77 : lw_okq (⟨"BothToBlame", "netWithTenths", "(III)J"⟩, 12) := ⟨⟨by decide +kernel, by decide +kernel⟩, List.mem_of_getElem? (i := 16) (by decide +kernel), List.mem_of_getElem? (i := 675) (by decide +kernel), List.mem_of_getElem? (i := 676) (by decide +kernel)⟩
theorem lw_p78 : lw_okq (⟨"BothToBlame$Told", "drawFaults", "(J)J"⟩, 6) := ⟨⟨by decide +kernel, by decide +kernel⟩, List.mem_of_getElem? (i := 30) (by decide +kernel), List.mem_of_getElem? (i := 691) (by decide +kernel), List.mem_of_getElem? (i := 692) (by decide +kernel)⟩
theorem lw_p79 : lw_okq (⟨"BothToBlame", "beginAct", "()V"⟩, 12) := ⟨⟨by decide +kernel, by decide +kernel⟩, List.mem_of_getElem? (i := 16) (by decide +kernel), List.mem_of_getElem? (i := 706) (by decide +kernel), List.mem_of_getElem? (i := 707) (by decide +kernel)⟩
def lw_privs_5 : List (MethodName × Nat) := [(⟨"BothToBlame$Reckoning", "owedByShip", "(I)J"⟩, 7), (⟨"BothToBlame$Reckoning", "paidByShip", "(I)J"⟩, 7), (⟨"BothToBlame$Reckoning", "leftToClaim", "(I)J"⟩, 7), (⟨"BothToBlame$Reckoning", "paidToClaimByAll", "(I)J"⟩, 7), (⟨"BothToBlame$Reckoning", "givenBack", "(I)J"⟩, 7), (⟨"BothToBlame$Reckoning", "coveredOf", "(I)J"⟩, 7), (⟨"BothToBlame$Reckoning", "paidToPersons", "(I)J"⟩, 7), (⟨"BothToBlame", "nothing", "(I)J"⟩, 12), (⟨"BothToBlame$Reckoning", "netOf", "(I)J"⟩, 7), (⟨"BothToBlame", "netUnder", "(II)J"⟩, 12), (⟨"BothToBlame$Reckoning", "rateNeeded", "(I)J"⟩, 7), (⟨"BothToBlame$Reckoning", "owedToPersons", "(I)J"⟩, 7), (⟨"BothToBlame", "tenthsOfBoth", "(II)I"⟩, 12), (⟨"BothToBlame", "netWithTenths", "(III)J"⟩, 12), (⟨"BothToBlame$Told", "drawFaults", "(J)J"⟩, 6), (⟨"BothToBlame", "beginAct", "()V"⟩, 12)]
theorem lw_r5 : ∀ q ∈ lw_privs_5, lw_okq q := List.forall_mem_cons.mpr ⟨lw_p64, List.forall_mem_cons.mpr ⟨lw_p65, List.forall_mem_cons.mpr ⟨lw_p66, List.forall_mem_cons.mpr ⟨lw_p67, List.forall_mem_cons.mpr ⟨lw_p68, List.forall_mem_cons.mpr ⟨lw_p69, List.forall_mem_cons.mpr ⟨lw_p70, List.forall_mem_cons.mpr ⟨lw_p71, List.forall_mem_cons.mpr ⟨lw_p72, List.forall_mem_cons.mpr ⟨lw_p73, List.forall_mem_cons.mpr ⟨lw_p74, List.forall_mem_cons.mpr ⟨lw_p75, List.forall_mem_cons.mpr ⟨lw_p76, List.forall_mem_cons.mpr ⟨lw_p77, List.forall_mem_cons.mpr ⟨lw_p78, List.forall_mem_cons.mpr ⟨lw_p79, fun _ h => absurd h List.not_mem_nil⟩⟩⟩⟩⟩⟩⟩⟩⟩⟩⟩⟩⟩⟩⟩⟩
theorem lw_p80 : lw_okq (⟨"BothToBlame$Told", "dropClaim", "(I)V"⟩, 6) := ⟨⟨by decide +kernel, by decide +kernel⟩, List.mem_of_getElem? (i := 30) (by decide +kernel), List.mem_of_getElem? (i := 720) (by decide +kernel), List.mem_of_getElem? (i := 721) (by decide +kernel)⟩
theorem lw_p81 : lw_okq (⟨"java/lang/Throwable", "fillInStackTrace", "(I)Ljava/lang/Throwable;"⟩, 6) := ⟨⟨by decide +kernel, by decide +kernel⟩, List.mem_of_getElem? (i := 800) (by decide +kernel), List.mem_of_getElem? (i := 798) (by decide +kernel), List.mem_of_getElem? (i := 799) (by decide +kernel)⟩
theorem lw_p82 : lw_okq (⟨"BothToBlameModel", "begins", "()V"⟩, 30) := ⟨⟨by decide +kernel, by decide +kernel⟩, List.mem_of_getElem? (i := 825) (by decide +kernel), List.mem_of_getElem? (i := 938) (by decide +kernel), List.mem_of_getElem? (i := 939) (by decide +kernel)⟩
theorem lw_p83 : lw_okq (⟨"BothToBlameModel", "refuse", "(ZI)Z"⟩, 30) := ⟨⟨by decide +kernel, by decide +kernel⟩, List.mem_of_getElem? (i := 825) (by decide +kernel), List.mem_of_getElem? (i := 945) (by decide +kernel), List.mem_of_getElem? (i := 946) (by decide +kernel)⟩
theorem lw_p84 : lw_okq (⟨"BothToBlameModel", "reads", "(I)V"⟩, 30) := ⟨⟨by decide +kernel, by decide +kernel⟩, List.mem_of_getElem? (i := 825) (by decide +kernel), List.mem_of_getElem? (i := 949) (by decide +kernel), List.mem_of_getElem? (i := 950) (by decide +kernel)⟩
theorem lw_p85 : lw_okq (⟨"BothToBlameModel", "plain", "()V"⟩, 30) := ⟨⟨by decide +kernel, by decide +kernel⟩, List.mem_of_getElem? (i := 825) (by decide +kernel), List.mem_of_getElem? (i := 953) (by decide +kernel), List.mem_of_getElem? (i := 954) (by decide +kernel)⟩
theorem lw_p86 : lw_okq (⟨"BothToBlameModel", "token", "()V"⟩, 30) := ⟨⟨by decide +kernel, by decide +kernel⟩, List.mem_of_getElem? (i := 825) (by decide +kernel), List.mem_of_getElem? (i := 957) (by decide +kernel), List.mem_of_getElem? (i := 958) (by decide +kernel)⟩
theorem lw_p87 : lw_okq (⟨"BothToBlameModel", "seen", "(I)I"⟩, 30) := ⟨⟨by decide +kernel, by decide +kernel⟩, List.mem_of_getElem? (i := 825) (by decide +kernel), List.mem_of_getElem? (i := 961) (by decide +kernel), List.mem_of_getElem? (i := 962) (by decide +kernel)⟩
theorem lw_p88 : lw_okq (⟨"BothToBlameModel", "line", "()V"⟩, 30) := ⟨⟨by decide +kernel, by decide +kernel⟩, List.mem_of_getElem? (i := 825) (by decide +kernel), List.mem_of_getElem? (i := 973) (by decide +kernel), List.mem_of_getElem? (i := 974) (by decide +kernel)⟩
theorem lw_p89 : lw_okq (⟨"BothToBlameModel", "aboutHere", "()I"⟩, 30) := ⟨⟨by decide +kernel, by decide +kernel⟩, List.mem_of_getElem? (i := 825) (by decide +kernel), List.mem_of_getElem? (i := 977) (by decide +kernel), List.mem_of_getElem? (i := 978) (by decide +kernel)⟩
theorem lw_p90 : lw_okq (⟨"BothToBlameModel", "isWord", "(J)Z"⟩, 30) := ⟨⟨by decide +kernel, by decide +kernel⟩, List.mem_of_getElem? (i := 825) (by decide +kernel), List.mem_of_getElem? (i := 987) (by decide +kernel), List.mem_of_getElem? (i := 988) (by decide +kernel)⟩
theorem lw_p91 : lw_okq (⟨"BothToBlameModel", "shipLine", "()V"⟩, 30) := ⟨⟨by decide +kernel, by decide +kernel⟩, List.mem_of_getElem? (i := 825) (by decide +kernel), List.mem_of_getElem? (i := 994) (by decide +kernel), List.mem_of_getElem? (i := 995) (by decide +kernel)⟩
theorem lw_p92 : lw_okq (⟨"BothToBlameModel", "fails", "(I)V"⟩, 30) := ⟨⟨by decide +kernel, by decide +kernel⟩, List.mem_of_getElem? (i := 825) (by decide +kernel), List.mem_of_getElem? (i := 998) (by decide +kernel), List.mem_of_getElem? (i := 999) (by decide +kernel)⟩
theorem lw_p93 : lw_okq (⟨"BothToBlameModel", "goesOn", "()V"⟩, 30) := ⟨⟨by decide +kernel, by decide +kernel⟩, List.mem_of_getElem? (i := 825) (by decide +kernel), List.mem_of_getElem? (i := 1002) (by decide +kernel), List.mem_of_getElem? (i := 1003) (by decide +kernel)⟩
theorem lw_p94 : lw_okq (⟨"BothToBlameModel", "isName", "()Z"⟩, 30) := ⟨⟨by decide +kernel, by decide +kernel⟩, List.mem_of_getElem? (i := 825) (by decide +kernel), List.mem_of_getElem? (i := 1006) (by decide +kernel), List.mem_of_getElem? (i := 1007) (by decide +kernel)⟩
theorem lw_p95 : lw_okq (⟨"BothToBlameModel", "shipNamed", "()I"⟩, 30) := ⟨⟨by decide +kernel, by decide +kernel⟩, List.mem_of_getElem? (i := 825) (by decide +kernel), List.mem_of_getElem? (i := 1037) (by decide +kernel), List.mem_of_getElem? (i := 1038) (by decide +kernel)⟩
def lw_privs_6 : List (MethodName × Nat) := [(⟨"BothToBlame$Told", "dropClaim", "(I)V"⟩, 6), (⟨"java/lang/Throwable", "fillInStackTrace", "(I)Ljava/lang/Throwable;"⟩, 6), (⟨"BothToBlameModel", "begins", "()V"⟩, 30), (⟨"BothToBlameModel", "refuse", "(ZI)Z"⟩, 30), (⟨"BothToBlameModel", "reads", "(I)V"⟩, 30), (⟨"BothToBlameModel", "plain", "()V"⟩, 30), (⟨"BothToBlameModel", "token", "()V"⟩, 30), (⟨"BothToBlameModel", "seen", "(I)I"⟩, 30), (⟨"BothToBlameModel", "line", "()V"⟩, 30), (⟨"BothToBlameModel", "aboutHere", "()I"⟩, 30), (⟨"BothToBlameModel", "isWord", "(J)Z"⟩, 30), (⟨"BothToBlameModel", "shipLine", "()V"⟩, 30), (⟨"BothToBlameModel", "fails", "(I)V"⟩, 30), (⟨"BothToBlameModel", "goesOn", "()V"⟩, 30), (⟨"BothToBlameModel", "isName", "()Z"⟩, 30), (⟨"BothToBlameModel", "shipNamed", "()I"⟩, 30)]
theorem lw_r6 : ∀ q ∈ lw_privs_6, lw_okq q := List.forall_mem_cons.mpr ⟨lw_p80, List.forall_mem_cons.mpr ⟨lw_p81, List.forall_mem_cons.mpr ⟨lw_p82, List.forall_mem_cons.mpr ⟨lw_p83, List.forall_mem_cons.mpr ⟨lw_p84, List.forall_mem_cons.mpr ⟨lw_p85, List.forall_mem_cons.mpr ⟨lw_p86, List.forall_mem_cons.mpr ⟨lw_p87, List.forall_mem_cons.mpr ⟨lw_p88, List.forall_mem_cons.mpr ⟨lw_p89, List.forall_mem_cons.mpr ⟨lw_p90, List.forall_mem_cons.mpr ⟨lw_p91, List.forall_mem_cons.mpr ⟨lw_p92, List.forall_mem_cons.mpr ⟨lw_p93, List.forall_mem_cons.mpr ⟨lw_p94, List.forall_mem_cons.mpr ⟨lw_p95, fun _ h => absurd h List.not_mem_nil⟩⟩⟩⟩⟩⟩⟩⟩⟩⟩⟩⟩⟩⟩⟩⟩
theorem lw_p96 : lw_okq (⟨"BothToBlameModel", "takes", "(J)V"⟩, 30) := ⟨⟨by decide +kernel, by decide +kernel⟩, List.mem_of_getElem? (i := 825) (by decide +kernel), List.mem_of_getElem? (i := 1041) (by decide +kernel), List.mem_of_getElem? (i := 1042) (by decide +kernel)⟩
theorem lw_p97 : lw_okq (⟨"BothToBlameModel", "whole", "(II)I"⟩, 30) := ⟨⟨by decide +kernel, by decide +kernel⟩, List.mem_of_getElem? (i := 825) (by decide +kernel), List.mem_of_getElem? (i := 1046) (by decide +kernel), List.mem_of_getElem? (i := 1047) (by decide +kernel)⟩
theorem lw_p98 : lw_okq (⟨"BothToBlameModel", "claimLine", "(I)V"⟩, 30) := ⟨⟨by decide +kernel, by decide +kernel⟩, List.mem_of_getElem? (i := 825) (by decide +kernel), List.mem_of_getElem? (i := 1051) (by decide +kernel), List.mem_of_getElem? (i := 1052) (by decide +kernel)⟩
theorem lw_p99 : lw_okq (⟨"BothToBlameModel", "aboutLine", "(I)V"⟩, 30) := ⟨⟨by decide +kernel, by decide +kernel⟩, List.mem_of_getElem? (i := 825) (by decide +kernel), List.mem_of_getElem? (i := 1058) (by decide +kernel), List.mem_of_getElem? (i := 1059) (by decide +kernel)⟩
theorem lw_p100 : lw_okq (⟨"BothToBlameModel", "tenths", "()I"⟩, 30) := ⟨⟨by decide +kernel, by decide +kernel⟩, List.mem_of_getElem? (i := 825) (by decide +kernel), List.mem_of_getElem? (i := 1068) (by decide +kernel), List.mem_of_getElem? (i := 1069) (by decide +kernel)⟩
theorem lw_p101 : lw_okq (⟨"BothToBlameModel", "isShip", "(I)Z"⟩, 30) := ⟨⟨by decide +kernel, by decide +kernel⟩, List.mem_of_getElem? (i := 825) (by decide +kernel), List.mem_of_getElem? (i := 1093) (by decide +kernel), List.mem_of_getElem? (i := 1094) (by decide +kernel)⟩
theorem lw_p102 : lw_okq (⟨"BothToBlameModel", "isClaim", "(I)Z"⟩, 30) := ⟨⟨by decide +kernel, by decide +kernel⟩, List.mem_of_getElem? (i := 825) (by decide +kernel), List.mem_of_getElem? (i := 1108) (by decide +kernel), List.mem_of_getElem? (i := 1109) (by decide +kernel)⟩
theorem lw_p103 : lw_okq (⟨"BothToBlameModel", "laysPaid", "()V"⟩, 30) := ⟨⟨by decide +kernel, by decide +kernel⟩, List.mem_of_getElem? (i := 825) (by decide +kernel), List.mem_of_getElem? (i := 1187) (by decide +kernel), List.mem_of_getElem? (i := 1188) (by decide +kernel)⟩
theorem lw_p104 : lw_okq (⟨"BothToBlameModel", "lays", "()V"⟩, 30) := ⟨⟨by decide +kernel, by decide +kernel⟩, List.mem_of_getElem? (i := 825) (by decide +kernel), List.mem_of_getElem? (i := 1191) (by decide +kernel), List.mem_of_getElem? (i := 1192) (by decide +kernel)⟩
theorem lw_p105 : lw_okq (⟨"BothToBlameModel", "paysAll", "()V"⟩, 30) := ⟨⟨by decide +kernel, by decide +kernel⟩, List.mem_of_getElem? (i := 825) (by decide +kernel), List.mem_of_getElem? (i := 1195) (by decide +kernel), List.mem_of_getElem? (i := 1196) (by decide +kernel)⟩
theorem lw_p106 : lw_okq (⟨"BothToBlameModel", "paysOne", "(I)V"⟩, 30) := ⟨⟨by decide +kernel, by decide +kernel⟩, List.mem_of_getElem? (i := 825) (by decide +kernel), List.mem_of_getElem? (i := 1199) (by decide +kernel), List.mem_of_getElem? (i := 1200) (by decide +kernel)⟩
theorem lw_p107 : lw_okq (⟨"BothToBlameModel", "clears", "([J)V"⟩, 30) := ⟨⟨by decide +kernel, by decide +kernel⟩, List.mem_of_getElem? (i := 825) (by decide +kernel), List.mem_of_getElem? (i := 1203) (by decide +kernel), List.mem_of_getElem? (i := 1204) (by decide +kernel)⟩
theorem lw_p108 : lw_okq (⟨"BothToBlameModel", "sharesLives", "(I)V"⟩, 30) := ⟨⟨by decide +kernel, by decide +kernel⟩, List.mem_of_getElem? (i := 825) (by decide +kernel), List.mem_of_getElem? (i := 1207) (by decide +kernel), List.mem_of_getElem? (i := 1208) (by decide +kernel)⟩
theorem lw_p109 : lw_okq (⟨"BothToBlameModel", "owesPersons", "(II)V"⟩, 30) := ⟨⟨by decide +kernel, by decide +kernel⟩, List.mem_of_getElem? (i := 825) (by decide +kernel), List.mem_of_getElem? (i := 1211) (by decide +kernel), List.mem_of_getElem? (i := 1212) (by decide +kernel)⟩
theorem lw_p110 : lw_okq (⟨"BothToBlameModel", "shares", "(J)J"⟩, 30) := ⟨⟨by decide +kernel, by decide +kernel⟩, List.mem_of_getElem? (i := 825) (by decide +kernel), List.mem_of_getElem? (i := 1215) (by decide +kernel), List.mem_of_getElem? (i := 1216) (by decide +kernel)⟩
theorem lw_p111 : lw_okq (⟨"BothToBlameModel", "owesAll", "(II)V"⟩, 30) := ⟨⟨by decide +kernel, by decide +kernel⟩, List.mem_of_getElem? (i := 825) (by decide +kernel), List.mem_of_getElem? (i := 1219) (by decide +kernel), List.mem_of_getElem? (i := 1220) (by decide +kernel)⟩
def lw_privs_7 : List (MethodName × Nat) := [(⟨"BothToBlameModel", "takes", "(J)V"⟩, 30), (⟨"BothToBlameModel", "whole", "(II)I"⟩, 30), (⟨"BothToBlameModel", "claimLine", "(I)V"⟩, 30), (⟨"BothToBlameModel", "aboutLine", "(I)V"⟩, 30), (⟨"BothToBlameModel", "tenths", "()I"⟩, 30), (⟨"BothToBlameModel", "isShip", "(I)Z"⟩, 30), (⟨"BothToBlameModel", "isClaim", "(I)Z"⟩, 30), (⟨"BothToBlameModel", "laysPaid", "()V"⟩, 30), (⟨"BothToBlameModel", "lays", "()V"⟩, 30), (⟨"BothToBlameModel", "paysAll", "()V"⟩, 30), (⟨"BothToBlameModel", "paysOne", "(I)V"⟩, 30), (⟨"BothToBlameModel", "clears", "([J)V"⟩, 30), (⟨"BothToBlameModel", "sharesLives", "(I)V"⟩, 30), (⟨"BothToBlameModel", "owesPersons", "(II)V"⟩, 30), (⟨"BothToBlameModel", "shares", "(J)J"⟩, 30), (⟨"BothToBlameModel", "owesAll", "(II)V"⟩, 30)]
theorem lw_r7 : ∀ q ∈ lw_privs_7, lw_okq q := List.forall_mem_cons.mpr ⟨lw_p96, List.forall_mem_cons.mpr ⟨lw_p97, List.forall_mem_cons.mpr ⟨lw_p98, List.forall_mem_cons.mpr ⟨lw_p99, List.forall_mem_cons.mpr ⟨lw_p100, List.forall_mem_cons.mpr ⟨lw_p101, List.forall_mem_cons.mpr ⟨lw_p102, List.forall_mem_cons.mpr ⟨lw_p103, List.forall_mem_cons.mpr ⟨lw_p104, List.forall_mem_cons.mpr ⟨lw_p105, List.forall_mem_cons.mpr ⟨lw_p106, List.forall_mem_cons.mpr ⟨lw_p107, List.forall_mem_cons.mpr ⟨lw_p108, List.forall_mem_cons.mpr ⟨lw_p109, List.forall_mem_cons.mpr ⟨lw_p110, List.forall_mem_cons.mpr ⟨lw_p111, fun _ h => absurd h List.not_mem_nil⟩⟩⟩⟩⟩⟩⟩⟩⟩⟩⟩⟩⟩⟩⟩⟩
theorem lw_p112 : lw_okq (⟨"BothToBlameModel", "owedBy", "(I)J"⟩, 30) := ⟨⟨by decide +kernel, by decide +kernel⟩, List.mem_of_getElem? (i := 825) (by decide +kernel), List.mem_of_getElem? (i := 1231) (by decide +kernel), List.mem_of_getElem? (i := 1232) (by decide +kernel)⟩
theorem lw_p113 : lw_okq (⟨"BothToBlameModel", "paidBy", "(I)J"⟩, 30) := ⟨⟨by decide +kernel, by decide +kernel⟩, List.mem_of_getElem? (i := 825) (by decide +kernel), List.mem_of_getElem? (i := 1235) (by decide +kernel), List.mem_of_getElem? (i := 1236) (by decide +kernel)⟩
theorem lw_p114 : lw_okq (⟨"BothToBlameModel", "paidTo", "(I)J"⟩, 30) := ⟨⟨by decide +kernel, by decide +kernel⟩, List.mem_of_getElem? (i := 825) (by decide +kernel), List.mem_of_getElem? (i := 1248) (by decide +kernel), List.mem_of_getElem? (i := 1249) (by decide +kernel)⟩
theorem lw_p115 : lw_okq (⟨"BothToBlameModel", "givenOf", "(I)J"⟩, 30) := ⟨⟨by decide +kernel, by decide +kernel⟩, List.mem_of_getElem? (i := 825) (by decide +kernel), List.mem_of_getElem? (i := 1252) (by decide +kernel), List.mem_of_getElem? (i := 1253) (by decide +kernel)⟩
theorem lw_p116 : lw_okq (⟨"BothToBlameModel", "netOf", "(I)J"⟩, 30) := ⟨⟨by decide +kernel, by decide +kernel⟩, List.mem_of_getElem? (i := 825) (by decide +kernel), List.mem_of_getElem? (i := 1265) (by decide +kernel), List.mem_of_getElem? (i := 1266) (by decide +kernel)⟩
theorem lw_p117 : lw_okq (⟨"BothToBlameModel", "netWith", "(II)J"⟩, 30) := ⟨⟨by decide +kernel, by decide +kernel⟩, List.mem_of_getElem? (i := 825) (by decide +kernel), List.mem_of_getElem? (i := 1274) (by decide +kernel), List.mem_of_getElem? (i := 1275) (by decide +kernel)⟩
theorem lw_p118 : lw_okq (⟨"BothToBlameModel", "neededOf", "(I)J"⟩, 30) := ⟨⟨by decide +kernel, by decide +kernel⟩, List.mem_of_getElem? (i := 825) (by decide +kernel), List.mem_of_getElem? (i := 1290) (by decide +kernel), List.mem_of_getElem? (i := 1291) (by decide +kernel)⟩
theorem lw_p119 : lw_okq (⟨"BothToBlameModel", "netShifted", "(III)J"⟩, 30) := ⟨⟨by decide +kernel, by decide +kernel⟩, List.mem_of_getElem? (i := 825) (by decide +kernel), List.mem_of_getElem? (i := 1299) (by decide +kernel), List.mem_of_getElem? (i := 1300) (by decide +kernel)⟩
theorem lw_p120 : lw_okq (⟨"BothToBlameModel", "netJudged", "(I)J"⟩, 30) := ⟨⟨by decide +kernel, by decide +kernel⟩, List.mem_of_getElem? (i := 825) (by decide +kernel), List.mem_of_getElem? (i := 1315) (by decide +kernel), List.mem_of_getElem? (i := 1316) (by decide +kernel)⟩
theorem lw_p121 : lw_okq (⟨"BothToBlameModel", "draw", "(I)I"⟩, 30) := ⟨⟨by decide +kernel, by decide +kernel⟩, List.mem_of_getElem? (i := 825) (by decide +kernel), List.mem_of_getElem? (i := 1319) (by decide +kernel), List.mem_of_getElem? (i := 1320) (by decide +kernel)⟩
theorem lw_p122 : lw_okq (⟨"BothToBlameModel", "keeps", "()V"⟩, 30) := ⟨⟨by decide +kernel, by decide +kernel⟩, List.mem_of_getElem? (i := 825) (by decide +kernel), List.mem_of_getElem? (i := 1333) (by decide +kernel), List.mem_of_getElem? (i := 1334) (by decide +kernel)⟩
def lw_privs_8 : List (MethodName × Nat) := [(⟨"BothToBlameModel", "owedBy", "(I)J"⟩, 30), (⟨"BothToBlameModel", "paidBy", "(I)J"⟩, 30), (⟨"BothToBlameModel", "paidTo", "(I)J"⟩, 30), (⟨"BothToBlameModel", "givenOf", "(I)J"⟩, 30), (⟨"BothToBlameModel", "netOf", "(I)J"⟩, 30), (⟨"BothToBlameModel", "netWith", "(II)J"⟩, 30), (⟨"BothToBlameModel", "neededOf", "(I)J"⟩, 30), (⟨"BothToBlameModel", "netShifted", "(III)J"⟩, 30), (⟨"BothToBlameModel", "netJudged", "(I)J"⟩, 30), (⟨"BothToBlameModel", "draw", "(I)I"⟩, 30), (⟨"BothToBlameModel", "keeps", "()V"⟩, 30)]
theorem lw_r8 : ∀ q ∈ lw_privs_8, lw_okq q := List.forall_mem_cons.mpr ⟨lw_p112, List.forall_mem_cons.mpr ⟨lw_p113, List.forall_mem_cons.mpr ⟨lw_p114, List.forall_mem_cons.mpr ⟨lw_p115, List.forall_mem_cons.mpr ⟨lw_p116, List.forall_mem_cons.mpr ⟨lw_p117, List.forall_mem_cons.mpr ⟨lw_p118, List.forall_mem_cons.mpr ⟨lw_p119, List.forall_mem_cons.mpr ⟨lw_p120, List.forall_mem_cons.mpr ⟨lw_p121, List.forall_mem_cons.mpr ⟨lw_p122, fun _ h => absurd h List.not_mem_nil⟩⟩⟩⟩⟩⟩⟩⟩⟩⟩⟩
def lw_privs : List (MethodName × Nat) := lw_privs_1 ++ (lw_privs_2 ++ (lw_privs_3 ++ (lw_privs_4 ++ (lw_privs_5 ++ (lw_privs_6 ++ (lw_privs_7 ++ (lw_privs_8)))))))
def lw_tbl : List Cond := k2_sels lw_privs ++ tables_1
theorem lw_privs_ok : ∀ q ∈ lw_privs, lw_okq q := by
  show ∀ q ∈ lw_privs_1 ++ (lw_privs_2 ++ (lw_privs_3 ++ (lw_privs_4 ++ (lw_privs_5 ++ (lw_privs_6 ++ (lw_privs_7 ++ (lw_privs_8))))))), lw_okq q
  exact List.forall_mem_append.mpr ⟨lw_r1, List.forall_mem_append.mpr ⟨lw_r2, List.forall_mem_append.mpr ⟨lw_r3, List.forall_mem_append.mpr ⟨lw_r4, List.forall_mem_append.mpr ⟨lw_r5, List.forall_mem_append.mpr ⟨lw_r6, List.forall_mem_append.mpr ⟨lw_r7, lw_r8⟩⟩⟩⟩⟩⟩⟩
-- ===== end of PART A; then your names; then what follows =====
end
section
/-! ===== BEGIN words of one list among another's, by their places ===== -/
theorem goodIn_r {big : List Cond} (ws : List Cond) (ps : List Nat) (hp : ws = ps.filterMap (fun i => big[i]?)) (h : ws.all goodWord = true) : GoodIn big ws := by
  intro w hw
  have h1 := List.all_eq_true.mp h w hw
  rw [hp] at hw
  obtain ⟨i, -, hi⟩ := List.mem_filterMap.mp hw
  have hm : w ∈ big := by first | exact List.mem_of_getElem? hi | exact List.getElem?_mem hi
  exact ⟨hm, good_of_word h1⟩
theorem goodIn_app {big a b : List Cond} (ha : GoodIn big a) (hb : GoodIn big b) : GoodIn big (a ++ b) := fun w h => (List.mem_append.mp h).elim (ha w) (hb w)
theorem goodIn_ca {big a b : List Cond} {c : Cond} (ha : GoodIn big (c :: a)) (hb : GoodIn big b) : GoodIn big (c :: (a ++ b)) := fun w h => (List.mem_cons.mp h).elim (fun e => ha w (List.mem_cons.mpr (Or.inl e))) (fun h => (List.mem_append.mp h).elim (fun h => ha w (List.mem_cons.mpr (Or.inr h))) (hb w))
theorem goodIn_sub {big ws : List Cond} (hm : ∀ w ∈ ws, w ∈ big) (h : ws.all goodWord = true) : GoodIn big ws := fun w hw => ⟨hm w hw, good_of_word (List.all_eq_true.mp h w hw)⟩
/-! ===== END ===== -/

/-! ===== BEGIN exceptions that leave a method, and their catching by the caller (launches without stack traces) ===== -/
section VXA
/-! The laws vx_back, vx_callV, vx_callS, vx_callSW, vx_throw0, vx_throwS follow proofs of the library, with one case more: JvmDerived/Free/Laws.lean (Back.of_free), Shelf42/LK1.lean (callV, callS), Shelf/KitTraced.lean (throwNew0V, throwNewS). -/
/-- where a method has thrown q: the class by its name, the cell, what was written, the world -/
def vx_T (XC : String → State → State → Prop) (st : State) (q : Addr) (t : State) (mc ms : Nat) (free : Addr → Prop) : Prop :=
  ∃ (E : String) (ce : Cell) (L : List Loc), XC E st t ∧ t.heap[q]? = some ce ∧ ce.vm = .none ∧ st.vm.findClass E = some ce.cls ∧ st.WarmedH t.vm ∧ st.sameButNew ({ t with vm := st.vm } : State) L mc ms ∧ ∀ z ∈ L, free z.base
def vx_Q (Qc : Array Value → State → Outcome → State → Prop) (XC : String → State → State → Prop) (mc ms : Nat) (free : Addr → Prop) : Array Value → State → Outcome → State → Prop := fun a st o t =>
  (Qc a st o t ∧ ∃ L, FrameEnd st o t L mc ms ∧ ∀ q ∈ L, free q.base) ∨ ∃ q, o = .threw q ∧ vx_T XC st q t mc ms free
/-- a callee that returns or throws -/
def vx_Met (l : Launch) (y : MethodName) (ws : List Cond) (rm : Room) (Pc : Array Value → State → Prop) (Qc : Array Value → State → Outcome → State → Prop) (XC : String → State → State → Prop) (mc ms : Nat) (free : Addr → Prop) : Prop :=
  MetFree l y (headSpec ws rm) Pc (fun _ _ _ _ _ => True) (vx_Q Qc XC mc ms free)
def vx_Post (XC : String → State → State → Prop) (mc ms : Nat) (free : Addr → Prop) : Pt → Array Value → Addr → Pt → Prop := fun A a q B =>
  ∃ (g : JFrame) (mk : MethodId) (t : State) (L : List Loc) (E : String) (ce : Cell), B.U.heap = t.heap ∧ B.U.vm = t.vm ∧ XC E (A.U.calling g mk a) t ∧ t.heap[q]? = some ce ∧ ce.vm = .none ∧ A.U.vm.findClass E = some ce.cls ∧ B.locs = A.locs ++ L ∧ (∀ z ∈ L, free z.base) ∧ B.cells = A.cells + mc ∧ B.slots = A.slots + ms
def vx_Back (l : Launch) (R : Room) (p : Program) (e : Env) (below : List Frame) (s : State) (sargs : Array Value) (y : MethodName) (len W9 : Nat)
    (Pre : Pt → Array Value → Prop) (Post : Pt → Array Value → Option Value → Pt → Prop) (PostX : Pt → Array Value → Addr → Pt → Prop) : Prop :=
  ∀ (m : MethodId) (meth : Method) (c : Code) (A : Pt) (g : JFrame) (ig : Instr) (mk : MethodId) (a : Array Value),
    Stand p l e R s m sargs below meth c A.U A.locs A.cells A.slots → g.method = m → g.locals.size = c.maxLocals → decode c.code g.pc = .ok (ig, len) →
    2 * g.monitorRoom + (g.stack.map fun v => v.category).sum ≤ W9 → A.U.methodNamed? y = some mk → Pre A a →
    (∃ (v : Option Value) (B : Pt), Stand p l e R s m sargs below meth c B.U B.locs B.cells B.slots ∧ Post A a v B ∧
      Steps p.tables e below (doInvoke e (A.U.setTop g) [] mk a).1 (B.U.setTop { g with pc := g.pc + len, stack := v.toList ++ g.stack })) ∨
    (∃ (q : Addr) (B : Pt), Stand p l e R s m sargs below meth c B.U B.locs B.cells B.slots ∧ PostX A a q B ∧
      Steps p.tables e below (doInvoke e (A.U.setTop g) [] mk a).1 ((B.U.setTop g).pushFrame (.throwing q)))
section Payer
variable {l : Launch} {R : Room} {p : Program} {e : Env} {below : List Frame} {s : State} {sargs : Array Value} {y : MethodName} {len W9 : Nat}
theorem vx_back {ws : List Cond} {rm : Room} {Pc : Array Value → State → Prop} {Qc : Array Value → State → Outcome → State → Prop} {XC : String → State → State → Prop} {mc ms : Nat} {free : Addr → Prop} {bytes : ByteArray} {maxL : Nat} {ret : Option FieldType}
    (hM : vx_Met l y ws rm Pc Qc XC mc ms free) (hblind : FrameBlind Pc) (hrc : rm.cells = mc) (hrs : rm.slots = ms)
    (hframes : rm.frames + 1 ≤ R.frames) (hlocals : W9 + (maxL + 11) + rm.locals ≤ R.locals)
    (hws : ∀ w ∈ ws, ∀ a' U, s.WarmedH U.vm → w.before a' U = true) (hcode : Cond.code y bytes maxL ret ∈ ws) (hinit : ∀ a' U, s.WarmedH U.vm → (Cond.initialized y.cls).before a' U = true) :
    vx_Back l R p e below s sargs y len W9 (PreOf R mc ms Pc) (PostOf Qc mc ms free) (vx_Post XC mc ms free) := by
  intro m meth c A g ig mk a X hg hsize hdg hW hn hp
  have h1 : (headSpec ws rm).pre.before a A.U = true := atoms_intro fun w hw => hws w hw _ _ X.warmed
  have h2 : (Cond.code y bytes maxL ret).before a A.U = true := hws _ hcode _ _ X.warmed
  have h3 : (Cond.initialized y.cls).before a A.U = true := hinit _ _ X.warmed
  have h4 : A.cells + (headSpec ws rm).room.cells ≤ R.cells := by rw [show (headSpec ws rm).room.cells = mc from hrc]; exact hp.1
  have h5 : A.slots + (headSpec ws rm).room.slots ≤ R.slots := by rw [show (headSpec ws rm).room.slots = ms from hrs]; exact hp.2.1
  have hPc : Pc a (A.U.calling g mk a) := hblind _ _ _ _ hp.2.2
  obtain ⟨U, Ls, c0, s0⟩ := A
  dsimp only [Pt.U, Pt.locs, Pt.cells, Pt.slots] at h1 h2 h3 h4 h5 X hn hPc ⊢
  obtain ⟨methY, cY, hmY, hcY, -, hlY, -, -, -, -⟩ := Cond.code_spec hn h2
  obtain ⟨kY, hkY, -⟩ := className_of_methodNamed hn
  have hinitY : kY.init = .initialized := Cond.initialized_spec (findClass_of_methodNamed hn) hkY h3
  have h : At U g.method c below := by rw [hg]; exact X.here
  have hlocals9 : W9 + (maxL + 11) + (headSpec ws rm).room.locals ≤ R.locals := hlocals
  have happ : (headSpec ws rm).appliesLoose y e.platform (U.calling g mk a) = true :=
    Spec.appliesLoose_calling (g := g) h hdg hn hkY hinitY
      (X.room_calling (g := g) (R' := (headSpec ws rm).room) hsize hmY hcY hframes (by rw [hlY]; omega) h4 h5) h1
  obtain ⟨mid, hmid⟩ := h.above
  have hfr : (U.setTop g).frames = (.java g :: mid) ++ below := by rw [State.frames_setTop' g h.top, hmid]; rfl
  obtain ⟨o, s₂, hsteps, -, hend, hq⟩ := Steps.callFree hM p X.admits X.cas X.clock (acts := []) hfr happ hPc trivial
  have hq' : vx_Q Qc XC mc ms free a (U.calling g mk a) o s₂ := hq
  rw [State.frames_setTop' g h.top] at hend
  obtain ⟨g₀, hg0⟩ := Option.isSome_iff_exists.mp h.top
  obtain ⟨r, hr⟩ := State.topJava?_eq_some.mp hg0
  have hr' : (({ U with heap := s₂.heap, slotsUsed := s₂.slotsUsed } : State).setVm s₂.vm).frames = .java g₀ :: r := hr
  rcases hq' with ⟨hqc, L, hfe, hL⟩ | ⟨q, rfl, E, ce, L, hx, hce, hcv, hcl, hW₂, hsm, hL⟩
  · obtain ⟨⟨v, rfl⟩, hW₂, e2, q2, q3, q4, q5, q6⟩ := id hfe
    have e3 : s₂ = ({ (U.calling g mk a).setFrames s₂.frames with heap := s₂.heap, slotsUsed := s₂.slotsUsed } : State).setVm s₂.vm := by
      have : s₂ = ({ s₂ with vm := (U.calling g mk a).vm } : State).setVm s₂.vm := rfl
      rw [e2] at this
      exact this
    obtain ⟨c₂, i₂, len₂, hc₂, hd₂, hf₂⟩ := hend
    have hW' : U.WarmedH s₂.vm := hW₂
    have hcc : c₂ = c := by
      have h1 : s₂.code? g.method = U.code? g.method := by
        rw [State.code?_eq, State.code?_eq, hW'.alike.method?]
      exact Option.some.inj (hc₂.symm.trans (h1.trans h.code))
    subst hcc
    have hlen : len₂ = len := by rw [hdg] at hd₂; cases hd₂; rfl
    subst hlen
    have hs₂ : s₂ = (({ U with heap := s₂.heap, slotsUsed := s₂.slotsUsed } : State).setVm s₂.vm).setTop { g with pc := g.pc + len₂, stack := v.toList ++ g.stack } := by
      refine e3.trans ?_
      rw [hf₂, State.calling_eq h.top, State.setFrames_setFrames, State.setTop_of_frames _ hr', hr]
      rfl
    have hsame : U.sameButNew ({ U with heap := s₂.heap, slotsUsed := s₂.slotsUsed } : State) L mc ms := by
      refine ⟨?_, q2, q3, q4, q5, q6⟩
      obtain ⟨t, ht, -⟩ := State.frames_cons hr
      show ({ U with heap := s₂.heap, slotsUsed := s₂.slotsUsed } : State) = { U.setFrames U.frames with heap := s₂.heap, slotsUsed := s₂.slotsUsed }
      rw [State.setFrames_self ht]
    subst hg
    refine Or.inl ⟨v, ⟨(({ U with heap := s₂.heap, slotsUsed := s₂.slotsUsed } : State).setVm s₂.vm), Ls ++ L, c0 + mc, s0 + ms⟩,
      ⟨X.admits, X.cas, X.clock, X.frames, X.room, X.hears, X.method, X.code, (X.here.setHeapUsed s₂.heap s₂.slotsUsed).setVm hW'.alike, X.tail, State.WarmedH.trans X.warmed hW', X.limits, X.bytes, X.same.trans (hsame.setVm s.vm)⟩,
      ⟨g, mk, s₂, L, rfl, rfl, hqc, rfl, hL, rfl, rfl⟩, ?_⟩
    show Steps p.tables e below _ ((({ U with heap := s₂.heap, slotsUsed := s₂.slotsUsed } : State).setVm s₂.vm).setTop { g with pc := g.pc + len₂, stack := v.toList ++ g.stack })
    rw [← hs₂]
    exact hsteps
  · obtain ⟨e2, q2, q3, q4, q5, q6⟩ := id hsm
    have e3 : s₂ = ({ (U.calling g mk a).setFrames s₂.frames with heap := s₂.heap, slotsUsed := s₂.slotsUsed } : State).setVm s₂.vm := by
      have : s₂ = ({ s₂ with vm := (U.calling g mk a).vm } : State).setVm s₂.vm := rfl
      rw [e2] at this
      exact this
    have hf₂ : s₂.frames = .throwing q :: .java g :: U.frames.tail := hend
    have hW' : U.WarmedH s₂.vm := hW₂
    have hs₂ : s₂ = ((({ U with heap := s₂.heap, slotsUsed := s₂.slotsUsed } : State).setVm s₂.vm).setTop g).pushFrame (.throwing q) := by
      refine e3.trans ?_
      rw [hf₂, State.calling_eq h.top, State.setFrames_setFrames, State.pushFrame, State.frames_setTop _ hr', State.setTop_of_frames _ hr', State.setFrames_setFrames, hr]
      rfl
    have hsame : U.sameButNew ({ U with heap := s₂.heap, slotsUsed := s₂.slotsUsed } : State) L mc ms := by
      refine ⟨?_, q2, q3, q4, q5, q6⟩
      obtain ⟨t, ht, -⟩ := State.frames_cons hr
      show ({ U with heap := s₂.heap, slotsUsed := s₂.slotsUsed } : State) = { U.setFrames U.frames with heap := s₂.heap, slotsUsed := s₂.slotsUsed }
      rw [State.setFrames_self ht]
    subst hg
    refine Or.inr ⟨q, ⟨(({ U with heap := s₂.heap, slotsUsed := s₂.slotsUsed } : State).setVm s₂.vm), Ls ++ L, c0 + mc, s0 + ms⟩,
      ⟨X.admits, X.cas, X.clock, X.frames, X.room, X.hears, X.method, X.code, (X.here.setHeapUsed s₂.heap s₂.slotsUsed).setVm hW'.alike, X.tail, State.WarmedH.trans X.warmed hW', X.limits, X.bytes, X.same.trans (hsame.setVm s.vm)⟩,
      ⟨g, mk, s₂, L, E, ce, rfl, rfl, hx, hce, hcv, hcl, rfl, hL, rfl, rfl⟩, ?_⟩
    show Steps p.tables e below _ (((({ U with heap := s₂.heap, slotsUsed := s₂.slotsUsed } : State).setVm s₂.vm).setTop g).pushFrame (.throwing q))
    rw [← hs₂]
    exact hsteps
end Payer
section Calls
variable {p : Program} {l : Launch} {e : Env} {R : Room} {s : State} {m : MethodId} {args : Array Value} {below : List Frame} {meth : Method} {c : Code} {T : State} {locs : List Loc} {cells slots : Nat}
theorem vx_callV (X : Stand p l e R s m args below meth c T locs cells slots) (hexec : p.tables.exec = Jvm.exec) {own C : String} {index : Nat} {y : MethodName} {bytes : ByteArray} {maxL : Nat} {ret : Option FieldType}
    (hown : s.vm.findClass own = some m.cls) (hlink : (Cond.methodLink own index y).before args s = true) (hinst : (Cond.instanceMethod y).before args s = true) (hsel : (Cond.selects C y y).before args s = true)
    (hcode : (Cond.code y bytes maxL ret).before args s = true) (hy : y.cls ≠ "java/lang/invoke/MethodHandle" ∧ y.cls ≠ "java/lang/invoke/VarHandle")
    {W9 : Nat} {Pre : Pt → Array Value → Prop} {Post : Pt → Array Value → Option Value → Pt → Prop} {PostX : Pt → Array Value → Addr → Pt → Prop} (hK : vx_Back l R p e below s args y 3 W9 Pre Post PostX)
    {b : Addr} {cellB : Cell} (hcell : T.heap[b]? = some cellB) (hobj : cellB.vm.isStatics = false) (hcls : s.vm.findClass C = some cellB.cls)
    {g : JFrame} (hg : g.method = m) (hsize : g.locals.size = c.maxLocals) {argsL rest : List Value} (hlen : ∀ sig, parseMethodDescriptor y.desc = some sig → argsL.length = sig.parameters.length)
    (hstack : g.stack = argsL.reverse ++ .ref b :: rest) (hW : 2 * g.monitorRoom + (rest.map fun v => v.category).sum ≤ W9) (hdg : decode c.code g.pc = .ok (.invokevirtual index, 3))
    (hpre : ∀ vm₁, s.WarmedH vm₁ → Pre ⟨T.setVm vm₁, locs, cells, slots⟩ (Value.ref b :: argsL).toArray) :
    (∃ (v : Option Value) (vm₁ : Vm) (B : Pt), s.WarmedH vm₁ ∧ Stand p l e R s m args below meth c B.U B.locs B.cells B.slots ∧ Post ⟨T.setVm vm₁, locs, cells, slots⟩ (Value.ref b :: argsL).toArray v B ∧
      ∀ target, Steps p.tables e below (B.U.setTop { g with pc := g.pc + 3, stack := v.toList ++ rest }) target → Steps p.tables e below (T.setTop g) target) ∨
    (∃ (q : Addr) (vm₁ : Vm) (B : Pt), s.WarmedH vm₁ ∧ Stand p l e R s m args below meth c B.U B.locs B.cells B.slots ∧ PostX ⟨T.setVm vm₁, locs, cells, slots⟩ (Value.ref b :: argsL).toArray q B ∧
      Steps p.tables e below (T.setTop g) ((B.U.setTop { g with stack := rest }).pushFrame (.throwing q))) := by
  obtain ⟨mk, methM, hnamed, hmethM, hstM, habM⟩ := Cond.instanceMethod_spec hinst
  obtain ⟨methM', cM, hmethM', -, -, -, -, -, -, hsigM⟩ := Cond.code_spec hnamed hcode
  cases hmethM.symm.trans hmethM'
  obtain ⟨c2, r2, m2, q1, q2, q3, q4, kP, hkP, hkPi⟩ := Cond.selects_spec hsel
  cases hcls.symm.trans q1
  cases (State.methodFound?_of_named hnamed hy).symm.trans q2
  cases hnamed.symm.trans q3
  have hselP : selectMethod e.platform s.vm cellB.cls mk = .method mk := by rw [Launch.admits_selectMethod X.admits]; exact q4
  obtain ⟨vm₁, X₁, hstep₁⟩ := X.invokevirtual hexec hown hlink hnamed hmethM hstM hkP hkPi hy (a := b) (cell := cellB) hcell
    (fun z h => by rw [h] at hobj; cases hobj) hselP hmethM habM hkP hkPi (g := g) hg (argsL := argsL) (rest := rest) (hlen _ hsigM) hstack hdg
  rcases hK m meth c ⟨T.setVm vm₁, locs, cells, slots⟩ { g with stack := rest } (.invokevirtual index) mk (Value.ref b :: argsL).toArray X₁ hg hsize hdg hW (X₁.named hnamed) (hpre vm₁ X₁.warmed) with ⟨v, B, X', hpost, hsteps⟩ | ⟨q, B, X', hpost, hsteps⟩
  · exact Or.inl ⟨v, vm₁, B, X₁.warmed, X', hpost, fun target h => hstep₁ _ fun acts => by rw [doInvoke_state]; exact hsteps.trans h⟩
  · exact Or.inr ⟨q, vm₁, B, X₁.warmed, X', hpost, hstep₁ _ fun acts => by rw [doInvoke_state]; exact hsteps⟩
theorem vx_callS (X : Stand p l e R s m args below meth c T locs cells slots) (hexec : p.tables.exec = Jvm.exec) {own : String} {index : Nat} {y : MethodName} {bytes : ByteArray} {maxL : Nat} {ret : Option FieldType}
    (hown : s.vm.findClass own = some m.cls) (hlink : (Cond.methodLink own index y).before args s = true) (hstat : (Cond.static y).before args s = true) (hinit : (Cond.initialized y.cls).before args s = true)
    (hcode : (Cond.code y bytes maxL ret).before args s = true) (hy : y.cls ≠ "java/lang/invoke/MethodHandle" ∧ y.cls ≠ "java/lang/invoke/VarHandle")
    {W9 : Nat} {Pre : Pt → Array Value → Prop} {Post : Pt → Array Value → Option Value → Pt → Prop} {PostX : Pt → Array Value → Addr → Pt → Prop} (hK : vx_Back l R p e below s args y 3 W9 Pre Post PostX)
    {g : JFrame} (hg : g.method = m) (hsize : g.locals.size = c.maxLocals) {argsL rest : List Value} (hlen : ∀ sig, parseMethodDescriptor y.desc = some sig → argsL.length = sig.parameters.length)
    (hstack : g.stack = argsL.reverse ++ rest) (hW : 2 * g.monitorRoom + (rest.map fun v => v.category).sum ≤ W9) (hdg : decode c.code g.pc = .ok (.invokestatic index, 3))
    (hpre : ∀ vm₁, s.WarmedH vm₁ → Pre ⟨T.setVm vm₁, locs, cells, slots⟩ argsL.toArray) :
    (∃ (v : Option Value) (vm₁ : Vm) (B : Pt), s.WarmedH vm₁ ∧ Stand p l e R s m args below meth c B.U B.locs B.cells B.slots ∧ Post ⟨T.setVm vm₁, locs, cells, slots⟩ argsL.toArray v B ∧
      ∀ target, Steps p.tables e below (B.U.setTop { g with pc := g.pc + 3, stack := v.toList ++ rest }) target → Steps p.tables e below (T.setTop g) target) ∨
    (∃ (q : Addr) (vm₁ : Vm) (B : Pt), s.WarmedH vm₁ ∧ Stand p l e R s m args below meth c B.U B.locs B.cells B.slots ∧ PostX ⟨T.setVm vm₁, locs, cells, slots⟩ argsL.toArray q B ∧
      Steps p.tables e below (T.setTop g) ((B.U.setTop { g with stack := rest }).pushFrame (.throwing q))) := by
  obtain ⟨mk, hnamed⟩ := Cond.code_named hcode
  obtain ⟨methM, cM, hmethM, -, -, -, -, -, -, hsigM⟩ := Cond.code_spec hnamed hcode
  have hstatic : methM.isStatic = true := Cond.static_spec hnamed hmethM hstat
  obtain ⟨kP, hkP, -⟩ := className_of_methodNamed hnamed
  have hinitP : kP.init = .initialized := Cond.initialized_spec (findClass_of_methodNamed hnamed) hkP hinit
  obtain ⟨vm₁, X₁, hstep₁⟩ := X.invokestatic hexec hown hlink hnamed hmethM hstatic hkP hinitP hy (g := g) hg (argsL := argsL) (rest := rest) (hlen _ hsigM) hstack hdg
  rcases hK m meth c ⟨T.setVm vm₁, locs, cells, slots⟩ { g with stack := rest } (.invokestatic index) mk argsL.toArray X₁ hg hsize hdg hW (X₁.named hnamed) (hpre vm₁ X₁.warmed) with ⟨v, B, X', hpost, hsteps⟩ | ⟨q, B, X', hpost, hsteps⟩
  · exact Or.inl ⟨v, vm₁, B, X₁.warmed, X', hpost, fun target h => hstep₁ _ fun acts => by rw [doInvoke_state]; exact hsteps.trans h⟩
  · exact Or.inr ⟨q, vm₁, B, X₁.warmed, X', hpost, hstep₁ _ fun acts => by rw [doInvoke_state]; exact hsteps⟩
end Calls
theorem vx_cls {s : State} {T : State} {vm₁ : Vm} {E : String} {k : ClassId} (hW : s.WarmedH vm₁) (h : (T.setVm vm₁).vm.findClass E = some k) : s.vm.findClass E = some k := by
  have h1 : vm₁.findClass E = some k := h
  rw [hW.alike.findClass] at h1
  exact h1
/-- the method's frame g, with q thrown over it -/
def vx_W (p : Program) (l : Launch) (e : Env) (R : Room) (s : State) (m : MethodId) (args : Array Value) (below : List Frame) (meth : Method) (c : Code) (H : Heap) (locs : List Loc) (cells slots : Nat) (Q : State → Prop) (g : JFrame) (q : Addr) : Prop :=
  ∀ T : State, T.heap = H → Stand p l e R s m args below meth c T locs cells slots → ∃ t, Steps p.tables e below ((T.setTop g).pushFrame (.throwing q)) t ∧ Q t
def vx_Run (p : Program) (l : Launch) (e : Env) (R : Room) (s : State) (m : MethodId) (args : Array Value) (below : List Frame) (meth : Method) (c : Code) (H : Heap) (locs : List Loc) (cells slots mc ms : Nat) (g : JFrame) (rest : List Value) (Qa : State → Outcome → State → Prop) (XC : String → State → State → Prop) (free : Addr → Prop) : Prop :=
  ∀ T : State, T.heap = H → Stand p l e R s m args below meth c T locs cells slots →
    (∃ (v : Option Value) (st₀ t T' : State) (L : List Loc), st₀.heap = H ∧ Stand p l e R s m args below meth c T' (locs ++ L) (cells + mc) (slots + ms) ∧ (∀ q ∈ L, free q.base) ∧ T'.heap = t.heap ∧ T'.vm = t.vm ∧ Qa st₀ (.returned v) t ∧
      Goes p e below T g T' { g with pc := g.pc + 3, stack := v.toList ++ rest }) ∨
    (∃ (q : Addr) (st₀ t T' : State) (L : List Loc) (E : String) (ce : Cell), st₀.heap = H ∧ Stand p l e R s m args below meth c T' (locs ++ L) (cells + mc) (slots + ms) ∧ (∀ z ∈ L, free z.base) ∧ T'.heap = t.heap ∧ T'.vm = t.vm ∧ XC E st₀ t ∧ t.heap[q]? = some ce ∧ ce.vm = .none ∧ s.vm.findClass E = some ce.cls ∧
      Steps p.tables e below (T.setTop g) ((T'.setTop { g with stack := rest }).pushFrame (.throwing q)))
def vx_X {S : Type} (px : S → Prop) (B : String → S → State → Prop) (A : Nat → Prop) : String → State → State → Prop := fun E st t => ∃ u : S, px u ∧ B E u t ∧ va_F A st t
section Runs
variable {p : Program} {l : Launch} {e : Env} {R : Room} {s : State} {m : MethodId} {args : Array Value} {below : List Frame} {meth : Method} {c : Code} {H : Heap} {locs : List Loc} {cells slots : Nat}
variable {y : MethodName} {bytes cc : ByteArray} {maxL nL mc ms n index : Nat} {ret : Option FieldType} {ws : List Cond} {rm : Room} {Pc : Array Value → State → Prop} {Qc : Array Value → State → Outcome → State → Prop} {XC : String → State → State → Prop} {free : Addr → Prop} {Ts : List Cond} {own C : String} {b : Addr} {As rest : List Value} {g : JFrame}
theorem vx_callBack (cb : CallB R s args own index y bytes maxL ret ws rm mc ms n) (hM : vx_Met l y ws rm Pc Qc XC mc ms free) (hbl : FrameBlind Pc) : vx_Back l R p e below s args y 3 8 (PreOf R mc ms Pc) (PostOf Qc mc ms free) (vx_Post XC mc ms free) := by
  obtain ⟨hrc, hrs, hfr, hlo, hws, hcw, -, hini, -⟩ := cb
  exact vx_back (bytes := bytes) (maxL := maxL) (ret := ret) hM hbl hrc hrs hfr hlo hws hcw (fun a' U hW => word_at hW (Or.inl (by first | rfl | simp [Cond.onTables, Cond.keeps, Cond.steady])) hini)
theorem vx_runV (S : CallFix p m c cc nL s args Ts own) (hM : vx_Met l y ws rm Pc Qc XC mc ms free) (cw : CallW R s args own C index y bytes maxL ret ws rm mc ms n) (hp : PreV s H C b Pc As)
    (hg : g.method = m) (hn : As.length = n) (hsize : g.locals.size = nL) (hstack : g.stack = As.reverse ++ .ref b :: rest) (hW : 2 * g.monitorRoom + (rest.map fun v => v.category).sum ≤ 8) (hdg : decode cc g.pc = .ok (.invokevirtual index, 3)) (hf : cells + mc ≤ R.cells ∧ slots + ms ≤ R.slots) :
    vx_Run p l e R s m args below meth c H locs cells slots mc ms g rest (Qc (Value.ref b :: As).toArray) XC free := by
  have hK : vx_Back l R p e below s args y 3 8 (PreOf R mc ms Pc) (PostOf Qc mc ms free) (vx_Post XC mc ms free) := vx_callBack cw.1 hM hp.1
  obtain ⟨⟨-, -, -, -, -, -, hcode, -, hy, hlen, hl⟩, hin, hse⟩ := cw
  obtain ⟨hx, hb, hml, ho, -⟩ := S
  obtain ⟨-, ⟨cellB, hcB, hoB, hclB⟩, hPc⟩ := hp
  intro T hT X
  rcases vx_callV X hx (C := C) (bytes := bytes) (maxL := maxL) (ret := ret) ho hl hin hse hcode hy hK (by rw [hT]; exact hcB) hoB hclB hg (hsize.trans hml.symm) (argsL := As) (rest := rest) (fun sig h => hn.trans (hlen sig h)) hstack hW (by rw [hb]; exact hdg)
    (fun vm₁ hW₁ => ⟨hf.1, hf.2, hPc (T.setVm vm₁) hT hW₁⟩) with ⟨v, vm₁, ⟨U', l2, c2, s2⟩, hW₁, X', ⟨g', mk, t, L, e1, e2, hq, h1, hL, h2, h3⟩, st⟩ | ⟨q, vm₁, ⟨U', l2, c2, s2⟩, hW₁, X', ⟨g', mk, t, L, E, ce, e1, e2, hq, hce, hcv, hcl, h1, hL, h2, h3⟩, st⟩
  · dsimp only [Pt.U, Pt.locs, Pt.cells, Pt.slots] at X' e1 e2 h1 h2 h3 st
    subst h1; subst h2; subst h3
    exact Or.inl ⟨v, (T.setVm vm₁).calling g' mk (Value.ref b :: As).toArray, t, U', L, hT, X', hL, e1, e2, hq, st⟩
  · dsimp only [Pt.U, Pt.locs, Pt.cells, Pt.slots] at X' e1 e2 h1 h2 h3 st hcl
    subst h1; subst h2; subst h3
    exact Or.inr ⟨q, (T.setVm vm₁).calling g' mk (Value.ref b :: As).toArray, t, U', L, E, ce, hT, X', hL, e1, e2, hq, hce, hcv, vx_cls hW₁ hcl, st⟩
theorem vx_runS (S : CallFix p m c cc nL s args Ts own) (hM : vx_Met l y ws rm Pc Qc XC mc ms free) (cw : CallB R s args own index y bytes maxL ret ws rm mc ms n ∧ (Cond.static y).before args s = true) (hp : PreS s H Pc As)
    (hg : g.method = m) (hn : As.length = n) (hsize : g.locals.size = nL) (hstack : g.stack = As.reverse ++ rest) (hW : 2 * g.monitorRoom + (rest.map fun v => v.category).sum ≤ 8) (hdg : decode cc g.pc = .ok (.invokestatic index, 3)) (hf : cells + mc ≤ R.cells ∧ slots + ms ≤ R.slots) :
    vx_Run p l e R s m args below meth c H locs cells slots mc ms g rest (Qc As.toArray) XC free := by
  have hK : vx_Back l R p e below s args y 3 8 (PreOf R mc ms Pc) (PostOf Qc mc ms free) (vx_Post XC mc ms free) := vx_callBack cw.1 hM hp.1
  obtain ⟨⟨-, -, -, -, -, -, hcode, hini, hy, hlen, hl⟩, hstt⟩ := cw
  obtain ⟨hx, hb, hml, ho, -⟩ := S
  intro T hT X
  rcases vx_callS X hx (bytes := bytes) (maxL := maxL) (ret := ret) ho hl hstt hini hcode hy hK hg (hsize.trans hml.symm) (argsL := As) (rest := rest) (fun sig h => hn.trans (hlen sig h)) hstack hW (by rw [hb]; exact hdg)
    (fun vm₁ hW₁ => ⟨hf.1, hf.2, hp.2 (T.setVm vm₁) hT hW₁⟩) with ⟨v, vm₁, ⟨U', l2, c2, s2⟩, hW₁, X', ⟨g', mk, t, L, e1, e2, hq, h1, hL, h2, h3⟩, st⟩ | ⟨q, vm₁, ⟨U', l2, c2, s2⟩, hW₁, X', ⟨g', mk, t, L, E, ce, e1, e2, hq, hce, hcv, hcl, h1, hL, h2, h3⟩, st⟩
  · dsimp only [Pt.U, Pt.locs, Pt.cells, Pt.slots] at X' e1 e2 h1 h2 h3 st
    subst h1; subst h2; subst h3
    exact Or.inl ⟨v, (T.setVm vm₁).calling g' mk As.toArray, t, U', L, hT, X', hL, e1, e2, hq, st⟩
  · dsimp only [Pt.U, Pt.locs, Pt.cells, Pt.slots] at X' e1 e2 h1 h2 h3 st hcl
    subst h1; subst h2; subst h3
    exact Or.inr ⟨q, (T.setVm vm₁).calling g' mk As.toArray, t, U', L, E, ce, hT, X', hL, e1, e2, hq, hce, hcv, vx_cls hW₁ hcl, st⟩
end Runs
section Rows
variable {p : Program} {l : Launch} {e : Env} {R : Room} {s : State} {m : MethodId} {args : Array Value} {below : List Frame} {meth : Method} {c : Code} {H : Heap} {locs : List Loc} {cells slots : Nat} {Q : State → Prop}
variable {mc ms : Nat} {free : Addr → Prop} {A0 A1 : Nat → Prop} {H0 : Heap} {a : Array Value} {pc : Nat} {ls : Array Slot} {st0 rest : List Value}
theorem vx_keep {st₀ t T' : State} {L : List Loc} (h0 : st₀.heap = H) (e1 : T'.heap = t.heap) (hS : va_S A0 H0 H locs) (hA : ∀ q, q < H.size → A1 q → A0 q) (hf : ∀ q, free q → A0 q) (hL : ∀ q ∈ L, free q.base) (hF : va_F A1 st₀ t) :
    H.size ≤ T'.heap.size ∧ (∀ q : Nat, q < H.size → ¬ A1 q → T'.heap[q]? = H[q]?) ∧ va_S A0 H0 T'.heap (locs ++ L) := by
  obtain ⟨hz, hk⟩ := hF
  rw [h0] at hz hk
  exact ⟨by rw [e1]; exact hz, fun q h1 h2 => by rw [e1]; exact hk q h1 h2,
    ⟨Nat.le_trans hS.1 (by rw [e1]; exact hz), fun q h1 h2 => by rw [e1, hk q (Nat.lt_of_lt_of_le h1 hS.1) (fun z => h2 (hA q (Nat.lt_of_lt_of_le h1 hS.1) z))]; exact hS.2.1 q h1 h2, fun q hq => by
      rcases List.mem_append.mp hq with h | h
      · exact hS.2.2 q h
      · exact hf _ (hL q h)⟩⟩
theorem vx_calli {S SX : Type} {post : Int32 → S → Prop} {px : SX → Prop} {B : S → State → Prop} {BX : String → SX → State → Prop} {AX : Nat → Prop} (hr : vx_Run p l e R s m args below meth c H locs cells slots mc ms (F0 m pc ls st0) rest (va_Qi post B A1 a) (vx_X px BX AX) free) (hS : va_S A0 H0 H locs) (hA : ∀ q, q < H.size → A1 q → A0 q) (hf : ∀ q, free q → A0 q) (hAX : ∀ q, q < H.size → AX q → A0 q)
    (kx : ∀ (E : String) (ce : Cell) (q9 : Addr) (u : SX) (t : State) (H1 : Heap) (locs1 : List Loc), t.heap = H1 → s.vm.Alike t.vm → px u → BX E u t → H.size ≤ H1.size → (∀ q : Nat, q < H.size → ¬ AX q → H1[q]? = H[q]?) → va_S A0 H0 H1 locs1 → H1[q9]? = some ce → ce.vm = .none → s.vm.findClass E = some ce.cls → vx_W p l e R s m args below meth c H1 locs1 (cells + mc) (slots + ms) Q (F0 m pc ls rest) q9)
    (kk : ∀ (r : Int32) (u : S) (t : State) (H1 : Heap) (locs1 : List Loc), t.heap = H1 → s.vm.Alike t.vm → post r u → B u t → H.size ≤ H1.size → (∀ q : Nat, q < H.size → ¬ A1 q → H1[q]? = H[q]?) → va_S A0 H0 H1 locs1 → W p l e R s m args below meth c H1 locs1 (cells + mc) (slots + ms) Q (F0 m (pc + 3) ls (.int r :: rest))) : W p l e R s m args below meth c H locs cells slots Q (F0 m pc ls st0) := by
  intro T hT X
  rcases hr T hT X with ⟨v, st₀, t, T', L, h0, X', hL, e1, e2, ⟨⟨r, u, hv, hp, hb⟩, hF⟩, st⟩ | ⟨q, st₀, t, T', L, E, ce, h0, X', hL, e1, e2, ⟨u, hp, hb, hF⟩, hce, hcv, hcl, st⟩
  · cases hv
    obtain ⟨k1, k2, k3⟩ := vx_keep h0 e1 hS hA hf hL hF
    obtain ⟨t2, a1, b1⟩ := kk r u t T'.heap (locs ++ L) e1.symm (by rw [← e2]; exact X'.warmed.alike) hp hb k1 k2 k3 T' rfl X'
    exact ⟨t2, st t2 a1, b1⟩
  · obtain ⟨k1, k2, k3⟩ := vx_keep h0 e1 hS hAX hf hL hF
    obtain ⟨t2, a1, b1⟩ := kx E ce q u t T'.heap (locs ++ L) e1.symm (by rw [← e2]; exact X'.warmed.alike) hp hb k1 k2 k3 (by rw [e1]; exact hce) hcv hcl T' rfl X'
    exact ⟨t2, st.trans a1, b1⟩
theorem vx_calll {S SX : Type} {post : Int64 → S → Prop} {px : SX → Prop} {B : S → State → Prop} {BX : String → SX → State → Prop} {AX : Nat → Prop} (hr : vx_Run p l e R s m args below meth c H locs cells slots mc ms (F0 m pc ls st0) rest (va_Ql post B A1 a) (vx_X px BX AX) free) (hS : va_S A0 H0 H locs) (hA : ∀ q, q < H.size → A1 q → A0 q) (hf : ∀ q, free q → A0 q) (hAX : ∀ q, q < H.size → AX q → A0 q)
    (kx : ∀ (E : String) (ce : Cell) (q9 : Addr) (u : SX) (t : State) (H1 : Heap) (locs1 : List Loc), t.heap = H1 → s.vm.Alike t.vm → px u → BX E u t → H.size ≤ H1.size → (∀ q : Nat, q < H.size → ¬ AX q → H1[q]? = H[q]?) → va_S A0 H0 H1 locs1 → H1[q9]? = some ce → ce.vm = .none → s.vm.findClass E = some ce.cls → vx_W p l e R s m args below meth c H1 locs1 (cells + mc) (slots + ms) Q (F0 m pc ls rest) q9)
    (kk : ∀ (r : Int64) (u : S) (t : State) (H1 : Heap) (locs1 : List Loc), t.heap = H1 → s.vm.Alike t.vm → post r u → B u t → H.size ≤ H1.size → (∀ q : Nat, q < H.size → ¬ A1 q → H1[q]? = H[q]?) → va_S A0 H0 H1 locs1 → W p l e R s m args below meth c H1 locs1 (cells + mc) (slots + ms) Q (F0 m (pc + 3) ls (.long r :: rest))) : W p l e R s m args below meth c H locs cells slots Q (F0 m pc ls st0) := by
  intro T hT X
  rcases hr T hT X with ⟨v, st₀, t, T', L, h0, X', hL, e1, e2, ⟨⟨r, u, hv, hp, hb⟩, hF⟩, st⟩ | ⟨q, st₀, t, T', L, E, ce, h0, X', hL, e1, e2, ⟨u, hp, hb, hF⟩, hce, hcv, hcl, st⟩
  · cases hv
    obtain ⟨k1, k2, k3⟩ := vx_keep h0 e1 hS hA hf hL hF
    obtain ⟨t2, a1, b1⟩ := kk r u t T'.heap (locs ++ L) e1.symm (by rw [← e2]; exact X'.warmed.alike) hp hb k1 k2 k3 T' rfl X'
    exact ⟨t2, st t2 a1, b1⟩
  · obtain ⟨k1, k2, k3⟩ := vx_keep h0 e1 hS hAX hf hL hF
    obtain ⟨t2, a1, b1⟩ := kx E ce q u t T'.heap (locs ++ L) e1.symm (by rw [← e2]; exact X'.warmed.alike) hp hb k1 k2 k3 (by rw [e1]; exact hce) hcv hcl T' rfl X'
    exact ⟨t2, st.trans a1, b1⟩
theorem vx_callf {S SX : Type} {post : UInt32 → S → Prop} {px : SX → Prop} {B : S → State → Prop} {BX : String → SX → State → Prop} {AX : Nat → Prop} (hr : vx_Run p l e R s m args below meth c H locs cells slots mc ms (F0 m pc ls st0) rest (va_Qf post B A1 a) (vx_X px BX AX) free) (hS : va_S A0 H0 H locs) (hA : ∀ q, q < H.size → A1 q → A0 q) (hf : ∀ q, free q → A0 q) (hAX : ∀ q, q < H.size → AX q → A0 q)
    (kx : ∀ (E : String) (ce : Cell) (q9 : Addr) (u : SX) (t : State) (H1 : Heap) (locs1 : List Loc), t.heap = H1 → s.vm.Alike t.vm → px u → BX E u t → H.size ≤ H1.size → (∀ q : Nat, q < H.size → ¬ AX q → H1[q]? = H[q]?) → va_S A0 H0 H1 locs1 → H1[q9]? = some ce → ce.vm = .none → s.vm.findClass E = some ce.cls → vx_W p l e R s m args below meth c H1 locs1 (cells + mc) (slots + ms) Q (F0 m pc ls rest) q9)
    (kk : ∀ (r : UInt32) (u : S) (t : State) (H1 : Heap) (locs1 : List Loc), t.heap = H1 → s.vm.Alike t.vm → post r u → B u t → H.size ≤ H1.size → (∀ q : Nat, q < H.size → ¬ A1 q → H1[q]? = H[q]?) → va_S A0 H0 H1 locs1 → W p l e R s m args below meth c H1 locs1 (cells + mc) (slots + ms) Q (F0 m (pc + 3) ls (.float r :: rest))) : W p l e R s m args below meth c H locs cells slots Q (F0 m pc ls st0) := by
  intro T hT X
  rcases hr T hT X with ⟨v, st₀, t, T', L, h0, X', hL, e1, e2, ⟨⟨r, u, hv, hp, hb⟩, hF⟩, st⟩ | ⟨q, st₀, t, T', L, E, ce, h0, X', hL, e1, e2, ⟨u, hp, hb, hF⟩, hce, hcv, hcl, st⟩
  · cases hv
    obtain ⟨k1, k2, k3⟩ := vx_keep h0 e1 hS hA hf hL hF
    obtain ⟨t2, a1, b1⟩ := kk r u t T'.heap (locs ++ L) e1.symm (by rw [← e2]; exact X'.warmed.alike) hp hb k1 k2 k3 T' rfl X'
    exact ⟨t2, st t2 a1, b1⟩
  · obtain ⟨k1, k2, k3⟩ := vx_keep h0 e1 hS hAX hf hL hF
    obtain ⟨t2, a1, b1⟩ := kx E ce q u t T'.heap (locs ++ L) e1.symm (by rw [← e2]; exact X'.warmed.alike) hp hb k1 k2 k3 (by rw [e1]; exact hce) hcv hcl T' rfl X'
    exact ⟨t2, st.trans a1, b1⟩
theorem vx_calld {S SX : Type} {post : UInt64 → S → Prop} {px : SX → Prop} {B : S → State → Prop} {BX : String → SX → State → Prop} {AX : Nat → Prop} (hr : vx_Run p l e R s m args below meth c H locs cells slots mc ms (F0 m pc ls st0) rest (va_Qd post B A1 a) (vx_X px BX AX) free) (hS : va_S A0 H0 H locs) (hA : ∀ q, q < H.size → A1 q → A0 q) (hf : ∀ q, free q → A0 q) (hAX : ∀ q, q < H.size → AX q → A0 q)
    (kx : ∀ (E : String) (ce : Cell) (q9 : Addr) (u : SX) (t : State) (H1 : Heap) (locs1 : List Loc), t.heap = H1 → s.vm.Alike t.vm → px u → BX E u t → H.size ≤ H1.size → (∀ q : Nat, q < H.size → ¬ AX q → H1[q]? = H[q]?) → va_S A0 H0 H1 locs1 → H1[q9]? = some ce → ce.vm = .none → s.vm.findClass E = some ce.cls → vx_W p l e R s m args below meth c H1 locs1 (cells + mc) (slots + ms) Q (F0 m pc ls rest) q9)
    (kk : ∀ (r : UInt64) (u : S) (t : State) (H1 : Heap) (locs1 : List Loc), t.heap = H1 → s.vm.Alike t.vm → post r u → B u t → H.size ≤ H1.size → (∀ q : Nat, q < H.size → ¬ A1 q → H1[q]? = H[q]?) → va_S A0 H0 H1 locs1 → W p l e R s m args below meth c H1 locs1 (cells + mc) (slots + ms) Q (F0 m (pc + 3) ls (.double r :: rest))) : W p l e R s m args below meth c H locs cells slots Q (F0 m pc ls st0) := by
  intro T hT X
  rcases hr T hT X with ⟨v, st₀, t, T', L, h0, X', hL, e1, e2, ⟨⟨r, u, hv, hp, hb⟩, hF⟩, st⟩ | ⟨q, st₀, t, T', L, E, ce, h0, X', hL, e1, e2, ⟨u, hp, hb, hF⟩, hce, hcv, hcl, st⟩
  · cases hv
    obtain ⟨k1, k2, k3⟩ := vx_keep h0 e1 hS hA hf hL hF
    obtain ⟨t2, a1, b1⟩ := kk r u t T'.heap (locs ++ L) e1.symm (by rw [← e2]; exact X'.warmed.alike) hp hb k1 k2 k3 T' rfl X'
    exact ⟨t2, st t2 a1, b1⟩
  · obtain ⟨k1, k2, k3⟩ := vx_keep h0 e1 hS hAX hf hL hF
    obtain ⟨t2, a1, b1⟩ := kx E ce q u t T'.heap (locs ++ L) e1.symm (by rw [← e2]; exact X'.warmed.alike) hp hb k1 k2 k3 (by rw [e1]; exact hce) hcv hcl T' rfl X'
    exact ⟨t2, st.trans a1, b1⟩
theorem vx_callv {S SX : Type} {post : S → Prop} {px : SX → Prop} {B : S → State → Prop} {BX : String → SX → State → Prop} {AX : Nat → Prop} (hr : vx_Run p l e R s m args below meth c H locs cells slots mc ms (F0 m pc ls st0) rest (va_Qv post B A1 a) (vx_X px BX AX) free) (hS : va_S A0 H0 H locs) (hA : ∀ q, q < H.size → A1 q → A0 q) (hf : ∀ q, free q → A0 q) (hAX : ∀ q, q < H.size → AX q → A0 q)
    (kx : ∀ (E : String) (ce : Cell) (q9 : Addr) (u : SX) (t : State) (H1 : Heap) (locs1 : List Loc), t.heap = H1 → s.vm.Alike t.vm → px u → BX E u t → H.size ≤ H1.size → (∀ q : Nat, q < H.size → ¬ AX q → H1[q]? = H[q]?) → va_S A0 H0 H1 locs1 → H1[q9]? = some ce → ce.vm = .none → s.vm.findClass E = some ce.cls → vx_W p l e R s m args below meth c H1 locs1 (cells + mc) (slots + ms) Q (F0 m pc ls rest) q9)
    (kk : ∀ (u : S) (t : State) (H1 : Heap) (locs1 : List Loc), t.heap = H1 → s.vm.Alike t.vm → post u → B u t → H.size ≤ H1.size → (∀ q : Nat, q < H.size → ¬ A1 q → H1[q]? = H[q]?) → va_S A0 H0 H1 locs1 → W p l e R s m args below meth c H1 locs1 (cells + mc) (slots + ms) Q (F0 m (pc + 3) ls (rest))) : W p l e R s m args below meth c H locs cells slots Q (F0 m pc ls st0) := by
  intro T hT X
  rcases hr T hT X with ⟨v, st₀, t, T', L, h0, X', hL, e1, e2, ⟨⟨u, hv, hp, hb⟩, hF⟩, st⟩ | ⟨q, st₀, t, T', L, E, ce, h0, X', hL, e1, e2, ⟨u, hp, hb, hF⟩, hce, hcv, hcl, st⟩
  · cases hv
    obtain ⟨k1, k2, k3⟩ := vx_keep h0 e1 hS hA hf hL hF
    obtain ⟨t2, a1, b1⟩ := kk u t T'.heap (locs ++ L) e1.symm (by rw [← e2]; exact X'.warmed.alike) hp hb k1 k2 k3 T' rfl X'
    exact ⟨t2, st t2 a1, b1⟩
  · obtain ⟨k1, k2, k3⟩ := vx_keep h0 e1 hS hAX hf hL hF
    obtain ⟨t2, a1, b1⟩ := kx E ce q u t T'.heap (locs ++ L) e1.symm (by rw [← e2]; exact X'.warmed.alike) hp hb k1 k2 k3 (by rw [e1]; exact hce) hcv hcl T' rfl X'
    exact ⟨t2, st.trans a1, b1⟩
/-- caught by the row x of this method's table; the rows ahead don't take it -/
theorem vx_catch {own name : String} {E : String} {ce : Cell} {q : Addr} (hown : s.vm.findClass own = some m.cls) (pre : List ExceptionTableEntry) (x : ExceptionTableEntry) (suf : List ExceptionTableEntry) (hsplit : c.exceptionTable.toList = pre ++ x :: suf)
    (hpass : ∀ z ∈ pre, covers z pc = false ∨ (z.catchType ≠ 0 ∧ ∃ nm : String, (Cond.classLink own z.catchType nm).before args s = true ∧ va_Nc E nm s)) (hx : covers x pc = true) (h0 : x.catchType ≠ 0)
    (hlink : (Cond.classLink own x.catchType name).before args s = true) (hcast : (Cond.castable E name).before args s = true) (hcell : H[q]? = some ce) (hv : ce.vm = .none) (hcl : s.vm.findClass E = some ce.cls)
    (kk : W p l e R s m args below meth c H locs cells slots Q (F0 m x.handlerPc ls [.ref q])) : vx_W p l e R s m args below meth c H locs cells slots Q (F0 m pc ls rest) q := by
  intro T hT X
  have hpl : e.platform.magicAccessors = ({} : Platform).magicAccessors := by rw [X.admits.platform]
  obtain ⟨c3, c4, hc3, hc4, hasg⟩ := Cond.castable_spec hcast
  cases Option.some.inj (hc3.symm.trans hcl)
  obtain ⟨c5, hc5, hcl5⟩ := Cond.classLink_spec hown hlink e.platform hpl
  cases Option.some.inj (hc4.symm.trans hc5)
  obtain ⟨vm', X', st⟩ := X.thenCaughtThrough q (g := F0 m pc ls rest) rfl (Steps.refl _) (by rw [hT]; exact hcell) (by rw [hv]; rfl) (by obtain ⟨k9, h9, -⟩ := Vm.findClass_spec hcl; exact ⟨k9, h9⟩) pre x suf hsplit
    (fun z hz => by
      rcases hpass z hz with h | ⟨hz0, nm, hl1, hn1⟩
      · exact Or.inl h
      · obtain ⟨c6, hc6, hcl6⟩ := Cond.classLink_spec hown hl1 e.platform hpl
        obtain ⟨a8, b8, h1, h2, h3⟩ := hn1
        cases Option.some.inj (h1.symm.trans hcl)
        cases Option.some.inj (h2.symm.trans hc6)
        exact Or.inr ⟨hz0, _, hcl6, h3⟩) hx (Or.inr ⟨h0, c4, hcl5, hasg⟩)
  obtain ⟨t, a1, b1⟩ := kk (T.setVm vm') hT X'
  exact ⟨t, st.trans a1, b1⟩
end Rows
section Ends
variable {p : Program} {l : Launch} {e : Env} {R : Room} {s : State} {m : MethodId} {args : Array Value} {below : List Frame} {meth : Method} {c : Code} {H : Heap} {locs : List Loc} {cells slots : Nat} {Q : State → Prop}
variable {mc ms : Nat} {free : Addr → Prop} {A0 A1 : Nat → Prop} {H0 : Heap} {a : Array Value} {ls : Array Slot} {st0 rest : List Value}
variable {Qc : Array Value → State → Outcome → State → Prop} {XC : String → State → State → Prop}
/-- what a body that may throw owes at its end -/
def vx_MQ (below : List Frame) (Qc : Array Value → State → Outcome → State → Prop) (XC : String → State → State → Prop) (a : Array Value) (s : State) (mc ms : Nat) (free : Addr → Prop) : State → Prop := fun t =>
  ∃ o, t.status = .running ∧ Ended t below o ∧ vx_Q Qc XC mc ms free a s o t
theorem vx_ret {g : JFrame} {mc ms : Nat} (k : W p l e R s m args below meth c H locs cells slots (MQ below Qc args s mc ms free) g) : W p l e R s m args below meth c H locs cells slots (vx_MQ below Qc XC args s mc ms free) g := by
  intro T hT X
  obtain ⟨t, a1, o, b1, b2, b3, b4⟩ := k T hT X
  exact ⟨t, a1, o, b1, b2, Or.inl ⟨b3, b4⟩⟩
/-- not caught here: it goes on to the caller -/
theorem vx_widen {g : JFrame} {q : Addr} {k n : Nat} (h1 : cells ≤ k) (h2 : slots ≤ n) (kk : vx_W p l e R s m args below meth c H locs k n Q g q) : vx_W p l e R s m args below meth c H locs cells slots Q g q := fun T hT X => kk T hT (stand_widen X h1 h2)
theorem vx_out {pc : Nat} {E : String} {ce : Cell} {q : Addr} {mc ms : Nat} (hout : ∀ x ∈ c.exceptionTable.toList, covers x pc = false) (hlocks : meth.locks = false) (hcell : H[q]? = some ce) (hv : ce.vm = .none) (hcl : s.vm.findClass E = some ce.cls)
    (hx : ∀ t : State, t.heap = H → s.vm.Alike t.vm → XC E s t) (hf : ∀ z ∈ locs, free z.base) (hc : cells ≤ mc) (hs : slots ≤ ms) :
    vx_W p l e R s m args below meth c H locs cells slots (vx_MQ below Qc XC args s mc ms free) (F0 m pc ls rest) q := by
  intro T hT X
  obtain ⟨st1, hrun, hend, hW, hsm⟩ := X.leaveThrown q (g := F0 m pc ls rest) rfl rfl rfl hout hlocks
  have hcell9 : (T.setFrames (.throwing q :: below)).heap[q]? = some ce := by
    show T.heap[q]? = some ce
    rw [hT]; exact hcell
  exact ⟨_, st1, .threw q, hrun, hend, Or.inr ⟨q, rfl, E, ce, locs, hx _ hT hW.alike, hcell9, hv, hcl, hW, hsm.mono hc hs, hf⟩⟩
theorem vx_frame {U : State} {k n : Nat} (h : s.sameButNew ({ U with vm := s.vm } : State) locs k n) : s.heap.size ≤ U.heap.size ∧ ∀ q : Nat, q < s.heap.size → (∀ z ∈ locs, z.base ≠ q) → U.heap[q]? = s.heap[q]? := by
  obtain ⟨-, h2, -, -, -, h6⟩ := h
  refine ⟨h2, fun q hq hz => ?_⟩
  obtain ⟨c9, e1, e2, e3, e4⟩ := h6 q _ (Array.getElem?_eq_getElem hq)
  have hs : c9.slots = (s.heap[q]).slots := Array.ext_getElem? fun i => e4 i fun hm => hz _ hm rfl
  have h9 : c9 = s.heap[q] := by
    rw [hs] at e2
    exact e2
  have e5 : U.heap[q]? = some c9 := e1
  rw [e5, h9, Array.getElem?_eq_getElem hq]
/-- the words of a throw but the four that speak of the heap -/
def vx_no (w : Cond) : Bool := decide (w ≠ .isRef (.static Bundle.tN "UNASSIGNED_STACK" Bundle.steD)) && decide (w ≠ .isRef (.static Bundle.tN "SUPPRESSED_SENTINEL" Bundle.listD)) && decide (w ≠ .laysStatic Bundle.tN "UNASSIGNED_STACK" Bundle.steD) && decide (w ≠ .laysStatic Bundle.tN "SUPPRESSED_SENTINEL" Bundle.listD)
def vx_at0 (own : String) (ic : Nat) (X : String) (names : List String) : List Cond := (Bundle.ownAtoms0 own ic X names).filter vx_no
def vx_atS (own : String) (ic : Nat) (X : String) (names : List String) : List Cond := (Bundle.ownAtoms own ic X names).filter vx_no
/-- a word that the tables alone decide, or a good one -/
def vx_ot (w : Cond) : Bool := w.onTables || goodWord w
theorem vx_ot_at {args a' : Array Value} {s U : State} {w : Cond} (hW : s.WarmedH U.vm) (hvm : s.vm = U.vm) (hg : vx_ot w = true) (h : w.before args s = true) : w.before a' U = true := by
  simp only [vx_ot, Bool.or_eq_true] at hg
  rcases hg with hg | hg
  · exact va_tabs hg hvm h
  · exact word_at hW (good_of_word hg) h
/-- a list's words: the good ones out of the method's own list, the others by premises of their own -/
theorem vx_hat {args : Array Value} {s : State} {L B : List Cond} (h1 : ∀ w ∈ L.filter goodWord, w.before args s = true) (h2 : ∀ w ∈ L.filter (fun w => !goodWord w), w ∈ B) (h3 : ∀ w ∈ B, w.before args s = true) : ∀ w ∈ L, w.before args s = true := by
  intro w hw
  by_cases g : goodWord w = true
  · exact h1 w (List.mem_filter.mpr ⟨hw, g⟩)
  · refine h3 w (h2 w (List.mem_filter.mpr ⟨hw, ?_⟩))
    show (!goodWord w) = true
    cases hgw : goodWord w
    · rfl
    · exact absurd hgw g
theorem vx_c {args : Array Value} {s : State} {w : Cond} {B : List Cond} (h : w.before args s = true) (t : ∀ w ∈ B, w.before args s = true) : ∀ w' ∈ w :: B, w'.before args s = true := fun w' h' => (List.mem_cons.mp h').elim (fun e => by rw [e]; exact h) (t w')
theorem vx_n {args : Array Value} {s : State} : ∀ w ∈ ([] : List Cond), w.before args s = true := fun _ h => nomatch h
theorem vx_own {args : Array Value} {s : State} {L : List Cond} (h1 : ∀ w ∈ L.filter vx_no, w.before args s = true)
    (hU : (Cond.isRef (.static Bundle.tN "UNASSIGNED_STACK" Bundle.steD)).before args s = true) (hN : (Cond.isRef (.static Bundle.tN "SUPPRESSED_SENTINEL" Bundle.listD)).before args s = true)
    (lU : (Cond.laysStatic Bundle.tN "UNASSIGNED_STACK" Bundle.steD).before args s = true) (lN : (Cond.laysStatic Bundle.tN "SUPPRESSED_SENTINEL" Bundle.listD).before args s = true) : ∀ w ∈ L, w.before args s = true := by
  intro w hw
  by_cases e1 : w = .isRef (.static Bundle.tN "UNASSIGNED_STACK" Bundle.steD)
  · rw [e1]; exact hU
  · by_cases e2 : w = .isRef (.static Bundle.tN "SUPPRESSED_SENTINEL" Bundle.listD)
    · rw [e2]; exact hN
    · by_cases e3 : w = .laysStatic Bundle.tN "UNASSIGNED_STACK" Bundle.steD
      · rw [e3]; exact lU
      · by_cases e4 : w = .laysStatic Bundle.tN "SUPPRESSED_SENTINEL" Bundle.listD
        · rw [e4]; exact lN
        · exact h1 w (List.mem_filter.mpr ⟨hw, by unfold vx_no; rw [decide_eq_true e1, decide_eq_true e2, decide_eq_true e3, decide_eq_true e4]; rfl⟩)
/-- where a static field lies, its class's statics cell in H -/
def vx_L (C n d : String) (A : Nat → Prop) (U : State) (H : Heap) : Prop := ∃ (c : ClassId) (k : Class) (i : Nat) (f : Field) (a : Nat) (cell : Cell), U.vm.findClass C = some c ∧ U.fieldFound? C n d = some (c, k, i, f) ∧ f.isStatic = true ∧ k.statics = some a ∧ H[a]? = some cell ∧ cell.vm.isStatics = true ∧ cell.cls = c ∧ f.slot < cell.slots.size ∧ k.staticTypes[f.slot]? = some f.type ∧ ¬ A a
theorem vx_L.moved {C n d : String} {A : Nat → Prop} {u U : State} {H : Heap} (hvm : u.vm.Alike U.vm) (h : vx_L C n d A u H) : vx_L C n d A U H := by
  obtain ⟨c, k, i, f, a, cell, h1, h2, h3, h4, h5, h6, h7, h8, h9, h10⟩ := h
  obtain ⟨k', hi', he⟩ := State.fieldFound?_setVm hvm h2
  exact ⟨c, k', i, f, a, cell, by rw [hvm.findClass]; exact h1, hi', h3, by rw [he]; exact h4, h5, h6, h7, h8, by rw [he]; exact h9, h10⟩
theorem vx_L.kept {C n d : String} {A : Nat → Prop} {U : State} {H H1 : Heap} (h : vx_L C n d A U H) (hq : ∀ a : Nat, a < H.size → ¬ A a → H1[a]? = H[a]?) : vx_L C n d A U H1 := by
  obtain ⟨c, k, i, f, a, cell, h1, h2, h3, h4, h5, h6, h7, h8, h9, h10⟩ := h
  exact ⟨c, k, i, f, a, cell, h1, h2, h3, h4, by rw [hq a (Array.getElem?_eq_some_iff.mp h5).1 h10]; exact h5, h6, h7, h8, h9, h10⟩
theorem vx_L.narrow {C n d : String} {A B : Nat → Prop} {U : State} {H : Heap} (h : vx_L C n d A U H) (hAB : ∀ q, B q → A q) : vx_L C n d B U H := by
  obtain ⟨c, k, i, f, a, cell, h1, h2, h3, h4, h5, h6, h7, h8, h9, h10⟩ := h
  exact ⟨c, k, i, f, a, cell, h1, h2, h3, h4, h5, h6, h7, h8, h9, fun z => h10 (hAB _ z)⟩
theorem vx_L.word {C n d : String} {A : Nat → Prop} {s : State} {args : Array Value} (h : vx_L C n d A s s.heap) : (Cond.laysStatic C n d).before args s = true := by
  obtain ⟨c, k, i, f, a, cell, h1, h2, h3, h4, h5, h6, h7, h8, h9, -⟩ := h
  show (Cond.laysStatic C n d).holds args s none s [] = true
  exact Cond.laysStatic_of h1 h2 h3 h4 h5 h6 h7 h8 h9
/-- .. and what it holds: null or some reference -/
def vx_Zq (C n d : String) (A : Nat → Prop) (U : State) (H : Heap) : Prop := va_Zq C n d A U H ∧ vx_L C n d A U H
theorem vx_Zq.moved {C n d : String} {A : Nat → Prop} {u U : State} {H : Heap} (hvm : u.vm.Alike U.vm) (h : vx_Zq C n d A u H) : vx_Zq C n d A U H := ⟨va_Zq.moved hvm h.1, vx_L.moved hvm h.2⟩
theorem vx_Zq.kept {C n d : String} {A : Nat → Prop} {U : State} {H H1 : Heap} (h : vx_Zq C n d A U H) (hq : ∀ a : Nat, a < H.size → ¬ A a → H1[a]? = H[a]?) : vx_Zq C n d A U H1 := ⟨va_Zq.kept h.1 hq, vx_L.kept h.2 hq⟩
theorem vx_Zq.narrow {C n d : String} {A B : Nat → Prop} {U : State} {H : Heap} (h : vx_Zq C n d A U H) (hAB : ∀ q, B q → A q) : vx_Zq C n d B U H := ⟨va_Zq.narrow h.1 hAB, vx_L.narrow h.2 hAB⟩
theorem vx_Zqof {args : Array Value} {s : State} {C n d : String} {A : Nat → Prop} (hl : (Cond.laysStatic C n d).before args s = true) (hini : (Cond.initialized C).before args s = true) (h : (Cond.isRef (.static C n d)).before args s = true) (hA : ∀ a : Nat, a < s.heap.size → ¬ A a) : vx_Zq C n d A s s.heap := by
  refine ⟨va_Zqof hl hini h hA, ?_⟩
  obtain ⟨c, k, i, f, a, cell, h1, h2, h3, h4, h5, h6, h7, h8, h9⟩ := Cond.laysStatic_spec hl
  exact ⟨c, k, i, f, a, cell, h1, h2, h3, h4, h5, h6, h7, h8, h9, hA a (Array.getElem?_eq_some_iff.mp h5).1⟩
theorem vx_isRef {C n d : String} {v : Value} {A : Nat → Prop} {s : State} {args : Array Value} (h : va_Z C n d v A s s.heap) (hv : v.isRef = true) : (Cond.isRef (.static C n d)).before args s = true := by
  obtain ⟨cf, kf, fi, f, a, cell, h1, h2, h3, h4, h5, h6, h7, -⟩ := h
  have he : (Term.static C n d).eval args s none [] s = some v := by
    simp [Term.eval, State.fieldNamed?, h1, h2, h4, h5, h6, h7]
  simp only [Cond.before, Cond.holds, Cond.value, he]
  cases v <;> simp_all [Value.isRef]
theorem vx_isRefq {C n d : String} {A : Nat → Prop} {s : State} {args : Array Value} (h : va_Zq C n d A s s.heap) : (Cond.isRef (.static C n d)).before args s = true := by
  rcases h with h | ⟨t, h⟩
  · exact vx_isRef h rfl
  · exact vx_isRef h rfl
/-- the same frame, seen from here: as if the method were called anew in this heap -/
theorem vx_rebase {T : State} (X : Stand p l e R s m args below meth c T locs cells slots) {R' : Room} (hf : R'.frames ≤ R.frames) (hl : R'.locals ≤ R.locals) (hc : cells + R'.cells ≤ R.cells) (hs : slots + R'.slots ≤ R.slots) :
    Stand p l e R' ((T.setVm s.vm).setFrames (.invoking m args :: below)) m args below meth c T [] 0 0 := by
  have htop : (T.setVm s.vm).topJava?.isSome := X.here.top
  have hF : ((T.setVm s.vm).setFrames (.invoking m args :: below)).frames = .invoking m args :: below := State.frames_setFrames _ (State.cur_lt_of_top htop)
  obtain ⟨g₀, hg0⟩ := Option.isSome_iff_exists.mp htop
  obtain ⟨r, hr⟩ := State.topJava?_eq_some.mp hg0
  have hl9 : e.platform.stackLimits (T.setVm s.vm).me = e.platform.stackLimits s.me := X.limits
  have hb9 : (T.setVm s.vm).me.stackBytes = s.me.stackBytes := X.bytes
  refine ⟨X.admits, X.cas, X.clock, hF, ?_, X.hears, X.method, X.code, X.here, X.tail, X.warmed, ?_, ?_, ?_⟩
  · have h := X.room
    have hU : ((T.setVm s.vm).setFrames (.invoking m args :: below)).localsInUse = s.localsInUse := by
      rw [State.localsInUse_invoking hF (meth := meth) (c := c) X.method X.code, State.localsInUse_invoking X.frames X.method X.code]
    simp only [State.hasRoom, Bool.and_eq_true, decide_eq_true_eq] at h ⊢
    obtain ⟨⟨⟨⟨h1, h2, h3, h4, h5, h6⟩, h7⟩, h8⟩, h9⟩ := h
    rw [X.frames, List.length_cons] at h2 h3
    have q1 := X.heapSize
    have q2 := X.used
    simp only [hF, hU, List.length_cons, State.stackLimits_setFrames, State.stackBytes_setFrames, hl9, hb9]
    refine ⟨⟨⟨⟨by omega, by omega, by omega, by omega, by omega, h6⟩, ?_⟩, ?_⟩, X.book⟩
    · show T.heap.size + R'.cells ≤ e.platform.maxCells
      omega
    · show T.slotsUsed + R'.slots ≤ e.platform.maxSlots
      omega
  · rw [State.stackLimits_setFrames]; rfl
  · rw [State.stackBytes_setFrames]; rfl
  · refine ⟨?_, Nat.le_refl _, Nat.le_refl _, ?_, ?_, fun a c9 h9 => ⟨c9, h9, rfl, rfl, fun _ _ => rfl⟩⟩
    · obtain ⟨t, ht, -⟩ := State.frames_cons hr
      show T.setVm s.vm = { ((T.setVm s.vm).setFrames (.invoking m args :: below)).setFrames (T.setVm s.vm).frames with heap := T.heap, slotsUsed := T.slotsUsed }
      rw [State.setFrames_setFrames, State.setFrames_self ht]
      rfl
    · show T.slotsUsed = T.slotsUsed + ((T.heap.toList.drop T.heap.size).map (·.slots.size)).sum
      rw [List.drop_eq_nil_of_le (Nat.le_of_eq Array.length_toList)]
      rfl
    · show ((T.heap.toList.drop T.heap.size).map (·.slots.size)).sum ≤ 0
      rw [List.drop_eq_nil_of_le (Nat.le_of_eq Array.length_toList)]
      exact Nat.le_refl _
/-- 'throw new E()': new; dup; invokespecial; athrow -/
theorem vx_throw0 {cc : ByteArray} {pc : Nat} (hexec : p.tables.exec = Jvm.exec) (hb : c.code = cc) (hl : l.stackTraces = false) {own cls : String} {names : List String} {ik ic mc ms : Nat} {A : Nat → Prop}
    (hown : s.vm.findClass own = some m.cls) (hcls : Bundle.fit cls = true) (hnames : ∀ n ∈ names, Bundle.fit n = true)
    (hk : (Cond.classLink own ik cls).before args s = true) (hini : (Cond.initialized cls).before args s = true) (hat : ∀ w ∈ vx_at0 own ic cls names, w.before args s = true)
    (hgood : ∀ w ∈ Cond.classLink own ik cls :: Cond.initialized cls :: vx_at0 own ic cls names, vx_ot w = true)
    (hU : vx_Zq Bundle.tN "UNASSIGNED_STACK" Bundle.steD A s s.heap) (hN : vx_Zq Bundle.tN "SUPPRESSED_SENTINEL" Bundle.listD A s s.heap) (hS : va_S A s.heap H locs) (hsize : ls.size = c.maxLocals)
    (d0 : decode cc pc = .ok (.new ik, 3)) (d3 : decode cc (pc + 3) = .ok (.dup, 1)) (d4 : decode cc (pc + 4) = .ok (.invokespecial ic, 3)) (d7 : decode cc (pc + 7) = .ok (.athrow, 1))
    (hout : ∀ x ∈ c.exceptionTable.toList, covers x (pc + 7) = false)
    (hRframes : names.length + 3 < R.frames) (hRlocals : (rest.map fun v => v.category).sum + (13 * (names.length + 1) + 42) ≤ R.locals) (hRcells : cells + 1 ≤ R.cells) (hRslots : slots + 6 ≤ R.slots) (hlocks : meth.locks = false)
    (hx : ∀ t : State, s.vm.Alike t.vm → H.size ≤ t.heap.size → (∀ q : Nat, q < H.size → t.heap[q]? = H[q]?) → XC cls s t)
    (hf : ∀ z ∈ locs, free z.base) (hc : cells + 1 ≤ mc) (hs : slots + 6 ≤ ms) :
    W p l e R s m args below meth c H locs cells slots (vx_MQ below Qc XC args s mc ms free) (F0 m pc ls rest) := by
  intro T hT X
  have htr : e.platform.stackTraces = false := (show e.platform.stackTraces = l.stackTraces by rw [X.admits.platform]).trans hl
  have Y := vx_rebase X (R' := { frames := R.frames, locals := R.locals, cells := 1, slots := 6 }) (Nat.le_refl _) (Nat.le_refl _) hRcells hRslots
  obtain ⟨s', hA⟩ : ∃ z, z = (T.setVm s.vm).setFrames (.invoking m args :: below) := ⟨_, rfl⟩
  rw [← hA] at Y
  have hvm : s'.vm = s.vm := by rw [hA]; rfl
  have hhp : s'.heap = H := by rw [hA]; exact hT
  have hW0 : s.WarmedH s'.vm := by rw [hvm]; exact State.WarmedH.refl s
  have hat' : ∀ w ∈ vx_at0 own ic cls names, w.before args s' = true := fun w hw => vx_ot_at hW0 hvm.symm (hgood w (List.mem_cons_of_mem _ (List.mem_cons_of_mem _ hw))) (hat w hw)
  have hk' : (Cond.classLink own ik cls).before args s' = true := vx_ot_at hW0 hvm.symm (hgood _ List.mem_cons_self) hk
  have hini' : (Cond.initialized cls).before args s' = true := vx_ot_at hW0 hvm.symm (hgood _ (List.mem_cons_of_mem _ List.mem_cons_self)) hini
  have hU' : vx_Zq Bundle.tN "UNASSIGNED_STACK" Bundle.steD A s' s'.heap := by rw [hhp]; exact vx_Zq.moved hW0.alike (hU.kept hS.2.1)
  have hN' : vx_Zq Bundle.tN "SUPPRESSED_SENTINEL" Bundle.listD A s' s'.heap := by rw [hhp]; exact vx_Zq.moved hW0.alike (hN.kept hS.2.1)
  have h : ∀ w ∈ Bundle.ownAtoms0 own ic cls names, w.before args s' = true := vx_own hat' (vx_isRefq hU'.1) (vx_isRefq hN'.1) hU'.2.word hN'.2.word
  have hown' : s'.vm.findClass own = some m.cls := by rw [hvm]; exact hown
  have hins : (Cond.instantiable cls 6).before args s' = true := h _ (by simp [Bundle.ownAtoms0])
  obtain ⟨vm₁, cX, kX, hfX, hkX, -, -, X₁, st1⟩ := Y.newCold hexec (own := own) (C := cls) (index := ik) (n := 6) hown' hk' hins hini'
    (g := F0 m pc ls rest) rfl (by rw [hb]; exact d0) (Nat.le_refl _) (Nat.le_refl _)
  generalize hT1 : (T.setVm vm₁).pushCell { cls := cX, slots := kX.instanceTypes.map defaultValue, vm := .none } = T1 at X₁ st1
  have hcat : (Value.ref T.heap.size).category = 1 := rfl
  have hcellA : T1.heap[T.heap.size]? = some (freshCell cX kX) := by rw [← hT1]; exact State.heap_pushCell_size _ _
  have d3' : decode c.code (pc + 3) = .ok (.dup, 1) := by rw [hb]; exact d3
  obtain ⟨U, hsteps, hrun, hend, hW, hsame, ce, hce, hO⟩ := X₁.ctorThrow0 hexec htr (own := own) (cls := cls) (names := names) (ic := ic) hown' hcls hnames h (fun x hx => nomatch hx) hfX hkX hcellA (by rw [hhp, hT]; exact Nat.le_refl _)
    (g := { method := m, pc := pc + 4, locals := ls, stack := .ref T.heap.size :: .ref T.heap.size :: rest, locked := none }) rfl hsize rfl rfl (rest := rest) rfl
    (by rw [hb]; exact d4) (by rw [hb]; exact d7) hout hRframes (by simp only [List.map_cons, List.sum_cons, hcat]; omega) hlocks
  obtain ⟨f1, f2⟩ := vx_frame hsame
  rw [hhp] at f1 f2
  have hWs : s.WarmedH U.vm := State.WarmedH.trans hW0 hW
  have hcl : s.vm.findClass cls = some ce.cls := by
    have h9 := hO.cls
    rw [hvm] at h9
    exact h9
  have hall : s.sameButNew ({ U with vm := s.vm } : State) locs mc ms := by
    subst hA
    obtain ⟨e1, e2⟩ := hsame
    rw [State.setFrames_setFrames] at e1
    have h2 : (T.setVm s.vm).sameButNew ({ U with vm := s.vm } : State) [] (0 + 1) (0 + 6) := ⟨e1, e2⟩
    have h3 := X.same.trans h2
    rw [List.append_nil] at h3
    exact h3.mono hc hs
  refine ⟨U, ?_, .threw T.heap.size, hrun, hend, Or.inr ⟨T.heap.size, rfl, cls, ce, locs, hx U hWs.alike f1 (fun q hq => f2 q hq (fun z hz => nomatch hz)), hce, hO.vm, hcl, hWs, hall, hf⟩⟩
  refine st1 _ ?_
  show Steps p.tables e below (T1.setTop { method := m, pc := pc + 3, locals := ls, stack := .ref T.heap.size :: rest, locked := none }) _
  jvm_step X₁.here [X₁.here.top, hexec, d3', Value.category]
  exact hsteps
/-- 'throw new E("text")': new; dup; ldc; invokespecial; athrow -/
theorem vx_throwS {cc : ByteArray} {pc : Nat} (hexec : p.tables.exec = Jvm.exec) (hb : c.code = cc) (hl : l.stackTraces = false) {own cls text : String} {names : List String} {ik is ic mc ms sa : Nat} {A : Nat → Prop}
    (hown : s.vm.findClass own = some m.cls) (hcls : Bundle.fit cls = true) (hnames : ∀ n ∈ names, Bundle.fit n = true)
    (hk : (Cond.classLink own ik cls).before args s = true) (hini : (Cond.initialized cls).before args s = true) (hstr : vk_R own is text sa s) (hat : ∀ w ∈ vx_atS own ic cls names, w.before args s = true)
    (hgood : ∀ w ∈ Cond.classLink own ik cls :: Cond.initialized cls :: vx_atS own ic cls names, vx_ot w = true)
    (hU : vx_Zq Bundle.tN "UNASSIGNED_STACK" Bundle.steD A s s.heap) (hN : vx_Zq Bundle.tN "SUPPRESSED_SENTINEL" Bundle.listD A s s.heap) (hS : va_S A s.heap H locs) (hsize : ls.size = c.maxLocals)
    (d0 : decode cc pc = .ok (.new ik, 3)) (d3 : decode cc (pc + 3) = .ok (.dup, 1)) (d4 : decode cc (pc + 4) = .ok (.ldc is, 2)) (d6 : decode cc (pc + 6) = .ok (.invokespecial ic, 3)) (d9 : decode cc (pc + 9) = .ok (.athrow, 1))
    (hout : ∀ x ∈ c.exceptionTable.toList, covers x (pc + 9) = false)
    (hRframes : names.length + 3 < R.frames) (hRlocals : (rest.map fun v => v.category).sum + (13 * (names.length + 1) + 43) ≤ R.locals) (hRcells : cells + 1 ≤ R.cells) (hRslots : slots + 6 ≤ R.slots) (hlocks : meth.locks = false)
    (hx : ∀ t : State, s.vm.Alike t.vm → H.size ≤ t.heap.size → (∀ q : Nat, q < H.size → t.heap[q]? = H[q]?) → XC cls s t)
    (hf : ∀ z ∈ locs, free z.base) (hc : cells + 1 ≤ mc) (hs : slots + 6 ≤ ms) :
    W p l e R s m args below meth c H locs cells slots (vx_MQ below Qc XC args s mc ms free) (F0 m pc ls rest) := by
  intro T hT X
  have htr : e.platform.stackTraces = false := (show e.platform.stackTraces = l.stackTraces by rw [X.admits.platform]).trans hl
  have Y := vx_rebase X (R' := { frames := R.frames, locals := R.locals, cells := 1, slots := 6 }) (Nat.le_refl _) (Nat.le_refl _) hRcells hRslots
  obtain ⟨s', hA⟩ : ∃ z, z = (T.setVm s.vm).setFrames (.invoking m args :: below) := ⟨_, rfl⟩
  rw [← hA] at Y
  have hvm : s'.vm = s.vm := by rw [hA]; rfl
  have hhp : s'.heap = H := by rw [hA]; exact hT
  have hW0 : s.WarmedH s'.vm := by rw [hvm]; exact State.WarmedH.refl s
  have hat' : ∀ w ∈ vx_atS own ic cls names, w.before args s' = true := fun w hw => vx_ot_at hW0 hvm.symm (hgood w (List.mem_cons_of_mem _ (List.mem_cons_of_mem _ hw))) (hat w hw)
  have hk' : (Cond.classLink own ik cls).before args s' = true := vx_ot_at hW0 hvm.symm (hgood _ List.mem_cons_self) hk
  have hini' : (Cond.initialized cls).before args s' = true := vx_ot_at hW0 hvm.symm (hgood _ (List.mem_cons_of_mem _ List.mem_cons_self)) hini
  have hU' : vx_Zq Bundle.tN "UNASSIGNED_STACK" Bundle.steD A s' s'.heap := by rw [hhp]; exact vx_Zq.moved hW0.alike (hU.kept hS.2.1)
  have hN' : vx_Zq Bundle.tN "SUPPRESSED_SENTINEL" Bundle.listD A s' s'.heap := by rw [hhp]; exact vx_Zq.moved hW0.alike (hN.kept hS.2.1)
  have h : ∀ w ∈ Bundle.ownAtoms own ic cls names, w.before args s' = true := vx_own hat' (vx_isRefq hU'.1) (vx_isRefq hN'.1) hU'.2.word hN'.2.word
  have hown' : s'.vm.findClass own = some m.cls := by rw [hvm]; exact hown
  have hins : (Cond.instantiable cls 6).before args s' = true := h _ (by simp [Bundle.ownAtoms])
  obtain ⟨vm₁, cX, kX, hfX, hkX, -, -, X₁, st1⟩ := Y.newCold hexec (own := own) (C := cls) (index := ik) (n := 6) hown' hk' hins hini'
    (g := F0 m pc ls rest) rfl (by rw [hb]; exact d0) (Nat.le_refl _) (Nat.le_refl _)
  generalize hT1 : (T.setVm vm₁).pushCell { cls := cX, slots := kX.instanceTypes.map defaultValue, vm := .none } = T1 at X₁ st1
  have hcat : (Value.ref T.heap.size).category = 1 := rfl
  have hcellA : T1.heap[T.heap.size]? = some (freshCell cX kX) := by rw [← hT1]; exact State.heap_pushCell_size _ _
  have d3' : decode c.code (pc + 3) = .ok (.dup, 1) := by rw [hb]; exact d3
  have d4' : decode c.code (pc + 4) = .ok (.ldc is, 2) := by rw [hb]; exact d4
  have hstr' : vk_R own is text sa s' := vk_R.warm hW0 hstr
  obtain ⟨U, hsteps, hrun, hend, hW, hsame, ce, hce, hO⟩ := X₁.ctorThrowS hexec htr (own := own) (cls := cls) (names := names) (ic := ic) hown' hcls hnames h (fun x hx => nomatch hx) hfX hkX hcellA (by rw [hhp, hT]; exact Nat.le_refl _) (msg := .ref sa) rfl
    (g := { method := m, pc := pc + 6, locals := ls, stack := .ref sa :: .ref T.heap.size :: .ref T.heap.size :: rest, locked := none }) rfl hsize rfl rfl (rest := rest) rfl
    (by rw [hb]; exact d6) (by rw [hb]; exact d9) hout hRframes (by simp only [List.map_cons, List.sum_cons, hcat]; omega) hlocks
  obtain ⟨f1, f2⟩ := vx_frame hsame
  rw [hhp] at f1 f2
  have hWs : s.WarmedH U.vm := State.WarmedH.trans hW0 hW
  have hcl : s.vm.findClass cls = some ce.cls := by
    have h9 := hO.cls
    rw [hvm] at h9
    exact h9
  have hall : s.sameButNew ({ U with vm := s.vm } : State) locs mc ms := by
    subst hA
    obtain ⟨e1, e2⟩ := hsame
    rw [State.setFrames_setFrames] at e1
    have h2 : (T.setVm s.vm).sameButNew ({ U with vm := s.vm } : State) [] (0 + 1) (0 + 6) := ⟨e1, e2⟩
    have h3 := X.same.trans h2
    rw [List.append_nil] at h3
    exact h3.mono hc hs
  refine ⟨U, ?_, .threw T.heap.size, hrun, hend, Or.inr ⟨T.heap.size, rfl, cls, ce, locs, hx U hWs.alike f1 (fun q hq => f2 q hq (fun z hz => nomatch hz)), hce, hO.vm, hcl, hWs, hall, hf⟩⟩
  refine st1 _ ?_
  show Steps p.tables e below (T1.setTop { method := m, pc := pc + 3, locals := ls, stack := .ref T.heap.size :: rest, locked := none }) _
  jvm_step X₁.here [X₁.here.top, hexec, d3', Value.category]
  exact X₁.ldcString hexec (own := own) (text := text) (index := is) (a := sa) hown' hstr'.1 hstr'.2
    (g := { method := m, pc := pc + 4, locals := ls, stack := .ref T.heap.size :: .ref T.heap.size :: rest, locked := none }) rfl d4' _ hsteps
/-- 'throw new E("text")', the text by a wide index -/
theorem vx_throwSW {cc : ByteArray} {pc : Nat} (hexec : p.tables.exec = Jvm.exec) (hb : c.code = cc) (hl : l.stackTraces = false) {own cls text : String} {names : List String} {ik is ic mc ms sa : Nat} {A : Nat → Prop}
    (hown : s.vm.findClass own = some m.cls) (hcls : Bundle.fit cls = true) (hnames : ∀ n ∈ names, Bundle.fit n = true)
    (hk : (Cond.classLink own ik cls).before args s = true) (hini : (Cond.initialized cls).before args s = true) (hstr : vk_R own is text sa s) (hat : ∀ w ∈ vx_atS own ic cls names, w.before args s = true)
    (hgood : ∀ w ∈ Cond.classLink own ik cls :: Cond.initialized cls :: vx_atS own ic cls names, vx_ot w = true)
    (hU : vx_Zq Bundle.tN "UNASSIGNED_STACK" Bundle.steD A s s.heap) (hN : vx_Zq Bundle.tN "SUPPRESSED_SENTINEL" Bundle.listD A s s.heap) (hS : va_S A s.heap H locs) (hsize : ls.size = c.maxLocals)
    (d0 : decode cc pc = .ok (.new ik, 3)) (d3 : decode cc (pc + 3) = .ok (.dup, 1)) (d4 : decode cc (pc + 4) = .ok (.ldc_w is, 3)) (d7 : decode cc (pc + 7) = .ok (.invokespecial ic, 3)) (d10 : decode cc (pc + 10) = .ok (.athrow, 1))
    (hout : ∀ x ∈ c.exceptionTable.toList, covers x (pc + 10) = false)
    (hRframes : names.length + 3 < R.frames) (hRlocals : (rest.map fun v => v.category).sum + (13 * (names.length + 1) + 43) ≤ R.locals) (hRcells : cells + 1 ≤ R.cells) (hRslots : slots + 6 ≤ R.slots) (hlocks : meth.locks = false)
    (hx : ∀ t : State, s.vm.Alike t.vm → H.size ≤ t.heap.size → (∀ q : Nat, q < H.size → t.heap[q]? = H[q]?) → XC cls s t)
    (hf : ∀ z ∈ locs, free z.base) (hc : cells + 1 ≤ mc) (hs : slots + 6 ≤ ms) :
    W p l e R s m args below meth c H locs cells slots (vx_MQ below Qc XC args s mc ms free) (F0 m pc ls rest) := by
  intro T hT X
  have htr : e.platform.stackTraces = false := (show e.platform.stackTraces = l.stackTraces by rw [X.admits.platform]).trans hl
  have Y := vx_rebase X (R' := { frames := R.frames, locals := R.locals, cells := 1, slots := 6 }) (Nat.le_refl _) (Nat.le_refl _) hRcells hRslots
  obtain ⟨s', hA⟩ : ∃ z, z = (T.setVm s.vm).setFrames (.invoking m args :: below) := ⟨_, rfl⟩
  rw [← hA] at Y
  have hvm : s'.vm = s.vm := by rw [hA]; rfl
  have hhp : s'.heap = H := by rw [hA]; exact hT
  have hW0 : s.WarmedH s'.vm := by rw [hvm]; exact State.WarmedH.refl s
  have hat' : ∀ w ∈ vx_atS own ic cls names, w.before args s' = true := fun w hw => vx_ot_at hW0 hvm.symm (hgood w (List.mem_cons_of_mem _ (List.mem_cons_of_mem _ hw))) (hat w hw)
  have hk' : (Cond.classLink own ik cls).before args s' = true := vx_ot_at hW0 hvm.symm (hgood _ List.mem_cons_self) hk
  have hini' : (Cond.initialized cls).before args s' = true := vx_ot_at hW0 hvm.symm (hgood _ (List.mem_cons_of_mem _ List.mem_cons_self)) hini
  have hU' : vx_Zq Bundle.tN "UNASSIGNED_STACK" Bundle.steD A s' s'.heap := by rw [hhp]; exact vx_Zq.moved hW0.alike (hU.kept hS.2.1)
  have hN' : vx_Zq Bundle.tN "SUPPRESSED_SENTINEL" Bundle.listD A s' s'.heap := by rw [hhp]; exact vx_Zq.moved hW0.alike (hN.kept hS.2.1)
  have h : ∀ w ∈ Bundle.ownAtoms own ic cls names, w.before args s' = true := vx_own hat' (vx_isRefq hU'.1) (vx_isRefq hN'.1) hU'.2.word hN'.2.word
  have hown' : s'.vm.findClass own = some m.cls := by rw [hvm]; exact hown
  have hins : (Cond.instantiable cls 6).before args s' = true := h _ (by simp [Bundle.ownAtoms])
  obtain ⟨vm₁, cX, kX, hfX, hkX, -, -, X₁, st1⟩ := Y.newCold hexec (own := own) (C := cls) (index := ik) (n := 6) hown' hk' hins hini'
    (g := F0 m pc ls rest) rfl (by rw [hb]; exact d0) (Nat.le_refl _) (Nat.le_refl _)
  generalize hT1 : (T.setVm vm₁).pushCell { cls := cX, slots := kX.instanceTypes.map defaultValue, vm := .none } = T1 at X₁ st1
  have hcat : (Value.ref T.heap.size).category = 1 := rfl
  have hcellA : T1.heap[T.heap.size]? = some (freshCell cX kX) := by rw [← hT1]; exact State.heap_pushCell_size _ _
  have d3' : decode c.code (pc + 3) = .ok (.dup, 1) := by rw [hb]; exact d3
  have d4' : decode c.code (pc + 4) = .ok (.ldc_w is, 3) := by rw [hb]; exact d4
  have hstr' : vk_R own is text sa s' := vk_R.warm hW0 hstr
  obtain ⟨U, hsteps, hrun, hend, hW, hsame, ce, hce, hO⟩ := X₁.ctorThrowS hexec htr (own := own) (cls := cls) (names := names) (ic := ic) hown' hcls hnames h (fun x hx => nomatch hx) hfX hkX hcellA (by rw [hhp, hT]; exact Nat.le_refl _) (msg := .ref sa) rfl
    (g := { method := m, pc := pc + 7, locals := ls, stack := .ref sa :: .ref T.heap.size :: .ref T.heap.size :: rest, locked := none }) rfl hsize rfl rfl (rest := rest) rfl
    (by rw [hb]; exact d7) (by rw [hb]; exact d10) hout hRframes (by simp only [List.map_cons, List.sum_cons, hcat]; omega) hlocks
  obtain ⟨f1, f2⟩ := vx_frame hsame
  rw [hhp] at f1 f2
  have hWs : s.WarmedH U.vm := State.WarmedH.trans hW0 hW
  have hcl : s.vm.findClass cls = some ce.cls := by
    have h9 := hO.cls
    rw [hvm] at h9
    exact h9
  have hall : s.sameButNew ({ U with vm := s.vm } : State) locs mc ms := by
    subst hA
    obtain ⟨e1, e2⟩ := hsame
    rw [State.setFrames_setFrames] at e1
    have h2 : (T.setVm s.vm).sameButNew ({ U with vm := s.vm } : State) [] (0 + 1) (0 + 6) := ⟨e1, e2⟩
    have h3 := X.same.trans h2
    rw [List.append_nil] at h3
    exact h3.mono hc hs
  refine ⟨U, ?_, .threw T.heap.size, hrun, hend, Or.inr ⟨T.heap.size, rfl, cls, ce, locs, hx U hWs.alike f1 (fun q hq => f2 q hq (fun z hz => nomatch hz)), hce, hO.vm, hcl, hWs, hall, hf⟩⟩
  refine st1 _ ?_
  show Steps p.tables e below (T1.setTop { method := m, pc := pc + 3, locals := ls, stack := .ref T.heap.size :: rest, locked := none }) _
  jvm_step X₁.here [X₁.here.top, hexec, d3', Value.category]
  exact X₁.ldcStringW hexec (own := own) (text := text) (index := is) (a := sa) hown' hstr'.1 hstr'.2
    (g := { method := m, pc := pc + 4, locals := ls, stack := .ref T.heap.size :: .ref T.heap.size :: rest, locked := none }) rfl d4' _ hsteps
end Ends
section Bodies
variable {l : Launch}
theorem vx_ofW {y : MethodName} {ws ws' : List Cond} {rm : Room} {Pc : Array Value → State → Prop} {Qc : Array Value → State → Outcome → State → Prop} {XC : String → State → State → Prop} {mc ms : Nat} {free : Addr → Prop} {cc : ByteArray} {maxL : Nat} {ret : Option FieldType}
    (hy : plainName y.cls = true) (hw : ws = Cond.code y cc maxL ret :: ws')
    (body : ∀ p e s m args below meth c s₁, BodyLoose p l y (headSpec ws rm) cc maxL ret e s m args below meth c s₁ → c.maxLocals = maxL → (∀ x ∈ c.exceptionTable.toList, False) → Pc args s →
      W p l e (headSpec ws rm).room s m args below meth c s.heap [] 0 0 (vx_MQ below Qc XC args s mc ms free) (entryFrame m args maxL)) : vx_Met l y ws rm Pc Qc XC mc ms free := by
  refine MetFree.of_bodyS (code := cc) (maxLocals := maxL) (ret := ret) hy ?_ ?_
  · intro args s m h hn
    obtain ⟨meth, c, h1, h2, h3, h4, h5, h6, -, -⟩ := Cond.code_spec hn (atoms_spec (ws := ws) h _ (by rw [hw]; exact List.mem_cons_self))
    exact ⟨meth, c, h1, h2, h3, h4, h5, h6⟩
  · intro p e s m args below meth c s₁ B hml hP _
    have hh0 : s₁.heap = s.heap := by rw [B.state]; rfl
    have ht : ∀ x ∈ c.exceptionTable.toList, False := by
      obtain ⟨meth9, c9, h1, h2, -, -, -, -, h7, -⟩ := Cond.code_spec B.named (atoms_spec (ws := ws) B.pre _ (by rw [hw]; exact List.mem_cons_self))
      cases Option.some.inj (h1.symm.trans B.method)
      cases Option.some.inj (h2.symm.trans (Stand.of_body B).code)
      intro x hx
      rw [Array.isEmpty_iff.mp h7] at hx
      cases hx
    obtain ⟨t, a1, o, b1, b2, b3⟩ := body p e s m args below meth c s₁ B hml ht hP s₁ hh0 (Stand.of_body B)
    exact ⟨t, o, a1, b1, b2, b3⟩
/-- the table of a body with handlers -/
theorem vx_table {p : Program} {x y : MethodName} {S : Spec} {cc bytes : ByteArray} {maxL maxL' : Nat} {ret ret' : Option FieldType} {e : Env} {s s₁ : State} {m : MethodId} {args : Array Value} {below : List Frame} {meth : Method} {c : Code} {hh : List (Nat × Nat × Nat × Nat)}
    (B : BodyLoose p l y S cc maxL ret e s m args below meth c s₁) (h : (Cond.codeWith y bytes maxL' ret' hh).before args s = true) : c.exceptionTable.toList = tableOf hh := by
  obtain ⟨m9, meth9, c9, hn9, h1, h2, -, -, h6, -⟩ := Cond.codeWith_spec h
  cases Option.some.inj (hn9.symm.trans B.named)
  cases Option.some.inj (h1.symm.trans B.method)
  cases Option.some.inj (h2.symm.trans (Stand.of_body B).code)
  rw [← h6, table_eq]
end Bodies
end VXA
/-! ===== END ===== -/
/-! ===== BEGIN a static call of a method with an exception table ===== -/
section VXS
variable {p : Program} {l : Launch} {e : Env} {R : Room} {s : State} {m : MethodId} {args : Array Value} {below : List Frame} {meth : Method} {c : Code} {T : State} {H : Heap} {locs : List Loc} {cells slots : Nat}
abbrev vx_CSW (R : Room) (s : State) (args : Array Value) (own : String) (index : Nat) (y : MethodName) (bytes : ByteArray) (maxL : Nat) (ret : Option FieldType) (hh : List (Nat × Nat × Nat × Nat)) (ws : List Cond) (rm : Room) (mc ms n : Nat) : Prop :=
  (rm.cells = mc ∧ rm.slots = ms ∧ rm.frames + 1 ≤ R.frames ∧ 8 + (maxL + 11) + rm.locals ≤ R.locals ∧ (∀ w ∈ ws, ∀ (a' : Array Value) (U : State), s.WarmedH U.vm → w.before a' U = true) ∧ Cond.codeWith y bytes maxL ret hh ∈ ws) ∧
  (Cond.codeWith y bytes maxL ret hh).before args s = true ∧ (Cond.initialized y.cls).before args s = true ∧ (y.cls ≠ "java/lang/invoke/MethodHandle" ∧ y.cls ≠ "java/lang/invoke/VarHandle") ∧
  (∀ sig, parseMethodDescriptor y.desc = some sig → n = sig.parameters.length) ∧ (Cond.methodLink own index y).before args s = true ∧ (Cond.static y).before args s = true
theorem vx_cwSW {own : String} {index maxL mc ms : Nat} {y : MethodName} {bytes : ByteArray} {ret : Option FieldType} {hh : List (Nat × Nat × Nat × Nat)} {Ts ws ws' : List Cond} {rm : Room} (n : Nat) (ht : ∀ w ∈ Ts, w.before args s = true) (hT : GoodIn Ts (va_wsS own index y ws)) (hw : ws = Cond.codeWith y bytes maxL ret hh :: ws') (hrc : rm.cells = mc) (hrs : rm.slots = ms)
    (hd : y.cls ≠ "java/lang/invoke/MethodHandle" ∧ y.cls ≠ "java/lang/invoke/VarHandle" ∧ (parseMethodDescriptor y.desc).map (fun d => d.parameters.length) = some n) (hR : rm.frames + 1 ≤ R.frames ∧ 8 + (maxL + 11) + rm.locals ≤ R.locals) :
    vx_CSW R s args own index y bytes maxL ret hh ws rm mc ms n := by
  have ok : ∀ w ∈ va_wsS own index y ws, w.before args s = true := fun w h => ht w (hT w h).1
  have hG : GoodIn Ts ws := fun w h => hT w (by unfold va_wsS; exact List.mem_append_right _ h)
  have hc : Cond.codeWith y bytes maxL ret hh ∈ ws := by rw [hw]; exact List.mem_cons_self
  refine ⟨⟨hrc, hrs, hR.1, hR.2, pay_in ht hG, hc⟩, ht _ (hG _ hc).1, ok _ (by simp [va_wsS]), ⟨hd.1, hd.2.1⟩, fun sig h => ?_, ok _ (by simp [va_wsS]), ok _ (by simp [va_wsS])⟩
  have h2 := hd.2.2
  rw [h] at h2
  exact (Option.some.inj h2).symm
theorem vx_callSW (X : Stand p l e R s m args below meth c T locs cells slots) (hexec : p.tables.exec = Jvm.exec) {own : String} {index : Nat} {y : MethodName} {bytes : ByteArray} {maxL : Nat} {ret : Option FieldType} {hh : List (Nat × Nat × Nat × Nat)}
    (hown : s.vm.findClass own = some m.cls) (hlink : (Cond.methodLink own index y).before args s = true) (hstat : (Cond.static y).before args s = true) (hinit : (Cond.initialized y.cls).before args s = true)
    (hcode : (Cond.codeWith y bytes maxL ret hh).before args s = true) (hy : y.cls ≠ "java/lang/invoke/MethodHandle" ∧ y.cls ≠ "java/lang/invoke/VarHandle")
    {W9 : Nat} {Pre : Pt → Array Value → Prop} {Post : Pt → Array Value → Option Value → Pt → Prop} (hK : Back l R p e below s args y 3 W9 Pre Post)
    {g : JFrame} (hg : g.method = m) (hsize : g.locals.size = c.maxLocals) {argsL rest : List Value} (hlen : ∀ sig, parseMethodDescriptor y.desc = some sig → argsL.length = sig.parameters.length)
    (hstack : g.stack = argsL.reverse ++ rest) (hW : 2 * g.monitorRoom + (rest.map fun v => v.category).sum ≤ W9) (hdg : decode c.code g.pc = .ok (.invokestatic index, 3))
    (hpre : ∀ vm₁, s.WarmedH vm₁ → Pre ⟨T.setVm vm₁, locs, cells, slots⟩ argsL.toArray) :
    ∃ (v : Option Value) (vm₁ : Vm) (B : Pt), s.WarmedH vm₁ ∧ Stand p l e R s m args below meth c B.U B.locs B.cells B.slots ∧ Post ⟨T.setVm vm₁, locs, cells, slots⟩ argsL.toArray v B ∧
      ∀ target, Steps p.tables e below (B.U.setTop { g with pc := g.pc + 3, stack := v.toList ++ rest }) target → Steps p.tables e below (T.setTop g) target := by
  obtain ⟨mk, methM, cM, hnamed, hmethM, -, -, -, -, -, -, hsigM⟩ := Cond.codeWith_spec hcode
  have hstatic : methM.isStatic = true := Cond.static_spec hnamed hmethM hstat
  obtain ⟨kP, hkP, -⟩ := className_of_methodNamed hnamed
  have hinitP : kP.init = .initialized := Cond.initialized_spec (findClass_of_methodNamed hnamed) hkP hinit
  obtain ⟨vm₁, X₁, hstep₁⟩ := X.invokestatic hexec hown hlink hnamed hmethM hstatic hkP hinitP hy (g := g) hg (argsL := argsL) (rest := rest) (hlen _ hsigM) hstack hdg
  obtain ⟨v, B, X', hpost, hsteps⟩ := hK m meth c ⟨T.setVm vm₁, locs, cells, slots⟩ { g with stack := rest } (.invokestatic index) mk argsL.toArray X₁ hg hsize hdg hW (X₁.named hnamed) (hpre vm₁ X₁.warmed)
  exact ⟨v, vm₁, B, X₁.warmed, X', hpost, fun target h => hstep₁ _ fun acts => by rw [doInvoke_state]; exact hsteps.trans h⟩
theorem vx_runSW {y : MethodName} {bytes cc : ByteArray} {maxL nL mc ms n index : Nat} {ret : Option FieldType} {hh : List (Nat × Nat × Nat × Nat)} {ws : List Cond} {rm : Room} {Pc : Array Value → State → Prop} {Qc : Array Value → State → Outcome → State → Prop} {free : Addr → Prop} {Ts : List Cond} {own : String} {As rest : List Value} {g : JFrame}
    (S : CallFix p m c cc nL s args Ts own) (hM : Met l y ws rm Pc Qc mc ms free) (cw : vx_CSW R s args own index y bytes maxL ret hh ws rm mc ms n) (hp : PreS s H Pc As)
    (hg : g.method = m) (hn : As.length = n) (hsize : g.locals.size = nL) (hstack : g.stack = As.reverse ++ rest) (hW : 2 * g.monitorRoom + (rest.map fun v => v.category).sum ≤ 8) (hdg : decode cc g.pc = .ok (.invokestatic index, 3)) (hf : cells + mc ≤ R.cells ∧ slots + ms ≤ R.slots) :
    va_Run p l e R s m args below meth c H locs cells slots mc ms g rest (Qc As.toArray) (free) := by
  obtain ⟨⟨hrc, hrs, hfr, hlo, hws, hcw⟩, hcode, hini, hy, hlen, hl, hstt⟩ := cw
  have hK : Back l R p e below s args y 3 8 (PreOf R mc ms Pc) (PostOf Qc mc ms free) := va_backW (hh := hh) (bytes := bytes) (maxL := maxL) (ret := ret) hM hp.1 hrc hrs hfr hlo hws hcw (fun a' U hW => word_at hW (Or.inl (by first | rfl | simp [Cond.onTables, Cond.keeps, Cond.steady])) hini)
  obtain ⟨hx, hb, hml, ho, -⟩ := S
  intro T hT X
  obtain ⟨v, vm₁, ⟨U', l2, c2, s2⟩, hW₁, X', ⟨g', mk, t, L, e1, e2, hq, h1, hL, h2, h3⟩, st⟩ := vx_callSW X hx (hh := hh) (bytes := bytes) (maxL := maxL) (ret := ret) ho hl hstt hini hcode hy hK hg (hsize.trans hml.symm) (argsL := As) (rest := rest) (fun sig h => hn.trans (hlen sig h)) hstack hW (by rw [hb]; exact hdg)
    (fun vm₁ hW₁ => ⟨hf.1, hf.2, hp.2 (T.setVm vm₁) hT hW₁⟩)
  dsimp only [Pt.U, Pt.locs, Pt.cells, Pt.slots] at X' e1 e2 h1 h2 h3 st
  subst h1; subst h2; subst h3
  exact ⟨v, (T.setVm vm₁).calling g' mk As.toArray, t, U', L, hT, X', hL, e1, e2, hq, st⟩
/-- not caught here, past rows that name other classes: it goes on to the caller -/
theorem vx_outP {p : Program} {l : Launch} {e : Env} {R : Room} {s : State} {m : MethodId} {args : Array Value} {below : List Frame} {meth : Method} {c : Code} {H : Heap} {locs : List Loc} {cells slots : Nat} {free : Addr → Prop} {ls : Array Slot} {rest : List Value} {Qc : Array Value → State → Outcome → State → Prop} {XC : String → State → State → Prop}
    {pc : Nat} {own E : String} {ce : Cell} {q : Addr} {mc ms : Nat} (hown : s.vm.findClass own = some m.cls) (hlocks : meth.locks = false)
    (hpass : ∀ z ∈ c.exceptionTable.toList, covers z pc = false ∨ (z.catchType ≠ 0 ∧ ∃ nm : String, (Cond.classLink own z.catchType nm).before args s = true ∧ va_Nc E nm s)) (hcell : H[q]? = some ce) (hv : ce.vm = .none) (hcl : s.vm.findClass E = some ce.cls)
    (hx : ∀ t : State, t.heap = H → s.vm.Alike t.vm → XC E s t) (hf : ∀ z ∈ locs, free z.base) (hc : cells ≤ mc) (hs : slots ≤ ms) :
    vx_W p l e R s m args below meth c H locs cells slots (vx_MQ below Qc XC args s mc ms free) (F0 m pc ls rest) q := by
  intro T hT X
  have hpl : e.platform.magicAccessors = ({} : Platform).magicAccessors := by rw [X.admits.platform]
  obtain ⟨vm', hW', X', st⟩ := X.outThrough hlocks q (g := F0 m pc ls rest) rfl rfl rfl (cell := ce) (by rw [hT]; exact hcell) (by rw [hv]; rfl)
    (by obtain ⟨k9, h9, -⟩ := Vm.findClass_spec hcl; exact ⟨k9, h9⟩) (fun z hz => by
      rcases hpass z hz with h | ⟨hz0, nm, hl1, hn1⟩
      · exact Or.inl h
      · obtain ⟨c6, hc6, hcl6⟩ := Cond.classLink_spec hown hl1 e.platform hpl
        obtain ⟨a8, b8, h1, h2, h3⟩ := hn1
        cases Option.some.inj (h1.symm.trans hcl)
        cases Option.some.inj (h2.symm.trans hc6)
        exact Or.inr ⟨hz0, _, hcl6, h3⟩)
  obtain ⟨g₀, hfr⟩ := X'.frames_eq
  have hcell9 : ((T.setVm vm').setFrames (.throwing q :: below)).heap[q]? = some ce := by
    show T.heap[q]? = some ce
    rw [hT]; exact hcell
  have hend : Ended ((T.setVm vm').setFrames (.throwing q :: below)) below (.threw q) := State.frames_setFrames _ (State.cur_lt_of_frames hfr)
  refine ⟨(T.setVm vm').setFrames (.throwing q :: below), ?_, .threw q, X'.here.running, hend, Or.inr ⟨q, rfl, E, ce, locs, hx _ hT (X'.ends _).1.alike, hcell9, hv, hcl, (X'.ends _).1, (X'.ends _).2.mono hc hs, hf⟩⟩
  rw [X.pushThrowing_eq]
  exact st
/-- a thing of a world lies in the heap -/
theorem vx_lt {D : va_G} {cl : List vw_C} {ws : va_W} {H1 : Heap} (h : va_P D cl ws H1) {k : Nat} {q : Nat × va_E} (hk : ws[k]? = some q) : q.1 < H1.size := (h k q hk).lt
end VXS
/-! ===== END ===== -/
/-! ===== BEGIN methods with a table of their own: called by a name, returning or throwing ===== -/
section VXH
/-! vx_backW, vx_callVX, vx_callSX, vx_callVW, vx_runVW, vx_runVX, vx_runSX, vx_ofWH follow the same proofs as their sisters above (Free/Laws.lean, Shelf42/LK1.lean); vx_outP calls Shelf42/NT130.lean (outThrough). -/
section
variable {l : Launch} {R : Room} {p : Program} {e : Env} {below : List Frame} {s : State} {sargs : Array Value} {y : MethodName} {len W9 : Nat}
theorem vx_backW {ws : List Cond} {rm : Room} {Pc : Array Value → State → Prop} {Qc : Array Value → State → Outcome → State → Prop} {XC : String → State → State → Prop} {mc ms : Nat} {free : Addr → Prop} {bytes : ByteArray} {maxL : Nat} {ret : Option FieldType} {hh : List (Nat × Nat × Nat × Nat)}
    (hM : vx_Met l y ws rm Pc Qc XC mc ms free) (hblind : FrameBlind Pc) (hrc : rm.cells = mc) (hrs : rm.slots = ms)
    (hframes : rm.frames + 1 ≤ R.frames) (hlocals : W9 + (maxL + 11) + rm.locals ≤ R.locals)
    (hws : ∀ w ∈ ws, ∀ a' U, s.WarmedH U.vm → w.before a' U = true) (hcode : Cond.codeWith y bytes maxL ret hh ∈ ws) (hinit : ∀ a' U, s.WarmedH U.vm → (Cond.initialized y.cls).before a' U = true) :
    vx_Back l R p e below s sargs y len W9 (PreOf R mc ms Pc) (PostOf Qc mc ms free) (vx_Post XC mc ms free) := by
  intro m meth c A g ig mk a X hg hsize hdg hW hn hp
  have h1 : (headSpec ws rm).pre.before a A.U = true := atoms_intro fun w hw => hws w hw _ _ X.warmed
  have h2 : (Cond.codeWith y bytes maxL ret hh).before a A.U = true := hws _ hcode _ _ X.warmed
  have h3 : (Cond.initialized y.cls).before a A.U = true := hinit _ _ X.warmed
  have h4 : A.cells + (headSpec ws rm).room.cells ≤ R.cells := by rw [show (headSpec ws rm).room.cells = mc from hrc]; exact hp.1
  have h5 : A.slots + (headSpec ws rm).room.slots ≤ R.slots := by rw [show (headSpec ws rm).room.slots = ms from hrs]; exact hp.2.1
  have hPc : Pc a (A.U.calling g mk a) := hblind _ _ _ _ hp.2.2
  obtain ⟨U, Ls, c0, s0⟩ := A
  dsimp only [Pt.U, Pt.locs, Pt.cells, Pt.slots] at h1 h2 h3 h4 h5 X hn hPc ⊢
  obtain ⟨m9, methY, cY, hn9, hmY, hcY, -, hlY, -⟩ := Cond.codeWith_spec h2
  cases Option.some.inj (hn9.symm.trans hn)
  obtain ⟨kY, hkY, -⟩ := className_of_methodNamed hn
  have hinitY : kY.init = .initialized := Cond.initialized_spec (findClass_of_methodNamed hn) hkY h3
  have h : At U g.method c below := by rw [hg]; exact X.here
  have hlocals9 : W9 + (maxL + 11) + (headSpec ws rm).room.locals ≤ R.locals := hlocals
  have happ : (headSpec ws rm).appliesLoose y e.platform (U.calling g mk a) = true :=
    Spec.appliesLoose_calling (g := g) h hdg hn hkY hinitY
      (X.room_calling (g := g) (R' := (headSpec ws rm).room) hsize hmY hcY hframes (by rw [hlY]; omega) h4 h5) h1
  obtain ⟨mid, hmid⟩ := h.above
  have hfr : (U.setTop g).frames = (.java g :: mid) ++ below := by rw [State.frames_setTop' g h.top, hmid]; rfl
  obtain ⟨o, s₂, hsteps, -, hend, hq⟩ := Steps.callFree hM p X.admits X.cas X.clock (acts := []) hfr happ hPc trivial
  have hq' : vx_Q Qc XC mc ms free a (U.calling g mk a) o s₂ := hq
  rw [State.frames_setTop' g h.top] at hend
  obtain ⟨g₀, hg0⟩ := Option.isSome_iff_exists.mp h.top
  obtain ⟨r, hr⟩ := State.topJava?_eq_some.mp hg0
  have hr' : (({ U with heap := s₂.heap, slotsUsed := s₂.slotsUsed } : State).setVm s₂.vm).frames = .java g₀ :: r := hr
  rcases hq' with ⟨hqc, L, hfe, hL⟩ | ⟨q, rfl, E, ce, L, hx, hce, hcv, hcl, hW₂, hsm, hL⟩
  · obtain ⟨⟨v, rfl⟩, hW₂, e2, q2, q3, q4, q5, q6⟩ := id hfe
    have e3 : s₂ = ({ (U.calling g mk a).setFrames s₂.frames with heap := s₂.heap, slotsUsed := s₂.slotsUsed } : State).setVm s₂.vm := by
      have : s₂ = ({ s₂ with vm := (U.calling g mk a).vm } : State).setVm s₂.vm := rfl
      rw [e2] at this
      exact this
    obtain ⟨c₂, i₂, len₂, hc₂, hd₂, hf₂⟩ := hend
    have hW' : U.WarmedH s₂.vm := hW₂
    have hcc : c₂ = c := by
      have h1 : s₂.code? g.method = U.code? g.method := by
        rw [State.code?_eq, State.code?_eq, hW'.alike.method?]
      exact Option.some.inj (hc₂.symm.trans (h1.trans h.code))
    subst hcc
    have hlen : len₂ = len := by rw [hdg] at hd₂; cases hd₂; rfl
    subst hlen
    have hs₂ : s₂ = (({ U with heap := s₂.heap, slotsUsed := s₂.slotsUsed } : State).setVm s₂.vm).setTop { g with pc := g.pc + len₂, stack := v.toList ++ g.stack } := by
      refine e3.trans ?_
      rw [hf₂, State.calling_eq h.top, State.setFrames_setFrames, State.setTop_of_frames _ hr', hr]
      rfl
    have hsame : U.sameButNew ({ U with heap := s₂.heap, slotsUsed := s₂.slotsUsed } : State) L mc ms := by
      refine ⟨?_, q2, q3, q4, q5, q6⟩
      obtain ⟨t, ht, -⟩ := State.frames_cons hr
      show ({ U with heap := s₂.heap, slotsUsed := s₂.slotsUsed } : State) = { U.setFrames U.frames with heap := s₂.heap, slotsUsed := s₂.slotsUsed }
      rw [State.setFrames_self ht]
    subst hg
    refine Or.inl ⟨v, ⟨(({ U with heap := s₂.heap, slotsUsed := s₂.slotsUsed } : State).setVm s₂.vm), Ls ++ L, c0 + mc, s0 + ms⟩,
      ⟨X.admits, X.cas, X.clock, X.frames, X.room, X.hears, X.method, X.code, (X.here.setHeapUsed s₂.heap s₂.slotsUsed).setVm hW'.alike, X.tail, State.WarmedH.trans X.warmed hW', X.limits, X.bytes, X.same.trans (hsame.setVm s.vm)⟩,
      ⟨g, mk, s₂, L, rfl, rfl, hqc, rfl, hL, rfl, rfl⟩, ?_⟩
    show Steps p.tables e below _ ((({ U with heap := s₂.heap, slotsUsed := s₂.slotsUsed } : State).setVm s₂.vm).setTop { g with pc := g.pc + len₂, stack := v.toList ++ g.stack })
    rw [← hs₂]
    exact hsteps
  · obtain ⟨e2, q2, q3, q4, q5, q6⟩ := id hsm
    have e3 : s₂ = ({ (U.calling g mk a).setFrames s₂.frames with heap := s₂.heap, slotsUsed := s₂.slotsUsed } : State).setVm s₂.vm := by
      have : s₂ = ({ s₂ with vm := (U.calling g mk a).vm } : State).setVm s₂.vm := rfl
      rw [e2] at this
      exact this
    have hf₂ : s₂.frames = .throwing q :: .java g :: U.frames.tail := hend
    have hW' : U.WarmedH s₂.vm := hW₂
    have hs₂ : s₂ = ((({ U with heap := s₂.heap, slotsUsed := s₂.slotsUsed } : State).setVm s₂.vm).setTop g).pushFrame (.throwing q) := by
      refine e3.trans ?_
      rw [hf₂, State.calling_eq h.top, State.setFrames_setFrames, State.pushFrame, State.frames_setTop _ hr', State.setTop_of_frames _ hr', State.setFrames_setFrames, hr]
      rfl
    have hsame : U.sameButNew ({ U with heap := s₂.heap, slotsUsed := s₂.slotsUsed } : State) L mc ms := by
      refine ⟨?_, q2, q3, q4, q5, q6⟩
      obtain ⟨t, ht, -⟩ := State.frames_cons hr
      show ({ U with heap := s₂.heap, slotsUsed := s₂.slotsUsed } : State) = { U.setFrames U.frames with heap := s₂.heap, slotsUsed := s₂.slotsUsed }
      rw [State.setFrames_self ht]
    subst hg
    refine Or.inr ⟨q, ⟨(({ U with heap := s₂.heap, slotsUsed := s₂.slotsUsed } : State).setVm s₂.vm), Ls ++ L, c0 + mc, s0 + ms⟩,
      ⟨X.admits, X.cas, X.clock, X.frames, X.room, X.hears, X.method, X.code, (X.here.setHeapUsed s₂.heap s₂.slotsUsed).setVm hW'.alike, X.tail, State.WarmedH.trans X.warmed hW', X.limits, X.bytes, X.same.trans (hsame.setVm s.vm)⟩,
      ⟨g, mk, s₂, L, E, ce, rfl, rfl, hx, hce, hcv, hcl, rfl, hL, rfl, rfl⟩, ?_⟩
    show Steps p.tables e below _ (((({ U with heap := s₂.heap, slotsUsed := s₂.slotsUsed } : State).setVm s₂.vm).setTop g).pushFrame (.throwing q))
    rw [← hs₂]
    exact hsteps
end
variable {p : Program} {l : Launch} {e : Env} {R : Room} {s : State} {m : MethodId} {args : Array Value} {below : List Frame} {meth : Method} {c : Code} {T : State} {H : Heap} {locs : List Loc} {cells slots : Nat}
theorem vx_callVX (X : Stand p l e R s m args below meth c T locs cells slots) (hexec : p.tables.exec = Jvm.exec) {own C : String} {index : Nat} {y : MethodName} {bytes : ByteArray} {maxL : Nat} {ret : Option FieldType} {hh : List (Nat × Nat × Nat × Nat)}
    (hown : s.vm.findClass own = some m.cls) (hlink : (Cond.methodLink own index y).before args s = true) (hinst : (Cond.instanceMethod y).before args s = true) (hsel : (Cond.selects C y y).before args s = true)
    (hcode : (Cond.codeWith y bytes maxL ret hh).before args s = true) (hy : y.cls ≠ "java/lang/invoke/MethodHandle" ∧ y.cls ≠ "java/lang/invoke/VarHandle")
    {W9 : Nat} {Pre : Pt → Array Value → Prop} {Post : Pt → Array Value → Option Value → Pt → Prop} {PostX : Pt → Array Value → Addr → Pt → Prop} (hK : vx_Back l R p e below s args y 3 W9 Pre Post PostX)
    {b : Addr} {cellB : Cell} (hcell : T.heap[b]? = some cellB) (hobj : cellB.vm.isStatics = false) (hcls : s.vm.findClass C = some cellB.cls)
    {g : JFrame} (hg : g.method = m) (hsize : g.locals.size = c.maxLocals) {argsL rest : List Value} (hlen : ∀ sig, parseMethodDescriptor y.desc = some sig → argsL.length = sig.parameters.length)
    (hstack : g.stack = argsL.reverse ++ .ref b :: rest) (hW : 2 * g.monitorRoom + (rest.map fun v => v.category).sum ≤ W9) (hdg : decode c.code g.pc = .ok (.invokevirtual index, 3))
    (hpre : ∀ vm₁, s.WarmedH vm₁ → Pre ⟨T.setVm vm₁, locs, cells, slots⟩ (Value.ref b :: argsL).toArray) :
    (∃ (v : Option Value) (vm₁ : Vm) (B : Pt), s.WarmedH vm₁ ∧ Stand p l e R s m args below meth c B.U B.locs B.cells B.slots ∧ Post ⟨T.setVm vm₁, locs, cells, slots⟩ (Value.ref b :: argsL).toArray v B ∧
      ∀ target, Steps p.tables e below (B.U.setTop { g with pc := g.pc + 3, stack := v.toList ++ rest }) target → Steps p.tables e below (T.setTop g) target) ∨
    (∃ (q : Addr) (vm₁ : Vm) (B : Pt), s.WarmedH vm₁ ∧ Stand p l e R s m args below meth c B.U B.locs B.cells B.slots ∧ PostX ⟨T.setVm vm₁, locs, cells, slots⟩ (Value.ref b :: argsL).toArray q B ∧
      Steps p.tables e below (T.setTop g) ((B.U.setTop { g with stack := rest }).pushFrame (.throwing q))) := by
  obtain ⟨mk, methM, hnamed, hmethM, hstM, habM⟩ := Cond.instanceMethod_spec hinst
  obtain ⟨m8, methM', cM, hn8, hmethM', -, -, -, -, -, -, hsigM⟩ := Cond.codeWith_spec hcode
  cases Option.some.inj (hn8.symm.trans hnamed)
  cases hmethM.symm.trans hmethM'
  obtain ⟨c2, r2, m2, q1, q2, q3, q4, kP, hkP, hkPi⟩ := Cond.selects_spec hsel
  cases hcls.symm.trans q1
  cases (State.methodFound?_of_named hnamed hy).symm.trans q2
  cases hnamed.symm.trans q3
  have hselP : selectMethod e.platform s.vm cellB.cls mk = .method mk := by rw [Launch.admits_selectMethod X.admits]; exact q4
  obtain ⟨vm₁, X₁, hstep₁⟩ := X.invokevirtual hexec hown hlink hnamed hmethM hstM hkP hkPi hy (a := b) (cell := cellB) hcell
    (fun z h => by rw [h] at hobj; cases hobj) hselP hmethM habM hkP hkPi (g := g) hg (argsL := argsL) (rest := rest) (hlen _ hsigM) hstack hdg
  rcases hK m meth c ⟨T.setVm vm₁, locs, cells, slots⟩ { g with stack := rest } (.invokevirtual index) mk (Value.ref b :: argsL).toArray X₁ hg hsize hdg hW (X₁.named hnamed) (hpre vm₁ X₁.warmed) with ⟨v, B, X', hpost, hsteps⟩ | ⟨q, B, X', hpost, hsteps⟩
  · exact Or.inl ⟨v, vm₁, B, X₁.warmed, X', hpost, fun target h => hstep₁ _ fun acts => by rw [doInvoke_state]; exact hsteps.trans h⟩
  · exact Or.inr ⟨q, vm₁, B, X₁.warmed, X', hpost, hstep₁ _ fun acts => by rw [doInvoke_state]; exact hsteps⟩
theorem vx_callSX (X : Stand p l e R s m args below meth c T locs cells slots) (hexec : p.tables.exec = Jvm.exec) {own : String} {index : Nat} {y : MethodName} {bytes : ByteArray} {maxL : Nat} {ret : Option FieldType} {hh : List (Nat × Nat × Nat × Nat)}
    (hown : s.vm.findClass own = some m.cls) (hlink : (Cond.methodLink own index y).before args s = true) (hstat : (Cond.static y).before args s = true) (hinit : (Cond.initialized y.cls).before args s = true)
    (hcode : (Cond.codeWith y bytes maxL ret hh).before args s = true) (hy : y.cls ≠ "java/lang/invoke/MethodHandle" ∧ y.cls ≠ "java/lang/invoke/VarHandle")
    {W9 : Nat} {Pre : Pt → Array Value → Prop} {Post : Pt → Array Value → Option Value → Pt → Prop} {PostX : Pt → Array Value → Addr → Pt → Prop} (hK : vx_Back l R p e below s args y 3 W9 Pre Post PostX)
    {g : JFrame} (hg : g.method = m) (hsize : g.locals.size = c.maxLocals) {argsL rest : List Value} (hlen : ∀ sig, parseMethodDescriptor y.desc = some sig → argsL.length = sig.parameters.length)
    (hstack : g.stack = argsL.reverse ++ rest) (hW : 2 * g.monitorRoom + (rest.map fun v => v.category).sum ≤ W9) (hdg : decode c.code g.pc = .ok (.invokestatic index, 3))
    (hpre : ∀ vm₁, s.WarmedH vm₁ → Pre ⟨T.setVm vm₁, locs, cells, slots⟩ argsL.toArray) :
    (∃ (v : Option Value) (vm₁ : Vm) (B : Pt), s.WarmedH vm₁ ∧ Stand p l e R s m args below meth c B.U B.locs B.cells B.slots ∧ Post ⟨T.setVm vm₁, locs, cells, slots⟩ argsL.toArray v B ∧
      ∀ target, Steps p.tables e below (B.U.setTop { g with pc := g.pc + 3, stack := v.toList ++ rest }) target → Steps p.tables e below (T.setTop g) target) ∨
    (∃ (q : Addr) (vm₁ : Vm) (B : Pt), s.WarmedH vm₁ ∧ Stand p l e R s m args below meth c B.U B.locs B.cells B.slots ∧ PostX ⟨T.setVm vm₁, locs, cells, slots⟩ argsL.toArray q B ∧
      Steps p.tables e below (T.setTop g) ((B.U.setTop { g with stack := rest }).pushFrame (.throwing q))) := by
  obtain ⟨mk, methM, cM, hnamed, hmethM, -, -, -, -, -, -, hsigM⟩ := Cond.codeWith_spec hcode
  have hstatic : methM.isStatic = true := Cond.static_spec hnamed hmethM hstat
  obtain ⟨kP, hkP, -⟩ := className_of_methodNamed hnamed
  have hinitP : kP.init = .initialized := Cond.initialized_spec (findClass_of_methodNamed hnamed) hkP hinit
  obtain ⟨vm₁, X₁, hstep₁⟩ := X.invokestatic hexec hown hlink hnamed hmethM hstatic hkP hinitP hy (g := g) hg (argsL := argsL) (rest := rest) (hlen _ hsigM) hstack hdg
  rcases hK m meth c ⟨T.setVm vm₁, locs, cells, slots⟩ { g with stack := rest } (.invokestatic index) mk argsL.toArray X₁ hg hsize hdg hW (X₁.named hnamed) (hpre vm₁ X₁.warmed) with ⟨v, B, X', hpost, hsteps⟩ | ⟨q, B, X', hpost, hsteps⟩
  · exact Or.inl ⟨v, vm₁, B, X₁.warmed, X', hpost, fun target h => hstep₁ _ fun acts => by rw [doInvoke_state]; exact hsteps.trans h⟩
  · exact Or.inr ⟨q, vm₁, B, X₁.warmed, X', hpost, hstep₁ _ fun acts => by rw [doInvoke_state]; exact hsteps⟩
theorem vx_callVW (X : Stand p l e R s m args below meth c T locs cells slots) (hexec : p.tables.exec = Jvm.exec) {own C : String} {index : Nat} {y : MethodName} {bytes : ByteArray} {maxL : Nat} {ret : Option FieldType} {hh : List (Nat × Nat × Nat × Nat)}
    (hown : s.vm.findClass own = some m.cls) (hlink : (Cond.methodLink own index y).before args s = true) (hinst : (Cond.instanceMethod y).before args s = true) (hsel : (Cond.selects C y y).before args s = true)
    (hcode : (Cond.codeWith y bytes maxL ret hh).before args s = true) (hy : y.cls ≠ "java/lang/invoke/MethodHandle" ∧ y.cls ≠ "java/lang/invoke/VarHandle")
    {W9 : Nat} {Pre : Pt → Array Value → Prop} {Post : Pt → Array Value → Option Value → Pt → Prop} (hK : Back l R p e below s args y 3 W9 Pre Post)
    {b : Addr} {cellB : Cell} (hcell : T.heap[b]? = some cellB) (hobj : cellB.vm.isStatics = false) (hcls : s.vm.findClass C = some cellB.cls)
    {g : JFrame} (hg : g.method = m) (hsize : g.locals.size = c.maxLocals) {argsL rest : List Value} (hlen : ∀ sig, parseMethodDescriptor y.desc = some sig → argsL.length = sig.parameters.length)
    (hstack : g.stack = argsL.reverse ++ .ref b :: rest) (hW : 2 * g.monitorRoom + (rest.map fun v => v.category).sum ≤ W9) (hdg : decode c.code g.pc = .ok (.invokevirtual index, 3))
    (hpre : ∀ vm₁, s.WarmedH vm₁ → Pre ⟨T.setVm vm₁, locs, cells, slots⟩ (Value.ref b :: argsL).toArray) :
    ∃ (v : Option Value) (vm₁ : Vm) (B : Pt), s.WarmedH vm₁ ∧ Stand p l e R s m args below meth c B.U B.locs B.cells B.slots ∧ Post ⟨T.setVm vm₁, locs, cells, slots⟩ (Value.ref b :: argsL).toArray v B ∧
      ∀ target, Steps p.tables e below (B.U.setTop { g with pc := g.pc + 3, stack := v.toList ++ rest }) target → Steps p.tables e below (T.setTop g) target := by
  obtain ⟨mk, methM, hnamed, hmethM, hstM, habM⟩ := Cond.instanceMethod_spec hinst
  obtain ⟨m8, methM', cM, hn8, hmethM', -, -, -, -, -, -, hsigM⟩ := Cond.codeWith_spec hcode
  cases Option.some.inj (hn8.symm.trans hnamed)
  cases hmethM.symm.trans hmethM'
  obtain ⟨c2, r2, m2, q1, q2, q3, q4, kP, hkP, hkPi⟩ := Cond.selects_spec hsel
  cases hcls.symm.trans q1
  cases (State.methodFound?_of_named hnamed hy).symm.trans q2
  cases hnamed.symm.trans q3
  have hselP : selectMethod e.platform s.vm cellB.cls mk = .method mk := by rw [Launch.admits_selectMethod X.admits]; exact q4
  obtain ⟨vm₁, X₁, hstep₁⟩ := X.invokevirtual hexec hown hlink hnamed hmethM hstM hkP hkPi hy (a := b) (cell := cellB) hcell
    (fun z h => by rw [h] at hobj; cases hobj) hselP hmethM habM hkP hkPi (g := g) hg (argsL := argsL) (rest := rest) (hlen _ hsigM) hstack hdg
  obtain ⟨v, B, X', hpost, hsteps⟩ := hK m meth c ⟨T.setVm vm₁, locs, cells, slots⟩ { g with stack := rest } (.invokevirtual index) mk (Value.ref b :: argsL).toArray X₁ hg hsize hdg hW (X₁.named hnamed) (hpre vm₁ X₁.warmed)
  exact ⟨v, vm₁, B, X₁.warmed, X', hpost, fun target h => hstep₁ _ fun acts => by rw [doInvoke_state]; exact hsteps.trans h⟩
abbrev vx_CVW (R : Room) (s : State) (args : Array Value) (own C : String) (index : Nat) (y : MethodName) (bytes : ByteArray) (maxL : Nat) (ret : Option FieldType) (hh : List (Nat × Nat × Nat × Nat)) (ws : List Cond) (rm : Room) (mc ms n : Nat) : Prop :=
  (rm.cells = mc ∧ rm.slots = ms ∧ rm.frames + 1 ≤ R.frames ∧ 8 + (maxL + 11) + rm.locals ≤ R.locals ∧ (∀ w ∈ ws, ∀ (a' : Array Value) (U : State), s.WarmedH U.vm → w.before a' U = true) ∧ Cond.codeWith y bytes maxL ret hh ∈ ws) ∧
  (Cond.codeWith y bytes maxL ret hh).before args s = true ∧ (Cond.initialized y.cls).before args s = true ∧ (y.cls ≠ "java/lang/invoke/MethodHandle" ∧ y.cls ≠ "java/lang/invoke/VarHandle") ∧
  (∀ sig, parseMethodDescriptor y.desc = some sig → n = sig.parameters.length) ∧ (Cond.methodLink own index y).before args s = true ∧ (Cond.instanceMethod y).before args s = true ∧ (Cond.selects C y y).before args s = true
theorem vx_cwVW {own C : String} {index maxL mc ms : Nat} {y : MethodName} {bytes : ByteArray} {ret : Option FieldType} {hh : List (Nat × Nat × Nat × Nat)} {Ts ws ws' : List Cond} {rm : Room} (n : Nat) (ht : ∀ w ∈ Ts, w.before args s = true) (hT : GoodIn Ts (wsV own index C y ws)) (hw : ws = Cond.codeWith y bytes maxL ret hh :: ws') (hrc : rm.cells = mc) (hrs : rm.slots = ms)
    (hd : y.cls = C ∧ y.cls ≠ "java/lang/invoke/MethodHandle" ∧ y.cls ≠ "java/lang/invoke/VarHandle" ∧ (parseMethodDescriptor y.desc).map (fun d => d.parameters.length) = some n) (hR : rm.frames + 1 ≤ R.frames ∧ 8 + (maxL + 11) + rm.locals ≤ R.locals) :
    vx_CVW R s args own C index y bytes maxL ret hh ws rm mc ms n := by
  obtain ⟨hC, hd⟩ := hd
  subst hC
  have ok : ∀ w ∈ wsV own index y.cls y ws, w.before args s = true := fun w h => ht w (hT w h).1
  have hG : GoodIn Ts ws := fun w h => hT w (by unfold wsV; exact List.mem_append_right _ h)
  have hc : Cond.codeWith y bytes maxL ret hh ∈ ws := by rw [hw]; exact List.mem_cons_self
  refine ⟨⟨hrc, hrs, hR.1, hR.2, pay_in ht hG, hc⟩, ht _ (hG _ hc).1, ok _ (by simp [wsV]), ⟨hd.1, hd.2.1⟩, fun sig h => ?_, ok _ (by simp [wsV]), ok _ (by simp [wsV]), ok _ (by simp [wsV])⟩
  have h2 := hd.2.2
  rw [h] at h2
  exact (Option.some.inj h2).symm
theorem vx_runVW {y : MethodName} {bytes cc : ByteArray} {maxL nL mc ms n index : Nat} {ret : Option FieldType} {hh : List (Nat × Nat × Nat × Nat)} {ws : List Cond} {rm : Room} {Pc : Array Value → State → Prop} {Qc : Array Value → State → Outcome → State → Prop} {free : Addr → Prop} {Ts : List Cond} {own C : String} {b : Addr} {As rest : List Value} {g : JFrame}
    (S : CallFix p m c cc nL s args Ts own) (hM : Met l y ws rm Pc Qc mc ms free) (cw : vx_CVW R s args own C index y bytes maxL ret hh ws rm mc ms n) (hp : PreV s H C b Pc As)
    (hg : g.method = m) (hn : As.length = n) (hsize : g.locals.size = nL) (hstack : g.stack = As.reverse ++ .ref b :: rest) (hW : 2 * g.monitorRoom + (rest.map fun v => v.category).sum ≤ 8) (hdg : decode cc g.pc = .ok (.invokevirtual index, 3)) (hf : cells + mc ≤ R.cells ∧ slots + ms ≤ R.slots) :
    va_Run p l e R s m args below meth c H locs cells slots mc ms g rest (Qc (Value.ref b :: As).toArray) free := by
  obtain ⟨⟨hrc, hrs, hfr, hlo, hws, hcw⟩, hcode, hini, hy, hlen, hl, hin, hse⟩ := cw
  have hK : Back l R p e below s args y 3 8 (PreOf R mc ms Pc) (PostOf Qc mc ms free) := va_backW (hh := hh) (bytes := bytes) (maxL := maxL) (ret := ret) hM hp.1 hrc hrs hfr hlo hws hcw (fun a' U hW => word_at hW (Or.inl (by first | rfl | simp [Cond.onTables, Cond.keeps, Cond.steady])) hini)
  obtain ⟨hx, hb, hml, ho, -⟩ := S
  obtain ⟨-, ⟨cellB, hcB, hoB, hclB⟩, hPc⟩ := hp
  intro T hT X
  obtain ⟨v, vm₁, ⟨U', l2, c2, s2⟩, hW₁, X', ⟨g', mk, t, L, e1, e2, hq, h1, hL, h2, h3⟩, st⟩ := vx_callVW X hx (C := C) (hh := hh) (bytes := bytes) (maxL := maxL) (ret := ret) ho hl hin hse hcode hy hK (by rw [hT]; exact hcB) hoB hclB hg (hsize.trans hml.symm) (argsL := As) (rest := rest) (fun sig h => hn.trans (hlen sig h)) hstack hW (by rw [hb]; exact hdg)
    (fun vm₁ hW₁ => ⟨hf.1, hf.2, hPc (T.setVm vm₁) hT hW₁⟩)
  dsimp only [Pt.U, Pt.locs, Pt.cells, Pt.slots] at X' e1 e2 h1 h2 h3 st
  subst h1; subst h2; subst h3
  exact ⟨v, (T.setVm vm₁).calling g' mk (Value.ref b :: As).toArray, t, U', L, hT, X', hL, e1, e2, hq, st⟩
section
variable {y : MethodName} {bytes cc : ByteArray} {maxL nL mc ms n index : Nat} {ret : Option FieldType} {ws : List Cond} {rm : Room} {Pc : Array Value → State → Prop} {Qc : Array Value → State → Outcome → State → Prop} {XC : String → State → State → Prop} {free : Addr → Prop} {Ts : List Cond} {own C : String} {b : Addr} {As rest : List Value} {g : JFrame}
theorem vx_runVX {hh : List (Nat × Nat × Nat × Nat)} (S : CallFix p m c cc nL s args Ts own) (hM : vx_Met l y ws rm Pc Qc XC mc ms free) (cw : vx_CVW R s args own C index y bytes maxL ret hh ws rm mc ms n) (hp : PreV s H C b Pc As)
    (hg : g.method = m) (hn : As.length = n) (hsize : g.locals.size = nL) (hstack : g.stack = As.reverse ++ .ref b :: rest) (hW : 2 * g.monitorRoom + (rest.map fun v => v.category).sum ≤ 8) (hdg : decode cc g.pc = .ok (.invokevirtual index, 3)) (hf : cells + mc ≤ R.cells ∧ slots + ms ≤ R.slots) :
    vx_Run p l e R s m args below meth c H locs cells slots mc ms g rest (Qc (Value.ref b :: As).toArray) XC free := by
  obtain ⟨⟨hrc, hrs, hfr, hlo, hws, hcw⟩, hcode, hini, hy, hlen, hl, hin, hse⟩ := cw
  have hK : vx_Back l R p e below s args y 3 8 (PreOf R mc ms Pc) (PostOf Qc mc ms free) (vx_Post XC mc ms free) := vx_backW (hh := hh) (bytes := bytes) (maxL := maxL) (ret := ret) hM hp.1 hrc hrs hfr hlo hws hcw (fun a' U hW => word_at hW (Or.inl (by first | rfl | simp [Cond.onTables, Cond.keeps, Cond.steady])) hini)
  obtain ⟨hx, hb, hml, ho, -⟩ := S
  obtain ⟨-, ⟨cellB, hcB, hoB, hclB⟩, hPc⟩ := hp
  intro T hT X
  rcases vx_callVX X hx (C := C) (hh := hh) (bytes := bytes) (maxL := maxL) (ret := ret) ho hl hin hse hcode hy hK (by rw [hT]; exact hcB) hoB hclB hg (hsize.trans hml.symm) (argsL := As) (rest := rest) (fun sig h => hn.trans (hlen sig h)) hstack hW (by rw [hb]; exact hdg)
    (fun vm₁ hW₁ => ⟨hf.1, hf.2, hPc (T.setVm vm₁) hT hW₁⟩) with ⟨v, vm₁, ⟨U', l2, c2, s2⟩, hW₁, X', ⟨g', mk, t, L, e1, e2, hq, h1, hL, h2, h3⟩, st⟩ | ⟨q, vm₁, ⟨U', l2, c2, s2⟩, hW₁, X', ⟨g', mk, t, L, E, ce, e1, e2, hq, hce, hcv, hcl, h1, hL, h2, h3⟩, st⟩
  · dsimp only [Pt.U, Pt.locs, Pt.cells, Pt.slots] at X' e1 e2 h1 h2 h3 st
    subst h1; subst h2; subst h3
    exact Or.inl ⟨v, (T.setVm vm₁).calling g' mk (Value.ref b :: As).toArray, t, U', L, hT, X', hL, e1, e2, hq, st⟩
  · dsimp only [Pt.U, Pt.locs, Pt.cells, Pt.slots] at X' e1 e2 h1 h2 h3 st hcl
    subst h1; subst h2; subst h3
    exact Or.inr ⟨q, (T.setVm vm₁).calling g' mk (Value.ref b :: As).toArray, t, U', L, E, ce, hT, X', hL, e1, e2, hq, hce, hcv, vx_cls hW₁ hcl, st⟩
theorem vx_runSX {hh : List (Nat × Nat × Nat × Nat)} (S : CallFix p m c cc nL s args Ts own) (hM : vx_Met l y ws rm Pc Qc XC mc ms free) (cw : vx_CSW R s args own index y bytes maxL ret hh ws rm mc ms n) (hp : PreS s H Pc As)
    (hg : g.method = m) (hn : As.length = n) (hsize : g.locals.size = nL) (hstack : g.stack = As.reverse ++ rest) (hW : 2 * g.monitorRoom + (rest.map fun v => v.category).sum ≤ 8) (hdg : decode cc g.pc = .ok (.invokestatic index, 3)) (hf : cells + mc ≤ R.cells ∧ slots + ms ≤ R.slots) :
    vx_Run p l e R s m args below meth c H locs cells slots mc ms g rest (Qc As.toArray) XC free := by
  obtain ⟨⟨hrc, hrs, hfr, hlo, hws, hcw⟩, hcode, hini, hy, hlen, hl, hstt⟩ := cw
  have hK : vx_Back l R p e below s args y 3 8 (PreOf R mc ms Pc) (PostOf Qc mc ms free) (vx_Post XC mc ms free) := vx_backW (hh := hh) (bytes := bytes) (maxL := maxL) (ret := ret) hM hp.1 hrc hrs hfr hlo hws hcw (fun a' U hW => word_at hW (Or.inl (by first | rfl | simp [Cond.onTables, Cond.keeps, Cond.steady])) hini)
  obtain ⟨hx, hb, hml, ho, -⟩ := S
  intro T hT X
  rcases vx_callSX X hx (hh := hh) (bytes := bytes) (maxL := maxL) (ret := ret) ho hl hstt hini hcode hy hK hg (hsize.trans hml.symm) (argsL := As) (rest := rest) (fun sig h => hn.trans (hlen sig h)) hstack hW (by rw [hb]; exact hdg)
    (fun vm₁ hW₁ => ⟨hf.1, hf.2, hp.2 (T.setVm vm₁) hT hW₁⟩) with ⟨v, vm₁, ⟨U', l2, c2, s2⟩, hW₁, X', ⟨g', mk, t, L, e1, e2, hq, h1, hL, h2, h3⟩, st⟩ | ⟨q, vm₁, ⟨U', l2, c2, s2⟩, hW₁, X', ⟨g', mk, t, L, E, ce, e1, e2, hq, hce, hcv, hcl, h1, hL, h2, h3⟩, st⟩
  · dsimp only [Pt.U, Pt.locs, Pt.cells, Pt.slots] at X' e1 e2 h1 h2 h3 st
    subst h1; subst h2; subst h3
    exact Or.inl ⟨v, (T.setVm vm₁).calling g' mk As.toArray, t, U', L, hT, X', hL, e1, e2, hq, st⟩
  · dsimp only [Pt.U, Pt.locs, Pt.cells, Pt.slots] at X' e1 e2 h1 h2 h3 st hcl
    subst h1; subst h2; subst h3
    exact Or.inr ⟨q, (T.setVm vm₁).calling g' mk As.toArray, t, U', L, E, ce, hT, X', hL, e1, e2, hq, hce, hcv, vx_cls hW₁ hcl, st⟩
end
end VXH
theorem vx_ofWH {l : Launch} {y : MethodName} {ws ws' : List Cond} {rm : Room} {Pc : Array Value → State → Prop} {Qc : Array Value → State → Outcome → State → Prop} {XC : String → State → State → Prop} {mc ms : Nat} {free : Addr → Prop} {cc : ByteArray} {maxL : Nat} {ret : Option FieldType} {hh : List (Nat × Nat × Nat × Nat)}
    (hy : plainName y.cls = true) (hw : ws = Cond.codeWith y cc maxL ret hh :: ws')
    (body : ∀ p e s m args below meth c s₁, BodyLoose p l y (headSpec ws rm) cc maxL ret e s m args below meth c s₁ → c.maxLocals = maxL → Pc args s →
      W p l e (headSpec ws rm).room s m args below meth c s.heap [] 0 0 (vx_MQ below Qc XC args s mc ms free) (entryFrame m args maxL)) : vx_Met l y ws rm Pc Qc XC mc ms free := by
  refine MetFree.of_bodyS (code := cc) (maxLocals := maxL) (ret := ret) hy ?_ ?_
  · intro args s m h hn
    obtain ⟨m9, meth, c, hn9, h1, h2, h3, h4, -, h5, h6, -⟩ := Cond.codeWith_spec (atoms_spec (ws := ws) h _ (by rw [hw]; exact List.mem_cons_self))
    cases hn.symm.trans hn9
    exact ⟨meth, c, h1, h2, h3, h4, h5, h6⟩
  · intro p e s m args below meth c s₁ B hml hP _
    have hh0 : s₁.heap = s.heap := by rw [B.state]; rfl
    obtain ⟨t, a1, o, b1, b2, b3⟩ := body p e s m args below meth c s₁ B hml hP s₁ hh0 (Stand.of_body B)
    exact ⟨t, o, a1, b1, b2, b3⟩
/-! ===== END ===== -/
end
section
/-! ===== BEGIN printed: names, fields, word lists, decode rows ===== -/
def RX0 : String := "BothToBlame$Reader"
def TX0 : u_T := fun k => match k with
  | 0 => ("BothToBlame$Reader", "bytes", "[B", true)
  | 1 => ("BothToBlame$Reader", "told", "LBothToBlame$Told;", true)
  | 2 => ("BothToBlame$Reader", "lawTold", "[Z", true)
  | 3 => ("BothToBlame$Reader", "end", "I", false)
  | 4 => ("BothToBlame$Reader", "next", "I", false)
  | 5 => ("BothToBlame$Reader", "found", "I", false)
  | 6 => ("BothToBlame$Reader", "start", "I", false)
  | 7 => ("BothToBlame$Reader", "token", "I", false)
  | 8 => ("BothToBlame$Reader", "length", "I", false)
  | 9 => ("BothToBlame$Reader", "letters", "J", false)
  | _ => ("BothToBlame$Reader", "number", "I", false)
def tyX0 : Nat → FieldType := fun k => match k with
  | 0 => .array .byte
  | 1 => .object "BothToBlame$Told"
  | 2 => .array .boolean
  | 3 => .int
  | 4 => .int
  | 5 => .int
  | 6 => .int
  | 7 => .int
  | 8 => .int
  | 9 => .long
  | _ => .int
abbrev wsX00 : List Cond := u_ws RX0 TX0 11
theorem nmX0 : ∀ a, a < 11 → ∀ b, b < 11 → a ≠ b → (TX0 a).2.1 ≠ (TX0 b).2.1 := by decide +kernel
theorem tyX0_ok : ∀ k, k < 11 → parseFieldDescriptor (TX0 k).2.2.1 = some (tyX0 k) := by decide +kernel
abbrev cX0_init : ByteArray := prog_2_method_1_code
def yX0_init : MethodName := ⟨RX0, "<init>", "()V"⟩
abbrev cX0_read : ByteArray := prog_2_method_2_code
def yX0_read : MethodName := ⟨RX0, "read", "(I)I"⟩
abbrev cX0_fail : ByteArray := prog_2_method_3_code
def yX0_fail : MethodName := ⟨RX0, "fail", "(I)Z"⟩
abbrev cX0_fitsTogether : ByteArray := prog_2_method_4_code
def yX0_fitsTogether : MethodName := ⟨RX0, "fitsTogether", "()Z"⟩
abbrev cX0_readLines : ByteArray := prog_2_method_5_code
def yX0_readLines : MethodName := ⟨RX0, "readLines", "()Z"⟩
abbrev cX0_readLine : ByteArray := prog_2_method_6_code
def yX0_readLine : MethodName := ⟨RX0, "readLine", "()Z"⟩
abbrev cX0_readShip : ByteArray := prog_2_method_7_code
def yX0_readShip : MethodName := ⟨RX0, "readShip", "()Z"⟩
abbrev cX0_readColumn : ByteArray := prog_2_method_8_code
def yX0_readColumn : MethodName := ⟨RX0, "readColumn", "(LBothToBlame$Word;)Z"⟩
abbrev cX0_readMark : ByteArray := prog_2_method_9_code
def yX0_readMark : MethodName := ⟨RX0, "readMark", "(LBothToBlame$Word;)V"⟩
abbrev cX0_readClaim : ByteArray := prog_2_method_10_code
def yX0_readClaim : MethodName := ⟨RX0, "readClaim", "(I)Z"⟩
abbrev cX0_readLaw : ByteArray := prog_2_method_11_code
def yX0_readLaw : MethodName := ⟨RX0, "readLaw", "(I)Z"⟩
abbrev cX0_readWord : ByteArray := prog_2_method_12_code
def yX0_readWord : MethodName := ⟨RX0, "readWord", "(LBothToBlame$Word;)Z"⟩
abbrev cX0_readWhole : ByteArray := prog_2_method_13_code
def yX0_readWhole : MethodName := ⟨RX0, "readWhole", "(II)Z"⟩
abbrev cX0_isName : ByteArray := prog_2_method_14_code
def yX0_isName : MethodName := ⟨RX0, "isName", "()Z"⟩
abbrev cX0_fixedWord : ByteArray := prog_2_method_15_code
def yX0_fixedWord : MethodName := ⟨RX0, "fixedWord", "()LBothToBlame$Word;"⟩
abbrev cX0_step : ByteArray := prog_2_method_16_code
def yX0_step : MethodName := ⟨RX0, "step", "()V"⟩
abbrev cX0_stepLetters : ByteArray := prog_2_method_17_code
def yX0_stepLetters : MethodName := ⟨RX0, "stepLetters", "()V"⟩
abbrev cX0_stepDigits : ByteArray := prog_2_method_18_code
def yX0_stepDigits : MethodName := ⟨RX0, "stepDigits", "()V"⟩
abbrev cX0_isLetter : ByteArray := prog_2_method_19_code
def yX0_isLetter : MethodName := ⟨RX0, "isLetter", "(B)Z"⟩
abbrev cX0_isDigit : ByteArray := prog_2_method_20_code
def yX0_isDigit : MethodName := ⟨RX0, "isDigit", "(B)Z"⟩
def RX1 : String := "BothToBlame$Reckoning"
def TX1 : u_T := fun k => match k with
  | 0 => ("BothToBlame$Reckoning", "told", "LBothToBlame$Told;", true)
  | 1 => ("BothToBlame$Reckoning", "weight", "[I", true)
  | 2 => ("BothToBlame$Reckoning", "backs", "[J", true)
  | 3 => ("BothToBlame$Reckoning", "owed", "[J", true)
  | 4 => ("BothToBlame$Reckoning", "paid", "[J", true)
  | 5 => ("BothToBlame$Reckoning", "lacked", "[J", true)
  | _ => ("BothToBlame$Reckoning", "weights", "I", false)
def tyX1 : Nat → FieldType := fun k => match k with
  | 0 => .object "BothToBlame$Told"
  | 1 => .array .int
  | 2 => .array .long
  | 3 => .array .long
  | 4 => .array .long
  | 5 => .array .long
  | _ => .int
abbrev wsX10 : List Cond := u_ws RX1 TX1 7
theorem nmX1 : ∀ a, a < 7 → ∀ b, b < 7 → a ≠ b → (TX1 a).2.1 ≠ (TX1 b).2.1 := by decide +kernel
theorem tyX1_ok : ∀ k, k < 7 → parseFieldDescriptor (TX1 k).2.2.1 = some (tyX1 k) := by decide +kernel
abbrev cX1_init : ByteArray := prog_3_method_1_code
def yX1_init : MethodName := ⟨RX1, "<init>", "()V"⟩
abbrev cX1_take : ByteArray := prog_3_method_2_code
def yX1_take : MethodName := ⟨RX1, "take", "(LBothToBlame$Told;)V"⟩
abbrev cX1_settle : ByteArray := prog_3_method_3_code
def yX1_settle : MethodName := ⟨RX1, "settle", "()V"⟩
abbrev cX1_cut : ByteArray := prog_3_method_4_code
def yX1_cut : MethodName := ⟨RX1, "cut", "(JJ)J"⟩
abbrev cX1_weigh : ByteArray := prog_3_method_5_code
def yX1_weigh : MethodName := ⟨RX1, "weigh", "()V"⟩
abbrev cX1_partOf : ByteArray := prog_3_method_6_code
def yX1_partOf : MethodName := ⟨RX1, "partOf", "(IJ)J"⟩
abbrev cX1_oweClaims : ByteArray := prog_3_method_7_code
def yX1_oweClaims : MethodName := ⟨RX1, "oweClaims", "()V"⟩
abbrev cX1_debt : ByteArray := prog_3_method_8_code
def yX1_debt : MethodName := ⟨RX1, "debt", "(II)J"⟩
abbrev cX1_backFor : ByteArray := prog_3_method_9_code
def yX1_backFor : MethodName := ⟨RX1, "backFor", "(II)J"⟩
abbrev cX1_oweBack : ByteArray := prog_3_method_10_code
def yX1_oweBack : MethodName := ⟨RX1, "oweBack", "()V"⟩
abbrev cX1_oweShips : ByteArray := prog_3_method_11_code
def yX1_oweShips : MethodName := ⟨RX1, "oweShips", "()V"⟩
abbrev cX1_hullDebt : ByteArray := prog_3_method_12_code
def yX1_hullDebt : MethodName := ⟨RX1, "hullDebt", "(II)J"⟩
abbrev cX1_backTo : ByteArray := prog_3_method_13_code
def yX1_backTo : MethodName := ⟨RX1, "backTo", "(II)J"⟩
abbrev cX1_crossDebt : ByteArray := prog_3_method_14_code
def yX1_crossDebt : MethodName := ⟨RX1, "crossDebt", "(II)J"⟩
abbrev cX1_backForClaim : ByteArray := prog_3_method_15_code
def yX1_backForClaim : MethodName := ⟨RX1, "backForClaim", "(I)J"⟩
abbrev cX1_pay : ByteArray := prog_3_method_16_code
def yX1_pay : MethodName := ⟨RX1, "pay", "(I)V"⟩
abbrev cX1_payOutOf : ByteArray := prog_3_method_17_code
def yX1_payOutOf : MethodName := ⟨RX1, "payOutOf", "(II)V"⟩
abbrev cX1_findLacks : ByteArray := prog_3_method_18_code
def yX1_findLacks : MethodName := ⟨RX1, "findLacks", "(III)J"⟩
abbrev cX1_takesPart : ByteArray := prog_3_method_19_code
def yX1_takesPart : MethodName := ⟨RX1, "takesPart", "(III)Z"⟩
abbrev cX1_payLacks : ByteArray := prog_3_method_20_code
def yX1_payLacks : MethodName := ⟨RX1, "payLacks", "(I)V"⟩
abbrev cX1_shareScarce : ByteArray := prog_3_method_21_code
def yX1_shareScarce : MethodName := ⟨RX1, "shareScarce", "(IJJ)V"⟩
abbrev cX1_owedToClaim : ByteArray := prog_3_method_22_code
def yX1_owedToClaim : MethodName := ⟨RX1, "owedToClaim", "(II)J"⟩
abbrev cX1_owedToShip : ByteArray := prog_3_method_23_code
def yX1_owedToShip : MethodName := ⟨RX1, "owedToShip", "(II)J"⟩
abbrev cX1_owedByShip : ByteArray := prog_3_method_24_code
def yX1_owedByShip : MethodName := ⟨RX1, "owedByShip", "(I)J"⟩
abbrev cX1_paidToClaim : ByteArray := prog_3_method_25_code
def yX1_paidToClaim : MethodName := ⟨RX1, "paidToClaim", "(II)J"⟩
abbrev cX1_paidToShip : ByteArray := prog_3_method_26_code
def yX1_paidToShip : MethodName := ⟨RX1, "paidToShip", "(II)J"⟩
abbrev cX1_paidByShip : ByteArray := prog_3_method_27_code
def yX1_paidByShip : MethodName := ⟨RX1, "paidByShip", "(I)J"⟩
abbrev cX1_rowTogether : ByteArray := prog_3_method_28_code
def yX1_rowTogether : MethodName := ⟨RX1, "rowTogether", "([JI)J"⟩
abbrev cX1_paidToClaimByAll : ByteArray := prog_3_method_29_code
def yX1_paidToClaimByAll : MethodName := ⟨RX1, "paidToClaimByAll", "(I)J"⟩
abbrev cX1_givenBack : ByteArray := prog_3_method_30_code
def yX1_givenBack : MethodName := ⟨RX1, "givenBack", "(I)J"⟩
abbrev cX1_leftToClaim : ByteArray := prog_3_method_31_code
def yX1_leftToClaim : MethodName := ⟨RX1, "leftToClaim", "(I)J"⟩
abbrev cX1_netOf : ByteArray := prog_3_method_32_code
def yX1_netOf : MethodName := ⟨RX1, "netOf", "(I)J"⟩
abbrev cX1_paidToPersons : ByteArray := prog_3_method_33_code
def yX1_paidToPersons : MethodName := ⟨RX1, "paidToPersons", "(I)J"⟩
abbrev cX1_threeQuarters : ByteArray := prog_3_method_34_code
def yX1_threeQuarters : MethodName := ⟨RX1, "threeQuarters", "(J)J"⟩
abbrev cX1_coveredOf : ByteArray := prog_3_method_35_code
def yX1_coveredOf : MethodName := ⟨RX1, "coveredOf", "(I)J"⟩
abbrev cX1_owedToPersons : ByteArray := prog_3_method_36_code
def yX1_owedToPersons : MethodName := ⟨RX1, "owedToPersons", "(I)J"⟩
abbrev cX1_rateNeeded : ByteArray := prog_3_method_37_code
def yX1_rateNeeded : MethodName := ⟨RX1, "rateNeeded", "(I)J"⟩
def RX2 : String := "BothToBlame$Told"
def TX2 : u_T := fun k => match k with
  | 0 => ("BothToBlame$Told", "ships", "I", false)
  | 1 => ("BothToBlame$Told", "claims", "I", false)
  | 2 => ("BothToBlame$Told", "names", "[J", true)
  | 3 => ("BothToBlame$Told", "shipRows", "[I", true)
  | 4 => ("BothToBlame$Told", "claimRows", "[I", true)
  | _ => ("BothToBlame$Told", "laws", "[I", true)
def tyX2 : Nat → FieldType := fun k => match k with
  | 0 => .int
  | 1 => .int
  | 2 => .array .long
  | 3 => .array .int
  | 4 => .array .int
  | _ => .array .int
abbrev wsX20 : List Cond := u_ws RX2 TX2 6
theorem nmX2 : ∀ a, a < 6 → ∀ b, b < 6 → a ≠ b → (TX2 a).2.1 ≠ (TX2 b).2.1 := by decide +kernel
theorem tyX2_ok : ∀ k, k < 6 → parseFieldDescriptor (TX2 k).2.2.1 = some (tyX2 k) := by decide +kernel
abbrev cX2_init : ByteArray := prog_4_method_1_code
def yX2_init : MethodName := ⟨RX2, "<init>", "()V"⟩
abbrev cX2_clear : ByteArray := prog_4_method_2_code
def yX2_clear : MethodName := ⟨RX2, "clear", "()V"⟩
abbrev cX2_copyFrom : ByteArray := prog_4_method_3_code
def yX2_copyFrom : MethodName := ⟨RX2, "copyFrom", "(LBothToBlame$Told;)V"⟩
abbrev cX2_ofShip : ByteArray := prog_4_method_4_code
def yX2_ofShip : MethodName := ⟨RX2, "ofShip", "(II)I"⟩
abbrev cX2_setShip : ByteArray := prog_4_method_5_code
def yX2_setShip : MethodName := ⟨RX2, "setShip", "(III)V"⟩
abbrev cX2_ofClaim : ByteArray := prog_4_method_6_code
def yX2_ofClaim : MethodName := ⟨RX2, "ofClaim", "(II)I"⟩
abbrev cX2_holds : ByteArray := prog_4_method_7_code
def yX2_holds : MethodName := ⟨RX2, "holds", "(I)Z"⟩
abbrev cX2_isGoods : ByteArray := prog_4_method_8_code
def yX2_isGoods : MethodName := ⟨RX2, "isGoods", "(I)Z"⟩
abbrev cX2_shipNamed : ByteArray := prog_4_method_9_code
def yX2_shipNamed : MethodName := ⟨RX2, "shipNamed", "(J)I"⟩
abbrev cX2_addShip : ByteArray := prog_4_method_10_code
def yX2_addShip : MethodName := ⟨RX2, "addShip", "(J)V"⟩
abbrev cX2_addClaim : ByteArray := prog_4_method_11_code
def yX2_addClaim : MethodName := ⟨RX2, "addClaim", "(IIII)V"⟩
abbrev cX2_dropClaim : ByteArray := prog_4_method_12_code
def yX2_dropClaim : MethodName := ⟨RX2, "dropClaim", "(I)V"⟩
abbrev cX2_faultsTogether : ByteArray := prog_4_method_13_code
def yX2_faultsTogether : MethodName := ⟨RX2, "faultsTogether", "()I"⟩
abbrev cX2_weightOf : ByteArray := prog_4_method_14_code
def yX2_weightOf : MethodName := ⟨RX2, "weightOf", "(I)I"⟩
abbrev cX2_roundOf : ByteArray := prog_4_method_15_code
def yX2_roundOf : MethodName := ⟨RX2, "roundOf", "(I)I"⟩
abbrev cX2_fundTons : ByteArray := prog_4_method_16_code
def yX2_fundTons : MethodName := ⟨RX2, "fundTons", "(I)J"⟩
abbrev cX2_fundOf : ByteArray := prog_4_method_17_code
def yX2_fundOf : MethodName := ⟨RX2, "fundOf", "(II)J"⟩
abbrev cX2_drawFaults : ByteArray := prog_4_method_18_code
def yX2_drawFaults : MethodName := ⟨RX2, "drawFaults", "(J)J"⟩
def RX3 : String := "BothToBlame$Word"
def TX3 : u_T := fun k => match k with
  | _ => ("", "", "", false)
def tyX3 : Nat → FieldType := fun k => match k with
  | _ => .int
abbrev wsX30 : List Cond := u_ws RX3 TX3 0
theorem nmX3 : ∀ a, a < 0 → ∀ b, b < 0 → a ≠ b → (TX3 a).2.1 ≠ (TX3 b).2.1 := by decide +kernel
theorem tyX3_ok : ∀ k, k < 0 → parseFieldDescriptor (TX3 k).2.2.1 = some (tyX3 k) := by decide +kernel
def RX4 : String := "BothToBlame"
def TX4 : u_T := fun k => match k with
  | 0 => ("BothToBlame", "reader", "LBothToBlame$Reader;", true)
  | 1 => ("BothToBlame", "now", "LBothToBlame$Told;", true)
  | 2 => ("BothToBlame", "reckoning", "LBothToBlame$Reckoning;", true)
  | 3 => ("BothToBlame", "earlier", "[LBothToBlame$Told;", true)
  | 4 => ("BothToBlame", "images", "[LBothToBlame$Told;", true)
  | 5 => ("BothToBlame", "kept", "[Z", true)
  | 6 => ("BothToBlame", "tapeLength", "I", false)
  | 7 => ("BothToBlame", "undoable", "I", false)
  | 8 => ("BothToBlame", "nextAct", "I", false)
  | 9 => ("BothToBlame", "latestTrouble", "I", false)
  | 10 => ("BothToBlame", "latestPlace", "I", false)
  | _ => ("BothToBlame", "latestFault", "I", false)
def tyX4 : Nat → FieldType := fun k => match k with
  | 0 => .object "BothToBlame$Reader"
  | 1 => .object "BothToBlame$Told"
  | 2 => .object "BothToBlame$Reckoning"
  | 3 => .array (.object "BothToBlame$Told")
  | 4 => .array (.object "BothToBlame$Told")
  | 5 => .array .boolean
  | 6 => .int
  | 7 => .int
  | 8 => .int
  | 9 => .int
  | 10 => .int
  | _ => .int
abbrev wsX40 : List Cond := u_ws RX4 TX4 12
theorem nmX4 : ∀ a, a < 12 → ∀ b, b < 12 → a ≠ b → (TX4 a).2.1 ≠ (TX4 b).2.1 := by decide +kernel
theorem tyX4_ok : ∀ k, k < 12 → parseFieldDescriptor (TX4 k).2.2.1 = some (tyX4 k) := by decide +kernel
abbrev cX4_init : ByteArray := prog_1_method_1_code
def yX4_init : MethodName := ⟨RX4, "<init>", "()V"⟩
abbrev cX4_feed : ByteArray := prog_1_method_2_code
def yX4_feed : MethodName := ⟨RX4, "feed", "(IIIII)I"⟩
abbrev cX4_text : ByteArray := prog_1_method_3_code
def yX4_text : MethodName := ⟨RX4, "text", "(I)I"⟩
abbrev cX4_fault : ByteArray := prog_1_method_4_code
def yX4_fault : MethodName := ⟨RX4, "fault", "()I"⟩
abbrev cX4_where : ByteArray := prog_1_method_5_code
def yX4_where : MethodName := ⟨RX4, "where", "()I"⟩
abbrev cX4_about : ByteArray := prog_1_method_6_code
def yX4_about : MethodName := ⟨RX4, "about", "(I)I"⟩
abbrev cX4_ship : ByteArray := prog_1_method_7_code
def yX4_ship : MethodName := ⟨RX4, "ship", "(II)I"⟩
abbrev cX4_claim : ByteArray := prog_1_method_8_code
def yX4_claim : MethodName := ⟨RX4, "claim", "(II)I"⟩
abbrev cX4_part : ByteArray := prog_1_method_9_code
def yX4_part : MethodName := ⟨RX4, "part", "(II)I"⟩
abbrev cX4_owes : ByteArray := prog_1_method_10_code
def yX4_owes : MethodName := ⟨RX4, "owes", "(II)I"⟩
abbrev cX4_between : ByteArray := prog_1_method_11_code
def yX4_between : MethodName := ⟨RX4, "between", "(III)J"⟩
abbrev cX4_back : ByteArray := prog_1_method_12_code
def yX4_back : MethodName := ⟨RX4, "back", "(I)J"⟩
abbrev cX4_fund : ByteArray := prog_1_method_13_code
def yX4_fund : MethodName := ⟨RX4, "fund", "(II)I"⟩
abbrev cX4_pays : ByteArray := prog_1_method_14_code
def yX4_pays : MethodName := ⟨RX4, "pays", "(II)I"⟩
abbrev cX4_paysTo : ByteArray := prog_1_method_15_code
def yX4_paysTo : MethodName := ⟨RX4, "paysTo", "(II)J"⟩
abbrev cX4_sum : ByteArray := prog_1_method_16_code
def yX4_sum : MethodName := ⟨RX4, "sum", "(II)J"⟩
abbrev cX4_bites : ByteArray := prog_1_method_17_code
def yX4_bites : MethodName := ⟨RX4, "bites", "(I)I"⟩
abbrev cX4_gets : ByteArray := prog_1_method_18_code
def yX4_gets : MethodName := ⟨RX4, "gets", "(II)J"⟩
abbrev cX4_cover : ByteArray := prog_1_method_19_code
def yX4_cover : MethodName := ⟨RX4, "cover", "(II)J"⟩
abbrev cX4_net : ByteArray := prog_1_method_20_code
def yX4_net : MethodName := ⟨RX4, "net", "(I)J"⟩
abbrev cX4_netBy : ByteArray := prog_1_method_21_code
def yX4_netBy : MethodName := ⟨RX4, "netBy", "(II)J"⟩
abbrev cX4_wished : ByteArray := prog_1_method_22_code
def yX4_wished : MethodName := ⟨RX4, "wished", "(I)I"⟩
abbrev cX4_gap : ByteArray := prog_1_method_23_code
def yX4_gap : MethodName := ⟨RX4, "gap", "(I)J"⟩
abbrev cX4_enough : ByteArray := prog_1_method_24_code
def yX4_enough : MethodName := ⟨RX4, "enough", "()I"⟩
abbrev cX4_would : ByteArray := prog_1_method_25_code
def yX4_would : MethodName := ⟨RX4, "would", "(III)J"⟩
abbrev cX4_worse : ByteArray := prog_1_method_26_code
def yX4_worse : MethodName := ⟨RX4, "worse", "(III)I"⟩
abbrev cX4_judged : ByteArray := prog_1_method_27_code
def yX4_judged : MethodName := ⟨RX4, "judged", "(IIII)J"⟩
abbrev cX4_all : ByteArray := prog_1_method_28_code
def yX4_all : MethodName := ⟨RX4, "all", "()J"⟩
abbrev cX4_shift : ByteArray := prog_1_method_29_code
def yX4_shift : MethodName := ⟨RX4, "shift", "(III)I"⟩
abbrev cX4_file : ByteArray := prog_1_method_30_code
def yX4_file : MethodName := ⟨RX4, "file", "(IIII)I"⟩
abbrev cX4_withdraw : ByteArray := prog_1_method_31_code
def yX4_withdraw : MethodName := ⟨RX4, "withdraw", "(I)I"⟩
abbrev cX4_become : ByteArray := prog_1_method_32_code
def yX4_become : MethodName := ⟨RX4, "become", "(III)I"⟩
abbrev cX4_law : ByteArray := prog_1_method_33_code
def yX4_law : MethodName := ⟨RX4, "law", "(II)I"⟩
abbrev cX4_undo : ByteArray := prog_1_method_34_code
def yX4_undo : MethodName := ⟨RX4, "undo", "()I"⟩
abbrev cX4_image : ByteArray := prog_1_method_35_code
def yX4_image : MethodName := ⟨RX4, "image", "(I)Z"⟩
abbrev cX4_again : ByteArray := prog_1_method_36_code
def yX4_again : MethodName := ⟨RX4, "again", "(I)Z"⟩
abbrev cX4_letter : ByteArray := prog_1_method_37_code
def yX4_letter : MethodName := ⟨RX4, "letter", "(II)I"⟩
abbrev cX4_size : ByteArray := prog_1_method_38_code
def yX4_size : MethodName := ⟨RX4, "size", "()I"⟩
abbrev cX4_trouble : ByteArray := prog_1_method_39_code
def yX4_trouble : MethodName := ⟨RX4, "trouble", "()I"⟩
abbrev cX4_within : ByteArray := prog_1_method_40_code
def yX4_within : MethodName := ⟨RX4, "within", "(III)Z"⟩
abbrev cX4_hasText : ByteArray := prog_1_method_41_code
def yX4_hasText : MethodName := ⟨RX4, "hasText", "()Z"⟩
abbrev cX4_hasShip : ByteArray := prog_1_method_42_code
def yX4_hasShip : MethodName := ⟨RX4, "hasShip", "(I)Z"⟩
abbrev cX4_hasClaim : ByteArray := prog_1_method_43_code
def yX4_hasClaim : MethodName := ⟨RX4, "hasClaim", "(I)Z"⟩
abbrev cX4_accept : ByteArray := prog_1_method_44_code
def yX4_accept : MethodName := ⟨RX4, "accept", "()V"⟩
abbrev cX4_refuse : ByteArray := prog_1_method_45_code
def yX4_refuse : MethodName := ⟨RX4, "refuse", "(I)Z"⟩
abbrev cX4_none : ByteArray := prog_1_method_46_code
def yX4_none : MethodName := ⟨RX4, "none", "(I)I"⟩
abbrev cX4_nothing : ByteArray := prog_1_method_47_code
def yX4_nothing : MethodName := ⟨RX4, "nothing", "(I)J"⟩
abbrev cX4_putBytes : ByteArray := prog_1_method_48_code
def yX4_putBytes : MethodName := ⟨RX4, "putBytes", "(I)V"⟩
abbrev cX4_beginAct : ByteArray := prog_1_method_49_code
def yX4_beginAct : MethodName := ⟨RX4, "beginAct", "()V"⟩
abbrev cX4_forgetActs : ByteArray := prog_1_method_50_code
def yX4_forgetActs : MethodName := ⟨RX4, "forgetActs", "()V"⟩
abbrev cX4_reckon : ByteArray := prog_1_method_51_code
def yX4_reckon : MethodName := ⟨RX4, "reckon", "()V"⟩
abbrev cX4_netUnder : ByteArray := prog_1_method_52_code
def yX4_netUnder : MethodName := ⟨RX4, "netUnder", "(II)J"⟩
abbrev cX4_tenthsOfBoth : ByteArray := prog_1_method_53_code
def yX4_tenthsOfBoth : MethodName := ⟨RX4, "tenthsOfBoth", "(II)I"⟩
abbrev cX4_netWithTenths : ByteArray := prog_1_method_54_code
def yX4_netWithTenths : MethodName := ⟨RX4, "netWithTenths", "(III)J"⟩
def RX5 : String := "BothToBlameModel"
def TX5 : u_T := fun k => match k with
  | 0 => ("BothToBlameModel", "thrown", "I", false)
  | 1 => ("BothToBlameModel", "trouble", "I", false)
  | 2 => ("BothToBlameModel", "place", "I", false)
  | 3 => ("BothToBlameModel", "fault", "I", false)
  | 4 => ("BothToBlameModel", "told", "Z", false)
  | 5 => ("BothToBlameModel", "s", "[I", true)
  | 6 => ("BothToBlameModel", "w", "[I", true)
  | 7 => ("BothToBlameModel", "read", "[I", true)
  | 8 => ("BothToBlameModel", "past", "[I", true)
  | 9 => ("BothToBlameModel", "acts", "I", false)
  | 10 => ("BothToBlameModel", "kept", "[I", true)
  | 11 => ("BothToBlameModel", "isKept", "[Z", true)
  | 12 => ("BothToBlameModel", "names", "[J", true)
  | 13 => ("BothToBlameModel", "readNames", "[J", true)
  | 14 => ("BothToBlameModel", "tape", "[I", true)
  | 15 => ("BothToBlameModel", "taped", "I", false)
  | 16 => ("BothToBlameModel", "length", "I", false)
  | 17 => ("BothToBlameModel", "next", "I", false)
  | 18 => ("BothToBlameModel", "from", "I", false)
  | 19 => ("BothToBlameModel", "sort", "I", false)
  | 20 => ("BothToBlameModel", "many", "I", false)
  | 21 => ("BothToBlameModel", "number", "I", false)
  | 22 => ("BothToBlameModel", "word", "J", false)
  | 23 => ("BothToBlameModel", "wrong", "I", false)
  | 24 => ("BothToBlameModel", "wrongAt", "I", false)
  | 25 => ("BothToBlameModel", "toldOnce", "I", false)
  | 26 => ("BothToBlameModel", "owed", "[J", true)
  | 27 => ("BothToBlameModel", "out", "[J", true)
  | 28 => ("BothToBlameModel", "paid", "[J", true)
  | _ => ("BothToBlameModel", "drawn", "J", false)
def tyX5 : Nat → FieldType := fun k => match k with
  | 0 => .int
  | 1 => .int
  | 2 => .int
  | 3 => .int
  | 4 => .boolean
  | 5 => .array .int
  | 6 => .array .int
  | 7 => .array .int
  | 8 => .array .int
  | 9 => .int
  | 10 => .array .int
  | 11 => .array .boolean
  | 12 => .array .long
  | 13 => .array .long
  | 14 => .array .int
  | 15 => .int
  | 16 => .int
  | 17 => .int
  | 18 => .int
  | 19 => .int
  | 20 => .int
  | 21 => .int
  | 22 => .long
  | 23 => .int
  | 24 => .int
  | 25 => .int
  | 26 => .array .long
  | 27 => .array .long
  | 28 => .array .long
  | _ => .long
abbrev wsX50 : List Cond := u_ws RX5 TX5 30
theorem nmX5 : ∀ a, a < 30 → ∀ b, b < 30 → a ≠ b → (TX5 a).2.1 ≠ (TX5 b).2.1 := by decide +kernel
theorem tyX5_ok : ∀ k, k < 30 → parseFieldDescriptor (TX5 k).2.2.1 = some (tyX5 k) := by decide +kernel
abbrev cX5_init : ByteArray := prog_7_method_1_code
def yX5_init : MethodName := ⟨RX5, "<init>", "()V"⟩
abbrev cX5_thrown : ByteArray := prog_7_method_2_code
def yX5_thrown : MethodName := ⟨RX5, "thrown", "()I"⟩
abbrev cX5_in : ByteArray := prog_7_method_3_code
def yX5_in : MethodName := ⟨RX5, "in", "(JJJ)Z"⟩
abbrev cX5_lesser : ByteArray := prog_7_method_4_code
def yX5_lesser : MethodName := ⟨RX5, "lesser", "(JJ)J"⟩
abbrev cX5_greater : ByteArray := prog_7_method_5_code
def yX5_greater : MethodName := ⟨RX5, "greater", "(JJ)J"⟩
abbrev cX5_begins : ByteArray := prog_7_method_6_code
def yX5_begins : MethodName := ⟨RX5, "begins", "()V"⟩
abbrev cX5_refuse : ByteArray := prog_7_method_7_code
def yX5_refuse : MethodName := ⟨RX5, "refuse", "(ZI)Z"⟩
abbrev cX5_feed : ByteArray := prog_7_method_8_code
def yX5_feed : MethodName := ⟨RX5, "feed", "(IIIII)I"⟩
abbrev cX5_size : ByteArray := prog_7_method_9_code
def yX5_size : MethodName := ⟨RX5, "size", "()I"⟩
abbrev cX5_seen : ByteArray := prog_7_method_10_code
def yX5_seen : MethodName := ⟨RX5, "seen", "(I)I"⟩
abbrev cX5_isLetter : ByteArray := prog_7_method_11_code
def yX5_isLetter : MethodName := ⟨RX5, "isLetter", "(I)Z"⟩
abbrev cX5_isDigit : ByteArray := prog_7_method_12_code
def yX5_isDigit : MethodName := ⟨RX5, "isDigit", "(I)Z"⟩
abbrev cX5_token : ByteArray := prog_7_method_13_code
def yX5_token : MethodName := ⟨RX5, "token", "()V"⟩
abbrev cX5_fails : ByteArray := prog_7_method_14_code
def yX5_fails : MethodName := ⟨RX5, "fails", "(I)V"⟩
abbrev cX5_goesOn : ByteArray := prog_7_method_15_code
def yX5_goesOn : MethodName := ⟨RX5, "goesOn", "()V"⟩
abbrev cX5_spelled : ByteArray := prog_7_method_16_code
def yX5_spelled : MethodName := ⟨RX5, "spelled", "(IIIIIII)J"⟩
abbrev cX5_isWord : ByteArray := prog_7_method_17_code
def yX5_isWord : MethodName := ⟨RX5, "isWord", "(J)Z"⟩
abbrev cX5_shipWord : ByteArray := prog_7_method_18_code
def yX5_shipWord : MethodName := ⟨RX5, "shipWord", "()J"⟩
abbrev cX5_tonsWord : ByteArray := prog_7_method_19_code
def yX5_tonsWord : MethodName := ⟨RX5, "tonsWord", "()J"⟩
abbrev cX5_faultWord : ByteArray := prog_7_method_20_code
def yX5_faultWord : MethodName := ⟨RX5, "faultWord", "()J"⟩
abbrev cX5_hullWord : ByteArray := prog_7_method_21_code
def yX5_hullWord : MethodName := ⟨RX5, "hullWord", "()J"⟩
abbrev cX5_valueWord : ByteArray := prog_7_method_22_code
def yX5_valueWord : MethodName := ⟨RX5, "valueWord", "()J"⟩
abbrev cX5_clauseWord : ByteArray := prog_7_method_23_code
def yX5_clauseWord : MethodName := ⟨RX5, "clauseWord", "()J"⟩
abbrev cX5_barredWord : ByteArray := prog_7_method_24_code
def yX5_barredWord : MethodName := ⟨RX5, "barredWord", "()J"⟩
abbrev cX5_goodsWord : ByteArray := prog_7_method_25_code
def yX5_goodsWord : MethodName := ⟨RX5, "goodsWord", "()J"⟩
abbrev cX5_personsWord : ByteArray := prog_7_method_26_code
def yX5_personsWord : MethodName := ⟨RX5, "personsWord", "()J"⟩
abbrev cX5_othersWord : ByteArray := prog_7_method_27_code
def yX5_othersWord : MethodName := ⟨RX5, "othersWord", "()J"⟩
abbrev cX5_dayWord : ByteArray := prog_7_method_28_code
def yX5_dayWord : MethodName := ⟨RX5, "dayWord", "()J"⟩
abbrev cX5_aboutWord : ByteArray := prog_7_method_29_code
def yX5_aboutWord : MethodName := ⟨RX5, "aboutWord", "(I)J"⟩
abbrev cX5_aboutHere : ByteArray := prog_7_method_30_code
def yX5_aboutHere : MethodName := ⟨RX5, "aboutHere", "()I"⟩
abbrev cX5_isName : ByteArray := prog_7_method_31_code
def yX5_isName : MethodName := ⟨RX5, "isName", "()Z"⟩
abbrev cX5_shipNamed : ByteArray := prog_7_method_32_code
def yX5_shipNamed : MethodName := ⟨RX5, "shipNamed", "()I"⟩
abbrev cX5_takes : ByteArray := prog_7_method_33_code
def yX5_takes : MethodName := ⟨RX5, "takes", "(J)V"⟩
abbrev cX5_whole : ByteArray := prog_7_method_34_code
def yX5_whole : MethodName := ⟨RX5, "whole", "(II)I"⟩
abbrev cX5_shipLine : ByteArray := prog_7_method_35_code
def yX5_shipLine : MethodName := ⟨RX5, "shipLine", "()V"⟩
abbrev cX5_claimLine : ByteArray := prog_7_method_36_code
def yX5_claimLine : MethodName := ⟨RX5, "claimLine", "(I)V"⟩
abbrev cX5_lowOf : ByteArray := prog_7_method_37_code
def yX5_lowOf : MethodName := ⟨RX5, "lowOf", "(I)I"⟩
abbrev cX5_highOf : ByteArray := prog_7_method_38_code
def yX5_highOf : MethodName := ⟨RX5, "highOf", "(I)I"⟩
abbrev cX5_aboutLine : ByteArray := prog_7_method_39_code
def yX5_aboutLine : MethodName := ⟨RX5, "aboutLine", "(I)V"⟩
abbrev cX5_line : ByteArray := prog_7_method_40_code
def yX5_line : MethodName := ⟨RX5, "line", "()V"⟩
abbrev cX5_plain : ByteArray := prog_7_method_41_code
def yX5_plain : MethodName := ⟨RX5, "plain", "()V"⟩
abbrev cX5_tenths : ByteArray := prog_7_method_42_code
def yX5_tenths : MethodName := ⟨RX5, "tenths", "()I"⟩
abbrev cX5_reads : ByteArray := prog_7_method_43_code
def yX5_reads : MethodName := ⟨RX5, "reads", "(I)V"⟩
abbrev cX5_text : ByteArray := prog_7_method_44_code
def yX5_text : MethodName := ⟨RX5, "text", "(I)I"⟩
abbrev cX5_fault : ByteArray := prog_7_method_45_code
def yX5_fault : MethodName := ⟨RX5, "fault", "()I"⟩
abbrev cX5_where : ByteArray := prog_7_method_46_code
def yX5_where : MethodName := ⟨RX5, "where", "()I"⟩
abbrev cX5_trouble : ByteArray := prog_7_method_47_code
def yX5_trouble : MethodName := ⟨RX5, "trouble", "()I"⟩
abbrev cX5_isShip : ByteArray := prog_7_method_48_code
def yX5_isShip : MethodName := ⟨RX5, "isShip", "(I)Z"⟩
abbrev cX5_isClaim : ByteArray := prog_7_method_49_code
def yX5_isClaim : MethodName := ⟨RX5, "isClaim", "(I)Z"⟩
abbrev cX5_ofShip : ByteArray := prog_7_method_50_code
def yX5_ofShip : MethodName := ⟨RX5, "ofShip", "([III)I"⟩
abbrev cX5_ofClaim : ByteArray := prog_7_method_51_code
def yX5_ofClaim : MethodName := ⟨RX5, "ofClaim", "([III)I"⟩
abbrev cX5_about : ByteArray := prog_7_method_52_code
def yX5_about : MethodName := ⟨RX5, "about", "(I)I"⟩
abbrev cX5_ship : ByteArray := prog_7_method_53_code
def yX5_ship : MethodName := ⟨RX5, "ship", "(II)I"⟩
abbrev cX5_claim : ByteArray := prog_7_method_54_code
def yX5_claim : MethodName := ⟨RX5, "claim", "(II)I"⟩
abbrev cX5_letter : ByteArray := prog_7_method_55_code
def yX5_letter : MethodName := ⟨RX5, "letter", "(II)I"⟩
abbrev cX5_weightOf : ByteArray := prog_7_method_56_code
def yX5_weightOf : MethodName := ⟨RX5, "weightOf", "([II)I"⟩
abbrev cX5_weightsOf : ByteArray := prog_7_method_57_code
def yX5_weightsOf : MethodName := ⟨RX5, "weightsOf", "([I)I"⟩
abbrev cX5_roundOf : ByteArray := prog_7_method_58_code
def yX5_roundOf : MethodName := ⟨RX5, "roundOf", "([II)I"⟩
abbrev cX5_partOf : ByteArray := prog_7_method_59_code
def yX5_partOf : MethodName := ⟨RX5, "partOf", "([IIJ)J"⟩
abbrev cX5_debtOf : ByteArray := prog_7_method_60_code
def yX5_debtOf : MethodName := ⟨RX5, "debtOf", "([III)J"⟩
abbrev cX5_backTo : ByteArray := prog_7_method_61_code
def yX5_backTo : MethodName := ⟨RX5, "backTo", "([III)J"⟩
abbrev cX5_backOf : ByteArray := prog_7_method_62_code
def yX5_backOf : MethodName := ⟨RX5, "backOf", "([II)J"⟩
abbrev cX5_hullOwed : ByteArray := prog_7_method_63_code
def yX5_hullOwed : MethodName := ⟨RX5, "hullOwed", "([III)J"⟩
abbrev cX5_backOwed : ByteArray := prog_7_method_64_code
def yX5_backOwed : MethodName := ⟨RX5, "backOwed", "([III)J"⟩
abbrev cX5_bothOwed : ByteArray := prog_7_method_65_code
def yX5_bothOwed : MethodName := ⟨RX5, "bothOwed", "([III)J"⟩
abbrev cX5_lawOwed : ByteArray := prog_7_method_66_code
def yX5_lawOwed : MethodName := ⟨RX5, "lawOwed", "([III)J"⟩
abbrev cX5_fundOf : ByteArray := prog_7_method_67_code
def yX5_fundOf : MethodName := ⟨RX5, "fundOf", "([III)J"⟩
abbrev cX5_shares : ByteArray := prog_7_method_68_code
def yX5_shares : MethodName := ⟨RX5, "shares", "(J)J"⟩
abbrev cX5_clears : ByteArray := prog_7_method_69_code
def yX5_clears : MethodName := ⟨RX5, "clears", "([J)V"⟩
abbrev cX5_owesPersons : ByteArray := prog_7_method_70_code
def yX5_owesPersons : MethodName := ⟨RX5, "owesPersons", "(II)V"⟩
abbrev cX5_owesAll : ByteArray := prog_7_method_71_code
def yX5_owesAll : MethodName := ⟨RX5, "owesAll", "(II)V"⟩
abbrev cX5_sharesLives : ByteArray := prog_7_method_72_code
def yX5_sharesLives : MethodName := ⟨RX5, "sharesLives", "(I)V"⟩
abbrev cX5_paysOne : ByteArray := prog_7_method_73_code
def yX5_paysOne : MethodName := ⟨RX5, "paysOne", "(I)V"⟩
abbrev cX5_paysAll : ByteArray := prog_7_method_74_code
def yX5_paysAll : MethodName := ⟨RX5, "paysAll", "()V"⟩
abbrev cX5_lays : ByteArray := prog_7_method_75_code
def yX5_lays : MethodName := ⟨RX5, "lays", "()V"⟩
abbrev cX5_laysPaid : ByteArray := prog_7_method_76_code
def yX5_laysPaid : MethodName := ⟨RX5, "laysPaid", "()V"⟩
abbrev cX5_paidTo : ByteArray := prog_7_method_77_code
def yX5_paidTo : MethodName := ⟨RX5, "paidTo", "(I)J"⟩
abbrev cX5_givenOf : ByteArray := prog_7_method_78_code
def yX5_givenOf : MethodName := ⟨RX5, "givenOf", "(I)J"⟩
abbrev cX5_paidBy : ByteArray := prog_7_method_79_code
def yX5_paidBy : MethodName := ⟨RX5, "paidBy", "(I)J"⟩
abbrev cX5_netOf : ByteArray := prog_7_method_80_code
def yX5_netOf : MethodName := ⟨RX5, "netOf", "(I)J"⟩
abbrev cX5_part : ByteArray := prog_7_method_81_code
def yX5_part : MethodName := ⟨RX5, "part", "(II)I"⟩
abbrev cX5_owes : ByteArray := prog_7_method_82_code
def yX5_owes : MethodName := ⟨RX5, "owes", "(II)I"⟩
abbrev cX5_between : ByteArray := prog_7_method_83_code
def yX5_between : MethodName := ⟨RX5, "between", "(III)J"⟩
abbrev cX5_back : ByteArray := prog_7_method_84_code
def yX5_back : MethodName := ⟨RX5, "back", "(I)J"⟩
abbrev cX5_fund : ByteArray := prog_7_method_85_code
def yX5_fund : MethodName := ⟨RX5, "fund", "(II)I"⟩
abbrev cX5_pays : ByteArray := prog_7_method_86_code
def yX5_pays : MethodName := ⟨RX5, "pays", "(II)I"⟩
abbrev cX5_paysTo : ByteArray := prog_7_method_87_code
def yX5_paysTo : MethodName := ⟨RX5, "paysTo", "(II)J"⟩
abbrev cX5_owedBy : ByteArray := prog_7_method_88_code
def yX5_owedBy : MethodName := ⟨RX5, "owedBy", "(I)J"⟩
abbrev cX5_sum : ByteArray := prog_7_method_89_code
def yX5_sum : MethodName := ⟨RX5, "sum", "(II)J"⟩
abbrev cX5_bites : ByteArray := prog_7_method_90_code
def yX5_bites : MethodName := ⟨RX5, "bites", "(I)I"⟩
abbrev cX5_gets : ByteArray := prog_7_method_91_code
def yX5_gets : MethodName := ⟨RX5, "gets", "(II)J"⟩
abbrev cX5_cover : ByteArray := prog_7_method_92_code
def yX5_cover : MethodName := ⟨RX5, "cover", "(II)J"⟩
abbrev cX5_net : ByteArray := prog_7_method_93_code
def yX5_net : MethodName := ⟨RX5, "net", "(I)J"⟩
abbrev cX5_netWith : ByteArray := prog_7_method_94_code
def yX5_netWith : MethodName := ⟨RX5, "netWith", "(II)J"⟩
abbrev cX5_netBy : ByteArray := prog_7_method_95_code
def yX5_netBy : MethodName := ⟨RX5, "netBy", "(II)J"⟩
abbrev cX5_wished : ByteArray := prog_7_method_96_code
def yX5_wished : MethodName := ⟨RX5, "wished", "(I)I"⟩
abbrev cX5_gap : ByteArray := prog_7_method_97_code
def yX5_gap : MethodName := ⟨RX5, "gap", "(I)J"⟩
abbrev cX5_neededOf : ByteArray := prog_7_method_98_code
def yX5_neededOf : MethodName := ⟨RX5, "neededOf", "(I)J"⟩
abbrev cX5_enough : ByteArray := prog_7_method_99_code
def yX5_enough : MethodName := ⟨RX5, "enough", "()I"⟩
abbrev cX5_netShifted : ByteArray := prog_7_method_100_code
def yX5_netShifted : MethodName := ⟨RX5, "netShifted", "(III)J"⟩
abbrev cX5_would : ByteArray := prog_7_method_101_code
def yX5_would : MethodName := ⟨RX5, "would", "(III)J"⟩
abbrev cX5_worse : ByteArray := prog_7_method_102_code
def yX5_worse : MethodName := ⟨RX5, "worse", "(III)I"⟩
abbrev cX5_draw : ByteArray := prog_7_method_103_code
def yX5_draw : MethodName := ⟨RX5, "draw", "(I)I"⟩
abbrev cX5_netJudged : ByteArray := prog_7_method_104_code
def yX5_netJudged : MethodName := ⟨RX5, "netJudged", "(I)J"⟩
abbrev cX5_judged : ByteArray := prog_7_method_105_code
def yX5_judged : MethodName := ⟨RX5, "judged", "(IIII)J"⟩
abbrev cX5_all : ByteArray := prog_7_method_106_code
def yX5_all : MethodName := ⟨RX5, "all", "()J"⟩
abbrev cX5_keeps : ByteArray := prog_7_method_107_code
def yX5_keeps : MethodName := ⟨RX5, "keeps", "()V"⟩
abbrev cX5_shift : ByteArray := prog_7_method_108_code
def yX5_shift : MethodName := ⟨RX5, "shift", "(III)I"⟩
abbrev cX5_file : ByteArray := prog_7_method_109_code
def yX5_file : MethodName := ⟨RX5, "file", "(IIII)I"⟩
abbrev cX5_withdraw : ByteArray := prog_7_method_110_code
def yX5_withdraw : MethodName := ⟨RX5, "withdraw", "(I)I"⟩
abbrev cX5_isWithin : ByteArray := prog_7_method_111_code
def yX5_isWithin : MethodName := ⟨RX5, "isWithin", "(II)Z"⟩
abbrev cX5_become : ByteArray := prog_7_method_112_code
def yX5_become : MethodName := ⟨RX5, "become", "(III)I"⟩
abbrev cX5_law : ByteArray := prog_7_method_113_code
def yX5_law : MethodName := ⟨RX5, "law", "(II)I"⟩
abbrev cX5_undo : ByteArray := prog_7_method_114_code
def yX5_undo : MethodName := ⟨RX5, "undo", "()I"⟩
abbrev cX5_image : ByteArray := prog_7_method_115_code
def yX5_image : MethodName := ⟨RX5, "image", "(I)Z"⟩
abbrev cX5_again : ByteArray := prog_7_method_116_code
def yX5_again : MethodName := ⟨RX5, "again", "(I)Z"⟩
def RJx145de : String := "java/io/Serializable"
def TJx145de : u_T := fun k => match k with
  | _ => ("", "", "", false)
def tyJx145de : Nat → FieldType := fun k => match k with
  | _ => .int
abbrev wsJx145de0 : List Cond := u_ws RJx145de TJx145de 0
theorem nmJx145de : ∀ a, a < 0 → ∀ b, b < 0 → a ≠ b → (TJx145de a).2.1 ≠ (TJx145de b).2.1 := by decide +kernel
theorem tyJx145de_ok : ∀ k, k < 0 → parseFieldDescriptor (TJx145de k).2.2.1 = some (tyJx145de k) := by decide +kernel
def RJx29ce0 : String := "java/lang/Enum"
def TJx29ce0 : u_T := fun k => match k with
  | _ => ("", "", "", false)
def tyJx29ce0 : Nat → FieldType := fun k => match k with
  | _ => .int
abbrev wsJx29ce00 : List Cond := u_ws RJx29ce0 TJx29ce0 0
theorem nmJx29ce0 : ∀ a, a < 0 → ∀ b, b < 0 → a ≠ b → (TJx29ce0 a).2.1 ≠ (TJx29ce0 b).2.1 := by decide +kernel
theorem tyJx29ce0_ok : ∀ k, k < 0 → parseFieldDescriptor (TJx29ce0 k).2.2.1 = some (tyJx29ce0 k) := by decide +kernel
def RJ9 : String := "java/lang/Math"
def TJ9 : u_T := fun k => match k with
  | _ => ("", "", "", false)
def tyJ9 : Nat → FieldType := fun k => match k with
  | _ => .int
abbrev wsJ90 : List Cond := u_ws RJ9 TJ9 0
theorem nmJ9 : ∀ a, a < 0 → ∀ b, b < 0 → a ≠ b → (TJ9 a).2.1 ≠ (TJ9 b).2.1 := by decide +kernel
theorem tyJ9_ok : ∀ k, k < 0 → parseFieldDescriptor (TJ9 k).2.2.1 = some (tyJ9 k) := by decide +kernel
abbrev cJ9_max_7cf53 : ByteArray := prog_11_method_65_code
def yJ9_max_7cf53 : MethodName := ⟨RJ9, "max", "(II)I"⟩
abbrev cJ9_max_f86c9 : ByteArray := prog_11_method_66_code
def yJ9_max_f86c9 : MethodName := ⟨RJ9, "max", "(JJ)J"⟩
abbrev cJ9_min_7cf53 : ByteArray := prog_11_method_69_code
def yJ9_min_7cf53 : MethodName := ⟨RJ9, "min", "(II)I"⟩
abbrev cJ9_min_f86c9 : ByteArray := prog_11_method_70_code
def yJ9_min_f86c9 : MethodName := ⟨RJ9, "min", "(JJ)J"⟩
def RJ10 : String := "java/lang/System"
def TJ10 : u_T := fun k => match k with
  | _ => ("", "", "", false)
def tyJ10 : Nat → FieldType := fun k => match k with
  | _ => .int
abbrev wsJ100 : List Cond := u_ws RJ10 TJ10 0
theorem nmJ10 : ∀ a, a < 0 → ∀ b, b < 0 → a ≠ b → (TJ10 a).2.1 ≠ (TJ10 b).2.1 := by decide +kernel
theorem tyJ10_ok : ∀ k, k < 0 → parseFieldDescriptor (TJ10 k).2.2.1 = some (tyJ10 k) := by decide +kernel
def RJ7 : String := "java/util/Arrays"
def TJ7 : u_T := fun k => match k with
  | _ => ("", "", "", false)
def tyJ7 : Nat → FieldType := fun k => match k with
  | _ => .int
abbrev wsJ70 : List Cond := u_ws RJ7 TJ7 0
theorem nmJ7 : ∀ a, a < 0 → ∀ b, b < 0 → a ≠ b → (TJ7 a).2.1 ≠ (TJ7 b).2.1 := by decide +kernel
theorem tyJ7_ok : ∀ k, k < 0 → parseFieldDescriptor (TJ7 k).2.2.1 = some (tyJ7 k) := by decide +kernel
abbrev cJ7_fill_d0a16 : ByteArray := prog_15_method_101_code
def yJ7_fill_d0a16 : MethodName := ⟨RJ7, "fill", "([JJ)V"⟩
def RL : String := "BothToBlameLaw"
abbrev cL_letter : ByteArray := method_3_code
def yL_letter : MethodName := ⟨RL, "letter", "(LBothToBlame;II[J)I"⟩
abbrev cL_law : ByteArray := code
def yL_law : MethodName := ⟨RL, "law", "([I)Z"⟩
abbrev vwCl : List vw_C := [(RX0, TX0, 11), (RX1, TX1, 7), (RX2, TX2, 6), (RX4, TX4, 12), (RX5, TX5, 30)]
end
section
theorem dX0_init_0 : decode cX0_init 0 = .ok (.aload_n 0, 1) := by decide +kernel
theorem dX0_init_1 : decode cX0_init 1 = .ok (.invokespecial 3, 3) := by decide +kernel
theorem dX0_init_4 : decode cX0_init 4 = .ok (.aload_n 0, 1) := by decide +kernel
theorem dX0_init_5 : decode cX0_init 5 = .ok (.sipush 600, 3) := by decide +kernel
theorem dX0_init_8 : decode cX0_init 8 = .ok (.newarray .byte, 2) := by decide +kernel
theorem dX0_init_10 : decode cX0_init 10 = .ok (.putfield 9, 3) := by decide +kernel
theorem dX0_init_13 : decode cX0_init 13 = .ok (.aload_n 0, 1) := by decide +kernel
theorem dX0_init_14 : decode cX0_init 14 = .ok (.new 15, 3) := by decide +kernel
theorem dX0_init_17 : decode cX0_init 17 = .ok (.dup, 1) := by decide +kernel
theorem dX0_init_18 : decode cX0_init 18 = .ok (.invokespecial 17, 3) := by decide +kernel
theorem dX0_init_21 : decode cX0_init 21 = .ok (.putfield 18, 3) := by decide +kernel
theorem dX0_init_24 : decode cX0_init 24 = .ok (.aload_n 0, 1) := by decide +kernel
theorem dX0_init_25 : decode cX0_init 25 = .ok (.bipush 10, 2) := by decide +kernel
theorem dX0_init_27 : decode cX0_init 27 = .ok (.newarray .boolean, 2) := by decide +kernel
theorem dX0_init_29 : decode cX0_init 29 = .ok (.putfield 22, 3) := by decide +kernel
theorem dX0_init_32 : decode cX0_init 32 = .ok (.aload_n 0, 1) := by decide +kernel
theorem dX0_init_33 : decode cX0_init 33 = .ok (.iconst 0, 1) := by decide +kernel
theorem dX0_init_34 : decode cX0_init 34 = .ok (.putfield 26, 3) := by decide +kernel
theorem dX0_init_37 : decode cX0_init 37 = .ok (.aload_n 0, 1) := by decide +kernel
theorem dX0_init_38 : decode cX0_init 38 = .ok (.iconst 0, 1) := by decide +kernel
theorem dX0_init_39 : decode cX0_init 39 = .ok (.putfield 30, 3) := by decide +kernel
theorem dX0_init_42 : decode cX0_init 42 = .ok (.aload_n 0, 1) := by decide +kernel
theorem dX0_init_43 : decode cX0_init 43 = .ok (.iconst 0, 1) := by decide +kernel
theorem dX0_init_44 : decode cX0_init 44 = .ok (.putfield 33, 3) := by decide +kernel
theorem dX0_init_47 : decode cX0_init 47 = .ok (.aload_n 0, 1) := by decide +kernel
theorem dX0_init_48 : decode cX0_init 48 = .ok (.iconst 0, 1) := by decide +kernel
theorem dX0_init_49 : decode cX0_init 49 = .ok (.putfield 36, 3) := by decide +kernel
theorem dX0_init_52 : decode cX0_init 52 = .ok (.aload_n 0, 1) := by decide +kernel
theorem dX0_init_53 : decode cX0_init 53 = .ok (.iconst 0, 1) := by decide +kernel
theorem dX0_init_54 : decode cX0_init 54 = .ok (.putfield 39, 3) := by decide +kernel
theorem dX0_init_57 : decode cX0_init 57 = .ok (.aload_n 0, 1) := by decide +kernel
theorem dX0_init_58 : decode cX0_init 58 = .ok (.iconst 0, 1) := by decide +kernel
theorem dX0_init_59 : decode cX0_init 59 = .ok (.putfield 42, 3) := by decide +kernel
theorem dX0_init_62 : decode cX0_init 62 = .ok (.aload_n 0, 1) := by decide +kernel
theorem dX0_init_63 : decode cX0_init 63 = .ok (.lconst 0, 1) := by decide +kernel
theorem dX0_init_64 : decode cX0_init 64 = .ok (.putfield 45, 3) := by decide +kernel
theorem dX0_init_67 : decode cX0_init 67 = .ok (.aload_n 0, 1) := by decide +kernel
theorem dX0_init_68 : decode cX0_init 68 = .ok (.iconst 0, 1) := by decide +kernel
theorem dX0_init_69 : decode cX0_init 69 = .ok (.putfield 49, 3) := by decide +kernel
theorem dX0_init_72 : decode cX0_init 72 = .ok (.return_, 1) := by decide +kernel
theorem dX0_read_0 : decode cX0_read 0 = .ok (.aload_n 0, 1) := by decide +kernel
theorem dX0_read_1 : decode cX0_read 1 = .ok (.iload_n 1, 1) := by decide +kernel
theorem dX0_read_2 : decode cX0_read 2 = .ok (.putfield 26, 3) := by decide +kernel
theorem dX0_read_5 : decode cX0_read 5 = .ok (.aload_n 0, 1) := by decide +kernel
theorem dX0_read_6 : decode cX0_read 6 = .ok (.iconst 0, 1) := by decide +kernel
theorem dX0_read_7 : decode cX0_read 7 = .ok (.putfield 30, 3) := by decide +kernel
theorem dX0_read_10 : decode cX0_read 10 = .ok (.aload_n 0, 1) := by decide +kernel
theorem dX0_read_11 : decode cX0_read 11 = .ok (.iconst 0, 1) := by decide +kernel
theorem dX0_read_12 : decode cX0_read 12 = .ok (.putfield 33, 3) := by decide +kernel
theorem dX0_read_15 : decode cX0_read 15 = .ok (.aload_n 0, 1) := by decide +kernel
theorem dX0_read_16 : decode cX0_read 16 = .ok (.getfield 18, 3) := by decide +kernel
theorem dX0_read_19 : decode cX0_read 19 = .ok (.invokevirtual 52, 3) := by decide +kernel
theorem dX0_read_22 : decode cX0_read 22 = .ok (.iconst 0, 1) := by decide +kernel
theorem dX0_read_23 : decode cX0_read 23 = .ok (.istore_n 2, 1) := by decide +kernel
theorem dX0_read_24 : decode cX0_read 24 = .ok (.iload_n 2, 1) := by decide +kernel
theorem dX0_read_25 : decode cX0_read 25 = .ok (.bipush 10, 2) := by decide +kernel
theorem dX0_read_27 : decode cX0_read 27 = .ok (.if_icmp .ge 16, 3) := by decide +kernel
theorem dX0_read_30 : decode cX0_read 30 = .ok (.aload_n 0, 1) := by decide +kernel
theorem dX0_read_31 : decode cX0_read 31 = .ok (.getfield 22, 3) := by decide +kernel
theorem dX0_read_34 : decode cX0_read 34 = .ok (.iload_n 2, 1) := by decide +kernel
theorem dX0_read_35 : decode cX0_read 35 = .ok (.iconst 0, 1) := by decide +kernel
theorem dX0_read_36 : decode cX0_read 36 = .ok (.bastore, 1) := by decide +kernel
theorem dX0_read_37 : decode cX0_read 37 = .ok (.iinc 2 1, 3) := by decide +kernel
theorem dX0_read_40 : decode cX0_read 40 = .ok (.goto (-16), 3) := by decide +kernel
theorem dX0_read_43 : decode cX0_read 43 = .ok (.aload_n 0, 1) := by decide +kernel
theorem dX0_read_44 : decode cX0_read 44 = .ok (.invokevirtual 55, 3) := by decide +kernel
theorem dX0_read_47 : decode cX0_read 47 = .ok (.ifCond .eq 16, 3) := by decide +kernel
theorem dX0_read_50 : decode cX0_read 50 = .ok (.aload_n 0, 1) := by decide +kernel
theorem dX0_read_51 : decode cX0_read 51 = .ok (.invokevirtual 59, 3) := by decide +kernel
theorem dX0_read_54 : decode cX0_read 54 = .ok (.ifCond .ne 9, 3) := by decide +kernel
theorem dX0_read_57 : decode cX0_read 57 = .ok (.aload_n 0, 1) := by decide +kernel
theorem dX0_read_58 : decode cX0_read 58 = .ok (.iconst 5, 1) := by decide +kernel
theorem dX0_read_59 : decode cX0_read 59 = .ok (.invokevirtual 62, 3) := by decide +kernel
theorem dX0_read_62 : decode cX0_read 62 = .ok (.pop, 1) := by decide +kernel
theorem dX0_read_63 : decode cX0_read 63 = .ok (.aload_n 0, 1) := by decide +kernel
theorem dX0_read_64 : decode cX0_read 64 = .ok (.getfield 33, 3) := by decide +kernel
theorem dX0_read_67 : decode cX0_read 67 = .ok (.ireturn, 1) := by decide +kernel
theorem dX0_fail_0 : decode cX0_fail 0 = .ok (.aload_n 0, 1) := by decide +kernel
theorem dX0_fail_1 : decode cX0_fail 1 = .ok (.iload_n 1, 1) := by decide +kernel
theorem dX0_fail_2 : decode cX0_fail 2 = .ok (.putfield 33, 3) := by decide +kernel
theorem dX0_fail_5 : decode cX0_fail 5 = .ok (.iconst 0, 1) := by decide +kernel
theorem dX0_fail_6 : decode cX0_fail 6 = .ok (.ireturn, 1) := by decide +kernel
theorem dX0_fitsTogether_0 : decode cX0_fitsTogether 0 = .ok (.aload_n 0, 1) := by decide +kernel
theorem dX0_fitsTogether_1 : decode cX0_fitsTogether 1 = .ok (.getfield 18, 3) := by decide +kernel
theorem dX0_fitsTogether_4 : decode cX0_fitsTogether 4 = .ok (.getfield 66, 3) := by decide +kernel
theorem dX0_fitsTogether_7 : decode cX0_fitsTogether 7 = .ok (.iconst 2, 1) := by decide +kernel
theorem dX0_fitsTogether_8 : decode cX0_fitsTogether 8 = .ok (.if_icmp .lt 42, 3) := by decide +kernel
theorem dX0_fitsTogether_11 : decode cX0_fitsTogether 11 = .ok (.aload_n 0, 1) := by decide +kernel
theorem dX0_fitsTogether_12 : decode cX0_fitsTogether 12 = .ok (.getfield 18, 3) := by decide +kernel
theorem dX0_fitsTogether_15 : decode cX0_fitsTogether 15 = .ok (.invokevirtual 69, 3) := by decide +kernel
theorem dX0_fitsTogether_18 : decode cX0_fitsTogether 18 = .ok (.bipush 10, 2) := by decide +kernel
theorem dX0_fitsTogether_20 : decode cX0_fitsTogether 20 = .ok (.if_icmp .ne 30, 3) := by decide +kernel
theorem dX0_fitsTogether_23 : decode cX0_fitsTogether 23 = .ok (.aload_n 0, 1) := by decide +kernel
theorem dX0_fitsTogether_24 : decode cX0_fitsTogether 24 = .ok (.getfield 18, 3) := by decide +kernel
theorem dX0_fitsTogether_27 : decode cX0_fitsTogether 27 = .ok (.getfield 73, 3) := by decide +kernel
theorem dX0_fitsTogether_30 : decode cX0_fitsTogether 30 = .ok (.bipush 9, 2) := by decide +kernel
theorem dX0_fitsTogether_32 : decode cX0_fitsTogether 32 = .ok (.iaload, 1) := by decide +kernel
theorem dX0_fitsTogether_33 : decode cX0_fitsTogether 33 = .ok (.aload_n 0, 1) := by decide +kernel
theorem dX0_fitsTogether_34 : decode cX0_fitsTogether 34 = .ok (.getfield 18, 3) := by decide +kernel
theorem dX0_fitsTogether_37 : decode cX0_fitsTogether 37 = .ok (.getfield 73, 3) := by decide +kernel
theorem dX0_fitsTogether_40 : decode cX0_fitsTogether 40 = .ok (.bipush 8, 2) := by decide +kernel
theorem dX0_fitsTogether_42 : decode cX0_fitsTogether 42 = .ok (.iaload, 1) := by decide +kernel
theorem dX0_fitsTogether_43 : decode cX0_fitsTogether 43 = .ok (.if_icmp .lt 7, 3) := by decide +kernel
theorem dX0_fitsTogether_46 : decode cX0_fitsTogether 46 = .ok (.iconst 1, 1) := by decide +kernel
theorem dX0_fitsTogether_47 : decode cX0_fitsTogether 47 = .ok (.goto 4, 3) := by decide +kernel
theorem dX0_fitsTogether_50 : decode cX0_fitsTogether 50 = .ok (.iconst 0, 1) := by decide +kernel
theorem dX0_fitsTogether_51 : decode cX0_fitsTogether 51 = .ok (.ireturn, 1) := by decide +kernel
theorem dX0_readLines_0 : decode cX0_readLines 0 = .ok (.iconst 0, 1) := by decide +kernel
theorem dX0_readLines_1 : decode cX0_readLines 1 = .ok (.istore_n 1, 1) := by decide +kernel
theorem dX0_readLines_2 : decode cX0_readLines 2 = .ok (.iload_n 1, 1) := by decide +kernel
theorem dX0_readLines_3 : decode cX0_readLines 3 = .ok (.aload_n 0, 1) := by decide +kernel
theorem dX0_readLines_4 : decode cX0_readLines 4 = .ok (.getfield 26, 3) := by decide +kernel
theorem dX0_readLines_7 : decode cX0_readLines 7 = .ok (.if_icmp .gt 51, 3) := by decide +kernel
theorem dX0_readLines_10 : decode cX0_readLines 10 = .ok (.aload_n 0, 1) := by decide +kernel
theorem dX0_readLines_11 : decode cX0_readLines 11 = .ok (.invokevirtual 77, 3) := by decide +kernel
theorem dX0_readLines_14 : decode cX0_readLines 14 = .ok (.aload_n 0, 1) := by decide +kernel
theorem dX0_readLines_15 : decode cX0_readLines 15 = .ok (.invokevirtual 80, 3) := by decide +kernel
theorem dX0_readLines_18 : decode cX0_readLines 18 = .ok (.ifCond .ne 5, 3) := by decide +kernel
theorem dX0_readLines_21 : decode cX0_readLines 21 = .ok (.iconst 0, 1) := by decide +kernel
theorem dX0_readLines_22 : decode cX0_readLines 22 = .ok (.ireturn, 1) := by decide +kernel
theorem dX0_readLines_23 : decode cX0_readLines 23 = .ok (.aload_n 0, 1) := by decide +kernel
theorem dX0_readLines_24 : decode cX0_readLines 24 = .ok (.getfield 39, 3) := by decide +kernel
theorem dX0_readLines_27 : decode cX0_readLines 27 = .ok (.iconst 3, 1) := by decide +kernel
theorem dX0_readLines_28 : decode cX0_readLines 28 = .ok (.if_icmp .eq 24, 3) := by decide +kernel
theorem dX0_readLines_31 : decode cX0_readLines 31 = .ok (.aload_n 0, 1) := by decide +kernel
theorem dX0_readLines_32 : decode cX0_readLines 32 = .ok (.getfield 39, 3) := by decide +kernel
theorem dX0_readLines_35 : decode cX0_readLines 35 = .ok (.ifCond .eq 11, 3) := by decide +kernel
theorem dX0_readLines_38 : decode cX0_readLines 38 = .ok (.aload_n 0, 1) := by decide +kernel
theorem dX0_readLines_39 : decode cX0_readLines 39 = .ok (.iconst 1, 1) := by decide +kernel
theorem dX0_readLines_40 : decode cX0_readLines 40 = .ok (.invokevirtual 62, 3) := by decide +kernel
theorem dX0_readLines_43 : decode cX0_readLines 43 = .ok (.ifCond .eq 7, 3) := by decide +kernel
theorem dX0_readLines_46 : decode cX0_readLines 46 = .ok (.iconst 1, 1) := by decide +kernel
theorem dX0_readLines_47 : decode cX0_readLines 47 = .ok (.goto 4, 3) := by decide +kernel
theorem dX0_readLines_50 : decode cX0_readLines 50 = .ok (.iconst 0, 1) := by decide +kernel
theorem dX0_readLines_51 : decode cX0_readLines 51 = .ok (.ireturn, 1) := by decide +kernel
theorem dX0_readLines_52 : decode cX0_readLines 52 = .ok (.iinc 1 1, 3) := by decide +kernel
theorem dX0_readLines_55 : decode cX0_readLines 55 = .ok (.goto (-53), 3) := by decide +kernel
theorem dX0_readLines_58 : decode cX0_readLines 58 = .ok (.aload_n 0, 1) := by decide +kernel
theorem dX0_readLines_59 : decode cX0_readLines 59 = .ok (.iconst 1, 1) := by decide +kernel
theorem dX0_readLines_60 : decode cX0_readLines 60 = .ok (.invokevirtual 62, 3) := by decide +kernel
theorem dX0_readLines_63 : decode cX0_readLines 63 = .ok (.ireturn, 1) := by decide +kernel
theorem dX0_readLine_0 : decode cX0_readLine 0 = .ok (.aload_n 0, 1) := by decide +kernel
theorem dX0_readLine_1 : decode cX0_readLine 1 = .ok (.invokevirtual 83, 3) := by decide +kernel
theorem dX0_readLine_4 : decode cX0_readLine 4 = .ok (.astore_n 1, 1) := by decide +kernel
theorem dX0_readLine_5 : decode cX0_readLine 5 = .ok (.aload_n 1, 1) := by decide +kernel
theorem dX0_readLine_6 : decode cX0_readLine 6 = .ok (.ifnull 10, 3) := by decide +kernel
theorem dX0_readLine_9 : decode cX0_readLine 9 = .ok (.aload_n 1, 1) := by decide +kernel
theorem dX0_readLine_10 : decode cX0_readLine 10 = .ok (.getfield 87, 3) := by decide +kernel
theorem dX0_readLine_13 : decode cX0_readLine 13 = .ok (.ifCond .ne 9, 3) := by decide +kernel
theorem dX0_readLine_16 : decode cX0_readLine 16 = .ok (.aload_n 0, 1) := by decide +kernel
theorem dX0_readLine_17 : decode cX0_readLine 17 = .ok (.iconst 1, 1) := by decide +kernel
theorem dX0_readLine_18 : decode cX0_readLine 18 = .ok (.invokevirtual 62, 3) := by decide +kernel
theorem dX0_readLine_21 : decode cX0_readLine 21 = .ok (.ireturn, 1) := by decide +kernel
theorem dX0_readLine_22 : decode cX0_readLine 22 = .ok (.aload_n 1, 1) := by decide +kernel
theorem dX0_readLine_23 : decode cX0_readLine 23 = .ok (.getfield 87, 3) := by decide +kernel
theorem dX0_readLine_26 : decode cX0_readLine 26 = .ok (.iconst 1, 1) := by decide +kernel
theorem dX0_readLine_27 : decode cX0_readLine 27 = .ok (.if_icmp .ne 8, 3) := by decide +kernel
theorem dX0_readLine_30 : decode cX0_readLine 30 = .ok (.aload_n 0, 1) := by decide +kernel
theorem dX0_readLine_31 : decode cX0_readLine 31 = .ok (.invokevirtual 92, 3) := by decide +kernel
theorem dX0_readLine_34 : decode cX0_readLine 34 = .ok (.ireturn, 1) := by decide +kernel
theorem dX0_readLine_35 : decode cX0_readLine 35 = .ok (.aload_n 1, 1) := by decide +kernel
theorem dX0_readLine_36 : decode cX0_readLine 36 = .ok (.getfield 87, 3) := by decide +kernel
theorem dX0_readLine_39 : decode cX0_readLine 39 = .ok (.iconst 2, 1) := by decide +kernel
theorem dX0_readLine_40 : decode cX0_readLine 40 = .ok (.if_icmp .ne 14, 3) := by decide +kernel
theorem dX0_readLine_43 : decode cX0_readLine 43 = .ok (.aload_n 0, 1) := by decide +kernel
theorem dX0_readLine_44 : decode cX0_readLine 44 = .ok (.aload_n 1, 1) := by decide +kernel
theorem dX0_readLine_45 : decode cX0_readLine 45 = .ok (.getfield 95, 3) := by decide +kernel
theorem dX0_readLine_48 : decode cX0_readLine 48 = .ok (.invokevirtual 98, 3) := by decide +kernel
theorem dX0_readLine_51 : decode cX0_readLine 51 = .ok (.goto 11, 3) := by decide +kernel
theorem dX0_readLine_54 : decode cX0_readLine 54 = .ok (.aload_n 0, 1) := by decide +kernel
theorem dX0_readLine_55 : decode cX0_readLine 55 = .ok (.aload_n 1, 1) := by decide +kernel
theorem dX0_readLine_56 : decode cX0_readLine 56 = .ok (.getfield 95, 3) := by decide +kernel
theorem dX0_readLine_59 : decode cX0_readLine 59 = .ok (.invokevirtual 101, 3) := by decide +kernel
theorem dX0_readLine_62 : decode cX0_readLine 62 = .ok (.ireturn, 1) := by decide +kernel
theorem dX0_readShip_0 : decode cX0_readShip 0 = .ok (.aload_n 0, 1) := by decide +kernel
theorem dX0_readShip_1 : decode cX0_readShip 1 = .ok (.getfield 18, 3) := by decide +kernel
theorem dX0_readShip_4 : decode cX0_readShip 4 = .ok (.getfield 66, 3) := by decide +kernel
theorem dX0_readShip_7 : decode cX0_readShip 7 = .ok (.iconst 4, 1) := by decide +kernel
theorem dX0_readShip_8 : decode cX0_readShip 8 = .ok (.if_icmp .lt 9, 3) := by decide +kernel
theorem dX0_readShip_11 : decode cX0_readShip 11 = .ok (.aload_n 0, 1) := by decide +kernel
theorem dX0_readShip_12 : decode cX0_readShip 12 = .ok (.iconst 4, 1) := by decide +kernel
theorem dX0_readShip_13 : decode cX0_readShip 13 = .ok (.invokevirtual 62, 3) := by decide +kernel
theorem dX0_readShip_16 : decode cX0_readShip 16 = .ok (.ireturn, 1) := by decide +kernel
theorem dX0_readShip_17 : decode cX0_readShip 17 = .ok (.aload_n 0, 1) := by decide +kernel
theorem dX0_readShip_18 : decode cX0_readShip 18 = .ok (.invokevirtual 77, 3) := by decide +kernel
theorem dX0_readShip_21 : decode cX0_readShip 21 = .ok (.aload_n 0, 1) := by decide +kernel
theorem dX0_readShip_22 : decode cX0_readShip 22 = .ok (.invokevirtual 104, 3) := by decide +kernel
theorem dX0_readShip_25 : decode cX0_readShip 25 = .ok (.ifCond .ne 9, 3) := by decide +kernel
theorem dX0_readShip_28 : decode cX0_readShip 28 = .ok (.aload_n 0, 1) := by decide +kernel
theorem dX0_readShip_29 : decode cX0_readShip 29 = .ok (.iconst 1, 1) := by decide +kernel
theorem dX0_readShip_30 : decode cX0_readShip 30 = .ok (.invokevirtual 62, 3) := by decide +kernel
theorem dX0_readShip_33 : decode cX0_readShip 33 = .ok (.ireturn, 1) := by decide +kernel
theorem dX0_readShip_34 : decode cX0_readShip 34 = .ok (.aload_n 0, 1) := by decide +kernel
theorem dX0_readShip_35 : decode cX0_readShip 35 = .ok (.getfield 18, 3) := by decide +kernel
theorem dX0_readShip_38 : decode cX0_readShip 38 = .ok (.aload_n 0, 1) := by decide +kernel
theorem dX0_readShip_39 : decode cX0_readShip 39 = .ok (.getfield 45, 3) := by decide +kernel
theorem dX0_readShip_42 : decode cX0_readShip 42 = .ok (.invokevirtual 107, 3) := by decide +kernel
theorem dX0_readShip_45 : decode cX0_readShip 45 = .ok (.iconst (-1), 1) := by decide +kernel
theorem dX0_readShip_46 : decode cX0_readShip 46 = .ok (.if_icmp .eq 9, 3) := by decide +kernel
theorem dX0_readShip_49 : decode cX0_readShip 49 = .ok (.aload_n 0, 1) := by decide +kernel
theorem dX0_readShip_50 : decode cX0_readShip 50 = .ok (.iconst 3, 1) := by decide +kernel
theorem dX0_readShip_51 : decode cX0_readShip 51 = .ok (.invokevirtual 62, 3) := by decide +kernel
theorem dX0_readShip_54 : decode cX0_readShip 54 = .ok (.ireturn, 1) := by decide +kernel
theorem dX0_readShip_55 : decode cX0_readShip 55 = .ok (.aload_n 0, 1) := by decide +kernel
theorem dX0_readShip_56 : decode cX0_readShip 56 = .ok (.getfield 18, 3) := by decide +kernel
theorem dX0_readShip_59 : decode cX0_readShip 59 = .ok (.aload_n 0, 1) := by decide +kernel
theorem dX0_readShip_60 : decode cX0_readShip 60 = .ok (.getfield 45, 3) := by decide +kernel
theorem dX0_readShip_63 : decode cX0_readShip 63 = .ok (.invokevirtual 111, 3) := by decide +kernel
theorem dX0_readShip_66 : decode cX0_readShip 66 = .ok (.aload_n 0, 1) := by decide +kernel
theorem dX0_readShip_67 : decode cX0_readShip 67 = .ok (.invokevirtual 77, 3) := by decide +kernel
theorem dX0_readShip_70 : decode cX0_readShip 70 = .ok (.aload_n 0, 1) := by decide +kernel
theorem dX0_readShip_71 : decode cX0_readShip 71 = .ok (.getstatic 115, 3) := by decide +kernel
theorem dX0_readShip_74 : decode cX0_readShip 74 = .ok (.invokevirtual 119, 3) := by decide +kernel
theorem dX0_readShip_77 : decode cX0_readShip 77 = .ok (.ifCond .eq 33, 3) := by decide +kernel
theorem dX0_readShip_80 : decode cX0_readShip 80 = .ok (.aload_n 0, 1) := by decide +kernel
theorem dX0_readShip_81 : decode cX0_readShip 81 = .ok (.getstatic 123, 3) := by decide +kernel
theorem dX0_readShip_84 : decode cX0_readShip 84 = .ok (.invokevirtual 119, 3) := by decide +kernel
theorem dX0_readShip_87 : decode cX0_readShip 87 = .ok (.ifCond .eq 23, 3) := by decide +kernel
theorem dX0_readShip_90 : decode cX0_readShip 90 = .ok (.aload_n 0, 1) := by decide +kernel
theorem dX0_readShip_91 : decode cX0_readShip 91 = .ok (.getstatic 126, 3) := by decide +kernel
theorem dX0_readShip_94 : decode cX0_readShip 94 = .ok (.invokevirtual 119, 3) := by decide +kernel
theorem dX0_readShip_97 : decode cX0_readShip 97 = .ok (.ifCond .eq 13, 3) := by decide +kernel
theorem dX0_readShip_100 : decode cX0_readShip 100 = .ok (.aload_n 0, 1) := by decide +kernel
theorem dX0_readShip_101 : decode cX0_readShip 101 = .ok (.getstatic 129, 3) := by decide +kernel
theorem dX0_readShip_104 : decode cX0_readShip 104 = .ok (.invokevirtual 119, 3) := by decide +kernel
theorem dX0_readShip_107 : decode cX0_readShip 107 = .ok (.ifCond .ne 5, 3) := by decide +kernel
theorem dX0_readShip_110 : decode cX0_readShip 110 = .ok (.iconst 0, 1) := by decide +kernel
theorem dX0_readShip_111 : decode cX0_readShip 111 = .ok (.ireturn, 1) := by decide +kernel
theorem dX0_readShip_112 : decode cX0_readShip 112 = .ok (.aload_n 0, 1) := by decide +kernel
theorem dX0_readShip_113 : decode cX0_readShip 113 = .ok (.getstatic 132, 3) := by decide +kernel
theorem dX0_readShip_116 : decode cX0_readShip 116 = .ok (.invokevirtual 135, 3) := by decide +kernel
theorem dX0_readShip_119 : decode cX0_readShip 119 = .ok (.aload_n 0, 1) := by decide +kernel
theorem dX0_readShip_120 : decode cX0_readShip 120 = .ok (.getstatic 139, 3) := by decide +kernel
theorem dX0_readShip_123 : decode cX0_readShip 123 = .ok (.invokevirtual 135, 3) := by decide +kernel
theorem dX0_readShip_126 : decode cX0_readShip 126 = .ok (.iconst 1, 1) := by decide +kernel
theorem dX0_readShip_127 : decode cX0_readShip 127 = .ok (.ireturn, 1) := by decide +kernel
theorem dX0_readColumn_0 : decode cX0_readColumn 0 = .ok (.aload_n 1, 1) := by decide +kernel
theorem dX0_readColumn_1 : decode cX0_readColumn 1 = .ok (.getfield 95, 3) := by decide +kernel
theorem dX0_readColumn_4 : decode cX0_readColumn 4 = .ok (.istore_n 2, 1) := by decide +kernel
theorem dX0_readColumn_5 : decode cX0_readColumn 5 = .ok (.aload_n 0, 1) := by decide +kernel
theorem dX0_readColumn_6 : decode cX0_readColumn 6 = .ok (.aload_n 1, 1) := by decide +kernel
theorem dX0_readColumn_7 : decode cX0_readColumn 7 = .ok (.invokevirtual 142, 3) := by decide +kernel
theorem dX0_readColumn_10 : decode cX0_readColumn 10 = .ok (.ifCond .eq 20, 3) := by decide +kernel
theorem dX0_readColumn_13 : decode cX0_readColumn 13 = .ok (.aload_n 0, 1) := by decide +kernel
theorem dX0_readColumn_14 : decode cX0_readColumn 14 = .ok (.getstatic 145, 3) := by decide +kernel
theorem dX0_readColumn_17 : decode cX0_readColumn 17 = .ok (.iload_n 2, 1) := by decide +kernel
theorem dX0_readColumn_18 : decode cX0_readColumn 18 = .ok (.iaload, 1) := by decide +kernel
theorem dX0_readColumn_19 : decode cX0_readColumn 19 = .ok (.getstatic 148, 3) := by decide +kernel
theorem dX0_readColumn_22 : decode cX0_readColumn 22 = .ok (.iload_n 2, 1) := by decide +kernel
theorem dX0_readColumn_23 : decode cX0_readColumn 23 = .ok (.iaload, 1) := by decide +kernel
theorem dX0_readColumn_24 : decode cX0_readColumn 24 = .ok (.invokevirtual 151, 3) := by decide +kernel
theorem dX0_readColumn_27 : decode cX0_readColumn 27 = .ok (.ifCond .ne 5, 3) := by decide +kernel
theorem dX0_readColumn_30 : decode cX0_readColumn 30 = .ok (.iconst 0, 1) := by decide +kernel
theorem dX0_readColumn_31 : decode cX0_readColumn 31 = .ok (.ireturn, 1) := by decide +kernel
theorem dX0_readColumn_32 : decode cX0_readColumn 32 = .ok (.aload_n 0, 1) := by decide +kernel
theorem dX0_readColumn_33 : decode cX0_readColumn 33 = .ok (.getfield 18, 3) := by decide +kernel
theorem dX0_readColumn_36 : decode cX0_readColumn 36 = .ok (.aload_n 0, 1) := by decide +kernel
theorem dX0_readColumn_37 : decode cX0_readColumn 37 = .ok (.getfield 18, 3) := by decide +kernel
theorem dX0_readColumn_40 : decode cX0_readColumn 40 = .ok (.getfield 66, 3) := by decide +kernel
theorem dX0_readColumn_43 : decode cX0_readColumn 43 = .ok (.iconst 1, 1) := by decide +kernel
theorem dX0_readColumn_44 : decode cX0_readColumn 44 = .ok (.isub, 1) := by decide +kernel
theorem dX0_readColumn_45 : decode cX0_readColumn 45 = .ok (.iload_n 2, 1) := by decide +kernel
theorem dX0_readColumn_46 : decode cX0_readColumn 46 = .ok (.aload_n 0, 1) := by decide +kernel
theorem dX0_readColumn_47 : decode cX0_readColumn 47 = .ok (.getfield 49, 3) := by decide +kernel
theorem dX0_readColumn_50 : decode cX0_readColumn 50 = .ok (.invokevirtual 155, 3) := by decide +kernel
theorem dX0_readColumn_53 : decode cX0_readColumn 53 = .ok (.aload_n 0, 1) := by decide +kernel
theorem dX0_readColumn_54 : decode cX0_readColumn 54 = .ok (.invokevirtual 77, 3) := by decide +kernel
theorem dX0_readColumn_57 : decode cX0_readColumn 57 = .ok (.iconst 1, 1) := by decide +kernel
theorem dX0_readColumn_58 : decode cX0_readColumn 58 = .ok (.ireturn, 1) := by decide +kernel
theorem dX0_readMark_0 : decode cX0_readMark 0 = .ok (.aload_n 0, 1) := by decide +kernel
theorem dX0_readMark_1 : decode cX0_readMark 1 = .ok (.invokevirtual 83, 3) := by decide +kernel
theorem dX0_readMark_4 : decode cX0_readMark 4 = .ok (.aload_n 1, 1) := by decide +kernel
theorem dX0_readMark_5 : decode cX0_readMark 5 = .ok (.if_acmp .ne 28, 3) := by decide +kernel
theorem dX0_readMark_8 : decode cX0_readMark 8 = .ok (.aload_n 0, 1) := by decide +kernel
theorem dX0_readMark_9 : decode cX0_readMark 9 = .ok (.getfield 18, 3) := by decide +kernel
theorem dX0_readMark_12 : decode cX0_readMark 12 = .ok (.aload_n 0, 1) := by decide +kernel
theorem dX0_readMark_13 : decode cX0_readMark 13 = .ok (.getfield 18, 3) := by decide +kernel
theorem dX0_readMark_16 : decode cX0_readMark 16 = .ok (.getfield 66, 3) := by decide +kernel
theorem dX0_readMark_19 : decode cX0_readMark 19 = .ok (.iconst 1, 1) := by decide +kernel
theorem dX0_readMark_20 : decode cX0_readMark 20 = .ok (.isub, 1) := by decide +kernel
theorem dX0_readMark_21 : decode cX0_readMark 21 = .ok (.aload_n 1, 1) := by decide +kernel
theorem dX0_readMark_22 : decode cX0_readMark 22 = .ok (.getfield 95, 3) := by decide +kernel
theorem dX0_readMark_25 : decode cX0_readMark 25 = .ok (.iconst 1, 1) := by decide +kernel
theorem dX0_readMark_26 : decode cX0_readMark 26 = .ok (.invokevirtual 155, 3) := by decide +kernel
theorem dX0_readMark_29 : decode cX0_readMark 29 = .ok (.aload_n 0, 1) := by decide +kernel
theorem dX0_readMark_30 : decode cX0_readMark 30 = .ok (.invokevirtual 77, 3) := by decide +kernel
theorem dX0_readMark_33 : decode cX0_readMark 33 = .ok (.return_, 1) := by decide +kernel
theorem dX0_readClaim_0 : decode cX0_readClaim 0 = .ok (.aload_n 0, 1) := by decide +kernel
theorem dX0_readClaim_1 : decode cX0_readClaim 1 = .ok (.getfield 18, 3) := by decide +kernel
theorem dX0_readClaim_4 : decode cX0_readClaim 4 = .ok (.getfield 159, 3) := by decide +kernel
theorem dX0_readClaim_7 : decode cX0_readClaim 7 = .ok (.bipush 12, 2) := by decide +kernel
theorem dX0_readClaim_9 : decode cX0_readClaim 9 = .ok (.if_icmp .lt 9, 3) := by decide +kernel
theorem dX0_readClaim_12 : decode cX0_readClaim 12 = .ok (.aload_n 0, 1) := by decide +kernel
theorem dX0_readClaim_13 : decode cX0_readClaim 13 = .ok (.iconst 4, 1) := by decide +kernel
theorem dX0_readClaim_14 : decode cX0_readClaim 14 = .ok (.invokevirtual 62, 3) := by decide +kernel
theorem dX0_readClaim_17 : decode cX0_readClaim 17 = .ok (.ireturn, 1) := by decide +kernel
theorem dX0_readClaim_18 : decode cX0_readClaim 18 = .ok (.aload_n 0, 1) := by decide +kernel
theorem dX0_readClaim_19 : decode cX0_readClaim 19 = .ok (.invokevirtual 77, 3) := by decide +kernel
theorem dX0_readClaim_22 : decode cX0_readClaim 22 = .ok (.bipush (-2), 2) := by decide +kernel
theorem dX0_readClaim_24 : decode cX0_readClaim 24 = .ok (.istore_n 2, 1) := by decide +kernel
theorem dX0_readClaim_25 : decode cX0_readClaim 25 = .ok (.iload_n 1, 1) := by decide +kernel
theorem dX0_readClaim_26 : decode cX0_readClaim 26 = .ok (.ifCond .ne 43, 3) := by decide +kernel
theorem dX0_readClaim_29 : decode cX0_readClaim 29 = .ok (.aload_n 0, 1) := by decide +kernel
theorem dX0_readClaim_30 : decode cX0_readClaim 30 = .ok (.invokevirtual 104, 3) := by decide +kernel
theorem dX0_readClaim_33 : decode cX0_readClaim 33 = .ok (.ifCond .ne 9, 3) := by decide +kernel
theorem dX0_readClaim_36 : decode cX0_readClaim 36 = .ok (.aload_n 0, 1) := by decide +kernel
theorem dX0_readClaim_37 : decode cX0_readClaim 37 = .ok (.iconst 1, 1) := by decide +kernel
theorem dX0_readClaim_38 : decode cX0_readClaim 38 = .ok (.invokevirtual 62, 3) := by decide +kernel
theorem dX0_readClaim_41 : decode cX0_readClaim 41 = .ok (.ireturn, 1) := by decide +kernel
theorem dX0_readClaim_42 : decode cX0_readClaim 42 = .ok (.aload_n 0, 1) := by decide +kernel
theorem dX0_readClaim_43 : decode cX0_readClaim 43 = .ok (.getfield 18, 3) := by decide +kernel
theorem dX0_readClaim_46 : decode cX0_readClaim 46 = .ok (.aload_n 0, 1) := by decide +kernel
theorem dX0_readClaim_47 : decode cX0_readClaim 47 = .ok (.getfield 45, 3) := by decide +kernel
theorem dX0_readClaim_50 : decode cX0_readClaim 50 = .ok (.invokevirtual 107, 3) := by decide +kernel
theorem dX0_readClaim_53 : decode cX0_readClaim 53 = .ok (.istore_n 2, 1) := by decide +kernel
theorem dX0_readClaim_54 : decode cX0_readClaim 54 = .ok (.iload_n 2, 1) := by decide +kernel
theorem dX0_readClaim_55 : decode cX0_readClaim 55 = .ok (.iconst (-1), 1) := by decide +kernel
theorem dX0_readClaim_56 : decode cX0_readClaim 56 = .ok (.if_icmp .ne 9, 3) := by decide +kernel
theorem dX0_readClaim_59 : decode cX0_readClaim 59 = .ok (.aload_n 0, 1) := by decide +kernel
theorem dX0_readClaim_60 : decode cX0_readClaim 60 = .ok (.iconst 3, 1) := by decide +kernel
theorem dX0_readClaim_61 : decode cX0_readClaim 61 = .ok (.invokevirtual 62, 3) := by decide +kernel
theorem dX0_readClaim_64 : decode cX0_readClaim 64 = .ok (.ireturn, 1) := by decide +kernel
theorem dX0_readClaim_65 : decode cX0_readClaim 65 = .ok (.aload_n 0, 1) := by decide +kernel
theorem dX0_readClaim_66 : decode cX0_readClaim 66 = .ok (.invokevirtual 77, 3) := by decide +kernel
theorem dX0_readClaim_69 : decode cX0_readClaim 69 = .ok (.aload_n 0, 1) := by decide +kernel
theorem dX0_readClaim_70 : decode cX0_readClaim 70 = .ok (.iconst 1, 1) := by decide +kernel
theorem dX0_readClaim_71 : decode cX0_readClaim 71 = .ok (.ldc 162, 2) := by decide +kernel
theorem dX0_readClaim_73 : decode cX0_readClaim 73 = .ok (.invokevirtual 151, 3) := by decide +kernel
theorem dX0_readClaim_76 : decode cX0_readClaim 76 = .ok (.ifCond .ne 5, 3) := by decide +kernel
theorem dX0_readClaim_79 : decode cX0_readClaim 79 = .ok (.iconst 0, 1) := by decide +kernel
theorem dX0_readClaim_80 : decode cX0_readClaim 80 = .ok (.ireturn, 1) := by decide +kernel
theorem dX0_readClaim_81 : decode cX0_readClaim 81 = .ok (.aload_n 0, 1) := by decide +kernel
theorem dX0_readClaim_82 : decode cX0_readClaim 82 = .ok (.getfield 49, 3) := by decide +kernel
theorem dX0_readClaim_85 : decode cX0_readClaim 85 = .ok (.istore_n 3, 1) := by decide +kernel
theorem dX0_readClaim_86 : decode cX0_readClaim 86 = .ok (.aload_n 0, 1) := by decide +kernel
theorem dX0_readClaim_87 : decode cX0_readClaim 87 = .ok (.invokevirtual 77, 3) := by decide +kernel
theorem dX0_readClaim_90 : decode cX0_readClaim 90 = .ok (.aload_n 0, 1) := by decide +kernel
theorem dX0_readClaim_91 : decode cX0_readClaim 91 = .ok (.getstatic 163, 3) := by decide +kernel
theorem dX0_readClaim_94 : decode cX0_readClaim 94 = .ok (.invokevirtual 142, 3) := by decide +kernel
theorem dX0_readClaim_97 : decode cX0_readClaim 97 = .ok (.ifCond .eq 14, 3) := by decide +kernel
theorem dX0_readClaim_100 : decode cX0_readClaim 100 = .ok (.aload_n 0, 1) := by decide +kernel
theorem dX0_readClaim_101 : decode cX0_readClaim 101 = .ok (.iconst 0, 1) := by decide +kernel
theorem dX0_readClaim_102 : decode cX0_readClaim 102 = .ok (.sipush 999, 3) := by decide +kernel
theorem dX0_readClaim_105 : decode cX0_readClaim 105 = .ok (.invokevirtual 151, 3) := by decide +kernel
theorem dX0_readClaim_108 : decode cX0_readClaim 108 = .ok (.ifCond .ne 5, 3) := by decide +kernel
theorem dX0_readClaim_111 : decode cX0_readClaim 111 = .ok (.iconst 0, 1) := by decide +kernel
theorem dX0_readClaim_112 : decode cX0_readClaim 112 = .ok (.ireturn, 1) := by decide +kernel
theorem dX0_readClaim_113 : decode cX0_readClaim 113 = .ok (.aload_n 0, 1) := by decide +kernel
theorem dX0_readClaim_114 : decode cX0_readClaim 114 = .ok (.getfield 18, 3) := by decide +kernel
theorem dX0_readClaim_117 : decode cX0_readClaim 117 = .ok (.iload_n 1, 1) := by decide +kernel
theorem dX0_readClaim_118 : decode cX0_readClaim 118 = .ok (.iload_n 2, 1) := by decide +kernel
theorem dX0_readClaim_119 : decode cX0_readClaim 119 = .ok (.iload_n 3, 1) := by decide +kernel
theorem dX0_readClaim_120 : decode cX0_readClaim 120 = .ok (.aload_n 0, 1) := by decide +kernel
theorem dX0_readClaim_121 : decode cX0_readClaim 121 = .ok (.getfield 49, 3) := by decide +kernel
theorem dX0_readClaim_124 : decode cX0_readClaim 124 = .ok (.invokevirtual 166, 3) := by decide +kernel
theorem dX0_readClaim_127 : decode cX0_readClaim 127 = .ok (.aload_n 0, 1) := by decide +kernel
theorem dX0_readClaim_128 : decode cX0_readClaim 128 = .ok (.invokevirtual 77, 3) := by decide +kernel
theorem dX0_readClaim_131 : decode cX0_readClaim 131 = .ok (.iconst 1, 1) := by decide +kernel
theorem dX0_readClaim_132 : decode cX0_readClaim 132 = .ok (.ireturn, 1) := by decide +kernel
theorem dX0_readLaw_0 : decode cX0_readLaw 0 = .ok (.aload_n 0, 1) := by decide +kernel
theorem dX0_readLaw_1 : decode cX0_readLaw 1 = .ok (.getfield 22, 3) := by decide +kernel
theorem dX0_readLaw_4 : decode cX0_readLaw 4 = .ok (.iload_n 1, 1) := by decide +kernel
theorem dX0_readLaw_5 : decode cX0_readLaw 5 = .ok (.baload, 1) := by decide +kernel
theorem dX0_readLaw_6 : decode cX0_readLaw 6 = .ok (.ifCond .eq 9, 3) := by decide +kernel
theorem dX0_readLaw_9 : decode cX0_readLaw 9 = .ok (.aload_n 0, 1) := by decide +kernel
theorem dX0_readLaw_10 : decode cX0_readLaw 10 = .ok (.iconst 3, 1) := by decide +kernel
theorem dX0_readLaw_11 : decode cX0_readLaw 11 = .ok (.invokevirtual 62, 3) := by decide +kernel
theorem dX0_readLaw_14 : decode cX0_readLaw 14 = .ok (.ireturn, 1) := by decide +kernel
theorem dX0_readLaw_15 : decode cX0_readLaw 15 = .ok (.aload_n 0, 1) := by decide +kernel
theorem dX0_readLaw_16 : decode cX0_readLaw 16 = .ok (.getfield 22, 3) := by decide +kernel
theorem dX0_readLaw_19 : decode cX0_readLaw 19 = .ok (.iload_n 1, 1) := by decide +kernel
theorem dX0_readLaw_20 : decode cX0_readLaw 20 = .ok (.iconst 1, 1) := by decide +kernel
theorem dX0_readLaw_21 : decode cX0_readLaw 21 = .ok (.bastore, 1) := by decide +kernel
theorem dX0_readLaw_22 : decode cX0_readLaw 22 = .ok (.aload_n 0, 1) := by decide +kernel
theorem dX0_readLaw_23 : decode cX0_readLaw 23 = .ok (.invokevirtual 77, 3) := by decide +kernel
theorem dX0_readLaw_26 : decode cX0_readLaw 26 = .ok (.iload_n 1, 1) := by decide +kernel
theorem dX0_readLaw_27 : decode cX0_readLaw 27 = .ok (.iconst 5, 1) := by decide +kernel
theorem dX0_readLaw_28 : decode cX0_readLaw 28 = .ok (.if_icmp .ge 15, 3) := by decide +kernel
theorem dX0_readLaw_31 : decode cX0_readLaw 31 = .ok (.aload_n 0, 1) := by decide +kernel
theorem dX0_readLaw_32 : decode cX0_readLaw 32 = .ok (.getfield 18, 3) := by decide +kernel
theorem dX0_readLaw_35 : decode cX0_readLaw 35 = .ok (.getfield 73, 3) := by decide +kernel
theorem dX0_readLaw_38 : decode cX0_readLaw 38 = .ok (.iload_n 1, 1) := by decide +kernel
theorem dX0_readLaw_39 : decode cX0_readLaw 39 = .ok (.iconst 1, 1) := by decide +kernel
theorem dX0_readLaw_40 : decode cX0_readLaw 40 = .ok (.iastore, 1) := by decide +kernel
theorem dX0_readLaw_41 : decode cX0_readLaw 41 = .ok (.iconst 1, 1) := by decide +kernel
theorem dX0_readLaw_42 : decode cX0_readLaw 42 = .ok (.ireturn, 1) := by decide +kernel
theorem dX0_readLaw_43 : decode cX0_readLaw 43 = .ok (.aload_n 0, 1) := by decide +kernel
theorem dX0_readLaw_44 : decode cX0_readLaw 44 = .ok (.getstatic 170, 3) := by decide +kernel
theorem dX0_readLaw_47 : decode cX0_readLaw 47 = .ok (.iload_n 1, 1) := by decide +kernel
theorem dX0_readLaw_48 : decode cX0_readLaw 48 = .ok (.iaload, 1) := by decide +kernel
theorem dX0_readLaw_49 : decode cX0_readLaw 49 = .ok (.getstatic 173, 3) := by decide +kernel
theorem dX0_readLaw_52 : decode cX0_readLaw 52 = .ok (.iload_n 1, 1) := by decide +kernel
theorem dX0_readLaw_53 : decode cX0_readLaw 53 = .ok (.iaload, 1) := by decide +kernel
theorem dX0_readLaw_54 : decode cX0_readLaw 54 = .ok (.invokevirtual 151, 3) := by decide +kernel
theorem dX0_readLaw_57 : decode cX0_readLaw 57 = .ok (.ifCond .ne 5, 3) := by decide +kernel
theorem dX0_readLaw_60 : decode cX0_readLaw 60 = .ok (.iconst 0, 1) := by decide +kernel
theorem dX0_readLaw_61 : decode cX0_readLaw 61 = .ok (.ireturn, 1) := by decide +kernel
theorem dX0_readLaw_62 : decode cX0_readLaw 62 = .ok (.aload_n 0, 1) := by decide +kernel
theorem dX0_readLaw_63 : decode cX0_readLaw 63 = .ok (.getfield 18, 3) := by decide +kernel
theorem dX0_readLaw_66 : decode cX0_readLaw 66 = .ok (.getfield 73, 3) := by decide +kernel
theorem dX0_readLaw_69 : decode cX0_readLaw 69 = .ok (.iload_n 1, 1) := by decide +kernel
theorem dX0_readLaw_70 : decode cX0_readLaw 70 = .ok (.aload_n 0, 1) := by decide +kernel
theorem dX0_readLaw_71 : decode cX0_readLaw 71 = .ok (.getfield 49, 3) := by decide +kernel
theorem dX0_readLaw_74 : decode cX0_readLaw 74 = .ok (.iastore, 1) := by decide +kernel
theorem dX0_readLaw_75 : decode cX0_readLaw 75 = .ok (.aload_n 0, 1) := by decide +kernel
theorem dX0_readLaw_76 : decode cX0_readLaw 76 = .ok (.invokevirtual 77, 3) := by decide +kernel
theorem dX0_readLaw_79 : decode cX0_readLaw 79 = .ok (.iconst 1, 1) := by decide +kernel
theorem dX0_readLaw_80 : decode cX0_readLaw 80 = .ok (.ireturn, 1) := by decide +kernel
theorem dX0_readWord_0 : decode cX0_readWord 0 = .ok (.aload_n 0, 1) := by decide +kernel
theorem dX0_readWord_1 : decode cX0_readWord 1 = .ok (.invokevirtual 83, 3) := by decide +kernel
theorem dX0_readWord_4 : decode cX0_readWord 4 = .ok (.aload_n 1, 1) := by decide +kernel
theorem dX0_readWord_5 : decode cX0_readWord 5 = .ok (.if_acmp .eq 9, 3) := by decide +kernel
theorem dX0_readWord_8 : decode cX0_readWord 8 = .ok (.aload_n 0, 1) := by decide +kernel
theorem dX0_readWord_9 : decode cX0_readWord 9 = .ok (.iconst 1, 1) := by decide +kernel
theorem dX0_readWord_10 : decode cX0_readWord 10 = .ok (.invokevirtual 62, 3) := by decide +kernel
theorem dX0_readWord_13 : decode cX0_readWord 13 = .ok (.ireturn, 1) := by decide +kernel
theorem dX0_readWord_14 : decode cX0_readWord 14 = .ok (.aload_n 0, 1) := by decide +kernel
theorem dX0_readWord_15 : decode cX0_readWord 15 = .ok (.invokevirtual 77, 3) := by decide +kernel
theorem dX0_readWord_18 : decode cX0_readWord 18 = .ok (.iconst 1, 1) := by decide +kernel
theorem dX0_readWord_19 : decode cX0_readWord 19 = .ok (.ireturn, 1) := by decide +kernel
theorem dX0_readWhole_0 : decode cX0_readWhole 0 = .ok (.aload_n 0, 1) := by decide +kernel
theorem dX0_readWhole_1 : decode cX0_readWhole 1 = .ok (.getfield 39, 3) := by decide +kernel
theorem dX0_readWhole_4 : decode cX0_readWhole 4 = .ok (.iconst 2, 1) := by decide +kernel
theorem dX0_readWhole_5 : decode cX0_readWhole 5 = .ok (.if_icmp .eq 9, 3) := by decide +kernel
theorem dX0_readWhole_8 : decode cX0_readWhole 8 = .ok (.aload_n 0, 1) := by decide +kernel
theorem dX0_readWhole_9 : decode cX0_readWhole 9 = .ok (.iconst 1, 1) := by decide +kernel
theorem dX0_readWhole_10 : decode cX0_readWhole 10 = .ok (.invokevirtual 62, 3) := by decide +kernel
theorem dX0_readWhole_13 : decode cX0_readWhole 13 = .ok (.ireturn, 1) := by decide +kernel
theorem dX0_readWhole_14 : decode cX0_readWhole 14 = .ok (.aload_n 0, 1) := by decide +kernel
theorem dX0_readWhole_15 : decode cX0_readWhole 15 = .ok (.getfield 49, 3) := by decide +kernel
theorem dX0_readWhole_18 : decode cX0_readWhole 18 = .ok (.iload_n 1, 1) := by decide +kernel
theorem dX0_readWhole_19 : decode cX0_readWhole 19 = .ok (.iload_n 2, 1) := by decide +kernel
theorem dX0_readWhole_20 : decode cX0_readWhole 20 = .ok (.invokestatic 176, 3) := by decide +kernel
theorem dX0_readWhole_23 : decode cX0_readWhole 23 = .ok (.ifCond .ne 11, 3) := by decide +kernel
theorem dX0_readWhole_26 : decode cX0_readWhole 26 = .ok (.aload_n 0, 1) := by decide +kernel
theorem dX0_readWhole_27 : decode cX0_readWhole 27 = .ok (.iconst 2, 1) := by decide +kernel
theorem dX0_readWhole_28 : decode cX0_readWhole 28 = .ok (.invokevirtual 62, 3) := by decide +kernel
theorem dX0_readWhole_31 : decode cX0_readWhole 31 = .ok (.ifCond .eq 7, 3) := by decide +kernel
theorem dX0_readWhole_34 : decode cX0_readWhole 34 = .ok (.iconst 1, 1) := by decide +kernel
theorem dX0_readWhole_35 : decode cX0_readWhole 35 = .ok (.goto 4, 3) := by decide +kernel
theorem dX0_readWhole_38 : decode cX0_readWhole 38 = .ok (.iconst 0, 1) := by decide +kernel
theorem dX0_readWhole_39 : decode cX0_readWhole 39 = .ok (.ireturn, 1) := by decide +kernel
theorem dX0_isName_0 : decode cX0_isName 0 = .ok (.aload_n 0, 1) := by decide +kernel
theorem dX0_isName_1 : decode cX0_isName 1 = .ok (.getfield 39, 3) := by decide +kernel
theorem dX0_isName_4 : decode cX0_isName 4 = .ok (.iconst 1, 1) := by decide +kernel
theorem dX0_isName_5 : decode cX0_isName 5 = .ok (.if_icmp .ne 23, 3) := by decide +kernel
theorem dX0_isName_8 : decode cX0_isName 8 = .ok (.aload_n 0, 1) := by decide +kernel
theorem dX0_isName_9 : decode cX0_isName 9 = .ok (.getfield 42, 3) := by decide +kernel
theorem dX0_isName_12 : decode cX0_isName 12 = .ok (.bipush 6, 2) := by decide +kernel
theorem dX0_isName_14 : decode cX0_isName 14 = .ok (.if_icmp .gt 14, 3) := by decide +kernel
theorem dX0_isName_17 : decode cX0_isName 17 = .ok (.aload_n 0, 1) := by decide +kernel
theorem dX0_isName_18 : decode cX0_isName 18 = .ok (.invokevirtual 83, 3) := by decide +kernel
theorem dX0_isName_21 : decode cX0_isName 21 = .ok (.ifnonnull 7, 3) := by decide +kernel
theorem dX0_isName_24 : decode cX0_isName 24 = .ok (.iconst 1, 1) := by decide +kernel
theorem dX0_isName_25 : decode cX0_isName 25 = .ok (.goto 4, 3) := by decide +kernel
theorem dX0_isName_28 : decode cX0_isName 28 = .ok (.iconst 0, 1) := by decide +kernel
theorem dX0_isName_29 : decode cX0_isName 29 = .ok (.ireturn, 1) := by decide +kernel
theorem dX0_fixedWord_0 : decode cX0_fixedWord 0 = .ok (.aload_n 0, 1) := by decide +kernel
theorem dX0_fixedWord_1 : decode cX0_fixedWord 1 = .ok (.getfield 39, 3) := by decide +kernel
theorem dX0_fixedWord_4 : decode cX0_fixedWord 4 = .ok (.iconst 1, 1) := by decide +kernel
theorem dX0_fixedWord_5 : decode cX0_fixedWord 5 = .ok (.if_icmp .eq 5, 3) := by decide +kernel
theorem dX0_fixedWord_8 : decode cX0_fixedWord 8 = .ok (.aconst_null, 1) := by decide +kernel
theorem dX0_fixedWord_9 : decode cX0_fixedWord 9 = .ok (.areturn, 1) := by decide +kernel
theorem dX0_fixedWord_10 : decode cX0_fixedWord 10 = .ok (.iconst 0, 1) := by decide +kernel
theorem dX0_fixedWord_11 : decode cX0_fixedWord 11 = .ok (.istore_n 1, 1) := by decide +kernel
theorem dX0_fixedWord_12 : decode cX0_fixedWord 12 = .ok (.iload_n 1, 1) := by decide +kernel
theorem dX0_fixedWord_13 : decode cX0_fixedWord 13 = .ok (.getstatic 180, 3) := by decide +kernel
theorem dX0_fixedWord_16 : decode cX0_fixedWord 16 = .ok (.arraylength, 1) := by decide +kernel
theorem dX0_fixedWord_17 : decode cX0_fixedWord 17 = .ok (.if_icmp .ge 31, 3) := by decide +kernel
theorem dX0_fixedWord_20 : decode cX0_fixedWord 20 = .ok (.getstatic 180, 3) := by decide +kernel
theorem dX0_fixedWord_23 : decode cX0_fixedWord 23 = .ok (.iload_n 1, 1) := by decide +kernel
theorem dX0_fixedWord_24 : decode cX0_fixedWord 24 = .ok (.aaload, 1) := by decide +kernel
theorem dX0_fixedWord_25 : decode cX0_fixedWord 25 = .ok (.getfield 184, 3) := by decide +kernel
theorem dX0_fixedWord_28 : decode cX0_fixedWord 28 = .ok (.aload_n 0, 1) := by decide +kernel
theorem dX0_fixedWord_29 : decode cX0_fixedWord 29 = .ok (.getfield 45, 3) := by decide +kernel
theorem dX0_fixedWord_32 : decode cX0_fixedWord 32 = .ok (.lcmp, 1) := by decide +kernel
theorem dX0_fixedWord_33 : decode cX0_fixedWord 33 = .ok (.ifCond .ne 9, 3) := by decide +kernel
theorem dX0_fixedWord_36 : decode cX0_fixedWord 36 = .ok (.getstatic 180, 3) := by decide +kernel
theorem dX0_fixedWord_39 : decode cX0_fixedWord 39 = .ok (.iload_n 1, 1) := by decide +kernel
theorem dX0_fixedWord_40 : decode cX0_fixedWord 40 = .ok (.aaload, 1) := by decide +kernel
theorem dX0_fixedWord_41 : decode cX0_fixedWord 41 = .ok (.areturn, 1) := by decide +kernel
theorem dX0_fixedWord_42 : decode cX0_fixedWord 42 = .ok (.iinc 1 1, 3) := by decide +kernel
theorem dX0_fixedWord_45 : decode cX0_fixedWord 45 = .ok (.goto (-33), 3) := by decide +kernel
theorem dX0_fixedWord_48 : decode cX0_fixedWord 48 = .ok (.aconst_null, 1) := by decide +kernel
theorem dX0_fixedWord_49 : decode cX0_fixedWord 49 = .ok (.areturn, 1) := by decide +kernel
theorem dX0_step_0 : decode cX0_step 0 = .ok (.aload_n 0, 1) := by decide +kernel
theorem dX0_step_1 : decode cX0_step 1 = .ok (.getfield 30, 3) := by decide +kernel
theorem dX0_step_4 : decode cX0_step 4 = .ok (.aload_n 0, 1) := by decide +kernel
theorem dX0_step_5 : decode cX0_step 5 = .ok (.getfield 26, 3) := by decide +kernel
theorem dX0_step_8 : decode cX0_step 8 = .ok (.if_icmp .ge 30, 3) := by decide +kernel
theorem dX0_step_11 : decode cX0_step 11 = .ok (.aload_n 0, 1) := by decide +kernel
theorem dX0_step_12 : decode cX0_step 12 = .ok (.getfield 9, 3) := by decide +kernel
theorem dX0_step_15 : decode cX0_step 15 = .ok (.aload_n 0, 1) := by decide +kernel
theorem dX0_step_16 : decode cX0_step 16 = .ok (.getfield 30, 3) := by decide +kernel
theorem dX0_step_19 : decode cX0_step 19 = .ok (.baload, 1) := by decide +kernel
theorem dX0_step_20 : decode cX0_step 20 = .ok (.bipush 32, 2) := by decide +kernel
theorem dX0_step_22 : decode cX0_step 22 = .ok (.if_icmp .ne 16, 3) := by decide +kernel
theorem dX0_step_25 : decode cX0_step 25 = .ok (.aload_n 0, 1) := by decide +kernel
theorem dX0_step_26 : decode cX0_step 26 = .ok (.dup, 1) := by decide +kernel
theorem dX0_step_27 : decode cX0_step 27 = .ok (.getfield 30, 3) := by decide +kernel
theorem dX0_step_30 : decode cX0_step 30 = .ok (.iconst 1, 1) := by decide +kernel
theorem dX0_step_31 : decode cX0_step 31 = .ok (.iadd, 1) := by decide +kernel
theorem dX0_step_32 : decode cX0_step 32 = .ok (.putfield 30, 3) := by decide +kernel
theorem dX0_step_35 : decode cX0_step 35 = .ok (.goto (-35), 3) := by decide +kernel
theorem dX0_step_38 : decode cX0_step 38 = .ok (.aload_n 0, 1) := by decide +kernel
theorem dX0_step_39 : decode cX0_step 39 = .ok (.aload_n 0, 1) := by decide +kernel
theorem dX0_step_40 : decode cX0_step 40 = .ok (.getfield 30, 3) := by decide +kernel
theorem dX0_step_43 : decode cX0_step 43 = .ok (.putfield 36, 3) := by decide +kernel
theorem dX0_step_46 : decode cX0_step 46 = .ok (.aload_n 0, 1) := by decide +kernel
theorem dX0_step_47 : decode cX0_step 47 = .ok (.getfield 30, 3) := by decide +kernel
theorem dX0_step_50 : decode cX0_step 50 = .ok (.aload_n 0, 1) := by decide +kernel
theorem dX0_step_51 : decode cX0_step 51 = .ok (.getfield 26, 3) := by decide +kernel
theorem dX0_step_54 : decode cX0_step 54 = .ok (.if_icmp .lt 11, 3) := by decide +kernel
theorem dX0_step_57 : decode cX0_step 57 = .ok (.aload_n 0, 1) := by decide +kernel
theorem dX0_step_58 : decode cX0_step 58 = .ok (.iconst 0, 1) := by decide +kernel
theorem dX0_step_59 : decode cX0_step 59 = .ok (.putfield 39, 3) := by decide +kernel
theorem dX0_step_62 : decode cX0_step 62 = .ok (.goto 80, 3) := by decide +kernel
theorem dX0_step_65 : decode cX0_step 65 = .ok (.aload_n 0, 1) := by decide +kernel
theorem dX0_step_66 : decode cX0_step 66 = .ok (.getfield 9, 3) := by decide +kernel
theorem dX0_step_69 : decode cX0_step 69 = .ok (.aload_n 0, 1) := by decide +kernel
theorem dX0_step_70 : decode cX0_step 70 = .ok (.getfield 30, 3) := by decide +kernel
theorem dX0_step_73 : decode cX0_step 73 = .ok (.baload, 1) := by decide +kernel
theorem dX0_step_74 : decode cX0_step 74 = .ok (.invokestatic 185, 3) := by decide +kernel
theorem dX0_step_77 : decode cX0_step 77 = .ok (.ifCond .eq 10, 3) := by decide +kernel
theorem dX0_step_80 : decode cX0_step 80 = .ok (.aload_n 0, 1) := by decide +kernel
theorem dX0_step_81 : decode cX0_step 81 = .ok (.invokevirtual 189, 3) := by decide +kernel
theorem dX0_step_84 : decode cX0_step 84 = .ok (.goto 58, 3) := by decide +kernel
theorem dX0_step_87 : decode cX0_step 87 = .ok (.aload_n 0, 1) := by decide +kernel
theorem dX0_step_88 : decode cX0_step 88 = .ok (.getfield 9, 3) := by decide +kernel
theorem dX0_step_91 : decode cX0_step 91 = .ok (.aload_n 0, 1) := by decide +kernel
theorem dX0_step_92 : decode cX0_step 92 = .ok (.getfield 30, 3) := by decide +kernel
theorem dX0_step_95 : decode cX0_step 95 = .ok (.baload, 1) := by decide +kernel
theorem dX0_step_96 : decode cX0_step 96 = .ok (.invokestatic 192, 3) := by decide +kernel
theorem dX0_step_99 : decode cX0_step 99 = .ok (.ifCond .eq 10, 3) := by decide +kernel
theorem dX0_step_102 : decode cX0_step 102 = .ok (.aload_n 0, 1) := by decide +kernel
theorem dX0_step_103 : decode cX0_step 103 = .ok (.invokevirtual 195, 3) := by decide +kernel
theorem dX0_step_106 : decode cX0_step 106 = .ok (.goto 36, 3) := by decide +kernel
theorem dX0_step_109 : decode cX0_step 109 = .ok (.aload_n 0, 1) := by decide +kernel
theorem dX0_step_110 : decode cX0_step 110 = .ok (.aload_n 0, 1) := by decide +kernel
theorem dX0_step_111 : decode cX0_step 111 = .ok (.getfield 9, 3) := by decide +kernel
theorem dX0_step_114 : decode cX0_step 114 = .ok (.aload_n 0, 1) := by decide +kernel
theorem dX0_step_115 : decode cX0_step 115 = .ok (.getfield 30, 3) := by decide +kernel
theorem dX0_step_118 : decode cX0_step 118 = .ok (.baload, 1) := by decide +kernel
theorem dX0_step_119 : decode cX0_step 119 = .ok (.bipush 59, 2) := by decide +kernel
theorem dX0_step_121 : decode cX0_step 121 = .ok (.if_icmp .ne 7, 3) := by decide +kernel
theorem dX0_step_124 : decode cX0_step 124 = .ok (.iconst 3, 1) := by decide +kernel
theorem dX0_step_125 : decode cX0_step 125 = .ok (.goto 4, 3) := by decide +kernel
theorem dX0_step_128 : decode cX0_step 128 = .ok (.iconst 4, 1) := by decide +kernel
theorem dX0_step_129 : decode cX0_step 129 = .ok (.putfield 39, 3) := by decide +kernel
theorem dX0_step_132 : decode cX0_step 132 = .ok (.aload_n 0, 1) := by decide +kernel
theorem dX0_step_133 : decode cX0_step 133 = .ok (.dup, 1) := by decide +kernel
theorem dX0_step_134 : decode cX0_step 134 = .ok (.getfield 30, 3) := by decide +kernel
theorem dX0_step_137 : decode cX0_step 137 = .ok (.iconst 1, 1) := by decide +kernel
theorem dX0_step_138 : decode cX0_step 138 = .ok (.iadd, 1) := by decide +kernel
theorem dX0_step_139 : decode cX0_step 139 = .ok (.putfield 30, 3) := by decide +kernel
theorem dX0_step_142 : decode cX0_step 142 = .ok (.return_, 1) := by decide +kernel
theorem dX0_stepLetters_0 : decode cX0_stepLetters 0 = .ok (.aload_n 0, 1) := by decide +kernel
theorem dX0_stepLetters_1 : decode cX0_stepLetters 1 = .ok (.lconst 0, 1) := by decide +kernel
theorem dX0_stepLetters_2 : decode cX0_stepLetters 2 = .ok (.putfield 45, 3) := by decide +kernel
theorem dX0_stepLetters_5 : decode cX0_stepLetters 5 = .ok (.aload_n 0, 1) := by decide +kernel
theorem dX0_stepLetters_6 : decode cX0_stepLetters 6 = .ok (.iconst 0, 1) := by decide +kernel
theorem dX0_stepLetters_7 : decode cX0_stepLetters 7 = .ok (.putfield 42, 3) := by decide +kernel
theorem dX0_stepLetters_10 : decode cX0_stepLetters 10 = .ok (.aload_n 0, 1) := by decide +kernel
theorem dX0_stepLetters_11 : decode cX0_stepLetters 11 = .ok (.getfield 30, 3) := by decide +kernel
theorem dX0_stepLetters_14 : decode cX0_stepLetters 14 = .ok (.aload_n 0, 1) := by decide +kernel
theorem dX0_stepLetters_15 : decode cX0_stepLetters 15 = .ok (.getfield 26, 3) := by decide +kernel
theorem dX0_stepLetters_18 : decode cX0_stepLetters 18 = .ok (.if_icmp .ge 81, 3) := by decide +kernel
theorem dX0_stepLetters_21 : decode cX0_stepLetters 21 = .ok (.aload_n 0, 1) := by decide +kernel
theorem dX0_stepLetters_22 : decode cX0_stepLetters 22 = .ok (.getfield 9, 3) := by decide +kernel
theorem dX0_stepLetters_25 : decode cX0_stepLetters 25 = .ok (.aload_n 0, 1) := by decide +kernel
theorem dX0_stepLetters_26 : decode cX0_stepLetters 26 = .ok (.getfield 30, 3) := by decide +kernel
theorem dX0_stepLetters_29 : decode cX0_stepLetters 29 = .ok (.baload, 1) := by decide +kernel
theorem dX0_stepLetters_30 : decode cX0_stepLetters 30 = .ok (.invokestatic 185, 3) := by decide +kernel
theorem dX0_stepLetters_33 : decode cX0_stepLetters 33 = .ok (.ifCond .eq 66, 3) := by decide +kernel
theorem dX0_stepLetters_36 : decode cX0_stepLetters 36 = .ok (.aload_n 0, 1) := by decide +kernel
theorem dX0_stepLetters_37 : decode cX0_stepLetters 37 = .ok (.getfield 42, 3) := by decide +kernel
theorem dX0_stepLetters_40 : decode cX0_stepLetters 40 = .ok (.bipush 7, 2) := by decide +kernel
theorem dX0_stepLetters_42 : decode cX0_stepLetters 42 = .ok (.if_icmp .ge 34, 3) := by decide +kernel
theorem dX0_stepLetters_45 : decode cX0_stepLetters 45 = .ok (.aload_n 0, 1) := by decide +kernel
theorem dX0_stepLetters_46 : decode cX0_stepLetters 46 = .ok (.dup, 1) := by decide +kernel
theorem dX0_stepLetters_47 : decode cX0_stepLetters 47 = .ok (.getfield 45, 3) := by decide +kernel
theorem dX0_stepLetters_50 : decode cX0_stepLetters 50 = .ok (.aload_n 0, 1) := by decide +kernel
theorem dX0_stepLetters_51 : decode cX0_stepLetters 51 = .ok (.getfield 9, 3) := by decide +kernel
theorem dX0_stepLetters_54 : decode cX0_stepLetters 54 = .ok (.aload_n 0, 1) := by decide +kernel
theorem dX0_stepLetters_55 : decode cX0_stepLetters 55 = .ok (.getfield 30, 3) := by decide +kernel
theorem dX0_stepLetters_58 : decode cX0_stepLetters 58 = .ok (.baload, 1) := by decide +kernel
theorem dX0_stepLetters_59 : decode cX0_stepLetters 59 = .ok (.bipush 97, 2) := by decide +kernel
theorem dX0_stepLetters_61 : decode cX0_stepLetters 61 = .ok (.isub, 1) := by decide +kernel
theorem dX0_stepLetters_62 : decode cX0_stepLetters 62 = .ok (.iconst 1, 1) := by decide +kernel
theorem dX0_stepLetters_63 : decode cX0_stepLetters 63 = .ok (.iadd, 1) := by decide +kernel
theorem dX0_stepLetters_64 : decode cX0_stepLetters 64 = .ok (.i2l, 1) := by decide +kernel
theorem dX0_stepLetters_65 : decode cX0_stepLetters 65 = .ok (.iconst 5, 1) := by decide +kernel
theorem dX0_stepLetters_66 : decode cX0_stepLetters 66 = .ok (.aload_n 0, 1) := by decide +kernel
theorem dX0_stepLetters_67 : decode cX0_stepLetters 67 = .ok (.getfield 42, 3) := by decide +kernel
theorem dX0_stepLetters_70 : decode cX0_stepLetters 70 = .ok (.imul, 1) := by decide +kernel
theorem dX0_stepLetters_71 : decode cX0_stepLetters 71 = .ok (.lshl, 1) := by decide +kernel
theorem dX0_stepLetters_72 : decode cX0_stepLetters 72 = .ok (.lor, 1) := by decide +kernel
theorem dX0_stepLetters_73 : decode cX0_stepLetters 73 = .ok (.putfield 45, 3) := by decide +kernel
theorem dX0_stepLetters_76 : decode cX0_stepLetters 76 = .ok (.aload_n 0, 1) := by decide +kernel
theorem dX0_stepLetters_77 : decode cX0_stepLetters 77 = .ok (.dup, 1) := by decide +kernel
theorem dX0_stepLetters_78 : decode cX0_stepLetters 78 = .ok (.getfield 42, 3) := by decide +kernel
theorem dX0_stepLetters_81 : decode cX0_stepLetters 81 = .ok (.iconst 1, 1) := by decide +kernel
theorem dX0_stepLetters_82 : decode cX0_stepLetters 82 = .ok (.iadd, 1) := by decide +kernel
theorem dX0_stepLetters_83 : decode cX0_stepLetters 83 = .ok (.putfield 42, 3) := by decide +kernel
theorem dX0_stepLetters_86 : decode cX0_stepLetters 86 = .ok (.aload_n 0, 1) := by decide +kernel
theorem dX0_stepLetters_87 : decode cX0_stepLetters 87 = .ok (.dup, 1) := by decide +kernel
theorem dX0_stepLetters_88 : decode cX0_stepLetters 88 = .ok (.getfield 30, 3) := by decide +kernel
theorem dX0_stepLetters_91 : decode cX0_stepLetters 91 = .ok (.iconst 1, 1) := by decide +kernel
theorem dX0_stepLetters_92 : decode cX0_stepLetters 92 = .ok (.iadd, 1) := by decide +kernel
theorem dX0_stepLetters_93 : decode cX0_stepLetters 93 = .ok (.putfield 30, 3) := by decide +kernel
theorem dX0_stepLetters_96 : decode cX0_stepLetters 96 = .ok (.goto (-86), 3) := by decide +kernel
theorem dX0_stepLetters_99 : decode cX0_stepLetters 99 = .ok (.aload_n 0, 1) := by decide +kernel
theorem dX0_stepLetters_100 : decode cX0_stepLetters 100 = .ok (.aload_n 0, 1) := by decide +kernel
theorem dX0_stepLetters_101 : decode cX0_stepLetters 101 = .ok (.getfield 42, 3) := by decide +kernel
theorem dX0_stepLetters_104 : decode cX0_stepLetters 104 = .ok (.bipush 7, 2) := by decide +kernel
theorem dX0_stepLetters_106 : decode cX0_stepLetters 106 = .ok (.if_icmp .gt 7, 3) := by decide +kernel
theorem dX0_stepLetters_109 : decode cX0_stepLetters 109 = .ok (.iconst 1, 1) := by decide +kernel
theorem dX0_stepLetters_110 : decode cX0_stepLetters 110 = .ok (.goto 4, 3) := by decide +kernel
theorem dX0_stepLetters_113 : decode cX0_stepLetters 113 = .ok (.iconst 4, 1) := by decide +kernel
theorem dX0_stepLetters_114 : decode cX0_stepLetters 114 = .ok (.putfield 39, 3) := by decide +kernel
theorem dX0_stepLetters_117 : decode cX0_stepLetters 117 = .ok (.return_, 1) := by decide +kernel
theorem dX0_stepDigits_0 : decode cX0_stepDigits 0 = .ok (.aload_n 0, 1) := by decide +kernel
theorem dX0_stepDigits_1 : decode cX0_stepDigits 1 = .ok (.iconst 0, 1) := by decide +kernel
theorem dX0_stepDigits_2 : decode cX0_stepDigits 2 = .ok (.putfield 49, 3) := by decide +kernel
theorem dX0_stepDigits_5 : decode cX0_stepDigits 5 = .ok (.aload_n 0, 1) := by decide +kernel
theorem dX0_stepDigits_6 : decode cX0_stepDigits 6 = .ok (.iconst 0, 1) := by decide +kernel
theorem dX0_stepDigits_7 : decode cX0_stepDigits 7 = .ok (.putfield 42, 3) := by decide +kernel
theorem dX0_stepDigits_10 : decode cX0_stepDigits 10 = .ok (.aload_n 0, 1) := by decide +kernel
theorem dX0_stepDigits_11 : decode cX0_stepDigits 11 = .ok (.getfield 30, 3) := by decide +kernel
theorem dX0_stepDigits_14 : decode cX0_stepDigits 14 = .ok (.aload_n 0, 1) := by decide +kernel
theorem dX0_stepDigits_15 : decode cX0_stepDigits 15 = .ok (.getfield 26, 3) := by decide +kernel
theorem dX0_stepDigits_18 : decode cX0_stepDigits 18 = .ok (.if_icmp .ge 74, 3) := by decide +kernel
theorem dX0_stepDigits_21 : decode cX0_stepDigits 21 = .ok (.aload_n 0, 1) := by decide +kernel
theorem dX0_stepDigits_22 : decode cX0_stepDigits 22 = .ok (.getfield 9, 3) := by decide +kernel
theorem dX0_stepDigits_25 : decode cX0_stepDigits 25 = .ok (.aload_n 0, 1) := by decide +kernel
theorem dX0_stepDigits_26 : decode cX0_stepDigits 26 = .ok (.getfield 30, 3) := by decide +kernel
theorem dX0_stepDigits_29 : decode cX0_stepDigits 29 = .ok (.baload, 1) := by decide +kernel
theorem dX0_stepDigits_30 : decode cX0_stepDigits 30 = .ok (.invokestatic 192, 3) := by decide +kernel
theorem dX0_stepDigits_33 : decode cX0_stepDigits 33 = .ok (.ifCond .eq 59, 3) := by decide +kernel
theorem dX0_stepDigits_36 : decode cX0_stepDigits 36 = .ok (.aload_n 0, 1) := by decide +kernel
theorem dX0_stepDigits_37 : decode cX0_stepDigits 37 = .ok (.getfield 42, 3) := by decide +kernel
theorem dX0_stepDigits_40 : decode cX0_stepDigits 40 = .ok (.bipush 7, 2) := by decide +kernel
theorem dX0_stepDigits_42 : decode cX0_stepDigits 42 = .ok (.if_icmp .ge 27, 3) := by decide +kernel
theorem dX0_stepDigits_45 : decode cX0_stepDigits 45 = .ok (.aload_n 0, 1) := by decide +kernel
theorem dX0_stepDigits_46 : decode cX0_stepDigits 46 = .ok (.aload_n 0, 1) := by decide +kernel
theorem dX0_stepDigits_47 : decode cX0_stepDigits 47 = .ok (.getfield 49, 3) := by decide +kernel
theorem dX0_stepDigits_50 : decode cX0_stepDigits 50 = .ok (.bipush 10, 2) := by decide +kernel
theorem dX0_stepDigits_52 : decode cX0_stepDigits 52 = .ok (.imul, 1) := by decide +kernel
theorem dX0_stepDigits_53 : decode cX0_stepDigits 53 = .ok (.aload_n 0, 1) := by decide +kernel
theorem dX0_stepDigits_54 : decode cX0_stepDigits 54 = .ok (.getfield 9, 3) := by decide +kernel
theorem dX0_stepDigits_57 : decode cX0_stepDigits 57 = .ok (.aload_n 0, 1) := by decide +kernel
theorem dX0_stepDigits_58 : decode cX0_stepDigits 58 = .ok (.getfield 30, 3) := by decide +kernel
theorem dX0_stepDigits_61 : decode cX0_stepDigits 61 = .ok (.baload, 1) := by decide +kernel
theorem dX0_stepDigits_62 : decode cX0_stepDigits 62 = .ok (.iadd, 1) := by decide +kernel
theorem dX0_stepDigits_63 : decode cX0_stepDigits 63 = .ok (.bipush 48, 2) := by decide +kernel
theorem dX0_stepDigits_65 : decode cX0_stepDigits 65 = .ok (.isub, 1) := by decide +kernel
theorem dX0_stepDigits_66 : decode cX0_stepDigits 66 = .ok (.putfield 49, 3) := by decide +kernel
theorem dX0_stepDigits_69 : decode cX0_stepDigits 69 = .ok (.aload_n 0, 1) := by decide +kernel
theorem dX0_stepDigits_70 : decode cX0_stepDigits 70 = .ok (.dup, 1) := by decide +kernel
theorem dX0_stepDigits_71 : decode cX0_stepDigits 71 = .ok (.getfield 42, 3) := by decide +kernel
theorem dX0_stepDigits_74 : decode cX0_stepDigits 74 = .ok (.iconst 1, 1) := by decide +kernel
theorem dX0_stepDigits_75 : decode cX0_stepDigits 75 = .ok (.iadd, 1) := by decide +kernel
theorem dX0_stepDigits_76 : decode cX0_stepDigits 76 = .ok (.putfield 42, 3) := by decide +kernel
theorem dX0_stepDigits_79 : decode cX0_stepDigits 79 = .ok (.aload_n 0, 1) := by decide +kernel
theorem dX0_stepDigits_80 : decode cX0_stepDigits 80 = .ok (.dup, 1) := by decide +kernel
theorem dX0_stepDigits_81 : decode cX0_stepDigits 81 = .ok (.getfield 30, 3) := by decide +kernel
theorem dX0_stepDigits_84 : decode cX0_stepDigits 84 = .ok (.iconst 1, 1) := by decide +kernel
theorem dX0_stepDigits_85 : decode cX0_stepDigits 85 = .ok (.iadd, 1) := by decide +kernel
theorem dX0_stepDigits_86 : decode cX0_stepDigits 86 = .ok (.putfield 30, 3) := by decide +kernel
theorem dX0_stepDigits_89 : decode cX0_stepDigits 89 = .ok (.goto (-79), 3) := by decide +kernel
theorem dX0_stepDigits_92 : decode cX0_stepDigits 92 = .ok (.aload_n 0, 1) := by decide +kernel
theorem dX0_stepDigits_93 : decode cX0_stepDigits 93 = .ok (.aload_n 0, 1) := by decide +kernel
theorem dX0_stepDigits_94 : decode cX0_stepDigits 94 = .ok (.getfield 42, 3) := by decide +kernel
theorem dX0_stepDigits_97 : decode cX0_stepDigits 97 = .ok (.bipush 7, 2) := by decide +kernel
theorem dX0_stepDigits_99 : decode cX0_stepDigits 99 = .ok (.if_icmp .gt 7, 3) := by decide +kernel
theorem dX0_stepDigits_102 : decode cX0_stepDigits 102 = .ok (.iconst 2, 1) := by decide +kernel
theorem dX0_stepDigits_103 : decode cX0_stepDigits 103 = .ok (.goto 4, 3) := by decide +kernel
theorem dX0_stepDigits_106 : decode cX0_stepDigits 106 = .ok (.iconst 4, 1) := by decide +kernel
theorem dX0_stepDigits_107 : decode cX0_stepDigits 107 = .ok (.putfield 39, 3) := by decide +kernel
theorem dX0_stepDigits_110 : decode cX0_stepDigits 110 = .ok (.return_, 1) := by decide +kernel
theorem dX0_isLetter_0 : decode cX0_isLetter 0 = .ok (.iload_n 0, 1) := by decide +kernel
theorem dX0_isLetter_1 : decode cX0_isLetter 1 = .ok (.bipush 97, 2) := by decide +kernel
theorem dX0_isLetter_3 : decode cX0_isLetter 3 = .ok (.if_icmp .lt 13, 3) := by decide +kernel
theorem dX0_isLetter_6 : decode cX0_isLetter 6 = .ok (.iload_n 0, 1) := by decide +kernel
theorem dX0_isLetter_7 : decode cX0_isLetter 7 = .ok (.bipush 122, 2) := by decide +kernel
theorem dX0_isLetter_9 : decode cX0_isLetter 9 = .ok (.if_icmp .gt 7, 3) := by decide +kernel
theorem dX0_isLetter_12 : decode cX0_isLetter 12 = .ok (.iconst 1, 1) := by decide +kernel
theorem dX0_isLetter_13 : decode cX0_isLetter 13 = .ok (.goto 4, 3) := by decide +kernel
theorem dX0_isLetter_16 : decode cX0_isLetter 16 = .ok (.iconst 0, 1) := by decide +kernel
theorem dX0_isLetter_17 : decode cX0_isLetter 17 = .ok (.ireturn, 1) := by decide +kernel
theorem dX0_isDigit_0 : decode cX0_isDigit 0 = .ok (.iload_n 0, 1) := by decide +kernel
theorem dX0_isDigit_1 : decode cX0_isDigit 1 = .ok (.bipush 48, 2) := by decide +kernel
theorem dX0_isDigit_3 : decode cX0_isDigit 3 = .ok (.if_icmp .lt 13, 3) := by decide +kernel
theorem dX0_isDigit_6 : decode cX0_isDigit 6 = .ok (.iload_n 0, 1) := by decide +kernel
theorem dX0_isDigit_7 : decode cX0_isDigit 7 = .ok (.bipush 57, 2) := by decide +kernel
theorem dX0_isDigit_9 : decode cX0_isDigit 9 = .ok (.if_icmp .gt 7, 3) := by decide +kernel
theorem dX0_isDigit_12 : decode cX0_isDigit 12 = .ok (.iconst 1, 1) := by decide +kernel
theorem dX0_isDigit_13 : decode cX0_isDigit 13 = .ok (.goto 4, 3) := by decide +kernel
theorem dX0_isDigit_16 : decode cX0_isDigit 16 = .ok (.iconst 0, 1) := by decide +kernel
theorem dX0_isDigit_17 : decode cX0_isDigit 17 = .ok (.ireturn, 1) := by decide +kernel
theorem dX1_init_0 : decode cX1_init 0 = .ok (.aload_n 0, 1) := by decide +kernel
theorem dX1_init_1 : decode cX1_init 1 = .ok (.invokespecial 3, 3) := by decide +kernel
theorem dX1_init_4 : decode cX1_init 4 = .ok (.aload_n 0, 1) := by decide +kernel
theorem dX1_init_5 : decode cX1_init 5 = .ok (.new 9, 3) := by decide +kernel
theorem dX1_init_8 : decode cX1_init 8 = .ok (.dup, 1) := by decide +kernel
theorem dX1_init_9 : decode cX1_init 9 = .ok (.invokespecial 11, 3) := by decide +kernel
theorem dX1_init_12 : decode cX1_init 12 = .ok (.putfield 12, 3) := by decide +kernel
theorem dX1_init_15 : decode cX1_init 15 = .ok (.aload_n 0, 1) := by decide +kernel
theorem dX1_init_16 : decode cX1_init 16 = .ok (.iconst 4, 1) := by decide +kernel
theorem dX1_init_17 : decode cX1_init 17 = .ok (.newarray .int, 2) := by decide +kernel
theorem dX1_init_19 : decode cX1_init 19 = .ok (.putfield 18, 3) := by decide +kernel
theorem dX1_init_22 : decode cX1_init 22 = .ok (.aload_n 0, 1) := by decide +kernel
theorem dX1_init_23 : decode cX1_init 23 = .ok (.bipush 16, 2) := by decide +kernel
theorem dX1_init_25 : decode cX1_init 25 = .ok (.newarray .long, 2) := by decide +kernel
theorem dX1_init_27 : decode cX1_init 27 = .ok (.putfield 22, 3) := by decide +kernel
theorem dX1_init_30 : decode cX1_init 30 = .ok (.aload_n 0, 1) := by decide +kernel
theorem dX1_init_31 : decode cX1_init 31 = .ok (.bipush 64, 2) := by decide +kernel
theorem dX1_init_33 : decode cX1_init 33 = .ok (.newarray .long, 2) := by decide +kernel
theorem dX1_init_35 : decode cX1_init 35 = .ok (.putfield 26, 3) := by decide +kernel
theorem dX1_init_38 : decode cX1_init 38 = .ok (.aload_n 0, 1) := by decide +kernel
theorem dX1_init_39 : decode cX1_init 39 = .ok (.bipush 64, 2) := by decide +kernel
theorem dX1_init_41 : decode cX1_init 41 = .ok (.newarray .long, 2) := by decide +kernel
theorem dX1_init_43 : decode cX1_init 43 = .ok (.putfield 29, 3) := by decide +kernel
theorem dX1_init_46 : decode cX1_init 46 = .ok (.aload_n 0, 1) := by decide +kernel
theorem dX1_init_47 : decode cX1_init 47 = .ok (.bipush 16, 2) := by decide +kernel
theorem dX1_init_49 : decode cX1_init 49 = .ok (.newarray .long, 2) := by decide +kernel
theorem dX1_init_51 : decode cX1_init 51 = .ok (.putfield 32, 3) := by decide +kernel
theorem dX1_init_54 : decode cX1_init 54 = .ok (.aload_n 0, 1) := by decide +kernel
theorem dX1_init_55 : decode cX1_init 55 = .ok (.iconst 0, 1) := by decide +kernel
theorem dX1_init_56 : decode cX1_init 56 = .ok (.putfield 35, 3) := by decide +kernel
theorem dX1_init_59 : decode cX1_init 59 = .ok (.return_, 1) := by decide +kernel
theorem dX1_take_0 : decode cX1_take 0 = .ok (.aload_n 0, 1) := by decide +kernel
theorem dX1_take_1 : decode cX1_take 1 = .ok (.getfield 12, 3) := by decide +kernel
theorem dX1_take_4 : decode cX1_take 4 = .ok (.aload_n 1, 1) := by decide +kernel
theorem dX1_take_5 : decode cX1_take 5 = .ok (.invokevirtual 39, 3) := by decide +kernel
theorem dX1_take_8 : decode cX1_take 8 = .ok (.return_, 1) := by decide +kernel
theorem dX1_settle_0 : decode cX1_settle 0 = .ok (.aload_n 0, 1) := by decide +kernel
theorem dX1_settle_1 : decode cX1_settle 1 = .ok (.getfield 26, 3) := by decide +kernel
theorem dX1_settle_4 : decode cX1_settle 4 = .ok (.lconst 0, 1) := by decide +kernel
theorem dX1_settle_5 : decode cX1_settle 5 = .ok (.invokestatic 43, 3) := by decide +kernel
theorem dX1_settle_8 : decode cX1_settle 8 = .ok (.aload_n 0, 1) := by decide +kernel
theorem dX1_settle_9 : decode cX1_settle 9 = .ok (.getfield 29, 3) := by decide +kernel
theorem dX1_settle_12 : decode cX1_settle 12 = .ok (.lconst 0, 1) := by decide +kernel
theorem dX1_settle_13 : decode cX1_settle 13 = .ok (.invokestatic 43, 3) := by decide +kernel
theorem dX1_settle_16 : decode cX1_settle 16 = .ok (.aload_n 0, 1) := by decide +kernel
theorem dX1_settle_17 : decode cX1_settle 17 = .ok (.getfield 22, 3) := by decide +kernel
theorem dX1_settle_20 : decode cX1_settle 20 = .ok (.lconst 0, 1) := by decide +kernel
theorem dX1_settle_21 : decode cX1_settle 21 = .ok (.invokestatic 43, 3) := by decide +kernel
theorem dX1_settle_24 : decode cX1_settle 24 = .ok (.aload_n 0, 1) := by decide +kernel
theorem dX1_settle_25 : decode cX1_settle 25 = .ok (.invokevirtual 49, 3) := by decide +kernel
theorem dX1_settle_28 : decode cX1_settle 28 = .ok (.aload_n 0, 1) := by decide +kernel
theorem dX1_settle_29 : decode cX1_settle 29 = .ok (.invokevirtual 52, 3) := by decide +kernel
theorem dX1_settle_32 : decode cX1_settle 32 = .ok (.aload_n 0, 1) := by decide +kernel
theorem dX1_settle_33 : decode cX1_settle 33 = .ok (.invokevirtual 55, 3) := by decide +kernel
theorem dX1_settle_36 : decode cX1_settle 36 = .ok (.aload_n 0, 1) := by decide +kernel
theorem dX1_settle_37 : decode cX1_settle 37 = .ok (.invokevirtual 58, 3) := by decide +kernel
theorem dX1_settle_40 : decode cX1_settle 40 = .ok (.iconst 0, 1) := by decide +kernel
theorem dX1_settle_41 : decode cX1_settle 41 = .ok (.istore_n 1, 1) := by decide +kernel
theorem dX1_settle_42 : decode cX1_settle 42 = .ok (.iload_n 1, 1) := by decide +kernel
theorem dX1_settle_43 : decode cX1_settle 43 = .ok (.aload_n 0, 1) := by decide +kernel
theorem dX1_settle_44 : decode cX1_settle 44 = .ok (.getfield 12, 3) := by decide +kernel
theorem dX1_settle_47 : decode cX1_settle 47 = .ok (.getfield 61, 3) := by decide +kernel
theorem dX1_settle_50 : decode cX1_settle 50 = .ok (.if_icmp .ge 14, 3) := by decide +kernel
theorem dX1_settle_53 : decode cX1_settle 53 = .ok (.aload_n 0, 1) := by decide +kernel
theorem dX1_settle_54 : decode cX1_settle 54 = .ok (.iload_n 1, 1) := by decide +kernel
theorem dX1_settle_55 : decode cX1_settle 55 = .ok (.invokevirtual 64, 3) := by decide +kernel
theorem dX1_settle_58 : decode cX1_settle 58 = .ok (.iinc 1 1, 3) := by decide +kernel
theorem dX1_settle_61 : decode cX1_settle 61 = .ok (.goto (-19), 3) := by decide +kernel
theorem dX1_settle_64 : decode cX1_settle 64 = .ok (.return_, 1) := by decide +kernel
theorem dX1_cut_0 : decode cX1_cut 0 = .ok (.lload_n 2, 1) := by decide +kernel
theorem dX1_cut_1 : decode cX1_cut 1 = .ok (.lconst 0, 1) := by decide +kernel
theorem dX1_cut_2 : decode cX1_cut 2 = .ok (.lcmp, 1) := by decide +kernel
theorem dX1_cut_3 : decode cX1_cut 3 = .ok (.ifCond .ne 7, 3) := by decide +kernel
theorem dX1_cut_6 : decode cX1_cut 6 = .ok (.lconst 0, 1) := by decide +kernel
theorem dX1_cut_7 : decode cX1_cut 7 = .ok (.goto 6, 3) := by decide +kernel
theorem dX1_cut_10 : decode cX1_cut 10 = .ok (.lload_n 0, 1) := by decide +kernel
theorem dX1_cut_11 : decode cX1_cut 11 = .ok (.lload_n 2, 1) := by decide +kernel
theorem dX1_cut_12 : decode cX1_cut 12 = .ok (.ldiv, 1) := by decide +kernel
theorem dX1_cut_13 : decode cX1_cut 13 = .ok (.lreturn, 1) := by decide +kernel
theorem dX1_weigh_0 : decode cX1_weigh 0 = .ok (.aload_n 0, 1) := by decide +kernel
theorem dX1_weigh_1 : decode cX1_weigh 1 = .ok (.iconst 0, 1) := by decide +kernel
theorem dX1_weigh_2 : decode cX1_weigh 2 = .ok (.putfield 35, 3) := by decide +kernel
theorem dX1_weigh_5 : decode cX1_weigh 5 = .ok (.iconst 0, 1) := by decide +kernel
theorem dX1_weigh_6 : decode cX1_weigh 6 = .ok (.istore_n 1, 1) := by decide +kernel
theorem dX1_weigh_7 : decode cX1_weigh 7 = .ok (.iload_n 1, 1) := by decide +kernel
theorem dX1_weigh_8 : decode cX1_weigh 8 = .ok (.aload_n 0, 1) := by decide +kernel
theorem dX1_weigh_9 : decode cX1_weigh 9 = .ok (.getfield 12, 3) := by decide +kernel
theorem dX1_weigh_12 : decode cX1_weigh 12 = .ok (.getfield 61, 3) := by decide +kernel
theorem dX1_weigh_15 : decode cX1_weigh 15 = .ok (.if_icmp .ge 38, 3) := by decide +kernel
theorem dX1_weigh_18 : decode cX1_weigh 18 = .ok (.aload_n 0, 1) := by decide +kernel
theorem dX1_weigh_19 : decode cX1_weigh 19 = .ok (.getfield 18, 3) := by decide +kernel
theorem dX1_weigh_22 : decode cX1_weigh 22 = .ok (.iload_n 1, 1) := by decide +kernel
theorem dX1_weigh_23 : decode cX1_weigh 23 = .ok (.aload_n 0, 1) := by decide +kernel
theorem dX1_weigh_24 : decode cX1_weigh 24 = .ok (.getfield 12, 3) := by decide +kernel
theorem dX1_weigh_27 : decode cX1_weigh 27 = .ok (.iload_n 1, 1) := by decide +kernel
theorem dX1_weigh_28 : decode cX1_weigh 28 = .ok (.invokevirtual 68, 3) := by decide +kernel
theorem dX1_weigh_31 : decode cX1_weigh 31 = .ok (.iastore, 1) := by decide +kernel
theorem dX1_weigh_32 : decode cX1_weigh 32 = .ok (.aload_n 0, 1) := by decide +kernel
theorem dX1_weigh_33 : decode cX1_weigh 33 = .ok (.dup, 1) := by decide +kernel
theorem dX1_weigh_34 : decode cX1_weigh 34 = .ok (.getfield 35, 3) := by decide +kernel
theorem dX1_weigh_37 : decode cX1_weigh 37 = .ok (.aload_n 0, 1) := by decide +kernel
theorem dX1_weigh_38 : decode cX1_weigh 38 = .ok (.getfield 18, 3) := by decide +kernel
theorem dX1_weigh_41 : decode cX1_weigh 41 = .ok (.iload_n 1, 1) := by decide +kernel
theorem dX1_weigh_42 : decode cX1_weigh 42 = .ok (.iaload, 1) := by decide +kernel
theorem dX1_weigh_43 : decode cX1_weigh 43 = .ok (.iadd, 1) := by decide +kernel
theorem dX1_weigh_44 : decode cX1_weigh 44 = .ok (.putfield 35, 3) := by decide +kernel
theorem dX1_weigh_47 : decode cX1_weigh 47 = .ok (.iinc 1 1, 3) := by decide +kernel
theorem dX1_weigh_50 : decode cX1_weigh 50 = .ok (.goto (-43), 3) := by decide +kernel
theorem dX1_weigh_53 : decode cX1_weigh 53 = .ok (.return_, 1) := by decide +kernel
theorem dX1_partOf_0 : decode cX1_partOf 0 = .ok (.lload_n 2, 1) := by decide +kernel
theorem dX1_partOf_1 : decode cX1_partOf 1 = .ok (.aload_n 0, 1) := by decide +kernel
theorem dX1_partOf_2 : decode cX1_partOf 2 = .ok (.getfield 18, 3) := by decide +kernel
theorem dX1_partOf_5 : decode cX1_partOf 5 = .ok (.iload_n 1, 1) := by decide +kernel
theorem dX1_partOf_6 : decode cX1_partOf 6 = .ok (.iaload, 1) := by decide +kernel
theorem dX1_partOf_7 : decode cX1_partOf 7 = .ok (.i2l, 1) := by decide +kernel
theorem dX1_partOf_8 : decode cX1_partOf 8 = .ok (.lmul, 1) := by decide +kernel
theorem dX1_partOf_9 : decode cX1_partOf 9 = .ok (.aload_n 0, 1) := by decide +kernel
theorem dX1_partOf_10 : decode cX1_partOf 10 = .ok (.getfield 35, 3) := by decide +kernel
theorem dX1_partOf_13 : decode cX1_partOf 13 = .ok (.i2l, 1) := by decide +kernel
theorem dX1_partOf_14 : decode cX1_partOf 14 = .ok (.invokestatic 72, 3) := by decide +kernel
theorem dX1_partOf_17 : decode cX1_partOf 17 = .ok (.lreturn, 1) := by decide +kernel
theorem dX1_oweClaims_0 : decode cX1_oweClaims 0 = .ok (.iconst 0, 1) := by decide +kernel
theorem dX1_oweClaims_1 : decode cX1_oweClaims 1 = .ok (.istore_n 1, 1) := by decide +kernel
theorem dX1_oweClaims_2 : decode cX1_oweClaims 2 = .ok (.iload_n 1, 1) := by decide +kernel
theorem dX1_oweClaims_3 : decode cX1_oweClaims 3 = .ok (.aload_n 0, 1) := by decide +kernel
theorem dX1_oweClaims_4 : decode cX1_oweClaims 4 = .ok (.getfield 12, 3) := by decide +kernel
theorem dX1_oweClaims_7 : decode cX1_oweClaims 7 = .ok (.getfield 61, 3) := by decide +kernel
theorem dX1_oweClaims_10 : decode cX1_oweClaims 10 = .ok (.if_icmp .ge 47, 3) := by decide +kernel
theorem dX1_oweClaims_13 : decode cX1_oweClaims 13 = .ok (.iconst 0, 1) := by decide +kernel
theorem dX1_oweClaims_14 : decode cX1_oweClaims 14 = .ok (.istore_n 2, 1) := by decide +kernel
theorem dX1_oweClaims_15 : decode cX1_oweClaims 15 = .ok (.iload_n 2, 1) := by decide +kernel
theorem dX1_oweClaims_16 : decode cX1_oweClaims 16 = .ok (.aload_n 0, 1) := by decide +kernel
theorem dX1_oweClaims_17 : decode cX1_oweClaims 17 = .ok (.getfield 12, 3) := by decide +kernel
theorem dX1_oweClaims_20 : decode cX1_oweClaims 20 = .ok (.getfield 76, 3) := by decide +kernel
theorem dX1_oweClaims_23 : decode cX1_oweClaims 23 = .ok (.if_icmp .ge 28, 3) := by decide +kernel
theorem dX1_oweClaims_26 : decode cX1_oweClaims 26 = .ok (.aload_n 0, 1) := by decide +kernel
theorem dX1_oweClaims_27 : decode cX1_oweClaims 27 = .ok (.getfield 26, 3) := by decide +kernel
theorem dX1_oweClaims_30 : decode cX1_oweClaims 30 = .ok (.iload_n 1, 1) := by decide +kernel
theorem dX1_oweClaims_31 : decode cX1_oweClaims 31 = .ok (.bipush 16, 2) := by decide +kernel
theorem dX1_oweClaims_33 : decode cX1_oweClaims 33 = .ok (.imul, 1) := by decide +kernel
theorem dX1_oweClaims_34 : decode cX1_oweClaims 34 = .ok (.iconst 4, 1) := by decide +kernel
theorem dX1_oweClaims_35 : decode cX1_oweClaims 35 = .ok (.iadd, 1) := by decide +kernel
theorem dX1_oweClaims_36 : decode cX1_oweClaims 36 = .ok (.iload_n 2, 1) := by decide +kernel
theorem dX1_oweClaims_37 : decode cX1_oweClaims 37 = .ok (.iadd, 1) := by decide +kernel
theorem dX1_oweClaims_38 : decode cX1_oweClaims 38 = .ok (.aload_n 0, 1) := by decide +kernel
theorem dX1_oweClaims_39 : decode cX1_oweClaims 39 = .ok (.iload_n 1, 1) := by decide +kernel
theorem dX1_oweClaims_40 : decode cX1_oweClaims 40 = .ok (.iload_n 2, 1) := by decide +kernel
theorem dX1_oweClaims_41 : decode cX1_oweClaims 41 = .ok (.invokevirtual 79, 3) := by decide +kernel
theorem dX1_oweClaims_44 : decode cX1_oweClaims 44 = .ok (.lastore, 1) := by decide +kernel
theorem dX1_oweClaims_45 : decode cX1_oweClaims 45 = .ok (.iinc 2 1, 3) := by decide +kernel
theorem dX1_oweClaims_48 : decode cX1_oweClaims 48 = .ok (.goto (-33), 3) := by decide +kernel
theorem dX1_oweClaims_51 : decode cX1_oweClaims 51 = .ok (.iinc 1 1, 3) := by decide +kernel
theorem dX1_oweClaims_54 : decode cX1_oweClaims 54 = .ok (.goto (-52), 3) := by decide +kernel
theorem dX1_oweClaims_57 : decode cX1_oweClaims 57 = .ok (.return_, 1) := by decide +kernel
theorem dX1_debt_0 : decode cX1_debt 0 = .ok (.aload_n 0, 1) := by decide +kernel
theorem dX1_debt_1 : decode cX1_debt 1 = .ok (.getfield 12, 3) := by decide +kernel
theorem dX1_debt_4 : decode cX1_debt 4 = .ok (.iload_n 2, 1) := by decide +kernel
theorem dX1_debt_5 : decode cX1_debt 5 = .ok (.invokevirtual 83, 3) := by decide +kernel
theorem dX1_debt_8 : decode cX1_debt 8 = .ok (.bipush (-2), 2) := by decide +kernel
theorem dX1_debt_10 : decode cX1_debt 10 = .ok (.if_icmp .ne 5, 3) := by decide +kernel
theorem dX1_debt_13 : decode cX1_debt 13 = .ok (.lconst 0, 1) := by decide +kernel
theorem dX1_debt_14 : decode cX1_debt 14 = .ok (.lreturn, 1) := by decide +kernel
theorem dX1_debt_15 : decode cX1_debt 15 = .ok (.aload_n 0, 1) := by decide +kernel
theorem dX1_debt_16 : decode cX1_debt 16 = .ok (.getfield 12, 3) := by decide +kernel
theorem dX1_debt_19 : decode cX1_debt 19 = .ok (.iload_n 2, 1) := by decide +kernel
theorem dX1_debt_20 : decode cX1_debt 20 = .ok (.iconst 2, 1) := by decide +kernel
theorem dX1_debt_21 : decode cX1_debt 21 = .ok (.invokevirtual 86, 3) := by decide +kernel
theorem dX1_debt_24 : decode cX1_debt 24 = .ok (.i2l, 1) := by decide +kernel
theorem dX1_debt_25 : decode cX1_debt 25 = .ok (.lstore_n 3, 1) := by decide +kernel
theorem dX1_debt_26 : decode cX1_debt 26 = .ok (.aload_n 0, 1) := by decide +kernel
theorem dX1_debt_27 : decode cX1_debt 27 = .ok (.getfield 12, 3) := by decide +kernel
theorem dX1_debt_30 : decode cX1_debt 30 = .ok (.iload_n 2, 1) := by decide +kernel
theorem dX1_debt_31 : decode cX1_debt 31 = .ok (.invokevirtual 90, 3) := by decide +kernel
theorem dX1_debt_34 : decode cX1_debt 34 = .ok (.ifCond .ne 10, 3) := by decide +kernel
theorem dX1_debt_37 : decode cX1_debt 37 = .ok (.aload_n 0, 1) := by decide +kernel
theorem dX1_debt_38 : decode cX1_debt 38 = .ok (.iload_n 1, 1) := by decide +kernel
theorem dX1_debt_39 : decode cX1_debt 39 = .ok (.lload_n 3, 1) := by decide +kernel
theorem dX1_debt_40 : decode cX1_debt 40 = .ok (.invokevirtual 94, 3) := by decide +kernel
theorem dX1_debt_43 : decode cX1_debt 43 = .ok (.lreturn, 1) := by decide +kernel
theorem dX1_debt_44 : decode cX1_debt 44 = .ok (.aload_n 0, 1) := by decide +kernel
theorem dX1_debt_45 : decode cX1_debt 45 = .ok (.getfield 12, 3) := by decide +kernel
theorem dX1_debt_48 : decode cX1_debt 48 = .ok (.iload_n 2, 1) := by decide +kernel
theorem dX1_debt_49 : decode cX1_debt 49 = .ok (.iconst 1, 1) := by decide +kernel
theorem dX1_debt_50 : decode cX1_debt 50 = .ok (.invokevirtual 86, 3) := by decide +kernel
theorem dX1_debt_53 : decode cX1_debt 53 = .ok (.istore 5, 2) := by decide +kernel
theorem dX1_debt_55 : decode cX1_debt 55 = .ok (.iload 5, 2) := by decide +kernel
theorem dX1_debt_57 : decode cX1_debt 57 = .ok (.iload_n 1, 1) := by decide +kernel
theorem dX1_debt_58 : decode cX1_debt 58 = .ok (.if_icmp .ne 5, 3) := by decide +kernel
theorem dX1_debt_61 : decode cX1_debt 61 = .ok (.lconst 0, 1) := by decide +kernel
theorem dX1_debt_62 : decode cX1_debt 62 = .ok (.lreturn, 1) := by decide +kernel
theorem dX1_debt_63 : decode cX1_debt 63 = .ok (.aload_n 0, 1) := by decide +kernel
theorem dX1_debt_64 : decode cX1_debt 64 = .ok (.getfield 12, 3) := by decide +kernel
theorem dX1_debt_67 : decode cX1_debt 67 = .ok (.iconst 3, 1) := by decide +kernel
theorem dX1_debt_68 : decode cX1_debt 68 = .ok (.invokevirtual 98, 3) := by decide +kernel
theorem dX1_debt_71 : decode cX1_debt 71 = .ok (.ifCond .ne 10, 3) := by decide +kernel
theorem dX1_debt_74 : decode cX1_debt 74 = .ok (.aload_n 0, 1) := by decide +kernel
theorem dX1_debt_75 : decode cX1_debt 75 = .ok (.iload_n 1, 1) := by decide +kernel
theorem dX1_debt_76 : decode cX1_debt 76 = .ok (.lload_n 3, 1) := by decide +kernel
theorem dX1_debt_77 : decode cX1_debt 77 = .ok (.invokevirtual 94, 3) := by decide +kernel
theorem dX1_debt_80 : decode cX1_debt 80 = .ok (.lreturn, 1) := by decide +kernel
theorem dX1_debt_81 : decode cX1_debt 81 = .ok (.lload_n 3, 1) := by decide +kernel
theorem dX1_debt_82 : decode cX1_debt 82 = .ok (.aload_n 0, 1) := by decide +kernel
theorem dX1_debt_83 : decode cX1_debt 83 = .ok (.getfield 18, 3) := by decide +kernel
theorem dX1_debt_86 : decode cX1_debt 86 = .ok (.iload_n 1, 1) := by decide +kernel
theorem dX1_debt_87 : decode cX1_debt 87 = .ok (.iaload, 1) := by decide +kernel
theorem dX1_debt_88 : decode cX1_debt 88 = .ok (.i2l, 1) := by decide +kernel
theorem dX1_debt_89 : decode cX1_debt 89 = .ok (.lmul, 1) := by decide +kernel
theorem dX1_debt_90 : decode cX1_debt 90 = .ok (.aload_n 0, 1) := by decide +kernel
theorem dX1_debt_91 : decode cX1_debt 91 = .ok (.getfield 35, 3) := by decide +kernel
theorem dX1_debt_94 : decode cX1_debt 94 = .ok (.aload_n 0, 1) := by decide +kernel
theorem dX1_debt_95 : decode cX1_debt 95 = .ok (.getfield 18, 3) := by decide +kernel
theorem dX1_debt_98 : decode cX1_debt 98 = .ok (.iload 5, 2) := by decide +kernel
theorem dX1_debt_100 : decode cX1_debt 100 = .ok (.iaload, 1) := by decide +kernel
theorem dX1_debt_101 : decode cX1_debt 101 = .ok (.isub, 1) := by decide +kernel
theorem dX1_debt_102 : decode cX1_debt 102 = .ok (.i2l, 1) := by decide +kernel
theorem dX1_debt_103 : decode cX1_debt 103 = .ok (.invokestatic 72, 3) := by decide +kernel
theorem dX1_debt_106 : decode cX1_debt 106 = .ok (.lreturn, 1) := by decide +kernel
theorem dX1_backFor_0 : decode cX1_backFor 0 = .ok (.aload_n 0, 1) := by decide +kernel
theorem dX1_backFor_1 : decode cX1_backFor 1 = .ok (.getfield 12, 3) := by decide +kernel
theorem dX1_backFor_4 : decode cX1_backFor 4 = .ok (.iconst 3, 1) := by decide +kernel
theorem dX1_backFor_5 : decode cX1_backFor 5 = .ok (.invokevirtual 98, 3) := by decide +kernel
theorem dX1_backFor_8 : decode cX1_backFor 8 = .ok (.ifCond .eq 31, 3) := by decide +kernel
theorem dX1_backFor_11 : decode cX1_backFor 11 = .ok (.aload_n 0, 1) := by decide +kernel
theorem dX1_backFor_12 : decode cX1_backFor 12 = .ok (.getfield 12, 3) := by decide +kernel
theorem dX1_backFor_15 : decode cX1_backFor 15 = .ok (.iload_n 1, 1) := by decide +kernel
theorem dX1_backFor_16 : decode cX1_backFor 16 = .ok (.invokevirtual 90, 3) := by decide +kernel
theorem dX1_backFor_19 : decode cX1_backFor 19 = .ok (.ifCond .eq 20, 3) := by decide +kernel
theorem dX1_backFor_22 : decode cX1_backFor 22 = .ok (.aload_n 0, 1) := by decide +kernel
theorem dX1_backFor_23 : decode cX1_backFor 23 = .ok (.getfield 12, 3) := by decide +kernel
theorem dX1_backFor_26 : decode cX1_backFor 26 = .ok (.iload_n 1, 1) := by decide +kernel
theorem dX1_backFor_27 : decode cX1_backFor 27 = .ok (.invokevirtual 83, 3) := by decide +kernel
theorem dX1_backFor_30 : decode cX1_backFor 30 = .ok (.bipush (-2), 2) := by decide +kernel
theorem dX1_backFor_32 : decode cX1_backFor 32 = .ok (.if_icmp .eq 7, 3) := by decide +kernel
theorem dX1_backFor_35 : decode cX1_backFor 35 = .ok (.iconst 1, 1) := by decide +kernel
theorem dX1_backFor_36 : decode cX1_backFor 36 = .ok (.goto 4, 3) := by decide +kernel
theorem dX1_backFor_39 : decode cX1_backFor 39 = .ok (.iconst 0, 1) := by decide +kernel
theorem dX1_backFor_40 : decode cX1_backFor 40 = .ok (.istore_n 3, 1) := by decide +kernel
theorem dX1_backFor_41 : decode cX1_backFor 41 = .ok (.iload_n 3, 1) := by decide +kernel
theorem dX1_backFor_42 : decode cX1_backFor 42 = .ok (.ifCond .eq 16, 3) := by decide +kernel
theorem dX1_backFor_45 : decode cX1_backFor 45 = .ok (.aload_n 0, 1) := by decide +kernel
theorem dX1_backFor_46 : decode cX1_backFor 46 = .ok (.getfield 12, 3) := by decide +kernel
theorem dX1_backFor_49 : decode cX1_backFor 49 = .ok (.iload_n 1, 1) := by decide +kernel
theorem dX1_backFor_50 : decode cX1_backFor 50 = .ok (.iconst 1, 1) := by decide +kernel
theorem dX1_backFor_51 : decode cX1_backFor 51 = .ok (.invokevirtual 86, 3) := by decide +kernel
theorem dX1_backFor_54 : decode cX1_backFor 54 = .ok (.iload_n 2, 1) := by decide +kernel
theorem dX1_backFor_55 : decode cX1_backFor 55 = .ok (.if_icmp .ne 5, 3) := by decide +kernel
theorem dX1_backFor_58 : decode cX1_backFor 58 = .ok (.lconst 0, 1) := by decide +kernel
theorem dX1_backFor_59 : decode cX1_backFor 59 = .ok (.lreturn, 1) := by decide +kernel
theorem dX1_backFor_60 : decode cX1_backFor 60 = .ok (.aload_n 0, 1) := by decide +kernel
theorem dX1_backFor_61 : decode cX1_backFor 61 = .ok (.iload_n 2, 1) := by decide +kernel
theorem dX1_backFor_62 : decode cX1_backFor 62 = .ok (.iload_n 1, 1) := by decide +kernel
theorem dX1_backFor_63 : decode cX1_backFor 63 = .ok (.invokevirtual 101, 3) := by decide +kernel
theorem dX1_backFor_66 : decode cX1_backFor 66 = .ok (.aload_n 0, 1) := by decide +kernel
theorem dX1_backFor_67 : decode cX1_backFor 67 = .ok (.iload_n 2, 1) := by decide +kernel
theorem dX1_backFor_68 : decode cX1_backFor 68 = .ok (.aload_n 0, 1) := by decide +kernel
theorem dX1_backFor_69 : decode cX1_backFor 69 = .ok (.getfield 12, 3) := by decide +kernel
theorem dX1_backFor_72 : decode cX1_backFor 72 = .ok (.iload_n 1, 1) := by decide +kernel
theorem dX1_backFor_73 : decode cX1_backFor 73 = .ok (.iconst 2, 1) := by decide +kernel
theorem dX1_backFor_74 : decode cX1_backFor 74 = .ok (.invokevirtual 86, 3) := by decide +kernel
theorem dX1_backFor_77 : decode cX1_backFor 77 = .ok (.i2l, 1) := by decide +kernel
theorem dX1_backFor_78 : decode cX1_backFor 78 = .ok (.invokevirtual 94, 3) := by decide +kernel
theorem dX1_backFor_81 : decode cX1_backFor 81 = .ok (.lsub, 1) := by decide +kernel
theorem dX1_backFor_82 : decode cX1_backFor 82 = .ok (.lreturn, 1) := by decide +kernel
theorem dX1_oweBack_0 : decode cX1_oweBack 0 = .ok (.iconst 0, 1) := by decide +kernel
theorem dX1_oweBack_1 : decode cX1_oweBack 1 = .ok (.istore_n 1, 1) := by decide +kernel
theorem dX1_oweBack_2 : decode cX1_oweBack 2 = .ok (.iload_n 1, 1) := by decide +kernel
theorem dX1_oweBack_3 : decode cX1_oweBack 3 = .ok (.aload_n 0, 1) := by decide +kernel
theorem dX1_oweBack_4 : decode cX1_oweBack 4 = .ok (.getfield 12, 3) := by decide +kernel
theorem dX1_oweBack_7 : decode cX1_oweBack 7 = .ok (.getfield 76, 3) := by decide +kernel
theorem dX1_oweBack_10 : decode cX1_oweBack 10 = .ok (.if_icmp .ge 66, 3) := by decide +kernel
theorem dX1_oweBack_13 : decode cX1_oweBack 13 = .ok (.aload_n 0, 1) := by decide +kernel
theorem dX1_oweBack_14 : decode cX1_oweBack 14 = .ok (.getfield 12, 3) := by decide +kernel
theorem dX1_oweBack_17 : decode cX1_oweBack 17 = .ok (.iload_n 1, 1) := by decide +kernel
theorem dX1_oweBack_18 : decode cX1_oweBack 18 = .ok (.invokevirtual 90, 3) := by decide +kernel
theorem dX1_oweBack_21 : decode cX1_oweBack 21 = .ok (.ifCond .eq 49, 3) := by decide +kernel
theorem dX1_oweBack_24 : decode cX1_oweBack 24 = .ok (.iconst 0, 1) := by decide +kernel
theorem dX1_oweBack_25 : decode cX1_oweBack 25 = .ok (.istore_n 2, 1) := by decide +kernel
theorem dX1_oweBack_26 : decode cX1_oweBack 26 = .ok (.iload_n 2, 1) := by decide +kernel
theorem dX1_oweBack_27 : decode cX1_oweBack 27 = .ok (.aload_n 0, 1) := by decide +kernel
theorem dX1_oweBack_28 : decode cX1_oweBack 28 = .ok (.getfield 12, 3) := by decide +kernel
theorem dX1_oweBack_31 : decode cX1_oweBack 31 = .ok (.getfield 61, 3) := by decide +kernel
theorem dX1_oweBack_34 : decode cX1_oweBack 34 = .ok (.if_icmp .ge 36, 3) := by decide +kernel
theorem dX1_oweBack_37 : decode cX1_oweBack 37 = .ok (.aload_n 0, 1) := by decide +kernel
theorem dX1_oweBack_38 : decode cX1_oweBack 38 = .ok (.getfield 22, 3) := by decide +kernel
theorem dX1_oweBack_41 : decode cX1_oweBack 41 = .ok (.aload_n 0, 1) := by decide +kernel
theorem dX1_oweBack_42 : decode cX1_oweBack 42 = .ok (.getfield 12, 3) := by decide +kernel
theorem dX1_oweBack_45 : decode cX1_oweBack 45 = .ok (.iload_n 1, 1) := by decide +kernel
theorem dX1_oweBack_46 : decode cX1_oweBack 46 = .ok (.iconst 1, 1) := by decide +kernel
theorem dX1_oweBack_47 : decode cX1_oweBack 47 = .ok (.invokevirtual 86, 3) := by decide +kernel
theorem dX1_oweBack_50 : decode cX1_oweBack 50 = .ok (.iconst 4, 1) := by decide +kernel
theorem dX1_oweBack_51 : decode cX1_oweBack 51 = .ok (.imul, 1) := by decide +kernel
theorem dX1_oweBack_52 : decode cX1_oweBack 52 = .ok (.iload_n 2, 1) := by decide +kernel
theorem dX1_oweBack_53 : decode cX1_oweBack 53 = .ok (.iadd, 1) := by decide +kernel
theorem dX1_oweBack_54 : decode cX1_oweBack 54 = .ok (.dup2, 1) := by decide +kernel
theorem dX1_oweBack_55 : decode cX1_oweBack 55 = .ok (.laload, 1) := by decide +kernel
theorem dX1_oweBack_56 : decode cX1_oweBack 56 = .ok (.aload_n 0, 1) := by decide +kernel
theorem dX1_oweBack_57 : decode cX1_oweBack 57 = .ok (.iload_n 1, 1) := by decide +kernel
theorem dX1_oweBack_58 : decode cX1_oweBack 58 = .ok (.iload_n 2, 1) := by decide +kernel
theorem dX1_oweBack_59 : decode cX1_oweBack 59 = .ok (.invokevirtual 104, 3) := by decide +kernel
theorem dX1_oweBack_62 : decode cX1_oweBack 62 = .ok (.ladd, 1) := by decide +kernel
theorem dX1_oweBack_63 : decode cX1_oweBack 63 = .ok (.lastore, 1) := by decide +kernel
theorem dX1_oweBack_64 : decode cX1_oweBack 64 = .ok (.iinc 2 1, 3) := by decide +kernel
theorem dX1_oweBack_67 : decode cX1_oweBack 67 = .ok (.goto (-41), 3) := by decide +kernel
theorem dX1_oweBack_70 : decode cX1_oweBack 70 = .ok (.iinc 1 1, 3) := by decide +kernel
theorem dX1_oweBack_73 : decode cX1_oweBack 73 = .ok (.goto (-71), 3) := by decide +kernel
theorem dX1_oweBack_76 : decode cX1_oweBack 76 = .ok (.return_, 1) := by decide +kernel
theorem dX1_oweShips_0 : decode cX1_oweShips 0 = .ok (.iconst 0, 1) := by decide +kernel
theorem dX1_oweShips_1 : decode cX1_oweShips 1 = .ok (.istore_n 1, 1) := by decide +kernel
theorem dX1_oweShips_2 : decode cX1_oweShips 2 = .ok (.iload_n 1, 1) := by decide +kernel
theorem dX1_oweShips_3 : decode cX1_oweShips 3 = .ok (.aload_n 0, 1) := by decide +kernel
theorem dX1_oweShips_4 : decode cX1_oweShips 4 = .ok (.getfield 12, 3) := by decide +kernel
theorem dX1_oweShips_7 : decode cX1_oweShips 7 = .ok (.getfield 61, 3) := by decide +kernel
theorem dX1_oweShips_10 : decode cX1_oweShips 10 = .ok (.if_icmp .ge 82, 3) := by decide +kernel
theorem dX1_oweShips_13 : decode cX1_oweShips 13 = .ok (.iconst 0, 1) := by decide +kernel
theorem dX1_oweShips_14 : decode cX1_oweShips 14 = .ok (.istore_n 2, 1) := by decide +kernel
theorem dX1_oweShips_15 : decode cX1_oweShips 15 = .ok (.iload_n 2, 1) := by decide +kernel
theorem dX1_oweShips_16 : decode cX1_oweShips 16 = .ok (.aload_n 0, 1) := by decide +kernel
theorem dX1_oweShips_17 : decode cX1_oweShips 17 = .ok (.getfield 12, 3) := by decide +kernel
theorem dX1_oweShips_20 : decode cX1_oweShips 20 = .ok (.getfield 61, 3) := by decide +kernel
theorem dX1_oweShips_23 : decode cX1_oweShips 23 = .ok (.if_icmp .ge 63, 3) := by decide +kernel
theorem dX1_oweShips_26 : decode cX1_oweShips 26 = .ok (.iload_n 1, 1) := by decide +kernel
theorem dX1_oweShips_27 : decode cX1_oweShips 27 = .ok (.iload_n 2, 1) := by decide +kernel
theorem dX1_oweShips_28 : decode cX1_oweShips 28 = .ok (.if_icmp .eq 52, 3) := by decide +kernel
theorem dX1_oweShips_31 : decode cX1_oweShips 31 = .ok (.aload_n 0, 1) := by decide +kernel
theorem dX1_oweShips_32 : decode cX1_oweShips 32 = .ok (.iload_n 1, 1) := by decide +kernel
theorem dX1_oweShips_33 : decode cX1_oweShips 33 = .ok (.iload_n 2, 1) := by decide +kernel
theorem dX1_oweShips_34 : decode cX1_oweShips 34 = .ok (.invokevirtual 107, 3) := by decide +kernel
theorem dX1_oweShips_37 : decode cX1_oweShips 37 = .ok (.lstore_n 3, 1) := by decide +kernel
theorem dX1_oweShips_38 : decode cX1_oweShips 38 = .ok (.aload_n 0, 1) := by decide +kernel
theorem dX1_oweShips_39 : decode cX1_oweShips 39 = .ok (.getfield 12, 3) := by decide +kernel
theorem dX1_oweShips_42 : decode cX1_oweShips 42 = .ok (.iconst 4, 1) := by decide +kernel
theorem dX1_oweShips_43 : decode cX1_oweShips 43 = .ok (.invokevirtual 98, 3) := by decide +kernel
theorem dX1_oweShips_46 : decode cX1_oweShips 46 = .ok (.ifCond .eq 7, 3) := by decide +kernel
theorem dX1_oweShips_49 : decode cX1_oweShips 49 = .ok (.lconst 0, 1) := by decide +kernel
theorem dX1_oweShips_50 : decode cX1_oweShips 50 = .ok (.goto 13, 3) := by decide +kernel
theorem dX1_oweShips_53 : decode cX1_oweShips 53 = .ok (.lload_n 3, 1) := by decide +kernel
theorem dX1_oweShips_54 : decode cX1_oweShips 54 = .ok (.aload_n 0, 1) := by decide +kernel
theorem dX1_oweShips_55 : decode cX1_oweShips 55 = .ok (.iload_n 2, 1) := by decide +kernel
theorem dX1_oweShips_56 : decode cX1_oweShips 56 = .ok (.iload_n 1, 1) := by decide +kernel
theorem dX1_oweShips_57 : decode cX1_oweShips 57 = .ok (.invokevirtual 107, 3) := by decide +kernel
theorem dX1_oweShips_60 : decode cX1_oweShips 60 = .ok (.invokestatic 110, 3) := by decide +kernel
theorem dX1_oweShips_63 : decode cX1_oweShips 63 = .ok (.lstore 5, 2) := by decide +kernel
theorem dX1_oweShips_65 : decode cX1_oweShips 65 = .ok (.aload_n 0, 1) := by decide +kernel
theorem dX1_oweShips_66 : decode cX1_oweShips 66 = .ok (.getfield 26, 3) := by decide +kernel
theorem dX1_oweShips_69 : decode cX1_oweShips 69 = .ok (.iload_n 1, 1) := by decide +kernel
theorem dX1_oweShips_70 : decode cX1_oweShips 70 = .ok (.bipush 16, 2) := by decide +kernel
theorem dX1_oweShips_72 : decode cX1_oweShips 72 = .ok (.imul, 1) := by decide +kernel
theorem dX1_oweShips_73 : decode cX1_oweShips 73 = .ok (.iload_n 2, 1) := by decide +kernel
theorem dX1_oweShips_74 : decode cX1_oweShips 74 = .ok (.iadd, 1) := by decide +kernel
theorem dX1_oweShips_75 : decode cX1_oweShips 75 = .ok (.lload_n 3, 1) := by decide +kernel
theorem dX1_oweShips_76 : decode cX1_oweShips 76 = .ok (.lload 5, 2) := by decide +kernel
theorem dX1_oweShips_78 : decode cX1_oweShips 78 = .ok (.lsub, 1) := by decide +kernel
theorem dX1_oweShips_79 : decode cX1_oweShips 79 = .ok (.lastore, 1) := by decide +kernel
theorem dX1_oweShips_80 : decode cX1_oweShips 80 = .ok (.iinc 2 1, 3) := by decide +kernel
theorem dX1_oweShips_83 : decode cX1_oweShips 83 = .ok (.goto (-68), 3) := by decide +kernel
theorem dX1_oweShips_86 : decode cX1_oweShips 86 = .ok (.iinc 1 1, 3) := by decide +kernel
theorem dX1_oweShips_89 : decode cX1_oweShips 89 = .ok (.goto (-87), 3) := by decide +kernel
theorem dX1_oweShips_92 : decode cX1_oweShips 92 = .ok (.return_, 1) := by decide +kernel
theorem dX1_hullDebt_0 : decode cX1_hullDebt 0 = .ok (.aload_n 0, 1) := by decide +kernel
theorem dX1_hullDebt_1 : decode cX1_hullDebt 1 = .ok (.iload_n 1, 1) := by decide +kernel
theorem dX1_hullDebt_2 : decode cX1_hullDebt 2 = .ok (.aload_n 0, 1) := by decide +kernel
theorem dX1_hullDebt_3 : decode cX1_hullDebt 3 = .ok (.getfield 12, 3) := by decide +kernel
theorem dX1_hullDebt_6 : decode cX1_hullDebt 6 = .ok (.iload_n 2, 1) := by decide +kernel
theorem dX1_hullDebt_7 : decode cX1_hullDebt 7 = .ok (.iconst 2, 1) := by decide +kernel
theorem dX1_hullDebt_8 : decode cX1_hullDebt 8 = .ok (.invokevirtual 115, 3) := by decide +kernel
theorem dX1_hullDebt_11 : decode cX1_hullDebt 11 = .ok (.i2l, 1) := by decide +kernel
theorem dX1_hullDebt_12 : decode cX1_hullDebt 12 = .ok (.invokevirtual 94, 3) := by decide +kernel
theorem dX1_hullDebt_15 : decode cX1_hullDebt 15 = .ok (.lreturn, 1) := by decide +kernel
theorem dX1_backTo_0 : decode cX1_backTo 0 = .ok (.aload_n 0, 1) := by decide +kernel
theorem dX1_backTo_1 : decode cX1_backTo 1 = .ok (.getfield 22, 3) := by decide +kernel
theorem dX1_backTo_4 : decode cX1_backTo 4 = .ok (.iload_n 1, 1) := by decide +kernel
theorem dX1_backTo_5 : decode cX1_backTo 5 = .ok (.iconst 4, 1) := by decide +kernel
theorem dX1_backTo_6 : decode cX1_backTo 6 = .ok (.imul, 1) := by decide +kernel
theorem dX1_backTo_7 : decode cX1_backTo 7 = .ok (.iload_n 2, 1) := by decide +kernel
theorem dX1_backTo_8 : decode cX1_backTo 8 = .ok (.iadd, 1) := by decide +kernel
theorem dX1_backTo_9 : decode cX1_backTo 9 = .ok (.laload, 1) := by decide +kernel
theorem dX1_backTo_10 : decode cX1_backTo 10 = .ok (.lreturn, 1) := by decide +kernel
theorem dX1_crossDebt_0 : decode cX1_crossDebt 0 = .ok (.aload_n 0, 1) := by decide +kernel
theorem dX1_crossDebt_1 : decode cX1_crossDebt 1 = .ok (.iload_n 1, 1) := by decide +kernel
theorem dX1_crossDebt_2 : decode cX1_crossDebt 2 = .ok (.iload_n 2, 1) := by decide +kernel
theorem dX1_crossDebt_3 : decode cX1_crossDebt 3 = .ok (.invokevirtual 118, 3) := by decide +kernel
theorem dX1_crossDebt_6 : decode cX1_crossDebt 6 = .ok (.aload_n 0, 1) := by decide +kernel
theorem dX1_crossDebt_7 : decode cX1_crossDebt 7 = .ok (.iload_n 1, 1) := by decide +kernel
theorem dX1_crossDebt_8 : decode cX1_crossDebt 8 = .ok (.iload_n 2, 1) := by decide +kernel
theorem dX1_crossDebt_9 : decode cX1_crossDebt 9 = .ok (.invokevirtual 121, 3) := by decide +kernel
theorem dX1_crossDebt_12 : decode cX1_crossDebt 12 = .ok (.ladd, 1) := by decide +kernel
theorem dX1_crossDebt_13 : decode cX1_crossDebt 13 = .ok (.lreturn, 1) := by decide +kernel
theorem dX1_backForClaim_0 : decode cX1_backForClaim 0 = .ok (.lconst 0, 1) := by decide +kernel
theorem dX1_backForClaim_1 : decode cX1_backForClaim 1 = .ok (.lstore_n 2, 1) := by decide +kernel
theorem dX1_backForClaim_2 : decode cX1_backForClaim 2 = .ok (.iconst 0, 1) := by decide +kernel
theorem dX1_backForClaim_3 : decode cX1_backForClaim 3 = .ok (.istore 4, 2) := by decide +kernel
theorem dX1_backForClaim_5 : decode cX1_backForClaim 5 = .ok (.iload 4, 2) := by decide +kernel
theorem dX1_backForClaim_7 : decode cX1_backForClaim 7 = .ok (.aload_n 0, 1) := by decide +kernel
theorem dX1_backForClaim_8 : decode cX1_backForClaim 8 = .ok (.getfield 12, 3) := by decide +kernel
theorem dX1_backForClaim_11 : decode cX1_backForClaim 11 = .ok (.getfield 61, 3) := by decide +kernel
theorem dX1_backForClaim_14 : decode cX1_backForClaim 14 = .ok (.if_icmp .ge 19, 3) := by decide +kernel
theorem dX1_backForClaim_17 : decode cX1_backForClaim 17 = .ok (.lload_n 2, 1) := by decide +kernel
theorem dX1_backForClaim_18 : decode cX1_backForClaim 18 = .ok (.aload_n 0, 1) := by decide +kernel
theorem dX1_backForClaim_19 : decode cX1_backForClaim 19 = .ok (.iload_n 1, 1) := by decide +kernel
theorem dX1_backForClaim_20 : decode cX1_backForClaim 20 = .ok (.iload 4, 2) := by decide +kernel
theorem dX1_backForClaim_22 : decode cX1_backForClaim 22 = .ok (.invokevirtual 104, 3) := by decide +kernel
theorem dX1_backForClaim_25 : decode cX1_backForClaim 25 = .ok (.ladd, 1) := by decide +kernel
theorem dX1_backForClaim_26 : decode cX1_backForClaim 26 = .ok (.lstore_n 2, 1) := by decide +kernel
theorem dX1_backForClaim_27 : decode cX1_backForClaim 27 = .ok (.iinc 4 1, 3) := by decide +kernel
theorem dX1_backForClaim_30 : decode cX1_backForClaim 30 = .ok (.goto (-25), 3) := by decide +kernel
theorem dX1_backForClaim_33 : decode cX1_backForClaim 33 = .ok (.lload_n 2, 1) := by decide +kernel
theorem dX1_backForClaim_34 : decode cX1_backForClaim 34 = .ok (.lreturn, 1) := by decide +kernel
theorem dX1_pay_0 : decode cX1_pay 0 = .ok (.aload_n 0, 1) := by decide +kernel
theorem dX1_pay_1 : decode cX1_pay 1 = .ok (.getfield 12, 3) := by decide +kernel
theorem dX1_pay_4 : decode cX1_pay 4 = .ok (.iload_n 1, 1) := by decide +kernel
theorem dX1_pay_5 : decode cX1_pay 5 = .ok (.iconst 5, 1) := by decide +kernel
theorem dX1_pay_6 : decode cX1_pay 6 = .ok (.invokevirtual 115, 3) := by decide +kernel
theorem dX1_pay_9 : decode cX1_pay 9 = .ok (.iconst 1, 1) := by decide +kernel
theorem dX1_pay_10 : decode cX1_pay 10 = .ok (.if_icmp .ne 25, 3) := by decide +kernel
theorem dX1_pay_13 : decode cX1_pay 13 = .ok (.aload_n 0, 1) := by decide +kernel
theorem dX1_pay_14 : decode cX1_pay 14 = .ok (.getfield 26, 3) := by decide +kernel
theorem dX1_pay_17 : decode cX1_pay 17 = .ok (.iload_n 1, 1) := by decide +kernel
theorem dX1_pay_18 : decode cX1_pay 18 = .ok (.bipush 16, 2) := by decide +kernel
theorem dX1_pay_20 : decode cX1_pay 20 = .ok (.imul, 1) := by decide +kernel
theorem dX1_pay_21 : decode cX1_pay 21 = .ok (.aload_n 0, 1) := by decide +kernel
theorem dX1_pay_22 : decode cX1_pay 22 = .ok (.getfield 29, 3) := by decide +kernel
theorem dX1_pay_25 : decode cX1_pay 25 = .ok (.iload_n 1, 1) := by decide +kernel
theorem dX1_pay_26 : decode cX1_pay 26 = .ok (.bipush 16, 2) := by decide +kernel
theorem dX1_pay_28 : decode cX1_pay 28 = .ok (.imul, 1) := by decide +kernel
theorem dX1_pay_29 : decode cX1_pay 29 = .ok (.bipush 16, 2) := by decide +kernel
theorem dX1_pay_31 : decode cX1_pay 31 = .ok (.invokestatic 124, 3) := by decide +kernel
theorem dX1_pay_34 : decode cX1_pay 34 = .ok (.return_, 1) := by decide +kernel
theorem dX1_pay_35 : decode cX1_pay 35 = .ok (.aload_n 0, 1) := by decide +kernel
theorem dX1_pay_36 : decode cX1_pay 36 = .ok (.iload_n 1, 1) := by decide +kernel
theorem dX1_pay_37 : decode cX1_pay 37 = .ok (.bipush 6, 2) := by decide +kernel
theorem dX1_pay_39 : decode cX1_pay 39 = .ok (.invokevirtual 130, 3) := by decide +kernel
theorem dX1_pay_42 : decode cX1_pay 42 = .ok (.aload_n 0, 1) := by decide +kernel
theorem dX1_pay_43 : decode cX1_pay 43 = .ok (.iload_n 1, 1) := by decide +kernel
theorem dX1_pay_44 : decode cX1_pay 44 = .ok (.iconst 5, 1) := by decide +kernel
theorem dX1_pay_45 : decode cX1_pay 45 = .ok (.invokevirtual 130, 3) := by decide +kernel
theorem dX1_pay_48 : decode cX1_pay 48 = .ok (.return_, 1) := by decide +kernel
theorem dX1_payOutOf_0 : decode cX1_payOutOf 0 = .ok (.aload_n 0, 1) := by decide +kernel
theorem dX1_payOutOf_1 : decode cX1_payOutOf 1 = .ok (.getfield 12, 3) := by decide +kernel
theorem dX1_payOutOf_4 : decode cX1_payOutOf 4 = .ok (.iload_n 1, 1) := by decide +kernel
theorem dX1_payOutOf_5 : decode cX1_payOutOf 5 = .ok (.iload_n 2, 1) := by decide +kernel
theorem dX1_payOutOf_6 : decode cX1_payOutOf 6 = .ok (.invokevirtual 134, 3) := by decide +kernel
theorem dX1_payOutOf_9 : decode cX1_payOutOf 9 = .ok (.lstore_n 3, 1) := by decide +kernel
theorem dX1_payOutOf_10 : decode cX1_payOutOf 10 = .ok (.iconst 0, 1) := by decide +kernel
theorem dX1_payOutOf_11 : decode cX1_payOutOf 11 = .ok (.istore 5, 2) := by decide +kernel
theorem dX1_payOutOf_13 : decode cX1_payOutOf 13 = .ok (.iload 5, 2) := by decide +kernel
theorem dX1_payOutOf_15 : decode cX1_payOutOf 15 = .ok (.iconst 1, 1) := by decide +kernel
theorem dX1_payOutOf_16 : decode cX1_payOutOf 16 = .ok (.if_icmp .gt 49, 3) := by decide +kernel
theorem dX1_payOutOf_19 : decode cX1_payOutOf 19 = .ok (.aload_n 0, 1) := by decide +kernel
theorem dX1_payOutOf_20 : decode cX1_payOutOf 20 = .ok (.iload_n 1, 1) := by decide +kernel
theorem dX1_payOutOf_21 : decode cX1_payOutOf 21 = .ok (.iload_n 2, 1) := by decide +kernel
theorem dX1_payOutOf_22 : decode cX1_payOutOf 22 = .ok (.iload 5, 2) := by decide +kernel
theorem dX1_payOutOf_24 : decode cX1_payOutOf 24 = .ok (.invokevirtual 137, 3) := by decide +kernel
theorem dX1_payOutOf_27 : decode cX1_payOutOf 27 = .ok (.lstore 6, 2) := by decide +kernel
theorem dX1_payOutOf_29 : decode cX1_payOutOf 29 = .ok (.lload 6, 2) := by decide +kernel
theorem dX1_payOutOf_31 : decode cX1_payOutOf 31 = .ok (.lload_n 3, 1) := by decide +kernel
theorem dX1_payOutOf_32 : decode cX1_payOutOf 32 = .ok (.lcmp, 1) := by decide +kernel
theorem dX1_payOutOf_33 : decode cX1_payOutOf 33 = .ok (.ifCond .le 16, 3) := by decide +kernel
theorem dX1_payOutOf_36 : decode cX1_payOutOf 36 = .ok (.aload_n 0, 1) := by decide +kernel
theorem dX1_payOutOf_37 : decode cX1_payOutOf 37 = .ok (.iload_n 1, 1) := by decide +kernel
theorem dX1_payOutOf_38 : decode cX1_payOutOf 38 = .ok (.lload_n 3, 1) := by decide +kernel
theorem dX1_payOutOf_39 : decode cX1_payOutOf 39 = .ok (.lload 6, 2) := by decide +kernel
theorem dX1_payOutOf_41 : decode cX1_payOutOf 41 = .ok (.invokevirtual 141, 3) := by decide +kernel
theorem dX1_payOutOf_44 : decode cX1_payOutOf 44 = .ok (.lconst 0, 1) := by decide +kernel
theorem dX1_payOutOf_45 : decode cX1_payOutOf 45 = .ok (.lstore_n 3, 1) := by decide +kernel
theorem dX1_payOutOf_46 : decode cX1_payOutOf 46 = .ok (.goto 13, 3) := by decide +kernel
theorem dX1_payOutOf_49 : decode cX1_payOutOf 49 = .ok (.aload_n 0, 1) := by decide +kernel
theorem dX1_payOutOf_50 : decode cX1_payOutOf 50 = .ok (.iload_n 1, 1) := by decide +kernel
theorem dX1_payOutOf_51 : decode cX1_payOutOf 51 = .ok (.invokevirtual 145, 3) := by decide +kernel
theorem dX1_payOutOf_54 : decode cX1_payOutOf 54 = .ok (.lload_n 3, 1) := by decide +kernel
theorem dX1_payOutOf_55 : decode cX1_payOutOf 55 = .ok (.lload 6, 2) := by decide +kernel
theorem dX1_payOutOf_57 : decode cX1_payOutOf 57 = .ok (.lsub, 1) := by decide +kernel
theorem dX1_payOutOf_58 : decode cX1_payOutOf 58 = .ok (.lstore_n 3, 1) := by decide +kernel
theorem dX1_payOutOf_59 : decode cX1_payOutOf 59 = .ok (.iinc 5 1, 3) := by decide +kernel
theorem dX1_payOutOf_62 : decode cX1_payOutOf 62 = .ok (.goto (-49), 3) := by decide +kernel
theorem dX1_payOutOf_65 : decode cX1_payOutOf 65 = .ok (.return_, 1) := by decide +kernel
theorem dX1_findLacks_0 : decode cX1_findLacks 0 = .ok (.lconst 0, 1) := by decide +kernel
theorem dX1_findLacks_1 : decode cX1_findLacks 1 = .ok (.lstore 4, 2) := by decide +kernel
theorem dX1_findLacks_3 : decode cX1_findLacks 3 = .ok (.iconst 0, 1) := by decide +kernel
theorem dX1_findLacks_4 : decode cX1_findLacks 4 = .ok (.istore 6, 2) := by decide +kernel
theorem dX1_findLacks_6 : decode cX1_findLacks 6 = .ok (.iload 6, 2) := by decide +kernel
theorem dX1_findLacks_8 : decode cX1_findLacks 8 = .ok (.bipush 16, 2) := by decide +kernel
theorem dX1_findLacks_10 : decode cX1_findLacks 10 = .ok (.if_icmp .ge 72, 3) := by decide +kernel
theorem dX1_findLacks_13 : decode cX1_findLacks 13 = .ok (.aload_n 0, 1) := by decide +kernel
theorem dX1_findLacks_14 : decode cX1_findLacks 14 = .ok (.getfield 32, 3) := by decide +kernel
theorem dX1_findLacks_17 : decode cX1_findLacks 17 = .ok (.iload 6, 2) := by decide +kernel
theorem dX1_findLacks_19 : decode cX1_findLacks 19 = .ok (.lconst 0, 1) := by decide +kernel
theorem dX1_findLacks_20 : decode cX1_findLacks 20 = .ok (.lastore, 1) := by decide +kernel
theorem dX1_findLacks_21 : decode cX1_findLacks 21 = .ok (.aload_n 0, 1) := by decide +kernel
theorem dX1_findLacks_22 : decode cX1_findLacks 22 = .ok (.iload 6, 2) := by decide +kernel
theorem dX1_findLacks_24 : decode cX1_findLacks 24 = .ok (.iload_n 2, 1) := by decide +kernel
theorem dX1_findLacks_25 : decode cX1_findLacks 25 = .ok (.iload_n 3, 1) := by decide +kernel
theorem dX1_findLacks_26 : decode cX1_findLacks 26 = .ok (.invokevirtual 148, 3) := by decide +kernel
theorem dX1_findLacks_29 : decode cX1_findLacks 29 = .ok (.ifCond .eq 47, 3) := by decide +kernel
theorem dX1_findLacks_32 : decode cX1_findLacks 32 = .ok (.aload_n 0, 1) := by decide +kernel
theorem dX1_findLacks_33 : decode cX1_findLacks 33 = .ok (.getfield 32, 3) := by decide +kernel
theorem dX1_findLacks_36 : decode cX1_findLacks 36 = .ok (.iload 6, 2) := by decide +kernel
theorem dX1_findLacks_38 : decode cX1_findLacks 38 = .ok (.aload_n 0, 1) := by decide +kernel
theorem dX1_findLacks_39 : decode cX1_findLacks 39 = .ok (.getfield 26, 3) := by decide +kernel
theorem dX1_findLacks_42 : decode cX1_findLacks 42 = .ok (.iload_n 1, 1) := by decide +kernel
theorem dX1_findLacks_43 : decode cX1_findLacks 43 = .ok (.bipush 16, 2) := by decide +kernel
theorem dX1_findLacks_45 : decode cX1_findLacks 45 = .ok (.imul, 1) := by decide +kernel
theorem dX1_findLacks_46 : decode cX1_findLacks 46 = .ok (.iload 6, 2) := by decide +kernel
theorem dX1_findLacks_48 : decode cX1_findLacks 48 = .ok (.iadd, 1) := by decide +kernel
theorem dX1_findLacks_49 : decode cX1_findLacks 49 = .ok (.laload, 1) := by decide +kernel
theorem dX1_findLacks_50 : decode cX1_findLacks 50 = .ok (.aload_n 0, 1) := by decide +kernel
theorem dX1_findLacks_51 : decode cX1_findLacks 51 = .ok (.getfield 29, 3) := by decide +kernel
theorem dX1_findLacks_54 : decode cX1_findLacks 54 = .ok (.iload_n 1, 1) := by decide +kernel
theorem dX1_findLacks_55 : decode cX1_findLacks 55 = .ok (.bipush 16, 2) := by decide +kernel
theorem dX1_findLacks_57 : decode cX1_findLacks 57 = .ok (.imul, 1) := by decide +kernel
theorem dX1_findLacks_58 : decode cX1_findLacks 58 = .ok (.iload 6, 2) := by decide +kernel
theorem dX1_findLacks_60 : decode cX1_findLacks 60 = .ok (.iadd, 1) := by decide +kernel
theorem dX1_findLacks_61 : decode cX1_findLacks 61 = .ok (.laload, 1) := by decide +kernel
theorem dX1_findLacks_62 : decode cX1_findLacks 62 = .ok (.lsub, 1) := by decide +kernel
theorem dX1_findLacks_63 : decode cX1_findLacks 63 = .ok (.lastore, 1) := by decide +kernel
theorem dX1_findLacks_64 : decode cX1_findLacks 64 = .ok (.lload 4, 2) := by decide +kernel
theorem dX1_findLacks_66 : decode cX1_findLacks 66 = .ok (.aload_n 0, 1) := by decide +kernel
theorem dX1_findLacks_67 : decode cX1_findLacks 67 = .ok (.getfield 32, 3) := by decide +kernel
theorem dX1_findLacks_70 : decode cX1_findLacks 70 = .ok (.iload 6, 2) := by decide +kernel
theorem dX1_findLacks_72 : decode cX1_findLacks 72 = .ok (.laload, 1) := by decide +kernel
theorem dX1_findLacks_73 : decode cX1_findLacks 73 = .ok (.ladd, 1) := by decide +kernel
theorem dX1_findLacks_74 : decode cX1_findLacks 74 = .ok (.lstore 4, 2) := by decide +kernel
theorem dX1_findLacks_76 : decode cX1_findLacks 76 = .ok (.iinc 6 1, 3) := by decide +kernel
theorem dX1_findLacks_79 : decode cX1_findLacks 79 = .ok (.goto (-73), 3) := by decide +kernel
theorem dX1_findLacks_82 : decode cX1_findLacks 82 = .ok (.lload 4, 2) := by decide +kernel
theorem dX1_findLacks_84 : decode cX1_findLacks 84 = .ok (.lreturn, 1) := by decide +kernel
theorem dX1_takesPart_0 : decode cX1_takesPart 0 = .ok (.iload_n 1, 1) := by decide +kernel
theorem dX1_takesPart_1 : decode cX1_takesPart 1 = .ok (.iconst 4, 1) := by decide +kernel
theorem dX1_takesPart_2 : decode cX1_takesPart 2 = .ok (.if_icmp .ge 29, 3) := by decide +kernel
theorem dX1_takesPart_5 : decode cX1_takesPart 5 = .ok (.iload_n 1, 1) := by decide +kernel
theorem dX1_takesPart_6 : decode cX1_takesPart 6 = .ok (.aload_n 0, 1) := by decide +kernel
theorem dX1_takesPart_7 : decode cX1_takesPart 7 = .ok (.getfield 12, 3) := by decide +kernel
theorem dX1_takesPart_10 : decode cX1_takesPart 10 = .ok (.getfield 61, 3) := by decide +kernel
theorem dX1_takesPart_13 : decode cX1_takesPart 13 = .ok (.if_icmp .ge 16, 3) := by decide +kernel
theorem dX1_takesPart_16 : decode cX1_takesPart 16 = .ok (.iload_n 2, 1) := by decide +kernel
theorem dX1_takesPart_17 : decode cX1_takesPart 17 = .ok (.iconst 5, 1) := by decide +kernel
theorem dX1_takesPart_18 : decode cX1_takesPart 18 = .ok (.if_icmp .ne 11, 3) := by decide +kernel
theorem dX1_takesPart_21 : decode cX1_takesPart 21 = .ok (.iload_n 3, 1) := by decide +kernel
theorem dX1_takesPart_22 : decode cX1_takesPart 22 = .ok (.ifCond .ne 7, 3) := by decide +kernel
theorem dX1_takesPart_25 : decode cX1_takesPart 25 = .ok (.iconst 1, 1) := by decide +kernel
theorem dX1_takesPart_26 : decode cX1_takesPart 26 = .ok (.goto 4, 3) := by decide +kernel
theorem dX1_takesPart_29 : decode cX1_takesPart 29 = .ok (.iconst 0, 1) := by decide +kernel
theorem dX1_takesPart_30 : decode cX1_takesPart 30 = .ok (.ireturn, 1) := by decide +kernel
theorem dX1_takesPart_31 : decode cX1_takesPart 31 = .ok (.iload_n 1, 1) := by decide +kernel
theorem dX1_takesPart_32 : decode cX1_takesPart 32 = .ok (.iconst 4, 1) := by decide +kernel
theorem dX1_takesPart_33 : decode cX1_takesPart 33 = .ok (.isub, 1) := by decide +kernel
theorem dX1_takesPart_34 : decode cX1_takesPart 34 = .ok (.istore 4, 2) := by decide +kernel
theorem dX1_takesPart_36 : decode cX1_takesPart 36 = .ok (.iload 4, 2) := by decide +kernel
theorem dX1_takesPart_38 : decode cX1_takesPart 38 = .ok (.aload_n 0, 1) := by decide +kernel
theorem dX1_takesPart_39 : decode cX1_takesPart 39 = .ok (.getfield 12, 3) := by decide +kernel
theorem dX1_takesPart_42 : decode cX1_takesPart 42 = .ok (.getfield 76, 3) := by decide +kernel
theorem dX1_takesPart_45 : decode cX1_takesPart 45 = .ok (.if_icmp .ge 16, 3) := by decide +kernel
theorem dX1_takesPart_48 : decode cX1_takesPart 48 = .ok (.aload_n 0, 1) := by decide +kernel
theorem dX1_takesPart_49 : decode cX1_takesPart 49 = .ok (.getfield 12, 3) := by decide +kernel
theorem dX1_takesPart_52 : decode cX1_takesPart 52 = .ok (.iload 4, 2) := by decide +kernel
theorem dX1_takesPart_54 : decode cX1_takesPart 54 = .ok (.invokevirtual 83, 3) := by decide +kernel
theorem dX1_takesPart_57 : decode cX1_takesPart 57 = .ok (.iload_n 3, 1) := by decide +kernel
theorem dX1_takesPart_58 : decode cX1_takesPart 58 = .ok (.if_icmp .eq 5, 3) := by decide +kernel
theorem dX1_takesPart_61 : decode cX1_takesPart 61 = .ok (.iconst 0, 1) := by decide +kernel
theorem dX1_takesPart_62 : decode cX1_takesPart 62 = .ok (.ireturn, 1) := by decide +kernel
theorem dX1_takesPart_63 : decode cX1_takesPart 63 = .ok (.iload_n 2, 1) := by decide +kernel
theorem dX1_takesPart_64 : decode cX1_takesPart 64 = .ok (.iconst 5, 1) := by decide +kernel
theorem dX1_takesPart_65 : decode cX1_takesPart 65 = .ok (.if_icmp .eq 17, 3) := by decide +kernel
theorem dX1_takesPart_68 : decode cX1_takesPart 68 = .ok (.aload_n 0, 1) := by decide +kernel
theorem dX1_takesPart_69 : decode cX1_takesPart 69 = .ok (.getfield 12, 3) := by decide +kernel
theorem dX1_takesPart_72 : decode cX1_takesPart 72 = .ok (.iload 4, 2) := by decide +kernel
theorem dX1_takesPart_74 : decode cX1_takesPart 74 = .ok (.iconst 0, 1) := by decide +kernel
theorem dX1_takesPart_75 : decode cX1_takesPart 75 = .ok (.invokevirtual 86, 3) := by decide +kernel
theorem dX1_takesPart_78 : decode cX1_takesPart 78 = .ok (.iconst 1, 1) := by decide +kernel
theorem dX1_takesPart_79 : decode cX1_takesPart 79 = .ok (.if_icmp .ne 7, 3) := by decide +kernel
theorem dX1_takesPart_82 : decode cX1_takesPart 82 = .ok (.iconst 1, 1) := by decide +kernel
theorem dX1_takesPart_83 : decode cX1_takesPart 83 = .ok (.goto 4, 3) := by decide +kernel
theorem dX1_takesPart_86 : decode cX1_takesPart 86 = .ok (.iconst 0, 1) := by decide +kernel
theorem dX1_takesPart_87 : decode cX1_takesPart 87 = .ok (.ireturn, 1) := by decide +kernel
theorem dX1_payLacks_0 : decode cX1_payLacks 0 = .ok (.iconst 0, 1) := by decide +kernel
theorem dX1_payLacks_1 : decode cX1_payLacks 1 = .ok (.istore_n 2, 1) := by decide +kernel
theorem dX1_payLacks_2 : decode cX1_payLacks 2 = .ok (.iload_n 2, 1) := by decide +kernel
theorem dX1_payLacks_3 : decode cX1_payLacks 3 = .ok (.bipush 16, 2) := by decide +kernel
theorem dX1_payLacks_5 : decode cX1_payLacks 5 = .ok (.if_icmp .ge 29, 3) := by decide +kernel
theorem dX1_payLacks_8 : decode cX1_payLacks 8 = .ok (.aload_n 0, 1) := by decide +kernel
theorem dX1_payLacks_9 : decode cX1_payLacks 9 = .ok (.getfield 29, 3) := by decide +kernel
theorem dX1_payLacks_12 : decode cX1_payLacks 12 = .ok (.iload_n 1, 1) := by decide +kernel
theorem dX1_payLacks_13 : decode cX1_payLacks 13 = .ok (.bipush 16, 2) := by decide +kernel
theorem dX1_payLacks_15 : decode cX1_payLacks 15 = .ok (.imul, 1) := by decide +kernel
theorem dX1_payLacks_16 : decode cX1_payLacks 16 = .ok (.iload_n 2, 1) := by decide +kernel
theorem dX1_payLacks_17 : decode cX1_payLacks 17 = .ok (.iadd, 1) := by decide +kernel
theorem dX1_payLacks_18 : decode cX1_payLacks 18 = .ok (.dup2, 1) := by decide +kernel
theorem dX1_payLacks_19 : decode cX1_payLacks 19 = .ok (.laload, 1) := by decide +kernel
theorem dX1_payLacks_20 : decode cX1_payLacks 20 = .ok (.aload_n 0, 1) := by decide +kernel
theorem dX1_payLacks_21 : decode cX1_payLacks 21 = .ok (.getfield 32, 3) := by decide +kernel
theorem dX1_payLacks_24 : decode cX1_payLacks 24 = .ok (.iload_n 2, 1) := by decide +kernel
theorem dX1_payLacks_25 : decode cX1_payLacks 25 = .ok (.laload, 1) := by decide +kernel
theorem dX1_payLacks_26 : decode cX1_payLacks 26 = .ok (.ladd, 1) := by decide +kernel
theorem dX1_payLacks_27 : decode cX1_payLacks 27 = .ok (.lastore, 1) := by decide +kernel
theorem dX1_payLacks_28 : decode cX1_payLacks 28 = .ok (.iinc 2 1, 3) := by decide +kernel
theorem dX1_payLacks_31 : decode cX1_payLacks 31 = .ok (.goto (-29), 3) := by decide +kernel
theorem dX1_payLacks_34 : decode cX1_payLacks 34 = .ok (.return_, 1) := by decide +kernel
theorem dX1_shareScarce_0 : decode cX1_shareScarce 0 = .ok (.lload_n 2, 1) := by decide +kernel
theorem dX1_shareScarce_1 : decode cX1_shareScarce 1 = .ok (.lstore 6, 2) := by decide +kernel
theorem dX1_shareScarce_3 : decode cX1_shareScarce 3 = .ok (.iconst 0, 1) := by decide +kernel
theorem dX1_shareScarce_4 : decode cX1_shareScarce 4 = .ok (.istore 8, 2) := by decide +kernel
theorem dX1_shareScarce_6 : decode cX1_shareScarce 6 = .ok (.iload 8, 2) := by decide +kernel
theorem dX1_shareScarce_8 : decode cX1_shareScarce 8 = .ok (.bipush 16, 2) := by decide +kernel
theorem dX1_shareScarce_10 : decode cX1_shareScarce 10 = .ok (.if_icmp .ge 61, 3) := by decide +kernel
theorem dX1_shareScarce_13 : decode cX1_shareScarce 13 = .ok (.aload_n 0, 1) := by decide +kernel
theorem dX1_shareScarce_14 : decode cX1_shareScarce 14 = .ok (.getfield 32, 3) := by decide +kernel
theorem dX1_shareScarce_17 : decode cX1_shareScarce 17 = .ok (.iload 8, 2) := by decide +kernel
theorem dX1_shareScarce_19 : decode cX1_shareScarce 19 = .ok (.laload, 1) := by decide +kernel
theorem dX1_shareScarce_20 : decode cX1_shareScarce 20 = .ok (.lload_n 2, 1) := by decide +kernel
theorem dX1_shareScarce_21 : decode cX1_shareScarce 21 = .ok (.lmul, 1) := by decide +kernel
theorem dX1_shareScarce_22 : decode cX1_shareScarce 22 = .ok (.lload 4, 2) := by decide +kernel
theorem dX1_shareScarce_24 : decode cX1_shareScarce 24 = .ok (.invokestatic 72, 3) := by decide +kernel
theorem dX1_shareScarce_27 : decode cX1_shareScarce 27 = .ok (.lstore 9, 2) := by decide +kernel
theorem dX1_shareScarce_29 : decode cX1_shareScarce 29 = .ok (.aload_n 0, 1) := by decide +kernel
theorem dX1_shareScarce_30 : decode cX1_shareScarce 30 = .ok (.getfield 29, 3) := by decide +kernel
theorem dX1_shareScarce_33 : decode cX1_shareScarce 33 = .ok (.iload_n 1, 1) := by decide +kernel
theorem dX1_shareScarce_34 : decode cX1_shareScarce 34 = .ok (.bipush 16, 2) := by decide +kernel
theorem dX1_shareScarce_36 : decode cX1_shareScarce 36 = .ok (.imul, 1) := by decide +kernel
theorem dX1_shareScarce_37 : decode cX1_shareScarce 37 = .ok (.iload 8, 2) := by decide +kernel
theorem dX1_shareScarce_39 : decode cX1_shareScarce 39 = .ok (.iadd, 1) := by decide +kernel
theorem dX1_shareScarce_40 : decode cX1_shareScarce 40 = .ok (.dup2, 1) := by decide +kernel
theorem dX1_shareScarce_41 : decode cX1_shareScarce 41 = .ok (.laload, 1) := by decide +kernel
theorem dX1_shareScarce_42 : decode cX1_shareScarce 42 = .ok (.lload 9, 2) := by decide +kernel
theorem dX1_shareScarce_44 : decode cX1_shareScarce 44 = .ok (.ladd, 1) := by decide +kernel
theorem dX1_shareScarce_45 : decode cX1_shareScarce 45 = .ok (.lastore, 1) := by decide +kernel
theorem dX1_shareScarce_46 : decode cX1_shareScarce 46 = .ok (.aload_n 0, 1) := by decide +kernel
theorem dX1_shareScarce_47 : decode cX1_shareScarce 47 = .ok (.getfield 32, 3) := by decide +kernel
theorem dX1_shareScarce_50 : decode cX1_shareScarce 50 = .ok (.iload 8, 2) := by decide +kernel
theorem dX1_shareScarce_52 : decode cX1_shareScarce 52 = .ok (.dup2, 1) := by decide +kernel
theorem dX1_shareScarce_53 : decode cX1_shareScarce 53 = .ok (.laload, 1) := by decide +kernel
theorem dX1_shareScarce_54 : decode cX1_shareScarce 54 = .ok (.lload 9, 2) := by decide +kernel
theorem dX1_shareScarce_56 : decode cX1_shareScarce 56 = .ok (.lsub, 1) := by decide +kernel
theorem dX1_shareScarce_57 : decode cX1_shareScarce 57 = .ok (.lastore, 1) := by decide +kernel
theorem dX1_shareScarce_58 : decode cX1_shareScarce 58 = .ok (.lload 6, 2) := by decide +kernel
theorem dX1_shareScarce_60 : decode cX1_shareScarce 60 = .ok (.lload 9, 2) := by decide +kernel
theorem dX1_shareScarce_62 : decode cX1_shareScarce 62 = .ok (.lsub, 1) := by decide +kernel
theorem dX1_shareScarce_63 : decode cX1_shareScarce 63 = .ok (.lstore 6, 2) := by decide +kernel
theorem dX1_shareScarce_65 : decode cX1_shareScarce 65 = .ok (.iinc 8 1, 3) := by decide +kernel
theorem dX1_shareScarce_68 : decode cX1_shareScarce 68 = .ok (.goto (-62), 3) := by decide +kernel
theorem dX1_shareScarce_71 : decode cX1_shareScarce 71 = .ok (.iconst 0, 1) := by decide +kernel
theorem dX1_shareScarce_72 : decode cX1_shareScarce 72 = .ok (.istore 8, 2) := by decide +kernel
theorem dX1_shareScarce_74 : decode cX1_shareScarce 74 = .ok (.iload 8, 2) := by decide +kernel
theorem dX1_shareScarce_76 : decode cX1_shareScarce 76 = .ok (.bipush 16, 2) := by decide +kernel
theorem dX1_shareScarce_78 : decode cX1_shareScarce 78 = .ok (.if_icmp .ge 50, 3) := by decide +kernel
theorem dX1_shareScarce_81 : decode cX1_shareScarce 81 = .ok (.lload 6, 2) := by decide +kernel
theorem dX1_shareScarce_83 : decode cX1_shareScarce 83 = .ok (.lconst 0, 1) := by decide +kernel
theorem dX1_shareScarce_84 : decode cX1_shareScarce 84 = .ok (.lcmp, 1) := by decide +kernel
theorem dX1_shareScarce_85 : decode cX1_shareScarce 85 = .ok (.ifCond .le 43, 3) := by decide +kernel
theorem dX1_shareScarce_88 : decode cX1_shareScarce 88 = .ok (.aload_n 0, 1) := by decide +kernel
theorem dX1_shareScarce_89 : decode cX1_shareScarce 89 = .ok (.getfield 32, 3) := by decide +kernel
theorem dX1_shareScarce_92 : decode cX1_shareScarce 92 = .ok (.iload 8, 2) := by decide +kernel
theorem dX1_shareScarce_94 : decode cX1_shareScarce 94 = .ok (.laload, 1) := by decide +kernel
theorem dX1_shareScarce_95 : decode cX1_shareScarce 95 = .ok (.lconst 0, 1) := by decide +kernel
theorem dX1_shareScarce_96 : decode cX1_shareScarce 96 = .ok (.lcmp, 1) := by decide +kernel
theorem dX1_shareScarce_97 : decode cX1_shareScarce 97 = .ok (.ifCond .le 25, 3) := by decide +kernel
theorem dX1_shareScarce_100 : decode cX1_shareScarce 100 = .ok (.aload_n 0, 1) := by decide +kernel
theorem dX1_shareScarce_101 : decode cX1_shareScarce 101 = .ok (.getfield 29, 3) := by decide +kernel
theorem dX1_shareScarce_104 : decode cX1_shareScarce 104 = .ok (.iload_n 1, 1) := by decide +kernel
theorem dX1_shareScarce_105 : decode cX1_shareScarce 105 = .ok (.bipush 16, 2) := by decide +kernel
theorem dX1_shareScarce_107 : decode cX1_shareScarce 107 = .ok (.imul, 1) := by decide +kernel
theorem dX1_shareScarce_108 : decode cX1_shareScarce 108 = .ok (.iload 8, 2) := by decide +kernel
theorem dX1_shareScarce_110 : decode cX1_shareScarce 110 = .ok (.iadd, 1) := by decide +kernel
theorem dX1_shareScarce_111 : decode cX1_shareScarce 111 = .ok (.dup2, 1) := by decide +kernel
theorem dX1_shareScarce_112 : decode cX1_shareScarce 112 = .ok (.laload, 1) := by decide +kernel
theorem dX1_shareScarce_113 : decode cX1_shareScarce 113 = .ok (.lconst 1, 1) := by decide +kernel
theorem dX1_shareScarce_114 : decode cX1_shareScarce 114 = .ok (.ladd, 1) := by decide +kernel
theorem dX1_shareScarce_115 : decode cX1_shareScarce 115 = .ok (.lastore, 1) := by decide +kernel
theorem dX1_shareScarce_116 : decode cX1_shareScarce 116 = .ok (.lload 6, 2) := by decide +kernel
theorem dX1_shareScarce_118 : decode cX1_shareScarce 118 = .ok (.lconst 1, 1) := by decide +kernel
theorem dX1_shareScarce_119 : decode cX1_shareScarce 119 = .ok (.lsub, 1) := by decide +kernel
theorem dX1_shareScarce_120 : decode cX1_shareScarce 120 = .ok (.lstore 6, 2) := by decide +kernel
theorem dX1_shareScarce_122 : decode cX1_shareScarce 122 = .ok (.iinc 8 1, 3) := by decide +kernel
theorem dX1_shareScarce_125 : decode cX1_shareScarce 125 = .ok (.goto (-51), 3) := by decide +kernel
theorem dX1_shareScarce_128 : decode cX1_shareScarce 128 = .ok (.return_, 1) := by decide +kernel
theorem dX1_owedToClaim_0 : decode cX1_owedToClaim 0 = .ok (.aload_n 0, 1) := by decide +kernel
theorem dX1_owedToClaim_1 : decode cX1_owedToClaim 1 = .ok (.getfield 26, 3) := by decide +kernel
theorem dX1_owedToClaim_4 : decode cX1_owedToClaim 4 = .ok (.iload_n 1, 1) := by decide +kernel
theorem dX1_owedToClaim_5 : decode cX1_owedToClaim 5 = .ok (.bipush 16, 2) := by decide +kernel
theorem dX1_owedToClaim_7 : decode cX1_owedToClaim 7 = .ok (.imul, 1) := by decide +kernel
theorem dX1_owedToClaim_8 : decode cX1_owedToClaim 8 = .ok (.iconst 4, 1) := by decide +kernel
theorem dX1_owedToClaim_9 : decode cX1_owedToClaim 9 = .ok (.iadd, 1) := by decide +kernel
theorem dX1_owedToClaim_10 : decode cX1_owedToClaim 10 = .ok (.iload_n 2, 1) := by decide +kernel
theorem dX1_owedToClaim_11 : decode cX1_owedToClaim 11 = .ok (.iadd, 1) := by decide +kernel
theorem dX1_owedToClaim_12 : decode cX1_owedToClaim 12 = .ok (.laload, 1) := by decide +kernel
theorem dX1_owedToClaim_13 : decode cX1_owedToClaim 13 = .ok (.lreturn, 1) := by decide +kernel
theorem dX1_owedToShip_0 : decode cX1_owedToShip 0 = .ok (.aload_n 0, 1) := by decide +kernel
theorem dX1_owedToShip_1 : decode cX1_owedToShip 1 = .ok (.getfield 26, 3) := by decide +kernel
theorem dX1_owedToShip_4 : decode cX1_owedToShip 4 = .ok (.iload_n 1, 1) := by decide +kernel
theorem dX1_owedToShip_5 : decode cX1_owedToShip 5 = .ok (.bipush 16, 2) := by decide +kernel
theorem dX1_owedToShip_7 : decode cX1_owedToShip 7 = .ok (.imul, 1) := by decide +kernel
theorem dX1_owedToShip_8 : decode cX1_owedToShip 8 = .ok (.iload_n 2, 1) := by decide +kernel
theorem dX1_owedToShip_9 : decode cX1_owedToShip 9 = .ok (.iadd, 1) := by decide +kernel
theorem dX1_owedToShip_10 : decode cX1_owedToShip 10 = .ok (.laload, 1) := by decide +kernel
theorem dX1_owedToShip_11 : decode cX1_owedToShip 11 = .ok (.lreturn, 1) := by decide +kernel
theorem dX1_owedByShip_0 : decode cX1_owedByShip 0 = .ok (.aload_n 0, 1) := by decide +kernel
theorem dX1_owedByShip_1 : decode cX1_owedByShip 1 = .ok (.getfield 26, 3) := by decide +kernel
theorem dX1_owedByShip_4 : decode cX1_owedByShip 4 = .ok (.iload_n 1, 1) := by decide +kernel
theorem dX1_owedByShip_5 : decode cX1_owedByShip 5 = .ok (.invokestatic 152, 3) := by decide +kernel
theorem dX1_owedByShip_8 : decode cX1_owedByShip 8 = .ok (.lreturn, 1) := by decide +kernel
theorem dX1_paidToClaim_0 : decode cX1_paidToClaim 0 = .ok (.aload_n 0, 1) := by decide +kernel
theorem dX1_paidToClaim_1 : decode cX1_paidToClaim 1 = .ok (.getfield 29, 3) := by decide +kernel
theorem dX1_paidToClaim_4 : decode cX1_paidToClaim 4 = .ok (.iload_n 1, 1) := by decide +kernel
theorem dX1_paidToClaim_5 : decode cX1_paidToClaim 5 = .ok (.bipush 16, 2) := by decide +kernel
theorem dX1_paidToClaim_7 : decode cX1_paidToClaim 7 = .ok (.imul, 1) := by decide +kernel
theorem dX1_paidToClaim_8 : decode cX1_paidToClaim 8 = .ok (.iconst 4, 1) := by decide +kernel
theorem dX1_paidToClaim_9 : decode cX1_paidToClaim 9 = .ok (.iadd, 1) := by decide +kernel
theorem dX1_paidToClaim_10 : decode cX1_paidToClaim 10 = .ok (.iload_n 2, 1) := by decide +kernel
theorem dX1_paidToClaim_11 : decode cX1_paidToClaim 11 = .ok (.iadd, 1) := by decide +kernel
theorem dX1_paidToClaim_12 : decode cX1_paidToClaim 12 = .ok (.laload, 1) := by decide +kernel
theorem dX1_paidToClaim_13 : decode cX1_paidToClaim 13 = .ok (.lreturn, 1) := by decide +kernel
theorem dX1_paidToShip_0 : decode cX1_paidToShip 0 = .ok (.aload_n 0, 1) := by decide +kernel
theorem dX1_paidToShip_1 : decode cX1_paidToShip 1 = .ok (.getfield 29, 3) := by decide +kernel
theorem dX1_paidToShip_4 : decode cX1_paidToShip 4 = .ok (.iload_n 1, 1) := by decide +kernel
theorem dX1_paidToShip_5 : decode cX1_paidToShip 5 = .ok (.bipush 16, 2) := by decide +kernel
theorem dX1_paidToShip_7 : decode cX1_paidToShip 7 = .ok (.imul, 1) := by decide +kernel
theorem dX1_paidToShip_8 : decode cX1_paidToShip 8 = .ok (.iload_n 2, 1) := by decide +kernel
theorem dX1_paidToShip_9 : decode cX1_paidToShip 9 = .ok (.iadd, 1) := by decide +kernel
theorem dX1_paidToShip_10 : decode cX1_paidToShip 10 = .ok (.laload, 1) := by decide +kernel
theorem dX1_paidToShip_11 : decode cX1_paidToShip 11 = .ok (.lreturn, 1) := by decide +kernel
theorem dX1_paidByShip_0 : decode cX1_paidByShip 0 = .ok (.aload_n 0, 1) := by decide +kernel
theorem dX1_paidByShip_1 : decode cX1_paidByShip 1 = .ok (.getfield 29, 3) := by decide +kernel
theorem dX1_paidByShip_4 : decode cX1_paidByShip 4 = .ok (.iload_n 1, 1) := by decide +kernel
theorem dX1_paidByShip_5 : decode cX1_paidByShip 5 = .ok (.invokestatic 152, 3) := by decide +kernel
theorem dX1_paidByShip_8 : decode cX1_paidByShip 8 = .ok (.lreturn, 1) := by decide +kernel
theorem dX1_rowTogether_0 : decode cX1_rowTogether 0 = .ok (.lconst 0, 1) := by decide +kernel
theorem dX1_rowTogether_1 : decode cX1_rowTogether 1 = .ok (.lstore_n 2, 1) := by decide +kernel
theorem dX1_rowTogether_2 : decode cX1_rowTogether 2 = .ok (.iconst 0, 1) := by decide +kernel
theorem dX1_rowTogether_3 : decode cX1_rowTogether 3 = .ok (.istore 4, 2) := by decide +kernel
theorem dX1_rowTogether_5 : decode cX1_rowTogether 5 = .ok (.iload 4, 2) := by decide +kernel
theorem dX1_rowTogether_7 : decode cX1_rowTogether 7 = .ok (.bipush 16, 2) := by decide +kernel
theorem dX1_rowTogether_9 : decode cX1_rowTogether 9 = .ok (.if_icmp .ge 21, 3) := by decide +kernel
theorem dX1_rowTogether_12 : decode cX1_rowTogether 12 = .ok (.lload_n 2, 1) := by decide +kernel
theorem dX1_rowTogether_13 : decode cX1_rowTogether 13 = .ok (.aload_n 0, 1) := by decide +kernel
theorem dX1_rowTogether_14 : decode cX1_rowTogether 14 = .ok (.iload_n 1, 1) := by decide +kernel
theorem dX1_rowTogether_15 : decode cX1_rowTogether 15 = .ok (.bipush 16, 2) := by decide +kernel
theorem dX1_rowTogether_17 : decode cX1_rowTogether 17 = .ok (.imul, 1) := by decide +kernel
theorem dX1_rowTogether_18 : decode cX1_rowTogether 18 = .ok (.iload 4, 2) := by decide +kernel
theorem dX1_rowTogether_20 : decode cX1_rowTogether 20 = .ok (.iadd, 1) := by decide +kernel
theorem dX1_rowTogether_21 : decode cX1_rowTogether 21 = .ok (.laload, 1) := by decide +kernel
theorem dX1_rowTogether_22 : decode cX1_rowTogether 22 = .ok (.ladd, 1) := by decide +kernel
theorem dX1_rowTogether_23 : decode cX1_rowTogether 23 = .ok (.lstore_n 2, 1) := by decide +kernel
theorem dX1_rowTogether_24 : decode cX1_rowTogether 24 = .ok (.iinc 4 1, 3) := by decide +kernel
theorem dX1_rowTogether_27 : decode cX1_rowTogether 27 = .ok (.goto (-22), 3) := by decide +kernel
theorem dX1_rowTogether_30 : decode cX1_rowTogether 30 = .ok (.lload_n 2, 1) := by decide +kernel
theorem dX1_rowTogether_31 : decode cX1_rowTogether 31 = .ok (.lreturn, 1) := by decide +kernel
theorem dX1_paidToClaimByAll_0 : decode cX1_paidToClaimByAll 0 = .ok (.lconst 0, 1) := by decide +kernel
theorem dX1_paidToClaimByAll_1 : decode cX1_paidToClaimByAll 1 = .ok (.lstore_n 2, 1) := by decide +kernel
theorem dX1_paidToClaimByAll_2 : decode cX1_paidToClaimByAll 2 = .ok (.iconst 0, 1) := by decide +kernel
theorem dX1_paidToClaimByAll_3 : decode cX1_paidToClaimByAll 3 = .ok (.istore 4, 2) := by decide +kernel
theorem dX1_paidToClaimByAll_5 : decode cX1_paidToClaimByAll 5 = .ok (.iload 4, 2) := by decide +kernel
theorem dX1_paidToClaimByAll_7 : decode cX1_paidToClaimByAll 7 = .ok (.aload_n 0, 1) := by decide +kernel
theorem dX1_paidToClaimByAll_8 : decode cX1_paidToClaimByAll 8 = .ok (.getfield 12, 3) := by decide +kernel
theorem dX1_paidToClaimByAll_11 : decode cX1_paidToClaimByAll 11 = .ok (.getfield 61, 3) := by decide +kernel
theorem dX1_paidToClaimByAll_14 : decode cX1_paidToClaimByAll 14 = .ok (.if_icmp .ge 19, 3) := by decide +kernel
theorem dX1_paidToClaimByAll_17 : decode cX1_paidToClaimByAll 17 = .ok (.lload_n 2, 1) := by decide +kernel
theorem dX1_paidToClaimByAll_18 : decode cX1_paidToClaimByAll 18 = .ok (.aload_n 0, 1) := by decide +kernel
theorem dX1_paidToClaimByAll_19 : decode cX1_paidToClaimByAll 19 = .ok (.iload 4, 2) := by decide +kernel
theorem dX1_paidToClaimByAll_21 : decode cX1_paidToClaimByAll 21 = .ok (.iload_n 1, 1) := by decide +kernel
theorem dX1_paidToClaimByAll_22 : decode cX1_paidToClaimByAll 22 = .ok (.invokevirtual 156, 3) := by decide +kernel
theorem dX1_paidToClaimByAll_25 : decode cX1_paidToClaimByAll 25 = .ok (.ladd, 1) := by decide +kernel
theorem dX1_paidToClaimByAll_26 : decode cX1_paidToClaimByAll 26 = .ok (.lstore_n 2, 1) := by decide +kernel
theorem dX1_paidToClaimByAll_27 : decode cX1_paidToClaimByAll 27 = .ok (.iinc 4 1, 3) := by decide +kernel
theorem dX1_paidToClaimByAll_30 : decode cX1_paidToClaimByAll 30 = .ok (.goto (-25), 3) := by decide +kernel
theorem dX1_paidToClaimByAll_33 : decode cX1_paidToClaimByAll 33 = .ok (.lload_n 2, 1) := by decide +kernel
theorem dX1_paidToClaimByAll_34 : decode cX1_paidToClaimByAll 34 = .ok (.lreturn, 1) := by decide +kernel
theorem dX1_givenBack_0 : decode cX1_givenBack 0 = .ok (.aload_n 0, 1) := by decide +kernel
theorem dX1_givenBack_1 : decode cX1_givenBack 1 = .ok (.getfield 12, 3) := by decide +kernel
theorem dX1_givenBack_4 : decode cX1_givenBack 4 = .ok (.iload_n 1, 1) := by decide +kernel
theorem dX1_givenBack_5 : decode cX1_givenBack 5 = .ok (.invokevirtual 90, 3) := by decide +kernel
theorem dX1_givenBack_8 : decode cX1_givenBack 8 = .ok (.ifCond .eq 23, 3) := by decide +kernel
theorem dX1_givenBack_11 : decode cX1_givenBack 11 = .ok (.aload_n 0, 1) := by decide +kernel
theorem dX1_givenBack_12 : decode cX1_givenBack 12 = .ok (.getfield 12, 3) := by decide +kernel
theorem dX1_givenBack_15 : decode cX1_givenBack 15 = .ok (.aload_n 0, 1) := by decide +kernel
theorem dX1_givenBack_16 : decode cX1_givenBack 16 = .ok (.getfield 12, 3) := by decide +kernel
theorem dX1_givenBack_19 : decode cX1_givenBack 19 = .ok (.iload_n 1, 1) := by decide +kernel
theorem dX1_givenBack_20 : decode cX1_givenBack 20 = .ok (.iconst 1, 1) := by decide +kernel
theorem dX1_givenBack_21 : decode cX1_givenBack 21 = .ok (.invokevirtual 86, 3) := by decide +kernel
theorem dX1_givenBack_24 : decode cX1_givenBack 24 = .ok (.iconst 4, 1) := by decide +kernel
theorem dX1_givenBack_25 : decode cX1_givenBack 25 = .ok (.invokevirtual 115, 3) := by decide +kernel
theorem dX1_givenBack_28 : decode cX1_givenBack 28 = .ok (.ifCond .ne 5, 3) := by decide +kernel
theorem dX1_givenBack_31 : decode cX1_givenBack 31 = .ok (.lconst 0, 1) := by decide +kernel
theorem dX1_givenBack_32 : decode cX1_givenBack 32 = .ok (.lreturn, 1) := by decide +kernel
theorem dX1_givenBack_33 : decode cX1_givenBack 33 = .ok (.aload_n 0, 1) := by decide +kernel
theorem dX1_givenBack_34 : decode cX1_givenBack 34 = .ok (.iload_n 1, 1) := by decide +kernel
theorem dX1_givenBack_35 : decode cX1_givenBack 35 = .ok (.invokevirtual 159, 3) := by decide +kernel
theorem dX1_givenBack_38 : decode cX1_givenBack 38 = .ok (.aload_n 0, 1) := by decide +kernel
theorem dX1_givenBack_39 : decode cX1_givenBack 39 = .ok (.iload_n 1, 1) := by decide +kernel
theorem dX1_givenBack_40 : decode cX1_givenBack 40 = .ok (.invokevirtual 163, 3) := by decide +kernel
theorem dX1_givenBack_43 : decode cX1_givenBack 43 = .ok (.invokestatic 110, 3) := by decide +kernel
theorem dX1_givenBack_46 : decode cX1_givenBack 46 = .ok (.lreturn, 1) := by decide +kernel
theorem dX1_leftToClaim_0 : decode cX1_leftToClaim 0 = .ok (.aload_n 0, 1) := by decide +kernel
theorem dX1_leftToClaim_1 : decode cX1_leftToClaim 1 = .ok (.iload_n 1, 1) := by decide +kernel
theorem dX1_leftToClaim_2 : decode cX1_leftToClaim 2 = .ok (.invokevirtual 163, 3) := by decide +kernel
theorem dX1_leftToClaim_5 : decode cX1_leftToClaim 5 = .ok (.aload_n 0, 1) := by decide +kernel
theorem dX1_leftToClaim_6 : decode cX1_leftToClaim 6 = .ok (.iload_n 1, 1) := by decide +kernel
theorem dX1_leftToClaim_7 : decode cX1_leftToClaim 7 = .ok (.invokevirtual 166, 3) := by decide +kernel
theorem dX1_leftToClaim_10 : decode cX1_leftToClaim 10 = .ok (.lsub, 1) := by decide +kernel
theorem dX1_leftToClaim_11 : decode cX1_leftToClaim 11 = .ok (.lreturn, 1) := by decide +kernel
theorem dX1_netOf_0 : decode cX1_netOf 0 = .ok (.aload_n 0, 1) := by decide +kernel
theorem dX1_netOf_1 : decode cX1_netOf 1 = .ok (.iload_n 1, 1) := by decide +kernel
theorem dX1_netOf_2 : decode cX1_netOf 2 = .ok (.invokevirtual 169, 3) := by decide +kernel
theorem dX1_netOf_5 : decode cX1_netOf 5 = .ok (.lneg, 1) := by decide +kernel
theorem dX1_netOf_6 : decode cX1_netOf 6 = .ok (.aload_n 0, 1) := by decide +kernel
theorem dX1_netOf_7 : decode cX1_netOf 7 = .ok (.getfield 12, 3) := by decide +kernel
theorem dX1_netOf_10 : decode cX1_netOf 10 = .ok (.iload_n 1, 1) := by decide +kernel
theorem dX1_netOf_11 : decode cX1_netOf 11 = .ok (.iconst 2, 1) := by decide +kernel
theorem dX1_netOf_12 : decode cX1_netOf 12 = .ok (.invokevirtual 115, 3) := by decide +kernel
theorem dX1_netOf_15 : decode cX1_netOf 15 = .ok (.i2l, 1) := by decide +kernel
theorem dX1_netOf_16 : decode cX1_netOf 16 = .ok (.lsub, 1) := by decide +kernel
theorem dX1_netOf_17 : decode cX1_netOf 17 = .ok (.lstore_n 2, 1) := by decide +kernel
theorem dX1_netOf_18 : decode cX1_netOf 18 = .ok (.iconst 0, 1) := by decide +kernel
theorem dX1_netOf_19 : decode cX1_netOf 19 = .ok (.istore 4, 2) := by decide +kernel
theorem dX1_netOf_21 : decode cX1_netOf 21 = .ok (.iload 4, 2) := by decide +kernel
theorem dX1_netOf_23 : decode cX1_netOf 23 = .ok (.aload_n 0, 1) := by decide +kernel
theorem dX1_netOf_24 : decode cX1_netOf 24 = .ok (.getfield 12, 3) := by decide +kernel
theorem dX1_netOf_27 : decode cX1_netOf 27 = .ok (.getfield 61, 3) := by decide +kernel
theorem dX1_netOf_30 : decode cX1_netOf 30 = .ok (.if_icmp .ge 19, 3) := by decide +kernel
theorem dX1_netOf_33 : decode cX1_netOf 33 = .ok (.lload_n 2, 1) := by decide +kernel
theorem dX1_netOf_34 : decode cX1_netOf 34 = .ok (.aload_n 0, 1) := by decide +kernel
theorem dX1_netOf_35 : decode cX1_netOf 35 = .ok (.iload 4, 2) := by decide +kernel
theorem dX1_netOf_37 : decode cX1_netOf 37 = .ok (.iload_n 1, 1) := by decide +kernel
theorem dX1_netOf_38 : decode cX1_netOf 38 = .ok (.invokevirtual 172, 3) := by decide +kernel
theorem dX1_netOf_41 : decode cX1_netOf 41 = .ok (.ladd, 1) := by decide +kernel
theorem dX1_netOf_42 : decode cX1_netOf 42 = .ok (.lstore_n 2, 1) := by decide +kernel
theorem dX1_netOf_43 : decode cX1_netOf 43 = .ok (.iinc 4 1, 3) := by decide +kernel
theorem dX1_netOf_46 : decode cX1_netOf 46 = .ok (.goto (-25), 3) := by decide +kernel
theorem dX1_netOf_49 : decode cX1_netOf 49 = .ok (.iconst 0, 1) := by decide +kernel
theorem dX1_netOf_50 : decode cX1_netOf 50 = .ok (.istore 4, 2) := by decide +kernel
theorem dX1_netOf_52 : decode cX1_netOf 52 = .ok (.iload 4, 2) := by decide +kernel
theorem dX1_netOf_54 : decode cX1_netOf 54 = .ok (.aload_n 0, 1) := by decide +kernel
theorem dX1_netOf_55 : decode cX1_netOf 55 = .ok (.getfield 12, 3) := by decide +kernel
theorem dX1_netOf_58 : decode cX1_netOf 58 = .ok (.getfield 76, 3) := by decide +kernel
theorem dX1_netOf_61 : decode cX1_netOf 61 = .ok (.if_icmp .ge 32, 3) := by decide +kernel
theorem dX1_netOf_64 : decode cX1_netOf 64 = .ok (.aload_n 0, 1) := by decide +kernel
theorem dX1_netOf_65 : decode cX1_netOf 65 = .ok (.getfield 12, 3) := by decide +kernel
theorem dX1_netOf_68 : decode cX1_netOf 68 = .ok (.iload 4, 2) := by decide +kernel
theorem dX1_netOf_70 : decode cX1_netOf 70 = .ok (.iconst 1, 1) := by decide +kernel
theorem dX1_netOf_71 : decode cX1_netOf 71 = .ok (.invokevirtual 86, 3) := by decide +kernel
theorem dX1_netOf_74 : decode cX1_netOf 74 = .ok (.iload_n 1, 1) := by decide +kernel
theorem dX1_netOf_75 : decode cX1_netOf 75 = .ok (.if_icmp .ne 12, 3) := by decide +kernel
theorem dX1_netOf_78 : decode cX1_netOf 78 = .ok (.lload_n 2, 1) := by decide +kernel
theorem dX1_netOf_79 : decode cX1_netOf 79 = .ok (.aload_n 0, 1) := by decide +kernel
theorem dX1_netOf_80 : decode cX1_netOf 80 = .ok (.iload 4, 2) := by decide +kernel
theorem dX1_netOf_82 : decode cX1_netOf 82 = .ok (.invokevirtual 166, 3) := by decide +kernel
theorem dX1_netOf_85 : decode cX1_netOf 85 = .ok (.ladd, 1) := by decide +kernel
theorem dX1_netOf_86 : decode cX1_netOf 86 = .ok (.lstore_n 2, 1) := by decide +kernel
theorem dX1_netOf_87 : decode cX1_netOf 87 = .ok (.iinc 4 1, 3) := by decide +kernel
theorem dX1_netOf_90 : decode cX1_netOf 90 = .ok (.goto (-38), 3) := by decide +kernel
theorem dX1_netOf_93 : decode cX1_netOf 93 = .ok (.lload_n 2, 1) := by decide +kernel
theorem dX1_netOf_94 : decode cX1_netOf 94 = .ok (.lreturn, 1) := by decide +kernel
theorem dX1_paidToPersons_0 : decode cX1_paidToPersons 0 = .ok (.lconst 0, 1) := by decide +kernel
theorem dX1_paidToPersons_1 : decode cX1_paidToPersons 1 = .ok (.lstore_n 2, 1) := by decide +kernel
theorem dX1_paidToPersons_2 : decode cX1_paidToPersons 2 = .ok (.iconst 0, 1) := by decide +kernel
theorem dX1_paidToPersons_3 : decode cX1_paidToPersons 3 = .ok (.istore 4, 2) := by decide +kernel
theorem dX1_paidToPersons_5 : decode cX1_paidToPersons 5 = .ok (.iload 4, 2) := by decide +kernel
theorem dX1_paidToPersons_7 : decode cX1_paidToPersons 7 = .ok (.aload_n 0, 1) := by decide +kernel
theorem dX1_paidToPersons_8 : decode cX1_paidToPersons 8 = .ok (.getfield 12, 3) := by decide +kernel
theorem dX1_paidToPersons_11 : decode cX1_paidToPersons 11 = .ok (.getfield 76, 3) := by decide +kernel
theorem dX1_paidToPersons_14 : decode cX1_paidToPersons 14 = .ok (.if_icmp .ge 33, 3) := by decide +kernel
theorem dX1_paidToPersons_17 : decode cX1_paidToPersons 17 = .ok (.aload_n 0, 1) := by decide +kernel
theorem dX1_paidToPersons_18 : decode cX1_paidToPersons 18 = .ok (.getfield 12, 3) := by decide +kernel
theorem dX1_paidToPersons_21 : decode cX1_paidToPersons 21 = .ok (.iload 4, 2) := by decide +kernel
theorem dX1_paidToPersons_23 : decode cX1_paidToPersons 23 = .ok (.iconst 0, 1) := by decide +kernel
theorem dX1_paidToPersons_24 : decode cX1_paidToPersons 24 = .ok (.invokevirtual 86, 3) := by decide +kernel
theorem dX1_paidToPersons_27 : decode cX1_paidToPersons 27 = .ok (.iconst 1, 1) := by decide +kernel
theorem dX1_paidToPersons_28 : decode cX1_paidToPersons 28 = .ok (.if_icmp .ne 13, 3) := by decide +kernel
theorem dX1_paidToPersons_31 : decode cX1_paidToPersons 31 = .ok (.lload_n 2, 1) := by decide +kernel
theorem dX1_paidToPersons_32 : decode cX1_paidToPersons 32 = .ok (.aload_n 0, 1) := by decide +kernel
theorem dX1_paidToPersons_33 : decode cX1_paidToPersons 33 = .ok (.iload_n 1, 1) := by decide +kernel
theorem dX1_paidToPersons_34 : decode cX1_paidToPersons 34 = .ok (.iload 4, 2) := by decide +kernel
theorem dX1_paidToPersons_36 : decode cX1_paidToPersons 36 = .ok (.invokevirtual 156, 3) := by decide +kernel
theorem dX1_paidToPersons_39 : decode cX1_paidToPersons 39 = .ok (.ladd, 1) := by decide +kernel
theorem dX1_paidToPersons_40 : decode cX1_paidToPersons 40 = .ok (.lstore_n 2, 1) := by decide +kernel
theorem dX1_paidToPersons_41 : decode cX1_paidToPersons 41 = .ok (.iinc 4 1, 3) := by decide +kernel
theorem dX1_paidToPersons_44 : decode cX1_paidToPersons 44 = .ok (.goto (-39), 3) := by decide +kernel
theorem dX1_paidToPersons_47 : decode cX1_paidToPersons 47 = .ok (.lload_n 2, 1) := by decide +kernel
theorem dX1_paidToPersons_48 : decode cX1_paidToPersons 48 = .ok (.lreturn, 1) := by decide +kernel
theorem dX1_threeQuarters_0 : decode cX1_threeQuarters 0 = .ok (.lload_n 0, 1) := by decide +kernel
theorem dX1_threeQuarters_1 : decode cX1_threeQuarters 1 = .ok (.ldc2_w 175, 3) := by decide +kernel
theorem dX1_threeQuarters_4 : decode cX1_threeQuarters 4 = .ok (.lmul, 1) := by decide +kernel
theorem dX1_threeQuarters_5 : decode cX1_threeQuarters 5 = .ok (.ldc2_w 177, 3) := by decide +kernel
theorem dX1_threeQuarters_8 : decode cX1_threeQuarters 8 = .ok (.ldiv, 1) := by decide +kernel
theorem dX1_threeQuarters_9 : decode cX1_threeQuarters 9 = .ok (.lreturn, 1) := by decide +kernel
theorem dX1_coveredOf_0 : decode cX1_coveredOf 0 = .ok (.aload_n 0, 1) := by decide +kernel
theorem dX1_coveredOf_1 : decode cX1_coveredOf 1 = .ok (.iload_n 1, 1) := by decide +kernel
theorem dX1_coveredOf_2 : decode cX1_coveredOf 2 = .ok (.invokevirtual 169, 3) := by decide +kernel
theorem dX1_coveredOf_5 : decode cX1_coveredOf 5 = .ok (.aload_n 0, 1) := by decide +kernel
theorem dX1_coveredOf_6 : decode cX1_coveredOf 6 = .ok (.iload_n 1, 1) := by decide +kernel
theorem dX1_coveredOf_7 : decode cX1_coveredOf 7 = .ok (.invokevirtual 179, 3) := by decide +kernel
theorem dX1_coveredOf_10 : decode cX1_coveredOf 10 = .ok (.lsub, 1) := by decide +kernel
theorem dX1_coveredOf_11 : decode cX1_coveredOf 11 = .ok (.invokestatic 182, 3) := by decide +kernel
theorem dX1_coveredOf_14 : decode cX1_coveredOf 14 = .ok (.lstore_n 2, 1) := by decide +kernel
theorem dX1_coveredOf_15 : decode cX1_coveredOf 15 = .ok (.lload_n 2, 1) := by decide +kernel
theorem dX1_coveredOf_16 : decode cX1_coveredOf 16 = .ok (.aload_n 0, 1) := by decide +kernel
theorem dX1_coveredOf_17 : decode cX1_coveredOf 17 = .ok (.getfield 12, 3) := by decide +kernel
theorem dX1_coveredOf_20 : decode cX1_coveredOf 20 = .ok (.iload_n 1, 1) := by decide +kernel
theorem dX1_coveredOf_21 : decode cX1_coveredOf 21 = .ok (.iconst 3, 1) := by decide +kernel
theorem dX1_coveredOf_22 : decode cX1_coveredOf 22 = .ok (.invokevirtual 115, 3) := by decide +kernel
theorem dX1_coveredOf_25 : decode cX1_coveredOf 25 = .ok (.i2l, 1) := by decide +kernel
theorem dX1_coveredOf_26 : decode cX1_coveredOf 26 = .ok (.invokestatic 182, 3) := by decide +kernel
theorem dX1_coveredOf_29 : decode cX1_coveredOf 29 = .ok (.invokestatic 110, 3) := by decide +kernel
theorem dX1_coveredOf_32 : decode cX1_coveredOf 32 = .ok (.lreturn, 1) := by decide +kernel
theorem dX1_owedToPersons_0 : decode cX1_owedToPersons 0 = .ok (.lconst 0, 1) := by decide +kernel
theorem dX1_owedToPersons_1 : decode cX1_owedToPersons 1 = .ok (.lstore_n 2, 1) := by decide +kernel
theorem dX1_owedToPersons_2 : decode cX1_owedToPersons 2 = .ok (.iconst 0, 1) := by decide +kernel
theorem dX1_owedToPersons_3 : decode cX1_owedToPersons 3 = .ok (.istore 4, 2) := by decide +kernel
theorem dX1_owedToPersons_5 : decode cX1_owedToPersons 5 = .ok (.iload 4, 2) := by decide +kernel
theorem dX1_owedToPersons_7 : decode cX1_owedToPersons 7 = .ok (.aload_n 0, 1) := by decide +kernel
theorem dX1_owedToPersons_8 : decode cX1_owedToPersons 8 = .ok (.getfield 12, 3) := by decide +kernel
theorem dX1_owedToPersons_11 : decode cX1_owedToPersons 11 = .ok (.getfield 76, 3) := by decide +kernel
theorem dX1_owedToPersons_14 : decode cX1_owedToPersons 14 = .ok (.if_icmp .ge 33, 3) := by decide +kernel
theorem dX1_owedToPersons_17 : decode cX1_owedToPersons 17 = .ok (.aload_n 0, 1) := by decide +kernel
theorem dX1_owedToPersons_18 : decode cX1_owedToPersons 18 = .ok (.getfield 12, 3) := by decide +kernel
theorem dX1_owedToPersons_21 : decode cX1_owedToPersons 21 = .ok (.iload 4, 2) := by decide +kernel
theorem dX1_owedToPersons_23 : decode cX1_owedToPersons 23 = .ok (.iconst 0, 1) := by decide +kernel
theorem dX1_owedToPersons_24 : decode cX1_owedToPersons 24 = .ok (.invokevirtual 86, 3) := by decide +kernel
theorem dX1_owedToPersons_27 : decode cX1_owedToPersons 27 = .ok (.iconst 1, 1) := by decide +kernel
theorem dX1_owedToPersons_28 : decode cX1_owedToPersons 28 = .ok (.if_icmp .ne 13, 3) := by decide +kernel
theorem dX1_owedToPersons_31 : decode cX1_owedToPersons 31 = .ok (.lload_n 2, 1) := by decide +kernel
theorem dX1_owedToPersons_32 : decode cX1_owedToPersons 32 = .ok (.aload_n 0, 1) := by decide +kernel
theorem dX1_owedToPersons_33 : decode cX1_owedToPersons 33 = .ok (.iload_n 1, 1) := by decide +kernel
theorem dX1_owedToPersons_34 : decode cX1_owedToPersons 34 = .ok (.iload 4, 2) := by decide +kernel
theorem dX1_owedToPersons_36 : decode cX1_owedToPersons 36 = .ok (.invokevirtual 101, 3) := by decide +kernel
theorem dX1_owedToPersons_39 : decode cX1_owedToPersons 39 = .ok (.ladd, 1) := by decide +kernel
theorem dX1_owedToPersons_40 : decode cX1_owedToPersons 40 = .ok (.lstore_n 2, 1) := by decide +kernel
theorem dX1_owedToPersons_41 : decode cX1_owedToPersons 41 = .ok (.iinc 4 1, 3) := by decide +kernel
theorem dX1_owedToPersons_44 : decode cX1_owedToPersons 44 = .ok (.goto (-39), 3) := by decide +kernel
theorem dX1_owedToPersons_47 : decode cX1_owedToPersons 47 = .ok (.lload_n 2, 1) := by decide +kernel
theorem dX1_owedToPersons_48 : decode cX1_owedToPersons 48 = .ok (.lreturn, 1) := by decide +kernel
theorem dX1_rateNeeded_0 : decode cX1_rateNeeded 0 = .ok (.aload_n 0, 1) := by decide +kernel
theorem dX1_rateNeeded_1 : decode cX1_rateNeeded 1 = .ok (.getfield 12, 3) := by decide +kernel
theorem dX1_rateNeeded_4 : decode cX1_rateNeeded 4 = .ok (.iload_n 1, 1) := by decide +kernel
theorem dX1_rateNeeded_5 : decode cX1_rateNeeded 5 = .ok (.iconst 5, 1) := by decide +kernel
theorem dX1_rateNeeded_6 : decode cX1_rateNeeded 6 = .ok (.invokevirtual 115, 3) := by decide +kernel
theorem dX1_rateNeeded_9 : decode cX1_rateNeeded 9 = .ok (.iconst 1, 1) := by decide +kernel
theorem dX1_rateNeeded_10 : decode cX1_rateNeeded 10 = .ok (.if_icmp .ne 5, 3) := by decide +kernel
theorem dX1_rateNeeded_13 : decode cX1_rateNeeded 13 = .ok (.lconst 0, 1) := by decide +kernel
theorem dX1_rateNeeded_14 : decode cX1_rateNeeded 14 = .ok (.lreturn, 1) := by decide +kernel
theorem dX1_rateNeeded_15 : decode cX1_rateNeeded 15 = .ok (.aload_n 0, 1) := by decide +kernel
theorem dX1_rateNeeded_16 : decode cX1_rateNeeded 16 = .ok (.iload_n 1, 1) := by decide +kernel
theorem dX1_rateNeeded_17 : decode cX1_rateNeeded 17 = .ok (.invokevirtual 186, 3) := by decide +kernel
theorem dX1_rateNeeded_20 : decode cX1_rateNeeded 20 = .ok (.lstore_n 2, 1) := by decide +kernel
theorem dX1_rateNeeded_21 : decode cX1_rateNeeded 21 = .ok (.aload_n 0, 1) := by decide +kernel
theorem dX1_rateNeeded_22 : decode cX1_rateNeeded 22 = .ok (.iload_n 1, 1) := by decide +kernel
theorem dX1_rateNeeded_23 : decode cX1_rateNeeded 23 = .ok (.invokevirtual 189, 3) := by decide +kernel
theorem dX1_rateNeeded_26 : decode cX1_rateNeeded 26 = .ok (.lload_n 2, 1) := by decide +kernel
theorem dX1_rateNeeded_27 : decode cX1_rateNeeded 27 = .ok (.aload_n 0, 1) := by decide +kernel
theorem dX1_rateNeeded_28 : decode cX1_rateNeeded 28 = .ok (.getfield 12, 3) := by decide +kernel
theorem dX1_rateNeeded_31 : decode cX1_rateNeeded 31 = .ok (.iload_n 1, 1) := by decide +kernel
theorem dX1_rateNeeded_32 : decode cX1_rateNeeded 32 = .ok (.bipush 6, 2) := by decide +kernel
theorem dX1_rateNeeded_34 : decode cX1_rateNeeded 34 = .ok (.invokevirtual 134, 3) := by decide +kernel
theorem dX1_rateNeeded_37 : decode cX1_rateNeeded 37 = .ok (.invokestatic 110, 3) := by decide +kernel
theorem dX1_rateNeeded_40 : decode cX1_rateNeeded 40 = .ok (.lsub, 1) := by decide +kernel
theorem dX1_rateNeeded_41 : decode cX1_rateNeeded 41 = .ok (.lstore 4, 2) := by decide +kernel
theorem dX1_rateNeeded_43 : decode cX1_rateNeeded 43 = .ok (.aload_n 0, 1) := by decide +kernel
theorem dX1_rateNeeded_44 : decode cX1_rateNeeded 44 = .ok (.getfield 12, 3) := by decide +kernel
theorem dX1_rateNeeded_47 : decode cX1_rateNeeded 47 = .ok (.iload_n 1, 1) := by decide +kernel
theorem dX1_rateNeeded_48 : decode cX1_rateNeeded 48 = .ok (.invokevirtual 192, 3) := by decide +kernel
theorem dX1_rateNeeded_51 : decode cX1_rateNeeded 51 = .ok (.lstore 6, 2) := by decide +kernel
theorem dX1_rateNeeded_53 : decode cX1_rateNeeded 53 = .ok (.lload 4, 2) := by decide +kernel
theorem dX1_rateNeeded_55 : decode cX1_rateNeeded 55 = .ok (.lload 6, 2) := by decide +kernel
theorem dX1_rateNeeded_57 : decode cX1_rateNeeded 57 = .ok (.ladd, 1) := by decide +kernel
theorem dX1_rateNeeded_58 : decode cX1_rateNeeded 58 = .ok (.lconst 1, 1) := by decide +kernel
theorem dX1_rateNeeded_59 : decode cX1_rateNeeded 59 = .ok (.lsub, 1) := by decide +kernel
theorem dX1_rateNeeded_60 : decode cX1_rateNeeded 60 = .ok (.lload 6, 2) := by decide +kernel
theorem dX1_rateNeeded_62 : decode cX1_rateNeeded 62 = .ok (.invokestatic 72, 3) := by decide +kernel
theorem dX1_rateNeeded_65 : decode cX1_rateNeeded 65 = .ok (.lreturn, 1) := by decide +kernel
theorem dX2_init_0 : decode cX2_init 0 = .ok (.aload_n 0, 1) := by decide +kernel
theorem dX2_init_1 : decode cX2_init 1 = .ok (.invokespecial 3, 3) := by decide +kernel
theorem dX2_init_4 : decode cX2_init 4 = .ok (.aload_n 0, 1) := by decide +kernel
theorem dX2_init_5 : decode cX2_init 5 = .ok (.iconst 0, 1) := by decide +kernel
theorem dX2_init_6 : decode cX2_init 6 = .ok (.putfield 9, 3) := by decide +kernel
theorem dX2_init_9 : decode cX2_init 9 = .ok (.aload_n 0, 1) := by decide +kernel
theorem dX2_init_10 : decode cX2_init 10 = .ok (.iconst 0, 1) := by decide +kernel
theorem dX2_init_11 : decode cX2_init 11 = .ok (.putfield 15, 3) := by decide +kernel
theorem dX2_init_14 : decode cX2_init 14 = .ok (.aload_n 0, 1) := by decide +kernel
theorem dX2_init_15 : decode cX2_init 15 = .ok (.iconst 4, 1) := by decide +kernel
theorem dX2_init_16 : decode cX2_init 16 = .ok (.newarray .long, 2) := by decide +kernel
theorem dX2_init_18 : decode cX2_init 18 = .ok (.putfield 18, 3) := by decide +kernel
theorem dX2_init_21 : decode cX2_init 21 = .ok (.aload_n 0, 1) := by decide +kernel
theorem dX2_init_22 : decode cX2_init 22 = .ok (.bipush 24, 2) := by decide +kernel
theorem dX2_init_24 : decode cX2_init 24 = .ok (.newarray .int, 2) := by decide +kernel
theorem dX2_init_26 : decode cX2_init 26 = .ok (.putfield 22, 3) := by decide +kernel
theorem dX2_init_29 : decode cX2_init 29 = .ok (.aload_n 0, 1) := by decide +kernel
theorem dX2_init_30 : decode cX2_init 30 = .ok (.bipush 48, 2) := by decide +kernel
theorem dX2_init_32 : decode cX2_init 32 = .ok (.newarray .int, 2) := by decide +kernel
theorem dX2_init_34 : decode cX2_init 34 = .ok (.putfield 26, 3) := by decide +kernel
theorem dX2_init_37 : decode cX2_init 37 = .ok (.aload_n 0, 1) := by decide +kernel
theorem dX2_init_38 : decode cX2_init 38 = .ok (.bipush 10, 2) := by decide +kernel
theorem dX2_init_40 : decode cX2_init 40 = .ok (.newarray .int, 2) := by decide +kernel
theorem dX2_init_42 : decode cX2_init 42 = .ok (.putfield 29, 3) := by decide +kernel
theorem dX2_init_45 : decode cX2_init 45 = .ok (.return_, 1) := by decide +kernel
theorem dX2_clear_0 : decode cX2_clear 0 = .ok (.aload_n 0, 1) := by decide +kernel
theorem dX2_clear_1 : decode cX2_clear 1 = .ok (.iconst 0, 1) := by decide +kernel
theorem dX2_clear_2 : decode cX2_clear 2 = .ok (.putfield 9, 3) := by decide +kernel
theorem dX2_clear_5 : decode cX2_clear 5 = .ok (.aload_n 0, 1) := by decide +kernel
theorem dX2_clear_6 : decode cX2_clear 6 = .ok (.iconst 0, 1) := by decide +kernel
theorem dX2_clear_7 : decode cX2_clear 7 = .ok (.putfield 15, 3) := by decide +kernel
theorem dX2_clear_10 : decode cX2_clear 10 = .ok (.getstatic 32, 3) := by decide +kernel
theorem dX2_clear_13 : decode cX2_clear 13 = .ok (.iconst 0, 1) := by decide +kernel
theorem dX2_clear_14 : decode cX2_clear 14 = .ok (.aload_n 0, 1) := by decide +kernel
theorem dX2_clear_15 : decode cX2_clear 15 = .ok (.getfield 29, 3) := by decide +kernel
theorem dX2_clear_18 : decode cX2_clear 18 = .ok (.iconst 0, 1) := by decide +kernel
theorem dX2_clear_19 : decode cX2_clear 19 = .ok (.bipush 10, 2) := by decide +kernel
theorem dX2_clear_21 : decode cX2_clear 21 = .ok (.invokestatic 35, 3) := by decide +kernel
theorem dX2_clear_24 : decode cX2_clear 24 = .ok (.return_, 1) := by decide +kernel
theorem dX2_copyFrom_0 : decode cX2_copyFrom 0 = .ok (.aload_n 0, 1) := by decide +kernel
theorem dX2_copyFrom_1 : decode cX2_copyFrom 1 = .ok (.aload_n 1, 1) := by decide +kernel
theorem dX2_copyFrom_2 : decode cX2_copyFrom 2 = .ok (.getfield 9, 3) := by decide +kernel
theorem dX2_copyFrom_5 : decode cX2_copyFrom 5 = .ok (.putfield 9, 3) := by decide +kernel
theorem dX2_copyFrom_8 : decode cX2_copyFrom 8 = .ok (.aload_n 0, 1) := by decide +kernel
theorem dX2_copyFrom_9 : decode cX2_copyFrom 9 = .ok (.aload_n 1, 1) := by decide +kernel
theorem dX2_copyFrom_10 : decode cX2_copyFrom 10 = .ok (.getfield 15, 3) := by decide +kernel
theorem dX2_copyFrom_13 : decode cX2_copyFrom 13 = .ok (.putfield 15, 3) := by decide +kernel
theorem dX2_copyFrom_16 : decode cX2_copyFrom 16 = .ok (.aload_n 1, 1) := by decide +kernel
theorem dX2_copyFrom_17 : decode cX2_copyFrom 17 = .ok (.getfield 18, 3) := by decide +kernel
theorem dX2_copyFrom_20 : decode cX2_copyFrom 20 = .ok (.iconst 0, 1) := by decide +kernel
theorem dX2_copyFrom_21 : decode cX2_copyFrom 21 = .ok (.aload_n 0, 1) := by decide +kernel
theorem dX2_copyFrom_22 : decode cX2_copyFrom 22 = .ok (.getfield 18, 3) := by decide +kernel
theorem dX2_copyFrom_25 : decode cX2_copyFrom 25 = .ok (.iconst 0, 1) := by decide +kernel
theorem dX2_copyFrom_26 : decode cX2_copyFrom 26 = .ok (.aload_n 0, 1) := by decide +kernel
theorem dX2_copyFrom_27 : decode cX2_copyFrom 27 = .ok (.getfield 18, 3) := by decide +kernel
theorem dX2_copyFrom_30 : decode cX2_copyFrom 30 = .ok (.arraylength, 1) := by decide +kernel
theorem dX2_copyFrom_31 : decode cX2_copyFrom 31 = .ok (.invokestatic 35, 3) := by decide +kernel
theorem dX2_copyFrom_34 : decode cX2_copyFrom 34 = .ok (.aload_n 1, 1) := by decide +kernel
theorem dX2_copyFrom_35 : decode cX2_copyFrom 35 = .ok (.getfield 22, 3) := by decide +kernel
theorem dX2_copyFrom_38 : decode cX2_copyFrom 38 = .ok (.iconst 0, 1) := by decide +kernel
theorem dX2_copyFrom_39 : decode cX2_copyFrom 39 = .ok (.aload_n 0, 1) := by decide +kernel
theorem dX2_copyFrom_40 : decode cX2_copyFrom 40 = .ok (.getfield 22, 3) := by decide +kernel
theorem dX2_copyFrom_43 : decode cX2_copyFrom 43 = .ok (.iconst 0, 1) := by decide +kernel
theorem dX2_copyFrom_44 : decode cX2_copyFrom 44 = .ok (.aload_n 0, 1) := by decide +kernel
theorem dX2_copyFrom_45 : decode cX2_copyFrom 45 = .ok (.getfield 22, 3) := by decide +kernel
theorem dX2_copyFrom_48 : decode cX2_copyFrom 48 = .ok (.arraylength, 1) := by decide +kernel
theorem dX2_copyFrom_49 : decode cX2_copyFrom 49 = .ok (.invokestatic 35, 3) := by decide +kernel
theorem dX2_copyFrom_52 : decode cX2_copyFrom 52 = .ok (.aload_n 1, 1) := by decide +kernel
theorem dX2_copyFrom_53 : decode cX2_copyFrom 53 = .ok (.getfield 26, 3) := by decide +kernel
theorem dX2_copyFrom_56 : decode cX2_copyFrom 56 = .ok (.iconst 0, 1) := by decide +kernel
theorem dX2_copyFrom_57 : decode cX2_copyFrom 57 = .ok (.aload_n 0, 1) := by decide +kernel
theorem dX2_copyFrom_58 : decode cX2_copyFrom 58 = .ok (.getfield 26, 3) := by decide +kernel
theorem dX2_copyFrom_61 : decode cX2_copyFrom 61 = .ok (.iconst 0, 1) := by decide +kernel
theorem dX2_copyFrom_62 : decode cX2_copyFrom 62 = .ok (.aload_n 0, 1) := by decide +kernel
theorem dX2_copyFrom_63 : decode cX2_copyFrom 63 = .ok (.getfield 26, 3) := by decide +kernel
theorem dX2_copyFrom_66 : decode cX2_copyFrom 66 = .ok (.arraylength, 1) := by decide +kernel
theorem dX2_copyFrom_67 : decode cX2_copyFrom 67 = .ok (.invokestatic 35, 3) := by decide +kernel
theorem dX2_copyFrom_70 : decode cX2_copyFrom 70 = .ok (.aload_n 1, 1) := by decide +kernel
theorem dX2_copyFrom_71 : decode cX2_copyFrom 71 = .ok (.getfield 29, 3) := by decide +kernel
theorem dX2_copyFrom_74 : decode cX2_copyFrom 74 = .ok (.iconst 0, 1) := by decide +kernel
theorem dX2_copyFrom_75 : decode cX2_copyFrom 75 = .ok (.aload_n 0, 1) := by decide +kernel
theorem dX2_copyFrom_76 : decode cX2_copyFrom 76 = .ok (.getfield 29, 3) := by decide +kernel
theorem dX2_copyFrom_79 : decode cX2_copyFrom 79 = .ok (.iconst 0, 1) := by decide +kernel
theorem dX2_copyFrom_80 : decode cX2_copyFrom 80 = .ok (.aload_n 0, 1) := by decide +kernel
theorem dX2_copyFrom_81 : decode cX2_copyFrom 81 = .ok (.getfield 29, 3) := by decide +kernel
theorem dX2_copyFrom_84 : decode cX2_copyFrom 84 = .ok (.arraylength, 1) := by decide +kernel
theorem dX2_copyFrom_85 : decode cX2_copyFrom 85 = .ok (.invokestatic 35, 3) := by decide +kernel
theorem dX2_copyFrom_88 : decode cX2_copyFrom 88 = .ok (.return_, 1) := by decide +kernel
theorem dX2_ofShip_0 : decode cX2_ofShip 0 = .ok (.aload_n 0, 1) := by decide +kernel
theorem dX2_ofShip_1 : decode cX2_ofShip 1 = .ok (.getfield 22, 3) := by decide +kernel
theorem dX2_ofShip_4 : decode cX2_ofShip 4 = .ok (.iload_n 1, 1) := by decide +kernel
theorem dX2_ofShip_5 : decode cX2_ofShip 5 = .ok (.bipush 6, 2) := by decide +kernel
theorem dX2_ofShip_7 : decode cX2_ofShip 7 = .ok (.imul, 1) := by decide +kernel
theorem dX2_ofShip_8 : decode cX2_ofShip 8 = .ok (.iload_n 2, 1) := by decide +kernel
theorem dX2_ofShip_9 : decode cX2_ofShip 9 = .ok (.iadd, 1) := by decide +kernel
theorem dX2_ofShip_10 : decode cX2_ofShip 10 = .ok (.iaload, 1) := by decide +kernel
theorem dX2_ofShip_11 : decode cX2_ofShip 11 = .ok (.ireturn, 1) := by decide +kernel
theorem dX2_setShip_0 : decode cX2_setShip 0 = .ok (.aload_n 0, 1) := by decide +kernel
theorem dX2_setShip_1 : decode cX2_setShip 1 = .ok (.getfield 22, 3) := by decide +kernel
theorem dX2_setShip_4 : decode cX2_setShip 4 = .ok (.iload_n 1, 1) := by decide +kernel
theorem dX2_setShip_5 : decode cX2_setShip 5 = .ok (.bipush 6, 2) := by decide +kernel
theorem dX2_setShip_7 : decode cX2_setShip 7 = .ok (.imul, 1) := by decide +kernel
theorem dX2_setShip_8 : decode cX2_setShip 8 = .ok (.iload_n 2, 1) := by decide +kernel
theorem dX2_setShip_9 : decode cX2_setShip 9 = .ok (.iadd, 1) := by decide +kernel
theorem dX2_setShip_10 : decode cX2_setShip 10 = .ok (.iload_n 3, 1) := by decide +kernel
theorem dX2_setShip_11 : decode cX2_setShip 11 = .ok (.iastore, 1) := by decide +kernel
theorem dX2_setShip_12 : decode cX2_setShip 12 = .ok (.return_, 1) := by decide +kernel
theorem dX2_ofClaim_0 : decode cX2_ofClaim 0 = .ok (.aload_n 0, 1) := by decide +kernel
theorem dX2_ofClaim_1 : decode cX2_ofClaim 1 = .ok (.getfield 26, 3) := by decide +kernel
theorem dX2_ofClaim_4 : decode cX2_ofClaim 4 = .ok (.iload_n 1, 1) := by decide +kernel
theorem dX2_ofClaim_5 : decode cX2_ofClaim 5 = .ok (.iconst 4, 1) := by decide +kernel
theorem dX2_ofClaim_6 : decode cX2_ofClaim 6 = .ok (.imul, 1) := by decide +kernel
theorem dX2_ofClaim_7 : decode cX2_ofClaim 7 = .ok (.iload_n 2, 1) := by decide +kernel
theorem dX2_ofClaim_8 : decode cX2_ofClaim 8 = .ok (.iadd, 1) := by decide +kernel
theorem dX2_ofClaim_9 : decode cX2_ofClaim 9 = .ok (.iaload, 1) := by decide +kernel
theorem dX2_ofClaim_10 : decode cX2_ofClaim 10 = .ok (.ireturn, 1) := by decide +kernel
theorem dX2_holds_0 : decode cX2_holds 0 = .ok (.aload_n 0, 1) := by decide +kernel
theorem dX2_holds_1 : decode cX2_holds 1 = .ok (.getfield 29, 3) := by decide +kernel
theorem dX2_holds_4 : decode cX2_holds 4 = .ok (.iload_n 1, 1) := by decide +kernel
theorem dX2_holds_5 : decode cX2_holds 5 = .ok (.iaload, 1) := by decide +kernel
theorem dX2_holds_6 : decode cX2_holds 6 = .ok (.iconst 1, 1) := by decide +kernel
theorem dX2_holds_7 : decode cX2_holds 7 = .ok (.if_icmp .ne 7, 3) := by decide +kernel
theorem dX2_holds_10 : decode cX2_holds 10 = .ok (.iconst 1, 1) := by decide +kernel
theorem dX2_holds_11 : decode cX2_holds 11 = .ok (.goto 4, 3) := by decide +kernel
theorem dX2_holds_14 : decode cX2_holds 14 = .ok (.iconst 0, 1) := by decide +kernel
theorem dX2_holds_15 : decode cX2_holds 15 = .ok (.ireturn, 1) := by decide +kernel
theorem dX2_isGoods_0 : decode cX2_isGoods 0 = .ok (.aload_n 0, 1) := by decide +kernel
theorem dX2_isGoods_1 : decode cX2_isGoods 1 = .ok (.iload_n 1, 1) := by decide +kernel
theorem dX2_isGoods_2 : decode cX2_isGoods 2 = .ok (.iconst 0, 1) := by decide +kernel
theorem dX2_isGoods_3 : decode cX2_isGoods 3 = .ok (.invokevirtual 41, 3) := by decide +kernel
theorem dX2_isGoods_6 : decode cX2_isGoods 6 = .ok (.ifCond .ne 7, 3) := by decide +kernel
theorem dX2_isGoods_9 : decode cX2_isGoods 9 = .ok (.iconst 1, 1) := by decide +kernel
theorem dX2_isGoods_10 : decode cX2_isGoods 10 = .ok (.goto 4, 3) := by decide +kernel
theorem dX2_isGoods_13 : decode cX2_isGoods 13 = .ok (.iconst 0, 1) := by decide +kernel
theorem dX2_isGoods_14 : decode cX2_isGoods 14 = .ok (.ireturn, 1) := by decide +kernel
theorem dX2_shipNamed_0 : decode cX2_shipNamed 0 = .ok (.iconst 0, 1) := by decide +kernel
theorem dX2_shipNamed_1 : decode cX2_shipNamed 1 = .ok (.istore_n 3, 1) := by decide +kernel
theorem dX2_shipNamed_2 : decode cX2_shipNamed 2 = .ok (.iload_n 3, 1) := by decide +kernel
theorem dX2_shipNamed_3 : decode cX2_shipNamed 3 = .ok (.aload_n 0, 1) := by decide +kernel
theorem dX2_shipNamed_4 : decode cX2_shipNamed 4 = .ok (.getfield 9, 3) := by decide +kernel
theorem dX2_shipNamed_7 : decode cX2_shipNamed 7 = .ok (.if_icmp .ge 22, 3) := by decide +kernel
theorem dX2_shipNamed_10 : decode cX2_shipNamed 10 = .ok (.aload_n 0, 1) := by decide +kernel
theorem dX2_shipNamed_11 : decode cX2_shipNamed 11 = .ok (.getfield 18, 3) := by decide +kernel
theorem dX2_shipNamed_14 : decode cX2_shipNamed 14 = .ok (.iload_n 3, 1) := by decide +kernel
theorem dX2_shipNamed_15 : decode cX2_shipNamed 15 = .ok (.laload, 1) := by decide +kernel
theorem dX2_shipNamed_16 : decode cX2_shipNamed 16 = .ok (.lload_n 1, 1) := by decide +kernel
theorem dX2_shipNamed_17 : decode cX2_shipNamed 17 = .ok (.lcmp, 1) := by decide +kernel
theorem dX2_shipNamed_18 : decode cX2_shipNamed 18 = .ok (.ifCond .ne 5, 3) := by decide +kernel
theorem dX2_shipNamed_21 : decode cX2_shipNamed 21 = .ok (.iload_n 3, 1) := by decide +kernel
theorem dX2_shipNamed_22 : decode cX2_shipNamed 22 = .ok (.ireturn, 1) := by decide +kernel
theorem dX2_shipNamed_23 : decode cX2_shipNamed 23 = .ok (.iinc 3 1, 3) := by decide +kernel
theorem dX2_shipNamed_26 : decode cX2_shipNamed 26 = .ok (.goto (-24), 3) := by decide +kernel
theorem dX2_shipNamed_29 : decode cX2_shipNamed 29 = .ok (.iconst (-1), 1) := by decide +kernel
theorem dX2_shipNamed_30 : decode cX2_shipNamed 30 = .ok (.ireturn, 1) := by decide +kernel
theorem dX2_addShip_0 : decode cX2_addShip 0 = .ok (.aload_n 0, 1) := by decide +kernel
theorem dX2_addShip_1 : decode cX2_addShip 1 = .ok (.getfield 18, 3) := by decide +kernel
theorem dX2_addShip_4 : decode cX2_addShip 4 = .ok (.aload_n 0, 1) := by decide +kernel
theorem dX2_addShip_5 : decode cX2_addShip 5 = .ok (.getfield 9, 3) := by decide +kernel
theorem dX2_addShip_8 : decode cX2_addShip 8 = .ok (.lload_n 1, 1) := by decide +kernel
theorem dX2_addShip_9 : decode cX2_addShip 9 = .ok (.lastore, 1) := by decide +kernel
theorem dX2_addShip_10 : decode cX2_addShip 10 = .ok (.iconst 0, 1) := by decide +kernel
theorem dX2_addShip_11 : decode cX2_addShip 11 = .ok (.istore_n 3, 1) := by decide +kernel
theorem dX2_addShip_12 : decode cX2_addShip 12 = .ok (.iload_n 3, 1) := by decide +kernel
theorem dX2_addShip_13 : decode cX2_addShip 13 = .ok (.bipush 6, 2) := by decide +kernel
theorem dX2_addShip_15 : decode cX2_addShip 15 = .ok (.if_icmp .ge 19, 3) := by decide +kernel
theorem dX2_addShip_18 : decode cX2_addShip 18 = .ok (.aload_n 0, 1) := by decide +kernel
theorem dX2_addShip_19 : decode cX2_addShip 19 = .ok (.aload_n 0, 1) := by decide +kernel
theorem dX2_addShip_20 : decode cX2_addShip 20 = .ok (.getfield 9, 3) := by decide +kernel
theorem dX2_addShip_23 : decode cX2_addShip 23 = .ok (.iload_n 3, 1) := by decide +kernel
theorem dX2_addShip_24 : decode cX2_addShip 24 = .ok (.iconst 0, 1) := by decide +kernel
theorem dX2_addShip_25 : decode cX2_addShip 25 = .ok (.invokevirtual 45, 3) := by decide +kernel
theorem dX2_addShip_28 : decode cX2_addShip 28 = .ok (.iinc 3 1, 3) := by decide +kernel
theorem dX2_addShip_31 : decode cX2_addShip 31 = .ok (.goto (-19), 3) := by decide +kernel
theorem dX2_addShip_34 : decode cX2_addShip 34 = .ok (.aload_n 0, 1) := by decide +kernel
theorem dX2_addShip_35 : decode cX2_addShip 35 = .ok (.dup, 1) := by decide +kernel
theorem dX2_addShip_36 : decode cX2_addShip 36 = .ok (.getfield 9, 3) := by decide +kernel
theorem dX2_addShip_39 : decode cX2_addShip 39 = .ok (.iconst 1, 1) := by decide +kernel
theorem dX2_addShip_40 : decode cX2_addShip 40 = .ok (.iadd, 1) := by decide +kernel
theorem dX2_addShip_41 : decode cX2_addShip 41 = .ok (.putfield 9, 3) := by decide +kernel
theorem dX2_addShip_44 : decode cX2_addShip 44 = .ok (.return_, 1) := by decide +kernel
theorem dX2_addClaim_0 : decode cX2_addClaim 0 = .ok (.aload_n 0, 1) := by decide +kernel
theorem dX2_addClaim_1 : decode cX2_addClaim 1 = .ok (.getfield 15, 3) := by decide +kernel
theorem dX2_addClaim_4 : decode cX2_addClaim 4 = .ok (.iconst 4, 1) := by decide +kernel
theorem dX2_addClaim_5 : decode cX2_addClaim 5 = .ok (.imul, 1) := by decide +kernel
theorem dX2_addClaim_6 : decode cX2_addClaim 6 = .ok (.istore 5, 2) := by decide +kernel
theorem dX2_addClaim_8 : decode cX2_addClaim 8 = .ok (.aload_n 0, 1) := by decide +kernel
theorem dX2_addClaim_9 : decode cX2_addClaim 9 = .ok (.getfield 26, 3) := by decide +kernel
theorem dX2_addClaim_12 : decode cX2_addClaim 12 = .ok (.iload 5, 2) := by decide +kernel
theorem dX2_addClaim_14 : decode cX2_addClaim 14 = .ok (.iconst 0, 1) := by decide +kernel
theorem dX2_addClaim_15 : decode cX2_addClaim 15 = .ok (.iadd, 1) := by decide +kernel
theorem dX2_addClaim_16 : decode cX2_addClaim 16 = .ok (.iload_n 1, 1) := by decide +kernel
theorem dX2_addClaim_17 : decode cX2_addClaim 17 = .ok (.iastore, 1) := by decide +kernel
theorem dX2_addClaim_18 : decode cX2_addClaim 18 = .ok (.aload_n 0, 1) := by decide +kernel
theorem dX2_addClaim_19 : decode cX2_addClaim 19 = .ok (.getfield 26, 3) := by decide +kernel
theorem dX2_addClaim_22 : decode cX2_addClaim 22 = .ok (.iload 5, 2) := by decide +kernel
theorem dX2_addClaim_24 : decode cX2_addClaim 24 = .ok (.iconst 1, 1) := by decide +kernel
theorem dX2_addClaim_25 : decode cX2_addClaim 25 = .ok (.iadd, 1) := by decide +kernel
theorem dX2_addClaim_26 : decode cX2_addClaim 26 = .ok (.iload_n 1, 1) := by decide +kernel
theorem dX2_addClaim_27 : decode cX2_addClaim 27 = .ok (.ifCond .ne 7, 3) := by decide +kernel
theorem dX2_addClaim_30 : decode cX2_addClaim 30 = .ok (.iload_n 2, 1) := by decide +kernel
theorem dX2_addClaim_31 : decode cX2_addClaim 31 = .ok (.goto 5, 3) := by decide +kernel
theorem dX2_addClaim_34 : decode cX2_addClaim 34 = .ok (.bipush (-2), 2) := by decide +kernel
theorem dX2_addClaim_36 : decode cX2_addClaim 36 = .ok (.iastore, 1) := by decide +kernel
theorem dX2_addClaim_37 : decode cX2_addClaim 37 = .ok (.aload_n 0, 1) := by decide +kernel
theorem dX2_addClaim_38 : decode cX2_addClaim 38 = .ok (.getfield 26, 3) := by decide +kernel
theorem dX2_addClaim_41 : decode cX2_addClaim 41 = .ok (.iload 5, 2) := by decide +kernel
theorem dX2_addClaim_43 : decode cX2_addClaim 43 = .ok (.iconst 2, 1) := by decide +kernel
theorem dX2_addClaim_44 : decode cX2_addClaim 44 = .ok (.iadd, 1) := by decide +kernel
theorem dX2_addClaim_45 : decode cX2_addClaim 45 = .ok (.iload_n 3, 1) := by decide +kernel
theorem dX2_addClaim_46 : decode cX2_addClaim 46 = .ok (.iastore, 1) := by decide +kernel
theorem dX2_addClaim_47 : decode cX2_addClaim 47 = .ok (.aload_n 0, 1) := by decide +kernel
theorem dX2_addClaim_48 : decode cX2_addClaim 48 = .ok (.getfield 26, 3) := by decide +kernel
theorem dX2_addClaim_51 : decode cX2_addClaim 51 = .ok (.iload 5, 2) := by decide +kernel
theorem dX2_addClaim_53 : decode cX2_addClaim 53 = .ok (.iconst 3, 1) := by decide +kernel
theorem dX2_addClaim_54 : decode cX2_addClaim 54 = .ok (.iadd, 1) := by decide +kernel
theorem dX2_addClaim_55 : decode cX2_addClaim 55 = .ok (.iload 4, 2) := by decide +kernel
theorem dX2_addClaim_57 : decode cX2_addClaim 57 = .ok (.iastore, 1) := by decide +kernel
theorem dX2_addClaim_58 : decode cX2_addClaim 58 = .ok (.aload_n 0, 1) := by decide +kernel
theorem dX2_addClaim_59 : decode cX2_addClaim 59 = .ok (.dup, 1) := by decide +kernel
theorem dX2_addClaim_60 : decode cX2_addClaim 60 = .ok (.getfield 15, 3) := by decide +kernel
theorem dX2_addClaim_63 : decode cX2_addClaim 63 = .ok (.iconst 1, 1) := by decide +kernel
theorem dX2_addClaim_64 : decode cX2_addClaim 64 = .ok (.iadd, 1) := by decide +kernel
theorem dX2_addClaim_65 : decode cX2_addClaim 65 = .ok (.putfield 15, 3) := by decide +kernel
theorem dX2_addClaim_68 : decode cX2_addClaim 68 = .ok (.return_, 1) := by decide +kernel
theorem dX2_dropClaim_0 : decode cX2_dropClaim 0 = .ok (.aload_n 0, 1) := by decide +kernel
theorem dX2_dropClaim_1 : decode cX2_dropClaim 1 = .ok (.dup, 1) := by decide +kernel
theorem dX2_dropClaim_2 : decode cX2_dropClaim 2 = .ok (.getfield 15, 3) := by decide +kernel
theorem dX2_dropClaim_5 : decode cX2_dropClaim 5 = .ok (.iconst 1, 1) := by decide +kernel
theorem dX2_dropClaim_6 : decode cX2_dropClaim 6 = .ok (.isub, 1) := by decide +kernel
theorem dX2_dropClaim_7 : decode cX2_dropClaim 7 = .ok (.putfield 15, 3) := by decide +kernel
theorem dX2_dropClaim_10 : decode cX2_dropClaim 10 = .ok (.iload_n 1, 1) := by decide +kernel
theorem dX2_dropClaim_11 : decode cX2_dropClaim 11 = .ok (.iconst 4, 1) := by decide +kernel
theorem dX2_dropClaim_12 : decode cX2_dropClaim 12 = .ok (.imul, 1) := by decide +kernel
theorem dX2_dropClaim_13 : decode cX2_dropClaim 13 = .ok (.istore_n 2, 1) := by decide +kernel
theorem dX2_dropClaim_14 : decode cX2_dropClaim 14 = .ok (.iload_n 2, 1) := by decide +kernel
theorem dX2_dropClaim_15 : decode cX2_dropClaim 15 = .ok (.aload_n 0, 1) := by decide +kernel
theorem dX2_dropClaim_16 : decode cX2_dropClaim 16 = .ok (.getfield 15, 3) := by decide +kernel
theorem dX2_dropClaim_19 : decode cX2_dropClaim 19 = .ok (.iconst 4, 1) := by decide +kernel
theorem dX2_dropClaim_20 : decode cX2_dropClaim 20 = .ok (.imul, 1) := by decide +kernel
theorem dX2_dropClaim_21 : decode cX2_dropClaim 21 = .ok (.if_icmp .ge 23, 3) := by decide +kernel
theorem dX2_dropClaim_24 : decode cX2_dropClaim 24 = .ok (.aload_n 0, 1) := by decide +kernel
theorem dX2_dropClaim_25 : decode cX2_dropClaim 25 = .ok (.getfield 26, 3) := by decide +kernel
theorem dX2_dropClaim_28 : decode cX2_dropClaim 28 = .ok (.iload_n 2, 1) := by decide +kernel
theorem dX2_dropClaim_29 : decode cX2_dropClaim 29 = .ok (.aload_n 0, 1) := by decide +kernel
theorem dX2_dropClaim_30 : decode cX2_dropClaim 30 = .ok (.getfield 26, 3) := by decide +kernel
theorem dX2_dropClaim_33 : decode cX2_dropClaim 33 = .ok (.iload_n 2, 1) := by decide +kernel
theorem dX2_dropClaim_34 : decode cX2_dropClaim 34 = .ok (.iconst 4, 1) := by decide +kernel
theorem dX2_dropClaim_35 : decode cX2_dropClaim 35 = .ok (.iadd, 1) := by decide +kernel
theorem dX2_dropClaim_36 : decode cX2_dropClaim 36 = .ok (.iaload, 1) := by decide +kernel
theorem dX2_dropClaim_37 : decode cX2_dropClaim 37 = .ok (.iastore, 1) := by decide +kernel
theorem dX2_dropClaim_38 : decode cX2_dropClaim 38 = .ok (.iinc 2 1, 3) := by decide +kernel
theorem dX2_dropClaim_41 : decode cX2_dropClaim 41 = .ok (.goto (-27), 3) := by decide +kernel
theorem dX2_dropClaim_44 : decode cX2_dropClaim 44 = .ok (.return_, 1) := by decide +kernel
theorem dX2_faultsTogether_0 : decode cX2_faultsTogether 0 = .ok (.iconst 0, 1) := by decide +kernel
theorem dX2_faultsTogether_1 : decode cX2_faultsTogether 1 = .ok (.istore_n 1, 1) := by decide +kernel
theorem dX2_faultsTogether_2 : decode cX2_faultsTogether 2 = .ok (.iconst 0, 1) := by decide +kernel
theorem dX2_faultsTogether_3 : decode cX2_faultsTogether 3 = .ok (.istore_n 2, 1) := by decide +kernel
theorem dX2_faultsTogether_4 : decode cX2_faultsTogether 4 = .ok (.iload_n 2, 1) := by decide +kernel
theorem dX2_faultsTogether_5 : decode cX2_faultsTogether 5 = .ok (.aload_n 0, 1) := by decide +kernel
theorem dX2_faultsTogether_6 : decode cX2_faultsTogether 6 = .ok (.getfield 9, 3) := by decide +kernel
theorem dX2_faultsTogether_9 : decode cX2_faultsTogether 9 = .ok (.if_icmp .ge 18, 3) := by decide +kernel
theorem dX2_faultsTogether_12 : decode cX2_faultsTogether 12 = .ok (.iload_n 1, 1) := by decide +kernel
theorem dX2_faultsTogether_13 : decode cX2_faultsTogether 13 = .ok (.aload_n 0, 1) := by decide +kernel
theorem dX2_faultsTogether_14 : decode cX2_faultsTogether 14 = .ok (.iload_n 2, 1) := by decide +kernel
theorem dX2_faultsTogether_15 : decode cX2_faultsTogether 15 = .ok (.iconst 1, 1) := by decide +kernel
theorem dX2_faultsTogether_16 : decode cX2_faultsTogether 16 = .ok (.invokevirtual 49, 3) := by decide +kernel
theorem dX2_faultsTogether_19 : decode cX2_faultsTogether 19 = .ok (.iadd, 1) := by decide +kernel
theorem dX2_faultsTogether_20 : decode cX2_faultsTogether 20 = .ok (.istore_n 1, 1) := by decide +kernel
theorem dX2_faultsTogether_21 : decode cX2_faultsTogether 21 = .ok (.iinc 2 1, 3) := by decide +kernel
theorem dX2_faultsTogether_24 : decode cX2_faultsTogether 24 = .ok (.goto (-20), 3) := by decide +kernel
theorem dX2_faultsTogether_27 : decode cX2_faultsTogether 27 = .ok (.iload_n 1, 1) := by decide +kernel
theorem dX2_faultsTogether_28 : decode cX2_faultsTogether 28 = .ok (.ireturn, 1) := by decide +kernel
theorem dX2_weightOf_0 : decode cX2_weightOf 0 = .ok (.aload_n 0, 1) := by decide +kernel
theorem dX2_weightOf_1 : decode cX2_weightOf 1 = .ok (.iload_n 1, 1) := by decide +kernel
theorem dX2_weightOf_2 : decode cX2_weightOf 2 = .ok (.iconst 1, 1) := by decide +kernel
theorem dX2_weightOf_3 : decode cX2_weightOf 3 = .ok (.invokevirtual 49, 3) := by decide +kernel
theorem dX2_weightOf_6 : decode cX2_weightOf 6 = .ok (.istore_n 2, 1) := by decide +kernel
theorem dX2_weightOf_7 : decode cX2_weightOf 7 = .ok (.aload_n 0, 1) := by decide +kernel
theorem dX2_weightOf_8 : decode cX2_weightOf 8 = .ok (.iconst 2, 1) := by decide +kernel
theorem dX2_weightOf_9 : decode cX2_weightOf 9 = .ok (.invokevirtual 52, 3) := by decide +kernel
theorem dX2_weightOf_12 : decode cX2_weightOf 12 = .ok (.ifCond .eq 11, 3) := by decide +kernel
theorem dX2_weightOf_15 : decode cX2_weightOf 15 = .ok (.iload_n 2, 1) := by decide +kernel
theorem dX2_weightOf_16 : decode cX2_weightOf 16 = .ok (.iconst 1, 1) := by decide +kernel
theorem dX2_weightOf_17 : decode cX2_weightOf 17 = .ok (.invokestatic 56, 3) := by decide +kernel
theorem dX2_weightOf_20 : decode cX2_weightOf 20 = .ok (.goto 4, 3) := by decide +kernel
theorem dX2_weightOf_23 : decode cX2_weightOf 23 = .ok (.iload_n 2, 1) := by decide +kernel
theorem dX2_weightOf_24 : decode cX2_weightOf 24 = .ok (.ireturn, 1) := by decide +kernel
theorem dX2_roundOf_0 : decode cX2_roundOf 0 = .ok (.aload_n 0, 1) := by decide +kernel
theorem dX2_roundOf_1 : decode cX2_roundOf 1 = .ok (.iload_n 1, 1) := by decide +kernel
theorem dX2_roundOf_2 : decode cX2_roundOf 2 = .ok (.iconst 3, 1) := by decide +kernel
theorem dX2_roundOf_3 : decode cX2_roundOf 3 = .ok (.invokevirtual 41, 3) := by decide +kernel
theorem dX2_roundOf_6 : decode cX2_roundOf 6 = .ok (.istore_n 2, 1) := by decide +kernel
theorem dX2_roundOf_7 : decode cX2_roundOf 7 = .ok (.iload_n 2, 1) := by decide +kernel
theorem dX2_roundOf_8 : decode cX2_roundOf 8 = .ok (.aload_n 0, 1) := by decide +kernel
theorem dX2_roundOf_9 : decode cX2_roundOf 9 = .ok (.getfield 29, 3) := by decide +kernel
theorem dX2_roundOf_12 : decode cX2_roundOf 12 = .ok (.bipush 9, 2) := by decide +kernel
theorem dX2_roundOf_14 : decode cX2_roundOf 14 = .ok (.iaload, 1) := by decide +kernel
theorem dX2_roundOf_15 : decode cX2_roundOf 15 = .ok (.if_icmp .le 6, 3) := by decide +kernel
theorem dX2_roundOf_18 : decode cX2_roundOf 18 = .ok (.bipush (-2), 2) := by decide +kernel
theorem dX2_roundOf_20 : decode cX2_roundOf 20 = .ok (.ireturn, 1) := by decide +kernel
theorem dX2_roundOf_21 : decode cX2_roundOf 21 = .ok (.iload_n 2, 1) := by decide +kernel
theorem dX2_roundOf_22 : decode cX2_roundOf 22 = .ok (.aload_n 0, 1) := by decide +kernel
theorem dX2_roundOf_23 : decode cX2_roundOf 23 = .ok (.getfield 29, 3) := by decide +kernel
theorem dX2_roundOf_26 : decode cX2_roundOf 26 = .ok (.bipush 8, 2) := by decide +kernel
theorem dX2_roundOf_28 : decode cX2_roundOf 28 = .ok (.iaload, 1) := by decide +kernel
theorem dX2_roundOf_29 : decode cX2_roundOf 29 = .ok (.if_icmp .le 7, 3) := by decide +kernel
theorem dX2_roundOf_32 : decode cX2_roundOf 32 = .ok (.iconst 1, 1) := by decide +kernel
theorem dX2_roundOf_33 : decode cX2_roundOf 33 = .ok (.goto 4, 3) := by decide +kernel
theorem dX2_roundOf_36 : decode cX2_roundOf 36 = .ok (.iconst 0, 1) := by decide +kernel
theorem dX2_roundOf_37 : decode cX2_roundOf 37 = .ok (.ireturn, 1) := by decide +kernel
theorem dX2_fundTons_0 : decode cX2_fundTons 0 = .ok (.aload_n 0, 1) := by decide +kernel
theorem dX2_fundTons_1 : decode cX2_fundTons 1 = .ok (.iload_n 1, 1) := by decide +kernel
theorem dX2_fundTons_2 : decode cX2_fundTons 2 = .ok (.iconst 0, 1) := by decide +kernel
theorem dX2_fundTons_3 : decode cX2_fundTons 3 = .ok (.invokevirtual 49, 3) := by decide +kernel
theorem dX2_fundTons_6 : decode cX2_fundTons 6 = .ok (.aload_n 0, 1) := by decide +kernel
theorem dX2_fundTons_7 : decode cX2_fundTons 7 = .ok (.getfield 29, 3) := by decide +kernel
theorem dX2_fundTons_10 : decode cX2_fundTons 10 = .ok (.bipush 7, 2) := by decide +kernel
theorem dX2_fundTons_12 : decode cX2_fundTons 12 = .ok (.iaload, 1) := by decide +kernel
theorem dX2_fundTons_13 : decode cX2_fundTons 13 = .ok (.invokestatic 61, 3) := by decide +kernel
theorem dX2_fundTons_16 : decode cX2_fundTons 16 = .ok (.i2l, 1) := by decide +kernel
theorem dX2_fundTons_17 : decode cX2_fundTons 17 = .ok (.lreturn, 1) := by decide +kernel
theorem dX2_fundOf_0 : decode cX2_fundOf 0 = .ok (.aload_n 0, 1) := by decide +kernel
theorem dX2_fundOf_1 : decode cX2_fundOf 1 = .ok (.iload_n 1, 1) := by decide +kernel
theorem dX2_fundOf_2 : decode cX2_fundOf 2 = .ok (.invokevirtual 64, 3) := by decide +kernel
theorem dX2_fundOf_5 : decode cX2_fundOf 5 = .ok (.aload_n 0, 1) := by decide +kernel
theorem dX2_fundOf_6 : decode cX2_fundOf 6 = .ok (.getfield 29, 3) := by decide +kernel
theorem dX2_fundOf_9 : decode cX2_fundOf 9 = .ok (.iload_n 2, 1) := by decide +kernel
theorem dX2_fundOf_10 : decode cX2_fundOf 10 = .ok (.iaload, 1) := by decide +kernel
theorem dX2_fundOf_11 : decode cX2_fundOf 11 = .ok (.i2l, 1) := by decide +kernel
theorem dX2_fundOf_12 : decode cX2_fundOf 12 = .ok (.lmul, 1) := by decide +kernel
theorem dX2_fundOf_13 : decode cX2_fundOf 13 = .ok (.ldc2_w 68, 3) := by decide +kernel
theorem dX2_fundOf_16 : decode cX2_fundOf 16 = .ok (.invokestatic 70, 3) := by decide +kernel
theorem dX2_fundOf_19 : decode cX2_fundOf 19 = .ok (.lreturn, 1) := by decide +kernel
theorem dX2_drawFaults_0 : decode cX2_drawFaults 0 = .ok (.iconst 0, 1) := by decide +kernel
theorem dX2_drawFaults_1 : decode cX2_drawFaults 1 = .ok (.istore_n 3, 1) := by decide +kernel
theorem dX2_drawFaults_2 : decode cX2_drawFaults 2 = .ok (.iload_n 3, 1) := by decide +kernel
theorem dX2_drawFaults_3 : decode cX2_drawFaults 3 = .ok (.aload_n 0, 1) := by decide +kernel
theorem dX2_drawFaults_4 : decode cX2_drawFaults 4 = .ok (.getfield 9, 3) := by decide +kernel
theorem dX2_drawFaults_7 : decode cX2_drawFaults 7 = .ok (.if_icmp .ge 16, 3) := by decide +kernel
theorem dX2_drawFaults_10 : decode cX2_drawFaults 10 = .ok (.aload_n 0, 1) := by decide +kernel
theorem dX2_drawFaults_11 : decode cX2_drawFaults 11 = .ok (.iload_n 3, 1) := by decide +kernel
theorem dX2_drawFaults_12 : decode cX2_drawFaults 12 = .ok (.iconst 1, 1) := by decide +kernel
theorem dX2_drawFaults_13 : decode cX2_drawFaults 13 = .ok (.iconst 0, 1) := by decide +kernel
theorem dX2_drawFaults_14 : decode cX2_drawFaults 14 = .ok (.invokevirtual 45, 3) := by decide +kernel
theorem dX2_drawFaults_17 : decode cX2_drawFaults 17 = .ok (.iinc 3 1, 3) := by decide +kernel
theorem dX2_drawFaults_20 : decode cX2_drawFaults 20 = .ok (.goto (-18), 3) := by decide +kernel
theorem dX2_drawFaults_23 : decode cX2_drawFaults 23 = .ok (.lload_n 1, 1) := by decide +kernel
theorem dX2_drawFaults_24 : decode cX2_drawFaults 24 = .ok (.lstore_n 3, 1) := by decide +kernel
theorem dX2_drawFaults_25 : decode cX2_drawFaults 25 = .ok (.iconst 0, 1) := by decide +kernel
theorem dX2_drawFaults_26 : decode cX2_drawFaults 26 = .ok (.istore 5, 2) := by decide +kernel
theorem dX2_drawFaults_28 : decode cX2_drawFaults 28 = .ok (.iload 5, 2) := by decide +kernel
theorem dX2_drawFaults_30 : decode cX2_drawFaults 30 = .ok (.bipush 10, 2) := by decide +kernel
theorem dX2_drawFaults_32 : decode cX2_drawFaults 32 = .ok (.if_icmp .ge 52, 3) := by decide +kernel
theorem dX2_drawFaults_35 : decode cX2_drawFaults 35 = .ok (.aload_n 0, 1) := by decide +kernel
theorem dX2_drawFaults_36 : decode cX2_drawFaults 36 = .ok (.getfield 9, 3) := by decide +kernel
theorem dX2_drawFaults_39 : decode cX2_drawFaults 39 = .ok (.ifCond .le 45, 3) := by decide +kernel
theorem dX2_drawFaults_42 : decode cX2_drawFaults 42 = .ok (.ldc2_w 73, 3) := by decide +kernel
theorem dX2_drawFaults_45 : decode cX2_drawFaults 45 = .ok (.lload_n 3, 1) := by decide +kernel
theorem dX2_drawFaults_46 : decode cX2_drawFaults 46 = .ok (.lmul, 1) := by decide +kernel
theorem dX2_drawFaults_47 : decode cX2_drawFaults 47 = .ok (.ldc2_w 75, 3) := by decide +kernel
theorem dX2_drawFaults_50 : decode cX2_drawFaults 50 = .ok (.lrem, 1) := by decide +kernel
theorem dX2_drawFaults_51 : decode cX2_drawFaults 51 = .ok (.lstore_n 3, 1) := by decide +kernel
theorem dX2_drawFaults_52 : decode cX2_drawFaults 52 = .ok (.lload_n 3, 1) := by decide +kernel
theorem dX2_drawFaults_53 : decode cX2_drawFaults 53 = .ok (.aload_n 0, 1) := by decide +kernel
theorem dX2_drawFaults_54 : decode cX2_drawFaults 54 = .ok (.getfield 9, 3) := by decide +kernel
theorem dX2_drawFaults_57 : decode cX2_drawFaults 57 = .ok (.i2l, 1) := by decide +kernel
theorem dX2_drawFaults_58 : decode cX2_drawFaults 58 = .ok (.lrem, 1) := by decide +kernel
theorem dX2_drawFaults_59 : decode cX2_drawFaults 59 = .ok (.l2i, 1) := by decide +kernel
theorem dX2_drawFaults_60 : decode cX2_drawFaults 60 = .ok (.istore 6, 2) := by decide +kernel
theorem dX2_drawFaults_62 : decode cX2_drawFaults 62 = .ok (.aload_n 0, 1) := by decide +kernel
theorem dX2_drawFaults_63 : decode cX2_drawFaults 63 = .ok (.iload 6, 2) := by decide +kernel
theorem dX2_drawFaults_65 : decode cX2_drawFaults 65 = .ok (.iconst 1, 1) := by decide +kernel
theorem dX2_drawFaults_66 : decode cX2_drawFaults 66 = .ok (.aload_n 0, 1) := by decide +kernel
theorem dX2_drawFaults_67 : decode cX2_drawFaults 67 = .ok (.iload 6, 2) := by decide +kernel
theorem dX2_drawFaults_69 : decode cX2_drawFaults 69 = .ok (.iconst 1, 1) := by decide +kernel
theorem dX2_drawFaults_70 : decode cX2_drawFaults 70 = .ok (.invokevirtual 49, 3) := by decide +kernel
theorem dX2_drawFaults_73 : decode cX2_drawFaults 73 = .ok (.iconst 1, 1) := by decide +kernel
theorem dX2_drawFaults_74 : decode cX2_drawFaults 74 = .ok (.iadd, 1) := by decide +kernel
theorem dX2_drawFaults_75 : decode cX2_drawFaults 75 = .ok (.invokevirtual 45, 3) := by decide +kernel
theorem dX2_drawFaults_78 : decode cX2_drawFaults 78 = .ok (.iinc 5 1, 3) := by decide +kernel
theorem dX2_drawFaults_81 : decode cX2_drawFaults 81 = .ok (.goto (-53), 3) := by decide +kernel
theorem dX2_drawFaults_84 : decode cX2_drawFaults 84 = .ok (.lload_n 3, 1) := by decide +kernel
theorem dX2_drawFaults_85 : decode cX2_drawFaults 85 = .ok (.lreturn, 1) := by decide +kernel
theorem dJ9_max_7cf53_0 : decode cJ9_max_7cf53 0 = .ok (.iload_n 0, 1) := by decide +kernel
theorem dJ9_max_7cf53_1 : decode cJ9_max_7cf53 1 = .ok (.iload_n 1, 1) := by decide +kernel
theorem dJ9_max_7cf53_2 : decode cJ9_max_7cf53 2 = .ok (.if_icmp .lt 7, 3) := by decide +kernel
theorem dJ9_max_7cf53_5 : decode cJ9_max_7cf53 5 = .ok (.iload_n 0, 1) := by decide +kernel
theorem dJ9_max_7cf53_6 : decode cJ9_max_7cf53 6 = .ok (.goto 4, 3) := by decide +kernel
theorem dJ9_max_7cf53_9 : decode cJ9_max_7cf53 9 = .ok (.iload_n 1, 1) := by decide +kernel
theorem dJ9_max_7cf53_10 : decode cJ9_max_7cf53 10 = .ok (.ireturn, 1) := by decide +kernel
theorem dJ9_max_f86c9_0 : decode cJ9_max_f86c9 0 = .ok (.lload_n 0, 1) := by decide +kernel
theorem dJ9_max_f86c9_1 : decode cJ9_max_f86c9 1 = .ok (.lload_n 2, 1) := by decide +kernel
theorem dJ9_max_f86c9_2 : decode cJ9_max_f86c9 2 = .ok (.lcmp, 1) := by decide +kernel
theorem dJ9_max_f86c9_3 : decode cJ9_max_f86c9 3 = .ok (.ifCond .lt 7, 3) := by decide +kernel
theorem dJ9_max_f86c9_6 : decode cJ9_max_f86c9 6 = .ok (.lload_n 0, 1) := by decide +kernel
theorem dJ9_max_f86c9_7 : decode cJ9_max_f86c9 7 = .ok (.goto 4, 3) := by decide +kernel
theorem dJ9_max_f86c9_10 : decode cJ9_max_f86c9 10 = .ok (.lload_n 2, 1) := by decide +kernel
theorem dJ9_max_f86c9_11 : decode cJ9_max_f86c9 11 = .ok (.lreturn, 1) := by decide +kernel
theorem dJ9_min_7cf53_0 : decode cJ9_min_7cf53 0 = .ok (.iload_n 0, 1) := by decide +kernel
theorem dJ9_min_7cf53_1 : decode cJ9_min_7cf53 1 = .ok (.iload_n 1, 1) := by decide +kernel
theorem dJ9_min_7cf53_2 : decode cJ9_min_7cf53 2 = .ok (.if_icmp .gt 7, 3) := by decide +kernel
theorem dJ9_min_7cf53_5 : decode cJ9_min_7cf53 5 = .ok (.iload_n 0, 1) := by decide +kernel
theorem dJ9_min_7cf53_6 : decode cJ9_min_7cf53 6 = .ok (.goto 4, 3) := by decide +kernel
theorem dJ9_min_7cf53_9 : decode cJ9_min_7cf53 9 = .ok (.iload_n 1, 1) := by decide +kernel
theorem dJ9_min_7cf53_10 : decode cJ9_min_7cf53 10 = .ok (.ireturn, 1) := by decide +kernel
theorem dJ9_min_f86c9_0 : decode cJ9_min_f86c9 0 = .ok (.lload_n 0, 1) := by decide +kernel
theorem dJ9_min_f86c9_1 : decode cJ9_min_f86c9 1 = .ok (.lload_n 2, 1) := by decide +kernel
theorem dJ9_min_f86c9_2 : decode cJ9_min_f86c9 2 = .ok (.lcmp, 1) := by decide +kernel
theorem dJ9_min_f86c9_3 : decode cJ9_min_f86c9 3 = .ok (.ifCond .gt 7, 3) := by decide +kernel
theorem dJ9_min_f86c9_6 : decode cJ9_min_f86c9 6 = .ok (.lload_n 0, 1) := by decide +kernel
theorem dJ9_min_f86c9_7 : decode cJ9_min_f86c9 7 = .ok (.goto 4, 3) := by decide +kernel
theorem dJ9_min_f86c9_10 : decode cJ9_min_f86c9 10 = .ok (.lload_n 2, 1) := by decide +kernel
theorem dJ9_min_f86c9_11 : decode cJ9_min_f86c9 11 = .ok (.lreturn, 1) := by decide +kernel
theorem dJ7_fill_d0a16_0 : decode cJ7_fill_d0a16 0 = .ok (.iconst 0, 1) := by decide +kernel
theorem dJ7_fill_d0a16_1 : decode cJ7_fill_d0a16 1 = .ok (.istore_n 3, 1) := by decide +kernel
theorem dJ7_fill_d0a16_2 : decode cJ7_fill_d0a16 2 = .ok (.aload_n 0, 1) := by decide +kernel
theorem dJ7_fill_d0a16_3 : decode cJ7_fill_d0a16 3 = .ok (.arraylength, 1) := by decide +kernel
theorem dJ7_fill_d0a16_4 : decode cJ7_fill_d0a16 4 = .ok (.istore 4, 2) := by decide +kernel
theorem dJ7_fill_d0a16_6 : decode cJ7_fill_d0a16 6 = .ok (.iload_n 3, 1) := by decide +kernel
theorem dJ7_fill_d0a16_7 : decode cJ7_fill_d0a16 7 = .ok (.iload 4, 2) := by decide +kernel
theorem dJ7_fill_d0a16_9 : decode cJ7_fill_d0a16 9 = .ok (.if_icmp .ge 13, 3) := by decide +kernel
theorem dJ7_fill_d0a16_12 : decode cJ7_fill_d0a16 12 = .ok (.aload_n 0, 1) := by decide +kernel
theorem dJ7_fill_d0a16_13 : decode cJ7_fill_d0a16 13 = .ok (.iload_n 3, 1) := by decide +kernel
theorem dJ7_fill_d0a16_14 : decode cJ7_fill_d0a16 14 = .ok (.lload_n 1, 1) := by decide +kernel
theorem dJ7_fill_d0a16_15 : decode cJ7_fill_d0a16 15 = .ok (.lastore, 1) := by decide +kernel
theorem dJ7_fill_d0a16_16 : decode cJ7_fill_d0a16 16 = .ok (.iinc 3 1, 3) := by decide +kernel
theorem dJ7_fill_d0a16_19 : decode cJ7_fill_d0a16 19 = .ok (.goto (-13), 3) := by decide +kernel
theorem dJ7_fill_d0a16_22 : decode cJ7_fill_d0a16 22 = .ok (.return_, 1) := by decide +kernel
end
section
theorem dX4_init_0 : decode cX4_init 0 = .ok (.aload_n 0, 1) := by decide +kernel
theorem dX4_init_1 : decode cX4_init 1 = .ok (.invokespecial 1, 3) := by decide +kernel
theorem dX4_init_4 : decode cX4_init 4 = .ok (.aload_n 0, 1) := by decide +kernel
theorem dX4_init_5 : decode cX4_init 5 = .ok (.new 7, 3) := by decide +kernel
theorem dX4_init_8 : decode cX4_init 8 = .ok (.dup, 1) := by decide +kernel
theorem dX4_init_9 : decode cX4_init 9 = .ok (.invokespecial 9, 3) := by decide +kernel
theorem dX4_init_12 : decode cX4_init 12 = .ok (.putfield 10, 3) := by decide +kernel
theorem dX4_init_15 : decode cX4_init 15 = .ok (.aload_n 0, 1) := by decide +kernel
theorem dX4_init_16 : decode cX4_init 16 = .ok (.new 16, 3) := by decide +kernel
theorem dX4_init_19 : decode cX4_init 19 = .ok (.dup, 1) := by decide +kernel
theorem dX4_init_20 : decode cX4_init 20 = .ok (.invokespecial 18, 3) := by decide +kernel
theorem dX4_init_23 : decode cX4_init 23 = .ok (.putfield 19, 3) := by decide +kernel
theorem dX4_init_26 : decode cX4_init 26 = .ok (.aload_n 0, 1) := by decide +kernel
theorem dX4_init_27 : decode cX4_init 27 = .ok (.new 23, 3) := by decide +kernel
theorem dX4_init_30 : decode cX4_init 30 = .ok (.dup, 1) := by decide +kernel
theorem dX4_init_31 : decode cX4_init 31 = .ok (.invokespecial 25, 3) := by decide +kernel
theorem dX4_init_34 : decode cX4_init 34 = .ok (.putfield 26, 3) := by decide +kernel
theorem dX4_init_37 : decode cX4_init 37 = .ok (.aload_n 0, 1) := by decide +kernel
theorem dX4_init_38 : decode cX4_init 38 = .ok (.bipush 10, 2) := by decide +kernel
theorem dX4_init_40 : decode cX4_init 40 = .ok (.anewarray 16, 3) := by decide +kernel
theorem dX4_init_43 : decode cX4_init 43 = .ok (.putfield 30, 3) := by decide +kernel
theorem dX4_init_46 : decode cX4_init 46 = .ok (.aload_n 0, 1) := by decide +kernel
theorem dX4_init_47 : decode cX4_init 47 = .ok (.iconst 2, 1) := by decide +kernel
theorem dX4_init_48 : decode cX4_init 48 = .ok (.anewarray 16, 3) := by decide +kernel
theorem dX4_init_51 : decode cX4_init 51 = .ok (.putfield 34, 3) := by decide +kernel
theorem dX4_init_54 : decode cX4_init 54 = .ok (.aload_n 0, 1) := by decide +kernel
theorem dX4_init_55 : decode cX4_init 55 = .ok (.iconst 2, 1) := by decide +kernel
theorem dX4_init_56 : decode cX4_init 56 = .ok (.newarray .boolean, 2) := by decide +kernel
theorem dX4_init_58 : decode cX4_init 58 = .ok (.putfield 37, 3) := by decide +kernel
theorem dX4_init_61 : decode cX4_init 61 = .ok (.aload_n 0, 1) := by decide +kernel
theorem dX4_init_62 : decode cX4_init 62 = .ok (.iconst 0, 1) := by decide +kernel
theorem dX4_init_63 : decode cX4_init 63 = .ok (.putfield 41, 3) := by decide +kernel
theorem dX4_init_66 : decode cX4_init 66 = .ok (.aload_n 0, 1) := by decide +kernel
theorem dX4_init_67 : decode cX4_init 67 = .ok (.iconst 0, 1) := by decide +kernel
theorem dX4_init_68 : decode cX4_init 68 = .ok (.putfield 45, 3) := by decide +kernel
theorem dX4_init_71 : decode cX4_init 71 = .ok (.aload_n 0, 1) := by decide +kernel
theorem dX4_init_72 : decode cX4_init 72 = .ok (.iconst 0, 1) := by decide +kernel
theorem dX4_init_73 : decode cX4_init 73 = .ok (.putfield 48, 3) := by decide +kernel
theorem dX4_init_76 : decode cX4_init 76 = .ok (.aload_n 0, 1) := by decide +kernel
theorem dX4_init_77 : decode cX4_init 77 = .ok (.iconst 0, 1) := by decide +kernel
theorem dX4_init_78 : decode cX4_init 78 = .ok (.putfield 51, 3) := by decide +kernel
theorem dX4_init_81 : decode cX4_init 81 = .ok (.aload_n 0, 1) := by decide +kernel
theorem dX4_init_82 : decode cX4_init 82 = .ok (.iconst (-1), 1) := by decide +kernel
theorem dX4_init_83 : decode cX4_init 83 = .ok (.putfield 54, 3) := by decide +kernel
theorem dX4_init_86 : decode cX4_init 86 = .ok (.aload_n 0, 1) := by decide +kernel
theorem dX4_init_87 : decode cX4_init 87 = .ok (.iconst 0, 1) := by decide +kernel
theorem dX4_init_88 : decode cX4_init 88 = .ok (.putfield 57, 3) := by decide +kernel
theorem dX4_init_91 : decode cX4_init 91 = .ok (.iconst 0, 1) := by decide +kernel
theorem dX4_init_92 : decode cX4_init 92 = .ok (.istore_n 1, 1) := by decide +kernel
theorem dX4_init_93 : decode cX4_init 93 = .ok (.iload_n 1, 1) := by decide +kernel
theorem dX4_init_94 : decode cX4_init 94 = .ok (.bipush 10, 2) := by decide +kernel
theorem dX4_init_96 : decode cX4_init 96 = .ok (.if_icmp .ge 22, 3) := by decide +kernel
theorem dX4_init_99 : decode cX4_init 99 = .ok (.aload_n 0, 1) := by decide +kernel
theorem dX4_init_100 : decode cX4_init 100 = .ok (.getfield 30, 3) := by decide +kernel
theorem dX4_init_103 : decode cX4_init 103 = .ok (.iload_n 1, 1) := by decide +kernel
theorem dX4_init_104 : decode cX4_init 104 = .ok (.new 16, 3) := by decide +kernel
theorem dX4_init_107 : decode cX4_init 107 = .ok (.dup, 1) := by decide +kernel
theorem dX4_init_108 : decode cX4_init 108 = .ok (.invokespecial 18, 3) := by decide +kernel
theorem dX4_init_111 : decode cX4_init 111 = .ok (.aastore, 1) := by decide +kernel
theorem dX4_init_112 : decode cX4_init 112 = .ok (.iinc 1 1, 3) := by decide +kernel
theorem dX4_init_115 : decode cX4_init 115 = .ok (.goto (-22), 3) := by decide +kernel
theorem dX4_init_118 : decode cX4_init 118 = .ok (.iconst 0, 1) := by decide +kernel
theorem dX4_init_119 : decode cX4_init 119 = .ok (.istore_n 1, 1) := by decide +kernel
theorem dX4_init_120 : decode cX4_init 120 = .ok (.iload_n 1, 1) := by decide +kernel
theorem dX4_init_121 : decode cX4_init 121 = .ok (.iconst 2, 1) := by decide +kernel
theorem dX4_init_122 : decode cX4_init 122 = .ok (.if_icmp .ge 22, 3) := by decide +kernel
theorem dX4_init_125 : decode cX4_init 125 = .ok (.aload_n 0, 1) := by decide +kernel
theorem dX4_init_126 : decode cX4_init 126 = .ok (.getfield 34, 3) := by decide +kernel
theorem dX4_init_129 : decode cX4_init 129 = .ok (.iload_n 1, 1) := by decide +kernel
theorem dX4_init_130 : decode cX4_init 130 = .ok (.new 16, 3) := by decide +kernel
theorem dX4_init_133 : decode cX4_init 133 = .ok (.dup, 1) := by decide +kernel
theorem dX4_init_134 : decode cX4_init 134 = .ok (.invokespecial 18, 3) := by decide +kernel
theorem dX4_init_137 : decode cX4_init 137 = .ok (.aastore, 1) := by decide +kernel
theorem dX4_init_138 : decode cX4_init 138 = .ok (.iinc 1 1, 3) := by decide +kernel
theorem dX4_init_141 : decode cX4_init 141 = .ok (.goto (-21), 3) := by decide +kernel
theorem dX4_init_144 : decode cX4_init 144 = .ok (.return_, 1) := by decide +kernel
theorem dX4_feed_0 : decode cX4_feed 0 = .ok (.aload_n 0, 1) := by decide +kernel
theorem dX4_feed_1 : decode cX4_feed 1 = .ok (.getfield 41, 3) := by decide +kernel
theorem dX4_feed_4 : decode cX4_feed 4 = .ok (.bipush 20, 2) := by decide +kernel
theorem dX4_feed_6 : decode cX4_feed 6 = .ok (.iadd, 1) := by decide +kernel
theorem dX4_feed_7 : decode cX4_feed 7 = .ok (.sipush 600, 3) := by decide +kernel
theorem dX4_feed_10 : decode cX4_feed 10 = .ok (.if_icmp .le 5, 3) := by decide +kernel
theorem dX4_feed_13 : decode cX4_feed 13 = .ok (.iconst (-1), 1) := by decide +kernel
theorem dX4_feed_14 : decode cX4_feed 14 = .ok (.ireturn, 1) := by decide +kernel
theorem dX4_feed_15 : decode cX4_feed 15 = .ok (.aload_n 0, 1) := by decide +kernel
theorem dX4_feed_16 : decode cX4_feed 16 = .ok (.iload_n 1, 1) := by decide +kernel
theorem dX4_feed_17 : decode cX4_feed 17 = .ok (.invokevirtual 60, 3) := by decide +kernel
theorem dX4_feed_20 : decode cX4_feed 20 = .ok (.aload_n 0, 1) := by decide +kernel
theorem dX4_feed_21 : decode cX4_feed 21 = .ok (.iload_n 2, 1) := by decide +kernel
theorem dX4_feed_22 : decode cX4_feed 22 = .ok (.invokevirtual 60, 3) := by decide +kernel
theorem dX4_feed_25 : decode cX4_feed 25 = .ok (.aload_n 0, 1) := by decide +kernel
theorem dX4_feed_26 : decode cX4_feed 26 = .ok (.iload_n 3, 1) := by decide +kernel
theorem dX4_feed_27 : decode cX4_feed 27 = .ok (.invokevirtual 60, 3) := by decide +kernel
theorem dX4_feed_30 : decode cX4_feed 30 = .ok (.aload_n 0, 1) := by decide +kernel
theorem dX4_feed_31 : decode cX4_feed 31 = .ok (.iload 4, 2) := by decide +kernel
theorem dX4_feed_33 : decode cX4_feed 33 = .ok (.invokevirtual 60, 3) := by decide +kernel
theorem dX4_feed_36 : decode cX4_feed 36 = .ok (.aload_n 0, 1) := by decide +kernel
theorem dX4_feed_37 : decode cX4_feed 37 = .ok (.iload 5, 2) := by decide +kernel
theorem dX4_feed_39 : decode cX4_feed 39 = .ok (.invokevirtual 60, 3) := by decide +kernel
theorem dX4_feed_42 : decode cX4_feed 42 = .ok (.aload_n 0, 1) := by decide +kernel
theorem dX4_feed_43 : decode cX4_feed 43 = .ok (.getfield 41, 3) := by decide +kernel
theorem dX4_feed_46 : decode cX4_feed 46 = .ok (.ireturn, 1) := by decide +kernel
theorem dX4_text_0 : decode cX4_text 0 = .ok (.iload_n 1, 1) := by decide +kernel
theorem dX4_text_1 : decode cX4_text 1 = .ok (.iconst 0, 1) := by decide +kernel
theorem dX4_text_2 : decode cX4_text 2 = .ok (.aload_n 0, 1) := by decide +kernel
theorem dX4_text_3 : decode cX4_text 3 = .ok (.getfield 41, 3) := by decide +kernel
theorem dX4_text_6 : decode cX4_text 6 = .ok (.invokestatic 64, 3) := by decide +kernel
theorem dX4_text_9 : decode cX4_text 9 = .ok (.ifCond .ne 9, 3) := by decide +kernel
theorem dX4_text_12 : decode cX4_text 12 = .ok (.aload_n 0, 1) := by decide +kernel
theorem dX4_text_13 : decode cX4_text 13 = .ok (.iconst 2, 1) := by decide +kernel
theorem dX4_text_14 : decode cX4_text 14 = .ok (.invokevirtual 68, 3) := by decide +kernel
theorem dX4_text_17 : decode cX4_text 17 = .ok (.ireturn, 1) := by decide +kernel
theorem dX4_text_18 : decode cX4_text 18 = .ok (.aload_n 0, 1) := by decide +kernel
theorem dX4_text_19 : decode cX4_text 19 = .ok (.iconst 0, 1) := by decide +kernel
theorem dX4_text_20 : decode cX4_text 20 = .ok (.putfield 41, 3) := by decide +kernel
theorem dX4_text_23 : decode cX4_text 23 = .ok (.aload_n 0, 1) := by decide +kernel
theorem dX4_text_24 : decode cX4_text 24 = .ok (.aload_n 0, 1) := by decide +kernel
theorem dX4_text_25 : decode cX4_text 25 = .ok (.getfield 10, 3) := by decide +kernel
theorem dX4_text_28 : decode cX4_text 28 = .ok (.iload_n 1, 1) := by decide +kernel
theorem dX4_text_29 : decode cX4_text 29 = .ok (.invokevirtual 72, 3) := by decide +kernel
theorem dX4_text_32 : decode cX4_text 32 = .ok (.putfield 57, 3) := by decide +kernel
theorem dX4_text_35 : decode cX4_text 35 = .ok (.aload_n 0, 1) := by decide +kernel
theorem dX4_text_36 : decode cX4_text 36 = .ok (.getfield 57, 3) := by decide +kernel
theorem dX4_text_39 : decode cX4_text 39 = .ok (.ifCond .eq 21, 3) := by decide +kernel
theorem dX4_text_42 : decode cX4_text 42 = .ok (.aload_n 0, 1) := by decide +kernel
theorem dX4_text_43 : decode cX4_text 43 = .ok (.iconst 4, 1) := by decide +kernel
theorem dX4_text_44 : decode cX4_text 44 = .ok (.putfield 51, 3) := by decide +kernel
theorem dX4_text_47 : decode cX4_text 47 = .ok (.aload_n 0, 1) := by decide +kernel
theorem dX4_text_48 : decode cX4_text 48 = .ok (.aload_n 0, 1) := by decide +kernel
theorem dX4_text_49 : decode cX4_text 49 = .ok (.getfield 10, 3) := by decide +kernel
theorem dX4_text_52 : decode cX4_text 52 = .ok (.getfield 75, 3) := by decide +kernel
theorem dX4_text_55 : decode cX4_text 55 = .ok (.putfield 54, 3) := by decide +kernel
theorem dX4_text_58 : decode cX4_text 58 = .ok (.iconst (-1), 1) := by decide +kernel
theorem dX4_text_59 : decode cX4_text 59 = .ok (.ireturn, 1) := by decide +kernel
theorem dX4_text_60 : decode cX4_text 60 = .ok (.aload_n 0, 1) := by decide +kernel
theorem dX4_text_61 : decode cX4_text 61 = .ok (.invokevirtual 78, 3) := by decide +kernel
theorem dX4_text_64 : decode cX4_text 64 = .ok (.aload_n 0, 1) := by decide +kernel
theorem dX4_text_65 : decode cX4_text 65 = .ok (.getfield 19, 3) := by decide +kernel
theorem dX4_text_68 : decode cX4_text 68 = .ok (.aload_n 0, 1) := by decide +kernel
theorem dX4_text_69 : decode cX4_text 69 = .ok (.getfield 10, 3) := by decide +kernel
theorem dX4_text_72 : decode cX4_text 72 = .ok (.getfield 81, 3) := by decide +kernel
theorem dX4_text_75 : decode cX4_text 75 = .ok (.invokevirtual 84, 3) := by decide +kernel
theorem dX4_text_78 : decode cX4_text 78 = .ok (.aload_n 0, 1) := by decide +kernel
theorem dX4_text_79 : decode cX4_text 79 = .ok (.invokevirtual 88, 3) := by decide +kernel
theorem dX4_text_82 : decode cX4_text 82 = .ok (.iconst 0, 1) := by decide +kernel
theorem dX4_text_83 : decode cX4_text 83 = .ok (.istore_n 2, 1) := by decide +kernel
theorem dX4_text_84 : decode cX4_text 84 = .ok (.iload_n 2, 1) := by decide +kernel
theorem dX4_text_85 : decode cX4_text 85 = .ok (.iconst 2, 1) := by decide +kernel
theorem dX4_text_86 : decode cX4_text 86 = .ok (.if_icmp .ge 16, 3) := by decide +kernel
theorem dX4_text_89 : decode cX4_text 89 = .ok (.aload_n 0, 1) := by decide +kernel
theorem dX4_text_90 : decode cX4_text 90 = .ok (.getfield 37, 3) := by decide +kernel
theorem dX4_text_93 : decode cX4_text 93 = .ok (.iload_n 2, 1) := by decide +kernel
theorem dX4_text_94 : decode cX4_text 94 = .ok (.iconst 0, 1) := by decide +kernel
theorem dX4_text_95 : decode cX4_text 95 = .ok (.bastore, 1) := by decide +kernel
theorem dX4_text_96 : decode cX4_text 96 = .ok (.iinc 2 1, 3) := by decide +kernel
theorem dX4_text_99 : decode cX4_text 99 = .ok (.goto (-15), 3) := by decide +kernel
theorem dX4_text_102 : decode cX4_text 102 = .ok (.aload_n 0, 1) := by decide +kernel
theorem dX4_text_103 : decode cX4_text 103 = .ok (.getfield 19, 3) := by decide +kernel
theorem dX4_text_106 : decode cX4_text 106 = .ok (.getfield 91, 3) := by decide +kernel
theorem dX4_text_109 : decode cX4_text 109 = .ok (.ireturn, 1) := by decide +kernel
theorem dX4_fault_0 : decode cX4_fault 0 = .ok (.aload_n 0, 1) := by decide +kernel
theorem dX4_fault_1 : decode cX4_fault 1 = .ok (.getfield 57, 3) := by decide +kernel
theorem dX4_fault_4 : decode cX4_fault 4 = .ok (.ireturn, 1) := by decide +kernel
theorem dX4_where_0 : decode cX4_where 0 = .ok (.aload_n 0, 1) := by decide +kernel
theorem dX4_where_1 : decode cX4_where 1 = .ok (.getfield 54, 3) := by decide +kernel
theorem dX4_where_4 : decode cX4_where 4 = .ok (.ireturn, 1) := by decide +kernel
theorem dX4_about_0 : decode cX4_about 0 = .ok (.aload_n 0, 1) := by decide +kernel
theorem dX4_about_1 : decode cX4_about 1 = .ok (.invokevirtual 94, 3) := by decide +kernel
theorem dX4_about_4 : decode cX4_about 4 = .ok (.ifCond .eq 13, 3) := by decide +kernel
theorem dX4_about_7 : decode cX4_about 7 = .ok (.iload_n 1, 1) := by decide +kernel
theorem dX4_about_8 : decode cX4_about 8 = .ok (.iconst 0, 1) := by decide +kernel
theorem dX4_about_9 : decode cX4_about 9 = .ok (.bipush 10, 2) := by decide +kernel
theorem dX4_about_11 : decode cX4_about 11 = .ok (.invokestatic 64, 3) := by decide +kernel
theorem dX4_about_14 : decode cX4_about 14 = .ok (.ifCond .ne 9, 3) := by decide +kernel
theorem dX4_about_17 : decode cX4_about 17 = .ok (.aload_n 0, 1) := by decide +kernel
theorem dX4_about_18 : decode cX4_about 18 = .ok (.iconst 1, 1) := by decide +kernel
theorem dX4_about_19 : decode cX4_about 19 = .ok (.invokevirtual 68, 3) := by decide +kernel
theorem dX4_about_22 : decode cX4_about 22 = .ok (.ireturn, 1) := by decide +kernel
theorem dX4_about_23 : decode cX4_about 23 = .ok (.aload_n 0, 1) := by decide +kernel
theorem dX4_about_24 : decode cX4_about 24 = .ok (.invokevirtual 78, 3) := by decide +kernel
theorem dX4_about_27 : decode cX4_about 27 = .ok (.iload_n 1, 1) := by decide +kernel
theorem dX4_about_28 : decode cX4_about 28 = .ok (.ifCond .ne 11, 3) := by decide +kernel
theorem dX4_about_31 : decode cX4_about 31 = .ok (.aload_n 0, 1) := by decide +kernel
theorem dX4_about_32 : decode cX4_about 32 = .ok (.getfield 19, 3) := by decide +kernel
theorem dX4_about_35 : decode cX4_about 35 = .ok (.getfield 91, 3) := by decide +kernel
theorem dX4_about_38 : decode cX4_about 38 = .ok (.ireturn, 1) := by decide +kernel
theorem dX4_about_39 : decode cX4_about 39 = .ok (.iload_n 1, 1) := by decide +kernel
theorem dX4_about_40 : decode cX4_about 40 = .ok (.iconst 1, 1) := by decide +kernel
theorem dX4_about_41 : decode cX4_about 41 = .ok (.if_icmp .ne 11, 3) := by decide +kernel
theorem dX4_about_44 : decode cX4_about 44 = .ok (.aload_n 0, 1) := by decide +kernel
theorem dX4_about_45 : decode cX4_about 45 = .ok (.getfield 19, 3) := by decide +kernel
theorem dX4_about_48 : decode cX4_about 48 = .ok (.getfield 98, 3) := by decide +kernel
theorem dX4_about_51 : decode cX4_about 51 = .ok (.ireturn, 1) := by decide +kernel
theorem dX4_about_52 : decode cX4_about 52 = .ok (.iload_n 1, 1) := by decide +kernel
theorem dX4_about_53 : decode cX4_about 53 = .ok (.bipush 10, 2) := by decide +kernel
theorem dX4_about_55 : decode cX4_about 55 = .ok (.if_icmp .ne 10, 3) := by decide +kernel
theorem dX4_about_58 : decode cX4_about 58 = .ok (.aload_n 0, 1) := by decide +kernel
theorem dX4_about_59 : decode cX4_about 59 = .ok (.getfield 45, 3) := by decide +kernel
theorem dX4_about_62 : decode cX4_about 62 = .ok (.goto 12, 3) := by decide +kernel
theorem dX4_about_65 : decode cX4_about 65 = .ok (.aload_n 0, 1) := by decide +kernel
theorem dX4_about_66 : decode cX4_about 66 = .ok (.getfield 19, 3) := by decide +kernel
theorem dX4_about_69 : decode cX4_about 69 = .ok (.getfield 101, 3) := by decide +kernel
theorem dX4_about_72 : decode cX4_about 72 = .ok (.iload_n 1, 1) := by decide +kernel
theorem dX4_about_73 : decode cX4_about 73 = .ok (.iaload, 1) := by decide +kernel
theorem dX4_about_74 : decode cX4_about 74 = .ok (.ireturn, 1) := by decide +kernel
theorem dX4_ship_0 : decode cX4_ship 0 = .ok (.aload_n 0, 1) := by decide +kernel
theorem dX4_ship_1 : decode cX4_ship 1 = .ok (.iload_n 1, 1) := by decide +kernel
theorem dX4_ship_2 : decode cX4_ship 2 = .ok (.invokevirtual 105, 3) := by decide +kernel
theorem dX4_ship_5 : decode cX4_ship 5 = .ok (.ifCond .eq 13, 3) := by decide +kernel
theorem dX4_ship_8 : decode cX4_ship 8 = .ok (.iload_n 2, 1) := by decide +kernel
theorem dX4_ship_9 : decode cX4_ship 9 = .ok (.iconst 0, 1) := by decide +kernel
theorem dX4_ship_10 : decode cX4_ship 10 = .ok (.bipush 6, 2) := by decide +kernel
theorem dX4_ship_12 : decode cX4_ship 12 = .ok (.invokestatic 64, 3) := by decide +kernel
theorem dX4_ship_15 : decode cX4_ship 15 = .ok (.ifCond .ne 9, 3) := by decide +kernel
theorem dX4_ship_18 : decode cX4_ship 18 = .ok (.aload_n 0, 1) := by decide +kernel
theorem dX4_ship_19 : decode cX4_ship 19 = .ok (.iconst 1, 1) := by decide +kernel
theorem dX4_ship_20 : decode cX4_ship 20 = .ok (.invokevirtual 68, 3) := by decide +kernel
theorem dX4_ship_23 : decode cX4_ship 23 = .ok (.ireturn, 1) := by decide +kernel
theorem dX4_ship_24 : decode cX4_ship 24 = .ok (.aload_n 0, 1) := by decide +kernel
theorem dX4_ship_25 : decode cX4_ship 25 = .ok (.invokevirtual 78, 3) := by decide +kernel
theorem dX4_ship_28 : decode cX4_ship 28 = .ok (.iload_n 2, 1) := by decide +kernel
theorem dX4_ship_29 : decode cX4_ship 29 = .ok (.bipush 6, 2) := by decide +kernel
theorem dX4_ship_31 : decode cX4_ship 31 = .ok (.if_icmp .ne 14, 3) := by decide +kernel
theorem dX4_ship_34 : decode cX4_ship 34 = .ok (.aload_n 0, 1) := by decide +kernel
theorem dX4_ship_35 : decode cX4_ship 35 = .ok (.getfield 19, 3) := by decide +kernel
theorem dX4_ship_38 : decode cX4_ship 38 = .ok (.iload_n 1, 1) := by decide +kernel
theorem dX4_ship_39 : decode cX4_ship 39 = .ok (.invokevirtual 109, 3) := by decide +kernel
theorem dX4_ship_42 : decode cX4_ship 42 = .ok (.goto 12, 3) := by decide +kernel
theorem dX4_ship_45 : decode cX4_ship 45 = .ok (.aload_n 0, 1) := by decide +kernel
theorem dX4_ship_46 : decode cX4_ship 46 = .ok (.getfield 19, 3) := by decide +kernel
theorem dX4_ship_49 : decode cX4_ship 49 = .ok (.iload_n 1, 1) := by decide +kernel
theorem dX4_ship_50 : decode cX4_ship 50 = .ok (.iload_n 2, 1) := by decide +kernel
theorem dX4_ship_51 : decode cX4_ship 51 = .ok (.invokevirtual 112, 3) := by decide +kernel
theorem dX4_ship_54 : decode cX4_ship 54 = .ok (.ireturn, 1) := by decide +kernel
theorem dX4_claim_0 : decode cX4_claim 0 = .ok (.aload_n 0, 1) := by decide +kernel
theorem dX4_claim_1 : decode cX4_claim 1 = .ok (.iload_n 1, 1) := by decide +kernel
theorem dX4_claim_2 : decode cX4_claim 2 = .ok (.invokevirtual 116, 3) := by decide +kernel
theorem dX4_claim_5 : decode cX4_claim 5 = .ok (.ifCond .eq 12, 3) := by decide +kernel
theorem dX4_claim_8 : decode cX4_claim 8 = .ok (.iload_n 2, 1) := by decide +kernel
theorem dX4_claim_9 : decode cX4_claim 9 = .ok (.iconst 0, 1) := by decide +kernel
theorem dX4_claim_10 : decode cX4_claim 10 = .ok (.iconst 4, 1) := by decide +kernel
theorem dX4_claim_11 : decode cX4_claim 11 = .ok (.invokestatic 64, 3) := by decide +kernel
theorem dX4_claim_14 : decode cX4_claim 14 = .ok (.ifCond .ne 9, 3) := by decide +kernel
theorem dX4_claim_17 : decode cX4_claim 17 = .ok (.aload_n 0, 1) := by decide +kernel
theorem dX4_claim_18 : decode cX4_claim 18 = .ok (.iconst 1, 1) := by decide +kernel
theorem dX4_claim_19 : decode cX4_claim 19 = .ok (.invokevirtual 68, 3) := by decide +kernel
theorem dX4_claim_22 : decode cX4_claim 22 = .ok (.ireturn, 1) := by decide +kernel
theorem dX4_claim_23 : decode cX4_claim 23 = .ok (.aload_n 0, 1) := by decide +kernel
theorem dX4_claim_24 : decode cX4_claim 24 = .ok (.invokevirtual 78, 3) := by decide +kernel
theorem dX4_claim_27 : decode cX4_claim 27 = .ok (.iload_n 2, 1) := by decide +kernel
theorem dX4_claim_28 : decode cX4_claim 28 = .ok (.iconst 4, 1) := by decide +kernel
theorem dX4_claim_29 : decode cX4_claim 29 = .ok (.if_icmp .ne 14, 3) := by decide +kernel
theorem dX4_claim_32 : decode cX4_claim 32 = .ok (.aload_n 0, 1) := by decide +kernel
theorem dX4_claim_33 : decode cX4_claim 33 = .ok (.getfield 19, 3) := by decide +kernel
theorem dX4_claim_36 : decode cX4_claim 36 = .ok (.iload_n 1, 1) := by decide +kernel
theorem dX4_claim_37 : decode cX4_claim 37 = .ok (.invokevirtual 119, 3) := by decide +kernel
theorem dX4_claim_40 : decode cX4_claim 40 = .ok (.goto 12, 3) := by decide +kernel
theorem dX4_claim_43 : decode cX4_claim 43 = .ok (.aload_n 0, 1) := by decide +kernel
theorem dX4_claim_44 : decode cX4_claim 44 = .ok (.getfield 19, 3) := by decide +kernel
theorem dX4_claim_47 : decode cX4_claim 47 = .ok (.iload_n 1, 1) := by decide +kernel
theorem dX4_claim_48 : decode cX4_claim 48 = .ok (.iload_n 2, 1) := by decide +kernel
theorem dX4_claim_49 : decode cX4_claim 49 = .ok (.invokevirtual 122, 3) := by decide +kernel
theorem dX4_claim_52 : decode cX4_claim 52 = .ok (.ireturn, 1) := by decide +kernel
theorem dX4_part_0 : decode cX4_part 0 = .ok (.aload_n 0, 1) := by decide +kernel
theorem dX4_part_1 : decode cX4_part 1 = .ok (.iload_n 1, 1) := by decide +kernel
theorem dX4_part_2 : decode cX4_part 2 = .ok (.invokevirtual 105, 3) := by decide +kernel
theorem dX4_part_5 : decode cX4_part 5 = .ok (.ifCond .ne 9, 3) := by decide +kernel
theorem dX4_part_8 : decode cX4_part 8 = .ok (.aload_n 0, 1) := by decide +kernel
theorem dX4_part_9 : decode cX4_part 9 = .ok (.iconst 1, 1) := by decide +kernel
theorem dX4_part_10 : decode cX4_part 10 = .ok (.invokevirtual 68, 3) := by decide +kernel
theorem dX4_part_13 : decode cX4_part 13 = .ok (.ireturn, 1) := by decide +kernel
theorem dX4_part_14 : decode cX4_part 14 = .ok (.iload_n 2, 1) := by decide +kernel
theorem dX4_part_15 : decode cX4_part 15 = .ok (.iconst 0, 1) := by decide +kernel
theorem dX4_part_16 : decode cX4_part 16 = .ok (.ldc 125, 2) := by decide +kernel
theorem dX4_part_18 : decode cX4_part 18 = .ok (.invokestatic 64, 3) := by decide +kernel
theorem dX4_part_21 : decode cX4_part 21 = .ok (.ifCond .ne 9, 3) := by decide +kernel
theorem dX4_part_24 : decode cX4_part 24 = .ok (.aload_n 0, 1) := by decide +kernel
theorem dX4_part_25 : decode cX4_part 25 = .ok (.iconst 2, 1) := by decide +kernel
theorem dX4_part_26 : decode cX4_part 26 = .ok (.invokevirtual 68, 3) := by decide +kernel
theorem dX4_part_29 : decode cX4_part 29 = .ok (.ireturn, 1) := by decide +kernel
theorem dX4_part_30 : decode cX4_part 30 = .ok (.aload_n 0, 1) := by decide +kernel
theorem dX4_part_31 : decode cX4_part 31 = .ok (.invokevirtual 78, 3) := by decide +kernel
theorem dX4_part_34 : decode cX4_part 34 = .ok (.aload_n 0, 1) := by decide +kernel
theorem dX4_part_35 : decode cX4_part 35 = .ok (.invokevirtual 126, 3) := by decide +kernel
theorem dX4_part_38 : decode cX4_part 38 = .ok (.aload_n 0, 1) := by decide +kernel
theorem dX4_part_39 : decode cX4_part 39 = .ok (.getfield 26, 3) := by decide +kernel
theorem dX4_part_42 : decode cX4_part 42 = .ok (.iload_n 1, 1) := by decide +kernel
theorem dX4_part_43 : decode cX4_part 43 = .ok (.iload_n 2, 1) := by decide +kernel
theorem dX4_part_44 : decode cX4_part 44 = .ok (.i2l, 1) := by decide +kernel
theorem dX4_part_45 : decode cX4_part 45 = .ok (.invokevirtual 129, 3) := by decide +kernel
theorem dX4_part_48 : decode cX4_part 48 = .ok (.l2i, 1) := by decide +kernel
theorem dX4_part_49 : decode cX4_part 49 = .ok (.ireturn, 1) := by decide +kernel
theorem dX4_owes_0 : decode cX4_owes 0 = .ok (.aload_n 0, 1) := by decide +kernel
theorem dX4_owes_1 : decode cX4_owes 1 = .ok (.iload_n 1, 1) := by decide +kernel
theorem dX4_owes_2 : decode cX4_owes 2 = .ok (.invokevirtual 105, 3) := by decide +kernel
theorem dX4_owes_5 : decode cX4_owes 5 = .ok (.ifCond .eq 11, 3) := by decide +kernel
theorem dX4_owes_8 : decode cX4_owes 8 = .ok (.aload_n 0, 1) := by decide +kernel
theorem dX4_owes_9 : decode cX4_owes 9 = .ok (.iload_n 2, 1) := by decide +kernel
theorem dX4_owes_10 : decode cX4_owes 10 = .ok (.invokevirtual 116, 3) := by decide +kernel
theorem dX4_owes_13 : decode cX4_owes 13 = .ok (.ifCond .ne 9, 3) := by decide +kernel
theorem dX4_owes_16 : decode cX4_owes 16 = .ok (.aload_n 0, 1) := by decide +kernel
theorem dX4_owes_17 : decode cX4_owes 17 = .ok (.iconst 1, 1) := by decide +kernel
theorem dX4_owes_18 : decode cX4_owes 18 = .ok (.invokevirtual 68, 3) := by decide +kernel
theorem dX4_owes_21 : decode cX4_owes 21 = .ok (.ireturn, 1) := by decide +kernel
theorem dX4_owes_22 : decode cX4_owes 22 = .ok (.aload_n 0, 1) := by decide +kernel
theorem dX4_owes_23 : decode cX4_owes 23 = .ok (.invokevirtual 78, 3) := by decide +kernel
theorem dX4_owes_26 : decode cX4_owes 26 = .ok (.aload_n 0, 1) := by decide +kernel
theorem dX4_owes_27 : decode cX4_owes 27 = .ok (.invokevirtual 126, 3) := by decide +kernel
theorem dX4_owes_30 : decode cX4_owes 30 = .ok (.aload_n 0, 1) := by decide +kernel
theorem dX4_owes_31 : decode cX4_owes 31 = .ok (.getfield 26, 3) := by decide +kernel
theorem dX4_owes_34 : decode cX4_owes 34 = .ok (.iload_n 1, 1) := by decide +kernel
theorem dX4_owes_35 : decode cX4_owes 35 = .ok (.iload_n 2, 1) := by decide +kernel
theorem dX4_owes_36 : decode cX4_owes 36 = .ok (.invokevirtual 133, 3) := by decide +kernel
theorem dX4_owes_39 : decode cX4_owes 39 = .ok (.l2i, 1) := by decide +kernel
theorem dX4_owes_40 : decode cX4_owes 40 = .ok (.ireturn, 1) := by decide +kernel
theorem dX4_between_0 : decode cX4_between 0 = .ok (.aload_n 0, 1) := by decide +kernel
theorem dX4_between_1 : decode cX4_between 1 = .ok (.iload_n 1, 1) := by decide +kernel
theorem dX4_between_2 : decode cX4_between 2 = .ok (.invokevirtual 105, 3) := by decide +kernel
theorem dX4_between_5 : decode cX4_between 5 = .ok (.ifCond .eq 20, 3) := by decide +kernel
theorem dX4_between_8 : decode cX4_between 8 = .ok (.aload_n 0, 1) := by decide +kernel
theorem dX4_between_9 : decode cX4_between 9 = .ok (.iload_n 2, 1) := by decide +kernel
theorem dX4_between_10 : decode cX4_between 10 = .ok (.invokevirtual 105, 3) := by decide +kernel
theorem dX4_between_13 : decode cX4_between 13 = .ok (.ifCond .eq 12, 3) := by decide +kernel
theorem dX4_between_16 : decode cX4_between 16 = .ok (.iload_n 3, 1) := by decide +kernel
theorem dX4_between_17 : decode cX4_between 17 = .ok (.iconst 0, 1) := by decide +kernel
theorem dX4_between_18 : decode cX4_between 18 = .ok (.iconst 3, 1) := by decide +kernel
theorem dX4_between_19 : decode cX4_between 19 = .ok (.invokestatic 64, 3) := by decide +kernel
theorem dX4_between_22 : decode cX4_between 22 = .ok (.ifCond .ne 10, 3) := by decide +kernel
theorem dX4_between_25 : decode cX4_between 25 = .ok (.aload_n 0, 1) := by decide +kernel
theorem dX4_between_26 : decode cX4_between 26 = .ok (.iconst 1, 1) := by decide +kernel
theorem dX4_between_27 : decode cX4_between 27 = .ok (.invokevirtual 68, 3) := by decide +kernel
theorem dX4_between_30 : decode cX4_between 30 = .ok (.i2l, 1) := by decide +kernel
theorem dX4_between_31 : decode cX4_between 31 = .ok (.lreturn, 1) := by decide +kernel
theorem dX4_between_32 : decode cX4_between 32 = .ok (.iload_n 1, 1) := by decide +kernel
theorem dX4_between_33 : decode cX4_between 33 = .ok (.iload_n 2, 1) := by decide +kernel
theorem dX4_between_34 : decode cX4_between 34 = .ok (.if_icmp .ne 10, 3) := by decide +kernel
theorem dX4_between_37 : decode cX4_between 37 = .ok (.aload_n 0, 1) := by decide +kernel
theorem dX4_between_38 : decode cX4_between 38 = .ok (.iconst 5, 1) := by decide +kernel
theorem dX4_between_39 : decode cX4_between 39 = .ok (.invokevirtual 68, 3) := by decide +kernel
theorem dX4_between_42 : decode cX4_between 42 = .ok (.i2l, 1) := by decide +kernel
theorem dX4_between_43 : decode cX4_between 43 = .ok (.lreturn, 1) := by decide +kernel
theorem dX4_between_44 : decode cX4_between 44 = .ok (.aload_n 0, 1) := by decide +kernel
theorem dX4_between_45 : decode cX4_between 45 = .ok (.invokevirtual 78, 3) := by decide +kernel
theorem dX4_between_48 : decode cX4_between 48 = .ok (.aload_n 0, 1) := by decide +kernel
theorem dX4_between_49 : decode cX4_between 49 = .ok (.invokevirtual 126, 3) := by decide +kernel
theorem dX4_between_52 : decode cX4_between 52 = .ok (.iload_n 3, 1) := by decide +kernel
theorem dX4_between_53 : decode cX4_between 53 = .ok (.ifCond .ne 13, 3) := by decide +kernel
theorem dX4_between_56 : decode cX4_between 56 = .ok (.aload_n 0, 1) := by decide +kernel
theorem dX4_between_57 : decode cX4_between 57 = .ok (.getfield 26, 3) := by decide +kernel
theorem dX4_between_60 : decode cX4_between 60 = .ok (.iload_n 1, 1) := by decide +kernel
theorem dX4_between_61 : decode cX4_between 61 = .ok (.iload_n 2, 1) := by decide +kernel
theorem dX4_between_62 : decode cX4_between 62 = .ok (.invokevirtual 137, 3) := by decide +kernel
theorem dX4_between_65 : decode cX4_between 65 = .ok (.lreturn, 1) := by decide +kernel
theorem dX4_between_66 : decode cX4_between 66 = .ok (.iload_n 3, 1) := by decide +kernel
theorem dX4_between_67 : decode cX4_between 67 = .ok (.iconst 1, 1) := by decide +kernel
theorem dX4_between_68 : decode cX4_between 68 = .ok (.if_icmp .ne 13, 3) := by decide +kernel
theorem dX4_between_71 : decode cX4_between 71 = .ok (.aload_n 0, 1) := by decide +kernel
theorem dX4_between_72 : decode cX4_between 72 = .ok (.getfield 26, 3) := by decide +kernel
theorem dX4_between_75 : decode cX4_between 75 = .ok (.iload_n 1, 1) := by decide +kernel
theorem dX4_between_76 : decode cX4_between 76 = .ok (.iload_n 2, 1) := by decide +kernel
theorem dX4_between_77 : decode cX4_between 77 = .ok (.invokevirtual 140, 3) := by decide +kernel
theorem dX4_between_80 : decode cX4_between 80 = .ok (.lreturn, 1) := by decide +kernel
theorem dX4_between_81 : decode cX4_between 81 = .ok (.iload_n 3, 1) := by decide +kernel
theorem dX4_between_82 : decode cX4_between 82 = .ok (.iconst 2, 1) := by decide +kernel
theorem dX4_between_83 : decode cX4_between 83 = .ok (.if_icmp .ne 15, 3) := by decide +kernel
theorem dX4_between_86 : decode cX4_between 86 = .ok (.aload_n 0, 1) := by decide +kernel
theorem dX4_between_87 : decode cX4_between 87 = .ok (.getfield 26, 3) := by decide +kernel
theorem dX4_between_90 : decode cX4_between 90 = .ok (.iload_n 1, 1) := by decide +kernel
theorem dX4_between_91 : decode cX4_between 91 = .ok (.iload_n 2, 1) := by decide +kernel
theorem dX4_between_92 : decode cX4_between 92 = .ok (.invokevirtual 143, 3) := by decide +kernel
theorem dX4_between_95 : decode cX4_between 95 = .ok (.goto 12, 3) := by decide +kernel
theorem dX4_between_98 : decode cX4_between 98 = .ok (.aload_n 0, 1) := by decide +kernel
theorem dX4_between_99 : decode cX4_between 99 = .ok (.getfield 26, 3) := by decide +kernel
theorem dX4_between_102 : decode cX4_between 102 = .ok (.iload_n 1, 1) := by decide +kernel
theorem dX4_between_103 : decode cX4_between 103 = .ok (.iload_n 2, 1) := by decide +kernel
theorem dX4_between_104 : decode cX4_between 104 = .ok (.invokevirtual 146, 3) := by decide +kernel
theorem dX4_between_107 : decode cX4_between 107 = .ok (.lreturn, 1) := by decide +kernel
theorem dX4_back_0 : decode cX4_back 0 = .ok (.aload_n 0, 1) := by decide +kernel
theorem dX4_back_1 : decode cX4_back 1 = .ok (.iload_n 1, 1) := by decide +kernel
theorem dX4_back_2 : decode cX4_back 2 = .ok (.invokevirtual 116, 3) := by decide +kernel
theorem dX4_back_5 : decode cX4_back 5 = .ok (.ifCond .ne 10, 3) := by decide +kernel
theorem dX4_back_8 : decode cX4_back 8 = .ok (.aload_n 0, 1) := by decide +kernel
theorem dX4_back_9 : decode cX4_back 9 = .ok (.iconst 1, 1) := by decide +kernel
theorem dX4_back_10 : decode cX4_back 10 = .ok (.invokevirtual 68, 3) := by decide +kernel
theorem dX4_back_13 : decode cX4_back 13 = .ok (.i2l, 1) := by decide +kernel
theorem dX4_back_14 : decode cX4_back 14 = .ok (.lreturn, 1) := by decide +kernel
theorem dX4_back_15 : decode cX4_back 15 = .ok (.aload_n 0, 1) := by decide +kernel
theorem dX4_back_16 : decode cX4_back 16 = .ok (.invokevirtual 78, 3) := by decide +kernel
theorem dX4_back_19 : decode cX4_back 19 = .ok (.aload_n 0, 1) := by decide +kernel
theorem dX4_back_20 : decode cX4_back 20 = .ok (.invokevirtual 126, 3) := by decide +kernel
theorem dX4_back_23 : decode cX4_back 23 = .ok (.aload_n 0, 1) := by decide +kernel
theorem dX4_back_24 : decode cX4_back 24 = .ok (.getfield 26, 3) := by decide +kernel
theorem dX4_back_27 : decode cX4_back 27 = .ok (.iload_n 1, 1) := by decide +kernel
theorem dX4_back_28 : decode cX4_back 28 = .ok (.invokevirtual 149, 3) := by decide +kernel
theorem dX4_back_31 : decode cX4_back 31 = .ok (.lreturn, 1) := by decide +kernel
theorem dX4_fund_0 : decode cX4_fund 0 = .ok (.aload_n 0, 1) := by decide +kernel
theorem dX4_fund_1 : decode cX4_fund 1 = .ok (.iload_n 1, 1) := by decide +kernel
theorem dX4_fund_2 : decode cX4_fund 2 = .ok (.invokevirtual 105, 3) := by decide +kernel
theorem dX4_fund_5 : decode cX4_fund 5 = .ok (.ifCond .eq 12, 3) := by decide +kernel
theorem dX4_fund_8 : decode cX4_fund 8 = .ok (.iload_n 2, 1) := by decide +kernel
theorem dX4_fund_9 : decode cX4_fund 9 = .ok (.iconst 0, 1) := by decide +kernel
theorem dX4_fund_10 : decode cX4_fund 10 = .ok (.iconst 1, 1) := by decide +kernel
theorem dX4_fund_11 : decode cX4_fund 11 = .ok (.invokestatic 64, 3) := by decide +kernel
theorem dX4_fund_14 : decode cX4_fund 14 = .ok (.ifCond .ne 9, 3) := by decide +kernel
theorem dX4_fund_17 : decode cX4_fund 17 = .ok (.aload_n 0, 1) := by decide +kernel
theorem dX4_fund_18 : decode cX4_fund 18 = .ok (.iconst 1, 1) := by decide +kernel
theorem dX4_fund_19 : decode cX4_fund 19 = .ok (.invokevirtual 68, 3) := by decide +kernel
theorem dX4_fund_22 : decode cX4_fund 22 = .ok (.ireturn, 1) := by decide +kernel
theorem dX4_fund_23 : decode cX4_fund 23 = .ok (.aload_n 0, 1) := by decide +kernel
theorem dX4_fund_24 : decode cX4_fund 24 = .ok (.invokevirtual 78, 3) := by decide +kernel
theorem dX4_fund_27 : decode cX4_fund 27 = .ok (.aload_n 0, 1) := by decide +kernel
theorem dX4_fund_28 : decode cX4_fund 28 = .ok (.getfield 19, 3) := by decide +kernel
theorem dX4_fund_31 : decode cX4_fund 31 = .ok (.iload_n 1, 1) := by decide +kernel
theorem dX4_fund_32 : decode cX4_fund 32 = .ok (.iload_n 2, 1) := by decide +kernel
theorem dX4_fund_33 : decode cX4_fund 33 = .ok (.ifCond .ne 8, 3) := by decide +kernel
theorem dX4_fund_36 : decode cX4_fund 36 = .ok (.bipush 6, 2) := by decide +kernel
theorem dX4_fund_38 : decode cX4_fund 38 = .ok (.goto 4, 3) := by decide +kernel
theorem dX4_fund_41 : decode cX4_fund 41 = .ok (.iconst 5, 1) := by decide +kernel
theorem dX4_fund_42 : decode cX4_fund 42 = .ok (.invokevirtual 153, 3) := by decide +kernel
theorem dX4_fund_45 : decode cX4_fund 45 = .ok (.l2i, 1) := by decide +kernel
theorem dX4_fund_46 : decode cX4_fund 46 = .ok (.ireturn, 1) := by decide +kernel
theorem dX4_pays_0 : decode cX4_pays 0 = .ok (.aload_n 0, 1) := by decide +kernel
theorem dX4_pays_1 : decode cX4_pays 1 = .ok (.iload_n 1, 1) := by decide +kernel
theorem dX4_pays_2 : decode cX4_pays 2 = .ok (.invokevirtual 105, 3) := by decide +kernel
theorem dX4_pays_5 : decode cX4_pays 5 = .ok (.ifCond .eq 11, 3) := by decide +kernel
theorem dX4_pays_8 : decode cX4_pays 8 = .ok (.aload_n 0, 1) := by decide +kernel
theorem dX4_pays_9 : decode cX4_pays 9 = .ok (.iload_n 2, 1) := by decide +kernel
theorem dX4_pays_10 : decode cX4_pays 10 = .ok (.invokevirtual 116, 3) := by decide +kernel
theorem dX4_pays_13 : decode cX4_pays 13 = .ok (.ifCond .ne 9, 3) := by decide +kernel
theorem dX4_pays_16 : decode cX4_pays 16 = .ok (.aload_n 0, 1) := by decide +kernel
theorem dX4_pays_17 : decode cX4_pays 17 = .ok (.iconst 1, 1) := by decide +kernel
theorem dX4_pays_18 : decode cX4_pays 18 = .ok (.invokevirtual 68, 3) := by decide +kernel
theorem dX4_pays_21 : decode cX4_pays 21 = .ok (.ireturn, 1) := by decide +kernel
theorem dX4_pays_22 : decode cX4_pays 22 = .ok (.aload_n 0, 1) := by decide +kernel
theorem dX4_pays_23 : decode cX4_pays 23 = .ok (.invokevirtual 78, 3) := by decide +kernel
theorem dX4_pays_26 : decode cX4_pays 26 = .ok (.aload_n 0, 1) := by decide +kernel
theorem dX4_pays_27 : decode cX4_pays 27 = .ok (.invokevirtual 126, 3) := by decide +kernel
theorem dX4_pays_30 : decode cX4_pays 30 = .ok (.aload_n 0, 1) := by decide +kernel
theorem dX4_pays_31 : decode cX4_pays 31 = .ok (.getfield 26, 3) := by decide +kernel
theorem dX4_pays_34 : decode cX4_pays 34 = .ok (.iload_n 1, 1) := by decide +kernel
theorem dX4_pays_35 : decode cX4_pays 35 = .ok (.iload_n 2, 1) := by decide +kernel
theorem dX4_pays_36 : decode cX4_pays 36 = .ok (.invokevirtual 156, 3) := by decide +kernel
theorem dX4_pays_39 : decode cX4_pays 39 = .ok (.l2i, 1) := by decide +kernel
theorem dX4_pays_40 : decode cX4_pays 40 = .ok (.ireturn, 1) := by decide +kernel
theorem dX4_paysTo_0 : decode cX4_paysTo 0 = .ok (.aload_n 0, 1) := by decide +kernel
theorem dX4_paysTo_1 : decode cX4_paysTo 1 = .ok (.iload_n 1, 1) := by decide +kernel
theorem dX4_paysTo_2 : decode cX4_paysTo 2 = .ok (.invokevirtual 105, 3) := by decide +kernel
theorem dX4_paysTo_5 : decode cX4_paysTo 5 = .ok (.ifCond .eq 11, 3) := by decide +kernel
theorem dX4_paysTo_8 : decode cX4_paysTo 8 = .ok (.aload_n 0, 1) := by decide +kernel
theorem dX4_paysTo_9 : decode cX4_paysTo 9 = .ok (.iload_n 2, 1) := by decide +kernel
theorem dX4_paysTo_10 : decode cX4_paysTo 10 = .ok (.invokevirtual 105, 3) := by decide +kernel
theorem dX4_paysTo_13 : decode cX4_paysTo 13 = .ok (.ifCond .ne 10, 3) := by decide +kernel
theorem dX4_paysTo_16 : decode cX4_paysTo 16 = .ok (.aload_n 0, 1) := by decide +kernel
theorem dX4_paysTo_17 : decode cX4_paysTo 17 = .ok (.iconst 1, 1) := by decide +kernel
theorem dX4_paysTo_18 : decode cX4_paysTo 18 = .ok (.invokevirtual 68, 3) := by decide +kernel
theorem dX4_paysTo_21 : decode cX4_paysTo 21 = .ok (.i2l, 1) := by decide +kernel
theorem dX4_paysTo_22 : decode cX4_paysTo 22 = .ok (.lreturn, 1) := by decide +kernel
theorem dX4_paysTo_23 : decode cX4_paysTo 23 = .ok (.iload_n 1, 1) := by decide +kernel
theorem dX4_paysTo_24 : decode cX4_paysTo 24 = .ok (.iload_n 2, 1) := by decide +kernel
theorem dX4_paysTo_25 : decode cX4_paysTo 25 = .ok (.if_icmp .ne 10, 3) := by decide +kernel
theorem dX4_paysTo_28 : decode cX4_paysTo 28 = .ok (.aload_n 0, 1) := by decide +kernel
theorem dX4_paysTo_29 : decode cX4_paysTo 29 = .ok (.iconst 5, 1) := by decide +kernel
theorem dX4_paysTo_30 : decode cX4_paysTo 30 = .ok (.invokevirtual 68, 3) := by decide +kernel
theorem dX4_paysTo_33 : decode cX4_paysTo 33 = .ok (.i2l, 1) := by decide +kernel
theorem dX4_paysTo_34 : decode cX4_paysTo 34 = .ok (.lreturn, 1) := by decide +kernel
theorem dX4_paysTo_35 : decode cX4_paysTo 35 = .ok (.aload_n 0, 1) := by decide +kernel
theorem dX4_paysTo_36 : decode cX4_paysTo 36 = .ok (.invokevirtual 78, 3) := by decide +kernel
theorem dX4_paysTo_39 : decode cX4_paysTo 39 = .ok (.aload_n 0, 1) := by decide +kernel
theorem dX4_paysTo_40 : decode cX4_paysTo 40 = .ok (.invokevirtual 126, 3) := by decide +kernel
theorem dX4_paysTo_43 : decode cX4_paysTo 43 = .ok (.aload_n 0, 1) := by decide +kernel
theorem dX4_paysTo_44 : decode cX4_paysTo 44 = .ok (.getfield 26, 3) := by decide +kernel
theorem dX4_paysTo_47 : decode cX4_paysTo 47 = .ok (.iload_n 1, 1) := by decide +kernel
theorem dX4_paysTo_48 : decode cX4_paysTo 48 = .ok (.iload_n 2, 1) := by decide +kernel
theorem dX4_paysTo_49 : decode cX4_paysTo 49 = .ok (.invokevirtual 159, 3) := by decide +kernel
theorem dX4_paysTo_52 : decode cX4_paysTo 52 = .ok (.lreturn, 1) := by decide +kernel
theorem dX4_sum_0 : decode cX4_sum 0 = .ok (.aload_n 0, 1) := by decide +kernel
theorem dX4_sum_1 : decode cX4_sum 1 = .ok (.iload_n 1, 1) := by decide +kernel
theorem dX4_sum_2 : decode cX4_sum 2 = .ok (.invokevirtual 105, 3) := by decide +kernel
theorem dX4_sum_5 : decode cX4_sum 5 = .ok (.ifCond .eq 12, 3) := by decide +kernel
theorem dX4_sum_8 : decode cX4_sum 8 = .ok (.iload_n 2, 1) := by decide +kernel
theorem dX4_sum_9 : decode cX4_sum 9 = .ok (.iconst 0, 1) := by decide +kernel
theorem dX4_sum_10 : decode cX4_sum 10 = .ok (.iconst 1, 1) := by decide +kernel
theorem dX4_sum_11 : decode cX4_sum 11 = .ok (.invokestatic 64, 3) := by decide +kernel
theorem dX4_sum_14 : decode cX4_sum 14 = .ok (.ifCond .ne 10, 3) := by decide +kernel
theorem dX4_sum_17 : decode cX4_sum 17 = .ok (.aload_n 0, 1) := by decide +kernel
theorem dX4_sum_18 : decode cX4_sum 18 = .ok (.iconst 1, 1) := by decide +kernel
theorem dX4_sum_19 : decode cX4_sum 19 = .ok (.invokevirtual 68, 3) := by decide +kernel
theorem dX4_sum_22 : decode cX4_sum 22 = .ok (.i2l, 1) := by decide +kernel
theorem dX4_sum_23 : decode cX4_sum 23 = .ok (.lreturn, 1) := by decide +kernel
theorem dX4_sum_24 : decode cX4_sum 24 = .ok (.aload_n 0, 1) := by decide +kernel
theorem dX4_sum_25 : decode cX4_sum 25 = .ok (.invokevirtual 78, 3) := by decide +kernel
theorem dX4_sum_28 : decode cX4_sum 28 = .ok (.aload_n 0, 1) := by decide +kernel
theorem dX4_sum_29 : decode cX4_sum 29 = .ok (.invokevirtual 126, 3) := by decide +kernel
theorem dX4_sum_32 : decode cX4_sum 32 = .ok (.iload_n 2, 1) := by decide +kernel
theorem dX4_sum_33 : decode cX4_sum 33 = .ok (.ifCond .ne 14, 3) := by decide +kernel
theorem dX4_sum_36 : decode cX4_sum 36 = .ok (.aload_n 0, 1) := by decide +kernel
theorem dX4_sum_37 : decode cX4_sum 37 = .ok (.getfield 26, 3) := by decide +kernel
theorem dX4_sum_40 : decode cX4_sum 40 = .ok (.iload_n 1, 1) := by decide +kernel
theorem dX4_sum_41 : decode cX4_sum 41 = .ok (.invokevirtual 162, 3) := by decide +kernel
theorem dX4_sum_44 : decode cX4_sum 44 = .ok (.goto 11, 3) := by decide +kernel
theorem dX4_sum_47 : decode cX4_sum 47 = .ok (.aload_n 0, 1) := by decide +kernel
theorem dX4_sum_48 : decode cX4_sum 48 = .ok (.getfield 26, 3) := by decide +kernel
theorem dX4_sum_51 : decode cX4_sum 51 = .ok (.iload_n 1, 1) := by decide +kernel
theorem dX4_sum_52 : decode cX4_sum 52 = .ok (.invokevirtual 165, 3) := by decide +kernel
theorem dX4_sum_55 : decode cX4_sum 55 = .ok (.lreturn, 1) := by decide +kernel
theorem dX4_bites_0 : decode cX4_bites 0 = .ok (.aload_n 0, 1) := by decide +kernel
theorem dX4_bites_1 : decode cX4_bites 1 = .ok (.iload_n 1, 1) := by decide +kernel
theorem dX4_bites_2 : decode cX4_bites 2 = .ok (.invokevirtual 105, 3) := by decide +kernel
theorem dX4_bites_5 : decode cX4_bites 5 = .ok (.ifCond .ne 9, 3) := by decide +kernel
theorem dX4_bites_8 : decode cX4_bites 8 = .ok (.aload_n 0, 1) := by decide +kernel
theorem dX4_bites_9 : decode cX4_bites 9 = .ok (.iconst 1, 1) := by decide +kernel
theorem dX4_bites_10 : decode cX4_bites 10 = .ok (.invokevirtual 68, 3) := by decide +kernel
theorem dX4_bites_13 : decode cX4_bites 13 = .ok (.ireturn, 1) := by decide +kernel
theorem dX4_bites_14 : decode cX4_bites 14 = .ok (.aload_n 0, 1) := by decide +kernel
theorem dX4_bites_15 : decode cX4_bites 15 = .ok (.invokevirtual 78, 3) := by decide +kernel
theorem dX4_bites_18 : decode cX4_bites 18 = .ok (.aload_n 0, 1) := by decide +kernel
theorem dX4_bites_19 : decode cX4_bites 19 = .ok (.invokevirtual 126, 3) := by decide +kernel
theorem dX4_bites_22 : decode cX4_bites 22 = .ok (.aload_n 0, 1) := by decide +kernel
theorem dX4_bites_23 : decode cX4_bites 23 = .ok (.getfield 26, 3) := by decide +kernel
theorem dX4_bites_26 : decode cX4_bites 26 = .ok (.iload_n 1, 1) := by decide +kernel
theorem dX4_bites_27 : decode cX4_bites 27 = .ok (.invokevirtual 165, 3) := by decide +kernel
theorem dX4_bites_30 : decode cX4_bites 30 = .ok (.aload_n 0, 1) := by decide +kernel
theorem dX4_bites_31 : decode cX4_bites 31 = .ok (.getfield 26, 3) := by decide +kernel
theorem dX4_bites_34 : decode cX4_bites 34 = .ok (.iload_n 1, 1) := by decide +kernel
theorem dX4_bites_35 : decode cX4_bites 35 = .ok (.invokevirtual 162, 3) := by decide +kernel
theorem dX4_bites_38 : decode cX4_bites 38 = .ok (.lcmp, 1) := by decide +kernel
theorem dX4_bites_39 : decode cX4_bites 39 = .ok (.ifCond .ge 7, 3) := by decide +kernel
theorem dX4_bites_42 : decode cX4_bites 42 = .ok (.iconst 1, 1) := by decide +kernel
theorem dX4_bites_43 : decode cX4_bites 43 = .ok (.goto 4, 3) := by decide +kernel
theorem dX4_bites_46 : decode cX4_bites 46 = .ok (.iconst 0, 1) := by decide +kernel
theorem dX4_bites_47 : decode cX4_bites 47 = .ok (.ireturn, 1) := by decide +kernel
theorem dX4_gets_0 : decode cX4_gets 0 = .ok (.aload_n 0, 1) := by decide +kernel
theorem dX4_gets_1 : decode cX4_gets 1 = .ok (.iload_n 1, 1) := by decide +kernel
theorem dX4_gets_2 : decode cX4_gets 2 = .ok (.invokevirtual 116, 3) := by decide +kernel
theorem dX4_gets_5 : decode cX4_gets 5 = .ok (.ifCond .eq 12, 3) := by decide +kernel
theorem dX4_gets_8 : decode cX4_gets 8 = .ok (.iload_n 2, 1) := by decide +kernel
theorem dX4_gets_9 : decode cX4_gets 9 = .ok (.iconst 0, 1) := by decide +kernel
theorem dX4_gets_10 : decode cX4_gets 10 = .ok (.iconst 2, 1) := by decide +kernel
theorem dX4_gets_11 : decode cX4_gets 11 = .ok (.invokestatic 64, 3) := by decide +kernel
theorem dX4_gets_14 : decode cX4_gets 14 = .ok (.ifCond .ne 10, 3) := by decide +kernel
theorem dX4_gets_17 : decode cX4_gets 17 = .ok (.aload_n 0, 1) := by decide +kernel
theorem dX4_gets_18 : decode cX4_gets 18 = .ok (.iconst 1, 1) := by decide +kernel
theorem dX4_gets_19 : decode cX4_gets 19 = .ok (.invokevirtual 68, 3) := by decide +kernel
theorem dX4_gets_22 : decode cX4_gets 22 = .ok (.i2l, 1) := by decide +kernel
theorem dX4_gets_23 : decode cX4_gets 23 = .ok (.lreturn, 1) := by decide +kernel
theorem dX4_gets_24 : decode cX4_gets 24 = .ok (.aload_n 0, 1) := by decide +kernel
theorem dX4_gets_25 : decode cX4_gets 25 = .ok (.invokevirtual 78, 3) := by decide +kernel
theorem dX4_gets_28 : decode cX4_gets 28 = .ok (.aload_n 0, 1) := by decide +kernel
theorem dX4_gets_29 : decode cX4_gets 29 = .ok (.invokevirtual 126, 3) := by decide +kernel
theorem dX4_gets_32 : decode cX4_gets 32 = .ok (.iload_n 2, 1) := by decide +kernel
theorem dX4_gets_33 : decode cX4_gets 33 = .ok (.ifCond .ne 12, 3) := by decide +kernel
theorem dX4_gets_36 : decode cX4_gets 36 = .ok (.aload_n 0, 1) := by decide +kernel
theorem dX4_gets_37 : decode cX4_gets 37 = .ok (.getfield 26, 3) := by decide +kernel
theorem dX4_gets_40 : decode cX4_gets 40 = .ok (.iload_n 1, 1) := by decide +kernel
theorem dX4_gets_41 : decode cX4_gets 41 = .ok (.invokevirtual 168, 3) := by decide +kernel
theorem dX4_gets_44 : decode cX4_gets 44 = .ok (.lreturn, 1) := by decide +kernel
theorem dX4_gets_45 : decode cX4_gets 45 = .ok (.iload_n 2, 1) := by decide +kernel
theorem dX4_gets_46 : decode cX4_gets 46 = .ok (.iconst 1, 1) := by decide +kernel
theorem dX4_gets_47 : decode cX4_gets 47 = .ok (.if_icmp .ne 14, 3) := by decide +kernel
theorem dX4_gets_50 : decode cX4_gets 50 = .ok (.aload_n 0, 1) := by decide +kernel
theorem dX4_gets_51 : decode cX4_gets 51 = .ok (.getfield 26, 3) := by decide +kernel
theorem dX4_gets_54 : decode cX4_gets 54 = .ok (.iload_n 1, 1) := by decide +kernel
theorem dX4_gets_55 : decode cX4_gets 55 = .ok (.invokevirtual 171, 3) := by decide +kernel
theorem dX4_gets_58 : decode cX4_gets 58 = .ok (.goto 11, 3) := by decide +kernel
theorem dX4_gets_61 : decode cX4_gets 61 = .ok (.aload_n 0, 1) := by decide +kernel
theorem dX4_gets_62 : decode cX4_gets 62 = .ok (.getfield 26, 3) := by decide +kernel
theorem dX4_gets_65 : decode cX4_gets 65 = .ok (.iload_n 1, 1) := by decide +kernel
theorem dX4_gets_66 : decode cX4_gets 66 = .ok (.invokevirtual 174, 3) := by decide +kernel
theorem dX4_gets_69 : decode cX4_gets 69 = .ok (.lreturn, 1) := by decide +kernel
theorem dX4_cover_0 : decode cX4_cover 0 = .ok (.aload_n 0, 1) := by decide +kernel
theorem dX4_cover_1 : decode cX4_cover 1 = .ok (.iload_n 1, 1) := by decide +kernel
theorem dX4_cover_2 : decode cX4_cover 2 = .ok (.invokevirtual 105, 3) := by decide +kernel
theorem dX4_cover_5 : decode cX4_cover 5 = .ok (.ifCond .eq 12, 3) := by decide +kernel
theorem dX4_cover_8 : decode cX4_cover 8 = .ok (.iload_n 2, 1) := by decide +kernel
theorem dX4_cover_9 : decode cX4_cover 9 = .ok (.iconst 0, 1) := by decide +kernel
theorem dX4_cover_10 : decode cX4_cover 10 = .ok (.iconst 1, 1) := by decide +kernel
theorem dX4_cover_11 : decode cX4_cover 11 = .ok (.invokestatic 64, 3) := by decide +kernel
theorem dX4_cover_14 : decode cX4_cover 14 = .ok (.ifCond .ne 10, 3) := by decide +kernel
theorem dX4_cover_17 : decode cX4_cover 17 = .ok (.aload_n 0, 1) := by decide +kernel
theorem dX4_cover_18 : decode cX4_cover 18 = .ok (.iconst 1, 1) := by decide +kernel
theorem dX4_cover_19 : decode cX4_cover 19 = .ok (.invokevirtual 68, 3) := by decide +kernel
theorem dX4_cover_22 : decode cX4_cover 22 = .ok (.i2l, 1) := by decide +kernel
theorem dX4_cover_23 : decode cX4_cover 23 = .ok (.lreturn, 1) := by decide +kernel
theorem dX4_cover_24 : decode cX4_cover 24 = .ok (.aload_n 0, 1) := by decide +kernel
theorem dX4_cover_25 : decode cX4_cover 25 = .ok (.invokevirtual 78, 3) := by decide +kernel
theorem dX4_cover_28 : decode cX4_cover 28 = .ok (.aload_n 0, 1) := by decide +kernel
theorem dX4_cover_29 : decode cX4_cover 29 = .ok (.invokevirtual 126, 3) := by decide +kernel
theorem dX4_cover_32 : decode cX4_cover 32 = .ok (.aload_n 0, 1) := by decide +kernel
theorem dX4_cover_33 : decode cX4_cover 33 = .ok (.getfield 26, 3) := by decide +kernel
theorem dX4_cover_36 : decode cX4_cover 36 = .ok (.iload_n 1, 1) := by decide +kernel
theorem dX4_cover_37 : decode cX4_cover 37 = .ok (.invokevirtual 177, 3) := by decide +kernel
theorem dX4_cover_40 : decode cX4_cover 40 = .ok (.lstore_n 3, 1) := by decide +kernel
theorem dX4_cover_41 : decode cX4_cover 41 = .ok (.iload_n 2, 1) := by decide +kernel
theorem dX4_cover_42 : decode cX4_cover 42 = .ok (.ifCond .ne 7, 3) := by decide +kernel
theorem dX4_cover_45 : decode cX4_cover 45 = .ok (.lload_n 3, 1) := by decide +kernel
theorem dX4_cover_46 : decode cX4_cover 46 = .ok (.goto 13, 3) := by decide +kernel
theorem dX4_cover_49 : decode cX4_cover 49 = .ok (.aload_n 0, 1) := by decide +kernel
theorem dX4_cover_50 : decode cX4_cover 50 = .ok (.getfield 26, 3) := by decide +kernel
theorem dX4_cover_53 : decode cX4_cover 53 = .ok (.iload_n 1, 1) := by decide +kernel
theorem dX4_cover_54 : decode cX4_cover 54 = .ok (.invokevirtual 165, 3) := by decide +kernel
theorem dX4_cover_57 : decode cX4_cover 57 = .ok (.lload_n 3, 1) := by decide +kernel
theorem dX4_cover_58 : decode cX4_cover 58 = .ok (.lsub, 1) := by decide +kernel
theorem dX4_cover_59 : decode cX4_cover 59 = .ok (.lreturn, 1) := by decide +kernel
theorem dX4_net_0 : decode cX4_net 0 = .ok (.aload_n 0, 1) := by decide +kernel
theorem dX4_net_1 : decode cX4_net 1 = .ok (.iload_n 1, 1) := by decide +kernel
theorem dX4_net_2 : decode cX4_net 2 = .ok (.invokevirtual 105, 3) := by decide +kernel
theorem dX4_net_5 : decode cX4_net 5 = .ok (.ifCond .ne 9, 3) := by decide +kernel
theorem dX4_net_8 : decode cX4_net 8 = .ok (.aload_n 0, 1) := by decide +kernel
theorem dX4_net_9 : decode cX4_net 9 = .ok (.iconst 1, 1) := by decide +kernel
theorem dX4_net_10 : decode cX4_net 10 = .ok (.invokevirtual 180, 3) := by decide +kernel
theorem dX4_net_13 : decode cX4_net 13 = .ok (.lreturn, 1) := by decide +kernel
theorem dX4_net_14 : decode cX4_net 14 = .ok (.aload_n 0, 1) := by decide +kernel
theorem dX4_net_15 : decode cX4_net 15 = .ok (.invokevirtual 78, 3) := by decide +kernel
theorem dX4_net_18 : decode cX4_net 18 = .ok (.aload_n 0, 1) := by decide +kernel
theorem dX4_net_19 : decode cX4_net 19 = .ok (.invokevirtual 126, 3) := by decide +kernel
theorem dX4_net_22 : decode cX4_net 22 = .ok (.aload_n 0, 1) := by decide +kernel
theorem dX4_net_23 : decode cX4_net 23 = .ok (.getfield 26, 3) := by decide +kernel
theorem dX4_net_26 : decode cX4_net 26 = .ok (.iload_n 1, 1) := by decide +kernel
theorem dX4_net_27 : decode cX4_net 27 = .ok (.invokevirtual 183, 3) := by decide +kernel
theorem dX4_net_30 : decode cX4_net 30 = .ok (.lreturn, 1) := by decide +kernel
theorem dX4_netBy_0 : decode cX4_netBy 0 = .ok (.aload_n 0, 1) := by decide +kernel
theorem dX4_netBy_1 : decode cX4_netBy 1 = .ok (.iload_n 1, 1) := by decide +kernel
theorem dX4_netBy_2 : decode cX4_netBy 2 = .ok (.invokevirtual 105, 3) := by decide +kernel
theorem dX4_netBy_5 : decode cX4_netBy 5 = .ok (.ifCond .ne 9, 3) := by decide +kernel
theorem dX4_netBy_8 : decode cX4_netBy 8 = .ok (.aload_n 0, 1) := by decide +kernel
theorem dX4_netBy_9 : decode cX4_netBy 9 = .ok (.iconst 1, 1) := by decide +kernel
theorem dX4_netBy_10 : decode cX4_netBy 10 = .ok (.invokevirtual 180, 3) := by decide +kernel
theorem dX4_netBy_13 : decode cX4_netBy 13 = .ok (.lreturn, 1) := by decide +kernel
theorem dX4_netBy_14 : decode cX4_netBy 14 = .ok (.iload_n 2, 1) := by decide +kernel
theorem dX4_netBy_15 : decode cX4_netBy 15 = .ok (.iconst 0, 1) := by decide +kernel
theorem dX4_netBy_16 : decode cX4_netBy 16 = .ok (.bipush 7, 2) := by decide +kernel
theorem dX4_netBy_18 : decode cX4_netBy 18 = .ok (.invokestatic 64, 3) := by decide +kernel
theorem dX4_netBy_21 : decode cX4_netBy 21 = .ok (.ifCond .ne 9, 3) := by decide +kernel
theorem dX4_netBy_24 : decode cX4_netBy 24 = .ok (.aload_n 0, 1) := by decide +kernel
theorem dX4_netBy_25 : decode cX4_netBy 25 = .ok (.iconst 2, 1) := by decide +kernel
theorem dX4_netBy_26 : decode cX4_netBy 26 = .ok (.invokevirtual 180, 3) := by decide +kernel
theorem dX4_netBy_29 : decode cX4_netBy 29 = .ok (.lreturn, 1) := by decide +kernel
theorem dX4_netBy_30 : decode cX4_netBy 30 = .ok (.aload_n 0, 1) := by decide +kernel
theorem dX4_netBy_31 : decode cX4_netBy 31 = .ok (.invokevirtual 78, 3) := by decide +kernel
theorem dX4_netBy_34 : decode cX4_netBy 34 = .ok (.aload_n 0, 1) := by decide +kernel
theorem dX4_netBy_35 : decode cX4_netBy 35 = .ok (.iload_n 1, 1) := by decide +kernel
theorem dX4_netBy_36 : decode cX4_netBy 36 = .ok (.iload_n 2, 1) := by decide +kernel
theorem dX4_netBy_37 : decode cX4_netBy 37 = .ok (.invokevirtual 186, 3) := by decide +kernel
theorem dX4_netBy_40 : decode cX4_netBy 40 = .ok (.lreturn, 1) := by decide +kernel
theorem dX4_wished_0 : decode cX4_wished 0 = .ok (.aload_n 0, 1) := by decide +kernel
theorem dX4_wished_1 : decode cX4_wished 1 = .ok (.iload_n 1, 1) := by decide +kernel
theorem dX4_wished_2 : decode cX4_wished 2 = .ok (.invokevirtual 105, 3) := by decide +kernel
theorem dX4_wished_5 : decode cX4_wished 5 = .ok (.ifCond .ne 9, 3) := by decide +kernel
theorem dX4_wished_8 : decode cX4_wished 8 = .ok (.aload_n 0, 1) := by decide +kernel
theorem dX4_wished_9 : decode cX4_wished 9 = .ok (.iconst 1, 1) := by decide +kernel
theorem dX4_wished_10 : decode cX4_wished 10 = .ok (.invokevirtual 68, 3) := by decide +kernel
theorem dX4_wished_13 : decode cX4_wished 13 = .ok (.ireturn, 1) := by decide +kernel
theorem dX4_wished_14 : decode cX4_wished 14 = .ok (.aload_n 0, 1) := by decide +kernel
theorem dX4_wished_15 : decode cX4_wished 15 = .ok (.invokevirtual 78, 3) := by decide +kernel
theorem dX4_wished_18 : decode cX4_wished 18 = .ok (.iconst 0, 1) := by decide +kernel
theorem dX4_wished_19 : decode cX4_wished 19 = .ok (.istore_n 2, 1) := by decide +kernel
theorem dX4_wished_20 : decode cX4_wished 20 = .ok (.aload_n 0, 1) := by decide +kernel
theorem dX4_wished_21 : decode cX4_wished 21 = .ok (.iload_n 1, 1) := by decide +kernel
theorem dX4_wished_22 : decode cX4_wished 22 = .ok (.iconst 0, 1) := by decide +kernel
theorem dX4_wished_23 : decode cX4_wished 23 = .ok (.invokevirtual 186, 3) := by decide +kernel
theorem dX4_wished_26 : decode cX4_wished 26 = .ok (.lstore_n 3, 1) := by decide +kernel
theorem dX4_wished_27 : decode cX4_wished 27 = .ok (.iconst 1, 1) := by decide +kernel
theorem dX4_wished_28 : decode cX4_wished 28 = .ok (.istore 5, 2) := by decide +kernel
theorem dX4_wished_30 : decode cX4_wished 30 = .ok (.iload 5, 2) := by decide +kernel
theorem dX4_wished_32 : decode cX4_wished 32 = .ok (.bipush 8, 2) := by decide +kernel
theorem dX4_wished_34 : decode cX4_wished 34 = .ok (.if_icmp .ge 31, 3) := by decide +kernel
theorem dX4_wished_37 : decode cX4_wished 37 = .ok (.aload_n 0, 1) := by decide +kernel
theorem dX4_wished_38 : decode cX4_wished 38 = .ok (.iload_n 1, 1) := by decide +kernel
theorem dX4_wished_39 : decode cX4_wished 39 = .ok (.iload 5, 2) := by decide +kernel
theorem dX4_wished_41 : decode cX4_wished 41 = .ok (.invokevirtual 186, 3) := by decide +kernel
theorem dX4_wished_44 : decode cX4_wished 44 = .ok (.lstore 6, 2) := by decide +kernel
theorem dX4_wished_46 : decode cX4_wished 46 = .ok (.lload 6, 2) := by decide +kernel
theorem dX4_wished_48 : decode cX4_wished 48 = .ok (.lload_n 3, 1) := by decide +kernel
theorem dX4_wished_49 : decode cX4_wished 49 = .ok (.lcmp, 1) := by decide +kernel
theorem dX4_wished_50 : decode cX4_wished 50 = .ok (.ifCond .le 9, 3) := by decide +kernel
theorem dX4_wished_53 : decode cX4_wished 53 = .ok (.lload 6, 2) := by decide +kernel
theorem dX4_wished_55 : decode cX4_wished 55 = .ok (.lstore_n 3, 1) := by decide +kernel
theorem dX4_wished_56 : decode cX4_wished 56 = .ok (.iload 5, 2) := by decide +kernel
theorem dX4_wished_58 : decode cX4_wished 58 = .ok (.istore_n 2, 1) := by decide +kernel
theorem dX4_wished_59 : decode cX4_wished 59 = .ok (.iinc 5 1, 3) := by decide +kernel
theorem dX4_wished_62 : decode cX4_wished 62 = .ok (.goto (-32), 3) := by decide +kernel
theorem dX4_wished_65 : decode cX4_wished 65 = .ok (.iload_n 2, 1) := by decide +kernel
theorem dX4_wished_66 : decode cX4_wished 66 = .ok (.ireturn, 1) := by decide +kernel
theorem dX4_gap_0 : decode cX4_gap 0 = .ok (.aload_n 0, 1) := by decide +kernel
theorem dX4_gap_1 : decode cX4_gap 1 = .ok (.iload_n 1, 1) := by decide +kernel
theorem dX4_gap_2 : decode cX4_gap 2 = .ok (.invokevirtual 105, 3) := by decide +kernel
theorem dX4_gap_5 : decode cX4_gap 5 = .ok (.ifCond .ne 9, 3) := by decide +kernel
theorem dX4_gap_8 : decode cX4_gap 8 = .ok (.aload_n 0, 1) := by decide +kernel
theorem dX4_gap_9 : decode cX4_gap 9 = .ok (.iconst 1, 1) := by decide +kernel
theorem dX4_gap_10 : decode cX4_gap 10 = .ok (.invokevirtual 180, 3) := by decide +kernel
theorem dX4_gap_13 : decode cX4_gap 13 = .ok (.lreturn, 1) := by decide +kernel
theorem dX4_gap_14 : decode cX4_gap 14 = .ok (.aload_n 0, 1) := by decide +kernel
theorem dX4_gap_15 : decode cX4_gap 15 = .ok (.invokevirtual 78, 3) := by decide +kernel
theorem dX4_gap_18 : decode cX4_gap 18 = .ok (.aload_n 0, 1) := by decide +kernel
theorem dX4_gap_19 : decode cX4_gap 19 = .ok (.getfield 19, 3) := by decide +kernel
theorem dX4_gap_22 : decode cX4_gap 22 = .ok (.getfield 101, 3) := by decide +kernel
theorem dX4_gap_25 : decode cX4_gap 25 = .ok (.iconst 2, 1) := by decide +kernel
theorem dX4_gap_26 : decode cX4_gap 26 = .ok (.iaload, 1) := by decide +kernel
theorem dX4_gap_27 : decode cX4_gap 27 = .ok (.iconst 2, 1) := by decide +kernel
theorem dX4_gap_28 : decode cX4_gap 28 = .ok (.aload_n 0, 1) := by decide +kernel
theorem dX4_gap_29 : decode cX4_gap 29 = .ok (.getfield 19, 3) := by decide +kernel
theorem dX4_gap_32 : decode cX4_gap 32 = .ok (.getfield 101, 3) := by decide +kernel
theorem dX4_gap_35 : decode cX4_gap 35 = .ok (.iconst 3, 1) := by decide +kernel
theorem dX4_gap_36 : decode cX4_gap 36 = .ok (.iaload, 1) := by decide +kernel
theorem dX4_gap_37 : decode cX4_gap 37 = .ok (.imul, 1) := by decide +kernel
theorem dX4_gap_38 : decode cX4_gap 38 = .ok (.iadd, 1) := by decide +kernel
theorem dX4_gap_39 : decode cX4_gap 39 = .ok (.istore_n 2, 1) := by decide +kernel
theorem dX4_gap_40 : decode cX4_gap 40 = .ok (.aload_n 0, 1) := by decide +kernel
theorem dX4_gap_41 : decode cX4_gap 41 = .ok (.iload_n 1, 1) := by decide +kernel
theorem dX4_gap_42 : decode cX4_gap 42 = .ok (.iload_n 2, 1) := by decide +kernel
theorem dX4_gap_43 : decode cX4_gap 43 = .ok (.iconst 4, 1) := by decide +kernel
theorem dX4_gap_44 : decode cX4_gap 44 = .ok (.iadd, 1) := by decide +kernel
theorem dX4_gap_45 : decode cX4_gap 45 = .ok (.invokevirtual 186, 3) := by decide +kernel
theorem dX4_gap_48 : decode cX4_gap 48 = .ok (.aload_n 0, 1) := by decide +kernel
theorem dX4_gap_49 : decode cX4_gap 49 = .ok (.iload_n 1, 1) := by decide +kernel
theorem dX4_gap_50 : decode cX4_gap 50 = .ok (.iload_n 2, 1) := by decide +kernel
theorem dX4_gap_51 : decode cX4_gap 51 = .ok (.invokevirtual 186, 3) := by decide +kernel
theorem dX4_gap_54 : decode cX4_gap 54 = .ok (.lsub, 1) := by decide +kernel
theorem dX4_gap_55 : decode cX4_gap 55 = .ok (.lreturn, 1) := by decide +kernel
theorem dX4_enough_0 : decode cX4_enough 0 = .ok (.aload_n 0, 1) := by decide +kernel
theorem dX4_enough_1 : decode cX4_enough 1 = .ok (.invokevirtual 94, 3) := by decide +kernel
theorem dX4_enough_4 : decode cX4_enough 4 = .ok (.ifCond .ne 9, 3) := by decide +kernel
theorem dX4_enough_7 : decode cX4_enough 7 = .ok (.aload_n 0, 1) := by decide +kernel
theorem dX4_enough_8 : decode cX4_enough 8 = .ok (.iconst 1, 1) := by decide +kernel
theorem dX4_enough_9 : decode cX4_enough 9 = .ok (.invokevirtual 68, 3) := by decide +kernel
theorem dX4_enough_12 : decode cX4_enough 12 = .ok (.ireturn, 1) := by decide +kernel
theorem dX4_enough_13 : decode cX4_enough 13 = .ok (.aload_n 0, 1) := by decide +kernel
theorem dX4_enough_14 : decode cX4_enough 14 = .ok (.invokevirtual 78, 3) := by decide +kernel
theorem dX4_enough_17 : decode cX4_enough 17 = .ok (.aload_n 0, 1) := by decide +kernel
theorem dX4_enough_18 : decode cX4_enough 18 = .ok (.invokevirtual 126, 3) := by decide +kernel
theorem dX4_enough_21 : decode cX4_enough 21 = .ok (.lconst 0, 1) := by decide +kernel
theorem dX4_enough_22 : decode cX4_enough 22 = .ok (.lstore_n 1, 1) := by decide +kernel
theorem dX4_enough_23 : decode cX4_enough 23 = .ok (.iconst 0, 1) := by decide +kernel
theorem dX4_enough_24 : decode cX4_enough 24 = .ok (.istore_n 3, 1) := by decide +kernel
theorem dX4_enough_25 : decode cX4_enough 25 = .ok (.iload_n 3, 1) := by decide +kernel
theorem dX4_enough_26 : decode cX4_enough 26 = .ok (.aload_n 0, 1) := by decide +kernel
theorem dX4_enough_27 : decode cX4_enough 27 = .ok (.getfield 19, 3) := by decide +kernel
theorem dX4_enough_30 : decode cX4_enough 30 = .ok (.getfield 91, 3) := by decide +kernel
theorem dX4_enough_33 : decode cX4_enough 33 = .ok (.if_icmp .ge 22, 3) := by decide +kernel
theorem dX4_enough_36 : decode cX4_enough 36 = .ok (.lload_n 1, 1) := by decide +kernel
theorem dX4_enough_37 : decode cX4_enough 37 = .ok (.aload_n 0, 1) := by decide +kernel
theorem dX4_enough_38 : decode cX4_enough 38 = .ok (.getfield 26, 3) := by decide +kernel
theorem dX4_enough_41 : decode cX4_enough 41 = .ok (.iload_n 3, 1) := by decide +kernel
theorem dX4_enough_42 : decode cX4_enough 42 = .ok (.invokevirtual 189, 3) := by decide +kernel
theorem dX4_enough_45 : decode cX4_enough 45 = .ok (.invokestatic 192, 3) := by decide +kernel
theorem dX4_enough_48 : decode cX4_enough 48 = .ok (.lstore_n 1, 1) := by decide +kernel
theorem dX4_enough_49 : decode cX4_enough 49 = .ok (.iinc 3 1, 3) := by decide +kernel
theorem dX4_enough_52 : decode cX4_enough 52 = .ok (.goto (-27), 3) := by decide +kernel
theorem dX4_enough_55 : decode cX4_enough 55 = .ok (.lload_n 1, 1) := by decide +kernel
theorem dX4_enough_56 : decode cX4_enough 56 = .ok (.ldc2_w 198, 3) := by decide +kernel
theorem dX4_enough_59 : decode cX4_enough 59 = .ok (.lcmp, 1) := by decide +kernel
theorem dX4_enough_60 : decode cX4_enough 60 = .ok (.ifCond .le 8, 3) := by decide +kernel
theorem dX4_enough_63 : decode cX4_enough 63 = .ok (.bipush (-2), 2) := by decide +kernel
theorem dX4_enough_65 : decode cX4_enough 65 = .ok (.goto 5, 3) := by decide +kernel
theorem dX4_enough_68 : decode cX4_enough 68 = .ok (.lload_n 1, 1) := by decide +kernel
theorem dX4_enough_69 : decode cX4_enough 69 = .ok (.l2i, 1) := by decide +kernel
theorem dX4_enough_70 : decode cX4_enough 70 = .ok (.ireturn, 1) := by decide +kernel
theorem dX4_would_0 : decode cX4_would 0 = .ok (.aload_n 0, 1) := by decide +kernel
theorem dX4_would_1 : decode cX4_would 1 = .ok (.iload_n 1, 1) := by decide +kernel
theorem dX4_would_2 : decode cX4_would 2 = .ok (.invokevirtual 105, 3) := by decide +kernel
theorem dX4_would_5 : decode cX4_would 5 = .ok (.ifCond .eq 11, 3) := by decide +kernel
theorem dX4_would_8 : decode cX4_would 8 = .ok (.aload_n 0, 1) := by decide +kernel
theorem dX4_would_9 : decode cX4_would 9 = .ok (.iload_n 2, 1) := by decide +kernel
theorem dX4_would_10 : decode cX4_would 10 = .ok (.invokevirtual 105, 3) := by decide +kernel
theorem dX4_would_13 : decode cX4_would 13 = .ok (.ifCond .ne 9, 3) := by decide +kernel
theorem dX4_would_16 : decode cX4_would 16 = .ok (.aload_n 0, 1) := by decide +kernel
theorem dX4_would_17 : decode cX4_would 17 = .ok (.iconst 1, 1) := by decide +kernel
theorem dX4_would_18 : decode cX4_would 18 = .ok (.invokevirtual 180, 3) := by decide +kernel
theorem dX4_would_21 : decode cX4_would 21 = .ok (.lreturn, 1) := by decide +kernel
theorem dX4_would_22 : decode cX4_would 22 = .ok (.iload_n 1, 1) := by decide +kernel
theorem dX4_would_23 : decode cX4_would 23 = .ok (.iload_n 2, 1) := by decide +kernel
theorem dX4_would_24 : decode cX4_would 24 = .ok (.if_icmp .ne 9, 3) := by decide +kernel
theorem dX4_would_27 : decode cX4_would 27 = .ok (.aload_n 0, 1) := by decide +kernel
theorem dX4_would_28 : decode cX4_would 28 = .ok (.iconst 5, 1) := by decide +kernel
theorem dX4_would_29 : decode cX4_would 29 = .ok (.invokevirtual 180, 3) := by decide +kernel
theorem dX4_would_32 : decode cX4_would 32 = .ok (.lreturn, 1) := by decide +kernel
theorem dX4_would_33 : decode cX4_would 33 = .ok (.iload_n 3, 1) := by decide +kernel
theorem dX4_would_34 : decode cX4_would 34 = .ok (.iconst 0, 1) := by decide +kernel
theorem dX4_would_35 : decode cX4_would 35 = .ok (.aload_n 0, 1) := by decide +kernel
theorem dX4_would_36 : decode cX4_would 36 = .ok (.iload_n 1, 1) := by decide +kernel
theorem dX4_would_37 : decode cX4_would 37 = .ok (.iload_n 2, 1) := by decide +kernel
theorem dX4_would_38 : decode cX4_would 38 = .ok (.invokevirtual 200, 3) := by decide +kernel
theorem dX4_would_41 : decode cX4_would 41 = .ok (.invokestatic 64, 3) := by decide +kernel
theorem dX4_would_44 : decode cX4_would 44 = .ok (.ifCond .ne 9, 3) := by decide +kernel
theorem dX4_would_47 : decode cX4_would 47 = .ok (.aload_n 0, 1) := by decide +kernel
theorem dX4_would_48 : decode cX4_would 48 = .ok (.iconst 2, 1) := by decide +kernel
theorem dX4_would_49 : decode cX4_would 49 = .ok (.invokevirtual 180, 3) := by decide +kernel
theorem dX4_would_52 : decode cX4_would 52 = .ok (.lreturn, 1) := by decide +kernel
theorem dX4_would_53 : decode cX4_would 53 = .ok (.aload_n 0, 1) := by decide +kernel
theorem dX4_would_54 : decode cX4_would 54 = .ok (.invokevirtual 78, 3) := by decide +kernel
theorem dX4_would_57 : decode cX4_would 57 = .ok (.aload_n 0, 1) := by decide +kernel
theorem dX4_would_58 : decode cX4_would 58 = .ok (.iload_n 1, 1) := by decide +kernel
theorem dX4_would_59 : decode cX4_would 59 = .ok (.iload_n 2, 1) := by decide +kernel
theorem dX4_would_60 : decode cX4_would 60 = .ok (.iload_n 3, 1) := by decide +kernel
theorem dX4_would_61 : decode cX4_would 61 = .ok (.invokevirtual 203, 3) := by decide +kernel
theorem dX4_would_64 : decode cX4_would 64 = .ok (.lreturn, 1) := by decide +kernel
theorem dX4_worse_0 : decode cX4_worse 0 = .ok (.aload_n 0, 1) := by decide +kernel
theorem dX4_worse_1 : decode cX4_worse 1 = .ok (.iload_n 1, 1) := by decide +kernel
theorem dX4_worse_2 : decode cX4_worse 2 = .ok (.invokevirtual 105, 3) := by decide +kernel
theorem dX4_worse_5 : decode cX4_worse 5 = .ok (.ifCond .eq 11, 3) := by decide +kernel
theorem dX4_worse_8 : decode cX4_worse 8 = .ok (.aload_n 0, 1) := by decide +kernel
theorem dX4_worse_9 : decode cX4_worse 9 = .ok (.iload_n 2, 1) := by decide +kernel
theorem dX4_worse_10 : decode cX4_worse 10 = .ok (.invokevirtual 105, 3) := by decide +kernel
theorem dX4_worse_13 : decode cX4_worse 13 = .ok (.ifCond .ne 9, 3) := by decide +kernel
theorem dX4_worse_16 : decode cX4_worse 16 = .ok (.aload_n 0, 1) := by decide +kernel
theorem dX4_worse_17 : decode cX4_worse 17 = .ok (.iconst 1, 1) := by decide +kernel
theorem dX4_worse_18 : decode cX4_worse 18 = .ok (.invokevirtual 68, 3) := by decide +kernel
theorem dX4_worse_21 : decode cX4_worse 21 = .ok (.ireturn, 1) := by decide +kernel
theorem dX4_worse_22 : decode cX4_worse 22 = .ok (.iload_n 3, 1) := by decide +kernel
theorem dX4_worse_23 : decode cX4_worse 23 = .ok (.ldc 207, 2) := by decide +kernel
theorem dX4_worse_25 : decode cX4_worse 25 = .ok (.ldc 208, 2) := by decide +kernel
theorem dX4_worse_27 : decode cX4_worse 27 = .ok (.invokestatic 64, 3) := by decide +kernel
theorem dX4_worse_30 : decode cX4_worse 30 = .ok (.ifCond .ne 9, 3) := by decide +kernel
theorem dX4_worse_33 : decode cX4_worse 33 = .ok (.aload_n 0, 1) := by decide +kernel
theorem dX4_worse_34 : decode cX4_worse 34 = .ok (.iconst 2, 1) := by decide +kernel
theorem dX4_worse_35 : decode cX4_worse 35 = .ok (.invokevirtual 68, 3) := by decide +kernel
theorem dX4_worse_38 : decode cX4_worse 38 = .ok (.ireturn, 1) := by decide +kernel
theorem dX4_worse_39 : decode cX4_worse 39 = .ok (.iload_n 1, 1) := by decide +kernel
theorem dX4_worse_40 : decode cX4_worse 40 = .ok (.iload_n 2, 1) := by decide +kernel
theorem dX4_worse_41 : decode cX4_worse 41 = .ok (.if_icmp .ne 9, 3) := by decide +kernel
theorem dX4_worse_44 : decode cX4_worse 44 = .ok (.aload_n 0, 1) := by decide +kernel
theorem dX4_worse_45 : decode cX4_worse 45 = .ok (.iconst 5, 1) := by decide +kernel
theorem dX4_worse_46 : decode cX4_worse 46 = .ok (.invokevirtual 68, 3) := by decide +kernel
theorem dX4_worse_49 : decode cX4_worse 49 = .ok (.ireturn, 1) := by decide +kernel
theorem dX4_worse_50 : decode cX4_worse 50 = .ok (.aload_n 0, 1) := by decide +kernel
theorem dX4_worse_51 : decode cX4_worse 51 = .ok (.invokevirtual 78, 3) := by decide +kernel
theorem dX4_worse_54 : decode cX4_worse 54 = .ok (.aload_n 0, 1) := by decide +kernel
theorem dX4_worse_55 : decode cX4_worse 55 = .ok (.iload_n 1, 1) := by decide +kernel
theorem dX4_worse_56 : decode cX4_worse 56 = .ok (.iload_n 2, 1) := by decide +kernel
theorem dX4_worse_57 : decode cX4_worse 57 = .ok (.invokevirtual 200, 3) := by decide +kernel
theorem dX4_worse_60 : decode cX4_worse 60 = .ok (.istore 4, 2) := by decide +kernel
theorem dX4_worse_62 : decode cX4_worse 62 = .ok (.iconst 0, 1) := by decide +kernel
theorem dX4_worse_63 : decode cX4_worse 63 = .ok (.istore 5, 2) := by decide +kernel
theorem dX4_worse_65 : decode cX4_worse 65 = .ok (.iload 5, 2) := by decide +kernel
theorem dX4_worse_67 : decode cX4_worse 67 = .ok (.iload 4, 2) := by decide +kernel
theorem dX4_worse_69 : decode cX4_worse 69 = .ok (.if_icmp .gt 26, 3) := by decide +kernel
theorem dX4_worse_72 : decode cX4_worse 72 = .ok (.aload_n 0, 1) := by decide +kernel
theorem dX4_worse_73 : decode cX4_worse 73 = .ok (.iload_n 1, 1) := by decide +kernel
theorem dX4_worse_74 : decode cX4_worse 74 = .ok (.iload_n 2, 1) := by decide +kernel
theorem dX4_worse_75 : decode cX4_worse 75 = .ok (.iload 5, 2) := by decide +kernel
theorem dX4_worse_77 : decode cX4_worse 77 = .ok (.invokevirtual 203, 3) := by decide +kernel
theorem dX4_worse_80 : decode cX4_worse 80 = .ok (.iload_n 3, 1) := by decide +kernel
theorem dX4_worse_81 : decode cX4_worse 81 = .ok (.i2l, 1) := by decide +kernel
theorem dX4_worse_82 : decode cX4_worse 82 = .ok (.lcmp, 1) := by decide +kernel
theorem dX4_worse_83 : decode cX4_worse 83 = .ok (.ifCond .ge 6, 3) := by decide +kernel
theorem dX4_worse_86 : decode cX4_worse 86 = .ok (.iload 5, 2) := by decide +kernel
theorem dX4_worse_88 : decode cX4_worse 88 = .ok (.ireturn, 1) := by decide +kernel
theorem dX4_worse_89 : decode cX4_worse 89 = .ok (.iinc 5 1, 3) := by decide +kernel
theorem dX4_worse_92 : decode cX4_worse 92 = .ok (.goto (-27), 3) := by decide +kernel
theorem dX4_worse_95 : decode cX4_worse 95 = .ok (.bipush (-2), 2) := by decide +kernel
theorem dX4_worse_97 : decode cX4_worse 97 = .ok (.ireturn, 1) := by decide +kernel
theorem dX4_judged_0 : decode cX4_judged 0 = .ok (.aload_n 0, 1) := by decide +kernel
theorem dX4_judged_1 : decode cX4_judged 1 = .ok (.iload_n 1, 1) := by decide +kernel
theorem dX4_judged_2 : decode cX4_judged 2 = .ok (.invokevirtual 105, 3) := by decide +kernel
theorem dX4_judged_5 : decode cX4_judged 5 = .ok (.ifCond .eq 13, 3) := by decide +kernel
theorem dX4_judged_8 : decode cX4_judged 8 = .ok (.iload 4, 2) := by decide +kernel
theorem dX4_judged_10 : decode cX4_judged 10 = .ok (.iconst 0, 1) := by decide +kernel
theorem dX4_judged_11 : decode cX4_judged 11 = .ok (.iconst 2, 1) := by decide +kernel
theorem dX4_judged_12 : decode cX4_judged 12 = .ok (.invokestatic 64, 3) := by decide +kernel
theorem dX4_judged_15 : decode cX4_judged 15 = .ok (.ifCond .ne 9, 3) := by decide +kernel
theorem dX4_judged_18 : decode cX4_judged 18 = .ok (.aload_n 0, 1) := by decide +kernel
theorem dX4_judged_19 : decode cX4_judged 19 = .ok (.iconst 1, 1) := by decide +kernel
theorem dX4_judged_20 : decode cX4_judged 20 = .ok (.invokevirtual 180, 3) := by decide +kernel
theorem dX4_judged_23 : decode cX4_judged 23 = .ok (.lreturn, 1) := by decide +kernel
theorem dX4_judged_24 : decode cX4_judged 24 = .ok (.iload_n 2, 1) := by decide +kernel
theorem dX4_judged_25 : decode cX4_judged 25 = .ok (.iconst 1, 1) := by decide +kernel
theorem dX4_judged_26 : decode cX4_judged 26 = .ok (.ldc 209, 2) := by decide +kernel
theorem dX4_judged_28 : decode cX4_judged 28 = .ok (.invokestatic 64, 3) := by decide +kernel
theorem dX4_judged_31 : decode cX4_judged 31 = .ok (.ifCond .eq 13, 3) := by decide +kernel
theorem dX4_judged_34 : decode cX4_judged 34 = .ok (.iload_n 3, 1) := by decide +kernel
theorem dX4_judged_35 : decode cX4_judged 35 = .ok (.iconst 1, 1) := by decide +kernel
theorem dX4_judged_36 : decode cX4_judged 36 = .ok (.bipush 50, 2) := by decide +kernel
theorem dX4_judged_38 : decode cX4_judged 38 = .ok (.invokestatic 64, 3) := by decide +kernel
theorem dX4_judged_41 : decode cX4_judged 41 = .ok (.ifCond .ne 9, 3) := by decide +kernel
theorem dX4_judged_44 : decode cX4_judged 44 = .ok (.aload_n 0, 1) := by decide +kernel
theorem dX4_judged_45 : decode cX4_judged 45 = .ok (.iconst 2, 1) := by decide +kernel
theorem dX4_judged_46 : decode cX4_judged 46 = .ok (.invokevirtual 180, 3) := by decide +kernel
theorem dX4_judged_49 : decode cX4_judged 49 = .ok (.lreturn, 1) := by decide +kernel
theorem dX4_judged_50 : decode cX4_judged 50 = .ok (.aload_n 0, 1) := by decide +kernel
theorem dX4_judged_51 : decode cX4_judged 51 = .ok (.invokevirtual 78, 3) := by decide +kernel
theorem dX4_judged_54 : decode cX4_judged 54 = .ok (.aload_n 0, 1) := by decide +kernel
theorem dX4_judged_55 : decode cX4_judged 55 = .ok (.getfield 26, 3) := by decide +kernel
theorem dX4_judged_58 : decode cX4_judged 58 = .ok (.aload_n 0, 1) := by decide +kernel
theorem dX4_judged_59 : decode cX4_judged 59 = .ok (.getfield 19, 3) := by decide +kernel
theorem dX4_judged_62 : decode cX4_judged 62 = .ok (.invokevirtual 210, 3) := by decide +kernel
theorem dX4_judged_65 : decode cX4_judged 65 = .ok (.iload_n 2, 1) := by decide +kernel
theorem dX4_judged_66 : decode cX4_judged 66 = .ok (.i2l, 1) := by decide +kernel
theorem dX4_judged_67 : decode cX4_judged 67 = .ok (.lstore 5, 2) := by decide +kernel
theorem dX4_judged_69 : decode cX4_judged 69 = .ok (.lconst 0, 1) := by decide +kernel
theorem dX4_judged_70 : decode cX4_judged 70 = .ok (.lstore 7, 2) := by decide +kernel
theorem dX4_judged_72 : decode cX4_judged 72 = .ok (.lconst 0, 1) := by decide +kernel
theorem dX4_judged_73 : decode cX4_judged 73 = .ok (.lstore 9, 2) := by decide +kernel
theorem dX4_judged_75 : decode cX4_judged 75 = .ok (.lconst 0, 1) := by decide +kernel
theorem dX4_judged_76 : decode cX4_judged 76 = .ok (.lstore 11, 2) := by decide +kernel
theorem dX4_judged_78 : decode cX4_judged 78 = .ok (.iconst 0, 1) := by decide +kernel
theorem dX4_judged_79 : decode cX4_judged 79 = .ok (.istore 13, 2) := by decide +kernel
theorem dX4_judged_81 : decode cX4_judged 81 = .ok (.iload 13, 2) := by decide +kernel
theorem dX4_judged_83 : decode cX4_judged 83 = .ok (.iload_n 3, 1) := by decide +kernel
theorem dX4_judged_84 : decode cX4_judged 84 = .ok (.if_icmp .ge 85, 3) := by decide +kernel
theorem dX4_judged_87 : decode cX4_judged 87 = .ok (.aload_n 0, 1) := by decide +kernel
theorem dX4_judged_88 : decode cX4_judged 88 = .ok (.getfield 26, 3) := by decide +kernel
theorem dX4_judged_91 : decode cX4_judged 91 = .ok (.getfield 213, 3) := by decide +kernel
theorem dX4_judged_94 : decode cX4_judged 94 = .ok (.lload 5, 2) := by decide +kernel
theorem dX4_judged_96 : decode cX4_judged 96 = .ok (.invokevirtual 214, 3) := by decide +kernel
theorem dX4_judged_99 : decode cX4_judged 99 = .ok (.lstore 5, 2) := by decide +kernel
theorem dX4_judged_101 : decode cX4_judged 101 = .ok (.aload_n 0, 1) := by decide +kernel
theorem dX4_judged_102 : decode cX4_judged 102 = .ok (.getfield 26, 3) := by decide +kernel
theorem dX4_judged_105 : decode cX4_judged 105 = .ok (.invokevirtual 218, 3) := by decide +kernel
theorem dX4_judged_108 : decode cX4_judged 108 = .ok (.aload_n 0, 1) := by decide +kernel
theorem dX4_judged_109 : decode cX4_judged 109 = .ok (.getfield 26, 3) := by decide +kernel
theorem dX4_judged_112 : decode cX4_judged 112 = .ok (.iload_n 1, 1) := by decide +kernel
theorem dX4_judged_113 : decode cX4_judged 113 = .ok (.invokevirtual 183, 3) := by decide +kernel
theorem dX4_judged_116 : decode cX4_judged 116 = .ok (.lstore 14, 2) := by decide +kernel
theorem dX4_judged_118 : decode cX4_judged 118 = .ok (.lload 7, 2) := by decide +kernel
theorem dX4_judged_120 : decode cX4_judged 120 = .ok (.lload 14, 2) := by decide +kernel
theorem dX4_judged_122 : decode cX4_judged 122 = .ok (.ladd, 1) := by decide +kernel
theorem dX4_judged_123 : decode cX4_judged 123 = .ok (.lstore 7, 2) := by decide +kernel
theorem dX4_judged_125 : decode cX4_judged 125 = .ok (.iload 13, 2) := by decide +kernel
theorem dX4_judged_127 : decode cX4_judged 127 = .ok (.ifCond .ne 8, 3) := by decide +kernel
theorem dX4_judged_130 : decode cX4_judged 130 = .ok (.lload 14, 2) := by decide +kernel
theorem dX4_judged_132 : decode cX4_judged 132 = .ok (.goto 10, 3) := by decide +kernel
theorem dX4_judged_135 : decode cX4_judged 135 = .ok (.lload 9, 2) := by decide +kernel
theorem dX4_judged_137 : decode cX4_judged 137 = .ok (.lload 14, 2) := by decide +kernel
theorem dX4_judged_139 : decode cX4_judged 139 = .ok (.invokestatic 221, 3) := by decide +kernel
theorem dX4_judged_142 : decode cX4_judged 142 = .ok (.lstore 9, 2) := by decide +kernel
theorem dX4_judged_144 : decode cX4_judged 144 = .ok (.iload 13, 2) := by decide +kernel
theorem dX4_judged_146 : decode cX4_judged 146 = .ok (.ifCond .ne 8, 3) := by decide +kernel
theorem dX4_judged_149 : decode cX4_judged 149 = .ok (.lload 14, 2) := by decide +kernel
theorem dX4_judged_151 : decode cX4_judged 151 = .ok (.goto 10, 3) := by decide +kernel
theorem dX4_judged_154 : decode cX4_judged 154 = .ok (.lload 11, 2) := by decide +kernel
theorem dX4_judged_156 : decode cX4_judged 156 = .ok (.lload 14, 2) := by decide +kernel
theorem dX4_judged_158 : decode cX4_judged 158 = .ok (.invokestatic 192, 3) := by decide +kernel
theorem dX4_judged_161 : decode cX4_judged 161 = .ok (.lstore 11, 2) := by decide +kernel
theorem dX4_judged_163 : decode cX4_judged 163 = .ok (.iinc 13 1, 3) := by decide +kernel
theorem dX4_judged_166 : decode cX4_judged 166 = .ok (.goto (-85), 3) := by decide +kernel
theorem dX4_judged_169 : decode cX4_judged 169 = .ok (.iload 4, 2) := by decide +kernel
theorem dX4_judged_171 : decode cX4_judged 171 = .ok (.ifCond .ne 6, 3) := by decide +kernel
theorem dX4_judged_174 : decode cX4_judged 174 = .ok (.lload 7, 2) := by decide +kernel
theorem dX4_judged_176 : decode cX4_judged 176 = .ok (.lreturn, 1) := by decide +kernel
theorem dX4_judged_177 : decode cX4_judged 177 = .ok (.iload 4, 2) := by decide +kernel
theorem dX4_judged_179 : decode cX4_judged 179 = .ok (.iconst 1, 1) := by decide +kernel
theorem dX4_judged_180 : decode cX4_judged 180 = .ok (.if_icmp .ne 8, 3) := by decide +kernel
theorem dX4_judged_183 : decode cX4_judged 183 = .ok (.lload 9, 2) := by decide +kernel
theorem dX4_judged_185 : decode cX4_judged 185 = .ok (.goto 5, 3) := by decide +kernel
theorem dX4_judged_188 : decode cX4_judged 188 = .ok (.lload 11, 2) := by decide +kernel
theorem dX4_judged_190 : decode cX4_judged 190 = .ok (.lreturn, 1) := by decide +kernel
theorem dX4_all_0 : decode cX4_all 0 = .ok (.aload_n 0, 1) := by decide +kernel
theorem dX4_all_1 : decode cX4_all 1 = .ok (.invokevirtual 94, 3) := by decide +kernel
theorem dX4_all_4 : decode cX4_all 4 = .ok (.ifCond .ne 9, 3) := by decide +kernel
theorem dX4_all_7 : decode cX4_all 7 = .ok (.aload_n 0, 1) := by decide +kernel
theorem dX4_all_8 : decode cX4_all 8 = .ok (.iconst 1, 1) := by decide +kernel
theorem dX4_all_9 : decode cX4_all 9 = .ok (.invokevirtual 180, 3) := by decide +kernel
theorem dX4_all_12 : decode cX4_all 12 = .ok (.lreturn, 1) := by decide +kernel
theorem dX4_all_13 : decode cX4_all 13 = .ok (.aload_n 0, 1) := by decide +kernel
theorem dX4_all_14 : decode cX4_all 14 = .ok (.invokevirtual 78, 3) := by decide +kernel
theorem dX4_all_17 : decode cX4_all 17 = .ok (.aload_n 0, 1) := by decide +kernel
theorem dX4_all_18 : decode cX4_all 18 = .ok (.invokevirtual 126, 3) := by decide +kernel
theorem dX4_all_21 : decode cX4_all 21 = .ok (.lconst 0, 1) := by decide +kernel
theorem dX4_all_22 : decode cX4_all 22 = .ok (.lstore_n 1, 1) := by decide +kernel
theorem dX4_all_23 : decode cX4_all 23 = .ok (.iconst 0, 1) := by decide +kernel
theorem dX4_all_24 : decode cX4_all 24 = .ok (.istore_n 3, 1) := by decide +kernel
theorem dX4_all_25 : decode cX4_all 25 = .ok (.iload_n 3, 1) := by decide +kernel
theorem dX4_all_26 : decode cX4_all 26 = .ok (.aload_n 0, 1) := by decide +kernel
theorem dX4_all_27 : decode cX4_all 27 = .ok (.getfield 19, 3) := by decide +kernel
theorem dX4_all_30 : decode cX4_all 30 = .ok (.getfield 91, 3) := by decide +kernel
theorem dX4_all_33 : decode cX4_all 33 = .ok (.if_icmp .ge 20, 3) := by decide +kernel
theorem dX4_all_36 : decode cX4_all 36 = .ok (.lload_n 1, 1) := by decide +kernel
theorem dX4_all_37 : decode cX4_all 37 = .ok (.aload_n 0, 1) := by decide +kernel
theorem dX4_all_38 : decode cX4_all 38 = .ok (.getfield 26, 3) := by decide +kernel
theorem dX4_all_41 : decode cX4_all 41 = .ok (.iload_n 3, 1) := by decide +kernel
theorem dX4_all_42 : decode cX4_all 42 = .ok (.invokevirtual 183, 3) := by decide +kernel
theorem dX4_all_45 : decode cX4_all 45 = .ok (.ladd, 1) := by decide +kernel
theorem dX4_all_46 : decode cX4_all 46 = .ok (.lstore_n 1, 1) := by decide +kernel
theorem dX4_all_47 : decode cX4_all 47 = .ok (.iinc 3 1, 3) := by decide +kernel
theorem dX4_all_50 : decode cX4_all 50 = .ok (.goto (-25), 3) := by decide +kernel
theorem dX4_all_53 : decode cX4_all 53 = .ok (.iconst 0, 1) := by decide +kernel
theorem dX4_all_54 : decode cX4_all 54 = .ok (.istore_n 3, 1) := by decide +kernel
theorem dX4_all_55 : decode cX4_all 55 = .ok (.iload_n 3, 1) := by decide +kernel
theorem dX4_all_56 : decode cX4_all 56 = .ok (.aload_n 0, 1) := by decide +kernel
theorem dX4_all_57 : decode cX4_all 57 = .ok (.getfield 19, 3) := by decide +kernel
theorem dX4_all_60 : decode cX4_all 60 = .ok (.getfield 98, 3) := by decide +kernel
theorem dX4_all_63 : decode cX4_all 63 = .ok (.if_icmp .ge 20, 3) := by decide +kernel
theorem dX4_all_66 : decode cX4_all 66 = .ok (.lload_n 1, 1) := by decide +kernel
theorem dX4_all_67 : decode cX4_all 67 = .ok (.aload_n 0, 1) := by decide +kernel
theorem dX4_all_68 : decode cX4_all 68 = .ok (.getfield 26, 3) := by decide +kernel
theorem dX4_all_71 : decode cX4_all 71 = .ok (.iload_n 3, 1) := by decide +kernel
theorem dX4_all_72 : decode cX4_all 72 = .ok (.invokevirtual 168, 3) := by decide +kernel
theorem dX4_all_75 : decode cX4_all 75 = .ok (.ladd, 1) := by decide +kernel
theorem dX4_all_76 : decode cX4_all 76 = .ok (.lstore_n 1, 1) := by decide +kernel
theorem dX4_all_77 : decode cX4_all 77 = .ok (.iinc 3 1, 3) := by decide +kernel
theorem dX4_all_80 : decode cX4_all 80 = .ok (.goto (-25), 3) := by decide +kernel
theorem dX4_all_83 : decode cX4_all 83 = .ok (.lload_n 1, 1) := by decide +kernel
theorem dX4_all_84 : decode cX4_all 84 = .ok (.lreturn, 1) := by decide +kernel
theorem dX4_shift_0 : decode cX4_shift 0 = .ok (.aload_n 0, 1) := by decide +kernel
theorem dX4_shift_1 : decode cX4_shift 1 = .ok (.iload_n 1, 1) := by decide +kernel
theorem dX4_shift_2 : decode cX4_shift 2 = .ok (.invokevirtual 105, 3) := by decide +kernel
theorem dX4_shift_5 : decode cX4_shift 5 = .ok (.ifCond .eq 11, 3) := by decide +kernel
theorem dX4_shift_8 : decode cX4_shift 8 = .ok (.aload_n 0, 1) := by decide +kernel
theorem dX4_shift_9 : decode cX4_shift 9 = .ok (.iload_n 2, 1) := by decide +kernel
theorem dX4_shift_10 : decode cX4_shift 10 = .ok (.invokevirtual 105, 3) := by decide +kernel
theorem dX4_shift_13 : decode cX4_shift 13 = .ok (.ifCond .ne 9, 3) := by decide +kernel
theorem dX4_shift_16 : decode cX4_shift 16 = .ok (.aload_n 0, 1) := by decide +kernel
theorem dX4_shift_17 : decode cX4_shift 17 = .ok (.iconst 1, 1) := by decide +kernel
theorem dX4_shift_18 : decode cX4_shift 18 = .ok (.invokevirtual 68, 3) := by decide +kernel
theorem dX4_shift_21 : decode cX4_shift 21 = .ok (.ireturn, 1) := by decide +kernel
theorem dX4_shift_22 : decode cX4_shift 22 = .ok (.iload_n 3, 1) := by decide +kernel
theorem dX4_shift_23 : decode cX4_shift 23 = .ok (.iconst 1, 1) := by decide +kernel
theorem dX4_shift_24 : decode cX4_shift 24 = .ok (.bipush 10, 2) := by decide +kernel
theorem dX4_shift_26 : decode cX4_shift 26 = .ok (.invokestatic 64, 3) := by decide +kernel
theorem dX4_shift_29 : decode cX4_shift 29 = .ok (.ifCond .ne 9, 3) := by decide +kernel
theorem dX4_shift_32 : decode cX4_shift 32 = .ok (.aload_n 0, 1) := by decide +kernel
theorem dX4_shift_33 : decode cX4_shift 33 = .ok (.iconst 2, 1) := by decide +kernel
theorem dX4_shift_34 : decode cX4_shift 34 = .ok (.invokevirtual 68, 3) := by decide +kernel
theorem dX4_shift_37 : decode cX4_shift 37 = .ok (.ireturn, 1) := by decide +kernel
theorem dX4_shift_38 : decode cX4_shift 38 = .ok (.iload_n 1, 1) := by decide +kernel
theorem dX4_shift_39 : decode cX4_shift 39 = .ok (.iload_n 2, 1) := by decide +kernel
theorem dX4_shift_40 : decode cX4_shift 40 = .ok (.if_icmp .eq 16, 3) := by decide +kernel
theorem dX4_shift_43 : decode cX4_shift 43 = .ok (.aload_n 0, 1) := by decide +kernel
theorem dX4_shift_44 : decode cX4_shift 44 = .ok (.getfield 19, 3) := by decide +kernel
theorem dX4_shift_47 : decode cX4_shift 47 = .ok (.iload_n 1, 1) := by decide +kernel
theorem dX4_shift_48 : decode cX4_shift 48 = .ok (.iconst 1, 1) := by decide +kernel
theorem dX4_shift_49 : decode cX4_shift 49 = .ok (.invokevirtual 112, 3) := by decide +kernel
theorem dX4_shift_52 : decode cX4_shift 52 = .ok (.iload_n 3, 1) := by decide +kernel
theorem dX4_shift_53 : decode cX4_shift 53 = .ok (.if_icmp .ge 9, 3) := by decide +kernel
theorem dX4_shift_56 : decode cX4_shift 56 = .ok (.aload_n 0, 1) := by decide +kernel
theorem dX4_shift_57 : decode cX4_shift 57 = .ok (.iconst 5, 1) := by decide +kernel
theorem dX4_shift_58 : decode cX4_shift 58 = .ok (.invokevirtual 68, 3) := by decide +kernel
theorem dX4_shift_61 : decode cX4_shift 61 = .ok (.ireturn, 1) := by decide +kernel
theorem dX4_shift_62 : decode cX4_shift 62 = .ok (.aload_n 0, 1) := by decide +kernel
theorem dX4_shift_63 : decode cX4_shift 63 = .ok (.invokevirtual 224, 3) := by decide +kernel
theorem dX4_shift_66 : decode cX4_shift 66 = .ok (.aload_n 0, 1) := by decide +kernel
theorem dX4_shift_67 : decode cX4_shift 67 = .ok (.getfield 19, 3) := by decide +kernel
theorem dX4_shift_70 : decode cX4_shift 70 = .ok (.iload_n 1, 1) := by decide +kernel
theorem dX4_shift_71 : decode cX4_shift 71 = .ok (.iconst 1, 1) := by decide +kernel
theorem dX4_shift_72 : decode cX4_shift 72 = .ok (.aload_n 0, 1) := by decide +kernel
theorem dX4_shift_73 : decode cX4_shift 73 = .ok (.getfield 19, 3) := by decide +kernel
theorem dX4_shift_76 : decode cX4_shift 76 = .ok (.iload_n 1, 1) := by decide +kernel
theorem dX4_shift_77 : decode cX4_shift 77 = .ok (.iconst 1, 1) := by decide +kernel
theorem dX4_shift_78 : decode cX4_shift 78 = .ok (.invokevirtual 112, 3) := by decide +kernel
theorem dX4_shift_81 : decode cX4_shift 81 = .ok (.iload_n 3, 1) := by decide +kernel
theorem dX4_shift_82 : decode cX4_shift 82 = .ok (.isub, 1) := by decide +kernel
theorem dX4_shift_83 : decode cX4_shift 83 = .ok (.invokevirtual 227, 3) := by decide +kernel
theorem dX4_shift_86 : decode cX4_shift 86 = .ok (.aload_n 0, 1) := by decide +kernel
theorem dX4_shift_87 : decode cX4_shift 87 = .ok (.getfield 19, 3) := by decide +kernel
theorem dX4_shift_90 : decode cX4_shift 90 = .ok (.iload_n 2, 1) := by decide +kernel
theorem dX4_shift_91 : decode cX4_shift 91 = .ok (.iconst 1, 1) := by decide +kernel
theorem dX4_shift_92 : decode cX4_shift 92 = .ok (.aload_n 0, 1) := by decide +kernel
theorem dX4_shift_93 : decode cX4_shift 93 = .ok (.getfield 19, 3) := by decide +kernel
theorem dX4_shift_96 : decode cX4_shift 96 = .ok (.iload_n 2, 1) := by decide +kernel
theorem dX4_shift_97 : decode cX4_shift 97 = .ok (.iconst 1, 1) := by decide +kernel
theorem dX4_shift_98 : decode cX4_shift 98 = .ok (.invokevirtual 112, 3) := by decide +kernel
theorem dX4_shift_101 : decode cX4_shift 101 = .ok (.iload_n 3, 1) := by decide +kernel
theorem dX4_shift_102 : decode cX4_shift 102 = .ok (.iadd, 1) := by decide +kernel
theorem dX4_shift_103 : decode cX4_shift 103 = .ok (.invokevirtual 227, 3) := by decide +kernel
theorem dX4_shift_106 : decode cX4_shift 106 = .ok (.aload_n 0, 1) := by decide +kernel
theorem dX4_shift_107 : decode cX4_shift 107 = .ok (.getfield 19, 3) := by decide +kernel
theorem dX4_shift_110 : decode cX4_shift 110 = .ok (.iload_n 2, 1) := by decide +kernel
theorem dX4_shift_111 : decode cX4_shift 111 = .ok (.iconst 1, 1) := by decide +kernel
theorem dX4_shift_112 : decode cX4_shift 112 = .ok (.invokevirtual 112, 3) := by decide +kernel
theorem dX4_shift_115 : decode cX4_shift 115 = .ok (.ireturn, 1) := by decide +kernel
theorem dX4_file_0 : decode cX4_file 0 = .ok (.aload_n 0, 1) := by decide +kernel
theorem dX4_file_1 : decode cX4_file 1 = .ok (.invokevirtual 94, 3) := by decide +kernel
theorem dX4_file_4 : decode cX4_file 4 = .ok (.ifCond .eq 24, 3) := by decide +kernel
theorem dX4_file_7 : decode cX4_file 7 = .ok (.iload_n 1, 1) := by decide +kernel
theorem dX4_file_8 : decode cX4_file 8 = .ok (.iconst 0, 1) := by decide +kernel
theorem dX4_file_9 : decode cX4_file 9 = .ok (.iconst 2, 1) := by decide +kernel
theorem dX4_file_10 : decode cX4_file 10 = .ok (.invokestatic 64, 3) := by decide +kernel
theorem dX4_file_13 : decode cX4_file 13 = .ok (.ifCond .eq 15, 3) := by decide +kernel
theorem dX4_file_16 : decode cX4_file 16 = .ok (.iload_n 1, 1) := by decide +kernel
theorem dX4_file_17 : decode cX4_file 17 = .ok (.ifCond .ne 17, 3) := by decide +kernel
theorem dX4_file_20 : decode cX4_file 20 = .ok (.aload_n 0, 1) := by decide +kernel
theorem dX4_file_21 : decode cX4_file 21 = .ok (.iload_n 2, 1) := by decide +kernel
theorem dX4_file_22 : decode cX4_file 22 = .ok (.invokevirtual 105, 3) := by decide +kernel
theorem dX4_file_25 : decode cX4_file 25 = .ok (.ifCond .ne 9, 3) := by decide +kernel
theorem dX4_file_28 : decode cX4_file 28 = .ok (.aload_n 0, 1) := by decide +kernel
theorem dX4_file_29 : decode cX4_file 29 = .ok (.iconst 1, 1) := by decide +kernel
theorem dX4_file_30 : decode cX4_file 30 = .ok (.invokevirtual 68, 3) := by decide +kernel
theorem dX4_file_33 : decode cX4_file 33 = .ok (.ireturn, 1) := by decide +kernel
theorem dX4_file_34 : decode cX4_file 34 = .ok (.iload_n 3, 1) := by decide +kernel
theorem dX4_file_35 : decode cX4_file 35 = .ok (.iconst 1, 1) := by decide +kernel
theorem dX4_file_36 : decode cX4_file 36 = .ok (.ldc 125, 2) := by decide +kernel
theorem dX4_file_38 : decode cX4_file 38 = .ok (.invokestatic 64, 3) := by decide +kernel
theorem dX4_file_41 : decode cX4_file 41 = .ok (.ifCond .eq 15, 3) := by decide +kernel
theorem dX4_file_44 : decode cX4_file 44 = .ok (.iload 4, 2) := by decide +kernel
theorem dX4_file_46 : decode cX4_file 46 = .ok (.iconst 0, 1) := by decide +kernel
theorem dX4_file_47 : decode cX4_file 47 = .ok (.sipush 999, 3) := by decide +kernel
theorem dX4_file_50 : decode cX4_file 50 = .ok (.invokestatic 64, 3) := by decide +kernel
theorem dX4_file_53 : decode cX4_file 53 = .ok (.ifCond .ne 9, 3) := by decide +kernel
theorem dX4_file_56 : decode cX4_file 56 = .ok (.aload_n 0, 1) := by decide +kernel
theorem dX4_file_57 : decode cX4_file 57 = .ok (.iconst 2, 1) := by decide +kernel
theorem dX4_file_58 : decode cX4_file 58 = .ok (.invokevirtual 68, 3) := by decide +kernel
theorem dX4_file_61 : decode cX4_file 61 = .ok (.ireturn, 1) := by decide +kernel
theorem dX4_file_62 : decode cX4_file 62 = .ok (.aload_n 0, 1) := by decide +kernel
theorem dX4_file_63 : decode cX4_file 63 = .ok (.getfield 19, 3) := by decide +kernel
theorem dX4_file_66 : decode cX4_file 66 = .ok (.getfield 98, 3) := by decide +kernel
theorem dX4_file_69 : decode cX4_file 69 = .ok (.bipush 12, 2) := by decide +kernel
theorem dX4_file_71 : decode cX4_file 71 = .ok (.if_icmp .lt 9, 3) := by decide +kernel
theorem dX4_file_74 : decode cX4_file 74 = .ok (.aload_n 0, 1) := by decide +kernel
theorem dX4_file_75 : decode cX4_file 75 = .ok (.iconst 3, 1) := by decide +kernel
theorem dX4_file_76 : decode cX4_file 76 = .ok (.invokevirtual 68, 3) := by decide +kernel
theorem dX4_file_79 : decode cX4_file 79 = .ok (.ireturn, 1) := by decide +kernel
theorem dX4_file_80 : decode cX4_file 80 = .ok (.aload_n 0, 1) := by decide +kernel
theorem dX4_file_81 : decode cX4_file 81 = .ok (.invokevirtual 224, 3) := by decide +kernel
theorem dX4_file_84 : decode cX4_file 84 = .ok (.aload_n 0, 1) := by decide +kernel
theorem dX4_file_85 : decode cX4_file 85 = .ok (.getfield 19, 3) := by decide +kernel
theorem dX4_file_88 : decode cX4_file 88 = .ok (.iload_n 1, 1) := by decide +kernel
theorem dX4_file_89 : decode cX4_file 89 = .ok (.iload_n 2, 1) := by decide +kernel
theorem dX4_file_90 : decode cX4_file 90 = .ok (.iload_n 3, 1) := by decide +kernel
theorem dX4_file_91 : decode cX4_file 91 = .ok (.iload 4, 2) := by decide +kernel
theorem dX4_file_93 : decode cX4_file 93 = .ok (.invokevirtual 231, 3) := by decide +kernel
theorem dX4_file_96 : decode cX4_file 96 = .ok (.aload_n 0, 1) := by decide +kernel
theorem dX4_file_97 : decode cX4_file 97 = .ok (.getfield 19, 3) := by decide +kernel
theorem dX4_file_100 : decode cX4_file 100 = .ok (.getfield 98, 3) := by decide +kernel
theorem dX4_file_103 : decode cX4_file 103 = .ok (.iconst 1, 1) := by decide +kernel
theorem dX4_file_104 : decode cX4_file 104 = .ok (.isub, 1) := by decide +kernel
theorem dX4_file_105 : decode cX4_file 105 = .ok (.ireturn, 1) := by decide +kernel
theorem dX4_withdraw_0 : decode cX4_withdraw 0 = .ok (.aload_n 0, 1) := by decide +kernel
theorem dX4_withdraw_1 : decode cX4_withdraw 1 = .ok (.iload_n 1, 1) := by decide +kernel
theorem dX4_withdraw_2 : decode cX4_withdraw 2 = .ok (.invokevirtual 116, 3) := by decide +kernel
theorem dX4_withdraw_5 : decode cX4_withdraw 5 = .ok (.ifCond .ne 9, 3) := by decide +kernel
theorem dX4_withdraw_8 : decode cX4_withdraw 8 = .ok (.aload_n 0, 1) := by decide +kernel
theorem dX4_withdraw_9 : decode cX4_withdraw 9 = .ok (.iconst 1, 1) := by decide +kernel
theorem dX4_withdraw_10 : decode cX4_withdraw 10 = .ok (.invokevirtual 68, 3) := by decide +kernel
theorem dX4_withdraw_13 : decode cX4_withdraw 13 = .ok (.ireturn, 1) := by decide +kernel
theorem dX4_withdraw_14 : decode cX4_withdraw 14 = .ok (.aload_n 0, 1) := by decide +kernel
theorem dX4_withdraw_15 : decode cX4_withdraw 15 = .ok (.invokevirtual 224, 3) := by decide +kernel
theorem dX4_withdraw_18 : decode cX4_withdraw 18 = .ok (.aload_n 0, 1) := by decide +kernel
theorem dX4_withdraw_19 : decode cX4_withdraw 19 = .ok (.getfield 19, 3) := by decide +kernel
theorem dX4_withdraw_22 : decode cX4_withdraw 22 = .ok (.iload_n 1, 1) := by decide +kernel
theorem dX4_withdraw_23 : decode cX4_withdraw 23 = .ok (.invokevirtual 235, 3) := by decide +kernel
theorem dX4_withdraw_26 : decode cX4_withdraw 26 = .ok (.aload_n 0, 1) := by decide +kernel
theorem dX4_withdraw_27 : decode cX4_withdraw 27 = .ok (.getfield 19, 3) := by decide +kernel
theorem dX4_withdraw_30 : decode cX4_withdraw 30 = .ok (.getfield 98, 3) := by decide +kernel
theorem dX4_withdraw_33 : decode cX4_withdraw 33 = .ok (.ireturn, 1) := by decide +kernel
theorem dX4_become_0 : decode cX4_become 0 = .ok (.aload_n 0, 1) := by decide +kernel
theorem dX4_become_1 : decode cX4_become 1 = .ok (.iload_n 1, 1) := by decide +kernel
theorem dX4_become_2 : decode cX4_become 2 = .ok (.invokevirtual 105, 3) := by decide +kernel
theorem dX4_become_5 : decode cX4_become 5 = .ok (.ifCond .eq 17, 3) := by decide +kernel
theorem dX4_become_8 : decode cX4_become 8 = .ok (.iload_n 2, 1) := by decide +kernel
theorem dX4_become_9 : decode cX4_become 9 = .ok (.iconst 0, 1) := by decide +kernel
theorem dX4_become_10 : decode cX4_become 10 = .ok (.iconst 5, 1) := by decide +kernel
theorem dX4_become_11 : decode cX4_become 11 = .ok (.invokestatic 64, 3) := by decide +kernel
theorem dX4_become_14 : decode cX4_become 14 = .ok (.ifCond .eq 8, 3) := by decide +kernel
theorem dX4_become_17 : decode cX4_become 17 = .ok (.iload_n 2, 1) := by decide +kernel
theorem dX4_become_18 : decode cX4_become 18 = .ok (.iconst 1, 1) := by decide +kernel
theorem dX4_become_19 : decode cX4_become 19 = .ok (.if_icmp .ne 9, 3) := by decide +kernel
theorem dX4_become_22 : decode cX4_become 22 = .ok (.aload_n 0, 1) := by decide +kernel
theorem dX4_become_23 : decode cX4_become 23 = .ok (.iconst 1, 1) := by decide +kernel
theorem dX4_become_24 : decode cX4_become 24 = .ok (.invokevirtual 68, 3) := by decide +kernel
theorem dX4_become_27 : decode cX4_become 27 = .ok (.ireturn, 1) := by decide +kernel
theorem dX4_become_28 : decode cX4_become 28 = .ok (.iload_n 3, 1) := by decide +kernel
theorem dX4_become_29 : decode cX4_become 29 = .ok (.getstatic 238, 3) := by decide +kernel
theorem dX4_become_32 : decode cX4_become 32 = .ok (.iload_n 2, 1) := by decide +kernel
theorem dX4_become_33 : decode cX4_become 33 = .ok (.iaload, 1) := by decide +kernel
theorem dX4_become_34 : decode cX4_become 34 = .ok (.getstatic 241, 3) := by decide +kernel
theorem dX4_become_37 : decode cX4_become 37 = .ok (.iload_n 2, 1) := by decide +kernel
theorem dX4_become_38 : decode cX4_become 38 = .ok (.iaload, 1) := by decide +kernel
theorem dX4_become_39 : decode cX4_become 39 = .ok (.invokestatic 64, 3) := by decide +kernel
theorem dX4_become_42 : decode cX4_become 42 = .ok (.ifCond .ne 9, 3) := by decide +kernel
theorem dX4_become_45 : decode cX4_become 45 = .ok (.aload_n 0, 1) := by decide +kernel
theorem dX4_become_46 : decode cX4_become 46 = .ok (.iconst 2, 1) := by decide +kernel
theorem dX4_become_47 : decode cX4_become 47 = .ok (.invokevirtual 68, 3) := by decide +kernel
theorem dX4_become_50 : decode cX4_become 50 = .ok (.ireturn, 1) := by decide +kernel
theorem dX4_become_51 : decode cX4_become 51 = .ok (.aload_n 0, 1) := by decide +kernel
theorem dX4_become_52 : decode cX4_become 52 = .ok (.invokevirtual 224, 3) := by decide +kernel
theorem dX4_become_55 : decode cX4_become 55 = .ok (.aload_n 0, 1) := by decide +kernel
theorem dX4_become_56 : decode cX4_become 56 = .ok (.getfield 19, 3) := by decide +kernel
theorem dX4_become_59 : decode cX4_become 59 = .ok (.iload_n 1, 1) := by decide +kernel
theorem dX4_become_60 : decode cX4_become 60 = .ok (.iload_n 2, 1) := by decide +kernel
theorem dX4_become_61 : decode cX4_become 61 = .ok (.invokevirtual 112, 3) := by decide +kernel
theorem dX4_become_64 : decode cX4_become 64 = .ok (.istore 4, 2) := by decide +kernel
theorem dX4_become_66 : decode cX4_become 66 = .ok (.aload_n 0, 1) := by decide +kernel
theorem dX4_become_67 : decode cX4_become 67 = .ok (.getfield 19, 3) := by decide +kernel
theorem dX4_become_70 : decode cX4_become 70 = .ok (.iload_n 1, 1) := by decide +kernel
theorem dX4_become_71 : decode cX4_become 71 = .ok (.iload_n 2, 1) := by decide +kernel
theorem dX4_become_72 : decode cX4_become 72 = .ok (.iload_n 3, 1) := by decide +kernel
theorem dX4_become_73 : decode cX4_become 73 = .ok (.invokevirtual 227, 3) := by decide +kernel
theorem dX4_become_76 : decode cX4_become 76 = .ok (.iload 4, 2) := by decide +kernel
theorem dX4_become_78 : decode cX4_become 78 = .ok (.ireturn, 1) := by decide +kernel
theorem dX4_law_0 : decode cX4_law 0 = .ok (.aload_n 0, 1) := by decide +kernel
theorem dX4_law_1 : decode cX4_law 1 = .ok (.invokevirtual 94, 3) := by decide +kernel
theorem dX4_law_4 : decode cX4_law 4 = .ok (.ifCond .eq 13, 3) := by decide +kernel
theorem dX4_law_7 : decode cX4_law 7 = .ok (.iload_n 1, 1) := by decide +kernel
theorem dX4_law_8 : decode cX4_law 8 = .ok (.iconst 2, 1) := by decide +kernel
theorem dX4_law_9 : decode cX4_law 9 = .ok (.bipush 9, 2) := by decide +kernel
theorem dX4_law_11 : decode cX4_law 11 = .ok (.invokestatic 64, 3) := by decide +kernel
theorem dX4_law_14 : decode cX4_law 14 = .ok (.ifCond .ne 9, 3) := by decide +kernel
theorem dX4_law_17 : decode cX4_law 17 = .ok (.aload_n 0, 1) := by decide +kernel
theorem dX4_law_18 : decode cX4_law 18 = .ok (.iconst 1, 1) := by decide +kernel
theorem dX4_law_19 : decode cX4_law 19 = .ok (.invokevirtual 68, 3) := by decide +kernel
theorem dX4_law_22 : decode cX4_law 22 = .ok (.ireturn, 1) := by decide +kernel
theorem dX4_law_23 : decode cX4_law 23 = .ok (.iload_n 2, 1) := by decide +kernel
theorem dX4_law_24 : decode cX4_law 24 = .ok (.getstatic 244, 3) := by decide +kernel
theorem dX4_law_27 : decode cX4_law 27 = .ok (.iload_n 1, 1) := by decide +kernel
theorem dX4_law_28 : decode cX4_law 28 = .ok (.iaload, 1) := by decide +kernel
theorem dX4_law_29 : decode cX4_law 29 = .ok (.getstatic 247, 3) := by decide +kernel
theorem dX4_law_32 : decode cX4_law 32 = .ok (.iload_n 1, 1) := by decide +kernel
theorem dX4_law_33 : decode cX4_law 33 = .ok (.iaload, 1) := by decide +kernel
theorem dX4_law_34 : decode cX4_law 34 = .ok (.invokestatic 64, 3) := by decide +kernel
theorem dX4_law_37 : decode cX4_law 37 = .ok (.ifCond .ne 9, 3) := by decide +kernel
theorem dX4_law_40 : decode cX4_law 40 = .ok (.aload_n 0, 1) := by decide +kernel
theorem dX4_law_41 : decode cX4_law 41 = .ok (.iconst 2, 1) := by decide +kernel
theorem dX4_law_42 : decode cX4_law 42 = .ok (.invokevirtual 68, 3) := by decide +kernel
theorem dX4_law_45 : decode cX4_law 45 = .ok (.ireturn, 1) := by decide +kernel
theorem dX4_law_46 : decode cX4_law 46 = .ok (.iload_n 1, 1) := by decide +kernel
theorem dX4_law_47 : decode cX4_law 47 = .ok (.bipush 8, 2) := by decide +kernel
theorem dX4_law_49 : decode cX4_law 49 = .ok (.if_icmp .ne 17, 3) := by decide +kernel
theorem dX4_law_52 : decode cX4_law 52 = .ok (.aload_n 0, 1) := by decide +kernel
theorem dX4_law_53 : decode cX4_law 53 = .ok (.getfield 19, 3) := by decide +kernel
theorem dX4_law_56 : decode cX4_law 56 = .ok (.getfield 101, 3) := by decide +kernel
theorem dX4_law_59 : decode cX4_law 59 = .ok (.bipush 9, 2) := by decide +kernel
theorem dX4_law_61 : decode cX4_law 61 = .ok (.iaload, 1) := by decide +kernel
theorem dX4_law_62 : decode cX4_law 62 = .ok (.iload_n 2, 1) := by decide +kernel
theorem dX4_law_63 : decode cX4_law 63 = .ok (.if_icmp .lt 23, 3) := by decide +kernel
theorem dX4_law_66 : decode cX4_law 66 = .ok (.iload_n 1, 1) := by decide +kernel
theorem dX4_law_67 : decode cX4_law 67 = .ok (.bipush 9, 2) := by decide +kernel
theorem dX4_law_69 : decode cX4_law 69 = .ok (.if_icmp .ne 23, 3) := by decide +kernel
theorem dX4_law_72 : decode cX4_law 72 = .ok (.iload_n 2, 1) := by decide +kernel
theorem dX4_law_73 : decode cX4_law 73 = .ok (.aload_n 0, 1) := by decide +kernel
theorem dX4_law_74 : decode cX4_law 74 = .ok (.getfield 19, 3) := by decide +kernel
theorem dX4_law_77 : decode cX4_law 77 = .ok (.getfield 101, 3) := by decide +kernel
theorem dX4_law_80 : decode cX4_law 80 = .ok (.bipush 8, 2) := by decide +kernel
theorem dX4_law_82 : decode cX4_law 82 = .ok (.iaload, 1) := by decide +kernel
theorem dX4_law_83 : decode cX4_law 83 = .ok (.if_icmp .ge 9, 3) := by decide +kernel
theorem dX4_law_86 : decode cX4_law 86 = .ok (.aload_n 0, 1) := by decide +kernel
theorem dX4_law_87 : decode cX4_law 87 = .ok (.iconst 5, 1) := by decide +kernel
theorem dX4_law_88 : decode cX4_law 88 = .ok (.invokevirtual 68, 3) := by decide +kernel
theorem dX4_law_91 : decode cX4_law 91 = .ok (.ireturn, 1) := by decide +kernel
theorem dX4_law_92 : decode cX4_law 92 = .ok (.aload_n 0, 1) := by decide +kernel
theorem dX4_law_93 : decode cX4_law 93 = .ok (.invokevirtual 224, 3) := by decide +kernel
theorem dX4_law_96 : decode cX4_law 96 = .ok (.aload_n 0, 1) := by decide +kernel
theorem dX4_law_97 : decode cX4_law 97 = .ok (.getfield 19, 3) := by decide +kernel
theorem dX4_law_100 : decode cX4_law 100 = .ok (.getfield 101, 3) := by decide +kernel
theorem dX4_law_103 : decode cX4_law 103 = .ok (.iload_n 1, 1) := by decide +kernel
theorem dX4_law_104 : decode cX4_law 104 = .ok (.iaload, 1) := by decide +kernel
theorem dX4_law_105 : decode cX4_law 105 = .ok (.istore_n 3, 1) := by decide +kernel
theorem dX4_law_106 : decode cX4_law 106 = .ok (.aload_n 0, 1) := by decide +kernel
theorem dX4_law_107 : decode cX4_law 107 = .ok (.getfield 19, 3) := by decide +kernel
theorem dX4_law_110 : decode cX4_law 110 = .ok (.getfield 101, 3) := by decide +kernel
theorem dX4_law_113 : decode cX4_law 113 = .ok (.iload_n 1, 1) := by decide +kernel
theorem dX4_law_114 : decode cX4_law 114 = .ok (.iload_n 2, 1) := by decide +kernel
theorem dX4_law_115 : decode cX4_law 115 = .ok (.iastore, 1) := by decide +kernel
theorem dX4_law_116 : decode cX4_law 116 = .ok (.iload_n 3, 1) := by decide +kernel
theorem dX4_law_117 : decode cX4_law 117 = .ok (.ireturn, 1) := by decide +kernel
theorem dX4_undo_0 : decode cX4_undo 0 = .ok (.aload_n 0, 1) := by decide +kernel
theorem dX4_undo_1 : decode cX4_undo 1 = .ok (.invokevirtual 94, 3) := by decide +kernel
theorem dX4_undo_4 : decode cX4_undo 4 = .ok (.ifCond .ne 9, 3) := by decide +kernel
theorem dX4_undo_7 : decode cX4_undo 7 = .ok (.aload_n 0, 1) := by decide +kernel
theorem dX4_undo_8 : decode cX4_undo 8 = .ok (.iconst 1, 1) := by decide +kernel
theorem dX4_undo_9 : decode cX4_undo 9 = .ok (.invokevirtual 68, 3) := by decide +kernel
theorem dX4_undo_12 : decode cX4_undo 12 = .ok (.ireturn, 1) := by decide +kernel
theorem dX4_undo_13 : decode cX4_undo 13 = .ok (.aload_n 0, 1) := by decide +kernel
theorem dX4_undo_14 : decode cX4_undo 14 = .ok (.getfield 45, 3) := by decide +kernel
theorem dX4_undo_17 : decode cX4_undo 17 = .ok (.ifCond .ne 9, 3) := by decide +kernel
theorem dX4_undo_20 : decode cX4_undo 20 = .ok (.aload_n 0, 1) := by decide +kernel
theorem dX4_undo_21 : decode cX4_undo 21 = .ok (.iconst 5, 1) := by decide +kernel
theorem dX4_undo_22 : decode cX4_undo 22 = .ok (.invokevirtual 68, 3) := by decide +kernel
theorem dX4_undo_25 : decode cX4_undo 25 = .ok (.ireturn, 1) := by decide +kernel
theorem dX4_undo_26 : decode cX4_undo 26 = .ok (.aload_n 0, 1) := by decide +kernel
theorem dX4_undo_27 : decode cX4_undo 27 = .ok (.invokevirtual 78, 3) := by decide +kernel
theorem dX4_undo_30 : decode cX4_undo 30 = .ok (.aload_n 0, 1) := by decide +kernel
theorem dX4_undo_31 : decode cX4_undo 31 = .ok (.aload_n 0, 1) := by decide +kernel
theorem dX4_undo_32 : decode cX4_undo 32 = .ok (.getfield 48, 3) := by decide +kernel
theorem dX4_undo_35 : decode cX4_undo 35 = .ok (.bipush 10, 2) := by decide +kernel
theorem dX4_undo_37 : decode cX4_undo 37 = .ok (.iadd, 1) := by decide +kernel
theorem dX4_undo_38 : decode cX4_undo 38 = .ok (.iconst 1, 1) := by decide +kernel
theorem dX4_undo_39 : decode cX4_undo 39 = .ok (.isub, 1) := by decide +kernel
theorem dX4_undo_40 : decode cX4_undo 40 = .ok (.bipush 10, 2) := by decide +kernel
theorem dX4_undo_42 : decode cX4_undo 42 = .ok (.irem, 1) := by decide +kernel
theorem dX4_undo_43 : decode cX4_undo 43 = .ok (.putfield 48, 3) := by decide +kernel
theorem dX4_undo_46 : decode cX4_undo 46 = .ok (.aload_n 0, 1) := by decide +kernel
theorem dX4_undo_47 : decode cX4_undo 47 = .ok (.dup, 1) := by decide +kernel
theorem dX4_undo_48 : decode cX4_undo 48 = .ok (.getfield 45, 3) := by decide +kernel
theorem dX4_undo_51 : decode cX4_undo 51 = .ok (.iconst 1, 1) := by decide +kernel
theorem dX4_undo_52 : decode cX4_undo 52 = .ok (.isub, 1) := by decide +kernel
theorem dX4_undo_53 : decode cX4_undo 53 = .ok (.putfield 45, 3) := by decide +kernel
theorem dX4_undo_56 : decode cX4_undo 56 = .ok (.aload_n 0, 1) := by decide +kernel
theorem dX4_undo_57 : decode cX4_undo 57 = .ok (.getfield 19, 3) := by decide +kernel
theorem dX4_undo_60 : decode cX4_undo 60 = .ok (.aload_n 0, 1) := by decide +kernel
theorem dX4_undo_61 : decode cX4_undo 61 = .ok (.getfield 30, 3) := by decide +kernel
theorem dX4_undo_64 : decode cX4_undo 64 = .ok (.aload_n 0, 1) := by decide +kernel
theorem dX4_undo_65 : decode cX4_undo 65 = .ok (.getfield 48, 3) := by decide +kernel
theorem dX4_undo_68 : decode cX4_undo 68 = .ok (.aaload, 1) := by decide +kernel
theorem dX4_undo_69 : decode cX4_undo 69 = .ok (.invokevirtual 84, 3) := by decide +kernel
theorem dX4_undo_72 : decode cX4_undo 72 = .ok (.aload_n 0, 1) := by decide +kernel
theorem dX4_undo_73 : decode cX4_undo 73 = .ok (.getfield 45, 3) := by decide +kernel
theorem dX4_undo_76 : decode cX4_undo 76 = .ok (.ireturn, 1) := by decide +kernel
theorem dX4_image_0 : decode cX4_image 0 = .ok (.aload_n 0, 1) := by decide +kernel
theorem dX4_image_1 : decode cX4_image 1 = .ok (.invokevirtual 94, 3) := by decide +kernel
theorem dX4_image_4 : decode cX4_image 4 = .ok (.ifCond .eq 12, 3) := by decide +kernel
theorem dX4_image_7 : decode cX4_image 7 = .ok (.iload_n 1, 1) := by decide +kernel
theorem dX4_image_8 : decode cX4_image 8 = .ok (.iconst 0, 1) := by decide +kernel
theorem dX4_image_9 : decode cX4_image 9 = .ok (.iconst 1, 1) := by decide +kernel
theorem dX4_image_10 : decode cX4_image 10 = .ok (.invokestatic 64, 3) := by decide +kernel
theorem dX4_image_13 : decode cX4_image 13 = .ok (.ifCond .ne 9, 3) := by decide +kernel
theorem dX4_image_16 : decode cX4_image 16 = .ok (.aload_n 0, 1) := by decide +kernel
theorem dX4_image_17 : decode cX4_image 17 = .ok (.iconst 1, 1) := by decide +kernel
theorem dX4_image_18 : decode cX4_image 18 = .ok (.invokevirtual 250, 3) := by decide +kernel
theorem dX4_image_21 : decode cX4_image 21 = .ok (.ireturn, 1) := by decide +kernel
theorem dX4_image_22 : decode cX4_image 22 = .ok (.aload_n 0, 1) := by decide +kernel
theorem dX4_image_23 : decode cX4_image 23 = .ok (.invokevirtual 78, 3) := by decide +kernel
theorem dX4_image_26 : decode cX4_image 26 = .ok (.aload_n 0, 1) := by decide +kernel
theorem dX4_image_27 : decode cX4_image 27 = .ok (.getfield 34, 3) := by decide +kernel
theorem dX4_image_30 : decode cX4_image 30 = .ok (.iload_n 1, 1) := by decide +kernel
theorem dX4_image_31 : decode cX4_image 31 = .ok (.aaload, 1) := by decide +kernel
theorem dX4_image_32 : decode cX4_image 32 = .ok (.aload_n 0, 1) := by decide +kernel
theorem dX4_image_33 : decode cX4_image 33 = .ok (.getfield 19, 3) := by decide +kernel
theorem dX4_image_36 : decode cX4_image 36 = .ok (.invokevirtual 84, 3) := by decide +kernel
theorem dX4_image_39 : decode cX4_image 39 = .ok (.aload_n 0, 1) := by decide +kernel
theorem dX4_image_40 : decode cX4_image 40 = .ok (.getfield 37, 3) := by decide +kernel
theorem dX4_image_43 : decode cX4_image 43 = .ok (.iload_n 1, 1) := by decide +kernel
theorem dX4_image_44 : decode cX4_image 44 = .ok (.iconst 1, 1) := by decide +kernel
theorem dX4_image_45 : decode cX4_image 45 = .ok (.bastore, 1) := by decide +kernel
theorem dX4_image_46 : decode cX4_image 46 = .ok (.iconst 1, 1) := by decide +kernel
theorem dX4_image_47 : decode cX4_image 47 = .ok (.ireturn, 1) := by decide +kernel
theorem dX4_again_0 : decode cX4_again 0 = .ok (.iload_n 1, 1) := by decide +kernel
theorem dX4_again_1 : decode cX4_again 1 = .ok (.iconst 0, 1) := by decide +kernel
theorem dX4_again_2 : decode cX4_again 2 = .ok (.iconst 1, 1) := by decide +kernel
theorem dX4_again_3 : decode cX4_again 3 = .ok (.invokestatic 64, 3) := by decide +kernel
theorem dX4_again_6 : decode cX4_again 6 = .ok (.ifCond .eq 12, 3) := by decide +kernel
theorem dX4_again_9 : decode cX4_again 9 = .ok (.aload_n 0, 1) := by decide +kernel
theorem dX4_again_10 : decode cX4_again 10 = .ok (.getfield 37, 3) := by decide +kernel
theorem dX4_again_13 : decode cX4_again 13 = .ok (.iload_n 1, 1) := by decide +kernel
theorem dX4_again_14 : decode cX4_again 14 = .ok (.baload, 1) := by decide +kernel
theorem dX4_again_15 : decode cX4_again 15 = .ok (.ifCond .ne 9, 3) := by decide +kernel
theorem dX4_again_18 : decode cX4_again 18 = .ok (.aload_n 0, 1) := by decide +kernel
theorem dX4_again_19 : decode cX4_again 19 = .ok (.iconst 1, 1) := by decide +kernel
theorem dX4_again_20 : decode cX4_again 20 = .ok (.invokevirtual 250, 3) := by decide +kernel
theorem dX4_again_23 : decode cX4_again 23 = .ok (.ireturn, 1) := by decide +kernel
theorem dX4_again_24 : decode cX4_again 24 = .ok (.aload_n 0, 1) := by decide +kernel
theorem dX4_again_25 : decode cX4_again 25 = .ok (.invokevirtual 78, 3) := by decide +kernel
theorem dX4_again_28 : decode cX4_again 28 = .ok (.aload_n 0, 1) := by decide +kernel
theorem dX4_again_29 : decode cX4_again 29 = .ok (.getfield 19, 3) := by decide +kernel
theorem dX4_again_32 : decode cX4_again 32 = .ok (.aload_n 0, 1) := by decide +kernel
theorem dX4_again_33 : decode cX4_again 33 = .ok (.getfield 34, 3) := by decide +kernel
theorem dX4_again_36 : decode cX4_again 36 = .ok (.iload_n 1, 1) := by decide +kernel
theorem dX4_again_37 : decode cX4_again 37 = .ok (.aaload, 1) := by decide +kernel
theorem dX4_again_38 : decode cX4_again 38 = .ok (.invokevirtual 84, 3) := by decide +kernel
theorem dX4_again_41 : decode cX4_again 41 = .ok (.aload_n 0, 1) := by decide +kernel
theorem dX4_again_42 : decode cX4_again 42 = .ok (.invokevirtual 88, 3) := by decide +kernel
theorem dX4_again_45 : decode cX4_again 45 = .ok (.iconst 1, 1) := by decide +kernel
theorem dX4_again_46 : decode cX4_again 46 = .ok (.ireturn, 1) := by decide +kernel
theorem dX4_letter_0 : decode cX4_letter 0 = .ok (.aload_n 0, 1) := by decide +kernel
theorem dX4_letter_1 : decode cX4_letter 1 = .ok (.iload_n 1, 1) := by decide +kernel
theorem dX4_letter_2 : decode cX4_letter 2 = .ok (.invokevirtual 105, 3) := by decide +kernel
theorem dX4_letter_5 : decode cX4_letter 5 = .ok (.ifCond .eq 12, 3) := by decide +kernel
theorem dX4_letter_8 : decode cX4_letter 8 = .ok (.iload_n 2, 1) := by decide +kernel
theorem dX4_letter_9 : decode cX4_letter 9 = .ok (.iconst 0, 1) := by decide +kernel
theorem dX4_letter_10 : decode cX4_letter 10 = .ok (.iconst 5, 1) := by decide +kernel
theorem dX4_letter_11 : decode cX4_letter 11 = .ok (.invokestatic 64, 3) := by decide +kernel
theorem dX4_letter_14 : decode cX4_letter 14 = .ok (.ifCond .ne 11, 3) := by decide +kernel
theorem dX4_letter_17 : decode cX4_letter 17 = .ok (.new 253, 3) := by decide +kernel
theorem dX4_letter_20 : decode cX4_letter 20 = .ok (.dup, 1) := by decide +kernel
theorem dX4_letter_21 : decode cX4_letter 21 = .ok (.invokespecial 255, 3) := by decide +kernel
theorem dX4_letter_24 : decode cX4_letter 24 = .ok (.athrow, 1) := by decide +kernel
theorem dX4_letter_25 : decode cX4_letter 25 = .ok (.aload_n 0, 1) := by decide +kernel
theorem dX4_letter_26 : decode cX4_letter 26 = .ok (.getfield 19, 3) := by decide +kernel
theorem dX4_letter_29 : decode cX4_letter 29 = .ok (.getfield 256, 3) := by decide +kernel
theorem dX4_letter_32 : decode cX4_letter 32 = .ok (.iload_n 1, 1) := by decide +kernel
theorem dX4_letter_33 : decode cX4_letter 33 = .ok (.laload, 1) := by decide +kernel
theorem dX4_letter_34 : decode cX4_letter 34 = .ok (.iconst 5, 1) := by decide +kernel
theorem dX4_letter_35 : decode cX4_letter 35 = .ok (.iload_n 2, 1) := by decide +kernel
theorem dX4_letter_36 : decode cX4_letter 36 = .ok (.imul, 1) := by decide +kernel
theorem dX4_letter_37 : decode cX4_letter 37 = .ok (.lshr, 1) := by decide +kernel
theorem dX4_letter_38 : decode cX4_letter 38 = .ok (.l2i, 1) := by decide +kernel
theorem dX4_letter_39 : decode cX4_letter 39 = .ok (.bipush 31, 2) := by decide +kernel
theorem dX4_letter_41 : decode cX4_letter 41 = .ok (.iand, 1) := by decide +kernel
theorem dX4_letter_42 : decode cX4_letter 42 = .ok (.istore_n 3, 1) := by decide +kernel
theorem dX4_letter_43 : decode cX4_letter 43 = .ok (.iload_n 3, 1) := by decide +kernel
theorem dX4_letter_44 : decode cX4_letter 44 = .ok (.ifCond .ne 11, 3) := by decide +kernel
theorem dX4_letter_47 : decode cX4_letter 47 = .ok (.new 253, 3) := by decide +kernel
theorem dX4_letter_50 : decode cX4_letter 50 = .ok (.dup, 1) := by decide +kernel
theorem dX4_letter_51 : decode cX4_letter 51 = .ok (.invokespecial 255, 3) := by decide +kernel
theorem dX4_letter_54 : decode cX4_letter 54 = .ok (.athrow, 1) := by decide +kernel
theorem dX4_letter_55 : decode cX4_letter 55 = .ok (.iload_n 3, 1) := by decide +kernel
theorem dX4_letter_56 : decode cX4_letter 56 = .ok (.iconst 1, 1) := by decide +kernel
theorem dX4_letter_57 : decode cX4_letter 57 = .ok (.isub, 1) := by decide +kernel
theorem dX4_letter_58 : decode cX4_letter 58 = .ok (.ireturn, 1) := by decide +kernel
theorem dX4_size_0 : decode cX4_size 0 = .ok (.aload_n 0, 1) := by decide +kernel
theorem dX4_size_1 : decode cX4_size 1 = .ok (.getfield 41, 3) := by decide +kernel
theorem dX4_size_4 : decode cX4_size 4 = .ok (.ireturn, 1) := by decide +kernel
theorem dX4_trouble_0 : decode cX4_trouble 0 = .ok (.aload_n 0, 1) := by decide +kernel
theorem dX4_trouble_1 : decode cX4_trouble 1 = .ok (.getfield 51, 3) := by decide +kernel
theorem dX4_trouble_4 : decode cX4_trouble 4 = .ok (.ireturn, 1) := by decide +kernel
theorem dX4_within_0 : decode cX4_within 0 = .ok (.iload_n 0, 1) := by decide +kernel
theorem dX4_within_1 : decode cX4_within 1 = .ok (.iload_n 1, 1) := by decide +kernel
theorem dX4_within_2 : decode cX4_within 2 = .ok (.if_icmp .lt 12, 3) := by decide +kernel
theorem dX4_within_5 : decode cX4_within 5 = .ok (.iload_n 0, 1) := by decide +kernel
theorem dX4_within_6 : decode cX4_within 6 = .ok (.iload_n 2, 1) := by decide +kernel
theorem dX4_within_7 : decode cX4_within 7 = .ok (.if_icmp .gt 7, 3) := by decide +kernel
theorem dX4_within_10 : decode cX4_within 10 = .ok (.iconst 1, 1) := by decide +kernel
theorem dX4_within_11 : decode cX4_within 11 = .ok (.goto 4, 3) := by decide +kernel
theorem dX4_within_14 : decode cX4_within 14 = .ok (.iconst 0, 1) := by decide +kernel
theorem dX4_within_15 : decode cX4_within 15 = .ok (.ireturn, 1) := by decide +kernel
theorem dX4_hasText_0 : decode cX4_hasText 0 = .ok (.aload_n 0, 1) := by decide +kernel
theorem dX4_hasText_1 : decode cX4_hasText 1 = .ok (.getfield 19, 3) := by decide +kernel
theorem dX4_hasText_4 : decode cX4_hasText 4 = .ok (.getfield 91, 3) := by decide +kernel
theorem dX4_hasText_7 : decode cX4_hasText 7 = .ok (.ifCond .le 7, 3) := by decide +kernel
theorem dX4_hasText_10 : decode cX4_hasText 10 = .ok (.iconst 1, 1) := by decide +kernel
theorem dX4_hasText_11 : decode cX4_hasText 11 = .ok (.goto 4, 3) := by decide +kernel
theorem dX4_hasText_14 : decode cX4_hasText 14 = .ok (.iconst 0, 1) := by decide +kernel
theorem dX4_hasText_15 : decode cX4_hasText 15 = .ok (.ireturn, 1) := by decide +kernel
theorem dX4_hasShip_0 : decode cX4_hasShip 0 = .ok (.iload_n 1, 1) := by decide +kernel
theorem dX4_hasShip_1 : decode cX4_hasShip 1 = .ok (.iconst 0, 1) := by decide +kernel
theorem dX4_hasShip_2 : decode cX4_hasShip 2 = .ok (.aload_n 0, 1) := by decide +kernel
theorem dX4_hasShip_3 : decode cX4_hasShip 3 = .ok (.getfield 19, 3) := by decide +kernel
theorem dX4_hasShip_6 : decode cX4_hasShip 6 = .ok (.getfield 91, 3) := by decide +kernel
theorem dX4_hasShip_9 : decode cX4_hasShip 9 = .ok (.iconst 1, 1) := by decide +kernel
theorem dX4_hasShip_10 : decode cX4_hasShip 10 = .ok (.isub, 1) := by decide +kernel
theorem dX4_hasShip_11 : decode cX4_hasShip 11 = .ok (.invokestatic 64, 3) := by decide +kernel
theorem dX4_hasShip_14 : decode cX4_hasShip 14 = .ok (.ireturn, 1) := by decide +kernel
theorem dX4_hasClaim_0 : decode cX4_hasClaim 0 = .ok (.iload_n 1, 1) := by decide +kernel
theorem dX4_hasClaim_1 : decode cX4_hasClaim 1 = .ok (.iconst 0, 1) := by decide +kernel
theorem dX4_hasClaim_2 : decode cX4_hasClaim 2 = .ok (.aload_n 0, 1) := by decide +kernel
theorem dX4_hasClaim_3 : decode cX4_hasClaim 3 = .ok (.getfield 19, 3) := by decide +kernel
theorem dX4_hasClaim_6 : decode cX4_hasClaim 6 = .ok (.getfield 98, 3) := by decide +kernel
theorem dX4_hasClaim_9 : decode cX4_hasClaim 9 = .ok (.iconst 1, 1) := by decide +kernel
theorem dX4_hasClaim_10 : decode cX4_hasClaim 10 = .ok (.isub, 1) := by decide +kernel
theorem dX4_hasClaim_11 : decode cX4_hasClaim 11 = .ok (.invokestatic 64, 3) := by decide +kernel
theorem dX4_hasClaim_14 : decode cX4_hasClaim 14 = .ok (.ireturn, 1) := by decide +kernel
theorem dX4_accept_0 : decode cX4_accept 0 = .ok (.aload_n 0, 1) := by decide +kernel
theorem dX4_accept_1 : decode cX4_accept 1 = .ok (.iconst 0, 1) := by decide +kernel
theorem dX4_accept_2 : decode cX4_accept 2 = .ok (.putfield 51, 3) := by decide +kernel
theorem dX4_accept_5 : decode cX4_accept 5 = .ok (.aload_n 0, 1) := by decide +kernel
theorem dX4_accept_6 : decode cX4_accept 6 = .ok (.iconst (-1), 1) := by decide +kernel
theorem dX4_accept_7 : decode cX4_accept 7 = .ok (.putfield 54, 3) := by decide +kernel
theorem dX4_accept_10 : decode cX4_accept 10 = .ok (.return_, 1) := by decide +kernel
theorem dX4_refuse_0 : decode cX4_refuse 0 = .ok (.aload_n 0, 1) := by decide +kernel
theorem dX4_refuse_1 : decode cX4_refuse 1 = .ok (.iload_n 1, 1) := by decide +kernel
theorem dX4_refuse_2 : decode cX4_refuse 2 = .ok (.putfield 51, 3) := by decide +kernel
theorem dX4_refuse_5 : decode cX4_refuse 5 = .ok (.aload_n 0, 1) := by decide +kernel
theorem dX4_refuse_6 : decode cX4_refuse 6 = .ok (.iconst (-1), 1) := by decide +kernel
theorem dX4_refuse_7 : decode cX4_refuse 7 = .ok (.putfield 54, 3) := by decide +kernel
theorem dX4_refuse_10 : decode cX4_refuse 10 = .ok (.iconst 0, 1) := by decide +kernel
theorem dX4_refuse_11 : decode cX4_refuse 11 = .ok (.ireturn, 1) := by decide +kernel
theorem dX4_none_0 : decode cX4_none 0 = .ok (.aload_n 0, 1) := by decide +kernel
theorem dX4_none_1 : decode cX4_none 1 = .ok (.iload_n 1, 1) := by decide +kernel
theorem dX4_none_2 : decode cX4_none 2 = .ok (.invokevirtual 250, 3) := by decide +kernel
theorem dX4_none_5 : decode cX4_none 5 = .ok (.pop, 1) := by decide +kernel
theorem dX4_none_6 : decode cX4_none 6 = .ok (.iconst (-1), 1) := by decide +kernel
theorem dX4_none_7 : decode cX4_none 7 = .ok (.ireturn, 1) := by decide +kernel
theorem dX4_nothing_0 : decode cX4_nothing 0 = .ok (.aload_n 0, 1) := by decide +kernel
theorem dX4_nothing_1 : decode cX4_nothing 1 = .ok (.iload_n 1, 1) := by decide +kernel
theorem dX4_nothing_2 : decode cX4_nothing 2 = .ok (.invokevirtual 250, 3) := by decide +kernel
theorem dX4_nothing_5 : decode cX4_nothing 5 = .ok (.pop, 1) := by decide +kernel
theorem dX4_nothing_6 : decode cX4_nothing 6 = .ok (.ldc2_w 260, 3) := by decide +kernel
theorem dX4_nothing_9 : decode cX4_nothing 9 = .ok (.lreturn, 1) := by decide +kernel
theorem dX4_putBytes_0 : decode cX4_putBytes 0 = .ok (.bipush 24, 2) := by decide +kernel
theorem dX4_putBytes_2 : decode cX4_putBytes 2 = .ok (.istore_n 2, 1) := by decide +kernel
theorem dX4_putBytes_3 : decode cX4_putBytes 3 = .ok (.iload_n 2, 1) := by decide +kernel
theorem dX4_putBytes_4 : decode cX4_putBytes 4 = .ok (.ifCond .lt 45, 3) := by decide +kernel
theorem dX4_putBytes_7 : decode cX4_putBytes 7 = .ok (.aload_n 0, 1) := by decide +kernel
theorem dX4_putBytes_8 : decode cX4_putBytes 8 = .ok (.getfield 41, 3) := by decide +kernel
theorem dX4_putBytes_11 : decode cX4_putBytes 11 = .ok (.sipush 600, 3) := by decide +kernel
theorem dX4_putBytes_14 : decode cX4_putBytes 14 = .ok (.if_icmp .ge 35, 3) := by decide +kernel
theorem dX4_putBytes_17 : decode cX4_putBytes 17 = .ok (.aload_n 0, 1) := by decide +kernel
theorem dX4_putBytes_18 : decode cX4_putBytes 18 = .ok (.getfield 10, 3) := by decide +kernel
theorem dX4_putBytes_21 : decode cX4_putBytes 21 = .ok (.getfield 262, 3) := by decide +kernel
theorem dX4_putBytes_24 : decode cX4_putBytes 24 = .ok (.aload_n 0, 1) := by decide +kernel
theorem dX4_putBytes_25 : decode cX4_putBytes 25 = .ok (.getfield 41, 3) := by decide +kernel
theorem dX4_putBytes_28 : decode cX4_putBytes 28 = .ok (.iload_n 1, 1) := by decide +kernel
theorem dX4_putBytes_29 : decode cX4_putBytes 29 = .ok (.iload_n 2, 1) := by decide +kernel
theorem dX4_putBytes_30 : decode cX4_putBytes 30 = .ok (.ishr, 1) := by decide +kernel
theorem dX4_putBytes_31 : decode cX4_putBytes 31 = .ok (.i2b, 1) := by decide +kernel
theorem dX4_putBytes_32 : decode cX4_putBytes 32 = .ok (.bastore, 1) := by decide +kernel
theorem dX4_putBytes_33 : decode cX4_putBytes 33 = .ok (.aload_n 0, 1) := by decide +kernel
theorem dX4_putBytes_34 : decode cX4_putBytes 34 = .ok (.dup, 1) := by decide +kernel
theorem dX4_putBytes_35 : decode cX4_putBytes 35 = .ok (.getfield 41, 3) := by decide +kernel
theorem dX4_putBytes_38 : decode cX4_putBytes 38 = .ok (.iconst 1, 1) := by decide +kernel
theorem dX4_putBytes_39 : decode cX4_putBytes 39 = .ok (.iadd, 1) := by decide +kernel
theorem dX4_putBytes_40 : decode cX4_putBytes 40 = .ok (.putfield 41, 3) := by decide +kernel
theorem dX4_putBytes_43 : decode cX4_putBytes 43 = .ok (.iinc 2 (-8), 3) := by decide +kernel
theorem dX4_putBytes_46 : decode cX4_putBytes 46 = .ok (.goto (-43), 3) := by decide +kernel
theorem dX4_putBytes_49 : decode cX4_putBytes 49 = .ok (.return_, 1) := by decide +kernel
theorem dX4_beginAct_0 : decode cX4_beginAct 0 = .ok (.aload_n 0, 1) := by decide +kernel
theorem dX4_beginAct_1 : decode cX4_beginAct 1 = .ok (.invokevirtual 78, 3) := by decide +kernel
theorem dX4_beginAct_4 : decode cX4_beginAct 4 = .ok (.aload_n 0, 1) := by decide +kernel
theorem dX4_beginAct_5 : decode cX4_beginAct 5 = .ok (.getfield 30, 3) := by decide +kernel
theorem dX4_beginAct_8 : decode cX4_beginAct 8 = .ok (.aload_n 0, 1) := by decide +kernel
theorem dX4_beginAct_9 : decode cX4_beginAct 9 = .ok (.getfield 48, 3) := by decide +kernel
theorem dX4_beginAct_12 : decode cX4_beginAct 12 = .ok (.aaload, 1) := by decide +kernel
theorem dX4_beginAct_13 : decode cX4_beginAct 13 = .ok (.aload_n 0, 1) := by decide +kernel
theorem dX4_beginAct_14 : decode cX4_beginAct 14 = .ok (.getfield 19, 3) := by decide +kernel
theorem dX4_beginAct_17 : decode cX4_beginAct 17 = .ok (.invokevirtual 84, 3) := by decide +kernel
theorem dX4_beginAct_20 : decode cX4_beginAct 20 = .ok (.aload_n 0, 1) := by decide +kernel
theorem dX4_beginAct_21 : decode cX4_beginAct 21 = .ok (.aload_n 0, 1) := by decide +kernel
theorem dX4_beginAct_22 : decode cX4_beginAct 22 = .ok (.getfield 48, 3) := by decide +kernel
theorem dX4_beginAct_25 : decode cX4_beginAct 25 = .ok (.iconst 1, 1) := by decide +kernel
theorem dX4_beginAct_26 : decode cX4_beginAct 26 = .ok (.iadd, 1) := by decide +kernel
theorem dX4_beginAct_27 : decode cX4_beginAct 27 = .ok (.bipush 10, 2) := by decide +kernel
theorem dX4_beginAct_29 : decode cX4_beginAct 29 = .ok (.irem, 1) := by decide +kernel
theorem dX4_beginAct_30 : decode cX4_beginAct 30 = .ok (.putfield 48, 3) := by decide +kernel
theorem dX4_beginAct_33 : decode cX4_beginAct 33 = .ok (.aload_n 0, 1) := by decide +kernel
theorem dX4_beginAct_34 : decode cX4_beginAct 34 = .ok (.aload_n 0, 1) := by decide +kernel
theorem dX4_beginAct_35 : decode cX4_beginAct 35 = .ok (.getfield 45, 3) := by decide +kernel
theorem dX4_beginAct_38 : decode cX4_beginAct 38 = .ok (.iconst 1, 1) := by decide +kernel
theorem dX4_beginAct_39 : decode cX4_beginAct 39 = .ok (.iadd, 1) := by decide +kernel
theorem dX4_beginAct_40 : decode cX4_beginAct 40 = .ok (.bipush 10, 2) := by decide +kernel
theorem dX4_beginAct_42 : decode cX4_beginAct 42 = .ok (.invokestatic 266, 3) := by decide +kernel
theorem dX4_beginAct_45 : decode cX4_beginAct 45 = .ok (.putfield 45, 3) := by decide +kernel
theorem dX4_beginAct_48 : decode cX4_beginAct 48 = .ok (.return_, 1) := by decide +kernel
theorem dX4_forgetActs_0 : decode cX4_forgetActs 0 = .ok (.aload_n 0, 1) := by decide +kernel
theorem dX4_forgetActs_1 : decode cX4_forgetActs 1 = .ok (.iconst 0, 1) := by decide +kernel
theorem dX4_forgetActs_2 : decode cX4_forgetActs 2 = .ok (.putfield 45, 3) := by decide +kernel
theorem dX4_forgetActs_5 : decode cX4_forgetActs 5 = .ok (.aload_n 0, 1) := by decide +kernel
theorem dX4_forgetActs_6 : decode cX4_forgetActs 6 = .ok (.iconst 0, 1) := by decide +kernel
theorem dX4_forgetActs_7 : decode cX4_forgetActs 7 = .ok (.putfield 48, 3) := by decide +kernel
theorem dX4_forgetActs_10 : decode cX4_forgetActs 10 = .ok (.return_, 1) := by decide +kernel
theorem dX4_reckon_0 : decode cX4_reckon 0 = .ok (.aload_n 0, 1) := by decide +kernel
theorem dX4_reckon_1 : decode cX4_reckon 1 = .ok (.getfield 26, 3) := by decide +kernel
theorem dX4_reckon_4 : decode cX4_reckon 4 = .ok (.aload_n 0, 1) := by decide +kernel
theorem dX4_reckon_5 : decode cX4_reckon 5 = .ok (.getfield 19, 3) := by decide +kernel
theorem dX4_reckon_8 : decode cX4_reckon 8 = .ok (.invokevirtual 210, 3) := by decide +kernel
theorem dX4_reckon_11 : decode cX4_reckon 11 = .ok (.aload_n 0, 1) := by decide +kernel
theorem dX4_reckon_12 : decode cX4_reckon 12 = .ok (.getfield 26, 3) := by decide +kernel
theorem dX4_reckon_15 : decode cX4_reckon 15 = .ok (.invokevirtual 218, 3) := by decide +kernel
theorem dX4_reckon_18 : decode cX4_reckon 18 = .ok (.return_, 1) := by decide +kernel
theorem dX4_netUnder_0 : decode cX4_netUnder 0 = .ok (.aload_n 0, 1) := by decide +kernel
theorem dX4_netUnder_1 : decode cX4_netUnder 1 = .ok (.getfield 26, 3) := by decide +kernel
theorem dX4_netUnder_4 : decode cX4_netUnder 4 = .ok (.aload_n 0, 1) := by decide +kernel
theorem dX4_netUnder_5 : decode cX4_netUnder 5 = .ok (.getfield 19, 3) := by decide +kernel
theorem dX4_netUnder_8 : decode cX4_netUnder 8 = .ok (.invokevirtual 210, 3) := by decide +kernel
theorem dX4_netUnder_11 : decode cX4_netUnder 11 = .ok (.aload_n 0, 1) := by decide +kernel
theorem dX4_netUnder_12 : decode cX4_netUnder 12 = .ok (.getfield 26, 3) := by decide +kernel
theorem dX4_netUnder_15 : decode cX4_netUnder 15 = .ok (.getfield 213, 3) := by decide +kernel
theorem dX4_netUnder_18 : decode cX4_netUnder 18 = .ok (.getfield 101, 3) := by decide +kernel
theorem dX4_netUnder_21 : decode cX4_netUnder 21 = .ok (.iconst 2, 1) := by decide +kernel
theorem dX4_netUnder_22 : decode cX4_netUnder 22 = .ok (.iload_n 2, 1) := by decide +kernel
theorem dX4_netUnder_23 : decode cX4_netUnder 23 = .ok (.iconst 1, 1) := by decide +kernel
theorem dX4_netUnder_24 : decode cX4_netUnder 24 = .ok (.iand, 1) := by decide +kernel
theorem dX4_netUnder_25 : decode cX4_netUnder 25 = .ok (.iastore, 1) := by decide +kernel
theorem dX4_netUnder_26 : decode cX4_netUnder 26 = .ok (.aload_n 0, 1) := by decide +kernel
theorem dX4_netUnder_27 : decode cX4_netUnder 27 = .ok (.getfield 26, 3) := by decide +kernel
theorem dX4_netUnder_30 : decode cX4_netUnder 30 = .ok (.getfield 213, 3) := by decide +kernel
theorem dX4_netUnder_33 : decode cX4_netUnder 33 = .ok (.getfield 101, 3) := by decide +kernel
theorem dX4_netUnder_36 : decode cX4_netUnder 36 = .ok (.iconst 3, 1) := by decide +kernel
theorem dX4_netUnder_37 : decode cX4_netUnder 37 = .ok (.iload_n 2, 1) := by decide +kernel
theorem dX4_netUnder_38 : decode cX4_netUnder 38 = .ok (.iconst 1, 1) := by decide +kernel
theorem dX4_netUnder_39 : decode cX4_netUnder 39 = .ok (.ishr, 1) := by decide +kernel
theorem dX4_netUnder_40 : decode cX4_netUnder 40 = .ok (.iconst 1, 1) := by decide +kernel
theorem dX4_netUnder_41 : decode cX4_netUnder 41 = .ok (.iand, 1) := by decide +kernel
theorem dX4_netUnder_42 : decode cX4_netUnder 42 = .ok (.iastore, 1) := by decide +kernel
theorem dX4_netUnder_43 : decode cX4_netUnder 43 = .ok (.aload_n 0, 1) := by decide +kernel
theorem dX4_netUnder_44 : decode cX4_netUnder 44 = .ok (.getfield 26, 3) := by decide +kernel
theorem dX4_netUnder_47 : decode cX4_netUnder 47 = .ok (.getfield 213, 3) := by decide +kernel
theorem dX4_netUnder_50 : decode cX4_netUnder 50 = .ok (.getfield 101, 3) := by decide +kernel
theorem dX4_netUnder_53 : decode cX4_netUnder 53 = .ok (.iconst 4, 1) := by decide +kernel
theorem dX4_netUnder_54 : decode cX4_netUnder 54 = .ok (.iload_n 2, 1) := by decide +kernel
theorem dX4_netUnder_55 : decode cX4_netUnder 55 = .ok (.iconst 2, 1) := by decide +kernel
theorem dX4_netUnder_56 : decode cX4_netUnder 56 = .ok (.ishr, 1) := by decide +kernel
theorem dX4_netUnder_57 : decode cX4_netUnder 57 = .ok (.iconst 1, 1) := by decide +kernel
theorem dX4_netUnder_58 : decode cX4_netUnder 58 = .ok (.iand, 1) := by decide +kernel
theorem dX4_netUnder_59 : decode cX4_netUnder 59 = .ok (.iastore, 1) := by decide +kernel
theorem dX4_netUnder_60 : decode cX4_netUnder 60 = .ok (.aload_n 0, 1) := by decide +kernel
theorem dX4_netUnder_61 : decode cX4_netUnder 61 = .ok (.getfield 26, 3) := by decide +kernel
theorem dX4_netUnder_64 : decode cX4_netUnder 64 = .ok (.invokevirtual 218, 3) := by decide +kernel
theorem dX4_netUnder_67 : decode cX4_netUnder 67 = .ok (.aload_n 0, 1) := by decide +kernel
theorem dX4_netUnder_68 : decode cX4_netUnder 68 = .ok (.getfield 26, 3) := by decide +kernel
theorem dX4_netUnder_71 : decode cX4_netUnder 71 = .ok (.iload_n 1, 1) := by decide +kernel
theorem dX4_netUnder_72 : decode cX4_netUnder 72 = .ok (.invokevirtual 183, 3) := by decide +kernel
theorem dX4_netUnder_75 : decode cX4_netUnder 75 = .ok (.lreturn, 1) := by decide +kernel
theorem dX4_tenthsOfBoth_0 : decode cX4_tenthsOfBoth 0 = .ok (.aload_n 0, 1) := by decide +kernel
theorem dX4_tenthsOfBoth_1 : decode cX4_tenthsOfBoth 1 = .ok (.getfield 19, 3) := by decide +kernel
theorem dX4_tenthsOfBoth_4 : decode cX4_tenthsOfBoth 4 = .ok (.iload_n 1, 1) := by decide +kernel
theorem dX4_tenthsOfBoth_5 : decode cX4_tenthsOfBoth 5 = .ok (.iconst 1, 1) := by decide +kernel
theorem dX4_tenthsOfBoth_6 : decode cX4_tenthsOfBoth 6 = .ok (.invokevirtual 112, 3) := by decide +kernel
theorem dX4_tenthsOfBoth_9 : decode cX4_tenthsOfBoth 9 = .ok (.aload_n 0, 1) := by decide +kernel
theorem dX4_tenthsOfBoth_10 : decode cX4_tenthsOfBoth 10 = .ok (.getfield 19, 3) := by decide +kernel
theorem dX4_tenthsOfBoth_13 : decode cX4_tenthsOfBoth 13 = .ok (.iload_n 2, 1) := by decide +kernel
theorem dX4_tenthsOfBoth_14 : decode cX4_tenthsOfBoth 14 = .ok (.iconst 1, 1) := by decide +kernel
theorem dX4_tenthsOfBoth_15 : decode cX4_tenthsOfBoth 15 = .ok (.invokevirtual 112, 3) := by decide +kernel
theorem dX4_tenthsOfBoth_18 : decode cX4_tenthsOfBoth 18 = .ok (.iadd, 1) := by decide +kernel
theorem dX4_tenthsOfBoth_19 : decode cX4_tenthsOfBoth 19 = .ok (.ireturn, 1) := by decide +kernel
theorem dX4_netWithTenths_0 : decode cX4_netWithTenths 0 = .ok (.aload_n 0, 1) := by decide +kernel
theorem dX4_netWithTenths_1 : decode cX4_netWithTenths 1 = .ok (.getfield 26, 3) := by decide +kernel
theorem dX4_netWithTenths_4 : decode cX4_netWithTenths 4 = .ok (.aload_n 0, 1) := by decide +kernel
theorem dX4_netWithTenths_5 : decode cX4_netWithTenths 5 = .ok (.getfield 19, 3) := by decide +kernel
theorem dX4_netWithTenths_8 : decode cX4_netWithTenths 8 = .ok (.invokevirtual 210, 3) := by decide +kernel
theorem dX4_netWithTenths_11 : decode cX4_netWithTenths 11 = .ok (.aload_n 0, 1) := by decide +kernel
theorem dX4_netWithTenths_12 : decode cX4_netWithTenths 12 = .ok (.getfield 26, 3) := by decide +kernel
theorem dX4_netWithTenths_15 : decode cX4_netWithTenths 15 = .ok (.getfield 213, 3) := by decide +kernel
theorem dX4_netWithTenths_18 : decode cX4_netWithTenths 18 = .ok (.iload_n 1, 1) := by decide +kernel
theorem dX4_netWithTenths_19 : decode cX4_netWithTenths 19 = .ok (.iconst 1, 1) := by decide +kernel
theorem dX4_netWithTenths_20 : decode cX4_netWithTenths 20 = .ok (.iload_n 3, 1) := by decide +kernel
theorem dX4_netWithTenths_21 : decode cX4_netWithTenths 21 = .ok (.invokevirtual 227, 3) := by decide +kernel
theorem dX4_netWithTenths_24 : decode cX4_netWithTenths 24 = .ok (.aload_n 0, 1) := by decide +kernel
theorem dX4_netWithTenths_25 : decode cX4_netWithTenths 25 = .ok (.getfield 26, 3) := by decide +kernel
theorem dX4_netWithTenths_28 : decode cX4_netWithTenths 28 = .ok (.getfield 213, 3) := by decide +kernel
theorem dX4_netWithTenths_31 : decode cX4_netWithTenths 31 = .ok (.iload_n 2, 1) := by decide +kernel
theorem dX4_netWithTenths_32 : decode cX4_netWithTenths 32 = .ok (.iconst 1, 1) := by decide +kernel
theorem dX4_netWithTenths_33 : decode cX4_netWithTenths 33 = .ok (.aload_n 0, 1) := by decide +kernel
theorem dX4_netWithTenths_34 : decode cX4_netWithTenths 34 = .ok (.iload_n 1, 1) := by decide +kernel
theorem dX4_netWithTenths_35 : decode cX4_netWithTenths 35 = .ok (.iload_n 2, 1) := by decide +kernel
theorem dX4_netWithTenths_36 : decode cX4_netWithTenths 36 = .ok (.invokevirtual 200, 3) := by decide +kernel
theorem dX4_netWithTenths_39 : decode cX4_netWithTenths 39 = .ok (.iload_n 3, 1) := by decide +kernel
theorem dX4_netWithTenths_40 : decode cX4_netWithTenths 40 = .ok (.isub, 1) := by decide +kernel
theorem dX4_netWithTenths_41 : decode cX4_netWithTenths 41 = .ok (.invokevirtual 227, 3) := by decide +kernel
theorem dX4_netWithTenths_44 : decode cX4_netWithTenths 44 = .ok (.aload_n 0, 1) := by decide +kernel
theorem dX4_netWithTenths_45 : decode cX4_netWithTenths 45 = .ok (.getfield 26, 3) := by decide +kernel
theorem dX4_netWithTenths_48 : decode cX4_netWithTenths 48 = .ok (.invokevirtual 218, 3) := by decide +kernel
theorem dX4_netWithTenths_51 : decode cX4_netWithTenths 51 = .ok (.aload_n 0, 1) := by decide +kernel
theorem dX4_netWithTenths_52 : decode cX4_netWithTenths 52 = .ok (.getfield 26, 3) := by decide +kernel
theorem dX4_netWithTenths_55 : decode cX4_netWithTenths 55 = .ok (.iload_n 1, 1) := by decide +kernel
theorem dX4_netWithTenths_56 : decode cX4_netWithTenths 56 = .ok (.invokevirtual 183, 3) := by decide +kernel
theorem dX4_netWithTenths_59 : decode cX4_netWithTenths 59 = .ok (.lreturn, 1) := by decide +kernel
end
section
theorem dX5_init_0 : decode cX5_init 0 = .ok (.aload_n 0, 1) := by decide +kernel
theorem dX5_init_1 : decode cX5_init 1 = .ok (.invokespecial 1, 3) := by decide +kernel
theorem dX5_init_4 : decode cX5_init 4 = .ok (.aload_n 0, 1) := by decide +kernel
theorem dX5_init_5 : decode cX5_init 5 = .ok (.iconst (-1), 1) := by decide +kernel
theorem dX5_init_6 : decode cX5_init 6 = .ok (.putfield 9, 3) := by decide +kernel
theorem dX5_init_9 : decode cX5_init 9 = .ok (.aload_n 0, 1) := by decide +kernel
theorem dX5_init_10 : decode cX5_init 10 = .ok (.bipush 82, 2) := by decide +kernel
theorem dX5_init_12 : decode cX5_init 12 = .ok (.newarray .int, 2) := by decide +kernel
theorem dX5_init_14 : decode cX5_init 14 = .ok (.putfield 13, 3) := by decide +kernel
theorem dX5_init_17 : decode cX5_init 17 = .ok (.aload_n 0, 1) := by decide +kernel
theorem dX5_init_18 : decode cX5_init 18 = .ok (.bipush 82, 2) := by decide +kernel
theorem dX5_init_20 : decode cX5_init 20 = .ok (.newarray .int, 2) := by decide +kernel
theorem dX5_init_22 : decode cX5_init 22 = .ok (.putfield 17, 3) := by decide +kernel
theorem dX5_init_25 : decode cX5_init 25 = .ok (.aload_n 0, 1) := by decide +kernel
theorem dX5_init_26 : decode cX5_init 26 = .ok (.bipush 82, 2) := by decide +kernel
theorem dX5_init_28 : decode cX5_init 28 = .ok (.newarray .int, 2) := by decide +kernel
theorem dX5_init_30 : decode cX5_init 30 = .ok (.putfield 20, 3) := by decide +kernel
theorem dX5_init_33 : decode cX5_init 33 = .ok (.aload_n 0, 1) := by decide +kernel
theorem dX5_init_34 : decode cX5_init 34 = .ok (.sipush 820, 3) := by decide +kernel
theorem dX5_init_37 : decode cX5_init 37 = .ok (.newarray .int, 2) := by decide +kernel
theorem dX5_init_39 : decode cX5_init 39 = .ok (.putfield 23, 3) := by decide +kernel
theorem dX5_init_42 : decode cX5_init 42 = .ok (.aload_n 0, 1) := by decide +kernel
theorem dX5_init_43 : decode cX5_init 43 = .ok (.sipush 164, 3) := by decide +kernel
theorem dX5_init_46 : decode cX5_init 46 = .ok (.newarray .int, 2) := by decide +kernel
theorem dX5_init_48 : decode cX5_init 48 = .ok (.putfield 26, 3) := by decide +kernel
theorem dX5_init_51 : decode cX5_init 51 = .ok (.aload_n 0, 1) := by decide +kernel
theorem dX5_init_52 : decode cX5_init 52 = .ok (.iconst 2, 1) := by decide +kernel
theorem dX5_init_53 : decode cX5_init 53 = .ok (.newarray .boolean, 2) := by decide +kernel
theorem dX5_init_55 : decode cX5_init 55 = .ok (.putfield 29, 3) := by decide +kernel
theorem dX5_init_58 : decode cX5_init 58 = .ok (.aload_n 0, 1) := by decide +kernel
theorem dX5_init_59 : decode cX5_init 59 = .ok (.iconst 4, 1) := by decide +kernel
theorem dX5_init_60 : decode cX5_init 60 = .ok (.newarray .long, 2) := by decide +kernel
theorem dX5_init_62 : decode cX5_init 62 = .ok (.putfield 33, 3) := by decide +kernel
theorem dX5_init_65 : decode cX5_init 65 = .ok (.aload_n 0, 1) := by decide +kernel
theorem dX5_init_66 : decode cX5_init 66 = .ok (.iconst 4, 1) := by decide +kernel
theorem dX5_init_67 : decode cX5_init 67 = .ok (.newarray .long, 2) := by decide +kernel
theorem dX5_init_69 : decode cX5_init 69 = .ok (.putfield 37, 3) := by decide +kernel
theorem dX5_init_72 : decode cX5_init 72 = .ok (.aload_n 0, 1) := by decide +kernel
theorem dX5_init_73 : decode cX5_init 73 = .ok (.sipush 600, 3) := by decide +kernel
theorem dX5_init_76 : decode cX5_init 76 = .ok (.newarray .int, 2) := by decide +kernel
theorem dX5_init_78 : decode cX5_init 78 = .ok (.putfield 40, 3) := by decide +kernel
theorem dX5_init_81 : decode cX5_init 81 = .ok (.aload_n 0, 1) := by decide +kernel
theorem dX5_init_82 : decode cX5_init 82 = .ok (.bipush 16, 2) := by decide +kernel
theorem dX5_init_84 : decode cX5_init 84 = .ok (.newarray .long, 2) := by decide +kernel
theorem dX5_init_86 : decode cX5_init 86 = .ok (.putfield 43, 3) := by decide +kernel
theorem dX5_init_89 : decode cX5_init 89 = .ok (.aload_n 0, 1) := by decide +kernel
theorem dX5_init_90 : decode cX5_init 90 = .ok (.bipush 16, 2) := by decide +kernel
theorem dX5_init_92 : decode cX5_init 92 = .ok (.newarray .long, 2) := by decide +kernel
theorem dX5_init_94 : decode cX5_init 94 = .ok (.putfield 46, 3) := by decide +kernel
theorem dX5_init_97 : decode cX5_init 97 = .ok (.aload_n 0, 1) := by decide +kernel
theorem dX5_init_98 : decode cX5_init 98 = .ok (.bipush 64, 2) := by decide +kernel
theorem dX5_init_100 : decode cX5_init 100 = .ok (.newarray .long, 2) := by decide +kernel
theorem dX5_init_102 : decode cX5_init 102 = .ok (.putfield 49, 3) := by decide +kernel
theorem dX5_init_105 : decode cX5_init 105 = .ok (.return_, 1) := by decide +kernel
theorem dX5_thrown_0 : decode cX5_thrown 0 = .ok (.aload_n 0, 1) := by decide +kernel
theorem dX5_thrown_1 : decode cX5_thrown 1 = .ok (.getfield 52, 3) := by decide +kernel
theorem dX5_thrown_4 : decode cX5_thrown 4 = .ok (.ireturn, 1) := by decide +kernel
theorem dX5_in_0 : decode cX5_in 0 = .ok (.lload_n 0, 1) := by decide +kernel
theorem dX5_in_1 : decode cX5_in 1 = .ok (.lload_n 2, 1) := by decide +kernel
theorem dX5_in_2 : decode cX5_in 2 = .ok (.lcmp, 1) := by decide +kernel
theorem dX5_in_3 : decode cX5_in 3 = .ok (.ifCond .lt 14, 3) := by decide +kernel
theorem dX5_in_6 : decode cX5_in 6 = .ok (.lload_n 0, 1) := by decide +kernel
theorem dX5_in_7 : decode cX5_in 7 = .ok (.lload 4, 2) := by decide +kernel
theorem dX5_in_9 : decode cX5_in 9 = .ok (.lcmp, 1) := by decide +kernel
theorem dX5_in_10 : decode cX5_in 10 = .ok (.ifCond .gt 7, 3) := by decide +kernel
theorem dX5_in_13 : decode cX5_in 13 = .ok (.iconst 1, 1) := by decide +kernel
theorem dX5_in_14 : decode cX5_in 14 = .ok (.goto 4, 3) := by decide +kernel
theorem dX5_in_17 : decode cX5_in 17 = .ok (.iconst 0, 1) := by decide +kernel
theorem dX5_in_18 : decode cX5_in 18 = .ok (.ireturn, 1) := by decide +kernel
theorem dX5_lesser_0 : decode cX5_lesser 0 = .ok (.lload_n 0, 1) := by decide +kernel
theorem dX5_lesser_1 : decode cX5_lesser 1 = .ok (.lload_n 2, 1) := by decide +kernel
theorem dX5_lesser_2 : decode cX5_lesser 2 = .ok (.lcmp, 1) := by decide +kernel
theorem dX5_lesser_3 : decode cX5_lesser 3 = .ok (.ifCond .ge 7, 3) := by decide +kernel
theorem dX5_lesser_6 : decode cX5_lesser 6 = .ok (.lload_n 0, 1) := by decide +kernel
theorem dX5_lesser_7 : decode cX5_lesser 7 = .ok (.goto 4, 3) := by decide +kernel
theorem dX5_lesser_10 : decode cX5_lesser 10 = .ok (.lload_n 2, 1) := by decide +kernel
theorem dX5_lesser_11 : decode cX5_lesser 11 = .ok (.lreturn, 1) := by decide +kernel
theorem dX5_greater_0 : decode cX5_greater 0 = .ok (.lload_n 0, 1) := by decide +kernel
theorem dX5_greater_1 : decode cX5_greater 1 = .ok (.lload_n 2, 1) := by decide +kernel
theorem dX5_greater_2 : decode cX5_greater 2 = .ok (.lcmp, 1) := by decide +kernel
theorem dX5_greater_3 : decode cX5_greater 3 = .ok (.ifCond .le 7, 3) := by decide +kernel
theorem dX5_greater_6 : decode cX5_greater 6 = .ok (.lload_n 0, 1) := by decide +kernel
theorem dX5_greater_7 : decode cX5_greater 7 = .ok (.goto 4, 3) := by decide +kernel
theorem dX5_greater_10 : decode cX5_greater 10 = .ok (.lload_n 2, 1) := by decide +kernel
theorem dX5_greater_11 : decode cX5_greater 11 = .ok (.lreturn, 1) := by decide +kernel
theorem dX5_begins_0 : decode cX5_begins 0 = .ok (.aload_n 0, 1) := by decide +kernel
theorem dX5_begins_1 : decode cX5_begins 1 = .ok (.iconst 0, 1) := by decide +kernel
theorem dX5_begins_2 : decode cX5_begins 2 = .ok (.putfield 52, 3) := by decide +kernel
theorem dX5_begins_5 : decode cX5_begins 5 = .ok (.aload_n 0, 1) := by decide +kernel
theorem dX5_begins_6 : decode cX5_begins 6 = .ok (.iconst 0, 1) := by decide +kernel
theorem dX5_begins_7 : decode cX5_begins 7 = .ok (.putfield 55, 3) := by decide +kernel
theorem dX5_begins_10 : decode cX5_begins 10 = .ok (.aload_n 0, 1) := by decide +kernel
theorem dX5_begins_11 : decode cX5_begins 11 = .ok (.iconst (-1), 1) := by decide +kernel
theorem dX5_begins_12 : decode cX5_begins 12 = .ok (.putfield 9, 3) := by decide +kernel
theorem dX5_begins_15 : decode cX5_begins 15 = .ok (.return_, 1) := by decide +kernel
theorem dX5_refuse_0 : decode cX5_refuse 0 = .ok (.aload_n 0, 1) := by decide +kernel
theorem dX5_refuse_1 : decode cX5_refuse 1 = .ok (.getfield 55, 3) := by decide +kernel
theorem dX5_refuse_4 : decode cX5_refuse 4 = .ok (.ifCond .ne 12, 3) := by decide +kernel
theorem dX5_refuse_7 : decode cX5_refuse 7 = .ok (.iload_n 1, 1) := by decide +kernel
theorem dX5_refuse_8 : decode cX5_refuse 8 = .ok (.ifCond .eq 8, 3) := by decide +kernel
theorem dX5_refuse_11 : decode cX5_refuse 11 = .ok (.aload_n 0, 1) := by decide +kernel
theorem dX5_refuse_12 : decode cX5_refuse 12 = .ok (.iload_n 2, 1) := by decide +kernel
theorem dX5_refuse_13 : decode cX5_refuse 13 = .ok (.putfield 55, 3) := by decide +kernel
theorem dX5_refuse_16 : decode cX5_refuse 16 = .ok (.aload_n 0, 1) := by decide +kernel
theorem dX5_refuse_17 : decode cX5_refuse 17 = .ok (.getfield 55, 3) := by decide +kernel
theorem dX5_refuse_20 : decode cX5_refuse 20 = .ok (.ifCond .eq 7, 3) := by decide +kernel
theorem dX5_refuse_23 : decode cX5_refuse 23 = .ok (.iconst 1, 1) := by decide +kernel
theorem dX5_refuse_24 : decode cX5_refuse 24 = .ok (.goto 4, 3) := by decide +kernel
theorem dX5_refuse_27 : decode cX5_refuse 27 = .ok (.iconst 0, 1) := by decide +kernel
theorem dX5_refuse_28 : decode cX5_refuse 28 = .ok (.ireturn, 1) := by decide +kernel
theorem dX5_feed_0 : decode cX5_feed 0 = .ok (.aload_n 0, 1) := by decide +kernel
theorem dX5_feed_1 : decode cX5_feed 1 = .ok (.iconst 0, 1) := by decide +kernel
theorem dX5_feed_2 : decode cX5_feed 2 = .ok (.putfield 52, 3) := by decide +kernel
theorem dX5_feed_5 : decode cX5_feed 5 = .ok (.aload_n 0, 1) := by decide +kernel
theorem dX5_feed_6 : decode cX5_feed 6 = .ok (.getfield 58, 3) := by decide +kernel
theorem dX5_feed_9 : decode cX5_feed 9 = .ok (.bipush 20, 2) := by decide +kernel
theorem dX5_feed_11 : decode cX5_feed 11 = .ok (.iadd, 1) := by decide +kernel
theorem dX5_feed_12 : decode cX5_feed 12 = .ok (.sipush 600, 3) := by decide +kernel
theorem dX5_feed_15 : decode cX5_feed 15 = .ok (.if_icmp .le 5, 3) := by decide +kernel
theorem dX5_feed_18 : decode cX5_feed 18 = .ok (.iconst (-1), 1) := by decide +kernel
theorem dX5_feed_19 : decode cX5_feed 19 = .ok (.ireturn, 1) := by decide +kernel
theorem dX5_feed_20 : decode cX5_feed 20 = .ok (.iconst 0, 1) := by decide +kernel
theorem dX5_feed_21 : decode cX5_feed 21 = .ok (.istore 6, 2) := by decide +kernel
theorem dX5_feed_23 : decode cX5_feed 23 = .ok (.iload 6, 2) := by decide +kernel
theorem dX5_feed_25 : decode cX5_feed 25 = .ok (.bipush 20, 2) := by decide +kernel
theorem dX5_feed_27 : decode cX5_feed 27 = .ok (.if_icmp .ge 86, 3) := by decide +kernel
theorem dX5_feed_30 : decode cX5_feed 30 = .ok (.iload 6, 2) := by decide +kernel
theorem dX5_feed_32 : decode cX5_feed 32 = .ok (.iconst 4, 1) := by decide +kernel
theorem dX5_feed_33 : decode cX5_feed 33 = .ok (.if_icmp .ge 7, 3) := by decide +kernel
theorem dX5_feed_36 : decode cX5_feed 36 = .ok (.iload_n 1, 1) := by decide +kernel
theorem dX5_feed_37 : decode cX5_feed 37 = .ok (.goto 39, 3) := by decide +kernel
theorem dX5_feed_40 : decode cX5_feed 40 = .ok (.iload 6, 2) := by decide +kernel
theorem dX5_feed_42 : decode cX5_feed 42 = .ok (.bipush 8, 2) := by decide +kernel
theorem dX5_feed_44 : decode cX5_feed 44 = .ok (.if_icmp .ge 7, 3) := by decide +kernel
theorem dX5_feed_47 : decode cX5_feed 47 = .ok (.iload_n 2, 1) := by decide +kernel
theorem dX5_feed_48 : decode cX5_feed 48 = .ok (.goto 28, 3) := by decide +kernel
theorem dX5_feed_51 : decode cX5_feed 51 = .ok (.iload 6, 2) := by decide +kernel
theorem dX5_feed_53 : decode cX5_feed 53 = .ok (.bipush 12, 2) := by decide +kernel
theorem dX5_feed_55 : decode cX5_feed 55 = .ok (.if_icmp .ge 7, 3) := by decide +kernel
theorem dX5_feed_58 : decode cX5_feed 58 = .ok (.iload_n 3, 1) := by decide +kernel
theorem dX5_feed_59 : decode cX5_feed 59 = .ok (.goto 17, 3) := by decide +kernel
theorem dX5_feed_62 : decode cX5_feed 62 = .ok (.iload 6, 2) := by decide +kernel
theorem dX5_feed_64 : decode cX5_feed 64 = .ok (.bipush 16, 2) := by decide +kernel
theorem dX5_feed_66 : decode cX5_feed 66 = .ok (.if_icmp .ge 8, 3) := by decide +kernel
theorem dX5_feed_69 : decode cX5_feed 69 = .ok (.iload 4, 2) := by decide +kernel
theorem dX5_feed_71 : decode cX5_feed 71 = .ok (.goto 5, 3) := by decide +kernel
theorem dX5_feed_74 : decode cX5_feed 74 = .ok (.iload 5, 2) := by decide +kernel
theorem dX5_feed_76 : decode cX5_feed 76 = .ok (.istore 7, 2) := by decide +kernel
theorem dX5_feed_78 : decode cX5_feed 78 = .ok (.aload_n 0, 1) := by decide +kernel
theorem dX5_feed_79 : decode cX5_feed 79 = .ok (.getfield 40, 3) := by decide +kernel
theorem dX5_feed_82 : decode cX5_feed 82 = .ok (.aload_n 0, 1) := by decide +kernel
theorem dX5_feed_83 : decode cX5_feed 83 = .ok (.getfield 58, 3) := by decide +kernel
theorem dX5_feed_86 : decode cX5_feed 86 = .ok (.iload 6, 2) := by decide +kernel
theorem dX5_feed_88 : decode cX5_feed 88 = .ok (.iadd, 1) := by decide +kernel
theorem dX5_feed_89 : decode cX5_feed 89 = .ok (.iload 7, 2) := by decide +kernel
theorem dX5_feed_91 : decode cX5_feed 91 = .ok (.bipush 24, 2) := by decide +kernel
theorem dX5_feed_93 : decode cX5_feed 93 = .ok (.bipush 8, 2) := by decide +kernel
theorem dX5_feed_95 : decode cX5_feed 95 = .ok (.iload 6, 2) := by decide +kernel
theorem dX5_feed_97 : decode cX5_feed 97 = .ok (.iconst 4, 1) := by decide +kernel
theorem dX5_feed_98 : decode cX5_feed 98 = .ok (.irem, 1) := by decide +kernel
theorem dX5_feed_99 : decode cX5_feed 99 = .ok (.imul, 1) := by decide +kernel
theorem dX5_feed_100 : decode cX5_feed 100 = .ok (.isub, 1) := by decide +kernel
theorem dX5_feed_101 : decode cX5_feed 101 = .ok (.ishr, 1) := by decide +kernel
theorem dX5_feed_102 : decode cX5_feed 102 = .ok (.sipush 255, 3) := by decide +kernel
theorem dX5_feed_105 : decode cX5_feed 105 = .ok (.iand, 1) := by decide +kernel
theorem dX5_feed_106 : decode cX5_feed 106 = .ok (.iastore, 1) := by decide +kernel
theorem dX5_feed_107 : decode cX5_feed 107 = .ok (.iinc 6 1, 3) := by decide +kernel
theorem dX5_feed_110 : decode cX5_feed 110 = .ok (.goto (-87), 3) := by decide +kernel
theorem dX5_feed_113 : decode cX5_feed 113 = .ok (.aload_n 0, 1) := by decide +kernel
theorem dX5_feed_114 : decode cX5_feed 114 = .ok (.dup, 1) := by decide +kernel
theorem dX5_feed_115 : decode cX5_feed 115 = .ok (.getfield 58, 3) := by decide +kernel
theorem dX5_feed_118 : decode cX5_feed 118 = .ok (.bipush 20, 2) := by decide +kernel
theorem dX5_feed_120 : decode cX5_feed 120 = .ok (.iadd, 1) := by decide +kernel
theorem dX5_feed_121 : decode cX5_feed 121 = .ok (.putfield 58, 3) := by decide +kernel
theorem dX5_feed_124 : decode cX5_feed 124 = .ok (.aload_n 0, 1) := by decide +kernel
theorem dX5_feed_125 : decode cX5_feed 125 = .ok (.getfield 58, 3) := by decide +kernel
theorem dX5_feed_128 : decode cX5_feed 128 = .ok (.ireturn, 1) := by decide +kernel
theorem dX5_size_0 : decode cX5_size 0 = .ok (.aload_n 0, 1) := by decide +kernel
theorem dX5_size_1 : decode cX5_size 1 = .ok (.iconst 0, 1) := by decide +kernel
theorem dX5_size_2 : decode cX5_size 2 = .ok (.putfield 52, 3) := by decide +kernel
theorem dX5_size_5 : decode cX5_size 5 = .ok (.aload_n 0, 1) := by decide +kernel
theorem dX5_size_6 : decode cX5_size 6 = .ok (.getfield 58, 3) := by decide +kernel
theorem dX5_size_9 : decode cX5_size 9 = .ok (.ireturn, 1) := by decide +kernel
theorem dX5_seen_0 : decode cX5_seen 0 = .ok (.iload_n 1, 1) := by decide +kernel
theorem dX5_seen_1 : decode cX5_seen 1 = .ok (.aload_n 0, 1) := by decide +kernel
theorem dX5_seen_2 : decode cX5_seen 2 = .ok (.getfield 61, 3) := by decide +kernel
theorem dX5_seen_5 : decode cX5_seen 5 = .ok (.if_icmp .ge 12, 3) := by decide +kernel
theorem dX5_seen_8 : decode cX5_seen 8 = .ok (.aload_n 0, 1) := by decide +kernel
theorem dX5_seen_9 : decode cX5_seen 9 = .ok (.getfield 40, 3) := by decide +kernel
theorem dX5_seen_12 : decode cX5_seen 12 = .ok (.iload_n 1, 1) := by decide +kernel
theorem dX5_seen_13 : decode cX5_seen 13 = .ok (.iaload, 1) := by decide +kernel
theorem dX5_seen_14 : decode cX5_seen 14 = .ok (.goto 4, 3) := by decide +kernel
theorem dX5_seen_17 : decode cX5_seen 17 = .ok (.iconst (-1), 1) := by decide +kernel
theorem dX5_seen_18 : decode cX5_seen 18 = .ok (.ireturn, 1) := by decide +kernel
theorem dX5_isLetter_0 : decode cX5_isLetter 0 = .ok (.iload_n 0, 1) := by decide +kernel
theorem dX5_isLetter_1 : decode cX5_isLetter 1 = .ok (.bipush 97, 2) := by decide +kernel
theorem dX5_isLetter_3 : decode cX5_isLetter 3 = .ok (.if_icmp .lt 13, 3) := by decide +kernel
theorem dX5_isLetter_6 : decode cX5_isLetter 6 = .ok (.iload_n 0, 1) := by decide +kernel
theorem dX5_isLetter_7 : decode cX5_isLetter 7 = .ok (.bipush 122, 2) := by decide +kernel
theorem dX5_isLetter_9 : decode cX5_isLetter 9 = .ok (.if_icmp .gt 7, 3) := by decide +kernel
theorem dX5_isLetter_12 : decode cX5_isLetter 12 = .ok (.iconst 1, 1) := by decide +kernel
theorem dX5_isLetter_13 : decode cX5_isLetter 13 = .ok (.goto 4, 3) := by decide +kernel
theorem dX5_isLetter_16 : decode cX5_isLetter 16 = .ok (.iconst 0, 1) := by decide +kernel
theorem dX5_isLetter_17 : decode cX5_isLetter 17 = .ok (.ireturn, 1) := by decide +kernel
theorem dX5_isDigit_0 : decode cX5_isDigit 0 = .ok (.iload_n 0, 1) := by decide +kernel
theorem dX5_isDigit_1 : decode cX5_isDigit 1 = .ok (.bipush 48, 2) := by decide +kernel
theorem dX5_isDigit_3 : decode cX5_isDigit 3 = .ok (.if_icmp .lt 13, 3) := by decide +kernel
theorem dX5_isDigit_6 : decode cX5_isDigit 6 = .ok (.iload_n 0, 1) := by decide +kernel
theorem dX5_isDigit_7 : decode cX5_isDigit 7 = .ok (.bipush 57, 2) := by decide +kernel
theorem dX5_isDigit_9 : decode cX5_isDigit 9 = .ok (.if_icmp .gt 7, 3) := by decide +kernel
theorem dX5_isDigit_12 : decode cX5_isDigit 12 = .ok (.iconst 1, 1) := by decide +kernel
theorem dX5_isDigit_13 : decode cX5_isDigit 13 = .ok (.goto 4, 3) := by decide +kernel
theorem dX5_isDigit_16 : decode cX5_isDigit 16 = .ok (.iconst 0, 1) := by decide +kernel
theorem dX5_isDigit_17 : decode cX5_isDigit 17 = .ok (.ireturn, 1) := by decide +kernel
theorem dX5_token_0 : decode cX5_token 0 = .ok (.aload_n 0, 1) := by decide +kernel
theorem dX5_token_1 : decode cX5_token 1 = .ok (.aload_n 0, 1) := by decide +kernel
theorem dX5_token_2 : decode cX5_token 2 = .ok (.getfield 64, 3) := by decide +kernel
theorem dX5_token_5 : decode cX5_token 5 = .ok (.invokevirtual 67, 3) := by decide +kernel
theorem dX5_token_8 : decode cX5_token 8 = .ok (.bipush 32, 2) := by decide +kernel
theorem dX5_token_10 : decode cX5_token 10 = .ok (.if_icmp .ne 16, 3) := by decide +kernel
theorem dX5_token_13 : decode cX5_token 13 = .ok (.aload_n 0, 1) := by decide +kernel
theorem dX5_token_14 : decode cX5_token 14 = .ok (.dup, 1) := by decide +kernel
theorem dX5_token_15 : decode cX5_token 15 = .ok (.getfield 64, 3) := by decide +kernel
theorem dX5_token_18 : decode cX5_token 18 = .ok (.iconst 1, 1) := by decide +kernel
theorem dX5_token_19 : decode cX5_token 19 = .ok (.iadd, 1) := by decide +kernel
theorem dX5_token_20 : decode cX5_token 20 = .ok (.putfield 64, 3) := by decide +kernel
theorem dX5_token_23 : decode cX5_token 23 = .ok (.goto (-23), 3) := by decide +kernel
theorem dX5_token_26 : decode cX5_token 26 = .ok (.aload_n 0, 1) := by decide +kernel
theorem dX5_token_27 : decode cX5_token 27 = .ok (.aload_n 0, 1) := by decide +kernel
theorem dX5_token_28 : decode cX5_token 28 = .ok (.getfield 64, 3) := by decide +kernel
theorem dX5_token_31 : decode cX5_token 31 = .ok (.putfield 71, 3) := by decide +kernel
theorem dX5_token_34 : decode cX5_token 34 = .ok (.aload_n 0, 1) := by decide +kernel
theorem dX5_token_35 : decode cX5_token 35 = .ok (.iconst 0, 1) := by decide +kernel
theorem dX5_token_36 : decode cX5_token 36 = .ok (.putfield 74, 3) := by decide +kernel
theorem dX5_token_39 : decode cX5_token 39 = .ok (.aload_n 0, 1) := by decide +kernel
theorem dX5_token_40 : decode cX5_token 40 = .ok (.aload_n 0, 1) := by decide +kernel
theorem dX5_token_41 : decode cX5_token 41 = .ok (.getfield 64, 3) := by decide +kernel
theorem dX5_token_44 : decode cX5_token 44 = .ok (.invokevirtual 67, 3) := by decide +kernel
theorem dX5_token_47 : decode cX5_token 47 = .ok (.istore_n 1, 1) := by decide +kernel
theorem dX5_token_48 : decode cX5_token 48 = .ok (.iload_n 1, 1) := by decide +kernel
theorem dX5_token_49 : decode cX5_token 49 = .ok (.iconst (-1), 1) := by decide +kernel
theorem dX5_token_50 : decode cX5_token 50 = .ok (.if_icmp .ne 11, 3) := by decide +kernel
theorem dX5_token_53 : decode cX5_token 53 = .ok (.aload_n 0, 1) := by decide +kernel
theorem dX5_token_54 : decode cX5_token 54 = .ok (.iconst 0, 1) := by decide +kernel
theorem dX5_token_55 : decode cX5_token 55 = .ok (.putfield 77, 3) := by decide +kernel
theorem dX5_token_58 : decode cX5_token 58 = .ok (.goto 243, 3) := by decide +kernel
theorem dX5_token_61 : decode cX5_token 61 = .ok (.iload_n 1, 1) := by decide +kernel
theorem dX5_token_62 : decode cX5_token 62 = .ok (.invokestatic 80, 3) := by decide +kernel
theorem dX5_token_65 : decode cX5_token 65 = .ok (.ifCond .eq 105, 3) := by decide +kernel
theorem dX5_token_68 : decode cX5_token 68 = .ok (.aload_n 0, 1) := by decide +kernel
theorem dX5_token_69 : decode cX5_token 69 = .ok (.lconst 0, 1) := by decide +kernel
theorem dX5_token_70 : decode cX5_token 70 = .ok (.putfield 84, 3) := by decide +kernel
theorem dX5_token_73 : decode cX5_token 73 = .ok (.aload_n 0, 1) := by decide +kernel
theorem dX5_token_74 : decode cX5_token 74 = .ok (.aload_n 0, 1) := by decide +kernel
theorem dX5_token_75 : decode cX5_token 75 = .ok (.getfield 64, 3) := by decide +kernel
theorem dX5_token_78 : decode cX5_token 78 = .ok (.invokevirtual 67, 3) := by decide +kernel
theorem dX5_token_81 : decode cX5_token 81 = .ok (.invokestatic 80, 3) := by decide +kernel
theorem dX5_token_84 : decode cX5_token 84 = .ok (.ifCond .eq 65, 3) := by decide +kernel
theorem dX5_token_87 : decode cX5_token 87 = .ok (.aload_n 0, 1) := by decide +kernel
theorem dX5_token_88 : decode cX5_token 88 = .ok (.aload_n 0, 1) := by decide +kernel
theorem dX5_token_89 : decode cX5_token 89 = .ok (.getfield 74, 3) := by decide +kernel
theorem dX5_token_92 : decode cX5_token 92 = .ok (.bipush 7, 2) := by decide +kernel
theorem dX5_token_94 : decode cX5_token 94 = .ok (.if_icmp .ge 28, 3) := by decide +kernel
theorem dX5_token_97 : decode cX5_token 97 = .ok (.ldc2_w 88, 3) := by decide +kernel
theorem dX5_token_100 : decode cX5_token 100 = .ok (.aload_n 0, 1) := by decide +kernel
theorem dX5_token_101 : decode cX5_token 101 = .ok (.getfield 84, 3) := by decide +kernel
theorem dX5_token_104 : decode cX5_token 104 = .ok (.lmul, 1) := by decide +kernel
theorem dX5_token_105 : decode cX5_token 105 = .ok (.aload_n 0, 1) := by decide +kernel
theorem dX5_token_106 : decode cX5_token 106 = .ok (.aload_n 0, 1) := by decide +kernel
theorem dX5_token_107 : decode cX5_token 107 = .ok (.getfield 64, 3) := by decide +kernel
theorem dX5_token_110 : decode cX5_token 110 = .ok (.invokevirtual 67, 3) := by decide +kernel
theorem dX5_token_113 : decode cX5_token 113 = .ok (.i2l, 1) := by decide +kernel
theorem dX5_token_114 : decode cX5_token 114 = .ok (.ladd, 1) := by decide +kernel
theorem dX5_token_115 : decode cX5_token 115 = .ok (.ldc2_w 90, 3) := by decide +kernel
theorem dX5_token_118 : decode cX5_token 118 = .ok (.lsub, 1) := by decide +kernel
theorem dX5_token_119 : decode cX5_token 119 = .ok (.goto 4, 3) := by decide +kernel
theorem dX5_token_122 : decode cX5_token 122 = .ok (.lconst 0, 1) := by decide +kernel
theorem dX5_token_123 : decode cX5_token 123 = .ok (.putfield 84, 3) := by decide +kernel
theorem dX5_token_126 : decode cX5_token 126 = .ok (.aload_n 0, 1) := by decide +kernel
theorem dX5_token_127 : decode cX5_token 127 = .ok (.dup, 1) := by decide +kernel
theorem dX5_token_128 : decode cX5_token 128 = .ok (.getfield 64, 3) := by decide +kernel
theorem dX5_token_131 : decode cX5_token 131 = .ok (.iconst 1, 1) := by decide +kernel
theorem dX5_token_132 : decode cX5_token 132 = .ok (.iadd, 1) := by decide +kernel
theorem dX5_token_133 : decode cX5_token 133 = .ok (.putfield 64, 3) := by decide +kernel
theorem dX5_token_136 : decode cX5_token 136 = .ok (.aload_n 0, 1) := by decide +kernel
theorem dX5_token_137 : decode cX5_token 137 = .ok (.dup, 1) := by decide +kernel
theorem dX5_token_138 : decode cX5_token 138 = .ok (.getfield 74, 3) := by decide +kernel
theorem dX5_token_141 : decode cX5_token 141 = .ok (.iconst 1, 1) := by decide +kernel
theorem dX5_token_142 : decode cX5_token 142 = .ok (.iadd, 1) := by decide +kernel
theorem dX5_token_143 : decode cX5_token 143 = .ok (.putfield 74, 3) := by decide +kernel
theorem dX5_token_146 : decode cX5_token 146 = .ok (.goto (-73), 3) := by decide +kernel
theorem dX5_token_149 : decode cX5_token 149 = .ok (.aload_n 0, 1) := by decide +kernel
theorem dX5_token_150 : decode cX5_token 150 = .ok (.aload_n 0, 1) := by decide +kernel
theorem dX5_token_151 : decode cX5_token 151 = .ok (.getfield 74, 3) := by decide +kernel
theorem dX5_token_154 : decode cX5_token 154 = .ok (.bipush 7, 2) := by decide +kernel
theorem dX5_token_156 : decode cX5_token 156 = .ok (.if_icmp .le 7, 3) := by decide +kernel
theorem dX5_token_159 : decode cX5_token 159 = .ok (.iconst 4, 1) := by decide +kernel
theorem dX5_token_160 : decode cX5_token 160 = .ok (.goto 4, 3) := by decide +kernel
theorem dX5_token_163 : decode cX5_token 163 = .ok (.iconst 1, 1) := by decide +kernel
theorem dX5_token_164 : decode cX5_token 164 = .ok (.putfield 77, 3) := by decide +kernel
theorem dX5_token_167 : decode cX5_token 167 = .ok (.goto 134, 3) := by decide +kernel
theorem dX5_token_170 : decode cX5_token 170 = .ok (.iload_n 1, 1) := by decide +kernel
theorem dX5_token_171 : decode cX5_token 171 = .ok (.invokestatic 92, 3) := by decide +kernel
theorem dX5_token_174 : decode cX5_token 174 = .ok (.ifCond .eq 102, 3) := by decide +kernel
theorem dX5_token_177 : decode cX5_token 177 = .ok (.aload_n 0, 1) := by decide +kernel
theorem dX5_token_178 : decode cX5_token 178 = .ok (.iconst 0, 1) := by decide +kernel
theorem dX5_token_179 : decode cX5_token 179 = .ok (.putfield 95, 3) := by decide +kernel
theorem dX5_token_182 : decode cX5_token 182 = .ok (.aload_n 0, 1) := by decide +kernel
theorem dX5_token_183 : decode cX5_token 183 = .ok (.aload_n 0, 1) := by decide +kernel
theorem dX5_token_184 : decode cX5_token 184 = .ok (.getfield 64, 3) := by decide +kernel
theorem dX5_token_187 : decode cX5_token 187 = .ok (.invokevirtual 67, 3) := by decide +kernel
theorem dX5_token_190 : decode cX5_token 190 = .ok (.invokestatic 92, 3) := by decide +kernel
theorem dX5_token_193 : decode cX5_token 193 = .ok (.ifCond .eq 62, 3) := by decide +kernel
theorem dX5_token_196 : decode cX5_token 196 = .ok (.aload_n 0, 1) := by decide +kernel
theorem dX5_token_197 : decode cX5_token 197 = .ok (.aload_n 0, 1) := by decide +kernel
theorem dX5_token_198 : decode cX5_token 198 = .ok (.getfield 74, 3) := by decide +kernel
theorem dX5_token_201 : decode cX5_token 201 = .ok (.bipush 7, 2) := by decide +kernel
theorem dX5_token_203 : decode cX5_token 203 = .ok (.if_icmp .ge 25, 3) := by decide +kernel
theorem dX5_token_206 : decode cX5_token 206 = .ok (.bipush 10, 2) := by decide +kernel
theorem dX5_token_208 : decode cX5_token 208 = .ok (.aload_n 0, 1) := by decide +kernel
theorem dX5_token_209 : decode cX5_token 209 = .ok (.getfield 95, 3) := by decide +kernel
theorem dX5_token_212 : decode cX5_token 212 = .ok (.imul, 1) := by decide +kernel
theorem dX5_token_213 : decode cX5_token 213 = .ok (.aload_n 0, 1) := by decide +kernel
theorem dX5_token_214 : decode cX5_token 214 = .ok (.aload_n 0, 1) := by decide +kernel
theorem dX5_token_215 : decode cX5_token 215 = .ok (.getfield 64, 3) := by decide +kernel
theorem dX5_token_218 : decode cX5_token 218 = .ok (.invokevirtual 67, 3) := by decide +kernel
theorem dX5_token_221 : decode cX5_token 221 = .ok (.iadd, 1) := by decide +kernel
theorem dX5_token_222 : decode cX5_token 222 = .ok (.bipush 48, 2) := by decide +kernel
theorem dX5_token_224 : decode cX5_token 224 = .ok (.isub, 1) := by decide +kernel
theorem dX5_token_225 : decode cX5_token 225 = .ok (.goto 4, 3) := by decide +kernel
theorem dX5_token_228 : decode cX5_token 228 = .ok (.iconst 0, 1) := by decide +kernel
theorem dX5_token_229 : decode cX5_token 229 = .ok (.putfield 95, 3) := by decide +kernel
theorem dX5_token_232 : decode cX5_token 232 = .ok (.aload_n 0, 1) := by decide +kernel
theorem dX5_token_233 : decode cX5_token 233 = .ok (.dup, 1) := by decide +kernel
theorem dX5_token_234 : decode cX5_token 234 = .ok (.getfield 64, 3) := by decide +kernel
theorem dX5_token_237 : decode cX5_token 237 = .ok (.iconst 1, 1) := by decide +kernel
theorem dX5_token_238 : decode cX5_token 238 = .ok (.iadd, 1) := by decide +kernel
theorem dX5_token_239 : decode cX5_token 239 = .ok (.putfield 64, 3) := by decide +kernel
theorem dX5_token_242 : decode cX5_token 242 = .ok (.aload_n 0, 1) := by decide +kernel
theorem dX5_token_243 : decode cX5_token 243 = .ok (.dup, 1) := by decide +kernel
theorem dX5_token_244 : decode cX5_token 244 = .ok (.getfield 74, 3) := by decide +kernel
theorem dX5_token_247 : decode cX5_token 247 = .ok (.iconst 1, 1) := by decide +kernel
theorem dX5_token_248 : decode cX5_token 248 = .ok (.iadd, 1) := by decide +kernel
theorem dX5_token_249 : decode cX5_token 249 = .ok (.putfield 74, 3) := by decide +kernel
theorem dX5_token_252 : decode cX5_token 252 = .ok (.goto (-70), 3) := by decide +kernel
theorem dX5_token_255 : decode cX5_token 255 = .ok (.aload_n 0, 1) := by decide +kernel
theorem dX5_token_256 : decode cX5_token 256 = .ok (.aload_n 0, 1) := by decide +kernel
theorem dX5_token_257 : decode cX5_token 257 = .ok (.getfield 74, 3) := by decide +kernel
theorem dX5_token_260 : decode cX5_token 260 = .ok (.bipush 7, 2) := by decide +kernel
theorem dX5_token_262 : decode cX5_token 262 = .ok (.if_icmp .le 7, 3) := by decide +kernel
theorem dX5_token_265 : decode cX5_token 265 = .ok (.iconst 4, 1) := by decide +kernel
theorem dX5_token_266 : decode cX5_token 266 = .ok (.goto 4, 3) := by decide +kernel
theorem dX5_token_269 : decode cX5_token 269 = .ok (.iconst 2, 1) := by decide +kernel
theorem dX5_token_270 : decode cX5_token 270 = .ok (.putfield 77, 3) := by decide +kernel
theorem dX5_token_273 : decode cX5_token 273 = .ok (.goto 28, 3) := by decide +kernel
theorem dX5_token_276 : decode cX5_token 276 = .ok (.aload_n 0, 1) := by decide +kernel
theorem dX5_token_277 : decode cX5_token 277 = .ok (.iload_n 1, 1) := by decide +kernel
theorem dX5_token_278 : decode cX5_token 278 = .ok (.bipush 59, 2) := by decide +kernel
theorem dX5_token_280 : decode cX5_token 280 = .ok (.if_icmp .ne 7, 3) := by decide +kernel
theorem dX5_token_283 : decode cX5_token 283 = .ok (.iconst 3, 1) := by decide +kernel
theorem dX5_token_284 : decode cX5_token 284 = .ok (.goto 4, 3) := by decide +kernel
theorem dX5_token_287 : decode cX5_token 287 = .ok (.iconst 4, 1) := by decide +kernel
theorem dX5_token_288 : decode cX5_token 288 = .ok (.putfield 77, 3) := by decide +kernel
theorem dX5_token_291 : decode cX5_token 291 = .ok (.aload_n 0, 1) := by decide +kernel
theorem dX5_token_292 : decode cX5_token 292 = .ok (.dup, 1) := by decide +kernel
theorem dX5_token_293 : decode cX5_token 293 = .ok (.getfield 64, 3) := by decide +kernel
theorem dX5_token_296 : decode cX5_token 296 = .ok (.iconst 1, 1) := by decide +kernel
theorem dX5_token_297 : decode cX5_token 297 = .ok (.iadd, 1) := by decide +kernel
theorem dX5_token_298 : decode cX5_token 298 = .ok (.putfield 64, 3) := by decide +kernel
theorem dX5_token_301 : decode cX5_token 301 = .ok (.return_, 1) := by decide +kernel
theorem dX5_fails_0 : decode cX5_fails 0 = .ok (.aload_n 0, 1) := by decide +kernel
theorem dX5_fails_1 : decode cX5_fails 1 = .ok (.getfield 98, 3) := by decide +kernel
theorem dX5_fails_4 : decode cX5_fails 4 = .ok (.ifCond .ne 16, 3) := by decide +kernel
theorem dX5_fails_7 : decode cX5_fails 7 = .ok (.aload_n 0, 1) := by decide +kernel
theorem dX5_fails_8 : decode cX5_fails 8 = .ok (.iload_n 1, 1) := by decide +kernel
theorem dX5_fails_9 : decode cX5_fails 9 = .ok (.putfield 98, 3) := by decide +kernel
theorem dX5_fails_12 : decode cX5_fails 12 = .ok (.aload_n 0, 1) := by decide +kernel
theorem dX5_fails_13 : decode cX5_fails 13 = .ok (.aload_n 0, 1) := by decide +kernel
theorem dX5_fails_14 : decode cX5_fails 14 = .ok (.getfield 71, 3) := by decide +kernel
theorem dX5_fails_17 : decode cX5_fails 17 = .ok (.putfield 101, 3) := by decide +kernel
theorem dX5_fails_20 : decode cX5_fails 20 = .ok (.return_, 1) := by decide +kernel
theorem dX5_goesOn_0 : decode cX5_goesOn 0 = .ok (.aload_n 0, 1) := by decide +kernel
theorem dX5_goesOn_1 : decode cX5_goesOn 1 = .ok (.getfield 98, 3) := by decide +kernel
theorem dX5_goesOn_4 : decode cX5_goesOn 4 = .ok (.ifCond .ne 7, 3) := by decide +kernel
theorem dX5_goesOn_7 : decode cX5_goesOn 7 = .ok (.aload_n 0, 1) := by decide +kernel
theorem dX5_goesOn_8 : decode cX5_goesOn 8 = .ok (.invokevirtual 104, 3) := by decide +kernel
theorem dX5_goesOn_11 : decode cX5_goesOn 11 = .ok (.return_, 1) := by decide +kernel
theorem dX5_spelled_0 : decode cX5_spelled 0 = .ok (.iload_n 0, 1) := by decide +kernel
theorem dX5_spelled_1 : decode cX5_spelled 1 = .ok (.i2l, 1) := by decide +kernel
theorem dX5_spelled_2 : decode cX5_spelled 2 = .ok (.lstore 7, 2) := by decide +kernel
theorem dX5_spelled_4 : decode cX5_spelled 4 = .ok (.ldc2_w 88, 3) := by decide +kernel
theorem dX5_spelled_7 : decode cX5_spelled 7 = .ok (.lload 7, 2) := by decide +kernel
theorem dX5_spelled_9 : decode cX5_spelled 9 = .ok (.lmul, 1) := by decide +kernel
theorem dX5_spelled_10 : decode cX5_spelled 10 = .ok (.iload_n 1, 1) := by decide +kernel
theorem dX5_spelled_11 : decode cX5_spelled 11 = .ok (.i2l, 1) := by decide +kernel
theorem dX5_spelled_12 : decode cX5_spelled 12 = .ok (.ladd, 1) := by decide +kernel
theorem dX5_spelled_13 : decode cX5_spelled 13 = .ok (.lstore 7, 2) := by decide +kernel
theorem dX5_spelled_15 : decode cX5_spelled 15 = .ok (.ldc2_w 88, 3) := by decide +kernel
theorem dX5_spelled_18 : decode cX5_spelled 18 = .ok (.lload 7, 2) := by decide +kernel
theorem dX5_spelled_20 : decode cX5_spelled 20 = .ok (.lmul, 1) := by decide +kernel
theorem dX5_spelled_21 : decode cX5_spelled 21 = .ok (.iload_n 2, 1) := by decide +kernel
theorem dX5_spelled_22 : decode cX5_spelled 22 = .ok (.i2l, 1) := by decide +kernel
theorem dX5_spelled_23 : decode cX5_spelled 23 = .ok (.ladd, 1) := by decide +kernel
theorem dX5_spelled_24 : decode cX5_spelled 24 = .ok (.lstore 7, 2) := by decide +kernel
theorem dX5_spelled_26 : decode cX5_spelled 26 = .ok (.iload_n 3, 1) := by decide +kernel
theorem dX5_spelled_27 : decode cX5_spelled 27 = .ok (.ifCond .ne 8, 3) := by decide +kernel
theorem dX5_spelled_30 : decode cX5_spelled 30 = .ok (.lload 7, 2) := by decide +kernel
theorem dX5_spelled_32 : decode cX5_spelled 32 = .ok (.goto 12, 3) := by decide +kernel
theorem dX5_spelled_35 : decode cX5_spelled 35 = .ok (.ldc2_w 88, 3) := by decide +kernel
theorem dX5_spelled_38 : decode cX5_spelled 38 = .ok (.lload 7, 2) := by decide +kernel
theorem dX5_spelled_40 : decode cX5_spelled 40 = .ok (.lmul, 1) := by decide +kernel
theorem dX5_spelled_41 : decode cX5_spelled 41 = .ok (.iload_n 3, 1) := by decide +kernel
theorem dX5_spelled_42 : decode cX5_spelled 42 = .ok (.i2l, 1) := by decide +kernel
theorem dX5_spelled_43 : decode cX5_spelled 43 = .ok (.ladd, 1) := by decide +kernel
theorem dX5_spelled_44 : decode cX5_spelled 44 = .ok (.lstore 7, 2) := by decide +kernel
theorem dX5_spelled_46 : decode cX5_spelled 46 = .ok (.iload 4, 2) := by decide +kernel
theorem dX5_spelled_48 : decode cX5_spelled 48 = .ok (.ifCond .ne 8, 3) := by decide +kernel
theorem dX5_spelled_51 : decode cX5_spelled 51 = .ok (.lload 7, 2) := by decide +kernel
theorem dX5_spelled_53 : decode cX5_spelled 53 = .ok (.goto 13, 3) := by decide +kernel
theorem dX5_spelled_56 : decode cX5_spelled 56 = .ok (.ldc2_w 88, 3) := by decide +kernel
theorem dX5_spelled_59 : decode cX5_spelled 59 = .ok (.lload 7, 2) := by decide +kernel
theorem dX5_spelled_61 : decode cX5_spelled 61 = .ok (.lmul, 1) := by decide +kernel
theorem dX5_spelled_62 : decode cX5_spelled 62 = .ok (.iload 4, 2) := by decide +kernel
theorem dX5_spelled_64 : decode cX5_spelled 64 = .ok (.i2l, 1) := by decide +kernel
theorem dX5_spelled_65 : decode cX5_spelled 65 = .ok (.ladd, 1) := by decide +kernel
theorem dX5_spelled_66 : decode cX5_spelled 66 = .ok (.lstore 7, 2) := by decide +kernel
theorem dX5_spelled_68 : decode cX5_spelled 68 = .ok (.iload 5, 2) := by decide +kernel
theorem dX5_spelled_70 : decode cX5_spelled 70 = .ok (.ifCond .ne 8, 3) := by decide +kernel
theorem dX5_spelled_73 : decode cX5_spelled 73 = .ok (.lload 7, 2) := by decide +kernel
theorem dX5_spelled_75 : decode cX5_spelled 75 = .ok (.goto 13, 3) := by decide +kernel
theorem dX5_spelled_78 : decode cX5_spelled 78 = .ok (.ldc2_w 88, 3) := by decide +kernel
theorem dX5_spelled_81 : decode cX5_spelled 81 = .ok (.lload 7, 2) := by decide +kernel
theorem dX5_spelled_83 : decode cX5_spelled 83 = .ok (.lmul, 1) := by decide +kernel
theorem dX5_spelled_84 : decode cX5_spelled 84 = .ok (.iload 5, 2) := by decide +kernel
theorem dX5_spelled_86 : decode cX5_spelled 86 = .ok (.i2l, 1) := by decide +kernel
theorem dX5_spelled_87 : decode cX5_spelled 87 = .ok (.ladd, 1) := by decide +kernel
theorem dX5_spelled_88 : decode cX5_spelled 88 = .ok (.lstore 7, 2) := by decide +kernel
theorem dX5_spelled_90 : decode cX5_spelled 90 = .ok (.iload 6, 2) := by decide +kernel
theorem dX5_spelled_92 : decode cX5_spelled 92 = .ok (.ifCond .ne 8, 3) := by decide +kernel
theorem dX5_spelled_95 : decode cX5_spelled 95 = .ok (.lload 7, 2) := by decide +kernel
theorem dX5_spelled_97 : decode cX5_spelled 97 = .ok (.goto 13, 3) := by decide +kernel
theorem dX5_spelled_100 : decode cX5_spelled 100 = .ok (.ldc2_w 88, 3) := by decide +kernel
theorem dX5_spelled_103 : decode cX5_spelled 103 = .ok (.lload 7, 2) := by decide +kernel
theorem dX5_spelled_105 : decode cX5_spelled 105 = .ok (.lmul, 1) := by decide +kernel
theorem dX5_spelled_106 : decode cX5_spelled 106 = .ok (.iload 6, 2) := by decide +kernel
theorem dX5_spelled_108 : decode cX5_spelled 108 = .ok (.i2l, 1) := by decide +kernel
theorem dX5_spelled_109 : decode cX5_spelled 109 = .ok (.ladd, 1) := by decide +kernel
theorem dX5_spelled_110 : decode cX5_spelled 110 = .ok (.lreturn, 1) := by decide +kernel
theorem dX5_isWord_0 : decode cX5_isWord 0 = .ok (.aload_n 0, 1) := by decide +kernel
theorem dX5_isWord_1 : decode cX5_isWord 1 = .ok (.getfield 98, 3) := by decide +kernel
theorem dX5_isWord_4 : decode cX5_isWord 4 = .ok (.ifCond .ne 24, 3) := by decide +kernel
theorem dX5_isWord_7 : decode cX5_isWord 7 = .ok (.aload_n 0, 1) := by decide +kernel
theorem dX5_isWord_8 : decode cX5_isWord 8 = .ok (.getfield 77, 3) := by decide +kernel
theorem dX5_isWord_11 : decode cX5_isWord 11 = .ok (.iconst 1, 1) := by decide +kernel
theorem dX5_isWord_12 : decode cX5_isWord 12 = .ok (.if_icmp .ne 16, 3) := by decide +kernel
theorem dX5_isWord_15 : decode cX5_isWord 15 = .ok (.aload_n 0, 1) := by decide +kernel
theorem dX5_isWord_16 : decode cX5_isWord 16 = .ok (.getfield 84, 3) := by decide +kernel
theorem dX5_isWord_19 : decode cX5_isWord 19 = .ok (.lload_n 1, 1) := by decide +kernel
theorem dX5_isWord_20 : decode cX5_isWord 20 = .ok (.lcmp, 1) := by decide +kernel
theorem dX5_isWord_21 : decode cX5_isWord 21 = .ok (.ifCond .ne 7, 3) := by decide +kernel
theorem dX5_isWord_24 : decode cX5_isWord 24 = .ok (.iconst 1, 1) := by decide +kernel
theorem dX5_isWord_25 : decode cX5_isWord 25 = .ok (.goto 4, 3) := by decide +kernel
theorem dX5_isWord_28 : decode cX5_isWord 28 = .ok (.iconst 0, 1) := by decide +kernel
theorem dX5_isWord_29 : decode cX5_isWord 29 = .ok (.ireturn, 1) := by decide +kernel
theorem dX5_shipWord_0 : decode cX5_shipWord 0 = .ok (.bipush 19, 2) := by decide +kernel
theorem dX5_shipWord_2 : decode cX5_shipWord 2 = .ok (.bipush 8, 2) := by decide +kernel
theorem dX5_shipWord_4 : decode cX5_shipWord 4 = .ok (.bipush 9, 2) := by decide +kernel
theorem dX5_shipWord_6 : decode cX5_shipWord 6 = .ok (.bipush 16, 2) := by decide +kernel
theorem dX5_shipWord_8 : decode cX5_shipWord 8 = .ok (.iconst 0, 1) := by decide +kernel
theorem dX5_shipWord_9 : decode cX5_shipWord 9 = .ok (.iconst 0, 1) := by decide +kernel
theorem dX5_shipWord_10 : decode cX5_shipWord 10 = .ok (.iconst 0, 1) := by decide +kernel
theorem dX5_shipWord_11 : decode cX5_shipWord 11 = .ok (.invokestatic 107, 3) := by decide +kernel
theorem dX5_shipWord_14 : decode cX5_shipWord 14 = .ok (.lreturn, 1) := by decide +kernel
theorem dX5_tonsWord_0 : decode cX5_tonsWord 0 = .ok (.bipush 20, 2) := by decide +kernel
theorem dX5_tonsWord_2 : decode cX5_tonsWord 2 = .ok (.bipush 15, 2) := by decide +kernel
theorem dX5_tonsWord_4 : decode cX5_tonsWord 4 = .ok (.bipush 14, 2) := by decide +kernel
theorem dX5_tonsWord_6 : decode cX5_tonsWord 6 = .ok (.bipush 19, 2) := by decide +kernel
theorem dX5_tonsWord_8 : decode cX5_tonsWord 8 = .ok (.iconst 0, 1) := by decide +kernel
theorem dX5_tonsWord_9 : decode cX5_tonsWord 9 = .ok (.iconst 0, 1) := by decide +kernel
theorem dX5_tonsWord_10 : decode cX5_tonsWord 10 = .ok (.iconst 0, 1) := by decide +kernel
theorem dX5_tonsWord_11 : decode cX5_tonsWord 11 = .ok (.invokestatic 107, 3) := by decide +kernel
theorem dX5_tonsWord_14 : decode cX5_tonsWord 14 = .ok (.lreturn, 1) := by decide +kernel
theorem dX5_faultWord_0 : decode cX5_faultWord 0 = .ok (.bipush 6, 2) := by decide +kernel
theorem dX5_faultWord_2 : decode cX5_faultWord 2 = .ok (.iconst 1, 1) := by decide +kernel
theorem dX5_faultWord_3 : decode cX5_faultWord 3 = .ok (.bipush 21, 2) := by decide +kernel
theorem dX5_faultWord_5 : decode cX5_faultWord 5 = .ok (.bipush 12, 2) := by decide +kernel
theorem dX5_faultWord_7 : decode cX5_faultWord 7 = .ok (.bipush 20, 2) := by decide +kernel
theorem dX5_faultWord_9 : decode cX5_faultWord 9 = .ok (.iconst 0, 1) := by decide +kernel
theorem dX5_faultWord_10 : decode cX5_faultWord 10 = .ok (.iconst 0, 1) := by decide +kernel
theorem dX5_faultWord_11 : decode cX5_faultWord 11 = .ok (.invokestatic 107, 3) := by decide +kernel
theorem dX5_faultWord_14 : decode cX5_faultWord 14 = .ok (.lreturn, 1) := by decide +kernel
theorem dX5_hullWord_0 : decode cX5_hullWord 0 = .ok (.bipush 8, 2) := by decide +kernel
theorem dX5_hullWord_2 : decode cX5_hullWord 2 = .ok (.bipush 21, 2) := by decide +kernel
theorem dX5_hullWord_4 : decode cX5_hullWord 4 = .ok (.bipush 12, 2) := by decide +kernel
theorem dX5_hullWord_6 : decode cX5_hullWord 6 = .ok (.bipush 12, 2) := by decide +kernel
theorem dX5_hullWord_8 : decode cX5_hullWord 8 = .ok (.iconst 0, 1) := by decide +kernel
theorem dX5_hullWord_9 : decode cX5_hullWord 9 = .ok (.iconst 0, 1) := by decide +kernel
theorem dX5_hullWord_10 : decode cX5_hullWord 10 = .ok (.iconst 0, 1) := by decide +kernel
theorem dX5_hullWord_11 : decode cX5_hullWord 11 = .ok (.invokestatic 107, 3) := by decide +kernel
theorem dX5_hullWord_14 : decode cX5_hullWord 14 = .ok (.lreturn, 1) := by decide +kernel
theorem dX5_valueWord_0 : decode cX5_valueWord 0 = .ok (.bipush 22, 2) := by decide +kernel
theorem dX5_valueWord_2 : decode cX5_valueWord 2 = .ok (.iconst 1, 1) := by decide +kernel
theorem dX5_valueWord_3 : decode cX5_valueWord 3 = .ok (.bipush 12, 2) := by decide +kernel
theorem dX5_valueWord_5 : decode cX5_valueWord 5 = .ok (.bipush 21, 2) := by decide +kernel
theorem dX5_valueWord_7 : decode cX5_valueWord 7 = .ok (.iconst 5, 1) := by decide +kernel
theorem dX5_valueWord_8 : decode cX5_valueWord 8 = .ok (.iconst 0, 1) := by decide +kernel
theorem dX5_valueWord_9 : decode cX5_valueWord 9 = .ok (.iconst 0, 1) := by decide +kernel
theorem dX5_valueWord_10 : decode cX5_valueWord 10 = .ok (.invokestatic 107, 3) := by decide +kernel
theorem dX5_valueWord_13 : decode cX5_valueWord 13 = .ok (.lreturn, 1) := by decide +kernel
theorem dX5_clauseWord_0 : decode cX5_clauseWord 0 = .ok (.iconst 3, 1) := by decide +kernel
theorem dX5_clauseWord_1 : decode cX5_clauseWord 1 = .ok (.bipush 12, 2) := by decide +kernel
theorem dX5_clauseWord_3 : decode cX5_clauseWord 3 = .ok (.iconst 1, 1) := by decide +kernel
theorem dX5_clauseWord_4 : decode cX5_clauseWord 4 = .ok (.bipush 21, 2) := by decide +kernel
theorem dX5_clauseWord_6 : decode cX5_clauseWord 6 = .ok (.bipush 19, 2) := by decide +kernel
theorem dX5_clauseWord_8 : decode cX5_clauseWord 8 = .ok (.iconst 5, 1) := by decide +kernel
theorem dX5_clauseWord_9 : decode cX5_clauseWord 9 = .ok (.iconst 0, 1) := by decide +kernel
theorem dX5_clauseWord_10 : decode cX5_clauseWord 10 = .ok (.invokestatic 107, 3) := by decide +kernel
theorem dX5_clauseWord_13 : decode cX5_clauseWord 13 = .ok (.lreturn, 1) := by decide +kernel
theorem dX5_barredWord_0 : decode cX5_barredWord 0 = .ok (.iconst 2, 1) := by decide +kernel
theorem dX5_barredWord_1 : decode cX5_barredWord 1 = .ok (.iconst 1, 1) := by decide +kernel
theorem dX5_barredWord_2 : decode cX5_barredWord 2 = .ok (.bipush 18, 2) := by decide +kernel
theorem dX5_barredWord_4 : decode cX5_barredWord 4 = .ok (.bipush 18, 2) := by decide +kernel
theorem dX5_barredWord_6 : decode cX5_barredWord 6 = .ok (.iconst 5, 1) := by decide +kernel
theorem dX5_barredWord_7 : decode cX5_barredWord 7 = .ok (.iconst 4, 1) := by decide +kernel
theorem dX5_barredWord_8 : decode cX5_barredWord 8 = .ok (.iconst 0, 1) := by decide +kernel
theorem dX5_barredWord_9 : decode cX5_barredWord 9 = .ok (.invokestatic 107, 3) := by decide +kernel
theorem dX5_barredWord_12 : decode cX5_barredWord 12 = .ok (.lreturn, 1) := by decide +kernel
theorem dX5_goodsWord_0 : decode cX5_goodsWord 0 = .ok (.bipush 7, 2) := by decide +kernel
theorem dX5_goodsWord_2 : decode cX5_goodsWord 2 = .ok (.bipush 15, 2) := by decide +kernel
theorem dX5_goodsWord_4 : decode cX5_goodsWord 4 = .ok (.bipush 15, 2) := by decide +kernel
theorem dX5_goodsWord_6 : decode cX5_goodsWord 6 = .ok (.iconst 4, 1) := by decide +kernel
theorem dX5_goodsWord_7 : decode cX5_goodsWord 7 = .ok (.bipush 19, 2) := by decide +kernel
theorem dX5_goodsWord_9 : decode cX5_goodsWord 9 = .ok (.iconst 0, 1) := by decide +kernel
theorem dX5_goodsWord_10 : decode cX5_goodsWord 10 = .ok (.iconst 0, 1) := by decide +kernel
theorem dX5_goodsWord_11 : decode cX5_goodsWord 11 = .ok (.invokestatic 107, 3) := by decide +kernel
theorem dX5_goodsWord_14 : decode cX5_goodsWord 14 = .ok (.lreturn, 1) := by decide +kernel
theorem dX5_personsWord_0 : decode cX5_personsWord 0 = .ok (.bipush 16, 2) := by decide +kernel
theorem dX5_personsWord_2 : decode cX5_personsWord 2 = .ok (.iconst 5, 1) := by decide +kernel
theorem dX5_personsWord_3 : decode cX5_personsWord 3 = .ok (.bipush 18, 2) := by decide +kernel
theorem dX5_personsWord_5 : decode cX5_personsWord 5 = .ok (.bipush 19, 2) := by decide +kernel
theorem dX5_personsWord_7 : decode cX5_personsWord 7 = .ok (.bipush 15, 2) := by decide +kernel
theorem dX5_personsWord_9 : decode cX5_personsWord 9 = .ok (.bipush 14, 2) := by decide +kernel
theorem dX5_personsWord_11 : decode cX5_personsWord 11 = .ok (.bipush 19, 2) := by decide +kernel
theorem dX5_personsWord_13 : decode cX5_personsWord 13 = .ok (.invokestatic 107, 3) := by decide +kernel
theorem dX5_personsWord_16 : decode cX5_personsWord 16 = .ok (.lreturn, 1) := by decide +kernel
theorem dX5_othersWord_0 : decode cX5_othersWord 0 = .ok (.bipush 15, 2) := by decide +kernel
theorem dX5_othersWord_2 : decode cX5_othersWord 2 = .ok (.bipush 20, 2) := by decide +kernel
theorem dX5_othersWord_4 : decode cX5_othersWord 4 = .ok (.bipush 8, 2) := by decide +kernel
theorem dX5_othersWord_6 : decode cX5_othersWord 6 = .ok (.iconst 5, 1) := by decide +kernel
theorem dX5_othersWord_7 : decode cX5_othersWord 7 = .ok (.bipush 18, 2) := by decide +kernel
theorem dX5_othersWord_9 : decode cX5_othersWord 9 = .ok (.bipush 19, 2) := by decide +kernel
theorem dX5_othersWord_11 : decode cX5_othersWord 11 = .ok (.iconst 0, 1) := by decide +kernel
theorem dX5_othersWord_12 : decode cX5_othersWord 12 = .ok (.invokestatic 107, 3) := by decide +kernel
theorem dX5_othersWord_15 : decode cX5_othersWord 15 = .ok (.lreturn, 1) := by decide +kernel
theorem dX5_dayWord_0 : decode cX5_dayWord 0 = .ok (.iconst 4, 1) := by decide +kernel
theorem dX5_dayWord_1 : decode cX5_dayWord 1 = .ok (.iconst 1, 1) := by decide +kernel
theorem dX5_dayWord_2 : decode cX5_dayWord 2 = .ok (.bipush 25, 2) := by decide +kernel
theorem dX5_dayWord_4 : decode cX5_dayWord 4 = .ok (.iconst 0, 1) := by decide +kernel
theorem dX5_dayWord_5 : decode cX5_dayWord 5 = .ok (.iconst 0, 1) := by decide +kernel
theorem dX5_dayWord_6 : decode cX5_dayWord 6 = .ok (.iconst 0, 1) := by decide +kernel
theorem dX5_dayWord_7 : decode cX5_dayWord 7 = .ok (.iconst 0, 1) := by decide +kernel
theorem dX5_dayWord_8 : decode cX5_dayWord 8 = .ok (.invokestatic 107, 3) := by decide +kernel
theorem dX5_dayWord_11 : decode cX5_dayWord 11 = .ok (.lreturn, 1) := by decide +kernel
theorem dX5_aboutWord_0 : decode cX5_aboutWord 0 = .ok (.iload_n 0, 1) := by decide +kernel
theorem dX5_aboutWord_1 : decode cX5_aboutWord 1 = .ok (.tableswitch 141 2 8 #[43, 57, 72, 87, 100, 115, 129], 43) := by decide +kernel
theorem dX5_aboutWord_44 : decode cX5_aboutWord 44 = .ok (.iconst 5, 1) := by decide +kernel
theorem dX5_aboutWord_45 : decode cX5_aboutWord 45 = .ok (.bipush 17, 2) := by decide +kernel
theorem dX5_aboutWord_47 : decode cX5_aboutWord 47 = .ok (.bipush 21, 2) := by decide +kernel
theorem dX5_aboutWord_49 : decode cX5_aboutWord 49 = .ok (.iconst 1, 1) := by decide +kernel
theorem dX5_aboutWord_50 : decode cX5_aboutWord 50 = .ok (.bipush 12, 2) := by decide +kernel
theorem dX5_aboutWord_52 : decode cX5_aboutWord 52 = .ok (.iconst 0, 1) := by decide +kernel
theorem dX5_aboutWord_53 : decode cX5_aboutWord 53 = .ok (.iconst 0, 1) := by decide +kernel
theorem dX5_aboutWord_54 : decode cX5_aboutWord 54 = .ok (.invokestatic 107, 3) := by decide +kernel
theorem dX5_aboutWord_57 : decode cX5_aboutWord 57 = .ok (.lreturn, 1) := by decide +kernel
theorem dX5_aboutWord_58 : decode cX5_aboutWord 58 = .ok (.bipush 23, 2) := by decide +kernel
theorem dX5_aboutWord_60 : decode cX5_aboutWord 60 = .ok (.bipush 8, 2) := by decide +kernel
theorem dX5_aboutWord_62 : decode cX5_aboutWord 62 = .ok (.bipush 15, 2) := by decide +kernel
theorem dX5_aboutWord_64 : decode cX5_aboutWord 64 = .ok (.bipush 12, 2) := by decide +kernel
theorem dX5_aboutWord_66 : decode cX5_aboutWord 66 = .ok (.iconst 5, 1) := by decide +kernel
theorem dX5_aboutWord_67 : decode cX5_aboutWord 67 = .ok (.iconst 0, 1) := by decide +kernel
theorem dX5_aboutWord_68 : decode cX5_aboutWord 68 = .ok (.iconst 0, 1) := by decide +kernel
theorem dX5_aboutWord_69 : decode cX5_aboutWord 69 = .ok (.invokestatic 107, 3) := by decide +kernel
theorem dX5_aboutWord_72 : decode cX5_aboutWord 72 = .ok (.lreturn, 1) := by decide +kernel
theorem dX5_aboutWord_73 : decode cX5_aboutWord 73 = .ok (.iconst 3, 1) := by decide +kernel
theorem dX5_aboutWord_74 : decode cX5_aboutWord 74 = .ok (.bipush 18, 2) := by decide +kernel
theorem dX5_aboutWord_76 : decode cX5_aboutWord 76 = .ok (.bipush 15, 2) := by decide +kernel
theorem dX5_aboutWord_78 : decode cX5_aboutWord 78 = .ok (.bipush 19, 2) := by decide +kernel
theorem dX5_aboutWord_80 : decode cX5_aboutWord 80 = .ok (.bipush 19, 2) := by decide +kernel
theorem dX5_aboutWord_82 : decode cX5_aboutWord 82 = .ok (.iconst 0, 1) := by decide +kernel
theorem dX5_aboutWord_83 : decode cX5_aboutWord 83 = .ok (.iconst 0, 1) := by decide +kernel
theorem dX5_aboutWord_84 : decode cX5_aboutWord 84 = .ok (.invokestatic 107, 3) := by decide +kernel
theorem dX5_aboutWord_87 : decode cX5_aboutWord 87 = .ok (.lreturn, 1) := by decide +kernel
theorem dX5_aboutWord_88 : decode cX5_aboutWord 88 = .ok (.bipush 18, 2) := by decide +kernel
theorem dX5_aboutWord_90 : decode cX5_aboutWord 90 = .ok (.iconst 1, 1) := by decide +kernel
theorem dX5_aboutWord_91 : decode cX5_aboutWord 91 = .ok (.bipush 20, 2) := by decide +kernel
theorem dX5_aboutWord_93 : decode cX5_aboutWord 93 = .ok (.iconst 5, 1) := by decide +kernel
theorem dX5_aboutWord_94 : decode cX5_aboutWord 94 = .ok (.iconst 0, 1) := by decide +kernel
theorem dX5_aboutWord_95 : decode cX5_aboutWord 95 = .ok (.iconst 0, 1) := by decide +kernel
theorem dX5_aboutWord_96 : decode cX5_aboutWord 96 = .ok (.iconst 0, 1) := by decide +kernel
theorem dX5_aboutWord_97 : decode cX5_aboutWord 97 = .ok (.invokestatic 107, 3) := by decide +kernel
theorem dX5_aboutWord_100 : decode cX5_aboutWord 100 = .ok (.lreturn, 1) := by decide +kernel
theorem dX5_aboutWord_101 : decode cX5_aboutWord 101 = .ok (.bipush 12, 2) := by decide +kernel
theorem dX5_aboutWord_103 : decode cX5_aboutWord 103 = .ok (.bipush 9, 2) := by decide +kernel
theorem dX5_aboutWord_105 : decode cX5_aboutWord 105 = .ok (.bipush 22, 2) := by decide +kernel
theorem dX5_aboutWord_107 : decode cX5_aboutWord 107 = .ok (.iconst 5, 1) := by decide +kernel
theorem dX5_aboutWord_108 : decode cX5_aboutWord 108 = .ok (.bipush 19, 2) := by decide +kernel
theorem dX5_aboutWord_110 : decode cX5_aboutWord 110 = .ok (.iconst 0, 1) := by decide +kernel
theorem dX5_aboutWord_111 : decode cX5_aboutWord 111 = .ok (.iconst 0, 1) := by decide +kernel
theorem dX5_aboutWord_112 : decode cX5_aboutWord 112 = .ok (.invokestatic 107, 3) := by decide +kernel
theorem dX5_aboutWord_115 : decode cX5_aboutWord 115 = .ok (.lreturn, 1) := by decide +kernel
theorem dX5_aboutWord_116 : decode cX5_aboutWord 116 = .ok (.bipush 12, 2) := by decide +kernel
theorem dX5_aboutWord_118 : decode cX5_aboutWord 118 = .ok (.iconst 5, 1) := by decide +kernel
theorem dX5_aboutWord_119 : decode cX5_aboutWord 119 = .ok (.iconst 1, 1) := by decide +kernel
theorem dX5_aboutWord_120 : decode cX5_aboutWord 120 = .ok (.bipush 19, 2) := by decide +kernel
theorem dX5_aboutWord_122 : decode cX5_aboutWord 122 = .ok (.bipush 20, 2) := by decide +kernel
theorem dX5_aboutWord_124 : decode cX5_aboutWord 124 = .ok (.iconst 0, 1) := by decide +kernel
theorem dX5_aboutWord_125 : decode cX5_aboutWord 125 = .ok (.iconst 0, 1) := by decide +kernel
theorem dX5_aboutWord_126 : decode cX5_aboutWord 126 = .ok (.invokestatic 107, 3) := by decide +kernel
theorem dX5_aboutWord_129 : decode cX5_aboutWord 129 = .ok (.lreturn, 1) := by decide +kernel
theorem dX5_aboutWord_130 : decode cX5_aboutWord 130 = .ok (.iconst 4, 1) := by decide +kernel
theorem dX5_aboutWord_131 : decode cX5_aboutWord 131 = .ok (.bipush 21, 2) := by decide +kernel
theorem dX5_aboutWord_133 : decode cX5_aboutWord 133 = .ok (.iconst 5, 1) := by decide +kernel
theorem dX5_aboutWord_134 : decode cX5_aboutWord 134 = .ok (.iconst 0, 1) := by decide +kernel
theorem dX5_aboutWord_135 : decode cX5_aboutWord 135 = .ok (.iconst 0, 1) := by decide +kernel
theorem dX5_aboutWord_136 : decode cX5_aboutWord 136 = .ok (.iconst 0, 1) := by decide +kernel
theorem dX5_aboutWord_137 : decode cX5_aboutWord 137 = .ok (.iconst 0, 1) := by decide +kernel
theorem dX5_aboutWord_138 : decode cX5_aboutWord 138 = .ok (.invokestatic 107, 3) := by decide +kernel
theorem dX5_aboutWord_141 : decode cX5_aboutWord 141 = .ok (.lreturn, 1) := by decide +kernel
theorem dX5_aboutWord_142 : decode cX5_aboutWord 142 = .ok (.bipush 12, 2) := by decide +kernel
theorem dX5_aboutWord_144 : decode cX5_aboutWord 144 = .ok (.iconst 1, 1) := by decide +kernel
theorem dX5_aboutWord_145 : decode cX5_aboutWord 145 = .ok (.bipush 19, 2) := by decide +kernel
theorem dX5_aboutWord_147 : decode cX5_aboutWord 147 = .ok (.bipush 20, 2) := by decide +kernel
theorem dX5_aboutWord_149 : decode cX5_aboutWord 149 = .ok (.iconst 0, 1) := by decide +kernel
theorem dX5_aboutWord_150 : decode cX5_aboutWord 150 = .ok (.iconst 0, 1) := by decide +kernel
theorem dX5_aboutWord_151 : decode cX5_aboutWord 151 = .ok (.iconst 0, 1) := by decide +kernel
theorem dX5_aboutWord_152 : decode cX5_aboutWord 152 = .ok (.invokestatic 107, 3) := by decide +kernel
theorem dX5_aboutWord_155 : decode cX5_aboutWord 155 = .ok (.lreturn, 1) := by decide +kernel
theorem dX5_aboutHere_0 : decode cX5_aboutHere 0 = .ok (.iconst 2, 1) := by decide +kernel
theorem dX5_aboutHere_1 : decode cX5_aboutHere 1 = .ok (.istore_n 1, 1) := by decide +kernel
theorem dX5_aboutHere_2 : decode cX5_aboutHere 2 = .ok (.iload_n 1, 1) := by decide +kernel
theorem dX5_aboutHere_3 : decode cX5_aboutHere 3 = .ok (.bipush 9, 2) := by decide +kernel
theorem dX5_aboutHere_5 : decode cX5_aboutHere 5 = .ok (.if_icmp .gt 22, 3) := by decide +kernel
theorem dX5_aboutHere_8 : decode cX5_aboutHere 8 = .ok (.aload_n 0, 1) := by decide +kernel
theorem dX5_aboutHere_9 : decode cX5_aboutHere 9 = .ok (.iload_n 1, 1) := by decide +kernel
theorem dX5_aboutHere_10 : decode cX5_aboutHere 10 = .ok (.invokestatic 111, 3) := by decide +kernel
theorem dX5_aboutHere_13 : decode cX5_aboutHere 13 = .ok (.invokevirtual 115, 3) := by decide +kernel
theorem dX5_aboutHere_16 : decode cX5_aboutHere 16 = .ok (.ifCond .eq 5, 3) := by decide +kernel
theorem dX5_aboutHere_19 : decode cX5_aboutHere 19 = .ok (.iload_n 1, 1) := by decide +kernel
theorem dX5_aboutHere_20 : decode cX5_aboutHere 20 = .ok (.ireturn, 1) := by decide +kernel
theorem dX5_aboutHere_21 : decode cX5_aboutHere 21 = .ok (.iinc 1 1, 3) := by decide +kernel
theorem dX5_aboutHere_24 : decode cX5_aboutHere 24 = .ok (.goto (-22), 3) := by decide +kernel
theorem dX5_aboutHere_27 : decode cX5_aboutHere 27 = .ok (.iconst (-1), 1) := by decide +kernel
theorem dX5_aboutHere_28 : decode cX5_aboutHere 28 = .ok (.ireturn, 1) := by decide +kernel
theorem dX5_isName_0 : decode cX5_isName 0 = .ok (.aload_n 0, 1) := by decide +kernel
theorem dX5_isName_1 : decode cX5_isName 1 = .ok (.getfield 98, 3) := by decide +kernel
theorem dX5_isName_4 : decode cX5_isName 4 = .ok (.ifCond .ne 28, 3) := by decide +kernel
theorem dX5_isName_7 : decode cX5_isName 7 = .ok (.aload_n 0, 1) := by decide +kernel
theorem dX5_isName_8 : decode cX5_isName 8 = .ok (.getfield 77, 3) := by decide +kernel
theorem dX5_isName_11 : decode cX5_isName 11 = .ok (.iconst 1, 1) := by decide +kernel
theorem dX5_isName_12 : decode cX5_isName 12 = .ok (.if_icmp .ne 20, 3) := by decide +kernel
theorem dX5_isName_15 : decode cX5_isName 15 = .ok (.aload_n 0, 1) := by decide +kernel
theorem dX5_isName_16 : decode cX5_isName 16 = .ok (.getfield 74, 3) := by decide +kernel
theorem dX5_isName_19 : decode cX5_isName 19 = .ok (.bipush 6, 2) := by decide +kernel
theorem dX5_isName_21 : decode cX5_isName 21 = .ok (.if_icmp .gt 11, 3) := by decide +kernel
theorem dX5_isName_24 : decode cX5_isName 24 = .ok (.aload_n 0, 1) := by decide +kernel
theorem dX5_isName_25 : decode cX5_isName 25 = .ok (.invokevirtual 119, 3) := by decide +kernel
theorem dX5_isName_28 : decode cX5_isName 28 = .ok (.iconst (-1), 1) := by decide +kernel
theorem dX5_isName_29 : decode cX5_isName 29 = .ok (.if_icmp .eq 5, 3) := by decide +kernel
theorem dX5_isName_32 : decode cX5_isName 32 = .ok (.iconst 0, 1) := by decide +kernel
theorem dX5_isName_33 : decode cX5_isName 33 = .ok (.ireturn, 1) := by decide +kernel
theorem dX5_isName_34 : decode cX5_isName 34 = .ok (.aload_n 0, 1) := by decide +kernel
theorem dX5_isName_35 : decode cX5_isName 35 = .ok (.invokestatic 123, 3) := by decide +kernel
theorem dX5_isName_38 : decode cX5_isName 38 = .ok (.invokevirtual 115, 3) := by decide +kernel
theorem dX5_isName_41 : decode cX5_isName 41 = .ok (.ifCond .ne 43, 3) := by decide +kernel
theorem dX5_isName_44 : decode cX5_isName 44 = .ok (.aload_n 0, 1) := by decide +kernel
theorem dX5_isName_45 : decode cX5_isName 45 = .ok (.invokestatic 127, 3) := by decide +kernel
theorem dX5_isName_48 : decode cX5_isName 48 = .ok (.invokevirtual 115, 3) := by decide +kernel
theorem dX5_isName_51 : decode cX5_isName 51 = .ok (.ifCond .ne 33, 3) := by decide +kernel
theorem dX5_isName_54 : decode cX5_isName 54 = .ok (.aload_n 0, 1) := by decide +kernel
theorem dX5_isName_55 : decode cX5_isName 55 = .ok (.invokestatic 130, 3) := by decide +kernel
theorem dX5_isName_58 : decode cX5_isName 58 = .ok (.invokevirtual 115, 3) := by decide +kernel
theorem dX5_isName_61 : decode cX5_isName 61 = .ok (.ifCond .ne 23, 3) := by decide +kernel
theorem dX5_isName_64 : decode cX5_isName 64 = .ok (.aload_n 0, 1) := by decide +kernel
theorem dX5_isName_65 : decode cX5_isName 65 = .ok (.invokestatic 133, 3) := by decide +kernel
theorem dX5_isName_68 : decode cX5_isName 68 = .ok (.invokevirtual 115, 3) := by decide +kernel
theorem dX5_isName_71 : decode cX5_isName 71 = .ok (.ifCond .ne 13, 3) := by decide +kernel
theorem dX5_isName_74 : decode cX5_isName 74 = .ok (.aload_n 0, 1) := by decide +kernel
theorem dX5_isName_75 : decode cX5_isName 75 = .ok (.invokestatic 136, 3) := by decide +kernel
theorem dX5_isName_78 : decode cX5_isName 78 = .ok (.invokevirtual 115, 3) := by decide +kernel
theorem dX5_isName_81 : decode cX5_isName 81 = .ok (.ifCond .eq 5, 3) := by decide +kernel
theorem dX5_isName_84 : decode cX5_isName 84 = .ok (.iconst 0, 1) := by decide +kernel
theorem dX5_isName_85 : decode cX5_isName 85 = .ok (.ireturn, 1) := by decide +kernel
theorem dX5_isName_86 : decode cX5_isName 86 = .ok (.aload_n 0, 1) := by decide +kernel
theorem dX5_isName_87 : decode cX5_isName 87 = .ok (.invokestatic 139, 3) := by decide +kernel
theorem dX5_isName_90 : decode cX5_isName 90 = .ok (.invokevirtual 115, 3) := by decide +kernel
theorem dX5_isName_93 : decode cX5_isName 93 = .ok (.ifCond .ne 47, 3) := by decide +kernel
theorem dX5_isName_96 : decode cX5_isName 96 = .ok (.aload_n 0, 1) := by decide +kernel
theorem dX5_isName_97 : decode cX5_isName 97 = .ok (.invokestatic 142, 3) := by decide +kernel
theorem dX5_isName_100 : decode cX5_isName 100 = .ok (.invokevirtual 115, 3) := by decide +kernel
theorem dX5_isName_103 : decode cX5_isName 103 = .ok (.ifCond .ne 37, 3) := by decide +kernel
theorem dX5_isName_106 : decode cX5_isName 106 = .ok (.aload_n 0, 1) := by decide +kernel
theorem dX5_isName_107 : decode cX5_isName 107 = .ok (.invokestatic 145, 3) := by decide +kernel
theorem dX5_isName_110 : decode cX5_isName 110 = .ok (.invokevirtual 115, 3) := by decide +kernel
theorem dX5_isName_113 : decode cX5_isName 113 = .ok (.ifCond .ne 27, 3) := by decide +kernel
theorem dX5_isName_116 : decode cX5_isName 116 = .ok (.aload_n 0, 1) := by decide +kernel
theorem dX5_isName_117 : decode cX5_isName 117 = .ok (.invokestatic 148, 3) := by decide +kernel
theorem dX5_isName_120 : decode cX5_isName 120 = .ok (.invokevirtual 115, 3) := by decide +kernel
theorem dX5_isName_123 : decode cX5_isName 123 = .ok (.ifCond .ne 17, 3) := by decide +kernel
theorem dX5_isName_126 : decode cX5_isName 126 = .ok (.aload_n 0, 1) := by decide +kernel
theorem dX5_isName_127 : decode cX5_isName 127 = .ok (.invokestatic 151, 3) := by decide +kernel
theorem dX5_isName_130 : decode cX5_isName 130 = .ok (.invokevirtual 115, 3) := by decide +kernel
theorem dX5_isName_133 : decode cX5_isName 133 = .ok (.ifCond .ne 7, 3) := by decide +kernel
theorem dX5_isName_136 : decode cX5_isName 136 = .ok (.iconst 1, 1) := by decide +kernel
theorem dX5_isName_137 : decode cX5_isName 137 = .ok (.goto 4, 3) := by decide +kernel
theorem dX5_isName_140 : decode cX5_isName 140 = .ok (.iconst 0, 1) := by decide +kernel
theorem dX5_isName_141 : decode cX5_isName 141 = .ok (.ireturn, 1) := by decide +kernel
theorem dX5_shipNamed_0 : decode cX5_shipNamed 0 = .ok (.iconst 0, 1) := by decide +kernel
theorem dX5_shipNamed_1 : decode cX5_shipNamed 1 = .ok (.istore_n 1, 1) := by decide +kernel
theorem dX5_shipNamed_2 : decode cX5_shipNamed 2 = .ok (.iload_n 1, 1) := by decide +kernel
theorem dX5_shipNamed_3 : decode cX5_shipNamed 3 = .ok (.aload_n 0, 1) := by decide +kernel
theorem dX5_shipNamed_4 : decode cX5_shipNamed 4 = .ok (.getfield 20, 3) := by decide +kernel
theorem dX5_shipNamed_7 : decode cX5_shipNamed 7 = .ok (.iconst 0, 1) := by decide +kernel
theorem dX5_shipNamed_8 : decode cX5_shipNamed 8 = .ok (.iaload, 1) := by decide +kernel
theorem dX5_shipNamed_9 : decode cX5_shipNamed 9 = .ok (.if_icmp .ge 25, 3) := by decide +kernel
theorem dX5_shipNamed_12 : decode cX5_shipNamed 12 = .ok (.aload_n 0, 1) := by decide +kernel
theorem dX5_shipNamed_13 : decode cX5_shipNamed 13 = .ok (.getfield 37, 3) := by decide +kernel
theorem dX5_shipNamed_16 : decode cX5_shipNamed 16 = .ok (.iload_n 1, 1) := by decide +kernel
theorem dX5_shipNamed_17 : decode cX5_shipNamed 17 = .ok (.laload, 1) := by decide +kernel
theorem dX5_shipNamed_18 : decode cX5_shipNamed 18 = .ok (.aload_n 0, 1) := by decide +kernel
theorem dX5_shipNamed_19 : decode cX5_shipNamed 19 = .ok (.getfield 84, 3) := by decide +kernel
theorem dX5_shipNamed_22 : decode cX5_shipNamed 22 = .ok (.lcmp, 1) := by decide +kernel
theorem dX5_shipNamed_23 : decode cX5_shipNamed 23 = .ok (.ifCond .ne 5, 3) := by decide +kernel
theorem dX5_shipNamed_26 : decode cX5_shipNamed 26 = .ok (.iload_n 1, 1) := by decide +kernel
theorem dX5_shipNamed_27 : decode cX5_shipNamed 27 = .ok (.ireturn, 1) := by decide +kernel
theorem dX5_shipNamed_28 : decode cX5_shipNamed 28 = .ok (.iinc 1 1, 3) := by decide +kernel
theorem dX5_shipNamed_31 : decode cX5_shipNamed 31 = .ok (.goto (-29), 3) := by decide +kernel
theorem dX5_shipNamed_34 : decode cX5_shipNamed 34 = .ok (.iconst (-1), 1) := by decide +kernel
theorem dX5_shipNamed_35 : decode cX5_shipNamed 35 = .ok (.ireturn, 1) := by decide +kernel
theorem dX5_takes_0 : decode cX5_takes 0 = .ok (.aload_n 0, 1) := by decide +kernel
theorem dX5_takes_1 : decode cX5_takes 1 = .ok (.lload_n 1, 1) := by decide +kernel
theorem dX5_takes_2 : decode cX5_takes 2 = .ok (.invokevirtual 115, 3) := by decide +kernel
theorem dX5_takes_5 : decode cX5_takes 5 = .ok (.ifCond .ne 8, 3) := by decide +kernel
theorem dX5_takes_8 : decode cX5_takes 8 = .ok (.aload_n 0, 1) := by decide +kernel
theorem dX5_takes_9 : decode cX5_takes 9 = .ok (.iconst 1, 1) := by decide +kernel
theorem dX5_takes_10 : decode cX5_takes 10 = .ok (.invokevirtual 154, 3) := by decide +kernel
theorem dX5_takes_13 : decode cX5_takes 13 = .ok (.aload_n 0, 1) := by decide +kernel
theorem dX5_takes_14 : decode cX5_takes 14 = .ok (.invokevirtual 158, 3) := by decide +kernel
theorem dX5_takes_17 : decode cX5_takes 17 = .ok (.return_, 1) := by decide +kernel
theorem dX5_whole_0 : decode cX5_whole 0 = .ok (.aload_n 0, 1) := by decide +kernel
theorem dX5_whole_1 : decode cX5_whole 1 = .ok (.getfield 77, 3) := by decide +kernel
theorem dX5_whole_4 : decode cX5_whole 4 = .ok (.iconst 2, 1) := by decide +kernel
theorem dX5_whole_5 : decode cX5_whole 5 = .ok (.if_icmp .eq 11, 3) := by decide +kernel
theorem dX5_whole_8 : decode cX5_whole 8 = .ok (.aload_n 0, 1) := by decide +kernel
theorem dX5_whole_9 : decode cX5_whole 9 = .ok (.iconst 1, 1) := by decide +kernel
theorem dX5_whole_10 : decode cX5_whole 10 = .ok (.invokevirtual 154, 3) := by decide +kernel
theorem dX5_whole_13 : decode cX5_whole 13 = .ok (.goto 23, 3) := by decide +kernel
theorem dX5_whole_16 : decode cX5_whole 16 = .ok (.aload_n 0, 1) := by decide +kernel
theorem dX5_whole_17 : decode cX5_whole 17 = .ok (.getfield 95, 3) := by decide +kernel
theorem dX5_whole_20 : decode cX5_whole 20 = .ok (.i2l, 1) := by decide +kernel
theorem dX5_whole_21 : decode cX5_whole 21 = .ok (.iload_n 1, 1) := by decide +kernel
theorem dX5_whole_22 : decode cX5_whole 22 = .ok (.i2l, 1) := by decide +kernel
theorem dX5_whole_23 : decode cX5_whole 23 = .ok (.iload_n 2, 1) := by decide +kernel
theorem dX5_whole_24 : decode cX5_whole 24 = .ok (.i2l, 1) := by decide +kernel
theorem dX5_whole_25 : decode cX5_whole 25 = .ok (.invokestatic 161, 3) := by decide +kernel
theorem dX5_whole_28 : decode cX5_whole 28 = .ok (.ifCond .ne 8, 3) := by decide +kernel
theorem dX5_whole_31 : decode cX5_whole 31 = .ok (.aload_n 0, 1) := by decide +kernel
theorem dX5_whole_32 : decode cX5_whole 32 = .ok (.iconst 2, 1) := by decide +kernel
theorem dX5_whole_33 : decode cX5_whole 33 = .ok (.invokevirtual 154, 3) := by decide +kernel
theorem dX5_whole_36 : decode cX5_whole 36 = .ok (.aload_n 0, 1) := by decide +kernel
theorem dX5_whole_37 : decode cX5_whole 37 = .ok (.getfield 95, 3) := by decide +kernel
theorem dX5_whole_40 : decode cX5_whole 40 = .ok (.istore_n 3, 1) := by decide +kernel
theorem dX5_whole_41 : decode cX5_whole 41 = .ok (.aload_n 0, 1) := by decide +kernel
theorem dX5_whole_42 : decode cX5_whole 42 = .ok (.invokevirtual 158, 3) := by decide +kernel
theorem dX5_whole_45 : decode cX5_whole 45 = .ok (.iload_n 3, 1) := by decide +kernel
theorem dX5_whole_46 : decode cX5_whole 46 = .ok (.ireturn, 1) := by decide +kernel
theorem dX5_shipLine_0 : decode cX5_shipLine 0 = .ok (.aload_n 0, 1) := by decide +kernel
theorem dX5_shipLine_1 : decode cX5_shipLine 1 = .ok (.getfield 20, 3) := by decide +kernel
theorem dX5_shipLine_4 : decode cX5_shipLine 4 = .ok (.iconst 0, 1) := by decide +kernel
theorem dX5_shipLine_5 : decode cX5_shipLine 5 = .ok (.iaload, 1) := by decide +kernel
theorem dX5_shipLine_6 : decode cX5_shipLine 6 = .ok (.istore_n 1, 1) := by decide +kernel
theorem dX5_shipLine_7 : decode cX5_shipLine 7 = .ok (.iload_n 1, 1) := by decide +kernel
theorem dX5_shipLine_8 : decode cX5_shipLine 8 = .ok (.iconst 4, 1) := by decide +kernel
theorem dX5_shipLine_9 : decode cX5_shipLine 9 = .ok (.if_icmp .ne 8, 3) := by decide +kernel
theorem dX5_shipLine_12 : decode cX5_shipLine 12 = .ok (.aload_n 0, 1) := by decide +kernel
theorem dX5_shipLine_13 : decode cX5_shipLine 13 = .ok (.iconst 4, 1) := by decide +kernel
theorem dX5_shipLine_14 : decode cX5_shipLine 14 = .ok (.invokevirtual 154, 3) := by decide +kernel
theorem dX5_shipLine_17 : decode cX5_shipLine 17 = .ok (.aload_n 0, 1) := by decide +kernel
theorem dX5_shipLine_18 : decode cX5_shipLine 18 = .ok (.invokevirtual 158, 3) := by decide +kernel
theorem dX5_shipLine_21 : decode cX5_shipLine 21 = .ok (.aload_n 0, 1) := by decide +kernel
theorem dX5_shipLine_22 : decode cX5_shipLine 22 = .ok (.invokevirtual 165, 3) := by decide +kernel
theorem dX5_shipLine_25 : decode cX5_shipLine 25 = .ok (.ifCond .ne 11, 3) := by decide +kernel
theorem dX5_shipLine_28 : decode cX5_shipLine 28 = .ok (.aload_n 0, 1) := by decide +kernel
theorem dX5_shipLine_29 : decode cX5_shipLine 29 = .ok (.iconst 1, 1) := by decide +kernel
theorem dX5_shipLine_30 : decode cX5_shipLine 30 = .ok (.invokevirtual 154, 3) := by decide +kernel
theorem dX5_shipLine_33 : decode cX5_shipLine 33 = .ok (.goto 16, 3) := by decide +kernel
theorem dX5_shipLine_36 : decode cX5_shipLine 36 = .ok (.aload_n 0, 1) := by decide +kernel
theorem dX5_shipLine_37 : decode cX5_shipLine 37 = .ok (.invokevirtual 169, 3) := by decide +kernel
theorem dX5_shipLine_40 : decode cX5_shipLine 40 = .ok (.iconst (-1), 1) := by decide +kernel
theorem dX5_shipLine_41 : decode cX5_shipLine 41 = .ok (.if_icmp .eq 8, 3) := by decide +kernel
theorem dX5_shipLine_44 : decode cX5_shipLine 44 = .ok (.aload_n 0, 1) := by decide +kernel
theorem dX5_shipLine_45 : decode cX5_shipLine 45 = .ok (.iconst 3, 1) := by decide +kernel
theorem dX5_shipLine_46 : decode cX5_shipLine 46 = .ok (.invokevirtual 154, 3) := by decide +kernel
theorem dX5_shipLine_49 : decode cX5_shipLine 49 = .ok (.aload_n 0, 1) := by decide +kernel
theorem dX5_shipLine_50 : decode cX5_shipLine 50 = .ok (.getfield 98, 3) := by decide +kernel
theorem dX5_shipLine_53 : decode cX5_shipLine 53 = .ok (.ifCond .eq 4, 3) := by decide +kernel
theorem dX5_shipLine_56 : decode cX5_shipLine 56 = .ok (.return_, 1) := by decide +kernel
theorem dX5_shipLine_57 : decode cX5_shipLine 57 = .ok (.aload_n 0, 1) := by decide +kernel
theorem dX5_shipLine_58 : decode cX5_shipLine 58 = .ok (.getfield 37, 3) := by decide +kernel
theorem dX5_shipLine_61 : decode cX5_shipLine 61 = .ok (.iload_n 1, 1) := by decide +kernel
theorem dX5_shipLine_62 : decode cX5_shipLine 62 = .ok (.aload_n 0, 1) := by decide +kernel
theorem dX5_shipLine_63 : decode cX5_shipLine 63 = .ok (.getfield 84, 3) := by decide +kernel
theorem dX5_shipLine_66 : decode cX5_shipLine 66 = .ok (.lastore, 1) := by decide +kernel
theorem dX5_shipLine_67 : decode cX5_shipLine 67 = .ok (.bipush 10, 2) := by decide +kernel
theorem dX5_shipLine_69 : decode cX5_shipLine 69 = .ok (.bipush 6, 2) := by decide +kernel
theorem dX5_shipLine_71 : decode cX5_shipLine 71 = .ok (.iload_n 1, 1) := by decide +kernel
theorem dX5_shipLine_72 : decode cX5_shipLine 72 = .ok (.imul, 1) := by decide +kernel
theorem dX5_shipLine_73 : decode cX5_shipLine 73 = .ok (.iadd, 1) := by decide +kernel
theorem dX5_shipLine_74 : decode cX5_shipLine 74 = .ok (.istore_n 2, 1) := by decide +kernel
theorem dX5_shipLine_75 : decode cX5_shipLine 75 = .ok (.aload_n 0, 1) := by decide +kernel
theorem dX5_shipLine_76 : decode cX5_shipLine 76 = .ok (.invokevirtual 104, 3) := by decide +kernel
theorem dX5_shipLine_79 : decode cX5_shipLine 79 = .ok (.aload_n 0, 1) := by decide +kernel
theorem dX5_shipLine_80 : decode cX5_shipLine 80 = .ok (.invokestatic 127, 3) := by decide +kernel
theorem dX5_shipLine_83 : decode cX5_shipLine 83 = .ok (.invokevirtual 172, 3) := by decide +kernel
theorem dX5_shipLine_86 : decode cX5_shipLine 86 = .ok (.aload_n 0, 1) := by decide +kernel
theorem dX5_shipLine_87 : decode cX5_shipLine 87 = .ok (.getfield 20, 3) := by decide +kernel
theorem dX5_shipLine_90 : decode cX5_shipLine 90 = .ok (.iload_n 2, 1) := by decide +kernel
theorem dX5_shipLine_91 : decode cX5_shipLine 91 = .ok (.iconst 0, 1) := by decide +kernel
theorem dX5_shipLine_92 : decode cX5_shipLine 92 = .ok (.iadd, 1) := by decide +kernel
theorem dX5_shipLine_93 : decode cX5_shipLine 93 = .ok (.aload_n 0, 1) := by decide +kernel
theorem dX5_shipLine_94 : decode cX5_shipLine 94 = .ok (.iconst 1, 1) := by decide +kernel
theorem dX5_shipLine_95 : decode cX5_shipLine 95 = .ok (.ldc 176, 2) := by decide +kernel
theorem dX5_shipLine_97 : decode cX5_shipLine 97 = .ok (.invokevirtual 177, 3) := by decide +kernel
theorem dX5_shipLine_100 : decode cX5_shipLine 100 = .ok (.iastore, 1) := by decide +kernel
theorem dX5_shipLine_101 : decode cX5_shipLine 101 = .ok (.aload_n 0, 1) := by decide +kernel
theorem dX5_shipLine_102 : decode cX5_shipLine 102 = .ok (.invokestatic 130, 3) := by decide +kernel
theorem dX5_shipLine_105 : decode cX5_shipLine 105 = .ok (.invokevirtual 172, 3) := by decide +kernel
theorem dX5_shipLine_108 : decode cX5_shipLine 108 = .ok (.aload_n 0, 1) := by decide +kernel
theorem dX5_shipLine_109 : decode cX5_shipLine 109 = .ok (.getfield 20, 3) := by decide +kernel
theorem dX5_shipLine_112 : decode cX5_shipLine 112 = .ok (.iload_n 2, 1) := by decide +kernel
theorem dX5_shipLine_113 : decode cX5_shipLine 113 = .ok (.iconst 1, 1) := by decide +kernel
theorem dX5_shipLine_114 : decode cX5_shipLine 114 = .ok (.iadd, 1) := by decide +kernel
theorem dX5_shipLine_115 : decode cX5_shipLine 115 = .ok (.aload_n 0, 1) := by decide +kernel
theorem dX5_shipLine_116 : decode cX5_shipLine 116 = .ok (.iconst 0, 1) := by decide +kernel
theorem dX5_shipLine_117 : decode cX5_shipLine 117 = .ok (.bipush 10, 2) := by decide +kernel
theorem dX5_shipLine_119 : decode cX5_shipLine 119 = .ok (.invokevirtual 177, 3) := by decide +kernel
theorem dX5_shipLine_122 : decode cX5_shipLine 122 = .ok (.iastore, 1) := by decide +kernel
theorem dX5_shipLine_123 : decode cX5_shipLine 123 = .ok (.aload_n 0, 1) := by decide +kernel
theorem dX5_shipLine_124 : decode cX5_shipLine 124 = .ok (.invokestatic 133, 3) := by decide +kernel
theorem dX5_shipLine_127 : decode cX5_shipLine 127 = .ok (.invokevirtual 172, 3) := by decide +kernel
theorem dX5_shipLine_130 : decode cX5_shipLine 130 = .ok (.aload_n 0, 1) := by decide +kernel
theorem dX5_shipLine_131 : decode cX5_shipLine 131 = .ok (.getfield 20, 3) := by decide +kernel
theorem dX5_shipLine_134 : decode cX5_shipLine 134 = .ok (.iload_n 2, 1) := by decide +kernel
theorem dX5_shipLine_135 : decode cX5_shipLine 135 = .ok (.iconst 2, 1) := by decide +kernel
theorem dX5_shipLine_136 : decode cX5_shipLine 136 = .ok (.iadd, 1) := by decide +kernel
theorem dX5_shipLine_137 : decode cX5_shipLine 137 = .ok (.aload_n 0, 1) := by decide +kernel
theorem dX5_shipLine_138 : decode cX5_shipLine 138 = .ok (.iconst 0, 1) := by decide +kernel
theorem dX5_shipLine_139 : decode cX5_shipLine 139 = .ok (.ldc 181, 2) := by decide +kernel
theorem dX5_shipLine_141 : decode cX5_shipLine 141 = .ok (.invokevirtual 177, 3) := by decide +kernel
theorem dX5_shipLine_144 : decode cX5_shipLine 144 = .ok (.iastore, 1) := by decide +kernel
theorem dX5_shipLine_145 : decode cX5_shipLine 145 = .ok (.aload_n 0, 1) := by decide +kernel
theorem dX5_shipLine_146 : decode cX5_shipLine 146 = .ok (.invokestatic 136, 3) := by decide +kernel
theorem dX5_shipLine_149 : decode cX5_shipLine 149 = .ok (.invokevirtual 172, 3) := by decide +kernel
theorem dX5_shipLine_152 : decode cX5_shipLine 152 = .ok (.aload_n 0, 1) := by decide +kernel
theorem dX5_shipLine_153 : decode cX5_shipLine 153 = .ok (.getfield 20, 3) := by decide +kernel
theorem dX5_shipLine_156 : decode cX5_shipLine 156 = .ok (.iload_n 2, 1) := by decide +kernel
theorem dX5_shipLine_157 : decode cX5_shipLine 157 = .ok (.iconst 3, 1) := by decide +kernel
theorem dX5_shipLine_158 : decode cX5_shipLine 158 = .ok (.iadd, 1) := by decide +kernel
theorem dX5_shipLine_159 : decode cX5_shipLine 159 = .ok (.aload_n 0, 1) := by decide +kernel
theorem dX5_shipLine_160 : decode cX5_shipLine 160 = .ok (.iconst 0, 1) := by decide +kernel
theorem dX5_shipLine_161 : decode cX5_shipLine 161 = .ok (.ldc 181, 2) := by decide +kernel
theorem dX5_shipLine_163 : decode cX5_shipLine 163 = .ok (.invokevirtual 177, 3) := by decide +kernel
theorem dX5_shipLine_166 : decode cX5_shipLine 166 = .ok (.iastore, 1) := by decide +kernel
theorem dX5_shipLine_167 : decode cX5_shipLine 167 = .ok (.aload_n 0, 1) := by decide +kernel
theorem dX5_shipLine_168 : decode cX5_shipLine 168 = .ok (.getfield 20, 3) := by decide +kernel
theorem dX5_shipLine_171 : decode cX5_shipLine 171 = .ok (.iload_n 2, 1) := by decide +kernel
theorem dX5_shipLine_172 : decode cX5_shipLine 172 = .ok (.iconst 4, 1) := by decide +kernel
theorem dX5_shipLine_173 : decode cX5_shipLine 173 = .ok (.iadd, 1) := by decide +kernel
theorem dX5_shipLine_174 : decode cX5_shipLine 174 = .ok (.aload_n 0, 1) := by decide +kernel
theorem dX5_shipLine_175 : decode cX5_shipLine 175 = .ok (.invokestatic 139, 3) := by decide +kernel
theorem dX5_shipLine_178 : decode cX5_shipLine 178 = .ok (.invokevirtual 115, 3) := by decide +kernel
theorem dX5_shipLine_181 : decode cX5_shipLine 181 = .ok (.ifCond .eq 7, 3) := by decide +kernel
theorem dX5_shipLine_184 : decode cX5_shipLine 184 = .ok (.iconst 1, 1) := by decide +kernel
theorem dX5_shipLine_185 : decode cX5_shipLine 185 = .ok (.goto 4, 3) := by decide +kernel
theorem dX5_shipLine_188 : decode cX5_shipLine 188 = .ok (.iconst 0, 1) := by decide +kernel
theorem dX5_shipLine_189 : decode cX5_shipLine 189 = .ok (.iastore, 1) := by decide +kernel
theorem dX5_shipLine_190 : decode cX5_shipLine 190 = .ok (.aload_n 0, 1) := by decide +kernel
theorem dX5_shipLine_191 : decode cX5_shipLine 191 = .ok (.getfield 20, 3) := by decide +kernel
theorem dX5_shipLine_194 : decode cX5_shipLine 194 = .ok (.iload_n 2, 1) := by decide +kernel
theorem dX5_shipLine_195 : decode cX5_shipLine 195 = .ok (.iconst 4, 1) := by decide +kernel
theorem dX5_shipLine_196 : decode cX5_shipLine 196 = .ok (.iadd, 1) := by decide +kernel
theorem dX5_shipLine_197 : decode cX5_shipLine 197 = .ok (.iaload, 1) := by decide +kernel
theorem dX5_shipLine_198 : decode cX5_shipLine 198 = .ok (.iconst 1, 1) := by decide +kernel
theorem dX5_shipLine_199 : decode cX5_shipLine 199 = .ok (.if_icmp .ne 7, 3) := by decide +kernel
theorem dX5_shipLine_202 : decode cX5_shipLine 202 = .ok (.aload_n 0, 1) := by decide +kernel
theorem dX5_shipLine_203 : decode cX5_shipLine 203 = .ok (.invokevirtual 104, 3) := by decide +kernel
theorem dX5_shipLine_206 : decode cX5_shipLine 206 = .ok (.aload_n 0, 1) := by decide +kernel
theorem dX5_shipLine_207 : decode cX5_shipLine 207 = .ok (.getfield 20, 3) := by decide +kernel
theorem dX5_shipLine_210 : decode cX5_shipLine 210 = .ok (.iload_n 2, 1) := by decide +kernel
theorem dX5_shipLine_211 : decode cX5_shipLine 211 = .ok (.iconst 5, 1) := by decide +kernel
theorem dX5_shipLine_212 : decode cX5_shipLine 212 = .ok (.iadd, 1) := by decide +kernel
theorem dX5_shipLine_213 : decode cX5_shipLine 213 = .ok (.aload_n 0, 1) := by decide +kernel
theorem dX5_shipLine_214 : decode cX5_shipLine 214 = .ok (.invokestatic 142, 3) := by decide +kernel
theorem dX5_shipLine_217 : decode cX5_shipLine 217 = .ok (.invokevirtual 115, 3) := by decide +kernel
theorem dX5_shipLine_220 : decode cX5_shipLine 220 = .ok (.ifCond .eq 7, 3) := by decide +kernel
theorem dX5_shipLine_223 : decode cX5_shipLine 223 = .ok (.iconst 1, 1) := by decide +kernel
theorem dX5_shipLine_224 : decode cX5_shipLine 224 = .ok (.goto 4, 3) := by decide +kernel
theorem dX5_shipLine_227 : decode cX5_shipLine 227 = .ok (.iconst 0, 1) := by decide +kernel
theorem dX5_shipLine_228 : decode cX5_shipLine 228 = .ok (.iastore, 1) := by decide +kernel
theorem dX5_shipLine_229 : decode cX5_shipLine 229 = .ok (.aload_n 0, 1) := by decide +kernel
theorem dX5_shipLine_230 : decode cX5_shipLine 230 = .ok (.getfield 20, 3) := by decide +kernel
theorem dX5_shipLine_233 : decode cX5_shipLine 233 = .ok (.iload_n 2, 1) := by decide +kernel
theorem dX5_shipLine_234 : decode cX5_shipLine 234 = .ok (.iconst 5, 1) := by decide +kernel
theorem dX5_shipLine_235 : decode cX5_shipLine 235 = .ok (.iadd, 1) := by decide +kernel
theorem dX5_shipLine_236 : decode cX5_shipLine 236 = .ok (.iaload, 1) := by decide +kernel
theorem dX5_shipLine_237 : decode cX5_shipLine 237 = .ok (.iconst 1, 1) := by decide +kernel
theorem dX5_shipLine_238 : decode cX5_shipLine 238 = .ok (.if_icmp .ne 7, 3) := by decide +kernel
theorem dX5_shipLine_241 : decode cX5_shipLine 241 = .ok (.aload_n 0, 1) := by decide +kernel
theorem dX5_shipLine_242 : decode cX5_shipLine 242 = .ok (.invokevirtual 104, 3) := by decide +kernel
theorem dX5_shipLine_245 : decode cX5_shipLine 245 = .ok (.aload_n 0, 1) := by decide +kernel
theorem dX5_shipLine_246 : decode cX5_shipLine 246 = .ok (.getfield 20, 3) := by decide +kernel
theorem dX5_shipLine_249 : decode cX5_shipLine 249 = .ok (.iconst 0, 1) := by decide +kernel
theorem dX5_shipLine_250 : decode cX5_shipLine 250 = .ok (.dup2, 1) := by decide +kernel
theorem dX5_shipLine_251 : decode cX5_shipLine 251 = .ok (.iaload, 1) := by decide +kernel
theorem dX5_shipLine_252 : decode cX5_shipLine 252 = .ok (.iconst 1, 1) := by decide +kernel
theorem dX5_shipLine_253 : decode cX5_shipLine 253 = .ok (.iadd, 1) := by decide +kernel
theorem dX5_shipLine_254 : decode cX5_shipLine 254 = .ok (.iastore, 1) := by decide +kernel
theorem dX5_shipLine_255 : decode cX5_shipLine 255 = .ok (.return_, 1) := by decide +kernel
theorem dX5_claimLine_0 : decode cX5_claimLine 0 = .ok (.aload_n 0, 1) := by decide +kernel
theorem dX5_claimLine_1 : decode cX5_claimLine 1 = .ok (.getfield 20, 3) := by decide +kernel
theorem dX5_claimLine_4 : decode cX5_claimLine 4 = .ok (.iconst 1, 1) := by decide +kernel
theorem dX5_claimLine_5 : decode cX5_claimLine 5 = .ok (.iaload, 1) := by decide +kernel
theorem dX5_claimLine_6 : decode cX5_claimLine 6 = .ok (.istore_n 2, 1) := by decide +kernel
theorem dX5_claimLine_7 : decode cX5_claimLine 7 = .ok (.iload_n 2, 1) := by decide +kernel
theorem dX5_claimLine_8 : decode cX5_claimLine 8 = .ok (.bipush 12, 2) := by decide +kernel
theorem dX5_claimLine_10 : decode cX5_claimLine 10 = .ok (.if_icmp .ne 8, 3) := by decide +kernel
theorem dX5_claimLine_13 : decode cX5_claimLine 13 = .ok (.aload_n 0, 1) := by decide +kernel
theorem dX5_claimLine_14 : decode cX5_claimLine 14 = .ok (.iconst 4, 1) := by decide +kernel
theorem dX5_claimLine_15 : decode cX5_claimLine 15 = .ok (.invokevirtual 154, 3) := by decide +kernel
theorem dX5_claimLine_18 : decode cX5_claimLine 18 = .ok (.aload_n 0, 1) := by decide +kernel
theorem dX5_claimLine_19 : decode cX5_claimLine 19 = .ok (.invokevirtual 158, 3) := by decide +kernel
theorem dX5_claimLine_22 : decode cX5_claimLine 22 = .ok (.aload_n 0, 1) := by decide +kernel
theorem dX5_claimLine_23 : decode cX5_claimLine 23 = .ok (.getfield 98, 3) := by decide +kernel
theorem dX5_claimLine_26 : decode cX5_claimLine 26 = .ok (.ifCond .eq 4, 3) := by decide +kernel
theorem dX5_claimLine_29 : decode cX5_claimLine 29 = .ok (.return_, 1) := by decide +kernel
theorem dX5_claimLine_30 : decode cX5_claimLine 30 = .ok (.bipush 34, 2) := by decide +kernel
theorem dX5_claimLine_32 : decode cX5_claimLine 32 = .ok (.iconst 4, 1) := by decide +kernel
theorem dX5_claimLine_33 : decode cX5_claimLine 33 = .ok (.iload_n 2, 1) := by decide +kernel
theorem dX5_claimLine_34 : decode cX5_claimLine 34 = .ok (.imul, 1) := by decide +kernel
theorem dX5_claimLine_35 : decode cX5_claimLine 35 = .ok (.iadd, 1) := by decide +kernel
theorem dX5_claimLine_36 : decode cX5_claimLine 36 = .ok (.istore_n 3, 1) := by decide +kernel
theorem dX5_claimLine_37 : decode cX5_claimLine 37 = .ok (.aload_n 0, 1) := by decide +kernel
theorem dX5_claimLine_38 : decode cX5_claimLine 38 = .ok (.getfield 20, 3) := by decide +kernel
theorem dX5_claimLine_41 : decode cX5_claimLine 41 = .ok (.iload_n 3, 1) := by decide +kernel
theorem dX5_claimLine_42 : decode cX5_claimLine 42 = .ok (.iconst 0, 1) := by decide +kernel
theorem dX5_claimLine_43 : decode cX5_claimLine 43 = .ok (.iadd, 1) := by decide +kernel
theorem dX5_claimLine_44 : decode cX5_claimLine 44 = .ok (.iload_n 1, 1) := by decide +kernel
theorem dX5_claimLine_45 : decode cX5_claimLine 45 = .ok (.iastore, 1) := by decide +kernel
theorem dX5_claimLine_46 : decode cX5_claimLine 46 = .ok (.aload_n 0, 1) := by decide +kernel
theorem dX5_claimLine_47 : decode cX5_claimLine 47 = .ok (.getfield 20, 3) := by decide +kernel
theorem dX5_claimLine_50 : decode cX5_claimLine 50 = .ok (.iload_n 3, 1) := by decide +kernel
theorem dX5_claimLine_51 : decode cX5_claimLine 51 = .ok (.iconst 1, 1) := by decide +kernel
theorem dX5_claimLine_52 : decode cX5_claimLine 52 = .ok (.iadd, 1) := by decide +kernel
theorem dX5_claimLine_53 : decode cX5_claimLine 53 = .ok (.bipush (-2), 2) := by decide +kernel
theorem dX5_claimLine_55 : decode cX5_claimLine 55 = .ok (.iastore, 1) := by decide +kernel
theorem dX5_claimLine_56 : decode cX5_claimLine 56 = .ok (.iload_n 1, 1) := by decide +kernel
theorem dX5_claimLine_57 : decode cX5_claimLine 57 = .ok (.ifCond .ne 47, 3) := by decide +kernel
theorem dX5_claimLine_60 : decode cX5_claimLine 60 = .ok (.aload_n 0, 1) := by decide +kernel
theorem dX5_claimLine_61 : decode cX5_claimLine 61 = .ok (.invokevirtual 165, 3) := by decide +kernel
theorem dX5_claimLine_64 : decode cX5_claimLine 64 = .ok (.ifCond .ne 11, 3) := by decide +kernel
theorem dX5_claimLine_67 : decode cX5_claimLine 67 = .ok (.aload_n 0, 1) := by decide +kernel
theorem dX5_claimLine_68 : decode cX5_claimLine 68 = .ok (.iconst 1, 1) := by decide +kernel
theorem dX5_claimLine_69 : decode cX5_claimLine 69 = .ok (.invokevirtual 154, 3) := by decide +kernel
theorem dX5_claimLine_72 : decode cX5_claimLine 72 = .ok (.goto 16, 3) := by decide +kernel
theorem dX5_claimLine_75 : decode cX5_claimLine 75 = .ok (.aload_n 0, 1) := by decide +kernel
theorem dX5_claimLine_76 : decode cX5_claimLine 76 = .ok (.invokevirtual 169, 3) := by decide +kernel
theorem dX5_claimLine_79 : decode cX5_claimLine 79 = .ok (.iconst (-1), 1) := by decide +kernel
theorem dX5_claimLine_80 : decode cX5_claimLine 80 = .ok (.if_icmp .ne 8, 3) := by decide +kernel
theorem dX5_claimLine_83 : decode cX5_claimLine 83 = .ok (.aload_n 0, 1) := by decide +kernel
theorem dX5_claimLine_84 : decode cX5_claimLine 84 = .ok (.iconst 3, 1) := by decide +kernel
theorem dX5_claimLine_85 : decode cX5_claimLine 85 = .ok (.invokevirtual 154, 3) := by decide +kernel
theorem dX5_claimLine_88 : decode cX5_claimLine 88 = .ok (.aload_n 0, 1) := by decide +kernel
theorem dX5_claimLine_89 : decode cX5_claimLine 89 = .ok (.getfield 20, 3) := by decide +kernel
theorem dX5_claimLine_92 : decode cX5_claimLine 92 = .ok (.iload_n 3, 1) := by decide +kernel
theorem dX5_claimLine_93 : decode cX5_claimLine 93 = .ok (.iconst 1, 1) := by decide +kernel
theorem dX5_claimLine_94 : decode cX5_claimLine 94 = .ok (.iadd, 1) := by decide +kernel
theorem dX5_claimLine_95 : decode cX5_claimLine 95 = .ok (.aload_n 0, 1) := by decide +kernel
theorem dX5_claimLine_96 : decode cX5_claimLine 96 = .ok (.invokevirtual 169, 3) := by decide +kernel
theorem dX5_claimLine_99 : decode cX5_claimLine 99 = .ok (.iastore, 1) := by decide +kernel
theorem dX5_claimLine_100 : decode cX5_claimLine 100 = .ok (.aload_n 0, 1) := by decide +kernel
theorem dX5_claimLine_101 : decode cX5_claimLine 101 = .ok (.invokevirtual 158, 3) := by decide +kernel
theorem dX5_claimLine_104 : decode cX5_claimLine 104 = .ok (.aload_n 0, 1) := by decide +kernel
theorem dX5_claimLine_105 : decode cX5_claimLine 105 = .ok (.getfield 20, 3) := by decide +kernel
theorem dX5_claimLine_108 : decode cX5_claimLine 108 = .ok (.iload_n 3, 1) := by decide +kernel
theorem dX5_claimLine_109 : decode cX5_claimLine 109 = .ok (.iconst 2, 1) := by decide +kernel
theorem dX5_claimLine_110 : decode cX5_claimLine 110 = .ok (.iadd, 1) := by decide +kernel
theorem dX5_claimLine_111 : decode cX5_claimLine 111 = .ok (.aload_n 0, 1) := by decide +kernel
theorem dX5_claimLine_112 : decode cX5_claimLine 112 = .ok (.iconst 1, 1) := by decide +kernel
theorem dX5_claimLine_113 : decode cX5_claimLine 113 = .ok (.ldc 181, 2) := by decide +kernel
theorem dX5_claimLine_115 : decode cX5_claimLine 115 = .ok (.invokevirtual 177, 3) := by decide +kernel
theorem dX5_claimLine_118 : decode cX5_claimLine 118 = .ok (.iastore, 1) := by decide +kernel
theorem dX5_claimLine_119 : decode cX5_claimLine 119 = .ok (.aload_n 0, 1) := by decide +kernel
theorem dX5_claimLine_120 : decode cX5_claimLine 120 = .ok (.invokestatic 151, 3) := by decide +kernel
theorem dX5_claimLine_123 : decode cX5_claimLine 123 = .ok (.invokevirtual 172, 3) := by decide +kernel
theorem dX5_claimLine_126 : decode cX5_claimLine 126 = .ok (.aload_n 0, 1) := by decide +kernel
theorem dX5_claimLine_127 : decode cX5_claimLine 127 = .ok (.getfield 20, 3) := by decide +kernel
theorem dX5_claimLine_130 : decode cX5_claimLine 130 = .ok (.iload_n 3, 1) := by decide +kernel
theorem dX5_claimLine_131 : decode cX5_claimLine 131 = .ok (.iconst 3, 1) := by decide +kernel
theorem dX5_claimLine_132 : decode cX5_claimLine 132 = .ok (.iadd, 1) := by decide +kernel
theorem dX5_claimLine_133 : decode cX5_claimLine 133 = .ok (.aload_n 0, 1) := by decide +kernel
theorem dX5_claimLine_134 : decode cX5_claimLine 134 = .ok (.iconst 0, 1) := by decide +kernel
theorem dX5_claimLine_135 : decode cX5_claimLine 135 = .ok (.sipush 999, 3) := by decide +kernel
theorem dX5_claimLine_138 : decode cX5_claimLine 138 = .ok (.invokevirtual 177, 3) := by decide +kernel
theorem dX5_claimLine_141 : decode cX5_claimLine 141 = .ok (.iastore, 1) := by decide +kernel
theorem dX5_claimLine_142 : decode cX5_claimLine 142 = .ok (.aload_n 0, 1) := by decide +kernel
theorem dX5_claimLine_143 : decode cX5_claimLine 143 = .ok (.getfield 20, 3) := by decide +kernel
theorem dX5_claimLine_146 : decode cX5_claimLine 146 = .ok (.iconst 1, 1) := by decide +kernel
theorem dX5_claimLine_147 : decode cX5_claimLine 147 = .ok (.dup2, 1) := by decide +kernel
theorem dX5_claimLine_148 : decode cX5_claimLine 148 = .ok (.iaload, 1) := by decide +kernel
theorem dX5_claimLine_149 : decode cX5_claimLine 149 = .ok (.iconst 1, 1) := by decide +kernel
theorem dX5_claimLine_150 : decode cX5_claimLine 150 = .ok (.iadd, 1) := by decide +kernel
theorem dX5_claimLine_151 : decode cX5_claimLine 151 = .ok (.iastore, 1) := by decide +kernel
theorem dX5_claimLine_152 : decode cX5_claimLine 152 = .ok (.return_, 1) := by decide +kernel
theorem dX5_lowOf_0 : decode cX5_lowOf 0 = .ok (.iload_n 0, 1) := by decide +kernel
theorem dX5_lowOf_1 : decode cX5_lowOf 1 = .ok (.bipush 7, 2) := by decide +kernel
theorem dX5_lowOf_3 : decode cX5_lowOf 3 = .ok (.if_icmp .ne 7, 3) := by decide +kernel
theorem dX5_lowOf_6 : decode cX5_lowOf 6 = .ok (.iconst 1, 1) := by decide +kernel
theorem dX5_lowOf_7 : decode cX5_lowOf 7 = .ok (.goto 4, 3) := by decide +kernel
theorem dX5_lowOf_10 : decode cX5_lowOf 10 = .ok (.iconst 0, 1) := by decide +kernel
theorem dX5_lowOf_11 : decode cX5_lowOf 11 = .ok (.ireturn, 1) := by decide +kernel
theorem dX5_highOf_0 : decode cX5_highOf 0 = .ok (.iload_n 0, 1) := by decide +kernel
theorem dX5_highOf_1 : decode cX5_highOf 1 = .ok (.iconst 5, 1) := by decide +kernel
theorem dX5_highOf_2 : decode cX5_highOf 2 = .ok (.if_icmp .ge 5, 3) := by decide +kernel
theorem dX5_highOf_5 : decode cX5_highOf 5 = .ok (.iconst 1, 1) := by decide +kernel
theorem dX5_highOf_6 : decode cX5_highOf 6 = .ok (.ireturn, 1) := by decide +kernel
theorem dX5_highOf_7 : decode cX5_highOf 7 = .ok (.iload_n 0, 1) := by decide +kernel
theorem dX5_highOf_8 : decode cX5_highOf 8 = .ok (.bipush 8, 2) := by decide +kernel
theorem dX5_highOf_10 : decode cX5_highOf 10 = .ok (.if_icmp .ge 8, 3) := by decide +kernel
theorem dX5_highOf_13 : decode cX5_highOf 13 = .ok (.ldc 176, 2) := by decide +kernel
theorem dX5_highOf_15 : decode cX5_highOf 15 = .ok (.goto 6, 3) := by decide +kernel
theorem dX5_highOf_18 : decode cX5_highOf 18 = .ok (.sipush 999, 3) := by decide +kernel
theorem dX5_highOf_21 : decode cX5_highOf 21 = .ok (.ireturn, 1) := by decide +kernel
theorem dX5_aboutLine_0 : decode cX5_aboutLine 0 = .ok (.aload_n 0, 1) := by decide +kernel
theorem dX5_aboutLine_1 : decode cX5_aboutLine 1 = .ok (.getfield 182, 3) := by decide +kernel
theorem dX5_aboutLine_4 : decode cX5_aboutLine 4 = .ok (.iload_n 1, 1) := by decide +kernel
theorem dX5_aboutLine_5 : decode cX5_aboutLine 5 = .ok (.ishr, 1) := by decide +kernel
theorem dX5_aboutLine_6 : decode cX5_aboutLine 6 = .ok (.iconst 1, 1) := by decide +kernel
theorem dX5_aboutLine_7 : decode cX5_aboutLine 7 = .ok (.iand, 1) := by decide +kernel
theorem dX5_aboutLine_8 : decode cX5_aboutLine 8 = .ok (.iconst 1, 1) := by decide +kernel
theorem dX5_aboutLine_9 : decode cX5_aboutLine 9 = .ok (.if_icmp .ne 8, 3) := by decide +kernel
theorem dX5_aboutLine_12 : decode cX5_aboutLine 12 = .ok (.aload_n 0, 1) := by decide +kernel
theorem dX5_aboutLine_13 : decode cX5_aboutLine 13 = .ok (.iconst 3, 1) := by decide +kernel
theorem dX5_aboutLine_14 : decode cX5_aboutLine 14 = .ok (.invokevirtual 154, 3) := by decide +kernel
theorem dX5_aboutLine_17 : decode cX5_aboutLine 17 = .ok (.aload_n 0, 1) := by decide +kernel
theorem dX5_aboutLine_18 : decode cX5_aboutLine 18 = .ok (.dup, 1) := by decide +kernel
theorem dX5_aboutLine_19 : decode cX5_aboutLine 19 = .ok (.getfield 182, 3) := by decide +kernel
theorem dX5_aboutLine_22 : decode cX5_aboutLine 22 = .ok (.iconst 1, 1) := by decide +kernel
theorem dX5_aboutLine_23 : decode cX5_aboutLine 23 = .ok (.iload_n 1, 1) := by decide +kernel
theorem dX5_aboutLine_24 : decode cX5_aboutLine 24 = .ok (.ishl, 1) := by decide +kernel
theorem dX5_aboutLine_25 : decode cX5_aboutLine 25 = .ok (.ior, 1) := by decide +kernel
theorem dX5_aboutLine_26 : decode cX5_aboutLine 26 = .ok (.putfield 182, 3) := by decide +kernel
theorem dX5_aboutLine_29 : decode cX5_aboutLine 29 = .ok (.aload_n 0, 1) := by decide +kernel
theorem dX5_aboutLine_30 : decode cX5_aboutLine 30 = .ok (.invokevirtual 158, 3) := by decide +kernel
theorem dX5_aboutLine_33 : decode cX5_aboutLine 33 = .ok (.aload_n 0, 1) := by decide +kernel
theorem dX5_aboutLine_34 : decode cX5_aboutLine 34 = .ok (.getfield 98, 3) := by decide +kernel
theorem dX5_aboutLine_37 : decode cX5_aboutLine 37 = .ok (.ifCond .eq 4, 3) := by decide +kernel
theorem dX5_aboutLine_40 : decode cX5_aboutLine 40 = .ok (.return_, 1) := by decide +kernel
theorem dX5_aboutLine_41 : decode cX5_aboutLine 41 = .ok (.aload_n 0, 1) := by decide +kernel
theorem dX5_aboutLine_42 : decode cX5_aboutLine 42 = .ok (.getfield 20, 3) := by decide +kernel
theorem dX5_aboutLine_45 : decode cX5_aboutLine 45 = .ok (.iload_n 1, 1) := by decide +kernel
theorem dX5_aboutLine_46 : decode cX5_aboutLine 46 = .ok (.iload_n 1, 1) := by decide +kernel
theorem dX5_aboutLine_47 : decode cX5_aboutLine 47 = .ok (.iconst 5, 1) := by decide +kernel
theorem dX5_aboutLine_48 : decode cX5_aboutLine 48 = .ok (.if_icmp .ge 7, 3) := by decide +kernel
theorem dX5_aboutLine_51 : decode cX5_aboutLine 51 = .ok (.iconst 1, 1) := by decide +kernel
theorem dX5_aboutLine_52 : decode cX5_aboutLine 52 = .ok (.goto 15, 3) := by decide +kernel
theorem dX5_aboutLine_55 : decode cX5_aboutLine 55 = .ok (.aload_n 0, 1) := by decide +kernel
theorem dX5_aboutLine_56 : decode cX5_aboutLine 56 = .ok (.iload_n 1, 1) := by decide +kernel
theorem dX5_aboutLine_57 : decode cX5_aboutLine 57 = .ok (.invokestatic 185, 3) := by decide +kernel
theorem dX5_aboutLine_60 : decode cX5_aboutLine 60 = .ok (.iload_n 1, 1) := by decide +kernel
theorem dX5_aboutLine_61 : decode cX5_aboutLine 61 = .ok (.invokestatic 188, 3) := by decide +kernel
theorem dX5_aboutLine_64 : decode cX5_aboutLine 64 = .ok (.invokevirtual 177, 3) := by decide +kernel
theorem dX5_aboutLine_67 : decode cX5_aboutLine 67 = .ok (.iastore, 1) := by decide +kernel
theorem dX5_aboutLine_68 : decode cX5_aboutLine 68 = .ok (.return_, 1) := by decide +kernel
theorem dX5_line_0 : decode cX5_line 0 = .ok (.aload_n 0, 1) := by decide +kernel
theorem dX5_line_1 : decode cX5_line 1 = .ok (.invokevirtual 119, 3) := by decide +kernel
theorem dX5_line_4 : decode cX5_line 4 = .ok (.istore_n 1, 1) := by decide +kernel
theorem dX5_line_5 : decode cX5_line 5 = .ok (.aload_n 0, 1) := by decide +kernel
theorem dX5_line_6 : decode cX5_line 6 = .ok (.invokestatic 123, 3) := by decide +kernel
theorem dX5_line_9 : decode cX5_line 9 = .ok (.invokevirtual 115, 3) := by decide +kernel
theorem dX5_line_12 : decode cX5_line 12 = .ok (.ifCond .eq 10, 3) := by decide +kernel
theorem dX5_line_15 : decode cX5_line 15 = .ok (.aload_n 0, 1) := by decide +kernel
theorem dX5_line_16 : decode cX5_line 16 = .ok (.invokevirtual 191, 3) := by decide +kernel
theorem dX5_line_19 : decode cX5_line 19 = .ok (.goto 75, 3) := by decide +kernel
theorem dX5_line_22 : decode cX5_line 22 = .ok (.aload_n 0, 1) := by decide +kernel
theorem dX5_line_23 : decode cX5_line 23 = .ok (.invokestatic 145, 3) := by decide +kernel
theorem dX5_line_26 : decode cX5_line 26 = .ok (.invokevirtual 115, 3) := by decide +kernel
theorem dX5_line_29 : decode cX5_line 29 = .ok (.ifCond .eq 11, 3) := by decide +kernel
theorem dX5_line_32 : decode cX5_line 32 = .ok (.aload_n 0, 1) := by decide +kernel
theorem dX5_line_33 : decode cX5_line 33 = .ok (.iconst 0, 1) := by decide +kernel
theorem dX5_line_34 : decode cX5_line 34 = .ok (.invokevirtual 194, 3) := by decide +kernel
theorem dX5_line_37 : decode cX5_line 37 = .ok (.goto 57, 3) := by decide +kernel
theorem dX5_line_40 : decode cX5_line 40 = .ok (.aload_n 0, 1) := by decide +kernel
theorem dX5_line_41 : decode cX5_line 41 = .ok (.invokestatic 197, 3) := by decide +kernel
theorem dX5_line_44 : decode cX5_line 44 = .ok (.invokevirtual 115, 3) := by decide +kernel
theorem dX5_line_47 : decode cX5_line 47 = .ok (.ifCond .eq 11, 3) := by decide +kernel
theorem dX5_line_50 : decode cX5_line 50 = .ok (.aload_n 0, 1) := by decide +kernel
theorem dX5_line_51 : decode cX5_line 51 = .ok (.iconst 1, 1) := by decide +kernel
theorem dX5_line_52 : decode cX5_line 52 = .ok (.invokevirtual 194, 3) := by decide +kernel
theorem dX5_line_55 : decode cX5_line 55 = .ok (.goto 39, 3) := by decide +kernel
theorem dX5_line_58 : decode cX5_line 58 = .ok (.aload_n 0, 1) := by decide +kernel
theorem dX5_line_59 : decode cX5_line 59 = .ok (.invokestatic 148, 3) := by decide +kernel
theorem dX5_line_62 : decode cX5_line 62 = .ok (.invokevirtual 115, 3) := by decide +kernel
theorem dX5_line_65 : decode cX5_line 65 = .ok (.ifCond .eq 11, 3) := by decide +kernel
theorem dX5_line_68 : decode cX5_line 68 = .ok (.aload_n 0, 1) := by decide +kernel
theorem dX5_line_69 : decode cX5_line 69 = .ok (.iconst 2, 1) := by decide +kernel
theorem dX5_line_70 : decode cX5_line 70 = .ok (.invokevirtual 194, 3) := by decide +kernel
theorem dX5_line_73 : decode cX5_line 73 = .ok (.goto 21, 3) := by decide +kernel
theorem dX5_line_76 : decode cX5_line 76 = .ok (.iload_n 1, 1) := by decide +kernel
theorem dX5_line_77 : decode cX5_line 77 = .ok (.iconst (-1), 1) := by decide +kernel
theorem dX5_line_78 : decode cX5_line 78 = .ok (.if_icmp .eq 11, 3) := by decide +kernel
theorem dX5_line_81 : decode cX5_line 81 = .ok (.aload_n 0, 1) := by decide +kernel
theorem dX5_line_82 : decode cX5_line 82 = .ok (.iload_n 1, 1) := by decide +kernel
theorem dX5_line_83 : decode cX5_line 83 = .ok (.invokevirtual 200, 3) := by decide +kernel
theorem dX5_line_86 : decode cX5_line 86 = .ok (.goto 8, 3) := by decide +kernel
theorem dX5_line_89 : decode cX5_line 89 = .ok (.aload_n 0, 1) := by decide +kernel
theorem dX5_line_90 : decode cX5_line 90 = .ok (.iconst 1, 1) := by decide +kernel
theorem dX5_line_91 : decode cX5_line 91 = .ok (.invokevirtual 154, 3) := by decide +kernel
theorem dX5_line_94 : decode cX5_line 94 = .ok (.return_, 1) := by decide +kernel
theorem dX5_plain_0 : decode cX5_plain 0 = .ok (.iconst 0, 1) := by decide +kernel
theorem dX5_plain_1 : decode cX5_plain 1 = .ok (.istore_n 1, 1) := by decide +kernel
theorem dX5_plain_2 : decode cX5_plain 2 = .ok (.iload_n 1, 1) := by decide +kernel
theorem dX5_plain_3 : decode cX5_plain 3 = .ok (.bipush 82, 2) := by decide +kernel
theorem dX5_plain_5 : decode cX5_plain 5 = .ok (.if_icmp .ge 16, 3) := by decide +kernel
theorem dX5_plain_8 : decode cX5_plain 8 = .ok (.aload_n 0, 1) := by decide +kernel
theorem dX5_plain_9 : decode cX5_plain 9 = .ok (.getfield 20, 3) := by decide +kernel
theorem dX5_plain_12 : decode cX5_plain 12 = .ok (.iload_n 1, 1) := by decide +kernel
theorem dX5_plain_13 : decode cX5_plain 13 = .ok (.iconst 0, 1) := by decide +kernel
theorem dX5_plain_14 : decode cX5_plain 14 = .ok (.iastore, 1) := by decide +kernel
theorem dX5_plain_15 : decode cX5_plain 15 = .ok (.iinc 1 1, 3) := by decide +kernel
theorem dX5_plain_18 : decode cX5_plain 18 = .ok (.goto (-16), 3) := by decide +kernel
theorem dX5_plain_21 : decode cX5_plain 21 = .ok (.aload_n 0, 1) := by decide +kernel
theorem dX5_plain_22 : decode cX5_plain 22 = .ok (.getfield 20, 3) := by decide +kernel
theorem dX5_plain_25 : decode cX5_plain 25 = .ok (.iconst 5, 1) := by decide +kernel
theorem dX5_plain_26 : decode cX5_plain 26 = .ok (.bipush 100, 2) := by decide +kernel
theorem dX5_plain_28 : decode cX5_plain 28 = .ok (.iastore, 1) := by decide +kernel
theorem dX5_plain_29 : decode cX5_plain 29 = .ok (.aload_n 0, 1) := by decide +kernel
theorem dX5_plain_30 : decode cX5_plain 30 = .ok (.getfield 20, 3) := by decide +kernel
theorem dX5_plain_33 : decode cX5_plain 33 = .ok (.bipush 6, 2) := by decide +kernel
theorem dX5_plain_35 : decode cX5_plain 35 = .ok (.sipush 200, 3) := by decide +kernel
theorem dX5_plain_38 : decode cX5_plain 38 = .ok (.iastore, 1) := by decide +kernel
theorem dX5_plain_39 : decode cX5_plain 39 = .ok (.aload_n 0, 1) := by decide +kernel
theorem dX5_plain_40 : decode cX5_plain 40 = .ok (.getfield 20, 3) := by decide +kernel
theorem dX5_plain_43 : decode cX5_plain 43 = .ok (.bipush 7, 2) := by decide +kernel
theorem dX5_plain_45 : decode cX5_plain 45 = .ok (.sipush 300, 3) := by decide +kernel
theorem dX5_plain_48 : decode cX5_plain 48 = .ok (.iastore, 1) := by decide +kernel
theorem dX5_plain_49 : decode cX5_plain 49 = .ok (.aload_n 0, 1) := by decide +kernel
theorem dX5_plain_50 : decode cX5_plain 50 = .ok (.getfield 20, 3) := by decide +kernel
theorem dX5_plain_53 : decode cX5_plain 53 = .ok (.bipush 8, 2) := by decide +kernel
theorem dX5_plain_55 : decode cX5_plain 55 = .ok (.sipush 365, 3) := by decide +kernel
theorem dX5_plain_58 : decode cX5_plain 58 = .ok (.iastore, 1) := by decide +kernel
theorem dX5_plain_59 : decode cX5_plain 59 = .ok (.aload_n 0, 1) := by decide +kernel
theorem dX5_plain_60 : decode cX5_plain 60 = .ok (.getfield 20, 3) := by decide +kernel
theorem dX5_plain_63 : decode cX5_plain 63 = .ok (.bipush 9, 2) := by decide +kernel
theorem dX5_plain_65 : decode cX5_plain 65 = .ok (.sipush 730, 3) := by decide +kernel
theorem dX5_plain_68 : decode cX5_plain 68 = .ok (.iastore, 1) := by decide +kernel
theorem dX5_plain_69 : decode cX5_plain 69 = .ok (.aload_n 0, 1) := by decide +kernel
theorem dX5_plain_70 : decode cX5_plain 70 = .ok (.iconst 0, 1) := by decide +kernel
theorem dX5_plain_71 : decode cX5_plain 71 = .ok (.putfield 182, 3) := by decide +kernel
theorem dX5_plain_74 : decode cX5_plain 74 = .ok (.return_, 1) := by decide +kernel
theorem dX5_tenths_0 : decode cX5_tenths 0 = .ok (.iconst 0, 1) := by decide +kernel
theorem dX5_tenths_1 : decode cX5_tenths 1 = .ok (.istore_n 1, 1) := by decide +kernel
theorem dX5_tenths_2 : decode cX5_tenths 2 = .ok (.iconst 0, 1) := by decide +kernel
theorem dX5_tenths_3 : decode cX5_tenths 3 = .ok (.istore_n 2, 1) := by decide +kernel
theorem dX5_tenths_4 : decode cX5_tenths 4 = .ok (.iload_n 2, 1) := by decide +kernel
theorem dX5_tenths_5 : decode cX5_tenths 5 = .ok (.aload_n 0, 1) := by decide +kernel
theorem dX5_tenths_6 : decode cX5_tenths 6 = .ok (.getfield 20, 3) := by decide +kernel
theorem dX5_tenths_9 : decode cX5_tenths 9 = .ok (.iconst 0, 1) := by decide +kernel
theorem dX5_tenths_10 : decode cX5_tenths 10 = .ok (.iaload, 1) := by decide +kernel
theorem dX5_tenths_11 : decode cX5_tenths 11 = .ok (.if_icmp .ge 26, 3) := by decide +kernel
theorem dX5_tenths_14 : decode cX5_tenths 14 = .ok (.iload_n 1, 1) := by decide +kernel
theorem dX5_tenths_15 : decode cX5_tenths 15 = .ok (.aload_n 0, 1) := by decide +kernel
theorem dX5_tenths_16 : decode cX5_tenths 16 = .ok (.getfield 20, 3) := by decide +kernel
theorem dX5_tenths_19 : decode cX5_tenths 19 = .ok (.bipush 10, 2) := by decide +kernel
theorem dX5_tenths_21 : decode cX5_tenths 21 = .ok (.bipush 6, 2) := by decide +kernel
theorem dX5_tenths_23 : decode cX5_tenths 23 = .ok (.iload_n 2, 1) := by decide +kernel
theorem dX5_tenths_24 : decode cX5_tenths 24 = .ok (.imul, 1) := by decide +kernel
theorem dX5_tenths_25 : decode cX5_tenths 25 = .ok (.iadd, 1) := by decide +kernel
theorem dX5_tenths_26 : decode cX5_tenths 26 = .ok (.iconst 1, 1) := by decide +kernel
theorem dX5_tenths_27 : decode cX5_tenths 27 = .ok (.iadd, 1) := by decide +kernel
theorem dX5_tenths_28 : decode cX5_tenths 28 = .ok (.iaload, 1) := by decide +kernel
theorem dX5_tenths_29 : decode cX5_tenths 29 = .ok (.iadd, 1) := by decide +kernel
theorem dX5_tenths_30 : decode cX5_tenths 30 = .ok (.istore_n 1, 1) := by decide +kernel
theorem dX5_tenths_31 : decode cX5_tenths 31 = .ok (.iinc 2 1, 3) := by decide +kernel
theorem dX5_tenths_34 : decode cX5_tenths 34 = .ok (.goto (-30), 3) := by decide +kernel
theorem dX5_tenths_37 : decode cX5_tenths 37 = .ok (.iload_n 1, 1) := by decide +kernel
theorem dX5_tenths_38 : decode cX5_tenths 38 = .ok (.ireturn, 1) := by decide +kernel
theorem dX5_reads_0 : decode cX5_reads 0 = .ok (.aload_n 0, 1) := by decide +kernel
theorem dX5_reads_1 : decode cX5_reads 1 = .ok (.iload_n 1, 1) := by decide +kernel
theorem dX5_reads_2 : decode cX5_reads 2 = .ok (.putfield 61, 3) := by decide +kernel
theorem dX5_reads_5 : decode cX5_reads 5 = .ok (.aload_n 0, 1) := by decide +kernel
theorem dX5_reads_6 : decode cX5_reads 6 = .ok (.iconst 0, 1) := by decide +kernel
theorem dX5_reads_7 : decode cX5_reads 7 = .ok (.putfield 64, 3) := by decide +kernel
theorem dX5_reads_10 : decode cX5_reads 10 = .ok (.aload_n 0, 1) := by decide +kernel
theorem dX5_reads_11 : decode cX5_reads 11 = .ok (.iconst 0, 1) := by decide +kernel
theorem dX5_reads_12 : decode cX5_reads 12 = .ok (.putfield 98, 3) := by decide +kernel
theorem dX5_reads_15 : decode cX5_reads 15 = .ok (.aload_n 0, 1) := by decide +kernel
theorem dX5_reads_16 : decode cX5_reads 16 = .ok (.iconst (-1), 1) := by decide +kernel
theorem dX5_reads_17 : decode cX5_reads 17 = .ok (.putfield 101, 3) := by decide +kernel
theorem dX5_reads_20 : decode cX5_reads 20 = .ok (.aload_n 0, 1) := by decide +kernel
theorem dX5_reads_21 : decode cX5_reads 21 = .ok (.invokevirtual 203, 3) := by decide +kernel
theorem dX5_reads_24 : decode cX5_reads 24 = .ok (.aload_n 0, 1) := by decide +kernel
theorem dX5_reads_25 : decode cX5_reads 25 = .ok (.invokevirtual 104, 3) := by decide +kernel
theorem dX5_reads_28 : decode cX5_reads 28 = .ok (.iconst 1, 1) := by decide +kernel
theorem dX5_reads_29 : decode cX5_reads 29 = .ok (.istore_n 2, 1) := by decide +kernel
theorem dX5_reads_30 : decode cX5_reads 30 = .ok (.iload_n 2, 1) := by decide +kernel
theorem dX5_reads_31 : decode cX5_reads 31 = .ok (.ifCond .eq 46, 3) := by decide +kernel
theorem dX5_reads_34 : decode cX5_reads 34 = .ok (.aload_n 0, 1) := by decide +kernel
theorem dX5_reads_35 : decode cX5_reads 35 = .ok (.getfield 98, 3) := by decide +kernel
theorem dX5_reads_38 : decode cX5_reads 38 = .ok (.ifCond .ne 39, 3) := by decide +kernel
theorem dX5_reads_41 : decode cX5_reads 41 = .ok (.aload_n 0, 1) := by decide +kernel
theorem dX5_reads_42 : decode cX5_reads 42 = .ok (.invokevirtual 206, 3) := by decide +kernel
theorem dX5_reads_45 : decode cX5_reads 45 = .ok (.aload_n 0, 1) := by decide +kernel
theorem dX5_reads_46 : decode cX5_reads 46 = .ok (.getfield 98, 3) := by decide +kernel
theorem dX5_reads_49 : decode cX5_reads 49 = .ok (.ifCond .ne 15, 3) := by decide +kernel
theorem dX5_reads_52 : decode cX5_reads 52 = .ok (.aload_n 0, 1) := by decide +kernel
theorem dX5_reads_53 : decode cX5_reads 53 = .ok (.getfield 77, 3) := by decide +kernel
theorem dX5_reads_56 : decode cX5_reads 56 = .ok (.iconst 3, 1) := by decide +kernel
theorem dX5_reads_57 : decode cX5_reads 57 = .ok (.if_icmp .ne 7, 3) := by decide +kernel
theorem dX5_reads_60 : decode cX5_reads 60 = .ok (.iconst 1, 1) := by decide +kernel
theorem dX5_reads_61 : decode cX5_reads 61 = .ok (.goto 4, 3) := by decide +kernel
theorem dX5_reads_64 : decode cX5_reads 64 = .ok (.iconst 0, 1) := by decide +kernel
theorem dX5_reads_65 : decode cX5_reads 65 = .ok (.istore_n 2, 1) := by decide +kernel
theorem dX5_reads_66 : decode cX5_reads 66 = .ok (.iload_n 2, 1) := by decide +kernel
theorem dX5_reads_67 : decode cX5_reads 67 = .ok (.ifCond .eq (-37), 3) := by decide +kernel
theorem dX5_reads_70 : decode cX5_reads 70 = .ok (.aload_n 0, 1) := by decide +kernel
theorem dX5_reads_71 : decode cX5_reads 71 = .ok (.invokevirtual 104, 3) := by decide +kernel
theorem dX5_reads_74 : decode cX5_reads 74 = .ok (.goto (-44), 3) := by decide +kernel
theorem dX5_reads_77 : decode cX5_reads 77 = .ok (.aload_n 0, 1) := by decide +kernel
theorem dX5_reads_78 : decode cX5_reads 78 = .ok (.getfield 77, 3) := by decide +kernel
theorem dX5_reads_81 : decode cX5_reads 81 = .ok (.ifCond .eq 8, 3) := by decide +kernel
theorem dX5_reads_84 : decode cX5_reads 84 = .ok (.aload_n 0, 1) := by decide +kernel
theorem dX5_reads_85 : decode cX5_reads 85 = .ok (.iconst 1, 1) := by decide +kernel
theorem dX5_reads_86 : decode cX5_reads 86 = .ok (.invokevirtual 154, 3) := by decide +kernel
theorem dX5_reads_89 : decode cX5_reads 89 = .ok (.aload_n 0, 1) := by decide +kernel
theorem dX5_reads_90 : decode cX5_reads 90 = .ok (.getfield 20, 3) := by decide +kernel
theorem dX5_reads_93 : decode cX5_reads 93 = .ok (.iconst 0, 1) := by decide +kernel
theorem dX5_reads_94 : decode cX5_reads 94 = .ok (.iaload, 1) := by decide +kernel
theorem dX5_reads_95 : decode cX5_reads 95 = .ok (.iconst 2, 1) := by decide +kernel
theorem dX5_reads_96 : decode cX5_reads 96 = .ok (.if_icmp .lt 29, 3) := by decide +kernel
theorem dX5_reads_99 : decode cX5_reads 99 = .ok (.aload_n 0, 1) := by decide +kernel
theorem dX5_reads_100 : decode cX5_reads 100 = .ok (.invokevirtual 209, 3) := by decide +kernel
theorem dX5_reads_103 : decode cX5_reads 103 = .ok (.bipush 10, 2) := by decide +kernel
theorem dX5_reads_105 : decode cX5_reads 105 = .ok (.if_icmp .ne 20, 3) := by decide +kernel
theorem dX5_reads_108 : decode cX5_reads 108 = .ok (.aload_n 0, 1) := by decide +kernel
theorem dX5_reads_109 : decode cX5_reads 109 = .ok (.getfield 20, 3) := by decide +kernel
theorem dX5_reads_112 : decode cX5_reads 112 = .ok (.bipush 9, 2) := by decide +kernel
theorem dX5_reads_114 : decode cX5_reads 114 = .ok (.iaload, 1) := by decide +kernel
theorem dX5_reads_115 : decode cX5_reads 115 = .ok (.aload_n 0, 1) := by decide +kernel
theorem dX5_reads_116 : decode cX5_reads 116 = .ok (.getfield 20, 3) := by decide +kernel
theorem dX5_reads_119 : decode cX5_reads 119 = .ok (.bipush 8, 2) := by decide +kernel
theorem dX5_reads_121 : decode cX5_reads 121 = .ok (.iaload, 1) := by decide +kernel
theorem dX5_reads_122 : decode cX5_reads 122 = .ok (.if_icmp .ge 8, 3) := by decide +kernel
theorem dX5_reads_125 : decode cX5_reads 125 = .ok (.aload_n 0, 1) := by decide +kernel
theorem dX5_reads_126 : decode cX5_reads 126 = .ok (.iconst 5, 1) := by decide +kernel
theorem dX5_reads_127 : decode cX5_reads 127 = .ok (.invokevirtual 154, 3) := by decide +kernel
theorem dX5_reads_130 : decode cX5_reads 130 = .ok (.return_, 1) := by decide +kernel
theorem dX5_text_0 : decode cX5_text 0 = .ok (.aload_n 0, 1) := by decide +kernel
theorem dX5_text_1 : decode cX5_text 1 = .ok (.invokevirtual 212, 3) := by decide +kernel
theorem dX5_text_4 : decode cX5_text 4 = .ok (.aload_n 0, 1) := by decide +kernel
theorem dX5_text_5 : decode cX5_text 5 = .ok (.iload_n 1, 1) := by decide +kernel
theorem dX5_text_6 : decode cX5_text 6 = .ok (.i2l, 1) := by decide +kernel
theorem dX5_text_7 : decode cX5_text 7 = .ok (.lconst 0, 1) := by decide +kernel
theorem dX5_text_8 : decode cX5_text 8 = .ok (.aload_n 0, 1) := by decide +kernel
theorem dX5_text_9 : decode cX5_text 9 = .ok (.getfield 58, 3) := by decide +kernel
theorem dX5_text_12 : decode cX5_text 12 = .ok (.i2l, 1) := by decide +kernel
theorem dX5_text_13 : decode cX5_text 13 = .ok (.invokestatic 161, 3) := by decide +kernel
theorem dX5_text_16 : decode cX5_text 16 = .ok (.ifCond .ne 7, 3) := by decide +kernel
theorem dX5_text_19 : decode cX5_text 19 = .ok (.iconst 1, 1) := by decide +kernel
theorem dX5_text_20 : decode cX5_text 20 = .ok (.goto 4, 3) := by decide +kernel
theorem dX5_text_23 : decode cX5_text 23 = .ok (.iconst 0, 1) := by decide +kernel
theorem dX5_text_24 : decode cX5_text 24 = .ok (.iconst 2, 1) := by decide +kernel
theorem dX5_text_25 : decode cX5_text 25 = .ok (.invokevirtual 215, 3) := by decide +kernel
theorem dX5_text_28 : decode cX5_text 28 = .ok (.ifCond .eq 5, 3) := by decide +kernel
theorem dX5_text_31 : decode cX5_text 31 = .ok (.iconst (-1), 1) := by decide +kernel
theorem dX5_text_32 : decode cX5_text 32 = .ok (.ireturn, 1) := by decide +kernel
theorem dX5_text_33 : decode cX5_text 33 = .ok (.aload_n 0, 1) := by decide +kernel
theorem dX5_text_34 : decode cX5_text 34 = .ok (.iconst 0, 1) := by decide +kernel
theorem dX5_text_35 : decode cX5_text 35 = .ok (.putfield 58, 3) := by decide +kernel
theorem dX5_text_38 : decode cX5_text 38 = .ok (.aload_n 0, 1) := by decide +kernel
theorem dX5_text_39 : decode cX5_text 39 = .ok (.iload_n 1, 1) := by decide +kernel
theorem dX5_text_40 : decode cX5_text 40 = .ok (.invokevirtual 219, 3) := by decide +kernel
theorem dX5_text_43 : decode cX5_text 43 = .ok (.aload_n 0, 1) := by decide +kernel
theorem dX5_text_44 : decode cX5_text 44 = .ok (.aload_n 0, 1) := by decide +kernel
theorem dX5_text_45 : decode cX5_text 45 = .ok (.getfield 98, 3) := by decide +kernel
theorem dX5_text_48 : decode cX5_text 48 = .ok (.putfield 222, 3) := by decide +kernel
theorem dX5_text_51 : decode cX5_text 51 = .ok (.aload_n 0, 1) := by decide +kernel
theorem dX5_text_52 : decode cX5_text 52 = .ok (.aload_n 0, 1) := by decide +kernel
theorem dX5_text_53 : decode cX5_text 53 = .ok (.getfield 98, 3) := by decide +kernel
theorem dX5_text_56 : decode cX5_text 56 = .ok (.ifCond .eq 7, 3) := by decide +kernel
theorem dX5_text_59 : decode cX5_text 59 = .ok (.iconst 1, 1) := by decide +kernel
theorem dX5_text_60 : decode cX5_text 60 = .ok (.goto 4, 3) := by decide +kernel
theorem dX5_text_63 : decode cX5_text 63 = .ok (.iconst 0, 1) := by decide +kernel
theorem dX5_text_64 : decode cX5_text 64 = .ok (.iconst 4, 1) := by decide +kernel
theorem dX5_text_65 : decode cX5_text 65 = .ok (.invokevirtual 215, 3) := by decide +kernel
theorem dX5_text_68 : decode cX5_text 68 = .ok (.ifCond .eq 13, 3) := by decide +kernel
theorem dX5_text_71 : decode cX5_text 71 = .ok (.aload_n 0, 1) := by decide +kernel
theorem dX5_text_72 : decode cX5_text 72 = .ok (.aload_n 0, 1) := by decide +kernel
theorem dX5_text_73 : decode cX5_text 73 = .ok (.getfield 101, 3) := by decide +kernel
theorem dX5_text_76 : decode cX5_text 76 = .ok (.putfield 9, 3) := by decide +kernel
theorem dX5_text_79 : decode cX5_text 79 = .ok (.iconst (-1), 1) := by decide +kernel
theorem dX5_text_80 : decode cX5_text 80 = .ok (.ireturn, 1) := by decide +kernel
theorem dX5_text_81 : decode cX5_text 81 = .ok (.iconst 0, 1) := by decide +kernel
theorem dX5_text_82 : decode cX5_text 82 = .ok (.istore_n 2, 1) := by decide +kernel
theorem dX5_text_83 : decode cX5_text 83 = .ok (.iload_n 2, 1) := by decide +kernel
theorem dX5_text_84 : decode cX5_text 84 = .ok (.bipush 82, 2) := by decide +kernel
theorem dX5_text_86 : decode cX5_text 86 = .ok (.if_icmp .ge 21, 3) := by decide +kernel
theorem dX5_text_89 : decode cX5_text 89 = .ok (.aload_n 0, 1) := by decide +kernel
theorem dX5_text_90 : decode cX5_text 90 = .ok (.getfield 13, 3) := by decide +kernel
theorem dX5_text_93 : decode cX5_text 93 = .ok (.iload_n 2, 1) := by decide +kernel
theorem dX5_text_94 : decode cX5_text 94 = .ok (.aload_n 0, 1) := by decide +kernel
theorem dX5_text_95 : decode cX5_text 95 = .ok (.getfield 20, 3) := by decide +kernel
theorem dX5_text_98 : decode cX5_text 98 = .ok (.iload_n 2, 1) := by decide +kernel
theorem dX5_text_99 : decode cX5_text 99 = .ok (.iaload, 1) := by decide +kernel
theorem dX5_text_100 : decode cX5_text 100 = .ok (.iastore, 1) := by decide +kernel
theorem dX5_text_101 : decode cX5_text 101 = .ok (.iinc 2 1, 3) := by decide +kernel
theorem dX5_text_104 : decode cX5_text 104 = .ok (.goto (-21), 3) := by decide +kernel
theorem dX5_text_107 : decode cX5_text 107 = .ok (.iconst 0, 1) := by decide +kernel
theorem dX5_text_108 : decode cX5_text 108 = .ok (.istore_n 2, 1) := by decide +kernel
theorem dX5_text_109 : decode cX5_text 109 = .ok (.iload_n 2, 1) := by decide +kernel
theorem dX5_text_110 : decode cX5_text 110 = .ok (.iconst 4, 1) := by decide +kernel
theorem dX5_text_111 : decode cX5_text 111 = .ok (.if_icmp .ge 21, 3) := by decide +kernel
theorem dX5_text_114 : decode cX5_text 114 = .ok (.aload_n 0, 1) := by decide +kernel
theorem dX5_text_115 : decode cX5_text 115 = .ok (.getfield 33, 3) := by decide +kernel
theorem dX5_text_118 : decode cX5_text 118 = .ok (.iload_n 2, 1) := by decide +kernel
theorem dX5_text_119 : decode cX5_text 119 = .ok (.aload_n 0, 1) := by decide +kernel
theorem dX5_text_120 : decode cX5_text 120 = .ok (.getfield 37, 3) := by decide +kernel
theorem dX5_text_123 : decode cX5_text 123 = .ok (.iload_n 2, 1) := by decide +kernel
theorem dX5_text_124 : decode cX5_text 124 = .ok (.laload, 1) := by decide +kernel
theorem dX5_text_125 : decode cX5_text 125 = .ok (.lastore, 1) := by decide +kernel
theorem dX5_text_126 : decode cX5_text 126 = .ok (.iinc 2 1, 3) := by decide +kernel
theorem dX5_text_129 : decode cX5_text 129 = .ok (.goto (-20), 3) := by decide +kernel
theorem dX5_text_132 : decode cX5_text 132 = .ok (.aload_n 0, 1) := by decide +kernel
theorem dX5_text_133 : decode cX5_text 133 = .ok (.iconst 1, 1) := by decide +kernel
theorem dX5_text_134 : decode cX5_text 134 = .ok (.putfield 225, 3) := by decide +kernel
theorem dX5_text_137 : decode cX5_text 137 = .ok (.aload_n 0, 1) := by decide +kernel
theorem dX5_text_138 : decode cX5_text 138 = .ok (.iconst 0, 1) := by decide +kernel
theorem dX5_text_139 : decode cX5_text 139 = .ok (.putfield 229, 3) := by decide +kernel
theorem dX5_text_142 : decode cX5_text 142 = .ok (.aload_n 0, 1) := by decide +kernel
theorem dX5_text_143 : decode cX5_text 143 = .ok (.getfield 29, 3) := by decide +kernel
theorem dX5_text_146 : decode cX5_text 146 = .ok (.iconst 0, 1) := by decide +kernel
theorem dX5_text_147 : decode cX5_text 147 = .ok (.iconst 0, 1) := by decide +kernel
theorem dX5_text_148 : decode cX5_text 148 = .ok (.bastore, 1) := by decide +kernel
theorem dX5_text_149 : decode cX5_text 149 = .ok (.aload_n 0, 1) := by decide +kernel
theorem dX5_text_150 : decode cX5_text 150 = .ok (.getfield 29, 3) := by decide +kernel
theorem dX5_text_153 : decode cX5_text 153 = .ok (.iconst 1, 1) := by decide +kernel
theorem dX5_text_154 : decode cX5_text 154 = .ok (.iconst 0, 1) := by decide +kernel
theorem dX5_text_155 : decode cX5_text 155 = .ok (.bastore, 1) := by decide +kernel
theorem dX5_text_156 : decode cX5_text 156 = .ok (.aload_n 0, 1) := by decide +kernel
theorem dX5_text_157 : decode cX5_text 157 = .ok (.getfield 13, 3) := by decide +kernel
theorem dX5_text_160 : decode cX5_text 160 = .ok (.iconst 0, 1) := by decide +kernel
theorem dX5_text_161 : decode cX5_text 161 = .ok (.iaload, 1) := by decide +kernel
theorem dX5_text_162 : decode cX5_text 162 = .ok (.ireturn, 1) := by decide +kernel
theorem dX5_fault_0 : decode cX5_fault 0 = .ok (.aload_n 0, 1) := by decide +kernel
theorem dX5_fault_1 : decode cX5_fault 1 = .ok (.iconst 0, 1) := by decide +kernel
theorem dX5_fault_2 : decode cX5_fault 2 = .ok (.putfield 52, 3) := by decide +kernel
theorem dX5_fault_5 : decode cX5_fault 5 = .ok (.aload_n 0, 1) := by decide +kernel
theorem dX5_fault_6 : decode cX5_fault 6 = .ok (.getfield 222, 3) := by decide +kernel
theorem dX5_fault_9 : decode cX5_fault 9 = .ok (.ireturn, 1) := by decide +kernel
theorem dX5_where_0 : decode cX5_where 0 = .ok (.aload_n 0, 1) := by decide +kernel
theorem dX5_where_1 : decode cX5_where 1 = .ok (.iconst 0, 1) := by decide +kernel
theorem dX5_where_2 : decode cX5_where 2 = .ok (.putfield 52, 3) := by decide +kernel
theorem dX5_where_5 : decode cX5_where 5 = .ok (.aload_n 0, 1) := by decide +kernel
theorem dX5_where_6 : decode cX5_where 6 = .ok (.getfield 9, 3) := by decide +kernel
theorem dX5_where_9 : decode cX5_where 9 = .ok (.ireturn, 1) := by decide +kernel
theorem dX5_trouble_0 : decode cX5_trouble 0 = .ok (.aload_n 0, 1) := by decide +kernel
theorem dX5_trouble_1 : decode cX5_trouble 1 = .ok (.iconst 0, 1) := by decide +kernel
theorem dX5_trouble_2 : decode cX5_trouble 2 = .ok (.putfield 52, 3) := by decide +kernel
theorem dX5_trouble_5 : decode cX5_trouble 5 = .ok (.aload_n 0, 1) := by decide +kernel
theorem dX5_trouble_6 : decode cX5_trouble 6 = .ok (.getfield 55, 3) := by decide +kernel
theorem dX5_trouble_9 : decode cX5_trouble 9 = .ok (.ireturn, 1) := by decide +kernel
theorem dX5_isShip_0 : decode cX5_isShip 0 = .ok (.aload_n 0, 1) := by decide +kernel
theorem dX5_isShip_1 : decode cX5_isShip 1 = .ok (.getfield 225, 3) := by decide +kernel
theorem dX5_isShip_4 : decode cX5_isShip 4 = .ok (.ifCond .eq 25, 3) := by decide +kernel
theorem dX5_isShip_7 : decode cX5_isShip 7 = .ok (.iload_n 1, 1) := by decide +kernel
theorem dX5_isShip_8 : decode cX5_isShip 8 = .ok (.i2l, 1) := by decide +kernel
theorem dX5_isShip_9 : decode cX5_isShip 9 = .ok (.lconst 0, 1) := by decide +kernel
theorem dX5_isShip_10 : decode cX5_isShip 10 = .ok (.aload_n 0, 1) := by decide +kernel
theorem dX5_isShip_11 : decode cX5_isShip 11 = .ok (.getfield 13, 3) := by decide +kernel
theorem dX5_isShip_14 : decode cX5_isShip 14 = .ok (.iconst 0, 1) := by decide +kernel
theorem dX5_isShip_15 : decode cX5_isShip 15 = .ok (.iaload, 1) := by decide +kernel
theorem dX5_isShip_16 : decode cX5_isShip 16 = .ok (.iconst 1, 1) := by decide +kernel
theorem dX5_isShip_17 : decode cX5_isShip 17 = .ok (.isub, 1) := by decide +kernel
theorem dX5_isShip_18 : decode cX5_isShip 18 = .ok (.i2l, 1) := by decide +kernel
theorem dX5_isShip_19 : decode cX5_isShip 19 = .ok (.invokestatic 161, 3) := by decide +kernel
theorem dX5_isShip_22 : decode cX5_isShip 22 = .ok (.ifCond .eq 7, 3) := by decide +kernel
theorem dX5_isShip_25 : decode cX5_isShip 25 = .ok (.iconst 1, 1) := by decide +kernel
theorem dX5_isShip_26 : decode cX5_isShip 26 = .ok (.goto 4, 3) := by decide +kernel
theorem dX5_isShip_29 : decode cX5_isShip 29 = .ok (.iconst 0, 1) := by decide +kernel
theorem dX5_isShip_30 : decode cX5_isShip 30 = .ok (.ireturn, 1) := by decide +kernel
theorem dX5_isClaim_0 : decode cX5_isClaim 0 = .ok (.aload_n 0, 1) := by decide +kernel
theorem dX5_isClaim_1 : decode cX5_isClaim 1 = .ok (.getfield 225, 3) := by decide +kernel
theorem dX5_isClaim_4 : decode cX5_isClaim 4 = .ok (.ifCond .eq 25, 3) := by decide +kernel
theorem dX5_isClaim_7 : decode cX5_isClaim 7 = .ok (.iload_n 1, 1) := by decide +kernel
theorem dX5_isClaim_8 : decode cX5_isClaim 8 = .ok (.i2l, 1) := by decide +kernel
theorem dX5_isClaim_9 : decode cX5_isClaim 9 = .ok (.lconst 0, 1) := by decide +kernel
theorem dX5_isClaim_10 : decode cX5_isClaim 10 = .ok (.aload_n 0, 1) := by decide +kernel
theorem dX5_isClaim_11 : decode cX5_isClaim 11 = .ok (.getfield 13, 3) := by decide +kernel
theorem dX5_isClaim_14 : decode cX5_isClaim 14 = .ok (.iconst 1, 1) := by decide +kernel
theorem dX5_isClaim_15 : decode cX5_isClaim 15 = .ok (.iaload, 1) := by decide +kernel
theorem dX5_isClaim_16 : decode cX5_isClaim 16 = .ok (.iconst 1, 1) := by decide +kernel
theorem dX5_isClaim_17 : decode cX5_isClaim 17 = .ok (.isub, 1) := by decide +kernel
theorem dX5_isClaim_18 : decode cX5_isClaim 18 = .ok (.i2l, 1) := by decide +kernel
theorem dX5_isClaim_19 : decode cX5_isClaim 19 = .ok (.invokestatic 161, 3) := by decide +kernel
theorem dX5_isClaim_22 : decode cX5_isClaim 22 = .ok (.ifCond .eq 7, 3) := by decide +kernel
theorem dX5_isClaim_25 : decode cX5_isClaim 25 = .ok (.iconst 1, 1) := by decide +kernel
theorem dX5_isClaim_26 : decode cX5_isClaim 26 = .ok (.goto 4, 3) := by decide +kernel
theorem dX5_isClaim_29 : decode cX5_isClaim 29 = .ok (.iconst 0, 1) := by decide +kernel
theorem dX5_isClaim_30 : decode cX5_isClaim 30 = .ok (.ireturn, 1) := by decide +kernel
theorem dX5_ofShip_0 : decode cX5_ofShip 0 = .ok (.aload_n 0, 1) := by decide +kernel
theorem dX5_ofShip_1 : decode cX5_ofShip 1 = .ok (.bipush 10, 2) := by decide +kernel
theorem dX5_ofShip_3 : decode cX5_ofShip 3 = .ok (.bipush 6, 2) := by decide +kernel
theorem dX5_ofShip_5 : decode cX5_ofShip 5 = .ok (.iload_n 1, 1) := by decide +kernel
theorem dX5_ofShip_6 : decode cX5_ofShip 6 = .ok (.imul, 1) := by decide +kernel
theorem dX5_ofShip_7 : decode cX5_ofShip 7 = .ok (.iadd, 1) := by decide +kernel
theorem dX5_ofShip_8 : decode cX5_ofShip 8 = .ok (.iload_n 2, 1) := by decide +kernel
theorem dX5_ofShip_9 : decode cX5_ofShip 9 = .ok (.iadd, 1) := by decide +kernel
theorem dX5_ofShip_10 : decode cX5_ofShip 10 = .ok (.iaload, 1) := by decide +kernel
theorem dX5_ofShip_11 : decode cX5_ofShip 11 = .ok (.ireturn, 1) := by decide +kernel
theorem dX5_ofClaim_0 : decode cX5_ofClaim 0 = .ok (.aload_n 0, 1) := by decide +kernel
theorem dX5_ofClaim_1 : decode cX5_ofClaim 1 = .ok (.bipush 34, 2) := by decide +kernel
theorem dX5_ofClaim_3 : decode cX5_ofClaim 3 = .ok (.iconst 4, 1) := by decide +kernel
theorem dX5_ofClaim_4 : decode cX5_ofClaim 4 = .ok (.iload_n 1, 1) := by decide +kernel
theorem dX5_ofClaim_5 : decode cX5_ofClaim 5 = .ok (.imul, 1) := by decide +kernel
theorem dX5_ofClaim_6 : decode cX5_ofClaim 6 = .ok (.iadd, 1) := by decide +kernel
theorem dX5_ofClaim_7 : decode cX5_ofClaim 7 = .ok (.iload_n 2, 1) := by decide +kernel
theorem dX5_ofClaim_8 : decode cX5_ofClaim 8 = .ok (.iadd, 1) := by decide +kernel
theorem dX5_ofClaim_9 : decode cX5_ofClaim 9 = .ok (.iaload, 1) := by decide +kernel
theorem dX5_ofClaim_10 : decode cX5_ofClaim 10 = .ok (.ireturn, 1) := by decide +kernel
theorem dX5_about_0 : decode cX5_about 0 = .ok (.aload_n 0, 1) := by decide +kernel
theorem dX5_about_1 : decode cX5_about 1 = .ok (.invokevirtual 212, 3) := by decide +kernel
theorem dX5_about_4 : decode cX5_about 4 = .ok (.aload_n 0, 1) := by decide +kernel
theorem dX5_about_5 : decode cX5_about 5 = .ok (.aload_n 0, 1) := by decide +kernel
theorem dX5_about_6 : decode cX5_about 6 = .ok (.getfield 225, 3) := by decide +kernel
theorem dX5_about_9 : decode cX5_about 9 = .ok (.ifCond .eq 15, 3) := by decide +kernel
theorem dX5_about_12 : decode cX5_about 12 = .ok (.iload_n 1, 1) := by decide +kernel
theorem dX5_about_13 : decode cX5_about 13 = .ok (.i2l, 1) := by decide +kernel
theorem dX5_about_14 : decode cX5_about 14 = .ok (.lconst 0, 1) := by decide +kernel
theorem dX5_about_15 : decode cX5_about 15 = .ok (.ldc2_w 232, 3) := by decide +kernel
theorem dX5_about_18 : decode cX5_about 18 = .ok (.invokestatic 161, 3) := by decide +kernel
theorem dX5_about_21 : decode cX5_about 21 = .ok (.ifCond .ne 7, 3) := by decide +kernel
theorem dX5_about_24 : decode cX5_about 24 = .ok (.iconst 1, 1) := by decide +kernel
theorem dX5_about_25 : decode cX5_about 25 = .ok (.goto 4, 3) := by decide +kernel
theorem dX5_about_28 : decode cX5_about 28 = .ok (.iconst 0, 1) := by decide +kernel
theorem dX5_about_29 : decode cX5_about 29 = .ok (.iconst 1, 1) := by decide +kernel
theorem dX5_about_30 : decode cX5_about 30 = .ok (.invokevirtual 215, 3) := by decide +kernel
theorem dX5_about_33 : decode cX5_about 33 = .ok (.ifCond .eq 5, 3) := by decide +kernel
theorem dX5_about_36 : decode cX5_about 36 = .ok (.iconst (-1), 1) := by decide +kernel
theorem dX5_about_37 : decode cX5_about 37 = .ok (.ireturn, 1) := by decide +kernel
theorem dX5_about_38 : decode cX5_about 38 = .ok (.iload_n 1, 1) := by decide +kernel
theorem dX5_about_39 : decode cX5_about 39 = .ok (.bipush 10, 2) := by decide +kernel
theorem dX5_about_41 : decode cX5_about 41 = .ok (.if_icmp .ne 10, 3) := by decide +kernel
theorem dX5_about_44 : decode cX5_about 44 = .ok (.aload_n 0, 1) := by decide +kernel
theorem dX5_about_45 : decode cX5_about 45 = .ok (.getfield 229, 3) := by decide +kernel
theorem dX5_about_48 : decode cX5_about 48 = .ok (.goto 9, 3) := by decide +kernel
theorem dX5_about_51 : decode cX5_about 51 = .ok (.aload_n 0, 1) := by decide +kernel
theorem dX5_about_52 : decode cX5_about 52 = .ok (.getfield 13, 3) := by decide +kernel
theorem dX5_about_55 : decode cX5_about 55 = .ok (.iload_n 1, 1) := by decide +kernel
theorem dX5_about_56 : decode cX5_about 56 = .ok (.iaload, 1) := by decide +kernel
theorem dX5_about_57 : decode cX5_about 57 = .ok (.ireturn, 1) := by decide +kernel
theorem dX5_ship_0 : decode cX5_ship 0 = .ok (.aload_n 0, 1) := by decide +kernel
theorem dX5_ship_1 : decode cX5_ship 1 = .ok (.invokevirtual 212, 3) := by decide +kernel
theorem dX5_ship_4 : decode cX5_ship 4 = .ok (.aload_n 0, 1) := by decide +kernel
theorem dX5_ship_5 : decode cX5_ship 5 = .ok (.aload_n 0, 1) := by decide +kernel
theorem dX5_ship_6 : decode cX5_ship 6 = .ok (.iload_n 1, 1) := by decide +kernel
theorem dX5_ship_7 : decode cX5_ship 7 = .ok (.invokevirtual 234, 3) := by decide +kernel
theorem dX5_ship_10 : decode cX5_ship 10 = .ok (.ifCond .eq 15, 3) := by decide +kernel
theorem dX5_ship_13 : decode cX5_ship 13 = .ok (.iload_n 2, 1) := by decide +kernel
theorem dX5_ship_14 : decode cX5_ship 14 = .ok (.i2l, 1) := by decide +kernel
theorem dX5_ship_15 : decode cX5_ship 15 = .ok (.lconst 0, 1) := by decide +kernel
theorem dX5_ship_16 : decode cX5_ship 16 = .ok (.ldc2_w 237, 3) := by decide +kernel
theorem dX5_ship_19 : decode cX5_ship 19 = .ok (.invokestatic 161, 3) := by decide +kernel
theorem dX5_ship_22 : decode cX5_ship 22 = .ok (.ifCond .ne 7, 3) := by decide +kernel
theorem dX5_ship_25 : decode cX5_ship 25 = .ok (.iconst 1, 1) := by decide +kernel
theorem dX5_ship_26 : decode cX5_ship 26 = .ok (.goto 4, 3) := by decide +kernel
theorem dX5_ship_29 : decode cX5_ship 29 = .ok (.iconst 0, 1) := by decide +kernel
theorem dX5_ship_30 : decode cX5_ship 30 = .ok (.iconst 1, 1) := by decide +kernel
theorem dX5_ship_31 : decode cX5_ship 31 = .ok (.invokevirtual 215, 3) := by decide +kernel
theorem dX5_ship_34 : decode cX5_ship 34 = .ok (.ifCond .eq 5, 3) := by decide +kernel
theorem dX5_ship_37 : decode cX5_ship 37 = .ok (.iconst (-1), 1) := by decide +kernel
theorem dX5_ship_38 : decode cX5_ship 38 = .ok (.ireturn, 1) := by decide +kernel
theorem dX5_ship_39 : decode cX5_ship 39 = .ok (.iload_n 2, 1) := by decide +kernel
theorem dX5_ship_40 : decode cX5_ship 40 = .ok (.bipush 6, 2) := by decide +kernel
theorem dX5_ship_42 : decode cX5_ship 42 = .ok (.if_icmp .ne 14, 3) := by decide +kernel
theorem dX5_ship_45 : decode cX5_ship 45 = .ok (.aload_n 0, 1) := by decide +kernel
theorem dX5_ship_46 : decode cX5_ship 46 = .ok (.getfield 13, 3) := by decide +kernel
theorem dX5_ship_49 : decode cX5_ship 49 = .ok (.iload_n 1, 1) := by decide +kernel
theorem dX5_ship_50 : decode cX5_ship 50 = .ok (.invokestatic 239, 3) := by decide +kernel
theorem dX5_ship_53 : decode cX5_ship 53 = .ok (.goto 12, 3) := by decide +kernel
theorem dX5_ship_56 : decode cX5_ship 56 = .ok (.aload_n 0, 1) := by decide +kernel
theorem dX5_ship_57 : decode cX5_ship 57 = .ok (.getfield 13, 3) := by decide +kernel
theorem dX5_ship_60 : decode cX5_ship 60 = .ok (.iload_n 1, 1) := by decide +kernel
theorem dX5_ship_61 : decode cX5_ship 61 = .ok (.iload_n 2, 1) := by decide +kernel
theorem dX5_ship_62 : decode cX5_ship 62 = .ok (.invokestatic 243, 3) := by decide +kernel
theorem dX5_ship_65 : decode cX5_ship 65 = .ok (.ireturn, 1) := by decide +kernel
theorem dX5_claim_0 : decode cX5_claim 0 = .ok (.aload_n 0, 1) := by decide +kernel
theorem dX5_claim_1 : decode cX5_claim 1 = .ok (.invokevirtual 212, 3) := by decide +kernel
theorem dX5_claim_4 : decode cX5_claim 4 = .ok (.aload_n 0, 1) := by decide +kernel
theorem dX5_claim_5 : decode cX5_claim 5 = .ok (.aload_n 0, 1) := by decide +kernel
theorem dX5_claim_6 : decode cX5_claim 6 = .ok (.iload_n 1, 1) := by decide +kernel
theorem dX5_claim_7 : decode cX5_claim 7 = .ok (.invokevirtual 247, 3) := by decide +kernel
theorem dX5_claim_10 : decode cX5_claim 10 = .ok (.ifCond .eq 15, 3) := by decide +kernel
theorem dX5_claim_13 : decode cX5_claim 13 = .ok (.iload_n 2, 1) := by decide +kernel
theorem dX5_claim_14 : decode cX5_claim 14 = .ok (.i2l, 1) := by decide +kernel
theorem dX5_claim_15 : decode cX5_claim 15 = .ok (.lconst 0, 1) := by decide +kernel
theorem dX5_claim_16 : decode cX5_claim 16 = .ok (.ldc2_w 250, 3) := by decide +kernel
theorem dX5_claim_19 : decode cX5_claim 19 = .ok (.invokestatic 161, 3) := by decide +kernel
theorem dX5_claim_22 : decode cX5_claim 22 = .ok (.ifCond .ne 7, 3) := by decide +kernel
theorem dX5_claim_25 : decode cX5_claim 25 = .ok (.iconst 1, 1) := by decide +kernel
theorem dX5_claim_26 : decode cX5_claim 26 = .ok (.goto 4, 3) := by decide +kernel
theorem dX5_claim_29 : decode cX5_claim 29 = .ok (.iconst 0, 1) := by decide +kernel
theorem dX5_claim_30 : decode cX5_claim 30 = .ok (.iconst 1, 1) := by decide +kernel
theorem dX5_claim_31 : decode cX5_claim 31 = .ok (.invokevirtual 215, 3) := by decide +kernel
theorem dX5_claim_34 : decode cX5_claim 34 = .ok (.ifCond .eq 5, 3) := by decide +kernel
theorem dX5_claim_37 : decode cX5_claim 37 = .ok (.iconst (-1), 1) := by decide +kernel
theorem dX5_claim_38 : decode cX5_claim 38 = .ok (.ireturn, 1) := by decide +kernel
theorem dX5_claim_39 : decode cX5_claim 39 = .ok (.iload_n 2, 1) := by decide +kernel
theorem dX5_claim_40 : decode cX5_claim 40 = .ok (.iconst 4, 1) := by decide +kernel
theorem dX5_claim_41 : decode cX5_claim 41 = .ok (.if_icmp .ne 14, 3) := by decide +kernel
theorem dX5_claim_44 : decode cX5_claim 44 = .ok (.aload_n 0, 1) := by decide +kernel
theorem dX5_claim_45 : decode cX5_claim 45 = .ok (.getfield 13, 3) := by decide +kernel
theorem dX5_claim_48 : decode cX5_claim 48 = .ok (.iload_n 1, 1) := by decide +kernel
theorem dX5_claim_49 : decode cX5_claim 49 = .ok (.invokestatic 252, 3) := by decide +kernel
theorem dX5_claim_52 : decode cX5_claim 52 = .ok (.goto 12, 3) := by decide +kernel
theorem dX5_claim_55 : decode cX5_claim 55 = .ok (.aload_n 0, 1) := by decide +kernel
theorem dX5_claim_56 : decode cX5_claim 56 = .ok (.getfield 13, 3) := by decide +kernel
theorem dX5_claim_59 : decode cX5_claim 59 = .ok (.iload_n 1, 1) := by decide +kernel
theorem dX5_claim_60 : decode cX5_claim 60 = .ok (.iload_n 2, 1) := by decide +kernel
theorem dX5_claim_61 : decode cX5_claim 61 = .ok (.invokestatic 255, 3) := by decide +kernel
theorem dX5_claim_64 : decode cX5_claim 64 = .ok (.ireturn, 1) := by decide +kernel
theorem dX5_letter_0 : decode cX5_letter 0 = .ok (.aload_n 0, 1) := by decide +kernel
theorem dX5_letter_1 : decode cX5_letter 1 = .ok (.iconst 0, 1) := by decide +kernel
theorem dX5_letter_2 : decode cX5_letter 2 = .ok (.putfield 52, 3) := by decide +kernel
theorem dX5_letter_5 : decode cX5_letter 5 = .ok (.aload_n 0, 1) := by decide +kernel
theorem dX5_letter_6 : decode cX5_letter 6 = .ok (.iload_n 1, 1) := by decide +kernel
theorem dX5_letter_7 : decode cX5_letter 7 = .ok (.invokevirtual 234, 3) := by decide +kernel
theorem dX5_letter_10 : decode cX5_letter 10 = .ok (.ifCond .ne 10, 3) := by decide +kernel
theorem dX5_letter_13 : decode cX5_letter 13 = .ok (.aload_n 0, 1) := by decide +kernel
theorem dX5_letter_14 : decode cX5_letter 14 = .ok (.iconst 1, 1) := by decide +kernel
theorem dX5_letter_15 : decode cX5_letter 15 = .ok (.putfield 52, 3) := by decide +kernel
theorem dX5_letter_18 : decode cX5_letter 18 = .ok (.iconst 0, 1) := by decide +kernel
theorem dX5_letter_19 : decode cX5_letter 19 = .ok (.ireturn, 1) := by decide +kernel
theorem dX5_letter_20 : decode cX5_letter 20 = .ok (.iconst 0, 1) := by decide +kernel
theorem dX5_letter_21 : decode cX5_letter 21 = .ok (.istore_n 3, 1) := by decide +kernel
theorem dX5_letter_22 : decode cX5_letter 22 = .ok (.aload_n 0, 1) := by decide +kernel
theorem dX5_letter_23 : decode cX5_letter 23 = .ok (.getfield 33, 3) := by decide +kernel
theorem dX5_letter_26 : decode cX5_letter 26 = .ok (.iload_n 1, 1) := by decide +kernel
theorem dX5_letter_27 : decode cX5_letter 27 = .ok (.laload, 1) := by decide +kernel
theorem dX5_letter_28 : decode cX5_letter 28 = .ok (.lstore 4, 2) := by decide +kernel
theorem dX5_letter_30 : decode cX5_letter 30 = .ok (.lload 4, 2) := by decide +kernel
theorem dX5_letter_32 : decode cX5_letter 32 = .ok (.lconst 0, 1) := by decide +kernel
theorem dX5_letter_33 : decode cX5_letter 33 = .ok (.lcmp, 1) := by decide +kernel
theorem dX5_letter_34 : decode cX5_letter 34 = .ok (.ifCond .le 17, 3) := by decide +kernel
theorem dX5_letter_37 : decode cX5_letter 37 = .ok (.iinc 3 1, 3) := by decide +kernel
theorem dX5_letter_40 : decode cX5_letter 40 = .ok (.lload 4, 2) := by decide +kernel
theorem dX5_letter_42 : decode cX5_letter 42 = .ok (.ldc2_w 88, 3) := by decide +kernel
theorem dX5_letter_45 : decode cX5_letter 45 = .ok (.ldiv, 1) := by decide +kernel
theorem dX5_letter_46 : decode cX5_letter 46 = .ok (.lstore 4, 2) := by decide +kernel
theorem dX5_letter_48 : decode cX5_letter 48 = .ok (.goto (-18), 3) := by decide +kernel
theorem dX5_letter_51 : decode cX5_letter 51 = .ok (.iload_n 2, 1) := by decide +kernel
theorem dX5_letter_52 : decode cX5_letter 52 = .ok (.i2l, 1) := by decide +kernel
theorem dX5_letter_53 : decode cX5_letter 53 = .ok (.lconst 0, 1) := by decide +kernel
theorem dX5_letter_54 : decode cX5_letter 54 = .ok (.iload_n 3, 1) := by decide +kernel
theorem dX5_letter_55 : decode cX5_letter 55 = .ok (.iconst 1, 1) := by decide +kernel
theorem dX5_letter_56 : decode cX5_letter 56 = .ok (.isub, 1) := by decide +kernel
theorem dX5_letter_57 : decode cX5_letter 57 = .ok (.i2l, 1) := by decide +kernel
theorem dX5_letter_58 : decode cX5_letter 58 = .ok (.invokestatic 161, 3) := by decide +kernel
theorem dX5_letter_61 : decode cX5_letter 61 = .ok (.ifCond .ne 10, 3) := by decide +kernel
theorem dX5_letter_64 : decode cX5_letter 64 = .ok (.aload_n 0, 1) := by decide +kernel
theorem dX5_letter_65 : decode cX5_letter 65 = .ok (.iconst 1, 1) := by decide +kernel
theorem dX5_letter_66 : decode cX5_letter 66 = .ok (.putfield 52, 3) := by decide +kernel
theorem dX5_letter_69 : decode cX5_letter 69 = .ok (.iconst 0, 1) := by decide +kernel
theorem dX5_letter_70 : decode cX5_letter 70 = .ok (.ireturn, 1) := by decide +kernel
theorem dX5_letter_71 : decode cX5_letter 71 = .ok (.aload_n 0, 1) := by decide +kernel
theorem dX5_letter_72 : decode cX5_letter 72 = .ok (.getfield 33, 3) := by decide +kernel
theorem dX5_letter_75 : decode cX5_letter 75 = .ok (.iload_n 1, 1) := by decide +kernel
theorem dX5_letter_76 : decode cX5_letter 76 = .ok (.laload, 1) := by decide +kernel
theorem dX5_letter_77 : decode cX5_letter 77 = .ok (.lstore 4, 2) := by decide +kernel
theorem dX5_letter_79 : decode cX5_letter 79 = .ok (.iload_n 3, 1) := by decide +kernel
theorem dX5_letter_80 : decode cX5_letter 80 = .ok (.iconst 1, 1) := by decide +kernel
theorem dX5_letter_81 : decode cX5_letter 81 = .ok (.isub, 1) := by decide +kernel
theorem dX5_letter_82 : decode cX5_letter 82 = .ok (.istore 6, 2) := by decide +kernel
theorem dX5_letter_84 : decode cX5_letter 84 = .ok (.iload 6, 2) := by decide +kernel
theorem dX5_letter_86 : decode cX5_letter 86 = .ok (.iload_n 2, 1) := by decide +kernel
theorem dX5_letter_87 : decode cX5_letter 87 = .ok (.if_icmp .le 17, 3) := by decide +kernel
theorem dX5_letter_90 : decode cX5_letter 90 = .ok (.lload 4, 2) := by decide +kernel
theorem dX5_letter_92 : decode cX5_letter 92 = .ok (.ldc2_w 88, 3) := by decide +kernel
theorem dX5_letter_95 : decode cX5_letter 95 = .ok (.ldiv, 1) := by decide +kernel
theorem dX5_letter_96 : decode cX5_letter 96 = .ok (.lstore 4, 2) := by decide +kernel
theorem dX5_letter_98 : decode cX5_letter 98 = .ok (.iinc 6 (-1), 3) := by decide +kernel
theorem dX5_letter_101 : decode cX5_letter 101 = .ok (.goto (-17), 3) := by decide +kernel
theorem dX5_letter_104 : decode cX5_letter 104 = .ok (.lload 4, 2) := by decide +kernel
theorem dX5_letter_106 : decode cX5_letter 106 = .ok (.ldc2_w 88, 3) := by decide +kernel
theorem dX5_letter_109 : decode cX5_letter 109 = .ok (.lrem, 1) := by decide +kernel
theorem dX5_letter_110 : decode cX5_letter 110 = .ok (.l2i, 1) := by decide +kernel
theorem dX5_letter_111 : decode cX5_letter 111 = .ok (.iconst 1, 1) := by decide +kernel
theorem dX5_letter_112 : decode cX5_letter 112 = .ok (.isub, 1) := by decide +kernel
theorem dX5_letter_113 : decode cX5_letter 113 = .ok (.ireturn, 1) := by decide +kernel
theorem dX5_weightOf_0 : decode cX5_weightOf 0 = .ok (.aload_n 0, 1) := by decide +kernel
theorem dX5_weightOf_1 : decode cX5_weightOf 1 = .ok (.iload_n 1, 1) := by decide +kernel
theorem dX5_weightOf_2 : decode cX5_weightOf 2 = .ok (.iconst 1, 1) := by decide +kernel
theorem dX5_weightOf_3 : decode cX5_weightOf 3 = .ok (.invokestatic 243, 3) := by decide +kernel
theorem dX5_weightOf_6 : decode cX5_weightOf 6 = .ok (.istore_n 2, 1) := by decide +kernel
theorem dX5_weightOf_7 : decode cX5_weightOf 7 = .ok (.aload_n 0, 1) := by decide +kernel
theorem dX5_weightOf_8 : decode cX5_weightOf 8 = .ok (.iconst 2, 1) := by decide +kernel
theorem dX5_weightOf_9 : decode cX5_weightOf 9 = .ok (.iaload, 1) := by decide +kernel
theorem dX5_weightOf_10 : decode cX5_weightOf 10 = .ok (.iconst 1, 1) := by decide +kernel
theorem dX5_weightOf_11 : decode cX5_weightOf 11 = .ok (.if_icmp .ne 15, 3) := by decide +kernel
theorem dX5_weightOf_14 : decode cX5_weightOf 14 = .ok (.iload_n 2, 1) := by decide +kernel
theorem dX5_weightOf_15 : decode cX5_weightOf 15 = .ok (.ifCond .le 7, 3) := by decide +kernel
theorem dX5_weightOf_18 : decode cX5_weightOf 18 = .ok (.iconst 1, 1) := by decide +kernel
theorem dX5_weightOf_19 : decode cX5_weightOf 19 = .ok (.goto 8, 3) := by decide +kernel
theorem dX5_weightOf_22 : decode cX5_weightOf 22 = .ok (.iconst 0, 1) := by decide +kernel
theorem dX5_weightOf_23 : decode cX5_weightOf 23 = .ok (.goto 4, 3) := by decide +kernel
theorem dX5_weightOf_26 : decode cX5_weightOf 26 = .ok (.iload_n 2, 1) := by decide +kernel
theorem dX5_weightOf_27 : decode cX5_weightOf 27 = .ok (.ireturn, 1) := by decide +kernel
theorem dX5_weightsOf_0 : decode cX5_weightsOf 0 = .ok (.iconst 0, 1) := by decide +kernel
theorem dX5_weightsOf_1 : decode cX5_weightsOf 1 = .ok (.istore_n 1, 1) := by decide +kernel
theorem dX5_weightsOf_2 : decode cX5_weightsOf 2 = .ok (.iconst 0, 1) := by decide +kernel
theorem dX5_weightsOf_3 : decode cX5_weightsOf 3 = .ok (.istore_n 2, 1) := by decide +kernel
theorem dX5_weightsOf_4 : decode cX5_weightsOf 4 = .ok (.iload_n 2, 1) := by decide +kernel
theorem dX5_weightsOf_5 : decode cX5_weightsOf 5 = .ok (.aload_n 0, 1) := by decide +kernel
theorem dX5_weightsOf_6 : decode cX5_weightsOf 6 = .ok (.iconst 0, 1) := by decide +kernel
theorem dX5_weightsOf_7 : decode cX5_weightsOf 7 = .ok (.iaload, 1) := by decide +kernel
theorem dX5_weightsOf_8 : decode cX5_weightsOf 8 = .ok (.if_icmp .ge 17, 3) := by decide +kernel
theorem dX5_weightsOf_11 : decode cX5_weightsOf 11 = .ok (.iload_n 1, 1) := by decide +kernel
theorem dX5_weightsOf_12 : decode cX5_weightsOf 12 = .ok (.aload_n 0, 1) := by decide +kernel
theorem dX5_weightsOf_13 : decode cX5_weightsOf 13 = .ok (.iload_n 2, 1) := by decide +kernel
theorem dX5_weightsOf_14 : decode cX5_weightsOf 14 = .ok (.invokestatic 239, 3) := by decide +kernel
theorem dX5_weightsOf_17 : decode cX5_weightsOf 17 = .ok (.iadd, 1) := by decide +kernel
theorem dX5_weightsOf_18 : decode cX5_weightsOf 18 = .ok (.istore_n 1, 1) := by decide +kernel
theorem dX5_weightsOf_19 : decode cX5_weightsOf 19 = .ok (.iinc 2 1, 3) := by decide +kernel
theorem dX5_weightsOf_22 : decode cX5_weightsOf 22 = .ok (.goto (-18), 3) := by decide +kernel
theorem dX5_weightsOf_25 : decode cX5_weightsOf 25 = .ok (.iload_n 1, 1) := by decide +kernel
theorem dX5_weightsOf_26 : decode cX5_weightsOf 26 = .ok (.ireturn, 1) := by decide +kernel
theorem dX5_roundOf_0 : decode cX5_roundOf 0 = .ok (.aload_n 0, 1) := by decide +kernel
theorem dX5_roundOf_1 : decode cX5_roundOf 1 = .ok (.iload_n 1, 1) := by decide +kernel
theorem dX5_roundOf_2 : decode cX5_roundOf 2 = .ok (.iconst 3, 1) := by decide +kernel
theorem dX5_roundOf_3 : decode cX5_roundOf 3 = .ok (.invokestatic 255, 3) := by decide +kernel
theorem dX5_roundOf_6 : decode cX5_roundOf 6 = .ok (.istore_n 2, 1) := by decide +kernel
theorem dX5_roundOf_7 : decode cX5_roundOf 7 = .ok (.iload_n 2, 1) := by decide +kernel
theorem dX5_roundOf_8 : decode cX5_roundOf 8 = .ok (.aload_n 0, 1) := by decide +kernel
theorem dX5_roundOf_9 : decode cX5_roundOf 9 = .ok (.bipush 8, 2) := by decide +kernel
theorem dX5_roundOf_11 : decode cX5_roundOf 11 = .ok (.iaload, 1) := by decide +kernel
theorem dX5_roundOf_12 : decode cX5_roundOf 12 = .ok (.if_icmp .gt 7, 3) := by decide +kernel
theorem dX5_roundOf_15 : decode cX5_roundOf 15 = .ok (.iconst 0, 1) := by decide +kernel
theorem dX5_roundOf_16 : decode cX5_roundOf 16 = .ok (.goto 17, 3) := by decide +kernel
theorem dX5_roundOf_19 : decode cX5_roundOf 19 = .ok (.iload_n 2, 1) := by decide +kernel
theorem dX5_roundOf_20 : decode cX5_roundOf 20 = .ok (.aload_n 0, 1) := by decide +kernel
theorem dX5_roundOf_21 : decode cX5_roundOf 21 = .ok (.bipush 9, 2) := by decide +kernel
theorem dX5_roundOf_23 : decode cX5_roundOf 23 = .ok (.iaload, 1) := by decide +kernel
theorem dX5_roundOf_24 : decode cX5_roundOf 24 = .ok (.if_icmp .gt 7, 3) := by decide +kernel
theorem dX5_roundOf_27 : decode cX5_roundOf 27 = .ok (.iconst 1, 1) := by decide +kernel
theorem dX5_roundOf_28 : decode cX5_roundOf 28 = .ok (.goto 5, 3) := by decide +kernel
theorem dX5_roundOf_31 : decode cX5_roundOf 31 = .ok (.bipush (-2), 2) := by decide +kernel
theorem dX5_roundOf_33 : decode cX5_roundOf 33 = .ok (.ireturn, 1) := by decide +kernel
theorem dX5_partOf_0 : decode cX5_partOf 0 = .ok (.lload_n 2, 1) := by decide +kernel
theorem dX5_partOf_1 : decode cX5_partOf 1 = .ok (.aload_n 0, 1) := by decide +kernel
theorem dX5_partOf_2 : decode cX5_partOf 2 = .ok (.iload_n 1, 1) := by decide +kernel
theorem dX5_partOf_3 : decode cX5_partOf 3 = .ok (.invokestatic 239, 3) := by decide +kernel
theorem dX5_partOf_6 : decode cX5_partOf 6 = .ok (.i2l, 1) := by decide +kernel
theorem dX5_partOf_7 : decode cX5_partOf 7 = .ok (.lmul, 1) := by decide +kernel
theorem dX5_partOf_8 : decode cX5_partOf 8 = .ok (.aload_n 0, 1) := by decide +kernel
theorem dX5_partOf_9 : decode cX5_partOf 9 = .ok (.invokestatic 258, 3) := by decide +kernel
theorem dX5_partOf_12 : decode cX5_partOf 12 = .ok (.i2l, 1) := by decide +kernel
theorem dX5_partOf_13 : decode cX5_partOf 13 = .ok (.ldiv, 1) := by decide +kernel
theorem dX5_partOf_14 : decode cX5_partOf 14 = .ok (.lreturn, 1) := by decide +kernel
theorem dX5_debtOf_0 : decode cX5_debtOf 0 = .ok (.aload_n 0, 1) := by decide +kernel
theorem dX5_debtOf_1 : decode cX5_debtOf 1 = .ok (.iload_n 2, 1) := by decide +kernel
theorem dX5_debtOf_2 : decode cX5_debtOf 2 = .ok (.invokestatic 252, 3) := by decide +kernel
theorem dX5_debtOf_5 : decode cX5_debtOf 5 = .ok (.ifCond .lt 13, 3) := by decide +kernel
theorem dX5_debtOf_8 : decode cX5_debtOf 8 = .ok (.aload_n 0, 1) := by decide +kernel
theorem dX5_debtOf_9 : decode cX5_debtOf 9 = .ok (.iload_n 2, 1) := by decide +kernel
theorem dX5_debtOf_10 : decode cX5_debtOf 10 = .ok (.iconst 1, 1) := by decide +kernel
theorem dX5_debtOf_11 : decode cX5_debtOf 11 = .ok (.invokestatic 255, 3) := by decide +kernel
theorem dX5_debtOf_14 : decode cX5_debtOf 14 = .ok (.iload_n 1, 1) := by decide +kernel
theorem dX5_debtOf_15 : decode cX5_debtOf 15 = .ok (.if_icmp .ne 5, 3) := by decide +kernel
theorem dX5_debtOf_18 : decode cX5_debtOf 18 = .ok (.lconst 0, 1) := by decide +kernel
theorem dX5_debtOf_19 : decode cX5_debtOf 19 = .ok (.lreturn, 1) := by decide +kernel
theorem dX5_debtOf_20 : decode cX5_debtOf 20 = .ok (.aload_n 0, 1) := by decide +kernel
theorem dX5_debtOf_21 : decode cX5_debtOf 21 = .ok (.iload_n 2, 1) := by decide +kernel
theorem dX5_debtOf_22 : decode cX5_debtOf 22 = .ok (.iconst 2, 1) := by decide +kernel
theorem dX5_debtOf_23 : decode cX5_debtOf 23 = .ok (.invokestatic 255, 3) := by decide +kernel
theorem dX5_debtOf_26 : decode cX5_debtOf 26 = .ok (.i2l, 1) := by decide +kernel
theorem dX5_debtOf_27 : decode cX5_debtOf 27 = .ok (.lstore_n 3, 1) := by decide +kernel
theorem dX5_debtOf_28 : decode cX5_debtOf 28 = .ok (.aload_n 0, 1) := by decide +kernel
theorem dX5_debtOf_29 : decode cX5_debtOf 29 = .ok (.iload_n 2, 1) := by decide +kernel
theorem dX5_debtOf_30 : decode cX5_debtOf 30 = .ok (.iconst 0, 1) := by decide +kernel
theorem dX5_debtOf_31 : decode cX5_debtOf 31 = .ok (.invokestatic 255, 3) := by decide +kernel
theorem dX5_debtOf_34 : decode cX5_debtOf 34 = .ok (.ifCond .ne 9, 3) := by decide +kernel
theorem dX5_debtOf_37 : decode cX5_debtOf 37 = .ok (.aload_n 0, 1) := by decide +kernel
theorem dX5_debtOf_38 : decode cX5_debtOf 38 = .ok (.iconst 3, 1) := by decide +kernel
theorem dX5_debtOf_39 : decode cX5_debtOf 39 = .ok (.iaload, 1) := by decide +kernel
theorem dX5_debtOf_40 : decode cX5_debtOf 40 = .ok (.ifCond .ne 10, 3) := by decide +kernel
theorem dX5_debtOf_43 : decode cX5_debtOf 43 = .ok (.aload_n 0, 1) := by decide +kernel
theorem dX5_debtOf_44 : decode cX5_debtOf 44 = .ok (.iload_n 1, 1) := by decide +kernel
theorem dX5_debtOf_45 : decode cX5_debtOf 45 = .ok (.lload_n 3, 1) := by decide +kernel
theorem dX5_debtOf_46 : decode cX5_debtOf 46 = .ok (.invokestatic 262, 3) := by decide +kernel
theorem dX5_debtOf_49 : decode cX5_debtOf 49 = .ok (.lreturn, 1) := by decide +kernel
theorem dX5_debtOf_50 : decode cX5_debtOf 50 = .ok (.aload_n 0, 1) := by decide +kernel
theorem dX5_debtOf_51 : decode cX5_debtOf 51 = .ok (.invokestatic 258, 3) := by decide +kernel
theorem dX5_debtOf_54 : decode cX5_debtOf 54 = .ok (.aload_n 0, 1) := by decide +kernel
theorem dX5_debtOf_55 : decode cX5_debtOf 55 = .ok (.aload_n 0, 1) := by decide +kernel
theorem dX5_debtOf_56 : decode cX5_debtOf 56 = .ok (.iload_n 2, 1) := by decide +kernel
theorem dX5_debtOf_57 : decode cX5_debtOf 57 = .ok (.iconst 1, 1) := by decide +kernel
theorem dX5_debtOf_58 : decode cX5_debtOf 58 = .ok (.invokestatic 255, 3) := by decide +kernel
theorem dX5_debtOf_61 : decode cX5_debtOf 61 = .ok (.invokestatic 239, 3) := by decide +kernel
theorem dX5_debtOf_64 : decode cX5_debtOf 64 = .ok (.isub, 1) := by decide +kernel
theorem dX5_debtOf_65 : decode cX5_debtOf 65 = .ok (.istore 5, 2) := by decide +kernel
theorem dX5_debtOf_67 : decode cX5_debtOf 67 = .ok (.iload 5, 2) := by decide +kernel
theorem dX5_debtOf_69 : decode cX5_debtOf 69 = .ok (.ifCond .ne 7, 3) := by decide +kernel
theorem dX5_debtOf_72 : decode cX5_debtOf 72 = .ok (.lconst 0, 1) := by decide +kernel
theorem dX5_debtOf_73 : decode cX5_debtOf 73 = .ok (.goto 15, 3) := by decide +kernel
theorem dX5_debtOf_76 : decode cX5_debtOf 76 = .ok (.lload_n 3, 1) := by decide +kernel
theorem dX5_debtOf_77 : decode cX5_debtOf 77 = .ok (.aload_n 0, 1) := by decide +kernel
theorem dX5_debtOf_78 : decode cX5_debtOf 78 = .ok (.iload_n 1, 1) := by decide +kernel
theorem dX5_debtOf_79 : decode cX5_debtOf 79 = .ok (.invokestatic 239, 3) := by decide +kernel
theorem dX5_debtOf_82 : decode cX5_debtOf 82 = .ok (.i2l, 1) := by decide +kernel
theorem dX5_debtOf_83 : decode cX5_debtOf 83 = .ok (.lmul, 1) := by decide +kernel
theorem dX5_debtOf_84 : decode cX5_debtOf 84 = .ok (.iload 5, 2) := by decide +kernel
theorem dX5_debtOf_86 : decode cX5_debtOf 86 = .ok (.i2l, 1) := by decide +kernel
theorem dX5_debtOf_87 : decode cX5_debtOf 87 = .ok (.ldiv, 1) := by decide +kernel
theorem dX5_debtOf_88 : decode cX5_debtOf 88 = .ok (.lreturn, 1) := by decide +kernel
theorem dX5_backTo_0 : decode cX5_backTo 0 = .ok (.aload_n 0, 1) := by decide +kernel
theorem dX5_backTo_1 : decode cX5_backTo 1 = .ok (.iconst 3, 1) := by decide +kernel
theorem dX5_backTo_2 : decode cX5_backTo 2 = .ok (.iaload, 1) := by decide +kernel
theorem dX5_backTo_3 : decode cX5_backTo 3 = .ok (.ifCond .eq 30, 3) := by decide +kernel
theorem dX5_backTo_6 : decode cX5_backTo 6 = .ok (.aload_n 0, 1) := by decide +kernel
theorem dX5_backTo_7 : decode cX5_backTo 7 = .ok (.iload_n 1, 1) := by decide +kernel
theorem dX5_backTo_8 : decode cX5_backTo 8 = .ok (.iconst 0, 1) := by decide +kernel
theorem dX5_backTo_9 : decode cX5_backTo 9 = .ok (.invokestatic 255, 3) := by decide +kernel
theorem dX5_backTo_12 : decode cX5_backTo 12 = .ok (.ifCond .ne 21, 3) := by decide +kernel
theorem dX5_backTo_15 : decode cX5_backTo 15 = .ok (.aload_n 0, 1) := by decide +kernel
theorem dX5_backTo_16 : decode cX5_backTo 16 = .ok (.iload_n 1, 1) := by decide +kernel
theorem dX5_backTo_17 : decode cX5_backTo 17 = .ok (.invokestatic 252, 3) := by decide +kernel
theorem dX5_backTo_20 : decode cX5_backTo 20 = .ok (.ifCond .lt 13, 3) := by decide +kernel
theorem dX5_backTo_23 : decode cX5_backTo 23 = .ok (.aload_n 0, 1) := by decide +kernel
theorem dX5_backTo_24 : decode cX5_backTo 24 = .ok (.iload_n 1, 1) := by decide +kernel
theorem dX5_backTo_25 : decode cX5_backTo 25 = .ok (.iconst 1, 1) := by decide +kernel
theorem dX5_backTo_26 : decode cX5_backTo 26 = .ok (.invokestatic 255, 3) := by decide +kernel
theorem dX5_backTo_29 : decode cX5_backTo 29 = .ok (.iload_n 2, 1) := by decide +kernel
theorem dX5_backTo_30 : decode cX5_backTo 30 = .ok (.if_icmp .ne 5, 3) := by decide +kernel
theorem dX5_backTo_33 : decode cX5_backTo 33 = .ok (.lconst 0, 1) := by decide +kernel
theorem dX5_backTo_34 : decode cX5_backTo 34 = .ok (.lreturn, 1) := by decide +kernel
theorem dX5_backTo_35 : decode cX5_backTo 35 = .ok (.aload_n 0, 1) := by decide +kernel
theorem dX5_backTo_36 : decode cX5_backTo 36 = .ok (.iload_n 2, 1) := by decide +kernel
theorem dX5_backTo_37 : decode cX5_backTo 37 = .ok (.iload_n 1, 1) := by decide +kernel
theorem dX5_backTo_38 : decode cX5_backTo 38 = .ok (.invokestatic 266, 3) := by decide +kernel
theorem dX5_backTo_41 : decode cX5_backTo 41 = .ok (.aload_n 0, 1) := by decide +kernel
theorem dX5_backTo_42 : decode cX5_backTo 42 = .ok (.iload_n 2, 1) := by decide +kernel
theorem dX5_backTo_43 : decode cX5_backTo 43 = .ok (.aload_n 0, 1) := by decide +kernel
theorem dX5_backTo_44 : decode cX5_backTo 44 = .ok (.iload_n 1, 1) := by decide +kernel
theorem dX5_backTo_45 : decode cX5_backTo 45 = .ok (.iconst 2, 1) := by decide +kernel
theorem dX5_backTo_46 : decode cX5_backTo 46 = .ok (.invokestatic 255, 3) := by decide +kernel
theorem dX5_backTo_49 : decode cX5_backTo 49 = .ok (.i2l, 1) := by decide +kernel
theorem dX5_backTo_50 : decode cX5_backTo 50 = .ok (.invokestatic 262, 3) := by decide +kernel
theorem dX5_backTo_53 : decode cX5_backTo 53 = .ok (.lsub, 1) := by decide +kernel
theorem dX5_backTo_54 : decode cX5_backTo 54 = .ok (.lreturn, 1) := by decide +kernel
theorem dX5_backOf_0 : decode cX5_backOf 0 = .ok (.lconst 0, 1) := by decide +kernel
theorem dX5_backOf_1 : decode cX5_backOf 1 = .ok (.lstore_n 2, 1) := by decide +kernel
theorem dX5_backOf_2 : decode cX5_backOf 2 = .ok (.iconst 0, 1) := by decide +kernel
theorem dX5_backOf_3 : decode cX5_backOf 3 = .ok (.istore 4, 2) := by decide +kernel
theorem dX5_backOf_5 : decode cX5_backOf 5 = .ok (.iload 4, 2) := by decide +kernel
theorem dX5_backOf_7 : decode cX5_backOf 7 = .ok (.aload_n 0, 1) := by decide +kernel
theorem dX5_backOf_8 : decode cX5_backOf 8 = .ok (.iconst 0, 1) := by decide +kernel
theorem dX5_backOf_9 : decode cX5_backOf 9 = .ok (.iaload, 1) := by decide +kernel
theorem dX5_backOf_10 : decode cX5_backOf 10 = .ok (.if_icmp .ge 19, 3) := by decide +kernel
theorem dX5_backOf_13 : decode cX5_backOf 13 = .ok (.lload_n 2, 1) := by decide +kernel
theorem dX5_backOf_14 : decode cX5_backOf 14 = .ok (.aload_n 0, 1) := by decide +kernel
theorem dX5_backOf_15 : decode cX5_backOf 15 = .ok (.iload_n 1, 1) := by decide +kernel
theorem dX5_backOf_16 : decode cX5_backOf 16 = .ok (.iload 4, 2) := by decide +kernel
theorem dX5_backOf_18 : decode cX5_backOf 18 = .ok (.invokestatic 270, 3) := by decide +kernel
theorem dX5_backOf_21 : decode cX5_backOf 21 = .ok (.ladd, 1) := by decide +kernel
theorem dX5_backOf_22 : decode cX5_backOf 22 = .ok (.lstore_n 2, 1) := by decide +kernel
theorem dX5_backOf_23 : decode cX5_backOf 23 = .ok (.iinc 4 1, 3) := by decide +kernel
theorem dX5_backOf_26 : decode cX5_backOf 26 = .ok (.goto (-21), 3) := by decide +kernel
theorem dX5_backOf_29 : decode cX5_backOf 29 = .ok (.lload_n 2, 1) := by decide +kernel
theorem dX5_backOf_30 : decode cX5_backOf 30 = .ok (.lreturn, 1) := by decide +kernel
theorem dX5_hullOwed_0 : decode cX5_hullOwed 0 = .ok (.aload_n 0, 1) := by decide +kernel
theorem dX5_hullOwed_1 : decode cX5_hullOwed 1 = .ok (.iload_n 1, 1) := by decide +kernel
theorem dX5_hullOwed_2 : decode cX5_hullOwed 2 = .ok (.aload_n 0, 1) := by decide +kernel
theorem dX5_hullOwed_3 : decode cX5_hullOwed 3 = .ok (.iload_n 2, 1) := by decide +kernel
theorem dX5_hullOwed_4 : decode cX5_hullOwed 4 = .ok (.iconst 2, 1) := by decide +kernel
theorem dX5_hullOwed_5 : decode cX5_hullOwed 5 = .ok (.invokestatic 243, 3) := by decide +kernel
theorem dX5_hullOwed_8 : decode cX5_hullOwed 8 = .ok (.i2l, 1) := by decide +kernel
theorem dX5_hullOwed_9 : decode cX5_hullOwed 9 = .ok (.invokestatic 262, 3) := by decide +kernel
theorem dX5_hullOwed_12 : decode cX5_hullOwed 12 = .ok (.lreturn, 1) := by decide +kernel
theorem dX5_backOwed_0 : decode cX5_backOwed 0 = .ok (.lconst 0, 1) := by decide +kernel
theorem dX5_backOwed_1 : decode cX5_backOwed 1 = .ok (.lstore_n 3, 1) := by decide +kernel
theorem dX5_backOwed_2 : decode cX5_backOwed 2 = .ok (.iconst 0, 1) := by decide +kernel
theorem dX5_backOwed_3 : decode cX5_backOwed 3 = .ok (.istore 5, 2) := by decide +kernel
theorem dX5_backOwed_5 : decode cX5_backOwed 5 = .ok (.iload 5, 2) := by decide +kernel
theorem dX5_backOwed_7 : decode cX5_backOwed 7 = .ok (.aload_n 0, 1) := by decide +kernel
theorem dX5_backOwed_8 : decode cX5_backOwed 8 = .ok (.iconst 1, 1) := by decide +kernel
theorem dX5_backOwed_9 : decode cX5_backOwed 9 = .ok (.iaload, 1) := by decide +kernel
theorem dX5_backOwed_10 : decode cX5_backOwed 10 = .ok (.if_icmp .ge 34, 3) := by decide +kernel
theorem dX5_backOwed_13 : decode cX5_backOwed 13 = .ok (.lload_n 3, 1) := by decide +kernel
theorem dX5_backOwed_14 : decode cX5_backOwed 14 = .ok (.aload_n 0, 1) := by decide +kernel
theorem dX5_backOwed_15 : decode cX5_backOwed 15 = .ok (.iload 5, 2) := by decide +kernel
theorem dX5_backOwed_17 : decode cX5_backOwed 17 = .ok (.iconst 1, 1) := by decide +kernel
theorem dX5_backOwed_18 : decode cX5_backOwed 18 = .ok (.invokestatic 255, 3) := by decide +kernel
theorem dX5_backOwed_21 : decode cX5_backOwed 21 = .ok (.iload_n 1, 1) := by decide +kernel
theorem dX5_backOwed_22 : decode cX5_backOwed 22 = .ok (.if_icmp .ne 13, 3) := by decide +kernel
theorem dX5_backOwed_25 : decode cX5_backOwed 25 = .ok (.aload_n 0, 1) := by decide +kernel
theorem dX5_backOwed_26 : decode cX5_backOwed 26 = .ok (.iload 5, 2) := by decide +kernel
theorem dX5_backOwed_28 : decode cX5_backOwed 28 = .ok (.iload_n 2, 1) := by decide +kernel
theorem dX5_backOwed_29 : decode cX5_backOwed 29 = .ok (.invokestatic 270, 3) := by decide +kernel
theorem dX5_backOwed_32 : decode cX5_backOwed 32 = .ok (.goto 4, 3) := by decide +kernel
theorem dX5_backOwed_35 : decode cX5_backOwed 35 = .ok (.lconst 0, 1) := by decide +kernel
theorem dX5_backOwed_36 : decode cX5_backOwed 36 = .ok (.ladd, 1) := by decide +kernel
theorem dX5_backOwed_37 : decode cX5_backOwed 37 = .ok (.lstore_n 3, 1) := by decide +kernel
theorem dX5_backOwed_38 : decode cX5_backOwed 38 = .ok (.iinc 5 1, 3) := by decide +kernel
theorem dX5_backOwed_41 : decode cX5_backOwed 41 = .ok (.goto (-36), 3) := by decide +kernel
theorem dX5_backOwed_44 : decode cX5_backOwed 44 = .ok (.lload_n 3, 1) := by decide +kernel
theorem dX5_backOwed_45 : decode cX5_backOwed 45 = .ok (.lreturn, 1) := by decide +kernel
theorem dX5_bothOwed_0 : decode cX5_bothOwed 0 = .ok (.aload_n 0, 1) := by decide +kernel
theorem dX5_bothOwed_1 : decode cX5_bothOwed 1 = .ok (.iload_n 1, 1) := by decide +kernel
theorem dX5_bothOwed_2 : decode cX5_bothOwed 2 = .ok (.iload_n 2, 1) := by decide +kernel
theorem dX5_bothOwed_3 : decode cX5_bothOwed 3 = .ok (.invokestatic 273, 3) := by decide +kernel
theorem dX5_bothOwed_6 : decode cX5_bothOwed 6 = .ok (.aload_n 0, 1) := by decide +kernel
theorem dX5_bothOwed_7 : decode cX5_bothOwed 7 = .ok (.iload_n 1, 1) := by decide +kernel
theorem dX5_bothOwed_8 : decode cX5_bothOwed 8 = .ok (.iload_n 2, 1) := by decide +kernel
theorem dX5_bothOwed_9 : decode cX5_bothOwed 9 = .ok (.invokestatic 276, 3) := by decide +kernel
theorem dX5_bothOwed_12 : decode cX5_bothOwed 12 = .ok (.ladd, 1) := by decide +kernel
theorem dX5_bothOwed_13 : decode cX5_bothOwed 13 = .ok (.lreturn, 1) := by decide +kernel
theorem dX5_lawOwed_0 : decode cX5_lawOwed 0 = .ok (.iload_n 1, 1) := by decide +kernel
theorem dX5_lawOwed_1 : decode cX5_lawOwed 1 = .ok (.iload_n 2, 1) := by decide +kernel
theorem dX5_lawOwed_2 : decode cX5_lawOwed 2 = .ok (.if_icmp .ne 5, 3) := by decide +kernel
theorem dX5_lawOwed_5 : decode cX5_lawOwed 5 = .ok (.lconst 0, 1) := by decide +kernel
theorem dX5_lawOwed_6 : decode cX5_lawOwed 6 = .ok (.lreturn, 1) := by decide +kernel
theorem dX5_lawOwed_7 : decode cX5_lawOwed 7 = .ok (.aload_n 0, 1) := by decide +kernel
theorem dX5_lawOwed_8 : decode cX5_lawOwed 8 = .ok (.iload_n 1, 1) := by decide +kernel
theorem dX5_lawOwed_9 : decode cX5_lawOwed 9 = .ok (.iload_n 2, 1) := by decide +kernel
theorem dX5_lawOwed_10 : decode cX5_lawOwed 10 = .ok (.invokestatic 279, 3) := by decide +kernel
theorem dX5_lawOwed_13 : decode cX5_lawOwed 13 = .ok (.lstore_n 3, 1) := by decide +kernel
theorem dX5_lawOwed_14 : decode cX5_lawOwed 14 = .ok (.aload_n 0, 1) := by decide +kernel
theorem dX5_lawOwed_15 : decode cX5_lawOwed 15 = .ok (.iconst 4, 1) := by decide +kernel
theorem dX5_lawOwed_16 : decode cX5_lawOwed 16 = .ok (.iaload, 1) := by decide +kernel
theorem dX5_lawOwed_17 : decode cX5_lawOwed 17 = .ok (.iconst 1, 1) := by decide +kernel
theorem dX5_lawOwed_18 : decode cX5_lawOwed 18 = .ok (.if_icmp .ne 7, 3) := by decide +kernel
theorem dX5_lawOwed_21 : decode cX5_lawOwed 21 = .ok (.lload_n 3, 1) := by decide +kernel
theorem dX5_lawOwed_22 : decode cX5_lawOwed 22 = .ok (.goto 15, 3) := by decide +kernel
theorem dX5_lawOwed_25 : decode cX5_lawOwed 25 = .ok (.lload_n 3, 1) := by decide +kernel
theorem dX5_lawOwed_26 : decode cX5_lawOwed 26 = .ok (.lload_n 3, 1) := by decide +kernel
theorem dX5_lawOwed_27 : decode cX5_lawOwed 27 = .ok (.aload_n 0, 1) := by decide +kernel
theorem dX5_lawOwed_28 : decode cX5_lawOwed 28 = .ok (.iload_n 2, 1) := by decide +kernel
theorem dX5_lawOwed_29 : decode cX5_lawOwed 29 = .ok (.iload_n 1, 1) := by decide +kernel
theorem dX5_lawOwed_30 : decode cX5_lawOwed 30 = .ok (.invokestatic 279, 3) := by decide +kernel
theorem dX5_lawOwed_33 : decode cX5_lawOwed 33 = .ok (.invokestatic 282, 3) := by decide +kernel
theorem dX5_lawOwed_36 : decode cX5_lawOwed 36 = .ok (.lsub, 1) := by decide +kernel
theorem dX5_lawOwed_37 : decode cX5_lawOwed 37 = .ok (.lreturn, 1) := by decide +kernel
theorem dX5_fundOf_0 : decode cX5_fundOf 0 = .ok (.aload_n 0, 1) := by decide +kernel
theorem dX5_fundOf_1 : decode cX5_fundOf 1 = .ok (.iload_n 1, 1) := by decide +kernel
theorem dX5_fundOf_2 : decode cX5_fundOf 2 = .ok (.iconst 0, 1) := by decide +kernel
theorem dX5_fundOf_3 : decode cX5_fundOf 3 = .ok (.invokestatic 243, 3) := by decide +kernel
theorem dX5_fundOf_6 : decode cX5_fundOf 6 = .ok (.i2l, 1) := by decide +kernel
theorem dX5_fundOf_7 : decode cX5_fundOf 7 = .ok (.aload_n 0, 1) := by decide +kernel
theorem dX5_fundOf_8 : decode cX5_fundOf 8 = .ok (.bipush 7, 2) := by decide +kernel
theorem dX5_fundOf_10 : decode cX5_fundOf 10 = .ok (.iaload, 1) := by decide +kernel
theorem dX5_fundOf_11 : decode cX5_fundOf 11 = .ok (.i2l, 1) := by decide +kernel
theorem dX5_fundOf_12 : decode cX5_fundOf 12 = .ok (.invokestatic 286, 3) := by decide +kernel
theorem dX5_fundOf_15 : decode cX5_fundOf 15 = .ok (.lstore_n 3, 1) := by decide +kernel
theorem dX5_fundOf_16 : decode cX5_fundOf 16 = .ok (.ldc2_w 289, 3) := by decide +kernel
theorem dX5_fundOf_19 : decode cX5_fundOf 19 = .ok (.lload_n 3, 1) := by decide +kernel
theorem dX5_fundOf_20 : decode cX5_fundOf 20 = .ok (.aload_n 0, 1) := by decide +kernel
theorem dX5_fundOf_21 : decode cX5_fundOf 21 = .ok (.iload_n 2, 1) := by decide +kernel
theorem dX5_fundOf_22 : decode cX5_fundOf 22 = .ok (.iaload, 1) := by decide +kernel
theorem dX5_fundOf_23 : decode cX5_fundOf 23 = .ok (.i2l, 1) := by decide +kernel
theorem dX5_fundOf_24 : decode cX5_fundOf 24 = .ok (.lmul, 1) := by decide +kernel
theorem dX5_fundOf_25 : decode cX5_fundOf 25 = .ok (.invokestatic 282, 3) := by decide +kernel
theorem dX5_fundOf_28 : decode cX5_fundOf 28 = .ok (.lreturn, 1) := by decide +kernel
theorem dX5_shares_0 : decode cX5_shares 0 = .ok (.lconst 0, 1) := by decide +kernel
theorem dX5_shares_1 : decode cX5_shares 1 = .ok (.lstore_n 3, 1) := by decide +kernel
theorem dX5_shares_2 : decode cX5_shares 2 = .ok (.iconst 0, 1) := by decide +kernel
theorem dX5_shares_3 : decode cX5_shares 3 = .ok (.istore 5, 2) := by decide +kernel
theorem dX5_shares_5 : decode cX5_shares 5 = .ok (.iload 5, 2) := by decide +kernel
theorem dX5_shares_7 : decode cX5_shares 7 = .ok (.bipush 16, 2) := by decide +kernel
theorem dX5_shares_9 : decode cX5_shares 9 = .ok (.if_icmp .ge 19, 3) := by decide +kernel
theorem dX5_shares_12 : decode cX5_shares 12 = .ok (.lload_n 3, 1) := by decide +kernel
theorem dX5_shares_13 : decode cX5_shares 13 = .ok (.aload_n 0, 1) := by decide +kernel
theorem dX5_shares_14 : decode cX5_shares 14 = .ok (.getfield 43, 3) := by decide +kernel
theorem dX5_shares_17 : decode cX5_shares 17 = .ok (.iload 5, 2) := by decide +kernel
theorem dX5_shares_19 : decode cX5_shares 19 = .ok (.laload, 1) := by decide +kernel
theorem dX5_shares_20 : decode cX5_shares 20 = .ok (.ladd, 1) := by decide +kernel
theorem dX5_shares_21 : decode cX5_shares 21 = .ok (.lstore_n 3, 1) := by decide +kernel
theorem dX5_shares_22 : decode cX5_shares 22 = .ok (.iinc 5 1, 3) := by decide +kernel
theorem dX5_shares_25 : decode cX5_shares 25 = .ok (.goto (-20), 3) := by decide +kernel
theorem dX5_shares_28 : decode cX5_shares 28 = .ok (.lload_n 3, 1) := by decide +kernel
theorem dX5_shares_29 : decode cX5_shares 29 = .ok (.lload_n 1, 1) := by decide +kernel
theorem dX5_shares_30 : decode cX5_shares 30 = .ok (.lcmp, 1) := by decide +kernel
theorem dX5_shares_31 : decode cX5_shares 31 = .ok (.ifCond .gt 40, 3) := by decide +kernel
theorem dX5_shares_34 : decode cX5_shares 34 = .ok (.iconst 0, 1) := by decide +kernel
theorem dX5_shares_35 : decode cX5_shares 35 = .ok (.istore 5, 2) := by decide +kernel
theorem dX5_shares_37 : decode cX5_shares 37 = .ok (.iload 5, 2) := by decide +kernel
theorem dX5_shares_39 : decode cX5_shares 39 = .ok (.bipush 16, 2) := by decide +kernel
theorem dX5_shares_41 : decode cX5_shares 41 = .ok (.if_icmp .ge 26, 3) := by decide +kernel
theorem dX5_shares_44 : decode cX5_shares 44 = .ok (.aload_n 0, 1) := by decide +kernel
theorem dX5_shares_45 : decode cX5_shares 45 = .ok (.getfield 46, 3) := by decide +kernel
theorem dX5_shares_48 : decode cX5_shares 48 = .ok (.iload 5, 2) := by decide +kernel
theorem dX5_shares_50 : decode cX5_shares 50 = .ok (.dup2, 1) := by decide +kernel
theorem dX5_shares_51 : decode cX5_shares 51 = .ok (.laload, 1) := by decide +kernel
theorem dX5_shares_52 : decode cX5_shares 52 = .ok (.aload_n 0, 1) := by decide +kernel
theorem dX5_shares_53 : decode cX5_shares 53 = .ok (.getfield 43, 3) := by decide +kernel
theorem dX5_shares_56 : decode cX5_shares 56 = .ok (.iload 5, 2) := by decide +kernel
theorem dX5_shares_58 : decode cX5_shares 58 = .ok (.laload, 1) := by decide +kernel
theorem dX5_shares_59 : decode cX5_shares 59 = .ok (.ladd, 1) := by decide +kernel
theorem dX5_shares_60 : decode cX5_shares 60 = .ok (.lastore, 1) := by decide +kernel
theorem dX5_shares_61 : decode cX5_shares 61 = .ok (.iinc 5 1, 3) := by decide +kernel
theorem dX5_shares_64 : decode cX5_shares 64 = .ok (.goto (-27), 3) := by decide +kernel
theorem dX5_shares_67 : decode cX5_shares 67 = .ok (.lload_n 1, 1) := by decide +kernel
theorem dX5_shares_68 : decode cX5_shares 68 = .ok (.lload_n 3, 1) := by decide +kernel
theorem dX5_shares_69 : decode cX5_shares 69 = .ok (.lsub, 1) := by decide +kernel
theorem dX5_shares_70 : decode cX5_shares 70 = .ok (.lreturn, 1) := by decide +kernel
theorem dX5_shares_71 : decode cX5_shares 71 = .ok (.lload_n 1, 1) := by decide +kernel
theorem dX5_shares_72 : decode cX5_shares 72 = .ok (.lstore 5, 2) := by decide +kernel
theorem dX5_shares_74 : decode cX5_shares 74 = .ok (.iconst 0, 1) := by decide +kernel
theorem dX5_shares_75 : decode cX5_shares 75 = .ok (.istore 7, 2) := by decide +kernel
theorem dX5_shares_77 : decode cX5_shares 77 = .ok (.iload 7, 2) := by decide +kernel
theorem dX5_shares_79 : decode cX5_shares 79 = .ok (.bipush 16, 2) := by decide +kernel
theorem dX5_shares_81 : decode cX5_shares 81 = .ok (.if_icmp .ge 25, 3) := by decide +kernel
theorem dX5_shares_84 : decode cX5_shares 84 = .ok (.lload 5, 2) := by decide +kernel
theorem dX5_shares_86 : decode cX5_shares 86 = .ok (.aload_n 0, 1) := by decide +kernel
theorem dX5_shares_87 : decode cX5_shares 87 = .ok (.getfield 43, 3) := by decide +kernel
theorem dX5_shares_90 : decode cX5_shares 90 = .ok (.iload 7, 2) := by decide +kernel
theorem dX5_shares_92 : decode cX5_shares 92 = .ok (.laload, 1) := by decide +kernel
theorem dX5_shares_93 : decode cX5_shares 93 = .ok (.lload_n 1, 1) := by decide +kernel
theorem dX5_shares_94 : decode cX5_shares 94 = .ok (.lmul, 1) := by decide +kernel
theorem dX5_shares_95 : decode cX5_shares 95 = .ok (.lload_n 3, 1) := by decide +kernel
theorem dX5_shares_96 : decode cX5_shares 96 = .ok (.ldiv, 1) := by decide +kernel
theorem dX5_shares_97 : decode cX5_shares 97 = .ok (.lsub, 1) := by decide +kernel
theorem dX5_shares_98 : decode cX5_shares 98 = .ok (.lstore 5, 2) := by decide +kernel
theorem dX5_shares_100 : decode cX5_shares 100 = .ok (.iinc 7 1, 3) := by decide +kernel
theorem dX5_shares_103 : decode cX5_shares 103 = .ok (.goto (-26), 3) := by decide +kernel
theorem dX5_shares_106 : decode cX5_shares 106 = .ok (.iconst 0, 1) := by decide +kernel
theorem dX5_shares_107 : decode cX5_shares 107 = .ok (.istore 7, 2) := by decide +kernel
theorem dX5_shares_109 : decode cX5_shares 109 = .ok (.iload 7, 2) := by decide +kernel
theorem dX5_shares_111 : decode cX5_shares 111 = .ok (.bipush 16, 2) := by decide +kernel
theorem dX5_shares_113 : decode cX5_shares 113 = .ok (.if_icmp .ge 66, 3) := by decide +kernel
theorem dX5_shares_116 : decode cX5_shares 116 = .ok (.aload_n 0, 1) := by decide +kernel
theorem dX5_shares_117 : decode cX5_shares 117 = .ok (.getfield 43, 3) := by decide +kernel
theorem dX5_shares_120 : decode cX5_shares 120 = .ok (.iload 7, 2) := by decide +kernel
theorem dX5_shares_122 : decode cX5_shares 122 = .ok (.laload, 1) := by decide +kernel
theorem dX5_shares_123 : decode cX5_shares 123 = .ok (.lload_n 1, 1) := by decide +kernel
theorem dX5_shares_124 : decode cX5_shares 124 = .ok (.lmul, 1) := by decide +kernel
theorem dX5_shares_125 : decode cX5_shares 125 = .ok (.lload_n 3, 1) := by decide +kernel
theorem dX5_shares_126 : decode cX5_shares 126 = .ok (.ldiv, 1) := by decide +kernel
theorem dX5_shares_127 : decode cX5_shares 127 = .ok (.lstore 8, 2) := by decide +kernel
theorem dX5_shares_129 : decode cX5_shares 129 = .ok (.lload 5, 2) := by decide +kernel
theorem dX5_shares_131 : decode cX5_shares 131 = .ok (.lconst 0, 1) := by decide +kernel
theorem dX5_shares_132 : decode cX5_shares 132 = .ok (.lcmp, 1) := by decide +kernel
theorem dX5_shares_133 : decode cX5_shares 133 = .ok (.ifCond .le 28, 3) := by decide +kernel
theorem dX5_shares_136 : decode cX5_shares 136 = .ok (.lload 8, 2) := by decide +kernel
theorem dX5_shares_138 : decode cX5_shares 138 = .ok (.aload_n 0, 1) := by decide +kernel
theorem dX5_shares_139 : decode cX5_shares 139 = .ok (.getfield 43, 3) := by decide +kernel
theorem dX5_shares_142 : decode cX5_shares 142 = .ok (.iload 7, 2) := by decide +kernel
theorem dX5_shares_144 : decode cX5_shares 144 = .ok (.laload, 1) := by decide +kernel
theorem dX5_shares_145 : decode cX5_shares 145 = .ok (.lcmp, 1) := by decide +kernel
theorem dX5_shares_146 : decode cX5_shares 146 = .ok (.ifCond .ge 15, 3) := by decide +kernel
theorem dX5_shares_149 : decode cX5_shares 149 = .ok (.lload 8, 2) := by decide +kernel
theorem dX5_shares_151 : decode cX5_shares 151 = .ok (.lconst 1, 1) := by decide +kernel
theorem dX5_shares_152 : decode cX5_shares 152 = .ok (.ladd, 1) := by decide +kernel
theorem dX5_shares_153 : decode cX5_shares 153 = .ok (.lstore 8, 2) := by decide +kernel
theorem dX5_shares_155 : decode cX5_shares 155 = .ok (.lload 5, 2) := by decide +kernel
theorem dX5_shares_157 : decode cX5_shares 157 = .ok (.lconst 1, 1) := by decide +kernel
theorem dX5_shares_158 : decode cX5_shares 158 = .ok (.lsub, 1) := by decide +kernel
theorem dX5_shares_159 : decode cX5_shares 159 = .ok (.lstore 5, 2) := by decide +kernel
theorem dX5_shares_161 : decode cX5_shares 161 = .ok (.aload_n 0, 1) := by decide +kernel
theorem dX5_shares_162 : decode cX5_shares 162 = .ok (.getfield 46, 3) := by decide +kernel
theorem dX5_shares_165 : decode cX5_shares 165 = .ok (.iload 7, 2) := by decide +kernel
theorem dX5_shares_167 : decode cX5_shares 167 = .ok (.dup2, 1) := by decide +kernel
theorem dX5_shares_168 : decode cX5_shares 168 = .ok (.laload, 1) := by decide +kernel
theorem dX5_shares_169 : decode cX5_shares 169 = .ok (.lload 8, 2) := by decide +kernel
theorem dX5_shares_171 : decode cX5_shares 171 = .ok (.ladd, 1) := by decide +kernel
theorem dX5_shares_172 : decode cX5_shares 172 = .ok (.lastore, 1) := by decide +kernel
theorem dX5_shares_173 : decode cX5_shares 173 = .ok (.iinc 7 1, 3) := by decide +kernel
theorem dX5_shares_176 : decode cX5_shares 176 = .ok (.goto (-67), 3) := by decide +kernel
theorem dX5_shares_179 : decode cX5_shares 179 = .ok (.lload 5, 2) := by decide +kernel
theorem dX5_shares_181 : decode cX5_shares 181 = .ok (.lreturn, 1) := by decide +kernel
theorem dX5_clears_0 : decode cX5_clears 0 = .ok (.iconst 0, 1) := by decide +kernel
theorem dX5_clears_1 : decode cX5_clears 1 = .ok (.istore_n 2, 1) := by decide +kernel
theorem dX5_clears_2 : decode cX5_clears 2 = .ok (.iload_n 2, 1) := by decide +kernel
theorem dX5_clears_3 : decode cX5_clears 3 = .ok (.bipush 16, 2) := by decide +kernel
theorem dX5_clears_5 : decode cX5_clears 5 = .ok (.if_icmp .ge 13, 3) := by decide +kernel
theorem dX5_clears_8 : decode cX5_clears 8 = .ok (.aload_n 1, 1) := by decide +kernel
theorem dX5_clears_9 : decode cX5_clears 9 = .ok (.iload_n 2, 1) := by decide +kernel
theorem dX5_clears_10 : decode cX5_clears 10 = .ok (.lconst 0, 1) := by decide +kernel
theorem dX5_clears_11 : decode cX5_clears 11 = .ok (.lastore, 1) := by decide +kernel
theorem dX5_clears_12 : decode cX5_clears 12 = .ok (.iinc 2 1, 3) := by decide +kernel
theorem dX5_clears_15 : decode cX5_clears 15 = .ok (.goto (-13), 3) := by decide +kernel
theorem dX5_clears_18 : decode cX5_clears 18 = .ok (.return_, 1) := by decide +kernel
theorem dX5_owesPersons_0 : decode cX5_owesPersons 0 = .ok (.aload_n 0, 1) := by decide +kernel
theorem dX5_owesPersons_1 : decode cX5_owesPersons 1 = .ok (.aload_n 0, 1) := by decide +kernel
theorem dX5_owesPersons_2 : decode cX5_owesPersons 2 = .ok (.getfield 43, 3) := by decide +kernel
theorem dX5_owesPersons_5 : decode cX5_owesPersons 5 = .ok (.invokevirtual 291, 3) := by decide +kernel
theorem dX5_owesPersons_8 : decode cX5_owesPersons 8 = .ok (.iconst 0, 1) := by decide +kernel
theorem dX5_owesPersons_9 : decode cX5_owesPersons 9 = .ok (.istore_n 3, 1) := by decide +kernel
theorem dX5_owesPersons_10 : decode cX5_owesPersons 10 = .ok (.iload_n 3, 1) := by decide +kernel
theorem dX5_owesPersons_11 : decode cX5_owesPersons 11 = .ok (.aload_n 0, 1) := by decide +kernel
theorem dX5_owesPersons_12 : decode cX5_owesPersons 12 = .ok (.getfield 17, 3) := by decide +kernel
theorem dX5_owesPersons_15 : decode cX5_owesPersons 15 = .ok (.iconst 1, 1) := by decide +kernel
theorem dX5_owesPersons_16 : decode cX5_owesPersons 16 = .ok (.iaload, 1) := by decide +kernel
theorem dX5_owesPersons_17 : decode cX5_owesPersons 17 = .ok (.if_icmp .ge 51, 3) := by decide +kernel
theorem dX5_owesPersons_20 : decode cX5_owesPersons 20 = .ok (.aload_n 0, 1) := by decide +kernel
theorem dX5_owesPersons_21 : decode cX5_owesPersons 21 = .ok (.getfield 17, 3) := by decide +kernel
theorem dX5_owesPersons_24 : decode cX5_owesPersons 24 = .ok (.iload_n 3, 1) := by decide +kernel
theorem dX5_owesPersons_25 : decode cX5_owesPersons 25 = .ok (.iconst 0, 1) := by decide +kernel
theorem dX5_owesPersons_26 : decode cX5_owesPersons 26 = .ok (.invokestatic 255, 3) := by decide +kernel
theorem dX5_owesPersons_29 : decode cX5_owesPersons 29 = .ok (.iconst 1, 1) := by decide +kernel
theorem dX5_owesPersons_30 : decode cX5_owesPersons 30 = .ok (.if_icmp .ne 32, 3) := by decide +kernel
theorem dX5_owesPersons_33 : decode cX5_owesPersons 33 = .ok (.aload_n 0, 1) := by decide +kernel
theorem dX5_owesPersons_34 : decode cX5_owesPersons 34 = .ok (.getfield 17, 3) := by decide +kernel
theorem dX5_owesPersons_37 : decode cX5_owesPersons 37 = .ok (.iload_n 3, 1) := by decide +kernel
theorem dX5_owesPersons_38 : decode cX5_owesPersons 38 = .ok (.invokestatic 252, 3) := by decide +kernel
theorem dX5_owesPersons_41 : decode cX5_owesPersons 41 = .ok (.iload_n 2, 1) := by decide +kernel
theorem dX5_owesPersons_42 : decode cX5_owesPersons 42 = .ok (.if_icmp .ne 20, 3) := by decide +kernel
theorem dX5_owesPersons_45 : decode cX5_owesPersons 45 = .ok (.aload_n 0, 1) := by decide +kernel
theorem dX5_owesPersons_46 : decode cX5_owesPersons 46 = .ok (.getfield 43, 3) := by decide +kernel
theorem dX5_owesPersons_49 : decode cX5_owesPersons 49 = .ok (.iconst 4, 1) := by decide +kernel
theorem dX5_owesPersons_50 : decode cX5_owesPersons 50 = .ok (.iload_n 3, 1) := by decide +kernel
theorem dX5_owesPersons_51 : decode cX5_owesPersons 51 = .ok (.iadd, 1) := by decide +kernel
theorem dX5_owesPersons_52 : decode cX5_owesPersons 52 = .ok (.aload_n 0, 1) := by decide +kernel
theorem dX5_owesPersons_53 : decode cX5_owesPersons 53 = .ok (.getfield 17, 3) := by decide +kernel
theorem dX5_owesPersons_56 : decode cX5_owesPersons 56 = .ok (.iload_n 1, 1) := by decide +kernel
theorem dX5_owesPersons_57 : decode cX5_owesPersons 57 = .ok (.iload_n 3, 1) := by decide +kernel
theorem dX5_owesPersons_58 : decode cX5_owesPersons 58 = .ok (.invokestatic 266, 3) := by decide +kernel
theorem dX5_owesPersons_61 : decode cX5_owesPersons 61 = .ok (.lastore, 1) := by decide +kernel
theorem dX5_owesPersons_62 : decode cX5_owesPersons 62 = .ok (.iinc 3 1, 3) := by decide +kernel
theorem dX5_owesPersons_65 : decode cX5_owesPersons 65 = .ok (.goto (-55), 3) := by decide +kernel
theorem dX5_owesPersons_68 : decode cX5_owesPersons 68 = .ok (.return_, 1) := by decide +kernel
theorem dX5_owesAll_0 : decode cX5_owesAll 0 = .ok (.aload_n 0, 1) := by decide +kernel
theorem dX5_owesAll_1 : decode cX5_owesAll 1 = .ok (.aload_n 0, 1) := by decide +kernel
theorem dX5_owesAll_2 : decode cX5_owesAll 2 = .ok (.getfield 43, 3) := by decide +kernel
theorem dX5_owesAll_5 : decode cX5_owesAll 5 = .ok (.invokevirtual 291, 3) := by decide +kernel
theorem dX5_owesAll_8 : decode cX5_owesAll 8 = .ok (.iconst 0, 1) := by decide +kernel
theorem dX5_owesAll_9 : decode cX5_owesAll 9 = .ok (.istore_n 3, 1) := by decide +kernel
theorem dX5_owesAll_10 : decode cX5_owesAll 10 = .ok (.iload_n 3, 1) := by decide +kernel
theorem dX5_owesAll_11 : decode cX5_owesAll 11 = .ok (.aload_n 0, 1) := by decide +kernel
theorem dX5_owesAll_12 : decode cX5_owesAll 12 = .ok (.getfield 17, 3) := by decide +kernel
theorem dX5_owesAll_15 : decode cX5_owesAll 15 = .ok (.iconst 0, 1) := by decide +kernel
theorem dX5_owesAll_16 : decode cX5_owesAll 16 = .ok (.iaload, 1) := by decide +kernel
theorem dX5_owesAll_17 : decode cX5_owesAll 17 = .ok (.if_icmp .ge 28, 3) := by decide +kernel
theorem dX5_owesAll_20 : decode cX5_owesAll 20 = .ok (.iload_n 2, 1) := by decide +kernel
theorem dX5_owesAll_21 : decode cX5_owesAll 21 = .ok (.ifCond .ne 24, 3) := by decide +kernel
theorem dX5_owesAll_24 : decode cX5_owesAll 24 = .ok (.aload_n 0, 1) := by decide +kernel
theorem dX5_owesAll_25 : decode cX5_owesAll 25 = .ok (.getfield 43, 3) := by decide +kernel
theorem dX5_owesAll_28 : decode cX5_owesAll 28 = .ok (.iload_n 3, 1) := by decide +kernel
theorem dX5_owesAll_29 : decode cX5_owesAll 29 = .ok (.aload_n 0, 1) := by decide +kernel
theorem dX5_owesAll_30 : decode cX5_owesAll 30 = .ok (.getfield 17, 3) := by decide +kernel
theorem dX5_owesAll_33 : decode cX5_owesAll 33 = .ok (.iload_n 1, 1) := by decide +kernel
theorem dX5_owesAll_34 : decode cX5_owesAll 34 = .ok (.iload_n 3, 1) := by decide +kernel
theorem dX5_owesAll_35 : decode cX5_owesAll 35 = .ok (.invokestatic 295, 3) := by decide +kernel
theorem dX5_owesAll_38 : decode cX5_owesAll 38 = .ok (.lastore, 1) := by decide +kernel
theorem dX5_owesAll_39 : decode cX5_owesAll 39 = .ok (.iinc 3 1, 3) := by decide +kernel
theorem dX5_owesAll_42 : decode cX5_owesAll 42 = .ok (.goto (-32), 3) := by decide +kernel
theorem dX5_owesAll_45 : decode cX5_owesAll 45 = .ok (.iconst 0, 1) := by decide +kernel
theorem dX5_owesAll_46 : decode cX5_owesAll 46 = .ok (.istore_n 3, 1) := by decide +kernel
theorem dX5_owesAll_47 : decode cX5_owesAll 47 = .ok (.iload_n 3, 1) := by decide +kernel
theorem dX5_owesAll_48 : decode cX5_owesAll 48 = .ok (.aload_n 0, 1) := by decide +kernel
theorem dX5_owesAll_49 : decode cX5_owesAll 49 = .ok (.getfield 17, 3) := by decide +kernel
theorem dX5_owesAll_52 : decode cX5_owesAll 52 = .ok (.iconst 1, 1) := by decide +kernel
theorem dX5_owesAll_53 : decode cX5_owesAll 53 = .ok (.iaload, 1) := by decide +kernel
theorem dX5_owesAll_54 : decode cX5_owesAll 54 = .ok (.if_icmp .ge 47, 3) := by decide +kernel
theorem dX5_owesAll_57 : decode cX5_owesAll 57 = .ok (.aload_n 0, 1) := by decide +kernel
theorem dX5_owesAll_58 : decode cX5_owesAll 58 = .ok (.getfield 17, 3) := by decide +kernel
theorem dX5_owesAll_61 : decode cX5_owesAll 61 = .ok (.iload_n 3, 1) := by decide +kernel
theorem dX5_owesAll_62 : decode cX5_owesAll 62 = .ok (.invokestatic 252, 3) := by decide +kernel
theorem dX5_owesAll_65 : decode cX5_owesAll 65 = .ok (.iload_n 2, 1) := by decide +kernel
theorem dX5_owesAll_66 : decode cX5_owesAll 66 = .ok (.if_icmp .ne 29, 3) := by decide +kernel
theorem dX5_owesAll_69 : decode cX5_owesAll 69 = .ok (.aload_n 0, 1) := by decide +kernel
theorem dX5_owesAll_70 : decode cX5_owesAll 70 = .ok (.getfield 43, 3) := by decide +kernel
theorem dX5_owesAll_73 : decode cX5_owesAll 73 = .ok (.iconst 4, 1) := by decide +kernel
theorem dX5_owesAll_74 : decode cX5_owesAll 74 = .ok (.iload_n 3, 1) := by decide +kernel
theorem dX5_owesAll_75 : decode cX5_owesAll 75 = .ok (.iadd, 1) := by decide +kernel
theorem dX5_owesAll_76 : decode cX5_owesAll 76 = .ok (.aload_n 0, 1) := by decide +kernel
theorem dX5_owesAll_77 : decode cX5_owesAll 77 = .ok (.getfield 17, 3) := by decide +kernel
theorem dX5_owesAll_80 : decode cX5_owesAll 80 = .ok (.iload_n 1, 1) := by decide +kernel
theorem dX5_owesAll_81 : decode cX5_owesAll 81 = .ok (.iload_n 3, 1) := by decide +kernel
theorem dX5_owesAll_82 : decode cX5_owesAll 82 = .ok (.invokestatic 266, 3) := by decide +kernel
theorem dX5_owesAll_85 : decode cX5_owesAll 85 = .ok (.aload_n 0, 1) := by decide +kernel
theorem dX5_owesAll_86 : decode cX5_owesAll 86 = .ok (.getfield 46, 3) := by decide +kernel
theorem dX5_owesAll_89 : decode cX5_owesAll 89 = .ok (.iconst 4, 1) := by decide +kernel
theorem dX5_owesAll_90 : decode cX5_owesAll 90 = .ok (.iload_n 3, 1) := by decide +kernel
theorem dX5_owesAll_91 : decode cX5_owesAll 91 = .ok (.iadd, 1) := by decide +kernel
theorem dX5_owesAll_92 : decode cX5_owesAll 92 = .ok (.laload, 1) := by decide +kernel
end
section
theorem dX5_owesAll_93 : decode cX5_owesAll 93 = .ok (.lsub, 1) := by decide +kernel
theorem dX5_owesAll_94 : decode cX5_owesAll 94 = .ok (.lastore, 1) := by decide +kernel
theorem dX5_owesAll_95 : decode cX5_owesAll 95 = .ok (.iinc 3 1, 3) := by decide +kernel
theorem dX5_owesAll_98 : decode cX5_owesAll 98 = .ok (.goto (-51), 3) := by decide +kernel
theorem dX5_owesAll_101 : decode cX5_owesAll 101 = .ok (.return_, 1) := by decide +kernel
theorem dX5_sharesLives_0 : decode cX5_sharesLives 0 = .ok (.aload_n 0, 1) := by decide +kernel
theorem dX5_sharesLives_1 : decode cX5_sharesLives 1 = .ok (.aload_n 0, 1) := by decide +kernel
theorem dX5_sharesLives_2 : decode cX5_sharesLives 2 = .ok (.getfield 46, 3) := by decide +kernel
theorem dX5_sharesLives_5 : decode cX5_sharesLives 5 = .ok (.invokevirtual 291, 3) := by decide +kernel
theorem dX5_sharesLives_8 : decode cX5_sharesLives 8 = .ok (.aload_n 0, 1) := by decide +kernel
theorem dX5_sharesLives_9 : decode cX5_sharesLives 9 = .ok (.getfield 17, 3) := by decide +kernel
theorem dX5_sharesLives_12 : decode cX5_sharesLives 12 = .ok (.iload_n 1, 1) := by decide +kernel
theorem dX5_sharesLives_13 : decode cX5_sharesLives 13 = .ok (.bipush 6, 2) := by decide +kernel
theorem dX5_sharesLives_15 : decode cX5_sharesLives 15 = .ok (.invokestatic 298, 3) := by decide +kernel
theorem dX5_sharesLives_18 : decode cX5_sharesLives 18 = .ok (.lstore_n 2, 1) := by decide +kernel
theorem dX5_sharesLives_19 : decode cX5_sharesLives 19 = .ok (.iconst 0, 1) := by decide +kernel
theorem dX5_sharesLives_20 : decode cX5_sharesLives 20 = .ok (.istore 4, 2) := by decide +kernel
theorem dX5_sharesLives_22 : decode cX5_sharesLives 22 = .ok (.iload 4, 2) := by decide +kernel
theorem dX5_sharesLives_24 : decode cX5_sharesLives 24 = .ok (.iconst 2, 1) := by decide +kernel
theorem dX5_sharesLives_25 : decode cX5_sharesLives 25 = .ok (.if_icmp .ge 22, 3) := by decide +kernel
theorem dX5_sharesLives_28 : decode cX5_sharesLives 28 = .ok (.aload_n 0, 1) := by decide +kernel
theorem dX5_sharesLives_29 : decode cX5_sharesLives 29 = .ok (.iload_n 1, 1) := by decide +kernel
theorem dX5_sharesLives_30 : decode cX5_sharesLives 30 = .ok (.iload 4, 2) := by decide +kernel
theorem dX5_sharesLives_32 : decode cX5_sharesLives 32 = .ok (.invokevirtual 301, 3) := by decide +kernel
theorem dX5_sharesLives_35 : decode cX5_sharesLives 35 = .ok (.aload_n 0, 1) := by decide +kernel
theorem dX5_sharesLives_36 : decode cX5_sharesLives 36 = .ok (.lload_n 2, 1) := by decide +kernel
theorem dX5_sharesLives_37 : decode cX5_sharesLives 37 = .ok (.invokevirtual 305, 3) := by decide +kernel
theorem dX5_sharesLives_40 : decode cX5_sharesLives 40 = .ok (.lstore_n 2, 1) := by decide +kernel
theorem dX5_sharesLives_41 : decode cX5_sharesLives 41 = .ok (.iinc 4 1, 3) := by decide +kernel
theorem dX5_sharesLives_44 : decode cX5_sharesLives 44 = .ok (.goto (-22), 3) := by decide +kernel
theorem dX5_sharesLives_47 : decode cX5_sharesLives 47 = .ok (.return_, 1) := by decide +kernel
theorem dX5_paysOne_0 : decode cX5_paysOne 0 = .ok (.aload_n 0, 1) := by decide +kernel
theorem dX5_paysOne_1 : decode cX5_paysOne 1 = .ok (.getfield 17, 3) := by decide +kernel
theorem dX5_paysOne_4 : decode cX5_paysOne 4 = .ok (.iload_n 1, 1) := by decide +kernel
theorem dX5_paysOne_5 : decode cX5_paysOne 5 = .ok (.iconst 5, 1) := by decide +kernel
theorem dX5_paysOne_6 : decode cX5_paysOne 6 = .ok (.invokestatic 243, 3) := by decide +kernel
theorem dX5_paysOne_9 : decode cX5_paysOne 9 = .ok (.iconst 1, 1) := by decide +kernel
theorem dX5_paysOne_10 : decode cX5_paysOne 10 = .ok (.if_icmp .ne 82, 3) := by decide +kernel
theorem dX5_paysOne_13 : decode cX5_paysOne 13 = .ok (.aload_n 0, 1) := by decide +kernel
theorem dX5_paysOne_14 : decode cX5_paysOne 14 = .ok (.aload_n 0, 1) := by decide +kernel
theorem dX5_paysOne_15 : decode cX5_paysOne 15 = .ok (.getfield 46, 3) := by decide +kernel
theorem dX5_paysOne_18 : decode cX5_paysOne 18 = .ok (.invokevirtual 291, 3) := by decide +kernel
theorem dX5_paysOne_21 : decode cX5_paysOne 21 = .ok (.iconst 0, 1) := by decide +kernel
theorem dX5_paysOne_22 : decode cX5_paysOne 22 = .ok (.istore_n 2, 1) := by decide +kernel
theorem dX5_paysOne_23 : decode cX5_paysOne 23 = .ok (.iload_n 2, 1) := by decide +kernel
theorem dX5_paysOne_24 : decode cX5_paysOne 24 = .ok (.aload_n 0, 1) := by decide +kernel
theorem dX5_paysOne_25 : decode cX5_paysOne 25 = .ok (.getfield 17, 3) := by decide +kernel
theorem dX5_paysOne_28 : decode cX5_paysOne 28 = .ok (.iconst 0, 1) := by decide +kernel
theorem dX5_paysOne_29 : decode cX5_paysOne 29 = .ok (.iaload, 1) := by decide +kernel
theorem dX5_paysOne_30 : decode cX5_paysOne 30 = .ok (.if_icmp .ge 24, 3) := by decide +kernel
theorem dX5_paysOne_33 : decode cX5_paysOne 33 = .ok (.aload_n 0, 1) := by decide +kernel
theorem dX5_paysOne_34 : decode cX5_paysOne 34 = .ok (.getfield 46, 3) := by decide +kernel
theorem dX5_paysOne_37 : decode cX5_paysOne 37 = .ok (.iload_n 2, 1) := by decide +kernel
theorem dX5_paysOne_38 : decode cX5_paysOne 38 = .ok (.aload_n 0, 1) := by decide +kernel
theorem dX5_paysOne_39 : decode cX5_paysOne 39 = .ok (.getfield 17, 3) := by decide +kernel
theorem dX5_paysOne_42 : decode cX5_paysOne 42 = .ok (.iload_n 1, 1) := by decide +kernel
theorem dX5_paysOne_43 : decode cX5_paysOne 43 = .ok (.iload_n 2, 1) := by decide +kernel
theorem dX5_paysOne_44 : decode cX5_paysOne 44 = .ok (.invokestatic 295, 3) := by decide +kernel
theorem dX5_paysOne_47 : decode cX5_paysOne 47 = .ok (.lastore, 1) := by decide +kernel
theorem dX5_paysOne_48 : decode cX5_paysOne 48 = .ok (.iinc 2 1, 3) := by decide +kernel
theorem dX5_paysOne_51 : decode cX5_paysOne 51 = .ok (.goto (-28), 3) := by decide +kernel
theorem dX5_paysOne_54 : decode cX5_paysOne 54 = .ok (.iconst 0, 1) := by decide +kernel
theorem dX5_paysOne_55 : decode cX5_paysOne 55 = .ok (.istore_n 2, 1) := by decide +kernel
theorem dX5_paysOne_56 : decode cX5_paysOne 56 = .ok (.iload_n 2, 1) := by decide +kernel
theorem dX5_paysOne_57 : decode cX5_paysOne 57 = .ok (.aload_n 0, 1) := by decide +kernel
theorem dX5_paysOne_58 : decode cX5_paysOne 58 = .ok (.getfield 17, 3) := by decide +kernel
theorem dX5_paysOne_61 : decode cX5_paysOne 61 = .ok (.iconst 1, 1) := by decide +kernel
theorem dX5_paysOne_62 : decode cX5_paysOne 62 = .ok (.iaload, 1) := by decide +kernel
theorem dX5_paysOne_63 : decode cX5_paysOne 63 = .ok (.if_icmp .ge 26, 3) := by decide +kernel
theorem dX5_paysOne_66 : decode cX5_paysOne 66 = .ok (.aload_n 0, 1) := by decide +kernel
theorem dX5_paysOne_67 : decode cX5_paysOne 67 = .ok (.getfield 46, 3) := by decide +kernel
theorem dX5_paysOne_70 : decode cX5_paysOne 70 = .ok (.iconst 4, 1) := by decide +kernel
theorem dX5_paysOne_71 : decode cX5_paysOne 71 = .ok (.iload_n 2, 1) := by decide +kernel
theorem dX5_paysOne_72 : decode cX5_paysOne 72 = .ok (.iadd, 1) := by decide +kernel
theorem dX5_paysOne_73 : decode cX5_paysOne 73 = .ok (.aload_n 0, 1) := by decide +kernel
theorem dX5_paysOne_74 : decode cX5_paysOne 74 = .ok (.getfield 17, 3) := by decide +kernel
theorem dX5_paysOne_77 : decode cX5_paysOne 77 = .ok (.iload_n 1, 1) := by decide +kernel
theorem dX5_paysOne_78 : decode cX5_paysOne 78 = .ok (.iload_n 2, 1) := by decide +kernel
theorem dX5_paysOne_79 : decode cX5_paysOne 79 = .ok (.invokestatic 266, 3) := by decide +kernel
theorem dX5_paysOne_82 : decode cX5_paysOne 82 = .ok (.lastore, 1) := by decide +kernel
theorem dX5_paysOne_83 : decode cX5_paysOne 83 = .ok (.iinc 2 1, 3) := by decide +kernel
theorem dX5_paysOne_86 : decode cX5_paysOne 86 = .ok (.goto (-30), 3) := by decide +kernel
theorem dX5_paysOne_89 : decode cX5_paysOne 89 = .ok (.goto 46, 3) := by decide +kernel
theorem dX5_paysOne_92 : decode cX5_paysOne 92 = .ok (.aload_n 0, 1) := by decide +kernel
theorem dX5_paysOne_93 : decode cX5_paysOne 93 = .ok (.iload_n 1, 1) := by decide +kernel
theorem dX5_paysOne_94 : decode cX5_paysOne 94 = .ok (.invokevirtual 309, 3) := by decide +kernel
theorem dX5_paysOne_97 : decode cX5_paysOne 97 = .ok (.aload_n 0, 1) := by decide +kernel
theorem dX5_paysOne_98 : decode cX5_paysOne 98 = .ok (.getfield 17, 3) := by decide +kernel
theorem dX5_paysOne_101 : decode cX5_paysOne 101 = .ok (.iload_n 1, 1) := by decide +kernel
theorem dX5_paysOne_102 : decode cX5_paysOne 102 = .ok (.iconst 5, 1) := by decide +kernel
theorem dX5_paysOne_103 : decode cX5_paysOne 103 = .ok (.invokestatic 298, 3) := by decide +kernel
theorem dX5_paysOne_106 : decode cX5_paysOne 106 = .ok (.lstore_n 2, 1) := by decide +kernel
theorem dX5_paysOne_107 : decode cX5_paysOne 107 = .ok (.iconst 0, 1) := by decide +kernel
theorem dX5_paysOne_108 : decode cX5_paysOne 108 = .ok (.istore 4, 2) := by decide +kernel
theorem dX5_paysOne_110 : decode cX5_paysOne 110 = .ok (.iload 4, 2) := by decide +kernel
theorem dX5_paysOne_112 : decode cX5_paysOne 112 = .ok (.iconst 2, 1) := by decide +kernel
theorem dX5_paysOne_113 : decode cX5_paysOne 113 = .ok (.if_icmp .ge 22, 3) := by decide +kernel
theorem dX5_paysOne_116 : decode cX5_paysOne 116 = .ok (.aload_n 0, 1) := by decide +kernel
theorem dX5_paysOne_117 : decode cX5_paysOne 117 = .ok (.iload_n 1, 1) := by decide +kernel
theorem dX5_paysOne_118 : decode cX5_paysOne 118 = .ok (.iload 4, 2) := by decide +kernel
theorem dX5_paysOne_120 : decode cX5_paysOne 120 = .ok (.invokevirtual 312, 3) := by decide +kernel
theorem dX5_paysOne_123 : decode cX5_paysOne 123 = .ok (.aload_n 0, 1) := by decide +kernel
theorem dX5_paysOne_124 : decode cX5_paysOne 124 = .ok (.lload_n 2, 1) := by decide +kernel
theorem dX5_paysOne_125 : decode cX5_paysOne 125 = .ok (.invokevirtual 305, 3) := by decide +kernel
theorem dX5_paysOne_128 : decode cX5_paysOne 128 = .ok (.lstore_n 2, 1) := by decide +kernel
theorem dX5_paysOne_129 : decode cX5_paysOne 129 = .ok (.iinc 4 1, 3) := by decide +kernel
theorem dX5_paysOne_132 : decode cX5_paysOne 132 = .ok (.goto (-22), 3) := by decide +kernel
theorem dX5_paysOne_135 : decode cX5_paysOne 135 = .ok (.iconst 0, 1) := by decide +kernel
theorem dX5_paysOne_136 : decode cX5_paysOne 136 = .ok (.istore_n 2, 1) := by decide +kernel
theorem dX5_paysOne_137 : decode cX5_paysOne 137 = .ok (.iload_n 2, 1) := by decide +kernel
theorem dX5_paysOne_138 : decode cX5_paysOne 138 = .ok (.bipush 16, 2) := by decide +kernel
theorem dX5_paysOne_140 : decode cX5_paysOne 140 = .ok (.if_icmp .ge 26, 3) := by decide +kernel
theorem dX5_paysOne_143 : decode cX5_paysOne 143 = .ok (.aload_n 0, 1) := by decide +kernel
theorem dX5_paysOne_144 : decode cX5_paysOne 144 = .ok (.getfield 49, 3) := by decide +kernel
theorem dX5_paysOne_147 : decode cX5_paysOne 147 = .ok (.bipush 16, 2) := by decide +kernel
theorem dX5_paysOne_149 : decode cX5_paysOne 149 = .ok (.iload_n 1, 1) := by decide +kernel
theorem dX5_paysOne_150 : decode cX5_paysOne 150 = .ok (.imul, 1) := by decide +kernel
theorem dX5_paysOne_151 : decode cX5_paysOne 151 = .ok (.iload_n 2, 1) := by decide +kernel
theorem dX5_paysOne_152 : decode cX5_paysOne 152 = .ok (.iadd, 1) := by decide +kernel
theorem dX5_paysOne_153 : decode cX5_paysOne 153 = .ok (.aload_n 0, 1) := by decide +kernel
theorem dX5_paysOne_154 : decode cX5_paysOne 154 = .ok (.getfield 46, 3) := by decide +kernel
theorem dX5_paysOne_157 : decode cX5_paysOne 157 = .ok (.iload_n 2, 1) := by decide +kernel
theorem dX5_paysOne_158 : decode cX5_paysOne 158 = .ok (.laload, 1) := by decide +kernel
theorem dX5_paysOne_159 : decode cX5_paysOne 159 = .ok (.lastore, 1) := by decide +kernel
theorem dX5_paysOne_160 : decode cX5_paysOne 160 = .ok (.iinc 2 1, 3) := by decide +kernel
theorem dX5_paysOne_163 : decode cX5_paysOne 163 = .ok (.goto (-26), 3) := by decide +kernel
theorem dX5_paysOne_166 : decode cX5_paysOne 166 = .ok (.return_, 1) := by decide +kernel
theorem dX5_paysAll_0 : decode cX5_paysAll 0 = .ok (.iconst 0, 1) := by decide +kernel
theorem dX5_paysAll_1 : decode cX5_paysAll 1 = .ok (.istore_n 1, 1) := by decide +kernel
theorem dX5_paysAll_2 : decode cX5_paysAll 2 = .ok (.iload_n 1, 1) := by decide +kernel
theorem dX5_paysAll_3 : decode cX5_paysAll 3 = .ok (.aload_n 0, 1) := by decide +kernel
theorem dX5_paysAll_4 : decode cX5_paysAll 4 = .ok (.getfield 17, 3) := by decide +kernel
theorem dX5_paysAll_7 : decode cX5_paysAll 7 = .ok (.iconst 0, 1) := by decide +kernel
theorem dX5_paysAll_8 : decode cX5_paysAll 8 = .ok (.iaload, 1) := by decide +kernel
theorem dX5_paysAll_9 : decode cX5_paysAll 9 = .ok (.if_icmp .ge 14, 3) := by decide +kernel
theorem dX5_paysAll_12 : decode cX5_paysAll 12 = .ok (.aload_n 0, 1) := by decide +kernel
theorem dX5_paysAll_13 : decode cX5_paysAll 13 = .ok (.iload_n 1, 1) := by decide +kernel
theorem dX5_paysAll_14 : decode cX5_paysAll 14 = .ok (.invokevirtual 315, 3) := by decide +kernel
theorem dX5_paysAll_17 : decode cX5_paysAll 17 = .ok (.iinc 1 1, 3) := by decide +kernel
theorem dX5_paysAll_20 : decode cX5_paysAll 20 = .ok (.goto (-18), 3) := by decide +kernel
theorem dX5_paysAll_23 : decode cX5_paysAll 23 = .ok (.return_, 1) := by decide +kernel
theorem dX5_lays_0 : decode cX5_lays 0 = .ok (.iconst 0, 1) := by decide +kernel
theorem dX5_lays_1 : decode cX5_lays 1 = .ok (.istore_n 1, 1) := by decide +kernel
theorem dX5_lays_2 : decode cX5_lays 2 = .ok (.iload_n 1, 1) := by decide +kernel
theorem dX5_lays_3 : decode cX5_lays 3 = .ok (.bipush 82, 2) := by decide +kernel
theorem dX5_lays_5 : decode cX5_lays 5 = .ok (.if_icmp .ge 21, 3) := by decide +kernel
theorem dX5_lays_8 : decode cX5_lays 8 = .ok (.aload_n 0, 1) := by decide +kernel
theorem dX5_lays_9 : decode cX5_lays 9 = .ok (.getfield 17, 3) := by decide +kernel
theorem dX5_lays_12 : decode cX5_lays 12 = .ok (.iload_n 1, 1) := by decide +kernel
theorem dX5_lays_13 : decode cX5_lays 13 = .ok (.aload_n 0, 1) := by decide +kernel
theorem dX5_lays_14 : decode cX5_lays 14 = .ok (.getfield 13, 3) := by decide +kernel
theorem dX5_lays_17 : decode cX5_lays 17 = .ok (.iload_n 1, 1) := by decide +kernel
theorem dX5_lays_18 : decode cX5_lays 18 = .ok (.iaload, 1) := by decide +kernel
theorem dX5_lays_19 : decode cX5_lays 19 = .ok (.iastore, 1) := by decide +kernel
theorem dX5_lays_20 : decode cX5_lays 20 = .ok (.iinc 1 1, 3) := by decide +kernel
theorem dX5_lays_23 : decode cX5_lays 23 = .ok (.goto (-21), 3) := by decide +kernel
theorem dX5_lays_26 : decode cX5_lays 26 = .ok (.return_, 1) := by decide +kernel
theorem dX5_laysPaid_0 : decode cX5_laysPaid 0 = .ok (.aload_n 0, 1) := by decide +kernel
theorem dX5_laysPaid_1 : decode cX5_laysPaid 1 = .ok (.invokevirtual 318, 3) := by decide +kernel
theorem dX5_laysPaid_4 : decode cX5_laysPaid 4 = .ok (.aload_n 0, 1) := by decide +kernel
theorem dX5_laysPaid_5 : decode cX5_laysPaid 5 = .ok (.invokevirtual 321, 3) := by decide +kernel
theorem dX5_laysPaid_8 : decode cX5_laysPaid 8 = .ok (.return_, 1) := by decide +kernel
theorem dX5_paidTo_0 : decode cX5_paidTo 0 = .ok (.lconst 0, 1) := by decide +kernel
theorem dX5_paidTo_1 : decode cX5_paidTo 1 = .ok (.lstore_n 2, 1) := by decide +kernel
theorem dX5_paidTo_2 : decode cX5_paidTo 2 = .ok (.iconst 0, 1) := by decide +kernel
theorem dX5_paidTo_3 : decode cX5_paidTo 3 = .ok (.istore 4, 2) := by decide +kernel
theorem dX5_paidTo_5 : decode cX5_paidTo 5 = .ok (.iload 4, 2) := by decide +kernel
theorem dX5_paidTo_7 : decode cX5_paidTo 7 = .ok (.aload_n 0, 1) := by decide +kernel
theorem dX5_paidTo_8 : decode cX5_paidTo 8 = .ok (.getfield 17, 3) := by decide +kernel
theorem dX5_paidTo_11 : decode cX5_paidTo 11 = .ok (.iconst 0, 1) := by decide +kernel
theorem dX5_paidTo_12 : decode cX5_paidTo 12 = .ok (.iaload, 1) := by decide +kernel
theorem dX5_paidTo_13 : decode cX5_paidTo 13 = .ok (.if_icmp .ge 26, 3) := by decide +kernel
theorem dX5_paidTo_16 : decode cX5_paidTo 16 = .ok (.lload_n 2, 1) := by decide +kernel
theorem dX5_paidTo_17 : decode cX5_paidTo 17 = .ok (.aload_n 0, 1) := by decide +kernel
theorem dX5_paidTo_18 : decode cX5_paidTo 18 = .ok (.getfield 49, 3) := by decide +kernel
theorem dX5_paidTo_21 : decode cX5_paidTo 21 = .ok (.bipush 16, 2) := by decide +kernel
theorem dX5_paidTo_23 : decode cX5_paidTo 23 = .ok (.iload 4, 2) := by decide +kernel
theorem dX5_paidTo_25 : decode cX5_paidTo 25 = .ok (.imul, 1) := by decide +kernel
theorem dX5_paidTo_26 : decode cX5_paidTo 26 = .ok (.iconst 4, 1) := by decide +kernel
theorem dX5_paidTo_27 : decode cX5_paidTo 27 = .ok (.iadd, 1) := by decide +kernel
theorem dX5_paidTo_28 : decode cX5_paidTo 28 = .ok (.iload_n 1, 1) := by decide +kernel
theorem dX5_paidTo_29 : decode cX5_paidTo 29 = .ok (.iadd, 1) := by decide +kernel
theorem dX5_paidTo_30 : decode cX5_paidTo 30 = .ok (.laload, 1) := by decide +kernel
theorem dX5_paidTo_31 : decode cX5_paidTo 31 = .ok (.ladd, 1) := by decide +kernel
theorem dX5_paidTo_32 : decode cX5_paidTo 32 = .ok (.lstore_n 2, 1) := by decide +kernel
theorem dX5_paidTo_33 : decode cX5_paidTo 33 = .ok (.iinc 4 1, 3) := by decide +kernel
theorem dX5_paidTo_36 : decode cX5_paidTo 36 = .ok (.goto (-31), 3) := by decide +kernel
theorem dX5_paidTo_39 : decode cX5_paidTo 39 = .ok (.lload_n 2, 1) := by decide +kernel
theorem dX5_paidTo_40 : decode cX5_paidTo 40 = .ok (.lreturn, 1) := by decide +kernel
theorem dX5_givenOf_0 : decode cX5_givenOf 0 = .ok (.aload_n 0, 1) := by decide +kernel
theorem dX5_givenOf_1 : decode cX5_givenOf 1 = .ok (.getfield 17, 3) := by decide +kernel
theorem dX5_givenOf_4 : decode cX5_givenOf 4 = .ok (.iload_n 1, 1) := by decide +kernel
theorem dX5_givenOf_5 : decode cX5_givenOf 5 = .ok (.iconst 1, 1) := by decide +kernel
theorem dX5_givenOf_6 : decode cX5_givenOf 6 = .ok (.invokestatic 255, 3) := by decide +kernel
theorem dX5_givenOf_9 : decode cX5_givenOf 9 = .ok (.istore_n 2, 1) := by decide +kernel
theorem dX5_givenOf_10 : decode cX5_givenOf 10 = .ok (.aload_n 0, 1) := by decide +kernel
theorem dX5_givenOf_11 : decode cX5_givenOf 11 = .ok (.getfield 17, 3) := by decide +kernel
theorem dX5_givenOf_14 : decode cX5_givenOf 14 = .ok (.iload_n 1, 1) := by decide +kernel
theorem dX5_givenOf_15 : decode cX5_givenOf 15 = .ok (.iconst 0, 1) := by decide +kernel
theorem dX5_givenOf_16 : decode cX5_givenOf 16 = .ok (.invokestatic 255, 3) := by decide +kernel
theorem dX5_givenOf_19 : decode cX5_givenOf 19 = .ok (.ifCond .ne 15, 3) := by decide +kernel
theorem dX5_givenOf_22 : decode cX5_givenOf 22 = .ok (.aload_n 0, 1) := by decide +kernel
theorem dX5_givenOf_23 : decode cX5_givenOf 23 = .ok (.getfield 17, 3) := by decide +kernel
theorem dX5_givenOf_26 : decode cX5_givenOf 26 = .ok (.iload_n 2, 1) := by decide +kernel
theorem dX5_givenOf_27 : decode cX5_givenOf 27 = .ok (.iconst 4, 1) := by decide +kernel
theorem dX5_givenOf_28 : decode cX5_givenOf 28 = .ok (.invokestatic 243, 3) := by decide +kernel
theorem dX5_givenOf_31 : decode cX5_givenOf 31 = .ok (.ifCond .ne 5, 3) := by decide +kernel
theorem dX5_givenOf_34 : decode cX5_givenOf 34 = .ok (.lconst 0, 1) := by decide +kernel
theorem dX5_givenOf_35 : decode cX5_givenOf 35 = .ok (.lreturn, 1) := by decide +kernel
theorem dX5_givenOf_36 : decode cX5_givenOf 36 = .ok (.aload_n 0, 1) := by decide +kernel
theorem dX5_givenOf_37 : decode cX5_givenOf 37 = .ok (.getfield 17, 3) := by decide +kernel
theorem dX5_givenOf_40 : decode cX5_givenOf 40 = .ok (.iload_n 1, 1) := by decide +kernel
theorem dX5_givenOf_41 : decode cX5_givenOf 41 = .ok (.invokestatic 324, 3) := by decide +kernel
theorem dX5_givenOf_44 : decode cX5_givenOf 44 = .ok (.aload_n 0, 1) := by decide +kernel
theorem dX5_givenOf_45 : decode cX5_givenOf 45 = .ok (.iload_n 1, 1) := by decide +kernel
theorem dX5_givenOf_46 : decode cX5_givenOf 46 = .ok (.invokevirtual 328, 3) := by decide +kernel
theorem dX5_givenOf_49 : decode cX5_givenOf 49 = .ok (.invokestatic 282, 3) := by decide +kernel
theorem dX5_givenOf_52 : decode cX5_givenOf 52 = .ok (.lreturn, 1) := by decide +kernel
theorem dX5_paidBy_0 : decode cX5_paidBy 0 = .ok (.lconst 0, 1) := by decide +kernel
theorem dX5_paidBy_1 : decode cX5_paidBy 1 = .ok (.lstore_n 2, 1) := by decide +kernel
theorem dX5_paidBy_2 : decode cX5_paidBy 2 = .ok (.iconst 0, 1) := by decide +kernel
theorem dX5_paidBy_3 : decode cX5_paidBy 3 = .ok (.istore 4, 2) := by decide +kernel
theorem dX5_paidBy_5 : decode cX5_paidBy 5 = .ok (.iload 4, 2) := by decide +kernel
theorem dX5_paidBy_7 : decode cX5_paidBy 7 = .ok (.bipush 16, 2) := by decide +kernel
theorem dX5_paidBy_9 : decode cX5_paidBy 9 = .ok (.if_icmp .ge 24, 3) := by decide +kernel
theorem dX5_paidBy_12 : decode cX5_paidBy 12 = .ok (.lload_n 2, 1) := by decide +kernel
theorem dX5_paidBy_13 : decode cX5_paidBy 13 = .ok (.aload_n 0, 1) := by decide +kernel
theorem dX5_paidBy_14 : decode cX5_paidBy 14 = .ok (.getfield 49, 3) := by decide +kernel
theorem dX5_paidBy_17 : decode cX5_paidBy 17 = .ok (.bipush 16, 2) := by decide +kernel
theorem dX5_paidBy_19 : decode cX5_paidBy 19 = .ok (.iload_n 1, 1) := by decide +kernel
theorem dX5_paidBy_20 : decode cX5_paidBy 20 = .ok (.imul, 1) := by decide +kernel
theorem dX5_paidBy_21 : decode cX5_paidBy 21 = .ok (.iload 4, 2) := by decide +kernel
theorem dX5_paidBy_23 : decode cX5_paidBy 23 = .ok (.iadd, 1) := by decide +kernel
theorem dX5_paidBy_24 : decode cX5_paidBy 24 = .ok (.laload, 1) := by decide +kernel
theorem dX5_paidBy_25 : decode cX5_paidBy 25 = .ok (.ladd, 1) := by decide +kernel
theorem dX5_paidBy_26 : decode cX5_paidBy 26 = .ok (.lstore_n 2, 1) := by decide +kernel
theorem dX5_paidBy_27 : decode cX5_paidBy 27 = .ok (.iinc 4 1, 3) := by decide +kernel
theorem dX5_paidBy_30 : decode cX5_paidBy 30 = .ok (.goto (-25), 3) := by decide +kernel
theorem dX5_paidBy_33 : decode cX5_paidBy 33 = .ok (.lload_n 2, 1) := by decide +kernel
theorem dX5_paidBy_34 : decode cX5_paidBy 34 = .ok (.lreturn, 1) := by decide +kernel
theorem dX5_netOf_0 : decode cX5_netOf 0 = .ok (.aload_n 0, 1) := by decide +kernel
theorem dX5_netOf_1 : decode cX5_netOf 1 = .ok (.iload_n 1, 1) := by decide +kernel
theorem dX5_netOf_2 : decode cX5_netOf 2 = .ok (.invokevirtual 331, 3) := by decide +kernel
theorem dX5_netOf_5 : decode cX5_netOf 5 = .ok (.lneg, 1) := by decide +kernel
theorem dX5_netOf_6 : decode cX5_netOf 6 = .ok (.aload_n 0, 1) := by decide +kernel
theorem dX5_netOf_7 : decode cX5_netOf 7 = .ok (.getfield 17, 3) := by decide +kernel
theorem dX5_netOf_10 : decode cX5_netOf 10 = .ok (.iload_n 1, 1) := by decide +kernel
theorem dX5_netOf_11 : decode cX5_netOf 11 = .ok (.iconst 2, 1) := by decide +kernel
theorem dX5_netOf_12 : decode cX5_netOf 12 = .ok (.invokestatic 243, 3) := by decide +kernel
theorem dX5_netOf_15 : decode cX5_netOf 15 = .ok (.i2l, 1) := by decide +kernel
theorem dX5_netOf_16 : decode cX5_netOf 16 = .ok (.lsub, 1) := by decide +kernel
theorem dX5_netOf_17 : decode cX5_netOf 17 = .ok (.lstore_n 2, 1) := by decide +kernel
theorem dX5_netOf_18 : decode cX5_netOf 18 = .ok (.iconst 0, 1) := by decide +kernel
theorem dX5_netOf_19 : decode cX5_netOf 19 = .ok (.istore 4, 2) := by decide +kernel
theorem dX5_netOf_21 : decode cX5_netOf 21 = .ok (.iload 4, 2) := by decide +kernel
theorem dX5_netOf_23 : decode cX5_netOf 23 = .ok (.aload_n 0, 1) := by decide +kernel
theorem dX5_netOf_24 : decode cX5_netOf 24 = .ok (.getfield 17, 3) := by decide +kernel
theorem dX5_netOf_27 : decode cX5_netOf 27 = .ok (.iconst 0, 1) := by decide +kernel
theorem dX5_netOf_28 : decode cX5_netOf 28 = .ok (.iaload, 1) := by decide +kernel
theorem dX5_netOf_29 : decode cX5_netOf 29 = .ok (.if_icmp .ge 24, 3) := by decide +kernel
theorem dX5_netOf_32 : decode cX5_netOf 32 = .ok (.lload_n 2, 1) := by decide +kernel
theorem dX5_netOf_33 : decode cX5_netOf 33 = .ok (.aload_n 0, 1) := by decide +kernel
theorem dX5_netOf_34 : decode cX5_netOf 34 = .ok (.getfield 49, 3) := by decide +kernel
theorem dX5_netOf_37 : decode cX5_netOf 37 = .ok (.bipush 16, 2) := by decide +kernel
theorem dX5_netOf_39 : decode cX5_netOf 39 = .ok (.iload 4, 2) := by decide +kernel
theorem dX5_netOf_41 : decode cX5_netOf 41 = .ok (.imul, 1) := by decide +kernel
theorem dX5_netOf_42 : decode cX5_netOf 42 = .ok (.iload_n 1, 1) := by decide +kernel
theorem dX5_netOf_43 : decode cX5_netOf 43 = .ok (.iadd, 1) := by decide +kernel
theorem dX5_netOf_44 : decode cX5_netOf 44 = .ok (.laload, 1) := by decide +kernel
theorem dX5_netOf_45 : decode cX5_netOf 45 = .ok (.ladd, 1) := by decide +kernel
theorem dX5_netOf_46 : decode cX5_netOf 46 = .ok (.lstore_n 2, 1) := by decide +kernel
theorem dX5_netOf_47 : decode cX5_netOf 47 = .ok (.iinc 4 1, 3) := by decide +kernel
theorem dX5_netOf_50 : decode cX5_netOf 50 = .ok (.goto (-29), 3) := by decide +kernel
theorem dX5_netOf_53 : decode cX5_netOf 53 = .ok (.iconst 0, 1) := by decide +kernel
theorem dX5_netOf_54 : decode cX5_netOf 54 = .ok (.istore 4, 2) := by decide +kernel
theorem dX5_netOf_56 : decode cX5_netOf 56 = .ok (.iload 4, 2) := by decide +kernel
theorem dX5_netOf_58 : decode cX5_netOf 58 = .ok (.aload_n 0, 1) := by decide +kernel
theorem dX5_netOf_59 : decode cX5_netOf 59 = .ok (.getfield 17, 3) := by decide +kernel
theorem dX5_netOf_62 : decode cX5_netOf 62 = .ok (.iconst 1, 1) := by decide +kernel
theorem dX5_netOf_63 : decode cX5_netOf 63 = .ok (.iaload, 1) := by decide +kernel
theorem dX5_netOf_64 : decode cX5_netOf 64 = .ok (.if_icmp .ge 36, 3) := by decide +kernel
theorem dX5_netOf_67 : decode cX5_netOf 67 = .ok (.lload_n 2, 1) := by decide +kernel
theorem dX5_netOf_68 : decode cX5_netOf 68 = .ok (.aload_n 0, 1) := by decide +kernel
theorem dX5_netOf_69 : decode cX5_netOf 69 = .ok (.getfield 17, 3) := by decide +kernel
theorem dX5_netOf_72 : decode cX5_netOf 72 = .ok (.iload 4, 2) := by decide +kernel
theorem dX5_netOf_74 : decode cX5_netOf 74 = .ok (.iconst 1, 1) := by decide +kernel
theorem dX5_netOf_75 : decode cX5_netOf 75 = .ok (.invokestatic 255, 3) := by decide +kernel
theorem dX5_netOf_78 : decode cX5_netOf 78 = .ok (.iload_n 1, 1) := by decide +kernel
theorem dX5_netOf_79 : decode cX5_netOf 79 = .ok (.if_icmp .ne 12, 3) := by decide +kernel
theorem dX5_netOf_82 : decode cX5_netOf 82 = .ok (.aload_n 0, 1) := by decide +kernel
theorem dX5_netOf_83 : decode cX5_netOf 83 = .ok (.iload 4, 2) := by decide +kernel
theorem dX5_netOf_85 : decode cX5_netOf 85 = .ok (.invokevirtual 334, 3) := by decide +kernel
theorem dX5_netOf_88 : decode cX5_netOf 88 = .ok (.goto 4, 3) := by decide +kernel
theorem dX5_netOf_91 : decode cX5_netOf 91 = .ok (.lconst 0, 1) := by decide +kernel
theorem dX5_netOf_92 : decode cX5_netOf 92 = .ok (.ladd, 1) := by decide +kernel
theorem dX5_netOf_93 : decode cX5_netOf 93 = .ok (.lstore_n 2, 1) := by decide +kernel
theorem dX5_netOf_94 : decode cX5_netOf 94 = .ok (.iinc 4 1, 3) := by decide +kernel
theorem dX5_netOf_97 : decode cX5_netOf 97 = .ok (.goto (-41), 3) := by decide +kernel
theorem dX5_netOf_100 : decode cX5_netOf 100 = .ok (.lload_n 2, 1) := by decide +kernel
theorem dX5_netOf_101 : decode cX5_netOf 101 = .ok (.lreturn, 1) := by decide +kernel
theorem dX5_part_0 : decode cX5_part 0 = .ok (.aload_n 0, 1) := by decide +kernel
theorem dX5_part_1 : decode cX5_part 1 = .ok (.invokevirtual 212, 3) := by decide +kernel
theorem dX5_part_4 : decode cX5_part 4 = .ok (.aload_n 0, 1) := by decide +kernel
theorem dX5_part_5 : decode cX5_part 5 = .ok (.aload_n 0, 1) := by decide +kernel
theorem dX5_part_6 : decode cX5_part 6 = .ok (.iload_n 1, 1) := by decide +kernel
theorem dX5_part_7 : decode cX5_part 7 = .ok (.invokevirtual 234, 3) := by decide +kernel
theorem dX5_part_10 : decode cX5_part 10 = .ok (.ifCond .ne 7, 3) := by decide +kernel
theorem dX5_part_13 : decode cX5_part 13 = .ok (.iconst 1, 1) := by decide +kernel
theorem dX5_part_14 : decode cX5_part 14 = .ok (.goto 4, 3) := by decide +kernel
theorem dX5_part_17 : decode cX5_part 17 = .ok (.iconst 0, 1) := by decide +kernel
theorem dX5_part_18 : decode cX5_part 18 = .ok (.iconst 1, 1) := by decide +kernel
theorem dX5_part_19 : decode cX5_part 19 = .ok (.invokevirtual 215, 3) := by decide +kernel
theorem dX5_part_22 : decode cX5_part 22 = .ok (.ifCond .ne 28, 3) := by decide +kernel
theorem dX5_part_25 : decode cX5_part 25 = .ok (.aload_n 0, 1) := by decide +kernel
theorem dX5_part_26 : decode cX5_part 26 = .ok (.iload_n 2, 1) := by decide +kernel
theorem dX5_part_27 : decode cX5_part 27 = .ok (.i2l, 1) := by decide +kernel
theorem dX5_part_28 : decode cX5_part 28 = .ok (.lconst 0, 1) := by decide +kernel
theorem dX5_part_29 : decode cX5_part 29 = .ok (.ldc2_w 337, 3) := by decide +kernel
theorem dX5_part_32 : decode cX5_part 32 = .ok (.invokestatic 161, 3) := by decide +kernel
theorem dX5_part_35 : decode cX5_part 35 = .ok (.ifCond .ne 7, 3) := by decide +kernel
theorem dX5_part_38 : decode cX5_part 38 = .ok (.iconst 1, 1) := by decide +kernel
theorem dX5_part_39 : decode cX5_part 39 = .ok (.goto 4, 3) := by decide +kernel
theorem dX5_part_42 : decode cX5_part 42 = .ok (.iconst 0, 1) := by decide +kernel
theorem dX5_part_43 : decode cX5_part 43 = .ok (.iconst 2, 1) := by decide +kernel
theorem dX5_part_44 : decode cX5_part 44 = .ok (.invokevirtual 215, 3) := by decide +kernel
theorem dX5_part_47 : decode cX5_part 47 = .ok (.ifCond .eq 5, 3) := by decide +kernel
theorem dX5_part_50 : decode cX5_part 50 = .ok (.iconst (-1), 1) := by decide +kernel
theorem dX5_part_51 : decode cX5_part 51 = .ok (.ireturn, 1) := by decide +kernel
theorem dX5_part_52 : decode cX5_part 52 = .ok (.aload_n 0, 1) := by decide +kernel
theorem dX5_part_53 : decode cX5_part 53 = .ok (.getfield 13, 3) := by decide +kernel
theorem dX5_part_56 : decode cX5_part 56 = .ok (.iload_n 1, 1) := by decide +kernel
theorem dX5_part_57 : decode cX5_part 57 = .ok (.iload_n 2, 1) := by decide +kernel
theorem dX5_part_58 : decode cX5_part 58 = .ok (.i2l, 1) := by decide +kernel
theorem dX5_part_59 : decode cX5_part 59 = .ok (.invokestatic 262, 3) := by decide +kernel
theorem dX5_part_62 : decode cX5_part 62 = .ok (.l2i, 1) := by decide +kernel
theorem dX5_part_63 : decode cX5_part 63 = .ok (.ireturn, 1) := by decide +kernel
theorem dX5_owes_0 : decode cX5_owes 0 = .ok (.aload_n 0, 1) := by decide +kernel
theorem dX5_owes_1 : decode cX5_owes 1 = .ok (.invokevirtual 212, 3) := by decide +kernel
theorem dX5_owes_4 : decode cX5_owes 4 = .ok (.aload_n 0, 1) := by decide +kernel
theorem dX5_owes_5 : decode cX5_owes 5 = .ok (.aload_n 0, 1) := by decide +kernel
theorem dX5_owes_6 : decode cX5_owes 6 = .ok (.iload_n 1, 1) := by decide +kernel
theorem dX5_owes_7 : decode cX5_owes 7 = .ok (.invokevirtual 234, 3) := by decide +kernel
theorem dX5_owes_10 : decode cX5_owes 10 = .ok (.ifCond .eq 11, 3) := by decide +kernel
theorem dX5_owes_13 : decode cX5_owes 13 = .ok (.aload_n 0, 1) := by decide +kernel
theorem dX5_owes_14 : decode cX5_owes 14 = .ok (.iload_n 2, 1) := by decide +kernel
theorem dX5_owes_15 : decode cX5_owes 15 = .ok (.invokevirtual 247, 3) := by decide +kernel
theorem dX5_owes_18 : decode cX5_owes 18 = .ok (.ifCond .ne 7, 3) := by decide +kernel
theorem dX5_owes_21 : decode cX5_owes 21 = .ok (.iconst 1, 1) := by decide +kernel
theorem dX5_owes_22 : decode cX5_owes 22 = .ok (.goto 4, 3) := by decide +kernel
theorem dX5_owes_25 : decode cX5_owes 25 = .ok (.iconst 0, 1) := by decide +kernel
theorem dX5_owes_26 : decode cX5_owes 26 = .ok (.iconst 1, 1) := by decide +kernel
theorem dX5_owes_27 : decode cX5_owes 27 = .ok (.invokevirtual 215, 3) := by decide +kernel
theorem dX5_owes_30 : decode cX5_owes 30 = .ok (.ifCond .eq 5, 3) := by decide +kernel
theorem dX5_owes_33 : decode cX5_owes 33 = .ok (.iconst (-1), 1) := by decide +kernel
theorem dX5_owes_34 : decode cX5_owes 34 = .ok (.ireturn, 1) := by decide +kernel
theorem dX5_owes_35 : decode cX5_owes 35 = .ok (.aload_n 0, 1) := by decide +kernel
theorem dX5_owes_36 : decode cX5_owes 36 = .ok (.getfield 13, 3) := by decide +kernel
theorem dX5_owes_39 : decode cX5_owes 39 = .ok (.iload_n 1, 1) := by decide +kernel
theorem dX5_owes_40 : decode cX5_owes 40 = .ok (.iload_n 2, 1) := by decide +kernel
theorem dX5_owes_41 : decode cX5_owes 41 = .ok (.invokestatic 266, 3) := by decide +kernel
theorem dX5_owes_44 : decode cX5_owes 44 = .ok (.l2i, 1) := by decide +kernel
theorem dX5_owes_45 : decode cX5_owes 45 = .ok (.ireturn, 1) := by decide +kernel
theorem dX5_between_0 : decode cX5_between 0 = .ok (.aload_n 0, 1) := by decide +kernel
theorem dX5_between_1 : decode cX5_between 1 = .ok (.invokevirtual 212, 3) := by decide +kernel
theorem dX5_between_4 : decode cX5_between 4 = .ok (.aload_n 0, 1) := by decide +kernel
theorem dX5_between_5 : decode cX5_between 5 = .ok (.aload_n 0, 1) := by decide +kernel
theorem dX5_between_6 : decode cX5_between 6 = .ok (.iload_n 1, 1) := by decide +kernel
theorem dX5_between_7 : decode cX5_between 7 = .ok (.invokevirtual 234, 3) := by decide +kernel
theorem dX5_between_10 : decode cX5_between 10 = .ok (.ifCond .eq 23, 3) := by decide +kernel
theorem dX5_between_13 : decode cX5_between 13 = .ok (.aload_n 0, 1) := by decide +kernel
theorem dX5_between_14 : decode cX5_between 14 = .ok (.iload_n 2, 1) := by decide +kernel
theorem dX5_between_15 : decode cX5_between 15 = .ok (.invokevirtual 234, 3) := by decide +kernel
theorem dX5_between_18 : decode cX5_between 18 = .ok (.ifCond .eq 15, 3) := by decide +kernel
theorem dX5_between_21 : decode cX5_between 21 = .ok (.iload_n 3, 1) := by decide +kernel
theorem dX5_between_22 : decode cX5_between 22 = .ok (.i2l, 1) := by decide +kernel
theorem dX5_between_23 : decode cX5_between 23 = .ok (.lconst 0, 1) := by decide +kernel
theorem dX5_between_24 : decode cX5_between 24 = .ok (.ldc2_w 339, 3) := by decide +kernel
theorem dX5_between_27 : decode cX5_between 27 = .ok (.invokestatic 161, 3) := by decide +kernel
theorem dX5_between_30 : decode cX5_between 30 = .ok (.ifCond .ne 7, 3) := by decide +kernel
theorem dX5_between_33 : decode cX5_between 33 = .ok (.iconst 1, 1) := by decide +kernel
theorem dX5_between_34 : decode cX5_between 34 = .ok (.goto 4, 3) := by decide +kernel
theorem dX5_between_37 : decode cX5_between 37 = .ok (.iconst 0, 1) := by decide +kernel
theorem dX5_between_38 : decode cX5_between 38 = .ok (.iconst 1, 1) := by decide +kernel
theorem dX5_between_39 : decode cX5_between 39 = .ok (.invokevirtual 215, 3) := by decide +kernel
theorem dX5_between_42 : decode cX5_between 42 = .ok (.ifCond .ne 21, 3) := by decide +kernel
theorem dX5_between_45 : decode cX5_between 45 = .ok (.aload_n 0, 1) := by decide +kernel
theorem dX5_between_46 : decode cX5_between 46 = .ok (.iload_n 1, 1) := by decide +kernel
theorem dX5_between_47 : decode cX5_between 47 = .ok (.iload_n 2, 1) := by decide +kernel
theorem dX5_between_48 : decode cX5_between 48 = .ok (.if_icmp .ne 7, 3) := by decide +kernel
theorem dX5_between_51 : decode cX5_between 51 = .ok (.iconst 1, 1) := by decide +kernel
theorem dX5_between_52 : decode cX5_between 52 = .ok (.goto 4, 3) := by decide +kernel
theorem dX5_between_55 : decode cX5_between 55 = .ok (.iconst 0, 1) := by decide +kernel
theorem dX5_between_56 : decode cX5_between 56 = .ok (.iconst 5, 1) := by decide +kernel
theorem dX5_between_57 : decode cX5_between 57 = .ok (.invokevirtual 215, 3) := by decide +kernel
theorem dX5_between_60 : decode cX5_between 60 = .ok (.ifCond .eq 7, 3) := by decide +kernel
theorem dX5_between_63 : decode cX5_between 63 = .ok (.ldc2_w 341, 3) := by decide +kernel
theorem dX5_between_66 : decode cX5_between 66 = .ok (.lreturn, 1) := by decide +kernel
theorem dX5_between_67 : decode cX5_between 67 = .ok (.iload_n 3, 1) := by decide +kernel
theorem dX5_between_68 : decode cX5_between 68 = .ok (.tableswitch 58 0 2 #[28, 38, 48], 28) := by decide +kernel
theorem dX5_between_96 : decode cX5_between 96 = .ok (.aload_n 0, 1) := by decide +kernel
theorem dX5_between_97 : decode cX5_between 97 = .ok (.getfield 13, 3) := by decide +kernel
theorem dX5_between_100 : decode cX5_between 100 = .ok (.iload_n 1, 1) := by decide +kernel
theorem dX5_between_101 : decode cX5_between 101 = .ok (.iload_n 2, 1) := by decide +kernel
theorem dX5_between_102 : decode cX5_between 102 = .ok (.invokestatic 273, 3) := by decide +kernel
theorem dX5_between_105 : decode cX5_between 105 = .ok (.lreturn, 1) := by decide +kernel
theorem dX5_between_106 : decode cX5_between 106 = .ok (.aload_n 0, 1) := by decide +kernel
theorem dX5_between_107 : decode cX5_between 107 = .ok (.getfield 13, 3) := by decide +kernel
theorem dX5_between_110 : decode cX5_between 110 = .ok (.iload_n 1, 1) := by decide +kernel
theorem dX5_between_111 : decode cX5_between 111 = .ok (.iload_n 2, 1) := by decide +kernel
theorem dX5_between_112 : decode cX5_between 112 = .ok (.invokestatic 276, 3) := by decide +kernel
theorem dX5_between_115 : decode cX5_between 115 = .ok (.lreturn, 1) := by decide +kernel
theorem dX5_between_116 : decode cX5_between 116 = .ok (.aload_n 0, 1) := by decide +kernel
theorem dX5_between_117 : decode cX5_between 117 = .ok (.getfield 13, 3) := by decide +kernel
theorem dX5_between_120 : decode cX5_between 120 = .ok (.iload_n 1, 1) := by decide +kernel
theorem dX5_between_121 : decode cX5_between 121 = .ok (.iload_n 2, 1) := by decide +kernel
theorem dX5_between_122 : decode cX5_between 122 = .ok (.invokestatic 279, 3) := by decide +kernel
theorem dX5_between_125 : decode cX5_between 125 = .ok (.lreturn, 1) := by decide +kernel
theorem dX5_between_126 : decode cX5_between 126 = .ok (.aload_n 0, 1) := by decide +kernel
theorem dX5_between_127 : decode cX5_between 127 = .ok (.getfield 13, 3) := by decide +kernel
theorem dX5_between_130 : decode cX5_between 130 = .ok (.iload_n 1, 1) := by decide +kernel
theorem dX5_between_131 : decode cX5_between 131 = .ok (.iload_n 2, 1) := by decide +kernel
theorem dX5_between_132 : decode cX5_between 132 = .ok (.invokestatic 295, 3) := by decide +kernel
theorem dX5_between_135 : decode cX5_between 135 = .ok (.lreturn, 1) := by decide +kernel
theorem dX5_back_0 : decode cX5_back 0 = .ok (.aload_n 0, 1) := by decide +kernel
theorem dX5_back_1 : decode cX5_back 1 = .ok (.invokevirtual 212, 3) := by decide +kernel
theorem dX5_back_4 : decode cX5_back 4 = .ok (.aload_n 0, 1) := by decide +kernel
theorem dX5_back_5 : decode cX5_back 5 = .ok (.aload_n 0, 1) := by decide +kernel
theorem dX5_back_6 : decode cX5_back 6 = .ok (.iload_n 1, 1) := by decide +kernel
theorem dX5_back_7 : decode cX5_back 7 = .ok (.invokevirtual 247, 3) := by decide +kernel
theorem dX5_back_10 : decode cX5_back 10 = .ok (.ifCond .ne 7, 3) := by decide +kernel
theorem dX5_back_13 : decode cX5_back 13 = .ok (.iconst 1, 1) := by decide +kernel
theorem dX5_back_14 : decode cX5_back 14 = .ok (.goto 4, 3) := by decide +kernel
theorem dX5_back_17 : decode cX5_back 17 = .ok (.iconst 0, 1) := by decide +kernel
theorem dX5_back_18 : decode cX5_back 18 = .ok (.iconst 1, 1) := by decide +kernel
theorem dX5_back_19 : decode cX5_back 19 = .ok (.invokevirtual 215, 3) := by decide +kernel
theorem dX5_back_22 : decode cX5_back 22 = .ok (.ifCond .eq 7, 3) := by decide +kernel
theorem dX5_back_25 : decode cX5_back 25 = .ok (.ldc2_w 341, 3) := by decide +kernel
theorem dX5_back_28 : decode cX5_back 28 = .ok (.lreturn, 1) := by decide +kernel
theorem dX5_back_29 : decode cX5_back 29 = .ok (.aload_n 0, 1) := by decide +kernel
theorem dX5_back_30 : decode cX5_back 30 = .ok (.getfield 13, 3) := by decide +kernel
theorem dX5_back_33 : decode cX5_back 33 = .ok (.iload_n 1, 1) := by decide +kernel
theorem dX5_back_34 : decode cX5_back 34 = .ok (.invokestatic 324, 3) := by decide +kernel
theorem dX5_back_37 : decode cX5_back 37 = .ok (.lreturn, 1) := by decide +kernel
theorem dX5_fund_0 : decode cX5_fund 0 = .ok (.aload_n 0, 1) := by decide +kernel
theorem dX5_fund_1 : decode cX5_fund 1 = .ok (.invokevirtual 212, 3) := by decide +kernel
theorem dX5_fund_4 : decode cX5_fund 4 = .ok (.aload_n 0, 1) := by decide +kernel
theorem dX5_fund_5 : decode cX5_fund 5 = .ok (.aload_n 0, 1) := by decide +kernel
theorem dX5_fund_6 : decode cX5_fund 6 = .ok (.iload_n 1, 1) := by decide +kernel
theorem dX5_fund_7 : decode cX5_fund 7 = .ok (.invokevirtual 234, 3) := by decide +kernel
theorem dX5_fund_10 : decode cX5_fund 10 = .ok (.ifCond .eq 13, 3) := by decide +kernel
theorem dX5_fund_13 : decode cX5_fund 13 = .ok (.iload_n 2, 1) := by decide +kernel
theorem dX5_fund_14 : decode cX5_fund 14 = .ok (.i2l, 1) := by decide +kernel
theorem dX5_fund_15 : decode cX5_fund 15 = .ok (.lconst 0, 1) := by decide +kernel
theorem dX5_fund_16 : decode cX5_fund 16 = .ok (.lconst 1, 1) := by decide +kernel
theorem dX5_fund_17 : decode cX5_fund 17 = .ok (.invokestatic 161, 3) := by decide +kernel
theorem dX5_fund_20 : decode cX5_fund 20 = .ok (.ifCond .ne 7, 3) := by decide +kernel
theorem dX5_fund_23 : decode cX5_fund 23 = .ok (.iconst 1, 1) := by decide +kernel
theorem dX5_fund_24 : decode cX5_fund 24 = .ok (.goto 4, 3) := by decide +kernel
theorem dX5_fund_27 : decode cX5_fund 27 = .ok (.iconst 0, 1) := by decide +kernel
theorem dX5_fund_28 : decode cX5_fund 28 = .ok (.iconst 1, 1) := by decide +kernel
theorem dX5_fund_29 : decode cX5_fund 29 = .ok (.invokevirtual 215, 3) := by decide +kernel
theorem dX5_fund_32 : decode cX5_fund 32 = .ok (.ifCond .eq 5, 3) := by decide +kernel
theorem dX5_fund_35 : decode cX5_fund 35 = .ok (.iconst (-1), 1) := by decide +kernel
theorem dX5_fund_36 : decode cX5_fund 36 = .ok (.ireturn, 1) := by decide +kernel
theorem dX5_fund_37 : decode cX5_fund 37 = .ok (.aload_n 0, 1) := by decide +kernel
theorem dX5_fund_38 : decode cX5_fund 38 = .ok (.getfield 13, 3) := by decide +kernel
theorem dX5_fund_41 : decode cX5_fund 41 = .ok (.iload_n 1, 1) := by decide +kernel
theorem dX5_fund_42 : decode cX5_fund 42 = .ok (.iload_n 2, 1) := by decide +kernel
theorem dX5_fund_43 : decode cX5_fund 43 = .ok (.ifCond .ne 8, 3) := by decide +kernel
theorem dX5_fund_46 : decode cX5_fund 46 = .ok (.bipush 6, 2) := by decide +kernel
theorem dX5_fund_48 : decode cX5_fund 48 = .ok (.goto 4, 3) := by decide +kernel
theorem dX5_fund_51 : decode cX5_fund 51 = .ok (.iconst 5, 1) := by decide +kernel
theorem dX5_fund_52 : decode cX5_fund 52 = .ok (.invokestatic 298, 3) := by decide +kernel
theorem dX5_fund_55 : decode cX5_fund 55 = .ok (.l2i, 1) := by decide +kernel
theorem dX5_fund_56 : decode cX5_fund 56 = .ok (.ireturn, 1) := by decide +kernel
theorem dX5_pays_0 : decode cX5_pays 0 = .ok (.aload_n 0, 1) := by decide +kernel
theorem dX5_pays_1 : decode cX5_pays 1 = .ok (.invokevirtual 212, 3) := by decide +kernel
theorem dX5_pays_4 : decode cX5_pays 4 = .ok (.aload_n 0, 1) := by decide +kernel
theorem dX5_pays_5 : decode cX5_pays 5 = .ok (.aload_n 0, 1) := by decide +kernel
theorem dX5_pays_6 : decode cX5_pays 6 = .ok (.iload_n 1, 1) := by decide +kernel
theorem dX5_pays_7 : decode cX5_pays 7 = .ok (.invokevirtual 234, 3) := by decide +kernel
theorem dX5_pays_10 : decode cX5_pays 10 = .ok (.ifCond .eq 11, 3) := by decide +kernel
theorem dX5_pays_13 : decode cX5_pays 13 = .ok (.aload_n 0, 1) := by decide +kernel
theorem dX5_pays_14 : decode cX5_pays 14 = .ok (.iload_n 2, 1) := by decide +kernel
theorem dX5_pays_15 : decode cX5_pays 15 = .ok (.invokevirtual 247, 3) := by decide +kernel
theorem dX5_pays_18 : decode cX5_pays 18 = .ok (.ifCond .ne 7, 3) := by decide +kernel
theorem dX5_pays_21 : decode cX5_pays 21 = .ok (.iconst 1, 1) := by decide +kernel
theorem dX5_pays_22 : decode cX5_pays 22 = .ok (.goto 4, 3) := by decide +kernel
theorem dX5_pays_25 : decode cX5_pays 25 = .ok (.iconst 0, 1) := by decide +kernel
theorem dX5_pays_26 : decode cX5_pays 26 = .ok (.iconst 1, 1) := by decide +kernel
theorem dX5_pays_27 : decode cX5_pays 27 = .ok (.invokevirtual 215, 3) := by decide +kernel
theorem dX5_pays_30 : decode cX5_pays 30 = .ok (.ifCond .eq 5, 3) := by decide +kernel
theorem dX5_pays_33 : decode cX5_pays 33 = .ok (.iconst (-1), 1) := by decide +kernel
theorem dX5_pays_34 : decode cX5_pays 34 = .ok (.ireturn, 1) := by decide +kernel
theorem dX5_pays_35 : decode cX5_pays 35 = .ok (.aload_n 0, 1) := by decide +kernel
theorem dX5_pays_36 : decode cX5_pays 36 = .ok (.invokevirtual 343, 3) := by decide +kernel
theorem dX5_pays_39 : decode cX5_pays 39 = .ok (.aload_n 0, 1) := by decide +kernel
theorem dX5_pays_40 : decode cX5_pays 40 = .ok (.getfield 49, 3) := by decide +kernel
theorem dX5_pays_43 : decode cX5_pays 43 = .ok (.bipush 16, 2) := by decide +kernel
theorem dX5_pays_45 : decode cX5_pays 45 = .ok (.iload_n 1, 1) := by decide +kernel
theorem dX5_pays_46 : decode cX5_pays 46 = .ok (.imul, 1) := by decide +kernel
theorem dX5_pays_47 : decode cX5_pays 47 = .ok (.iconst 4, 1) := by decide +kernel
theorem dX5_pays_48 : decode cX5_pays 48 = .ok (.iadd, 1) := by decide +kernel
theorem dX5_pays_49 : decode cX5_pays 49 = .ok (.iload_n 2, 1) := by decide +kernel
theorem dX5_pays_50 : decode cX5_pays 50 = .ok (.iadd, 1) := by decide +kernel
theorem dX5_pays_51 : decode cX5_pays 51 = .ok (.laload, 1) := by decide +kernel
theorem dX5_pays_52 : decode cX5_pays 52 = .ok (.l2i, 1) := by decide +kernel
theorem dX5_pays_53 : decode cX5_pays 53 = .ok (.ireturn, 1) := by decide +kernel
theorem dX5_paysTo_0 : decode cX5_paysTo 0 = .ok (.aload_n 0, 1) := by decide +kernel
theorem dX5_paysTo_1 : decode cX5_paysTo 1 = .ok (.invokevirtual 212, 3) := by decide +kernel
theorem dX5_paysTo_4 : decode cX5_paysTo 4 = .ok (.aload_n 0, 1) := by decide +kernel
theorem dX5_paysTo_5 : decode cX5_paysTo 5 = .ok (.aload_n 0, 1) := by decide +kernel
theorem dX5_paysTo_6 : decode cX5_paysTo 6 = .ok (.iload_n 1, 1) := by decide +kernel
theorem dX5_paysTo_7 : decode cX5_paysTo 7 = .ok (.invokevirtual 234, 3) := by decide +kernel
theorem dX5_paysTo_10 : decode cX5_paysTo 10 = .ok (.ifCond .eq 11, 3) := by decide +kernel
theorem dX5_paysTo_13 : decode cX5_paysTo 13 = .ok (.aload_n 0, 1) := by decide +kernel
theorem dX5_paysTo_14 : decode cX5_paysTo 14 = .ok (.iload_n 2, 1) := by decide +kernel
theorem dX5_paysTo_15 : decode cX5_paysTo 15 = .ok (.invokevirtual 234, 3) := by decide +kernel
theorem dX5_paysTo_18 : decode cX5_paysTo 18 = .ok (.ifCond .ne 7, 3) := by decide +kernel
theorem dX5_paysTo_21 : decode cX5_paysTo 21 = .ok (.iconst 1, 1) := by decide +kernel
theorem dX5_paysTo_22 : decode cX5_paysTo 22 = .ok (.goto 4, 3) := by decide +kernel
theorem dX5_paysTo_25 : decode cX5_paysTo 25 = .ok (.iconst 0, 1) := by decide +kernel
theorem dX5_paysTo_26 : decode cX5_paysTo 26 = .ok (.iconst 1, 1) := by decide +kernel
theorem dX5_paysTo_27 : decode cX5_paysTo 27 = .ok (.invokevirtual 215, 3) := by decide +kernel
theorem dX5_paysTo_30 : decode cX5_paysTo 30 = .ok (.ifCond .ne 21, 3) := by decide +kernel
theorem dX5_paysTo_33 : decode cX5_paysTo 33 = .ok (.aload_n 0, 1) := by decide +kernel
theorem dX5_paysTo_34 : decode cX5_paysTo 34 = .ok (.iload_n 1, 1) := by decide +kernel
theorem dX5_paysTo_35 : decode cX5_paysTo 35 = .ok (.iload_n 2, 1) := by decide +kernel
theorem dX5_paysTo_36 : decode cX5_paysTo 36 = .ok (.if_icmp .ne 7, 3) := by decide +kernel
theorem dX5_paysTo_39 : decode cX5_paysTo 39 = .ok (.iconst 1, 1) := by decide +kernel
theorem dX5_paysTo_40 : decode cX5_paysTo 40 = .ok (.goto 4, 3) := by decide +kernel
theorem dX5_paysTo_43 : decode cX5_paysTo 43 = .ok (.iconst 0, 1) := by decide +kernel
theorem dX5_paysTo_44 : decode cX5_paysTo 44 = .ok (.iconst 5, 1) := by decide +kernel
theorem dX5_paysTo_45 : decode cX5_paysTo 45 = .ok (.invokevirtual 215, 3) := by decide +kernel
theorem dX5_paysTo_48 : decode cX5_paysTo 48 = .ok (.ifCond .eq 7, 3) := by decide +kernel
theorem dX5_paysTo_51 : decode cX5_paysTo 51 = .ok (.ldc2_w 341, 3) := by decide +kernel
theorem dX5_paysTo_54 : decode cX5_paysTo 54 = .ok (.lreturn, 1) := by decide +kernel
theorem dX5_paysTo_55 : decode cX5_paysTo 55 = .ok (.aload_n 0, 1) := by decide +kernel
theorem dX5_paysTo_56 : decode cX5_paysTo 56 = .ok (.invokevirtual 343, 3) := by decide +kernel
theorem dX5_paysTo_59 : decode cX5_paysTo 59 = .ok (.aload_n 0, 1) := by decide +kernel
theorem dX5_paysTo_60 : decode cX5_paysTo 60 = .ok (.getfield 49, 3) := by decide +kernel
theorem dX5_paysTo_63 : decode cX5_paysTo 63 = .ok (.bipush 16, 2) := by decide +kernel
theorem dX5_paysTo_65 : decode cX5_paysTo 65 = .ok (.iload_n 1, 1) := by decide +kernel
theorem dX5_paysTo_66 : decode cX5_paysTo 66 = .ok (.imul, 1) := by decide +kernel
theorem dX5_paysTo_67 : decode cX5_paysTo 67 = .ok (.iload_n 2, 1) := by decide +kernel
theorem dX5_paysTo_68 : decode cX5_paysTo 68 = .ok (.iadd, 1) := by decide +kernel
theorem dX5_paysTo_69 : decode cX5_paysTo 69 = .ok (.laload, 1) := by decide +kernel
theorem dX5_paysTo_70 : decode cX5_paysTo 70 = .ok (.lreturn, 1) := by decide +kernel
theorem dX5_owedBy_0 : decode cX5_owedBy 0 = .ok (.lconst 0, 1) := by decide +kernel
theorem dX5_owedBy_1 : decode cX5_owedBy 1 = .ok (.lstore_n 2, 1) := by decide +kernel
theorem dX5_owedBy_2 : decode cX5_owedBy 2 = .ok (.iconst 0, 1) := by decide +kernel
theorem dX5_owedBy_3 : decode cX5_owedBy 3 = .ok (.istore 4, 2) := by decide +kernel
theorem dX5_owedBy_5 : decode cX5_owedBy 5 = .ok (.iload 4, 2) := by decide +kernel
theorem dX5_owedBy_7 : decode cX5_owedBy 7 = .ok (.aload_n 0, 1) := by decide +kernel
theorem dX5_owedBy_8 : decode cX5_owedBy 8 = .ok (.getfield 13, 3) := by decide +kernel
theorem dX5_owedBy_11 : decode cX5_owedBy 11 = .ok (.iconst 0, 1) := by decide +kernel
theorem dX5_owedBy_12 : decode cX5_owedBy 12 = .ok (.iaload, 1) := by decide +kernel
theorem dX5_owedBy_13 : decode cX5_owedBy 13 = .ok (.if_icmp .ge 22, 3) := by decide +kernel
theorem dX5_owedBy_16 : decode cX5_owedBy 16 = .ok (.lload_n 2, 1) := by decide +kernel
theorem dX5_owedBy_17 : decode cX5_owedBy 17 = .ok (.aload_n 0, 1) := by decide +kernel
theorem dX5_owedBy_18 : decode cX5_owedBy 18 = .ok (.getfield 13, 3) := by decide +kernel
theorem dX5_owedBy_21 : decode cX5_owedBy 21 = .ok (.iload_n 1, 1) := by decide +kernel
theorem dX5_owedBy_22 : decode cX5_owedBy 22 = .ok (.iload 4, 2) := by decide +kernel
theorem dX5_owedBy_24 : decode cX5_owedBy 24 = .ok (.invokestatic 295, 3) := by decide +kernel
theorem dX5_owedBy_27 : decode cX5_owedBy 27 = .ok (.ladd, 1) := by decide +kernel
theorem dX5_owedBy_28 : decode cX5_owedBy 28 = .ok (.lstore_n 2, 1) := by decide +kernel
theorem dX5_owedBy_29 : decode cX5_owedBy 29 = .ok (.iinc 4 1, 3) := by decide +kernel
theorem dX5_owedBy_32 : decode cX5_owedBy 32 = .ok (.goto (-27), 3) := by decide +kernel
theorem dX5_owedBy_35 : decode cX5_owedBy 35 = .ok (.iconst 0, 1) := by decide +kernel
theorem dX5_owedBy_36 : decode cX5_owedBy 36 = .ok (.istore 4, 2) := by decide +kernel
theorem dX5_owedBy_38 : decode cX5_owedBy 38 = .ok (.iload 4, 2) := by decide +kernel
theorem dX5_owedBy_40 : decode cX5_owedBy 40 = .ok (.aload_n 0, 1) := by decide +kernel
theorem dX5_owedBy_41 : decode cX5_owedBy 41 = .ok (.getfield 13, 3) := by decide +kernel
theorem dX5_owedBy_44 : decode cX5_owedBy 44 = .ok (.iconst 1, 1) := by decide +kernel
theorem dX5_owedBy_45 : decode cX5_owedBy 45 = .ok (.iaload, 1) := by decide +kernel
theorem dX5_owedBy_46 : decode cX5_owedBy 46 = .ok (.if_icmp .ge 22, 3) := by decide +kernel
theorem dX5_owedBy_49 : decode cX5_owedBy 49 = .ok (.lload_n 2, 1) := by decide +kernel
theorem dX5_owedBy_50 : decode cX5_owedBy 50 = .ok (.aload_n 0, 1) := by decide +kernel
theorem dX5_owedBy_51 : decode cX5_owedBy 51 = .ok (.getfield 13, 3) := by decide +kernel
theorem dX5_owedBy_54 : decode cX5_owedBy 54 = .ok (.iload_n 1, 1) := by decide +kernel
theorem dX5_owedBy_55 : decode cX5_owedBy 55 = .ok (.iload 4, 2) := by decide +kernel
theorem dX5_owedBy_57 : decode cX5_owedBy 57 = .ok (.invokestatic 266, 3) := by decide +kernel
theorem dX5_owedBy_60 : decode cX5_owedBy 60 = .ok (.ladd, 1) := by decide +kernel
theorem dX5_owedBy_61 : decode cX5_owedBy 61 = .ok (.lstore_n 2, 1) := by decide +kernel
theorem dX5_owedBy_62 : decode cX5_owedBy 62 = .ok (.iinc 4 1, 3) := by decide +kernel
theorem dX5_owedBy_65 : decode cX5_owedBy 65 = .ok (.goto (-27), 3) := by decide +kernel
theorem dX5_owedBy_68 : decode cX5_owedBy 68 = .ok (.lload_n 2, 1) := by decide +kernel
theorem dX5_owedBy_69 : decode cX5_owedBy 69 = .ok (.lreturn, 1) := by decide +kernel
theorem dX5_sum_0 : decode cX5_sum 0 = .ok (.aload_n 0, 1) := by decide +kernel
theorem dX5_sum_1 : decode cX5_sum 1 = .ok (.invokevirtual 212, 3) := by decide +kernel
theorem dX5_sum_4 : decode cX5_sum 4 = .ok (.aload_n 0, 1) := by decide +kernel
theorem dX5_sum_5 : decode cX5_sum 5 = .ok (.aload_n 0, 1) := by decide +kernel
theorem dX5_sum_6 : decode cX5_sum 6 = .ok (.iload_n 1, 1) := by decide +kernel
theorem dX5_sum_7 : decode cX5_sum 7 = .ok (.invokevirtual 234, 3) := by decide +kernel
theorem dX5_sum_10 : decode cX5_sum 10 = .ok (.ifCond .eq 13, 3) := by decide +kernel
theorem dX5_sum_13 : decode cX5_sum 13 = .ok (.iload_n 2, 1) := by decide +kernel
theorem dX5_sum_14 : decode cX5_sum 14 = .ok (.i2l, 1) := by decide +kernel
theorem dX5_sum_15 : decode cX5_sum 15 = .ok (.lconst 0, 1) := by decide +kernel
theorem dX5_sum_16 : decode cX5_sum 16 = .ok (.lconst 1, 1) := by decide +kernel
theorem dX5_sum_17 : decode cX5_sum 17 = .ok (.invokestatic 161, 3) := by decide +kernel
theorem dX5_sum_20 : decode cX5_sum 20 = .ok (.ifCond .ne 7, 3) := by decide +kernel
theorem dX5_sum_23 : decode cX5_sum 23 = .ok (.iconst 1, 1) := by decide +kernel
theorem dX5_sum_24 : decode cX5_sum 24 = .ok (.goto 4, 3) := by decide +kernel
theorem dX5_sum_27 : decode cX5_sum 27 = .ok (.iconst 0, 1) := by decide +kernel
theorem dX5_sum_28 : decode cX5_sum 28 = .ok (.iconst 1, 1) := by decide +kernel
theorem dX5_sum_29 : decode cX5_sum 29 = .ok (.invokevirtual 215, 3) := by decide +kernel
theorem dX5_sum_32 : decode cX5_sum 32 = .ok (.ifCond .eq 7, 3) := by decide +kernel
theorem dX5_sum_35 : decode cX5_sum 35 = .ok (.ldc2_w 341, 3) := by decide +kernel
theorem dX5_sum_38 : decode cX5_sum 38 = .ok (.lreturn, 1) := by decide +kernel
theorem dX5_sum_39 : decode cX5_sum 39 = .ok (.iload_n 2, 1) := by decide +kernel
theorem dX5_sum_40 : decode cX5_sum 40 = .ok (.ifCond .ne 9, 3) := by decide +kernel
theorem dX5_sum_43 : decode cX5_sum 43 = .ok (.aload_n 0, 1) := by decide +kernel
theorem dX5_sum_44 : decode cX5_sum 44 = .ok (.iload_n 1, 1) := by decide +kernel
theorem dX5_sum_45 : decode cX5_sum 45 = .ok (.invokevirtual 346, 3) := by decide +kernel
theorem dX5_sum_48 : decode cX5_sum 48 = .ok (.lreturn, 1) := by decide +kernel
theorem dX5_sum_49 : decode cX5_sum 49 = .ok (.aload_n 0, 1) := by decide +kernel
theorem dX5_sum_50 : decode cX5_sum 50 = .ok (.invokevirtual 343, 3) := by decide +kernel
theorem dX5_sum_53 : decode cX5_sum 53 = .ok (.aload_n 0, 1) := by decide +kernel
theorem dX5_sum_54 : decode cX5_sum 54 = .ok (.iload_n 1, 1) := by decide +kernel
theorem dX5_sum_55 : decode cX5_sum 55 = .ok (.invokevirtual 331, 3) := by decide +kernel
theorem dX5_sum_58 : decode cX5_sum 58 = .ok (.lreturn, 1) := by decide +kernel
theorem dX5_bites_0 : decode cX5_bites 0 = .ok (.aload_n 0, 1) := by decide +kernel
theorem dX5_bites_1 : decode cX5_bites 1 = .ok (.invokevirtual 212, 3) := by decide +kernel
theorem dX5_bites_4 : decode cX5_bites 4 = .ok (.aload_n 0, 1) := by decide +kernel
theorem dX5_bites_5 : decode cX5_bites 5 = .ok (.aload_n 0, 1) := by decide +kernel
theorem dX5_bites_6 : decode cX5_bites 6 = .ok (.iload_n 1, 1) := by decide +kernel
theorem dX5_bites_7 : decode cX5_bites 7 = .ok (.invokevirtual 234, 3) := by decide +kernel
theorem dX5_bites_10 : decode cX5_bites 10 = .ok (.ifCond .ne 7, 3) := by decide +kernel
theorem dX5_bites_13 : decode cX5_bites 13 = .ok (.iconst 1, 1) := by decide +kernel
theorem dX5_bites_14 : decode cX5_bites 14 = .ok (.goto 4, 3) := by decide +kernel
theorem dX5_bites_17 : decode cX5_bites 17 = .ok (.iconst 0, 1) := by decide +kernel
theorem dX5_bites_18 : decode cX5_bites 18 = .ok (.iconst 1, 1) := by decide +kernel
theorem dX5_bites_19 : decode cX5_bites 19 = .ok (.invokevirtual 215, 3) := by decide +kernel
theorem dX5_bites_22 : decode cX5_bites 22 = .ok (.ifCond .eq 5, 3) := by decide +kernel
theorem dX5_bites_25 : decode cX5_bites 25 = .ok (.iconst (-1), 1) := by decide +kernel
theorem dX5_bites_26 : decode cX5_bites 26 = .ok (.ireturn, 1) := by decide +kernel
theorem dX5_bites_27 : decode cX5_bites 27 = .ok (.aload_n 0, 1) := by decide +kernel
theorem dX5_bites_28 : decode cX5_bites 28 = .ok (.invokevirtual 343, 3) := by decide +kernel
theorem dX5_bites_31 : decode cX5_bites 31 = .ok (.aload_n 0, 1) := by decide +kernel
theorem dX5_bites_32 : decode cX5_bites 32 = .ok (.iload_n 1, 1) := by decide +kernel
theorem dX5_bites_33 : decode cX5_bites 33 = .ok (.invokevirtual 331, 3) := by decide +kernel
theorem dX5_bites_36 : decode cX5_bites 36 = .ok (.aload_n 0, 1) := by decide +kernel
theorem dX5_bites_37 : decode cX5_bites 37 = .ok (.iload_n 1, 1) := by decide +kernel
theorem dX5_bites_38 : decode cX5_bites 38 = .ok (.invokevirtual 346, 3) := by decide +kernel
theorem dX5_bites_41 : decode cX5_bites 41 = .ok (.lcmp, 1) := by decide +kernel
theorem dX5_bites_42 : decode cX5_bites 42 = .ok (.ifCond .ge 7, 3) := by decide +kernel
theorem dX5_bites_45 : decode cX5_bites 45 = .ok (.iconst 1, 1) := by decide +kernel
theorem dX5_bites_46 : decode cX5_bites 46 = .ok (.goto 4, 3) := by decide +kernel
theorem dX5_bites_49 : decode cX5_bites 49 = .ok (.iconst 0, 1) := by decide +kernel
theorem dX5_bites_50 : decode cX5_bites 50 = .ok (.ireturn, 1) := by decide +kernel
theorem dX5_gets_0 : decode cX5_gets 0 = .ok (.aload_n 0, 1) := by decide +kernel
theorem dX5_gets_1 : decode cX5_gets 1 = .ok (.invokevirtual 212, 3) := by decide +kernel
theorem dX5_gets_4 : decode cX5_gets 4 = .ok (.aload_n 0, 1) := by decide +kernel
theorem dX5_gets_5 : decode cX5_gets 5 = .ok (.aload_n 0, 1) := by decide +kernel
theorem dX5_gets_6 : decode cX5_gets 6 = .ok (.iload_n 1, 1) := by decide +kernel
theorem dX5_gets_7 : decode cX5_gets 7 = .ok (.invokevirtual 247, 3) := by decide +kernel
theorem dX5_gets_10 : decode cX5_gets 10 = .ok (.ifCond .eq 15, 3) := by decide +kernel
theorem dX5_gets_13 : decode cX5_gets 13 = .ok (.iload_n 2, 1) := by decide +kernel
theorem dX5_gets_14 : decode cX5_gets 14 = .ok (.i2l, 1) := by decide +kernel
theorem dX5_gets_15 : decode cX5_gets 15 = .ok (.lconst 0, 1) := by decide +kernel
theorem dX5_gets_16 : decode cX5_gets 16 = .ok (.ldc2_w 349, 3) := by decide +kernel
theorem dX5_gets_19 : decode cX5_gets 19 = .ok (.invokestatic 161, 3) := by decide +kernel
theorem dX5_gets_22 : decode cX5_gets 22 = .ok (.ifCond .ne 7, 3) := by decide +kernel
theorem dX5_gets_25 : decode cX5_gets 25 = .ok (.iconst 1, 1) := by decide +kernel
theorem dX5_gets_26 : decode cX5_gets 26 = .ok (.goto 4, 3) := by decide +kernel
theorem dX5_gets_29 : decode cX5_gets 29 = .ok (.iconst 0, 1) := by decide +kernel
theorem dX5_gets_30 : decode cX5_gets 30 = .ok (.iconst 1, 1) := by decide +kernel
theorem dX5_gets_31 : decode cX5_gets 31 = .ok (.invokevirtual 215, 3) := by decide +kernel
theorem dX5_gets_34 : decode cX5_gets 34 = .ok (.ifCond .eq 7, 3) := by decide +kernel
theorem dX5_gets_37 : decode cX5_gets 37 = .ok (.ldc2_w 341, 3) := by decide +kernel
theorem dX5_gets_40 : decode cX5_gets 40 = .ok (.lreturn, 1) := by decide +kernel
theorem dX5_gets_41 : decode cX5_gets 41 = .ok (.aload_n 0, 1) := by decide +kernel
theorem dX5_gets_42 : decode cX5_gets 42 = .ok (.invokevirtual 343, 3) := by decide +kernel
theorem dX5_gets_45 : decode cX5_gets 45 = .ok (.iload_n 2, 1) := by decide +kernel
theorem dX5_gets_46 : decode cX5_gets 46 = .ok (.ifCond .ne 15, 3) := by decide +kernel
theorem dX5_gets_49 : decode cX5_gets 49 = .ok (.aload_n 0, 1) := by decide +kernel
theorem dX5_gets_50 : decode cX5_gets 50 = .ok (.iload_n 1, 1) := by decide +kernel
theorem dX5_gets_51 : decode cX5_gets 51 = .ok (.invokevirtual 328, 3) := by decide +kernel
theorem dX5_gets_54 : decode cX5_gets 54 = .ok (.aload_n 0, 1) := by decide +kernel
theorem dX5_gets_55 : decode cX5_gets 55 = .ok (.iload_n 1, 1) := by decide +kernel
theorem dX5_gets_56 : decode cX5_gets 56 = .ok (.invokevirtual 334, 3) := by decide +kernel
theorem dX5_gets_59 : decode cX5_gets 59 = .ok (.lsub, 1) := by decide +kernel
theorem dX5_gets_60 : decode cX5_gets 60 = .ok (.lreturn, 1) := by decide +kernel
theorem dX5_gets_61 : decode cX5_gets 61 = .ok (.iload_n 2, 1) := by decide +kernel
theorem dX5_gets_62 : decode cX5_gets 62 = .ok (.iconst 1, 1) := by decide +kernel
theorem dX5_gets_63 : decode cX5_gets 63 = .ok (.if_icmp .ne 11, 3) := by decide +kernel
theorem dX5_gets_66 : decode cX5_gets 66 = .ok (.aload_n 0, 1) := by decide +kernel
theorem dX5_gets_67 : decode cX5_gets 67 = .ok (.iload_n 1, 1) := by decide +kernel
theorem dX5_gets_68 : decode cX5_gets 68 = .ok (.invokevirtual 334, 3) := by decide +kernel
theorem dX5_gets_71 : decode cX5_gets 71 = .ok (.goto 8, 3) := by decide +kernel
theorem dX5_gets_74 : decode cX5_gets 74 = .ok (.aload_n 0, 1) := by decide +kernel
theorem dX5_gets_75 : decode cX5_gets 75 = .ok (.iload_n 1, 1) := by decide +kernel
theorem dX5_gets_76 : decode cX5_gets 76 = .ok (.invokevirtual 328, 3) := by decide +kernel
theorem dX5_gets_79 : decode cX5_gets 79 = .ok (.lreturn, 1) := by decide +kernel
theorem dX5_cover_0 : decode cX5_cover 0 = .ok (.aload_n 0, 1) := by decide +kernel
theorem dX5_cover_1 : decode cX5_cover 1 = .ok (.invokevirtual 212, 3) := by decide +kernel
theorem dX5_cover_4 : decode cX5_cover 4 = .ok (.aload_n 0, 1) := by decide +kernel
theorem dX5_cover_5 : decode cX5_cover 5 = .ok (.aload_n 0, 1) := by decide +kernel
theorem dX5_cover_6 : decode cX5_cover 6 = .ok (.iload_n 1, 1) := by decide +kernel
theorem dX5_cover_7 : decode cX5_cover 7 = .ok (.invokevirtual 234, 3) := by decide +kernel
theorem dX5_cover_10 : decode cX5_cover 10 = .ok (.ifCond .eq 13, 3) := by decide +kernel
theorem dX5_cover_13 : decode cX5_cover 13 = .ok (.iload_n 2, 1) := by decide +kernel
theorem dX5_cover_14 : decode cX5_cover 14 = .ok (.i2l, 1) := by decide +kernel
theorem dX5_cover_15 : decode cX5_cover 15 = .ok (.lconst 0, 1) := by decide +kernel
theorem dX5_cover_16 : decode cX5_cover 16 = .ok (.lconst 1, 1) := by decide +kernel
theorem dX5_cover_17 : decode cX5_cover 17 = .ok (.invokestatic 161, 3) := by decide +kernel
theorem dX5_cover_20 : decode cX5_cover 20 = .ok (.ifCond .ne 7, 3) := by decide +kernel
theorem dX5_cover_23 : decode cX5_cover 23 = .ok (.iconst 1, 1) := by decide +kernel
theorem dX5_cover_24 : decode cX5_cover 24 = .ok (.goto 4, 3) := by decide +kernel
theorem dX5_cover_27 : decode cX5_cover 27 = .ok (.iconst 0, 1) := by decide +kernel
theorem dX5_cover_28 : decode cX5_cover 28 = .ok (.iconst 1, 1) := by decide +kernel
theorem dX5_cover_29 : decode cX5_cover 29 = .ok (.invokevirtual 215, 3) := by decide +kernel
theorem dX5_cover_32 : decode cX5_cover 32 = .ok (.ifCond .eq 7, 3) := by decide +kernel
theorem dX5_cover_35 : decode cX5_cover 35 = .ok (.ldc2_w 341, 3) := by decide +kernel
theorem dX5_cover_38 : decode cX5_cover 38 = .ok (.lreturn, 1) := by decide +kernel
theorem dX5_cover_39 : decode cX5_cover 39 = .ok (.aload_n 0, 1) := by decide +kernel
theorem dX5_cover_40 : decode cX5_cover 40 = .ok (.invokevirtual 343, 3) := by decide +kernel
theorem dX5_cover_43 : decode cX5_cover 43 = .ok (.aload_n 0, 1) := by decide +kernel
theorem dX5_cover_44 : decode cX5_cover 44 = .ok (.iload_n 1, 1) := by decide +kernel
theorem dX5_cover_45 : decode cX5_cover 45 = .ok (.invokevirtual 331, 3) := by decide +kernel
theorem dX5_cover_48 : decode cX5_cover 48 = .ok (.lstore_n 3, 1) := by decide +kernel
theorem dX5_cover_49 : decode cX5_cover 49 = .ok (.iconst 0, 1) := by decide +kernel
theorem dX5_cover_50 : decode cX5_cover 50 = .ok (.istore 5, 2) := by decide +kernel
theorem dX5_cover_52 : decode cX5_cover 52 = .ok (.iload 5, 2) := by decide +kernel
theorem dX5_cover_54 : decode cX5_cover 54 = .ok (.aload_n 0, 1) := by decide +kernel
theorem dX5_cover_55 : decode cX5_cover 55 = .ok (.getfield 13, 3) := by decide +kernel
theorem dX5_cover_58 : decode cX5_cover 58 = .ok (.iconst 1, 1) := by decide +kernel
theorem dX5_cover_59 : decode cX5_cover 59 = .ok (.iaload, 1) := by decide +kernel
theorem dX5_cover_60 : decode cX5_cover 60 = .ok (.if_icmp .ge 44, 3) := by decide +kernel
theorem dX5_cover_63 : decode cX5_cover 63 = .ok (.lload_n 3, 1) := by decide +kernel
theorem dX5_cover_64 : decode cX5_cover 64 = .ok (.aload_n 0, 1) := by decide +kernel
theorem dX5_cover_65 : decode cX5_cover 65 = .ok (.getfield 13, 3) := by decide +kernel
theorem dX5_cover_68 : decode cX5_cover 68 = .ok (.iload 5, 2) := by decide +kernel
theorem dX5_cover_70 : decode cX5_cover 70 = .ok (.iconst 0, 1) := by decide +kernel
theorem dX5_cover_71 : decode cX5_cover 71 = .ok (.invokestatic 255, 3) := by decide +kernel
theorem dX5_cover_74 : decode cX5_cover 74 = .ok (.iconst 1, 1) := by decide +kernel
theorem dX5_cover_75 : decode cX5_cover 75 = .ok (.if_icmp .ne 20, 3) := by decide +kernel
theorem dX5_cover_78 : decode cX5_cover 78 = .ok (.aload_n 0, 1) := by decide +kernel
theorem dX5_cover_79 : decode cX5_cover 79 = .ok (.getfield 49, 3) := by decide +kernel
theorem dX5_cover_82 : decode cX5_cover 82 = .ok (.bipush 16, 2) := by decide +kernel
theorem dX5_cover_84 : decode cX5_cover 84 = .ok (.iload_n 1, 1) := by decide +kernel
theorem dX5_cover_85 : decode cX5_cover 85 = .ok (.imul, 1) := by decide +kernel
theorem dX5_cover_86 : decode cX5_cover 86 = .ok (.iconst 4, 1) := by decide +kernel
theorem dX5_cover_87 : decode cX5_cover 87 = .ok (.iadd, 1) := by decide +kernel
theorem dX5_cover_88 : decode cX5_cover 88 = .ok (.iload 5, 2) := by decide +kernel
theorem dX5_cover_90 : decode cX5_cover 90 = .ok (.iadd, 1) := by decide +kernel
theorem dX5_cover_91 : decode cX5_cover 91 = .ok (.laload, 1) := by decide +kernel
theorem dX5_cover_92 : decode cX5_cover 92 = .ok (.goto 4, 3) := by decide +kernel
theorem dX5_cover_95 : decode cX5_cover 95 = .ok (.lconst 0, 1) := by decide +kernel
theorem dX5_cover_96 : decode cX5_cover 96 = .ok (.lsub, 1) := by decide +kernel
theorem dX5_cover_97 : decode cX5_cover 97 = .ok (.lstore_n 3, 1) := by decide +kernel
theorem dX5_cover_98 : decode cX5_cover 98 = .ok (.iinc 5 1, 3) := by decide +kernel
theorem dX5_cover_101 : decode cX5_cover 101 = .ok (.goto (-49), 3) := by decide +kernel
theorem dX5_cover_104 : decode cX5_cover 104 = .ok (.lload_n 3, 1) := by decide +kernel
theorem dX5_cover_105 : decode cX5_cover 105 = .ok (.ldc2_w 339, 3) := by decide +kernel
theorem dX5_cover_108 : decode cX5_cover 108 = .ok (.lmul, 1) := by decide +kernel
theorem dX5_cover_109 : decode cX5_cover 109 = .ok (.ldc2_w 250, 3) := by decide +kernel
theorem dX5_cover_112 : decode cX5_cover 112 = .ok (.ldiv, 1) := by decide +kernel
theorem dX5_cover_113 : decode cX5_cover 113 = .ok (.aload_n 0, 1) := by decide +kernel
theorem dX5_cover_114 : decode cX5_cover 114 = .ok (.getfield 13, 3) := by decide +kernel
theorem dX5_cover_117 : decode cX5_cover 117 = .ok (.iload_n 1, 1) := by decide +kernel
theorem dX5_cover_118 : decode cX5_cover 118 = .ok (.iconst 3, 1) := by decide +kernel
theorem dX5_cover_119 : decode cX5_cover 119 = .ok (.invokestatic 243, 3) := by decide +kernel
theorem dX5_cover_122 : decode cX5_cover 122 = .ok (.i2l, 1) := by decide +kernel
theorem dX5_cover_123 : decode cX5_cover 123 = .ok (.ldc2_w 339, 3) := by decide +kernel
theorem dX5_cover_126 : decode cX5_cover 126 = .ok (.lmul, 1) := by decide +kernel
theorem dX5_cover_127 : decode cX5_cover 127 = .ok (.ldc2_w 250, 3) := by decide +kernel
theorem dX5_cover_130 : decode cX5_cover 130 = .ok (.ldiv, 1) := by decide +kernel
theorem dX5_cover_131 : decode cX5_cover 131 = .ok (.invokestatic 282, 3) := by decide +kernel
theorem dX5_cover_134 : decode cX5_cover 134 = .ok (.lstore 5, 2) := by decide +kernel
theorem dX5_cover_136 : decode cX5_cover 136 = .ok (.iload_n 2, 1) := by decide +kernel
theorem dX5_cover_137 : decode cX5_cover 137 = .ok (.ifCond .ne 8, 3) := by decide +kernel
theorem dX5_cover_140 : decode cX5_cover 140 = .ok (.lload 5, 2) := by decide +kernel
theorem dX5_cover_142 : decode cX5_cover 142 = .ok (.goto 11, 3) := by decide +kernel
theorem dX5_cover_145 : decode cX5_cover 145 = .ok (.aload_n 0, 1) := by decide +kernel
theorem dX5_cover_146 : decode cX5_cover 146 = .ok (.iload_n 1, 1) := by decide +kernel
theorem dX5_cover_147 : decode cX5_cover 147 = .ok (.invokevirtual 331, 3) := by decide +kernel
theorem dX5_cover_150 : decode cX5_cover 150 = .ok (.lload 5, 2) := by decide +kernel
theorem dX5_cover_152 : decode cX5_cover 152 = .ok (.lsub, 1) := by decide +kernel
theorem dX5_cover_153 : decode cX5_cover 153 = .ok (.lreturn, 1) := by decide +kernel
theorem dX5_net_0 : decode cX5_net 0 = .ok (.aload_n 0, 1) := by decide +kernel
theorem dX5_net_1 : decode cX5_net 1 = .ok (.invokevirtual 212, 3) := by decide +kernel
theorem dX5_net_4 : decode cX5_net 4 = .ok (.aload_n 0, 1) := by decide +kernel
theorem dX5_net_5 : decode cX5_net 5 = .ok (.aload_n 0, 1) := by decide +kernel
theorem dX5_net_6 : decode cX5_net 6 = .ok (.iload_n 1, 1) := by decide +kernel
theorem dX5_net_7 : decode cX5_net 7 = .ok (.invokevirtual 234, 3) := by decide +kernel
theorem dX5_net_10 : decode cX5_net 10 = .ok (.ifCond .ne 7, 3) := by decide +kernel
theorem dX5_net_13 : decode cX5_net 13 = .ok (.iconst 1, 1) := by decide +kernel
theorem dX5_net_14 : decode cX5_net 14 = .ok (.goto 4, 3) := by decide +kernel
theorem dX5_net_17 : decode cX5_net 17 = .ok (.iconst 0, 1) := by decide +kernel
theorem dX5_net_18 : decode cX5_net 18 = .ok (.iconst 1, 1) := by decide +kernel
theorem dX5_net_19 : decode cX5_net 19 = .ok (.invokevirtual 215, 3) := by decide +kernel
theorem dX5_net_22 : decode cX5_net 22 = .ok (.ifCond .eq 7, 3) := by decide +kernel
theorem dX5_net_25 : decode cX5_net 25 = .ok (.ldc2_w 351, 3) := by decide +kernel
theorem dX5_net_28 : decode cX5_net 28 = .ok (.lreturn, 1) := by decide +kernel
theorem dX5_net_29 : decode cX5_net 29 = .ok (.aload_n 0, 1) := by decide +kernel
theorem dX5_net_30 : decode cX5_net 30 = .ok (.invokevirtual 343, 3) := by decide +kernel
theorem dX5_net_33 : decode cX5_net 33 = .ok (.aload_n 0, 1) := by decide +kernel
theorem dX5_net_34 : decode cX5_net 34 = .ok (.iload_n 1, 1) := by decide +kernel
theorem dX5_net_35 : decode cX5_net 35 = .ok (.invokevirtual 353, 3) := by decide +kernel
theorem dX5_net_38 : decode cX5_net 38 = .ok (.lreturn, 1) := by decide +kernel
theorem dX5_netWith_0 : decode cX5_netWith 0 = .ok (.aload_n 0, 1) := by decide +kernel
theorem dX5_netWith_1 : decode cX5_netWith 1 = .ok (.invokevirtual 318, 3) := by decide +kernel
theorem dX5_netWith_4 : decode cX5_netWith 4 = .ok (.iconst 0, 1) := by decide +kernel
theorem dX5_netWith_5 : decode cX5_netWith 5 = .ok (.istore_n 3, 1) := by decide +kernel
theorem dX5_netWith_6 : decode cX5_netWith 6 = .ok (.iload_n 3, 1) := by decide +kernel
theorem dX5_netWith_7 : decode cX5_netWith 7 = .ok (.iconst 3, 1) := by decide +kernel
theorem dX5_netWith_8 : decode cX5_netWith 8 = .ok (.if_icmp .ge 22, 3) := by decide +kernel
theorem dX5_netWith_11 : decode cX5_netWith 11 = .ok (.aload_n 0, 1) := by decide +kernel
theorem dX5_netWith_12 : decode cX5_netWith 12 = .ok (.getfield 17, 3) := by decide +kernel
theorem dX5_netWith_15 : decode cX5_netWith 15 = .ok (.iconst 2, 1) := by decide +kernel
theorem dX5_netWith_16 : decode cX5_netWith 16 = .ok (.iload_n 3, 1) := by decide +kernel
theorem dX5_netWith_17 : decode cX5_netWith 17 = .ok (.iadd, 1) := by decide +kernel
theorem dX5_netWith_18 : decode cX5_netWith 18 = .ok (.iload_n 2, 1) := by decide +kernel
theorem dX5_netWith_19 : decode cX5_netWith 19 = .ok (.iload_n 3, 1) := by decide +kernel
theorem dX5_netWith_20 : decode cX5_netWith 20 = .ok (.ishr, 1) := by decide +kernel
theorem dX5_netWith_21 : decode cX5_netWith 21 = .ok (.iconst 1, 1) := by decide +kernel
theorem dX5_netWith_22 : decode cX5_netWith 22 = .ok (.iand, 1) := by decide +kernel
theorem dX5_netWith_23 : decode cX5_netWith 23 = .ok (.iastore, 1) := by decide +kernel
theorem dX5_netWith_24 : decode cX5_netWith 24 = .ok (.iinc 3 1, 3) := by decide +kernel
theorem dX5_netWith_27 : decode cX5_netWith 27 = .ok (.goto (-21), 3) := by decide +kernel
theorem dX5_netWith_30 : decode cX5_netWith 30 = .ok (.aload_n 0, 1) := by decide +kernel
theorem dX5_netWith_31 : decode cX5_netWith 31 = .ok (.invokevirtual 321, 3) := by decide +kernel
theorem dX5_netWith_34 : decode cX5_netWith 34 = .ok (.aload_n 0, 1) := by decide +kernel
theorem dX5_netWith_35 : decode cX5_netWith 35 = .ok (.iload_n 1, 1) := by decide +kernel
theorem dX5_netWith_36 : decode cX5_netWith 36 = .ok (.invokevirtual 353, 3) := by decide +kernel
theorem dX5_netWith_39 : decode cX5_netWith 39 = .ok (.lreturn, 1) := by decide +kernel
theorem dX5_netBy_0 : decode cX5_netBy 0 = .ok (.aload_n 0, 1) := by decide +kernel
theorem dX5_netBy_1 : decode cX5_netBy 1 = .ok (.invokevirtual 212, 3) := by decide +kernel
theorem dX5_netBy_4 : decode cX5_netBy 4 = .ok (.aload_n 0, 1) := by decide +kernel
theorem dX5_netBy_5 : decode cX5_netBy 5 = .ok (.aload_n 0, 1) := by decide +kernel
theorem dX5_netBy_6 : decode cX5_netBy 6 = .ok (.iload_n 1, 1) := by decide +kernel
theorem dX5_netBy_7 : decode cX5_netBy 7 = .ok (.invokevirtual 234, 3) := by decide +kernel
theorem dX5_netBy_10 : decode cX5_netBy 10 = .ok (.ifCond .ne 7, 3) := by decide +kernel
theorem dX5_netBy_13 : decode cX5_netBy 13 = .ok (.iconst 1, 1) := by decide +kernel
theorem dX5_netBy_14 : decode cX5_netBy 14 = .ok (.goto 4, 3) := by decide +kernel
theorem dX5_netBy_17 : decode cX5_netBy 17 = .ok (.iconst 0, 1) := by decide +kernel
theorem dX5_netBy_18 : decode cX5_netBy 18 = .ok (.iconst 1, 1) := by decide +kernel
theorem dX5_netBy_19 : decode cX5_netBy 19 = .ok (.invokevirtual 215, 3) := by decide +kernel
theorem dX5_netBy_22 : decode cX5_netBy 22 = .ok (.ifCond .ne 28, 3) := by decide +kernel
theorem dX5_netBy_25 : decode cX5_netBy 25 = .ok (.aload_n 0, 1) := by decide +kernel
theorem dX5_netBy_26 : decode cX5_netBy 26 = .ok (.iload_n 2, 1) := by decide +kernel
theorem dX5_netBy_27 : decode cX5_netBy 27 = .ok (.i2l, 1) := by decide +kernel
theorem dX5_netBy_28 : decode cX5_netBy 28 = .ok (.lconst 0, 1) := by decide +kernel
theorem dX5_netBy_29 : decode cX5_netBy 29 = .ok (.ldc2_w 356, 3) := by decide +kernel
theorem dX5_netBy_32 : decode cX5_netBy 32 = .ok (.invokestatic 161, 3) := by decide +kernel
theorem dX5_netBy_35 : decode cX5_netBy 35 = .ok (.ifCond .ne 7, 3) := by decide +kernel
theorem dX5_netBy_38 : decode cX5_netBy 38 = .ok (.iconst 1, 1) := by decide +kernel
theorem dX5_netBy_39 : decode cX5_netBy 39 = .ok (.goto 4, 3) := by decide +kernel
theorem dX5_netBy_42 : decode cX5_netBy 42 = .ok (.iconst 0, 1) := by decide +kernel
theorem dX5_netBy_43 : decode cX5_netBy 43 = .ok (.iconst 2, 1) := by decide +kernel
theorem dX5_netBy_44 : decode cX5_netBy 44 = .ok (.invokevirtual 215, 3) := by decide +kernel
theorem dX5_netBy_47 : decode cX5_netBy 47 = .ok (.ifCond .eq 7, 3) := by decide +kernel
theorem dX5_netBy_50 : decode cX5_netBy 50 = .ok (.ldc2_w 351, 3) := by decide +kernel
theorem dX5_netBy_53 : decode cX5_netBy 53 = .ok (.lreturn, 1) := by decide +kernel
theorem dX5_netBy_54 : decode cX5_netBy 54 = .ok (.aload_n 0, 1) := by decide +kernel
theorem dX5_netBy_55 : decode cX5_netBy 55 = .ok (.iload_n 1, 1) := by decide +kernel
theorem dX5_netBy_56 : decode cX5_netBy 56 = .ok (.iload_n 2, 1) := by decide +kernel
theorem dX5_netBy_57 : decode cX5_netBy 57 = .ok (.invokevirtual 358, 3) := by decide +kernel
theorem dX5_netBy_60 : decode cX5_netBy 60 = .ok (.lreturn, 1) := by decide +kernel
theorem dX5_wished_0 : decode cX5_wished 0 = .ok (.aload_n 0, 1) := by decide +kernel
theorem dX5_wished_1 : decode cX5_wished 1 = .ok (.invokevirtual 212, 3) := by decide +kernel
theorem dX5_wished_4 : decode cX5_wished 4 = .ok (.aload_n 0, 1) := by decide +kernel
theorem dX5_wished_5 : decode cX5_wished 5 = .ok (.aload_n 0, 1) := by decide +kernel
theorem dX5_wished_6 : decode cX5_wished 6 = .ok (.iload_n 1, 1) := by decide +kernel
theorem dX5_wished_7 : decode cX5_wished 7 = .ok (.invokevirtual 234, 3) := by decide +kernel
theorem dX5_wished_10 : decode cX5_wished 10 = .ok (.ifCond .ne 7, 3) := by decide +kernel
theorem dX5_wished_13 : decode cX5_wished 13 = .ok (.iconst 1, 1) := by decide +kernel
theorem dX5_wished_14 : decode cX5_wished 14 = .ok (.goto 4, 3) := by decide +kernel
theorem dX5_wished_17 : decode cX5_wished 17 = .ok (.iconst 0, 1) := by decide +kernel
theorem dX5_wished_18 : decode cX5_wished 18 = .ok (.iconst 1, 1) := by decide +kernel
theorem dX5_wished_19 : decode cX5_wished 19 = .ok (.invokevirtual 215, 3) := by decide +kernel
theorem dX5_wished_22 : decode cX5_wished 22 = .ok (.ifCond .eq 5, 3) := by decide +kernel
theorem dX5_wished_25 : decode cX5_wished 25 = .ok (.iconst (-1), 1) := by decide +kernel
theorem dX5_wished_26 : decode cX5_wished 26 = .ok (.ireturn, 1) := by decide +kernel
theorem dX5_wished_27 : decode cX5_wished 27 = .ok (.iconst 0, 1) := by decide +kernel
theorem dX5_wished_28 : decode cX5_wished 28 = .ok (.istore_n 2, 1) := by decide +kernel
theorem dX5_wished_29 : decode cX5_wished 29 = .ok (.aload_n 0, 1) := by decide +kernel
theorem dX5_wished_30 : decode cX5_wished 30 = .ok (.iload_n 1, 1) := by decide +kernel
theorem dX5_wished_31 : decode cX5_wished 31 = .ok (.iconst 0, 1) := by decide +kernel
theorem dX5_wished_32 : decode cX5_wished 32 = .ok (.invokevirtual 358, 3) := by decide +kernel
theorem dX5_wished_35 : decode cX5_wished 35 = .ok (.lstore_n 3, 1) := by decide +kernel
theorem dX5_wished_36 : decode cX5_wished 36 = .ok (.iconst 1, 1) := by decide +kernel
theorem dX5_wished_37 : decode cX5_wished 37 = .ok (.istore 5, 2) := by decide +kernel
theorem dX5_wished_39 : decode cX5_wished 39 = .ok (.iload 5, 2) := by decide +kernel
theorem dX5_wished_41 : decode cX5_wished 41 = .ok (.bipush 8, 2) := by decide +kernel
theorem dX5_wished_43 : decode cX5_wished 43 = .ok (.if_icmp .ge 31, 3) := by decide +kernel
theorem dX5_wished_46 : decode cX5_wished 46 = .ok (.aload_n 0, 1) := by decide +kernel
theorem dX5_wished_47 : decode cX5_wished 47 = .ok (.iload_n 1, 1) := by decide +kernel
theorem dX5_wished_48 : decode cX5_wished 48 = .ok (.iload 5, 2) := by decide +kernel
theorem dX5_wished_50 : decode cX5_wished 50 = .ok (.invokevirtual 358, 3) := by decide +kernel
theorem dX5_wished_53 : decode cX5_wished 53 = .ok (.lstore 6, 2) := by decide +kernel
theorem dX5_wished_55 : decode cX5_wished 55 = .ok (.lload 6, 2) := by decide +kernel
theorem dX5_wished_57 : decode cX5_wished 57 = .ok (.lload_n 3, 1) := by decide +kernel
theorem dX5_wished_58 : decode cX5_wished 58 = .ok (.lcmp, 1) := by decide +kernel
theorem dX5_wished_59 : decode cX5_wished 59 = .ok (.ifCond .le 9, 3) := by decide +kernel
theorem dX5_wished_62 : decode cX5_wished 62 = .ok (.lload 6, 2) := by decide +kernel
theorem dX5_wished_64 : decode cX5_wished 64 = .ok (.lstore_n 3, 1) := by decide +kernel
theorem dX5_wished_65 : decode cX5_wished 65 = .ok (.iload 5, 2) := by decide +kernel
theorem dX5_wished_67 : decode cX5_wished 67 = .ok (.istore_n 2, 1) := by decide +kernel
theorem dX5_wished_68 : decode cX5_wished 68 = .ok (.iinc 5 1, 3) := by decide +kernel
theorem dX5_wished_71 : decode cX5_wished 71 = .ok (.goto (-32), 3) := by decide +kernel
theorem dX5_wished_74 : decode cX5_wished 74 = .ok (.iload_n 2, 1) := by decide +kernel
theorem dX5_wished_75 : decode cX5_wished 75 = .ok (.ireturn, 1) := by decide +kernel
theorem dX5_gap_0 : decode cX5_gap 0 = .ok (.aload_n 0, 1) := by decide +kernel
theorem dX5_gap_1 : decode cX5_gap 1 = .ok (.invokevirtual 212, 3) := by decide +kernel
theorem dX5_gap_4 : decode cX5_gap 4 = .ok (.aload_n 0, 1) := by decide +kernel
theorem dX5_gap_5 : decode cX5_gap 5 = .ok (.aload_n 0, 1) := by decide +kernel
theorem dX5_gap_6 : decode cX5_gap 6 = .ok (.iload_n 1, 1) := by decide +kernel
theorem dX5_gap_7 : decode cX5_gap 7 = .ok (.invokevirtual 234, 3) := by decide +kernel
theorem dX5_gap_10 : decode cX5_gap 10 = .ok (.ifCond .ne 7, 3) := by decide +kernel
theorem dX5_gap_13 : decode cX5_gap 13 = .ok (.iconst 1, 1) := by decide +kernel
theorem dX5_gap_14 : decode cX5_gap 14 = .ok (.goto 4, 3) := by decide +kernel
theorem dX5_gap_17 : decode cX5_gap 17 = .ok (.iconst 0, 1) := by decide +kernel
theorem dX5_gap_18 : decode cX5_gap 18 = .ok (.iconst 1, 1) := by decide +kernel
theorem dX5_gap_19 : decode cX5_gap 19 = .ok (.invokevirtual 215, 3) := by decide +kernel
theorem dX5_gap_22 : decode cX5_gap 22 = .ok (.ifCond .eq 7, 3) := by decide +kernel
theorem dX5_gap_25 : decode cX5_gap 25 = .ok (.ldc2_w 351, 3) := by decide +kernel
theorem dX5_gap_28 : decode cX5_gap 28 = .ok (.lreturn, 1) := by decide +kernel
theorem dX5_gap_29 : decode cX5_gap 29 = .ok (.aload_n 0, 1) := by decide +kernel
theorem dX5_gap_30 : decode cX5_gap 30 = .ok (.getfield 13, 3) := by decide +kernel
theorem dX5_gap_33 : decode cX5_gap 33 = .ok (.iconst 2, 1) := by decide +kernel
theorem dX5_gap_34 : decode cX5_gap 34 = .ok (.iaload, 1) := by decide +kernel
theorem dX5_gap_35 : decode cX5_gap 35 = .ok (.iconst 2, 1) := by decide +kernel
theorem dX5_gap_36 : decode cX5_gap 36 = .ok (.aload_n 0, 1) := by decide +kernel
theorem dX5_gap_37 : decode cX5_gap 37 = .ok (.getfield 13, 3) := by decide +kernel
theorem dX5_gap_40 : decode cX5_gap 40 = .ok (.iconst 3, 1) := by decide +kernel
theorem dX5_gap_41 : decode cX5_gap 41 = .ok (.iaload, 1) := by decide +kernel
theorem dX5_gap_42 : decode cX5_gap 42 = .ok (.imul, 1) := by decide +kernel
theorem dX5_gap_43 : decode cX5_gap 43 = .ok (.iadd, 1) := by decide +kernel
theorem dX5_gap_44 : decode cX5_gap 44 = .ok (.istore_n 2, 1) := by decide +kernel
theorem dX5_gap_45 : decode cX5_gap 45 = .ok (.aload_n 0, 1) := by decide +kernel
theorem dX5_gap_46 : decode cX5_gap 46 = .ok (.iload_n 1, 1) := by decide +kernel
theorem dX5_gap_47 : decode cX5_gap 47 = .ok (.iload_n 2, 1) := by decide +kernel
theorem dX5_gap_48 : decode cX5_gap 48 = .ok (.iconst 4, 1) := by decide +kernel
theorem dX5_gap_49 : decode cX5_gap 49 = .ok (.iadd, 1) := by decide +kernel
theorem dX5_gap_50 : decode cX5_gap 50 = .ok (.invokevirtual 358, 3) := by decide +kernel
theorem dX5_gap_53 : decode cX5_gap 53 = .ok (.lstore_n 3, 1) := by decide +kernel
theorem dX5_gap_54 : decode cX5_gap 54 = .ok (.lload_n 3, 1) := by decide +kernel
theorem dX5_gap_55 : decode cX5_gap 55 = .ok (.aload_n 0, 1) := by decide +kernel
theorem dX5_gap_56 : decode cX5_gap 56 = .ok (.iload_n 1, 1) := by decide +kernel
theorem dX5_gap_57 : decode cX5_gap 57 = .ok (.iload_n 2, 1) := by decide +kernel
theorem dX5_gap_58 : decode cX5_gap 58 = .ok (.invokevirtual 358, 3) := by decide +kernel
theorem dX5_gap_61 : decode cX5_gap 61 = .ok (.lsub, 1) := by decide +kernel
theorem dX5_gap_62 : decode cX5_gap 62 = .ok (.lreturn, 1) := by decide +kernel
theorem dX5_neededOf_0 : decode cX5_neededOf 0 = .ok (.aload_n 0, 1) := by decide +kernel
theorem dX5_neededOf_1 : decode cX5_neededOf 1 = .ok (.iload_n 1, 1) := by decide +kernel
theorem dX5_neededOf_2 : decode cX5_neededOf 2 = .ok (.invokevirtual 309, 3) := by decide +kernel
theorem dX5_neededOf_5 : decode cX5_neededOf 5 = .ok (.lconst 0, 1) := by decide +kernel
theorem dX5_neededOf_6 : decode cX5_neededOf 6 = .ok (.lstore_n 2, 1) := by decide +kernel
theorem dX5_neededOf_7 : decode cX5_neededOf 7 = .ok (.iconst 0, 1) := by decide +kernel
theorem dX5_neededOf_8 : decode cX5_neededOf 8 = .ok (.istore 4, 2) := by decide +kernel
theorem dX5_neededOf_10 : decode cX5_neededOf 10 = .ok (.iload 4, 2) := by decide +kernel
theorem dX5_neededOf_12 : decode cX5_neededOf 12 = .ok (.aload_n 0, 1) := by decide +kernel
theorem dX5_neededOf_13 : decode cX5_neededOf 13 = .ok (.getfield 17, 3) := by decide +kernel
theorem dX5_neededOf_16 : decode cX5_neededOf 16 = .ok (.iconst 0, 1) := by decide +kernel
theorem dX5_neededOf_17 : decode cX5_neededOf 17 = .ok (.iaload, 1) := by decide +kernel
theorem dX5_neededOf_18 : decode cX5_neededOf 18 = .ok (.if_icmp .ge 22, 3) := by decide +kernel
theorem dX5_neededOf_21 : decode cX5_neededOf 21 = .ok (.lload_n 2, 1) := by decide +kernel
theorem dX5_neededOf_22 : decode cX5_neededOf 22 = .ok (.aload_n 0, 1) := by decide +kernel
theorem dX5_neededOf_23 : decode cX5_neededOf 23 = .ok (.getfield 17, 3) := by decide +kernel
theorem dX5_neededOf_26 : decode cX5_neededOf 26 = .ok (.iload_n 1, 1) := by decide +kernel
theorem dX5_neededOf_27 : decode cX5_neededOf 27 = .ok (.iload 4, 2) := by decide +kernel
theorem dX5_neededOf_29 : decode cX5_neededOf 29 = .ok (.invokestatic 295, 3) := by decide +kernel
theorem dX5_neededOf_32 : decode cX5_neededOf 32 = .ok (.ladd, 1) := by decide +kernel
theorem dX5_neededOf_33 : decode cX5_neededOf 33 = .ok (.lstore_n 2, 1) := by decide +kernel
theorem dX5_neededOf_34 : decode cX5_neededOf 34 = .ok (.iinc 4 1, 3) := by decide +kernel
theorem dX5_neededOf_37 : decode cX5_neededOf 37 = .ok (.goto (-27), 3) := by decide +kernel
theorem dX5_neededOf_40 : decode cX5_neededOf 40 = .ok (.iconst 0, 1) := by decide +kernel
theorem dX5_neededOf_41 : decode cX5_neededOf 41 = .ok (.istore 4, 2) := by decide +kernel
theorem dX5_neededOf_43 : decode cX5_neededOf 43 = .ok (.iload 4, 2) := by decide +kernel
theorem dX5_neededOf_45 : decode cX5_neededOf 45 = .ok (.aload_n 0, 1) := by decide +kernel
theorem dX5_neededOf_46 : decode cX5_neededOf 46 = .ok (.getfield 17, 3) := by decide +kernel
theorem dX5_neededOf_49 : decode cX5_neededOf 49 = .ok (.iconst 1, 1) := by decide +kernel
theorem dX5_neededOf_50 : decode cX5_neededOf 50 = .ok (.iaload, 1) := by decide +kernel
theorem dX5_neededOf_51 : decode cX5_neededOf 51 = .ok (.if_icmp .ge 32, 3) := by decide +kernel
theorem dX5_neededOf_54 : decode cX5_neededOf 54 = .ok (.lload_n 2, 1) := by decide +kernel
theorem dX5_neededOf_55 : decode cX5_neededOf 55 = .ok (.aload_n 0, 1) := by decide +kernel
theorem dX5_neededOf_56 : decode cX5_neededOf 56 = .ok (.getfield 17, 3) := by decide +kernel
theorem dX5_neededOf_59 : decode cX5_neededOf 59 = .ok (.iload_n 1, 1) := by decide +kernel
theorem dX5_neededOf_60 : decode cX5_neededOf 60 = .ok (.iload 4, 2) := by decide +kernel
theorem dX5_neededOf_62 : decode cX5_neededOf 62 = .ok (.invokestatic 266, 3) := by decide +kernel
theorem dX5_neededOf_65 : decode cX5_neededOf 65 = .ok (.aload_n 0, 1) := by decide +kernel
theorem dX5_neededOf_66 : decode cX5_neededOf 66 = .ok (.getfield 46, 3) := by decide +kernel
theorem dX5_neededOf_69 : decode cX5_neededOf 69 = .ok (.iconst 4, 1) := by decide +kernel
theorem dX5_neededOf_70 : decode cX5_neededOf 70 = .ok (.iload 4, 2) := by decide +kernel
theorem dX5_neededOf_72 : decode cX5_neededOf 72 = .ok (.iadd, 1) := by decide +kernel
theorem dX5_neededOf_73 : decode cX5_neededOf 73 = .ok (.laload, 1) := by decide +kernel
theorem dX5_neededOf_74 : decode cX5_neededOf 74 = .ok (.lsub, 1) := by decide +kernel
theorem dX5_neededOf_75 : decode cX5_neededOf 75 = .ok (.ladd, 1) := by decide +kernel
theorem dX5_neededOf_76 : decode cX5_neededOf 76 = .ok (.lstore_n 2, 1) := by decide +kernel
theorem dX5_neededOf_77 : decode cX5_neededOf 77 = .ok (.iinc 4 1, 3) := by decide +kernel
theorem dX5_neededOf_80 : decode cX5_neededOf 80 = .ok (.goto (-37), 3) := by decide +kernel
theorem dX5_neededOf_83 : decode cX5_neededOf 83 = .ok (.lload_n 2, 1) := by decide +kernel
theorem dX5_neededOf_84 : decode cX5_neededOf 84 = .ok (.lreturn, 1) := by decide +kernel
theorem dX5_enough_0 : decode cX5_enough 0 = .ok (.aload_n 0, 1) := by decide +kernel
theorem dX5_enough_1 : decode cX5_enough 1 = .ok (.invokevirtual 212, 3) := by decide +kernel
theorem dX5_enough_4 : decode cX5_enough 4 = .ok (.aload_n 0, 1) := by decide +kernel
theorem dX5_enough_5 : decode cX5_enough 5 = .ok (.aload_n 0, 1) := by decide +kernel
theorem dX5_enough_6 : decode cX5_enough 6 = .ok (.getfield 225, 3) := by decide +kernel
theorem dX5_enough_9 : decode cX5_enough 9 = .ok (.ifCond .ne 7, 3) := by decide +kernel
theorem dX5_enough_12 : decode cX5_enough 12 = .ok (.iconst 1, 1) := by decide +kernel
theorem dX5_enough_13 : decode cX5_enough 13 = .ok (.goto 4, 3) := by decide +kernel
theorem dX5_enough_16 : decode cX5_enough 16 = .ok (.iconst 0, 1) := by decide +kernel
theorem dX5_enough_17 : decode cX5_enough 17 = .ok (.iconst 1, 1) := by decide +kernel
theorem dX5_enough_18 : decode cX5_enough 18 = .ok (.invokevirtual 215, 3) := by decide +kernel
theorem dX5_enough_21 : decode cX5_enough 21 = .ok (.ifCond .eq 5, 3) := by decide +kernel
theorem dX5_enough_24 : decode cX5_enough 24 = .ok (.iconst (-1), 1) := by decide +kernel
theorem dX5_enough_25 : decode cX5_enough 25 = .ok (.ireturn, 1) := by decide +kernel
theorem dX5_enough_26 : decode cX5_enough 26 = .ok (.aload_n 0, 1) := by decide +kernel
theorem dX5_enough_27 : decode cX5_enough 27 = .ok (.invokevirtual 318, 3) := by decide +kernel
theorem dX5_enough_30 : decode cX5_enough 30 = .ok (.lconst 0, 1) := by decide +kernel
theorem dX5_enough_31 : decode cX5_enough 31 = .ok (.lstore_n 1, 1) := by decide +kernel
theorem dX5_enough_32 : decode cX5_enough 32 = .ok (.iconst 0, 1) := by decide +kernel
theorem dX5_enough_33 : decode cX5_enough 33 = .ok (.istore_n 3, 1) := by decide +kernel
theorem dX5_enough_34 : decode cX5_enough 34 = .ok (.iload_n 3, 1) := by decide +kernel
theorem dX5_enough_35 : decode cX5_enough 35 = .ok (.aload_n 0, 1) := by decide +kernel
theorem dX5_enough_36 : decode cX5_enough 36 = .ok (.getfield 17, 3) := by decide +kernel
theorem dX5_enough_39 : decode cX5_enough 39 = .ok (.iconst 0, 1) := by decide +kernel
theorem dX5_enough_40 : decode cX5_enough 40 = .ok (.iaload, 1) := by decide +kernel
theorem dX5_enough_41 : decode cX5_enough 41 = .ok (.if_icmp .ge 95, 3) := by decide +kernel
theorem dX5_enough_44 : decode cX5_enough 44 = .ok (.aload_n 0, 1) := by decide +kernel
theorem dX5_enough_45 : decode cX5_enough 45 = .ok (.getfield 17, 3) := by decide +kernel
theorem dX5_enough_48 : decode cX5_enough 48 = .ok (.iload_n 3, 1) := by decide +kernel
theorem dX5_enough_49 : decode cX5_enough 49 = .ok (.iconst 5, 1) := by decide +kernel
theorem dX5_enough_50 : decode cX5_enough 50 = .ok (.invokestatic 243, 3) := by decide +kernel
theorem dX5_enough_53 : decode cX5_enough 53 = .ok (.iconst 1, 1) := by decide +kernel
theorem dX5_enough_54 : decode cX5_enough 54 = .ok (.if_icmp .ne 6, 3) := by decide +kernel
theorem dX5_enough_57 : decode cX5_enough 57 = .ok (.goto 73, 3) := by decide +kernel
theorem dX5_enough_60 : decode cX5_enough 60 = .ok (.aload_n 0, 1) := by decide +kernel
theorem dX5_enough_61 : decode cX5_enough 61 = .ok (.iload_n 3, 1) := by decide +kernel
theorem dX5_enough_62 : decode cX5_enough 62 = .ok (.invokevirtual 362, 3) := by decide +kernel
theorem dX5_enough_65 : decode cX5_enough 65 = .ok (.lstore 4, 2) := by decide +kernel
theorem dX5_enough_67 : decode cX5_enough 67 = .ok (.aload_n 0, 1) := by decide +kernel
theorem dX5_enough_68 : decode cX5_enough 68 = .ok (.getfield 17, 3) := by decide +kernel
theorem dX5_enough_71 : decode cX5_enough 71 = .ok (.iload_n 3, 1) := by decide +kernel
theorem dX5_enough_72 : decode cX5_enough 72 = .ok (.iconst 0, 1) := by decide +kernel
theorem dX5_enough_73 : decode cX5_enough 73 = .ok (.invokestatic 243, 3) := by decide +kernel
theorem dX5_enough_76 : decode cX5_enough 76 = .ok (.i2l, 1) := by decide +kernel
theorem dX5_enough_77 : decode cX5_enough 77 = .ok (.aload_n 0, 1) := by decide +kernel
theorem dX5_enough_78 : decode cX5_enough 78 = .ok (.getfield 17, 3) := by decide +kernel
theorem dX5_enough_81 : decode cX5_enough 81 = .ok (.bipush 7, 2) := by decide +kernel
theorem dX5_enough_83 : decode cX5_enough 83 = .ok (.iaload, 1) := by decide +kernel
theorem dX5_enough_84 : decode cX5_enough 84 = .ok (.i2l, 1) := by decide +kernel
theorem dX5_enough_85 : decode cX5_enough 85 = .ok (.invokestatic 286, 3) := by decide +kernel
theorem dX5_enough_88 : decode cX5_enough 88 = .ok (.lstore 6, 2) := by decide +kernel
theorem dX5_enough_90 : decode cX5_enough 90 = .ok (.lload 4, 2) := by decide +kernel
theorem dX5_enough_92 : decode cX5_enough 92 = .ok (.lload 6, 2) := by decide +kernel
theorem dX5_enough_94 : decode cX5_enough 94 = .ok (.ladd, 1) := by decide +kernel
theorem dX5_enough_95 : decode cX5_enough 95 = .ok (.lconst 1, 1) := by decide +kernel
theorem dX5_enough_96 : decode cX5_enough 96 = .ok (.lsub, 1) := by decide +kernel
theorem dX5_enough_97 : decode cX5_enough 97 = .ok (.lload 6, 2) := by decide +kernel
theorem dX5_enough_99 : decode cX5_enough 99 = .ok (.ldiv, 1) := by decide +kernel
theorem dX5_enough_100 : decode cX5_enough 100 = .ok (.lstore 8, 2) := by decide +kernel
theorem dX5_enough_102 : decode cX5_enough 102 = .ok (.lload 4, 2) := by decide +kernel
theorem dX5_enough_104 : decode cX5_enough 104 = .ok (.ldc2_w 289, 3) := by decide +kernel
theorem dX5_enough_107 : decode cX5_enough 107 = .ok (.lcmp, 1) := by decide +kernel
theorem dX5_enough_108 : decode cX5_enough 108 = .ok (.ifCond .gt 12, 3) := by decide +kernel
theorem dX5_enough_111 : decode cX5_enough 111 = .ok (.lload 8, 2) := by decide +kernel
theorem dX5_enough_113 : decode cX5_enough 113 = .ok (.ldc2_w 365, 3) := by decide +kernel
theorem dX5_enough_116 : decode cX5_enough 116 = .ok (.lcmp, 1) := by decide +kernel
theorem dX5_enough_117 : decode cX5_enough 117 = .ok (.ifCond .le 6, 3) := by decide +kernel
theorem dX5_enough_120 : decode cX5_enough 120 = .ok (.bipush (-2), 2) := by decide +kernel
theorem dX5_enough_122 : decode cX5_enough 122 = .ok (.ireturn, 1) := by decide +kernel
theorem dX5_enough_123 : decode cX5_enough 123 = .ok (.lload_n 1, 1) := by decide +kernel
theorem dX5_enough_124 : decode cX5_enough 124 = .ok (.lload 8, 2) := by decide +kernel
theorem dX5_enough_126 : decode cX5_enough 126 = .ok (.invokestatic 286, 3) := by decide +kernel
theorem dX5_enough_129 : decode cX5_enough 129 = .ok (.lstore_n 1, 1) := by decide +kernel
theorem dX5_enough_130 : decode cX5_enough 130 = .ok (.iinc 3 1, 3) := by decide +kernel
theorem dX5_enough_133 : decode cX5_enough 133 = .ok (.goto (-99), 3) := by decide +kernel
theorem dX5_enough_136 : decode cX5_enough 136 = .ok (.lload_n 1, 1) := by decide +kernel
theorem dX5_enough_137 : decode cX5_enough 137 = .ok (.l2i, 1) := by decide +kernel
theorem dX5_enough_138 : decode cX5_enough 138 = .ok (.ireturn, 1) := by decide +kernel
theorem dX5_netShifted_0 : decode cX5_netShifted 0 = .ok (.aload_n 0, 1) := by decide +kernel
theorem dX5_netShifted_1 : decode cX5_netShifted 1 = .ok (.invokevirtual 318, 3) := by decide +kernel
theorem dX5_netShifted_4 : decode cX5_netShifted 4 = .ok (.aload_n 0, 1) := by decide +kernel
theorem dX5_netShifted_5 : decode cX5_netShifted 5 = .ok (.getfield 17, 3) := by decide +kernel
theorem dX5_netShifted_8 : decode cX5_netShifted 8 = .ok (.iload_n 1, 1) := by decide +kernel
theorem dX5_netShifted_9 : decode cX5_netShifted 9 = .ok (.iconst 1, 1) := by decide +kernel
theorem dX5_netShifted_10 : decode cX5_netShifted 10 = .ok (.invokestatic 243, 3) := by decide +kernel
theorem dX5_netShifted_13 : decode cX5_netShifted 13 = .ok (.aload_n 0, 1) := by decide +kernel
theorem dX5_netShifted_14 : decode cX5_netShifted 14 = .ok (.getfield 17, 3) := by decide +kernel
theorem dX5_netShifted_17 : decode cX5_netShifted 17 = .ok (.iload_n 2, 1) := by decide +kernel
theorem dX5_netShifted_18 : decode cX5_netShifted 18 = .ok (.iconst 1, 1) := by decide +kernel
theorem dX5_netShifted_19 : decode cX5_netShifted 19 = .ok (.invokestatic 243, 3) := by decide +kernel
theorem dX5_netShifted_22 : decode cX5_netShifted 22 = .ok (.iadd, 1) := by decide +kernel
theorem dX5_netShifted_23 : decode cX5_netShifted 23 = .ok (.istore 4, 2) := by decide +kernel
theorem dX5_netShifted_25 : decode cX5_netShifted 25 = .ok (.aload_n 0, 1) := by decide +kernel
theorem dX5_netShifted_26 : decode cX5_netShifted 26 = .ok (.getfield 17, 3) := by decide +kernel
theorem dX5_netShifted_29 : decode cX5_netShifted 29 = .ok (.bipush 10, 2) := by decide +kernel
theorem dX5_netShifted_31 : decode cX5_netShifted 31 = .ok (.bipush 6, 2) := by decide +kernel
theorem dX5_netShifted_33 : decode cX5_netShifted 33 = .ok (.iload_n 1, 1) := by decide +kernel
theorem dX5_netShifted_34 : decode cX5_netShifted 34 = .ok (.imul, 1) := by decide +kernel
theorem dX5_netShifted_35 : decode cX5_netShifted 35 = .ok (.iadd, 1) := by decide +kernel
theorem dX5_netShifted_36 : decode cX5_netShifted 36 = .ok (.iconst 1, 1) := by decide +kernel
theorem dX5_netShifted_37 : decode cX5_netShifted 37 = .ok (.iadd, 1) := by decide +kernel
theorem dX5_netShifted_38 : decode cX5_netShifted 38 = .ok (.iload_n 3, 1) := by decide +kernel
theorem dX5_netShifted_39 : decode cX5_netShifted 39 = .ok (.iastore, 1) := by decide +kernel
theorem dX5_netShifted_40 : decode cX5_netShifted 40 = .ok (.aload_n 0, 1) := by decide +kernel
theorem dX5_netShifted_41 : decode cX5_netShifted 41 = .ok (.getfield 17, 3) := by decide +kernel
theorem dX5_netShifted_44 : decode cX5_netShifted 44 = .ok (.bipush 10, 2) := by decide +kernel
theorem dX5_netShifted_46 : decode cX5_netShifted 46 = .ok (.bipush 6, 2) := by decide +kernel
theorem dX5_netShifted_48 : decode cX5_netShifted 48 = .ok (.iload_n 2, 1) := by decide +kernel
theorem dX5_netShifted_49 : decode cX5_netShifted 49 = .ok (.imul, 1) := by decide +kernel
theorem dX5_netShifted_50 : decode cX5_netShifted 50 = .ok (.iadd, 1) := by decide +kernel
theorem dX5_netShifted_51 : decode cX5_netShifted 51 = .ok (.iconst 1, 1) := by decide +kernel
theorem dX5_netShifted_52 : decode cX5_netShifted 52 = .ok (.iadd, 1) := by decide +kernel
theorem dX5_netShifted_53 : decode cX5_netShifted 53 = .ok (.iload 4, 2) := by decide +kernel
theorem dX5_netShifted_55 : decode cX5_netShifted 55 = .ok (.iload_n 3, 1) := by decide +kernel
theorem dX5_netShifted_56 : decode cX5_netShifted 56 = .ok (.isub, 1) := by decide +kernel
theorem dX5_netShifted_57 : decode cX5_netShifted 57 = .ok (.iastore, 1) := by decide +kernel
theorem dX5_netShifted_58 : decode cX5_netShifted 58 = .ok (.aload_n 0, 1) := by decide +kernel
theorem dX5_netShifted_59 : decode cX5_netShifted 59 = .ok (.invokevirtual 321, 3) := by decide +kernel
theorem dX5_netShifted_62 : decode cX5_netShifted 62 = .ok (.aload_n 0, 1) := by decide +kernel
theorem dX5_netShifted_63 : decode cX5_netShifted 63 = .ok (.iload_n 1, 1) := by decide +kernel
theorem dX5_netShifted_64 : decode cX5_netShifted 64 = .ok (.invokevirtual 353, 3) := by decide +kernel
theorem dX5_netShifted_67 : decode cX5_netShifted 67 = .ok (.lreturn, 1) := by decide +kernel
theorem dX5_would_0 : decode cX5_would 0 = .ok (.aload_n 0, 1) := by decide +kernel
theorem dX5_would_1 : decode cX5_would 1 = .ok (.invokevirtual 212, 3) := by decide +kernel
theorem dX5_would_4 : decode cX5_would 4 = .ok (.aload_n 0, 1) := by decide +kernel
theorem dX5_would_5 : decode cX5_would 5 = .ok (.aload_n 0, 1) := by decide +kernel
theorem dX5_would_6 : decode cX5_would 6 = .ok (.iload_n 1, 1) := by decide +kernel
theorem dX5_would_7 : decode cX5_would 7 = .ok (.invokevirtual 234, 3) := by decide +kernel
theorem dX5_would_10 : decode cX5_would 10 = .ok (.ifCond .eq 11, 3) := by decide +kernel
theorem dX5_would_13 : decode cX5_would 13 = .ok (.aload_n 0, 1) := by decide +kernel
theorem dX5_would_14 : decode cX5_would 14 = .ok (.iload_n 2, 1) := by decide +kernel
theorem dX5_would_15 : decode cX5_would 15 = .ok (.invokevirtual 234, 3) := by decide +kernel
theorem dX5_would_18 : decode cX5_would 18 = .ok (.ifCond .ne 7, 3) := by decide +kernel
theorem dX5_would_21 : decode cX5_would 21 = .ok (.iconst 1, 1) := by decide +kernel
theorem dX5_would_22 : decode cX5_would 22 = .ok (.goto 4, 3) := by decide +kernel
theorem dX5_would_25 : decode cX5_would 25 = .ok (.iconst 0, 1) := by decide +kernel
theorem dX5_would_26 : decode cX5_would 26 = .ok (.iconst 1, 1) := by decide +kernel
theorem dX5_would_27 : decode cX5_would 27 = .ok (.invokevirtual 215, 3) := by decide +kernel
theorem dX5_would_30 : decode cX5_would 30 = .ok (.ifCond .ne 21, 3) := by decide +kernel
theorem dX5_would_33 : decode cX5_would 33 = .ok (.aload_n 0, 1) := by decide +kernel
theorem dX5_would_34 : decode cX5_would 34 = .ok (.iload_n 1, 1) := by decide +kernel
theorem dX5_would_35 : decode cX5_would 35 = .ok (.iload_n 2, 1) := by decide +kernel
theorem dX5_would_36 : decode cX5_would 36 = .ok (.if_icmp .ne 7, 3) := by decide +kernel
theorem dX5_would_39 : decode cX5_would 39 = .ok (.iconst 1, 1) := by decide +kernel
theorem dX5_would_40 : decode cX5_would 40 = .ok (.goto 4, 3) := by decide +kernel
theorem dX5_would_43 : decode cX5_would 43 = .ok (.iconst 0, 1) := by decide +kernel
theorem dX5_would_44 : decode cX5_would 44 = .ok (.iconst 5, 1) := by decide +kernel
theorem dX5_would_45 : decode cX5_would 45 = .ok (.invokevirtual 215, 3) := by decide +kernel
theorem dX5_would_48 : decode cX5_would 48 = .ok (.ifCond .eq 7, 3) := by decide +kernel
theorem dX5_would_51 : decode cX5_would 51 = .ok (.ldc2_w 351, 3) := by decide +kernel
theorem dX5_would_54 : decode cX5_would 54 = .ok (.lreturn, 1) := by decide +kernel
theorem dX5_would_55 : decode cX5_would 55 = .ok (.aload_n 0, 1) := by decide +kernel
theorem dX5_would_56 : decode cX5_would 56 = .ok (.iload_n 3, 1) := by decide +kernel
theorem dX5_would_57 : decode cX5_would 57 = .ok (.i2l, 1) := by decide +kernel
theorem dX5_would_58 : decode cX5_would 58 = .ok (.lconst 0, 1) := by decide +kernel
theorem dX5_would_59 : decode cX5_would 59 = .ok (.aload_n 0, 1) := by decide +kernel
theorem dX5_would_60 : decode cX5_would 60 = .ok (.getfield 13, 3) := by decide +kernel
theorem dX5_would_63 : decode cX5_would 63 = .ok (.iload_n 1, 1) := by decide +kernel
theorem dX5_would_64 : decode cX5_would 64 = .ok (.iconst 1, 1) := by decide +kernel
theorem dX5_would_65 : decode cX5_would 65 = .ok (.invokestatic 243, 3) := by decide +kernel
theorem dX5_would_68 : decode cX5_would 68 = .ok (.aload_n 0, 1) := by decide +kernel
theorem dX5_would_69 : decode cX5_would 69 = .ok (.getfield 13, 3) := by decide +kernel
theorem dX5_would_72 : decode cX5_would 72 = .ok (.iload_n 2, 1) := by decide +kernel
theorem dX5_would_73 : decode cX5_would 73 = .ok (.iconst 1, 1) := by decide +kernel
theorem dX5_would_74 : decode cX5_would 74 = .ok (.invokestatic 243, 3) := by decide +kernel
theorem dX5_would_77 : decode cX5_would 77 = .ok (.iadd, 1) := by decide +kernel
theorem dX5_would_78 : decode cX5_would 78 = .ok (.i2l, 1) := by decide +kernel
theorem dX5_would_79 : decode cX5_would 79 = .ok (.invokestatic 161, 3) := by decide +kernel
theorem dX5_would_82 : decode cX5_would 82 = .ok (.ifCond .ne 7, 3) := by decide +kernel
theorem dX5_would_85 : decode cX5_would 85 = .ok (.iconst 1, 1) := by decide +kernel
theorem dX5_would_86 : decode cX5_would 86 = .ok (.goto 4, 3) := by decide +kernel
theorem dX5_would_89 : decode cX5_would 89 = .ok (.iconst 0, 1) := by decide +kernel
theorem dX5_would_90 : decode cX5_would 90 = .ok (.iconst 2, 1) := by decide +kernel
theorem dX5_would_91 : decode cX5_would 91 = .ok (.invokevirtual 215, 3) := by decide +kernel
theorem dX5_would_94 : decode cX5_would 94 = .ok (.ifCond .eq 7, 3) := by decide +kernel
theorem dX5_would_97 : decode cX5_would 97 = .ok (.ldc2_w 351, 3) := by decide +kernel
theorem dX5_would_100 : decode cX5_would 100 = .ok (.lreturn, 1) := by decide +kernel
theorem dX5_would_101 : decode cX5_would 101 = .ok (.aload_n 0, 1) := by decide +kernel
theorem dX5_would_102 : decode cX5_would 102 = .ok (.iload_n 1, 1) := by decide +kernel
theorem dX5_would_103 : decode cX5_would 103 = .ok (.iload_n 2, 1) := by decide +kernel
theorem dX5_would_104 : decode cX5_would 104 = .ok (.iload_n 3, 1) := by decide +kernel
theorem dX5_would_105 : decode cX5_would 105 = .ok (.invokevirtual 367, 3) := by decide +kernel
theorem dX5_would_108 : decode cX5_would 108 = .ok (.lreturn, 1) := by decide +kernel
theorem dX5_worse_0 : decode cX5_worse 0 = .ok (.aload_n 0, 1) := by decide +kernel
theorem dX5_worse_1 : decode cX5_worse 1 = .ok (.invokevirtual 212, 3) := by decide +kernel
theorem dX5_worse_4 : decode cX5_worse 4 = .ok (.aload_n 0, 1) := by decide +kernel
theorem dX5_worse_5 : decode cX5_worse 5 = .ok (.aload_n 0, 1) := by decide +kernel
theorem dX5_worse_6 : decode cX5_worse 6 = .ok (.iload_n 1, 1) := by decide +kernel
theorem dX5_worse_7 : decode cX5_worse 7 = .ok (.invokevirtual 234, 3) := by decide +kernel
theorem dX5_worse_10 : decode cX5_worse 10 = .ok (.ifCond .eq 11, 3) := by decide +kernel
theorem dX5_worse_13 : decode cX5_worse 13 = .ok (.aload_n 0, 1) := by decide +kernel
theorem dX5_worse_14 : decode cX5_worse 14 = .ok (.iload_n 2, 1) := by decide +kernel
theorem dX5_worse_15 : decode cX5_worse 15 = .ok (.invokevirtual 234, 3) := by decide +kernel
theorem dX5_worse_18 : decode cX5_worse 18 = .ok (.ifCond .ne 7, 3) := by decide +kernel
theorem dX5_worse_21 : decode cX5_worse 21 = .ok (.iconst 1, 1) := by decide +kernel
theorem dX5_worse_22 : decode cX5_worse 22 = .ok (.goto 4, 3) := by decide +kernel
theorem dX5_worse_25 : decode cX5_worse 25 = .ok (.iconst 0, 1) := by decide +kernel
theorem dX5_worse_26 : decode cX5_worse 26 = .ok (.iconst 1, 1) := by decide +kernel
theorem dX5_worse_27 : decode cX5_worse 27 = .ok (.invokevirtual 215, 3) := by decide +kernel
theorem dX5_worse_30 : decode cX5_worse 30 = .ok (.ifCond .ne 48, 3) := by decide +kernel
theorem dX5_worse_33 : decode cX5_worse 33 = .ok (.aload_n 0, 1) := by decide +kernel
theorem dX5_worse_34 : decode cX5_worse 34 = .ok (.iload_n 3, 1) := by decide +kernel
theorem dX5_worse_35 : decode cX5_worse 35 = .ok (.i2l, 1) := by decide +kernel
theorem dX5_worse_36 : decode cX5_worse 36 = .ok (.ldc2_w 371, 3) := by decide +kernel
theorem dX5_worse_39 : decode cX5_worse 39 = .ok (.ldc2_w 373, 3) := by decide +kernel
theorem dX5_worse_42 : decode cX5_worse 42 = .ok (.invokestatic 161, 3) := by decide +kernel
theorem dX5_worse_45 : decode cX5_worse 45 = .ok (.ifCond .ne 7, 3) := by decide +kernel
theorem dX5_worse_48 : decode cX5_worse 48 = .ok (.iconst 1, 1) := by decide +kernel
theorem dX5_worse_49 : decode cX5_worse 49 = .ok (.goto 4, 3) := by decide +kernel
theorem dX5_worse_52 : decode cX5_worse 52 = .ok (.iconst 0, 1) := by decide +kernel
theorem dX5_worse_53 : decode cX5_worse 53 = .ok (.iconst 2, 1) := by decide +kernel
theorem dX5_worse_54 : decode cX5_worse 54 = .ok (.invokevirtual 215, 3) := by decide +kernel
theorem dX5_worse_57 : decode cX5_worse 57 = .ok (.ifCond .ne 21, 3) := by decide +kernel
theorem dX5_worse_60 : decode cX5_worse 60 = .ok (.aload_n 0, 1) := by decide +kernel
theorem dX5_worse_61 : decode cX5_worse 61 = .ok (.iload_n 1, 1) := by decide +kernel
theorem dX5_worse_62 : decode cX5_worse 62 = .ok (.iload_n 2, 1) := by decide +kernel
theorem dX5_worse_63 : decode cX5_worse 63 = .ok (.if_icmp .ne 7, 3) := by decide +kernel
theorem dX5_worse_66 : decode cX5_worse 66 = .ok (.iconst 1, 1) := by decide +kernel
theorem dX5_worse_67 : decode cX5_worse 67 = .ok (.goto 4, 3) := by decide +kernel
theorem dX5_worse_70 : decode cX5_worse 70 = .ok (.iconst 0, 1) := by decide +kernel
theorem dX5_worse_71 : decode cX5_worse 71 = .ok (.iconst 5, 1) := by decide +kernel
theorem dX5_worse_72 : decode cX5_worse 72 = .ok (.invokevirtual 215, 3) := by decide +kernel
theorem dX5_worse_75 : decode cX5_worse 75 = .ok (.ifCond .eq 5, 3) := by decide +kernel
theorem dX5_worse_78 : decode cX5_worse 78 = .ok (.iconst (-1), 1) := by decide +kernel
theorem dX5_worse_79 : decode cX5_worse 79 = .ok (.ireturn, 1) := by decide +kernel
theorem dX5_worse_80 : decode cX5_worse 80 = .ok (.aload_n 0, 1) := by decide +kernel
theorem dX5_worse_81 : decode cX5_worse 81 = .ok (.getfield 13, 3) := by decide +kernel
theorem dX5_worse_84 : decode cX5_worse 84 = .ok (.iload_n 1, 1) := by decide +kernel
theorem dX5_worse_85 : decode cX5_worse 85 = .ok (.iconst 1, 1) := by decide +kernel
theorem dX5_worse_86 : decode cX5_worse 86 = .ok (.invokestatic 243, 3) := by decide +kernel
theorem dX5_worse_89 : decode cX5_worse 89 = .ok (.aload_n 0, 1) := by decide +kernel
theorem dX5_worse_90 : decode cX5_worse 90 = .ok (.getfield 13, 3) := by decide +kernel
theorem dX5_worse_93 : decode cX5_worse 93 = .ok (.iload_n 2, 1) := by decide +kernel
theorem dX5_worse_94 : decode cX5_worse 94 = .ok (.iconst 1, 1) := by decide +kernel
theorem dX5_worse_95 : decode cX5_worse 95 = .ok (.invokestatic 243, 3) := by decide +kernel
theorem dX5_worse_98 : decode cX5_worse 98 = .ok (.iadd, 1) := by decide +kernel
theorem dX5_worse_99 : decode cX5_worse 99 = .ok (.istore 4, 2) := by decide +kernel
theorem dX5_worse_101 : decode cX5_worse 101 = .ok (.iconst 0, 1) := by decide +kernel
theorem dX5_worse_102 : decode cX5_worse 102 = .ok (.istore 5, 2) := by decide +kernel
theorem dX5_worse_104 : decode cX5_worse 104 = .ok (.iload 5, 2) := by decide +kernel
theorem dX5_worse_106 : decode cX5_worse 106 = .ok (.iload 4, 2) := by decide +kernel
theorem dX5_worse_108 : decode cX5_worse 108 = .ok (.if_icmp .gt 26, 3) := by decide +kernel
theorem dX5_worse_111 : decode cX5_worse 111 = .ok (.aload_n 0, 1) := by decide +kernel
theorem dX5_worse_112 : decode cX5_worse 112 = .ok (.iload_n 1, 1) := by decide +kernel
theorem dX5_worse_113 : decode cX5_worse 113 = .ok (.iload_n 2, 1) := by decide +kernel
theorem dX5_worse_114 : decode cX5_worse 114 = .ok (.iload 5, 2) := by decide +kernel
theorem dX5_worse_116 : decode cX5_worse 116 = .ok (.invokevirtual 367, 3) := by decide +kernel
theorem dX5_worse_119 : decode cX5_worse 119 = .ok (.iload_n 3, 1) := by decide +kernel
theorem dX5_worse_120 : decode cX5_worse 120 = .ok (.i2l, 1) := by decide +kernel
theorem dX5_worse_121 : decode cX5_worse 121 = .ok (.lcmp, 1) := by decide +kernel
theorem dX5_worse_122 : decode cX5_worse 122 = .ok (.ifCond .ge 6, 3) := by decide +kernel
theorem dX5_worse_125 : decode cX5_worse 125 = .ok (.iload 5, 2) := by decide +kernel
theorem dX5_worse_127 : decode cX5_worse 127 = .ok (.ireturn, 1) := by decide +kernel
theorem dX5_worse_128 : decode cX5_worse 128 = .ok (.iinc 5 1, 3) := by decide +kernel
theorem dX5_worse_131 : decode cX5_worse 131 = .ok (.goto (-27), 3) := by decide +kernel
theorem dX5_worse_134 : decode cX5_worse 134 = .ok (.bipush (-2), 2) := by decide +kernel
theorem dX5_worse_136 : decode cX5_worse 136 = .ok (.ireturn, 1) := by decide +kernel
theorem dX5_draw_0 : decode cX5_draw 0 = .ok (.aload_n 0, 1) := by decide +kernel
theorem dX5_draw_1 : decode cX5_draw 1 = .ok (.aload_n 0, 1) := by decide +kernel
theorem dX5_draw_2 : decode cX5_draw 2 = .ok (.getfield 375, 3) := by decide +kernel
theorem dX5_draw_5 : decode cX5_draw 5 = .ok (.ldc2_w 378, 3) := by decide +kernel
theorem dX5_draw_8 : decode cX5_draw 8 = .ok (.lmul, 1) := by decide +kernel
theorem dX5_draw_9 : decode cX5_draw 9 = .ok (.ldc2_w 380, 3) := by decide +kernel
theorem dX5_draw_12 : decode cX5_draw 12 = .ok (.lrem, 1) := by decide +kernel
theorem dX5_draw_13 : decode cX5_draw 13 = .ok (.putfield 375, 3) := by decide +kernel
theorem dX5_draw_16 : decode cX5_draw 16 = .ok (.aload_n 0, 1) := by decide +kernel
theorem dX5_draw_17 : decode cX5_draw 17 = .ok (.getfield 375, 3) := by decide +kernel
theorem dX5_draw_20 : decode cX5_draw 20 = .ok (.iload_n 1, 1) := by decide +kernel
theorem dX5_draw_21 : decode cX5_draw 21 = .ok (.i2l, 1) := by decide +kernel
theorem dX5_draw_22 : decode cX5_draw 22 = .ok (.lrem, 1) := by decide +kernel
theorem dX5_draw_23 : decode cX5_draw 23 = .ok (.l2i, 1) := by decide +kernel
theorem dX5_draw_24 : decode cX5_draw 24 = .ok (.ireturn, 1) := by decide +kernel
theorem dX5_netJudged_0 : decode cX5_netJudged 0 = .ok (.aload_n 0, 1) := by decide +kernel
theorem dX5_netJudged_1 : decode cX5_netJudged 1 = .ok (.invokevirtual 318, 3) := by decide +kernel
theorem dX5_netJudged_4 : decode cX5_netJudged 4 = .ok (.iconst 0, 1) := by decide +kernel
theorem dX5_netJudged_5 : decode cX5_netJudged 5 = .ok (.istore_n 2, 1) := by decide +kernel
theorem dX5_netJudged_6 : decode cX5_netJudged 6 = .ok (.iload_n 2, 1) := by decide +kernel
theorem dX5_netJudged_7 : decode cX5_netJudged 7 = .ok (.aload_n 0, 1) := by decide +kernel
theorem dX5_netJudged_8 : decode cX5_netJudged 8 = .ok (.getfield 17, 3) := by decide +kernel
theorem dX5_netJudged_11 : decode cX5_netJudged 11 = .ok (.iconst 0, 1) := by decide +kernel
theorem dX5_netJudged_12 : decode cX5_netJudged 12 = .ok (.iaload, 1) := by decide +kernel
theorem dX5_netJudged_13 : decode cX5_netJudged 13 = .ok (.if_icmp .ge 24, 3) := by decide +kernel
theorem dX5_netJudged_16 : decode cX5_netJudged 16 = .ok (.aload_n 0, 1) := by decide +kernel
theorem dX5_netJudged_17 : decode cX5_netJudged 17 = .ok (.getfield 17, 3) := by decide +kernel
theorem dX5_netJudged_20 : decode cX5_netJudged 20 = .ok (.bipush 10, 2) := by decide +kernel
theorem dX5_netJudged_22 : decode cX5_netJudged 22 = .ok (.bipush 6, 2) := by decide +kernel
theorem dX5_netJudged_24 : decode cX5_netJudged 24 = .ok (.iload_n 2, 1) := by decide +kernel
theorem dX5_netJudged_25 : decode cX5_netJudged 25 = .ok (.imul, 1) := by decide +kernel
theorem dX5_netJudged_26 : decode cX5_netJudged 26 = .ok (.iadd, 1) := by decide +kernel
theorem dX5_netJudged_27 : decode cX5_netJudged 27 = .ok (.iconst 1, 1) := by decide +kernel
theorem dX5_netJudged_28 : decode cX5_netJudged 28 = .ok (.iadd, 1) := by decide +kernel
theorem dX5_netJudged_29 : decode cX5_netJudged 29 = .ok (.iconst 0, 1) := by decide +kernel
theorem dX5_netJudged_30 : decode cX5_netJudged 30 = .ok (.iastore, 1) := by decide +kernel
theorem dX5_netJudged_31 : decode cX5_netJudged 31 = .ok (.iinc 2 1, 3) := by decide +kernel
theorem dX5_netJudged_34 : decode cX5_netJudged 34 = .ok (.goto (-28), 3) := by decide +kernel
theorem dX5_netJudged_37 : decode cX5_netJudged 37 = .ok (.iconst 0, 1) := by decide +kernel
theorem dX5_netJudged_38 : decode cX5_netJudged 38 = .ok (.istore_n 2, 1) := by decide +kernel
theorem dX5_netJudged_39 : decode cX5_netJudged 39 = .ok (.iload_n 2, 1) := by decide +kernel
theorem dX5_netJudged_40 : decode cX5_netJudged 40 = .ok (.bipush 10, 2) := by decide +kernel
theorem dX5_netJudged_42 : decode cX5_netJudged 42 = .ok (.if_icmp .ge 36, 3) := by decide +kernel
theorem dX5_netJudged_45 : decode cX5_netJudged 45 = .ok (.aload_n 0, 1) := by decide +kernel
theorem dX5_netJudged_46 : decode cX5_netJudged 46 = .ok (.getfield 17, 3) := by decide +kernel
theorem dX5_netJudged_49 : decode cX5_netJudged 49 = .ok (.bipush 10, 2) := by decide +kernel
theorem dX5_netJudged_51 : decode cX5_netJudged 51 = .ok (.bipush 6, 2) := by decide +kernel
theorem dX5_netJudged_53 : decode cX5_netJudged 53 = .ok (.aload_n 0, 1) := by decide +kernel
theorem dX5_netJudged_54 : decode cX5_netJudged 54 = .ok (.aload_n 0, 1) := by decide +kernel
theorem dX5_netJudged_55 : decode cX5_netJudged 55 = .ok (.getfield 17, 3) := by decide +kernel
theorem dX5_netJudged_58 : decode cX5_netJudged 58 = .ok (.iconst 0, 1) := by decide +kernel
theorem dX5_netJudged_59 : decode cX5_netJudged 59 = .ok (.iaload, 1) := by decide +kernel
theorem dX5_netJudged_60 : decode cX5_netJudged 60 = .ok (.invokevirtual 382, 3) := by decide +kernel
theorem dX5_netJudged_63 : decode cX5_netJudged 63 = .ok (.imul, 1) := by decide +kernel
theorem dX5_netJudged_64 : decode cX5_netJudged 64 = .ok (.iadd, 1) := by decide +kernel
theorem dX5_netJudged_65 : decode cX5_netJudged 65 = .ok (.iconst 1, 1) := by decide +kernel
theorem dX5_netJudged_66 : decode cX5_netJudged 66 = .ok (.iadd, 1) := by decide +kernel
theorem dX5_netJudged_67 : decode cX5_netJudged 67 = .ok (.dup2, 1) := by decide +kernel
theorem dX5_netJudged_68 : decode cX5_netJudged 68 = .ok (.iaload, 1) := by decide +kernel
theorem dX5_netJudged_69 : decode cX5_netJudged 69 = .ok (.iconst 1, 1) := by decide +kernel
theorem dX5_netJudged_70 : decode cX5_netJudged 70 = .ok (.iadd, 1) := by decide +kernel
theorem dX5_netJudged_71 : decode cX5_netJudged 71 = .ok (.iastore, 1) := by decide +kernel
theorem dX5_netJudged_72 : decode cX5_netJudged 72 = .ok (.iinc 2 1, 3) := by decide +kernel
theorem dX5_netJudged_75 : decode cX5_netJudged 75 = .ok (.goto (-36), 3) := by decide +kernel
theorem dX5_netJudged_78 : decode cX5_netJudged 78 = .ok (.aload_n 0, 1) := by decide +kernel
theorem dX5_netJudged_79 : decode cX5_netJudged 79 = .ok (.invokevirtual 321, 3) := by decide +kernel
theorem dX5_netJudged_82 : decode cX5_netJudged 82 = .ok (.aload_n 0, 1) := by decide +kernel
theorem dX5_netJudged_83 : decode cX5_netJudged 83 = .ok (.iload_n 1, 1) := by decide +kernel
theorem dX5_netJudged_84 : decode cX5_netJudged 84 = .ok (.invokevirtual 353, 3) := by decide +kernel
theorem dX5_netJudged_87 : decode cX5_netJudged 87 = .ok (.lreturn, 1) := by decide +kernel
theorem dX5_judged_0 : decode cX5_judged 0 = .ok (.aload_n 0, 1) := by decide +kernel
theorem dX5_judged_1 : decode cX5_judged 1 = .ok (.invokevirtual 212, 3) := by decide +kernel
theorem dX5_judged_4 : decode cX5_judged 4 = .ok (.aload_n 0, 1) := by decide +kernel
theorem dX5_judged_5 : decode cX5_judged 5 = .ok (.aload_n 0, 1) := by decide +kernel
theorem dX5_judged_6 : decode cX5_judged 6 = .ok (.iload_n 1, 1) := by decide +kernel
theorem dX5_judged_7 : decode cX5_judged 7 = .ok (.invokevirtual 234, 3) := by decide +kernel
theorem dX5_judged_10 : decode cX5_judged 10 = .ok (.ifCond .eq 16, 3) := by decide +kernel
theorem dX5_judged_13 : decode cX5_judged 13 = .ok (.iload 4, 2) := by decide +kernel
theorem dX5_judged_15 : decode cX5_judged 15 = .ok (.i2l, 1) := by decide +kernel
theorem dX5_judged_16 : decode cX5_judged 16 = .ok (.lconst 0, 1) := by decide +kernel
theorem dX5_judged_17 : decode cX5_judged 17 = .ok (.ldc2_w 349, 3) := by decide +kernel
theorem dX5_judged_20 : decode cX5_judged 20 = .ok (.invokestatic 161, 3) := by decide +kernel
theorem dX5_judged_23 : decode cX5_judged 23 = .ok (.ifCond .ne 7, 3) := by decide +kernel
theorem dX5_judged_26 : decode cX5_judged 26 = .ok (.iconst 1, 1) := by decide +kernel
theorem dX5_judged_27 : decode cX5_judged 27 = .ok (.goto 4, 3) := by decide +kernel
theorem dX5_judged_30 : decode cX5_judged 30 = .ok (.iconst 0, 1) := by decide +kernel
theorem dX5_judged_31 : decode cX5_judged 31 = .ok (.iconst 1, 1) := by decide +kernel
theorem dX5_judged_32 : decode cX5_judged 32 = .ok (.invokevirtual 215, 3) := by decide +kernel
theorem dX5_judged_35 : decode cX5_judged 35 = .ok (.ifCond .ne 40, 3) := by decide +kernel
theorem dX5_judged_38 : decode cX5_judged 38 = .ok (.aload_n 0, 1) := by decide +kernel
theorem dX5_judged_39 : decode cX5_judged 39 = .ok (.iload_n 2, 1) := by decide +kernel
theorem dX5_judged_40 : decode cX5_judged 40 = .ok (.i2l, 1) := by decide +kernel
theorem dX5_judged_41 : decode cX5_judged 41 = .ok (.lconst 1, 1) := by decide +kernel
theorem dX5_judged_42 : decode cX5_judged 42 = .ok (.ldc2_w 385, 3) := by decide +kernel
theorem dX5_judged_45 : decode cX5_judged 45 = .ok (.invokestatic 161, 3) := by decide +kernel
theorem dX5_judged_48 : decode cX5_judged 48 = .ok (.ifCond .eq 15, 3) := by decide +kernel
theorem dX5_judged_51 : decode cX5_judged 51 = .ok (.iload_n 3, 1) := by decide +kernel
theorem dX5_judged_52 : decode cX5_judged 52 = .ok (.i2l, 1) := by decide +kernel
theorem dX5_judged_53 : decode cX5_judged 53 = .ok (.lconst 1, 1) := by decide +kernel
theorem dX5_judged_54 : decode cX5_judged 54 = .ok (.ldc2_w 387, 3) := by decide +kernel
theorem dX5_judged_57 : decode cX5_judged 57 = .ok (.invokestatic 161, 3) := by decide +kernel
theorem dX5_judged_60 : decode cX5_judged 60 = .ok (.ifCond .ne 7, 3) := by decide +kernel
theorem dX5_judged_63 : decode cX5_judged 63 = .ok (.iconst 1, 1) := by decide +kernel
theorem dX5_judged_64 : decode cX5_judged 64 = .ok (.goto 4, 3) := by decide +kernel
theorem dX5_judged_67 : decode cX5_judged 67 = .ok (.iconst 0, 1) := by decide +kernel
theorem dX5_judged_68 : decode cX5_judged 68 = .ok (.iconst 2, 1) := by decide +kernel
theorem dX5_judged_69 : decode cX5_judged 69 = .ok (.invokevirtual 215, 3) := by decide +kernel
theorem dX5_judged_72 : decode cX5_judged 72 = .ok (.ifCond .eq 7, 3) := by decide +kernel
theorem dX5_judged_75 : decode cX5_judged 75 = .ok (.ldc2_w 351, 3) := by decide +kernel
theorem dX5_judged_78 : decode cX5_judged 78 = .ok (.lreturn, 1) := by decide +kernel
theorem dX5_judged_79 : decode cX5_judged 79 = .ok (.aload_n 0, 1) := by decide +kernel
theorem dX5_judged_80 : decode cX5_judged 80 = .ok (.iload_n 2, 1) := by decide +kernel
theorem dX5_judged_81 : decode cX5_judged 81 = .ok (.i2l, 1) := by decide +kernel
theorem dX5_judged_82 : decode cX5_judged 82 = .ok (.putfield 375, 3) := by decide +kernel
theorem dX5_judged_85 : decode cX5_judged 85 = .ok (.lconst 0, 1) := by decide +kernel
theorem dX5_judged_86 : decode cX5_judged 86 = .ok (.lstore 5, 2) := by decide +kernel
theorem dX5_judged_88 : decode cX5_judged 88 = .ok (.lconst 0, 1) := by decide +kernel
theorem dX5_judged_89 : decode cX5_judged 89 = .ok (.lstore 7, 2) := by decide +kernel
theorem dX5_judged_91 : decode cX5_judged 91 = .ok (.lconst 0, 1) := by decide +kernel
theorem dX5_judged_92 : decode cX5_judged 92 = .ok (.lstore 9, 2) := by decide +kernel
theorem dX5_judged_94 : decode cX5_judged 94 = .ok (.iconst 0, 1) := by decide +kernel
theorem dX5_judged_95 : decode cX5_judged 95 = .ok (.istore 11, 2) := by decide +kernel
theorem dX5_judged_97 : decode cX5_judged 97 = .ok (.iload 11, 2) := by decide +kernel
theorem dX5_judged_99 : decode cX5_judged 99 = .ok (.iload_n 3, 1) := by decide +kernel
theorem dX5_judged_100 : decode cX5_judged 100 = .ok (.if_icmp .ge 61, 3) := by decide +kernel
theorem dX5_judged_103 : decode cX5_judged 103 = .ok (.aload_n 0, 1) := by decide +kernel
theorem dX5_judged_104 : decode cX5_judged 104 = .ok (.iload_n 1, 1) := by decide +kernel
theorem dX5_judged_105 : decode cX5_judged 105 = .ok (.invokevirtual 389, 3) := by decide +kernel
theorem dX5_judged_108 : decode cX5_judged 108 = .ok (.lstore 12, 2) := by decide +kernel
theorem dX5_judged_110 : decode cX5_judged 110 = .ok (.lload 5, 2) := by decide +kernel
theorem dX5_judged_112 : decode cX5_judged 112 = .ok (.lload 12, 2) := by decide +kernel
theorem dX5_judged_114 : decode cX5_judged 114 = .ok (.ladd, 1) := by decide +kernel
theorem dX5_judged_115 : decode cX5_judged 115 = .ok (.lstore 5, 2) := by decide +kernel
theorem dX5_judged_117 : decode cX5_judged 117 = .ok (.iload 11, 2) := by decide +kernel
theorem dX5_judged_119 : decode cX5_judged 119 = .ok (.ifCond .ne 8, 3) := by decide +kernel
theorem dX5_judged_122 : decode cX5_judged 122 = .ok (.lload 12, 2) := by decide +kernel
theorem dX5_judged_124 : decode cX5_judged 124 = .ok (.goto 10, 3) := by decide +kernel
theorem dX5_judged_127 : decode cX5_judged 127 = .ok (.lload 7, 2) := by decide +kernel
theorem dX5_judged_129 : decode cX5_judged 129 = .ok (.lload 12, 2) := by decide +kernel
theorem dX5_judged_131 : decode cX5_judged 131 = .ok (.invokestatic 282, 3) := by decide +kernel
theorem dX5_judged_134 : decode cX5_judged 134 = .ok (.lstore 7, 2) := by decide +kernel
theorem dX5_judged_136 : decode cX5_judged 136 = .ok (.iload 11, 2) := by decide +kernel
theorem dX5_judged_138 : decode cX5_judged 138 = .ok (.ifCond .ne 8, 3) := by decide +kernel
theorem dX5_judged_141 : decode cX5_judged 141 = .ok (.lload 12, 2) := by decide +kernel
theorem dX5_judged_143 : decode cX5_judged 143 = .ok (.goto 10, 3) := by decide +kernel
theorem dX5_judged_146 : decode cX5_judged 146 = .ok (.lload 9, 2) := by decide +kernel
theorem dX5_judged_148 : decode cX5_judged 148 = .ok (.lload 12, 2) := by decide +kernel
theorem dX5_judged_150 : decode cX5_judged 150 = .ok (.invokestatic 286, 3) := by decide +kernel
theorem dX5_judged_153 : decode cX5_judged 153 = .ok (.lstore 9, 2) := by decide +kernel
theorem dX5_judged_155 : decode cX5_judged 155 = .ok (.iinc 11 1, 3) := by decide +kernel
theorem dX5_judged_158 : decode cX5_judged 158 = .ok (.goto (-61), 3) := by decide +kernel
theorem dX5_judged_161 : decode cX5_judged 161 = .ok (.iload 4, 2) := by decide +kernel
theorem dX5_judged_163 : decode cX5_judged 163 = .ok (.ifCond .ne 8, 3) := by decide +kernel
theorem dX5_judged_166 : decode cX5_judged 166 = .ok (.lload 5, 2) := by decide +kernel
theorem dX5_judged_168 : decode cX5_judged 168 = .ok (.goto 16, 3) := by decide +kernel
theorem dX5_judged_171 : decode cX5_judged 171 = .ok (.iload 4, 2) := by decide +kernel
theorem dX5_judged_173 : decode cX5_judged 173 = .ok (.iconst 1, 1) := by decide +kernel
theorem dX5_judged_174 : decode cX5_judged 174 = .ok (.if_icmp .ne 8, 3) := by decide +kernel
theorem dX5_judged_177 : decode cX5_judged 177 = .ok (.lload 7, 2) := by decide +kernel
theorem dX5_judged_179 : decode cX5_judged 179 = .ok (.goto 5, 3) := by decide +kernel
theorem dX5_judged_182 : decode cX5_judged 182 = .ok (.lload 9, 2) := by decide +kernel
theorem dX5_judged_184 : decode cX5_judged 184 = .ok (.lreturn, 1) := by decide +kernel
theorem dX5_all_0 : decode cX5_all 0 = .ok (.aload_n 0, 1) := by decide +kernel
theorem dX5_all_1 : decode cX5_all 1 = .ok (.invokevirtual 212, 3) := by decide +kernel
theorem dX5_all_4 : decode cX5_all 4 = .ok (.aload_n 0, 1) := by decide +kernel
theorem dX5_all_5 : decode cX5_all 5 = .ok (.aload_n 0, 1) := by decide +kernel
theorem dX5_all_6 : decode cX5_all 6 = .ok (.getfield 225, 3) := by decide +kernel
theorem dX5_all_9 : decode cX5_all 9 = .ok (.ifCond .ne 7, 3) := by decide +kernel
theorem dX5_all_12 : decode cX5_all 12 = .ok (.iconst 1, 1) := by decide +kernel
theorem dX5_all_13 : decode cX5_all 13 = .ok (.goto 4, 3) := by decide +kernel
theorem dX5_all_16 : decode cX5_all 16 = .ok (.iconst 0, 1) := by decide +kernel
theorem dX5_all_17 : decode cX5_all 17 = .ok (.iconst 1, 1) := by decide +kernel
theorem dX5_all_18 : decode cX5_all 18 = .ok (.invokevirtual 215, 3) := by decide +kernel
theorem dX5_all_21 : decode cX5_all 21 = .ok (.ifCond .eq 7, 3) := by decide +kernel
theorem dX5_all_24 : decode cX5_all 24 = .ok (.ldc2_w 351, 3) := by decide +kernel
theorem dX5_all_27 : decode cX5_all 27 = .ok (.lreturn, 1) := by decide +kernel
theorem dX5_all_28 : decode cX5_all 28 = .ok (.aload_n 0, 1) := by decide +kernel
theorem dX5_all_29 : decode cX5_all 29 = .ok (.invokevirtual 343, 3) := by decide +kernel
theorem dX5_all_32 : decode cX5_all 32 = .ok (.lconst 0, 1) := by decide +kernel
theorem dX5_all_33 : decode cX5_all 33 = .ok (.lstore_n 1, 1) := by decide +kernel
theorem dX5_all_34 : decode cX5_all 34 = .ok (.iconst 0, 1) := by decide +kernel
theorem dX5_all_35 : decode cX5_all 35 = .ok (.istore_n 3, 1) := by decide +kernel
theorem dX5_all_36 : decode cX5_all 36 = .ok (.iload_n 3, 1) := by decide +kernel
theorem dX5_all_37 : decode cX5_all 37 = .ok (.aload_n 0, 1) := by decide +kernel
theorem dX5_all_38 : decode cX5_all 38 = .ok (.getfield 17, 3) := by decide +kernel
theorem dX5_all_41 : decode cX5_all 41 = .ok (.iconst 0, 1) := by decide +kernel
theorem dX5_all_42 : decode cX5_all 42 = .ok (.iaload, 1) := by decide +kernel
theorem dX5_all_43 : decode cX5_all 43 = .ok (.if_icmp .ge 17, 3) := by decide +kernel
theorem dX5_all_46 : decode cX5_all 46 = .ok (.lload_n 1, 1) := by decide +kernel
theorem dX5_all_47 : decode cX5_all 47 = .ok (.aload_n 0, 1) := by decide +kernel
theorem dX5_all_48 : decode cX5_all 48 = .ok (.iload_n 3, 1) := by decide +kernel
theorem dX5_all_49 : decode cX5_all 49 = .ok (.invokevirtual 353, 3) := by decide +kernel
theorem dX5_all_52 : decode cX5_all 52 = .ok (.ladd, 1) := by decide +kernel
theorem dX5_all_53 : decode cX5_all 53 = .ok (.lstore_n 1, 1) := by decide +kernel
theorem dX5_all_54 : decode cX5_all 54 = .ok (.iinc 3 1, 3) := by decide +kernel
theorem dX5_all_57 : decode cX5_all 57 = .ok (.goto (-21), 3) := by decide +kernel
theorem dX5_all_60 : decode cX5_all 60 = .ok (.iconst 0, 1) := by decide +kernel
theorem dX5_all_61 : decode cX5_all 61 = .ok (.istore_n 3, 1) := by decide +kernel
theorem dX5_all_62 : decode cX5_all 62 = .ok (.iload_n 3, 1) := by decide +kernel
theorem dX5_all_63 : decode cX5_all 63 = .ok (.aload_n 0, 1) := by decide +kernel
theorem dX5_all_64 : decode cX5_all 64 = .ok (.getfield 17, 3) := by decide +kernel
theorem dX5_all_67 : decode cX5_all 67 = .ok (.iconst 1, 1) := by decide +kernel
theorem dX5_all_68 : decode cX5_all 68 = .ok (.iaload, 1) := by decide +kernel
theorem dX5_all_69 : decode cX5_all 69 = .ok (.if_icmp .ge 23, 3) := by decide +kernel
theorem dX5_all_72 : decode cX5_all 72 = .ok (.lload_n 1, 1) := by decide +kernel
theorem dX5_all_73 : decode cX5_all 73 = .ok (.aload_n 0, 1) := by decide +kernel
theorem dX5_all_74 : decode cX5_all 74 = .ok (.iload_n 3, 1) := by decide +kernel
theorem dX5_all_75 : decode cX5_all 75 = .ok (.invokevirtual 328, 3) := by decide +kernel
theorem dX5_all_78 : decode cX5_all 78 = .ok (.aload_n 0, 1) := by decide +kernel
theorem dX5_all_79 : decode cX5_all 79 = .ok (.iload_n 3, 1) := by decide +kernel
theorem dX5_all_80 : decode cX5_all 80 = .ok (.invokevirtual 334, 3) := by decide +kernel
theorem dX5_all_83 : decode cX5_all 83 = .ok (.lsub, 1) := by decide +kernel
theorem dX5_all_84 : decode cX5_all 84 = .ok (.ladd, 1) := by decide +kernel
theorem dX5_all_85 : decode cX5_all 85 = .ok (.lstore_n 1, 1) := by decide +kernel
theorem dX5_all_86 : decode cX5_all 86 = .ok (.iinc 3 1, 3) := by decide +kernel
theorem dX5_all_89 : decode cX5_all 89 = .ok (.goto (-27), 3) := by decide +kernel
theorem dX5_all_92 : decode cX5_all 92 = .ok (.lload_n 1, 1) := by decide +kernel
theorem dX5_all_93 : decode cX5_all 93 = .ok (.lreturn, 1) := by decide +kernel
theorem dX5_keeps_0 : decode cX5_keeps 0 = .ok (.aload_n 0, 1) := by decide +kernel
theorem dX5_keeps_1 : decode cX5_keeps 1 = .ok (.getfield 229, 3) := by decide +kernel
theorem dX5_keeps_4 : decode cX5_keeps 4 = .ok (.bipush 10, 2) := by decide +kernel
theorem dX5_keeps_6 : decode cX5_keeps 6 = .ok (.if_icmp .ne 43, 3) := by decide +kernel
theorem dX5_keeps_9 : decode cX5_keeps 9 = .ok (.iconst 0, 1) := by decide +kernel
theorem dX5_keeps_10 : decode cX5_keeps 10 = .ok (.istore_n 1, 1) := by decide +kernel
theorem dX5_keeps_11 : decode cX5_keeps 11 = .ok (.iload_n 1, 1) := by decide +kernel
theorem dX5_keeps_12 : decode cX5_keeps 12 = .ok (.sipush 738, 3) := by decide +kernel
theorem dX5_keeps_15 : decode cX5_keeps 15 = .ok (.if_icmp .ge 24, 3) := by decide +kernel
theorem dX5_keeps_18 : decode cX5_keeps 18 = .ok (.aload_n 0, 1) := by decide +kernel
theorem dX5_keeps_19 : decode cX5_keeps 19 = .ok (.getfield 23, 3) := by decide +kernel
theorem dX5_keeps_22 : decode cX5_keeps 22 = .ok (.iload_n 1, 1) := by decide +kernel
theorem dX5_keeps_23 : decode cX5_keeps 23 = .ok (.aload_n 0, 1) := by decide +kernel
theorem dX5_keeps_24 : decode cX5_keeps 24 = .ok (.getfield 23, 3) := by decide +kernel
theorem dX5_keeps_27 : decode cX5_keeps 27 = .ok (.iload_n 1, 1) := by decide +kernel
theorem dX5_keeps_28 : decode cX5_keeps 28 = .ok (.bipush 82, 2) := by decide +kernel
theorem dX5_keeps_30 : decode cX5_keeps 30 = .ok (.iadd, 1) := by decide +kernel
theorem dX5_keeps_31 : decode cX5_keeps 31 = .ok (.iaload, 1) := by decide +kernel
theorem dX5_keeps_32 : decode cX5_keeps 32 = .ok (.iastore, 1) := by decide +kernel
theorem dX5_keeps_33 : decode cX5_keeps 33 = .ok (.iinc 1 1, 3) := by decide +kernel
theorem dX5_keeps_36 : decode cX5_keeps 36 = .ok (.goto (-25), 3) := by decide +kernel
theorem dX5_keeps_39 : decode cX5_keeps 39 = .ok (.aload_n 0, 1) := by decide +kernel
theorem dX5_keeps_40 : decode cX5_keeps 40 = .ok (.dup, 1) := by decide +kernel
theorem dX5_keeps_41 : decode cX5_keeps 41 = .ok (.getfield 229, 3) := by decide +kernel
theorem dX5_keeps_44 : decode cX5_keeps 44 = .ok (.iconst 1, 1) := by decide +kernel
theorem dX5_keeps_45 : decode cX5_keeps 45 = .ok (.isub, 1) := by decide +kernel
theorem dX5_keeps_46 : decode cX5_keeps 46 = .ok (.putfield 229, 3) := by decide +kernel
theorem dX5_keeps_49 : decode cX5_keeps 49 = .ok (.iconst 0, 1) := by decide +kernel
theorem dX5_keeps_50 : decode cX5_keeps 50 = .ok (.istore_n 1, 1) := by decide +kernel
theorem dX5_keeps_51 : decode cX5_keeps 51 = .ok (.iload_n 1, 1) := by decide +kernel
theorem dX5_keeps_52 : decode cX5_keeps 52 = .ok (.bipush 82, 2) := by decide +kernel
theorem dX5_keeps_54 : decode cX5_keeps 54 = .ok (.if_icmp .ge 29, 3) := by decide +kernel
theorem dX5_keeps_57 : decode cX5_keeps 57 = .ok (.aload_n 0, 1) := by decide +kernel
theorem dX5_keeps_58 : decode cX5_keeps 58 = .ok (.getfield 23, 3) := by decide +kernel
theorem dX5_keeps_61 : decode cX5_keeps 61 = .ok (.bipush 82, 2) := by decide +kernel
theorem dX5_keeps_63 : decode cX5_keeps 63 = .ok (.aload_n 0, 1) := by decide +kernel
theorem dX5_keeps_64 : decode cX5_keeps 64 = .ok (.getfield 229, 3) := by decide +kernel
theorem dX5_keeps_67 : decode cX5_keeps 67 = .ok (.imul, 1) := by decide +kernel
theorem dX5_keeps_68 : decode cX5_keeps 68 = .ok (.iload_n 1, 1) := by decide +kernel
theorem dX5_keeps_69 : decode cX5_keeps 69 = .ok (.iadd, 1) := by decide +kernel
theorem dX5_keeps_70 : decode cX5_keeps 70 = .ok (.aload_n 0, 1) := by decide +kernel
theorem dX5_keeps_71 : decode cX5_keeps 71 = .ok (.getfield 13, 3) := by decide +kernel
theorem dX5_keeps_74 : decode cX5_keeps 74 = .ok (.iload_n 1, 1) := by decide +kernel
theorem dX5_keeps_75 : decode cX5_keeps 75 = .ok (.iaload, 1) := by decide +kernel
theorem dX5_keeps_76 : decode cX5_keeps 76 = .ok (.iastore, 1) := by decide +kernel
theorem dX5_keeps_77 : decode cX5_keeps 77 = .ok (.iinc 1 1, 3) := by decide +kernel
theorem dX5_keeps_80 : decode cX5_keeps 80 = .ok (.goto (-29), 3) := by decide +kernel
theorem dX5_keeps_83 : decode cX5_keeps 83 = .ok (.aload_n 0, 1) := by decide +kernel
theorem dX5_keeps_84 : decode cX5_keeps 84 = .ok (.dup, 1) := by decide +kernel
theorem dX5_keeps_85 : decode cX5_keeps 85 = .ok (.getfield 229, 3) := by decide +kernel
theorem dX5_keeps_88 : decode cX5_keeps 88 = .ok (.iconst 1, 1) := by decide +kernel
theorem dX5_keeps_89 : decode cX5_keeps 89 = .ok (.iadd, 1) := by decide +kernel
theorem dX5_keeps_90 : decode cX5_keeps 90 = .ok (.putfield 229, 3) := by decide +kernel
theorem dX5_keeps_93 : decode cX5_keeps 93 = .ok (.return_, 1) := by decide +kernel
theorem dX5_shift_0 : decode cX5_shift 0 = .ok (.aload_n 0, 1) := by decide +kernel
theorem dX5_shift_1 : decode cX5_shift 1 = .ok (.invokevirtual 212, 3) := by decide +kernel
theorem dX5_shift_4 : decode cX5_shift 4 = .ok (.aload_n 0, 1) := by decide +kernel
theorem dX5_shift_5 : decode cX5_shift 5 = .ok (.aload_n 0, 1) := by decide +kernel
theorem dX5_shift_6 : decode cX5_shift 6 = .ok (.iload_n 1, 1) := by decide +kernel
theorem dX5_shift_7 : decode cX5_shift 7 = .ok (.invokevirtual 234, 3) := by decide +kernel
theorem dX5_shift_10 : decode cX5_shift 10 = .ok (.ifCond .eq 11, 3) := by decide +kernel
theorem dX5_shift_13 : decode cX5_shift 13 = .ok (.aload_n 0, 1) := by decide +kernel
theorem dX5_shift_14 : decode cX5_shift 14 = .ok (.iload_n 2, 1) := by decide +kernel
theorem dX5_shift_15 : decode cX5_shift 15 = .ok (.invokevirtual 234, 3) := by decide +kernel
theorem dX5_shift_18 : decode cX5_shift 18 = .ok (.ifCond .ne 7, 3) := by decide +kernel
theorem dX5_shift_21 : decode cX5_shift 21 = .ok (.iconst 1, 1) := by decide +kernel
theorem dX5_shift_22 : decode cX5_shift 22 = .ok (.goto 4, 3) := by decide +kernel
theorem dX5_shift_25 : decode cX5_shift 25 = .ok (.iconst 0, 1) := by decide +kernel
theorem dX5_shift_26 : decode cX5_shift 26 = .ok (.iconst 1, 1) := by decide +kernel
theorem dX5_shift_27 : decode cX5_shift 27 = .ok (.invokevirtual 215, 3) := by decide +kernel
theorem dX5_shift_30 : decode cX5_shift 30 = .ok (.ifCond .ne 59, 3) := by decide +kernel
theorem dX5_shift_33 : decode cX5_shift 33 = .ok (.aload_n 0, 1) := by decide +kernel
theorem dX5_shift_34 : decode cX5_shift 34 = .ok (.iload_n 3, 1) := by decide +kernel
theorem dX5_shift_35 : decode cX5_shift 35 = .ok (.i2l, 1) := by decide +kernel
theorem dX5_shift_36 : decode cX5_shift 36 = .ok (.lconst 1, 1) := by decide +kernel
theorem dX5_shift_37 : decode cX5_shift 37 = .ok (.ldc2_w 232, 3) := by decide +kernel
theorem dX5_shift_40 : decode cX5_shift 40 = .ok (.invokestatic 161, 3) := by decide +kernel
theorem dX5_shift_43 : decode cX5_shift 43 = .ok (.ifCond .ne 7, 3) := by decide +kernel
theorem dX5_shift_46 : decode cX5_shift 46 = .ok (.iconst 1, 1) := by decide +kernel
theorem dX5_shift_47 : decode cX5_shift 47 = .ok (.goto 4, 3) := by decide +kernel
theorem dX5_shift_50 : decode cX5_shift 50 = .ok (.iconst 0, 1) := by decide +kernel
theorem dX5_shift_51 : decode cX5_shift 51 = .ok (.iconst 2, 1) := by decide +kernel
theorem dX5_shift_52 : decode cX5_shift 52 = .ok (.invokevirtual 215, 3) := by decide +kernel
theorem dX5_shift_55 : decode cX5_shift 55 = .ok (.ifCond .ne 34, 3) := by decide +kernel
theorem dX5_shift_58 : decode cX5_shift 58 = .ok (.aload_n 0, 1) := by decide +kernel
theorem dX5_shift_59 : decode cX5_shift 59 = .ok (.iload_n 1, 1) := by decide +kernel
theorem dX5_shift_60 : decode cX5_shift 60 = .ok (.iload_n 2, 1) := by decide +kernel
theorem dX5_shift_61 : decode cX5_shift 61 = .ok (.if_icmp .eq 16, 3) := by decide +kernel
theorem dX5_shift_64 : decode cX5_shift 64 = .ok (.aload_n 0, 1) := by decide +kernel
theorem dX5_shift_65 : decode cX5_shift 65 = .ok (.getfield 13, 3) := by decide +kernel
theorem dX5_shift_68 : decode cX5_shift 68 = .ok (.iload_n 1, 1) := by decide +kernel
theorem dX5_shift_69 : decode cX5_shift 69 = .ok (.iconst 1, 1) := by decide +kernel
theorem dX5_shift_70 : decode cX5_shift 70 = .ok (.invokestatic 243, 3) := by decide +kernel
theorem dX5_shift_73 : decode cX5_shift 73 = .ok (.iload_n 3, 1) := by decide +kernel
theorem dX5_shift_74 : decode cX5_shift 74 = .ok (.if_icmp .ge 7, 3) := by decide +kernel
theorem dX5_shift_77 : decode cX5_shift 77 = .ok (.iconst 1, 1) := by decide +kernel
theorem dX5_shift_78 : decode cX5_shift 78 = .ok (.goto 4, 3) := by decide +kernel
theorem dX5_shift_81 : decode cX5_shift 81 = .ok (.iconst 0, 1) := by decide +kernel
theorem dX5_shift_82 : decode cX5_shift 82 = .ok (.iconst 5, 1) := by decide +kernel
theorem dX5_shift_83 : decode cX5_shift 83 = .ok (.invokevirtual 215, 3) := by decide +kernel
theorem dX5_shift_86 : decode cX5_shift 86 = .ok (.ifCond .eq 5, 3) := by decide +kernel
theorem dX5_shift_89 : decode cX5_shift 89 = .ok (.iconst (-1), 1) := by decide +kernel
theorem dX5_shift_90 : decode cX5_shift 90 = .ok (.ireturn, 1) := by decide +kernel
theorem dX5_shift_91 : decode cX5_shift 91 = .ok (.aload_n 0, 1) := by decide +kernel
theorem dX5_shift_92 : decode cX5_shift 92 = .ok (.invokevirtual 392, 3) := by decide +kernel
theorem dX5_shift_95 : decode cX5_shift 95 = .ok (.aload_n 0, 1) := by decide +kernel
theorem dX5_shift_96 : decode cX5_shift 96 = .ok (.getfield 13, 3) := by decide +kernel
theorem dX5_shift_99 : decode cX5_shift 99 = .ok (.bipush 10, 2) := by decide +kernel
theorem dX5_shift_101 : decode cX5_shift 101 = .ok (.bipush 6, 2) := by decide +kernel
theorem dX5_shift_103 : decode cX5_shift 103 = .ok (.iload_n 1, 1) := by decide +kernel
theorem dX5_shift_104 : decode cX5_shift 104 = .ok (.imul, 1) := by decide +kernel
theorem dX5_shift_105 : decode cX5_shift 105 = .ok (.iadd, 1) := by decide +kernel
theorem dX5_shift_106 : decode cX5_shift 106 = .ok (.iconst 1, 1) := by decide +kernel
theorem dX5_shift_107 : decode cX5_shift 107 = .ok (.iadd, 1) := by decide +kernel
theorem dX5_shift_108 : decode cX5_shift 108 = .ok (.dup2, 1) := by decide +kernel
theorem dX5_shift_109 : decode cX5_shift 109 = .ok (.iaload, 1) := by decide +kernel
theorem dX5_shift_110 : decode cX5_shift 110 = .ok (.iload_n 3, 1) := by decide +kernel
theorem dX5_shift_111 : decode cX5_shift 111 = .ok (.isub, 1) := by decide +kernel
theorem dX5_shift_112 : decode cX5_shift 112 = .ok (.iastore, 1) := by decide +kernel
theorem dX5_shift_113 : decode cX5_shift 113 = .ok (.aload_n 0, 1) := by decide +kernel
theorem dX5_shift_114 : decode cX5_shift 114 = .ok (.getfield 13, 3) := by decide +kernel
theorem dX5_shift_117 : decode cX5_shift 117 = .ok (.bipush 10, 2) := by decide +kernel
theorem dX5_shift_119 : decode cX5_shift 119 = .ok (.bipush 6, 2) := by decide +kernel
theorem dX5_shift_121 : decode cX5_shift 121 = .ok (.iload_n 2, 1) := by decide +kernel
theorem dX5_shift_122 : decode cX5_shift 122 = .ok (.imul, 1) := by decide +kernel
theorem dX5_shift_123 : decode cX5_shift 123 = .ok (.iadd, 1) := by decide +kernel
theorem dX5_shift_124 : decode cX5_shift 124 = .ok (.iconst 1, 1) := by decide +kernel
theorem dX5_shift_125 : decode cX5_shift 125 = .ok (.iadd, 1) := by decide +kernel
theorem dX5_shift_126 : decode cX5_shift 126 = .ok (.dup2, 1) := by decide +kernel
theorem dX5_shift_127 : decode cX5_shift 127 = .ok (.iaload, 1) := by decide +kernel
theorem dX5_shift_128 : decode cX5_shift 128 = .ok (.iload_n 3, 1) := by decide +kernel
theorem dX5_shift_129 : decode cX5_shift 129 = .ok (.iadd, 1) := by decide +kernel
theorem dX5_shift_130 : decode cX5_shift 130 = .ok (.iastore, 1) := by decide +kernel
theorem dX5_shift_131 : decode cX5_shift 131 = .ok (.aload_n 0, 1) := by decide +kernel
theorem dX5_shift_132 : decode cX5_shift 132 = .ok (.getfield 13, 3) := by decide +kernel
theorem dX5_shift_135 : decode cX5_shift 135 = .ok (.iload_n 2, 1) := by decide +kernel
theorem dX5_shift_136 : decode cX5_shift 136 = .ok (.iconst 1, 1) := by decide +kernel
theorem dX5_shift_137 : decode cX5_shift 137 = .ok (.invokestatic 243, 3) := by decide +kernel
theorem dX5_shift_140 : decode cX5_shift 140 = .ok (.ireturn, 1) := by decide +kernel
theorem dX5_file_0 : decode cX5_file 0 = .ok (.aload_n 0, 1) := by decide +kernel
theorem dX5_file_1 : decode cX5_file 1 = .ok (.invokevirtual 212, 3) := by decide +kernel
theorem dX5_file_4 : decode cX5_file 4 = .ok (.aload_n 0, 1) := by decide +kernel
theorem dX5_file_5 : decode cX5_file 5 = .ok (.aload_n 0, 1) := by decide +kernel
theorem dX5_file_6 : decode cX5_file 6 = .ok (.getfield 225, 3) := by decide +kernel
theorem dX5_file_9 : decode cX5_file 9 = .ok (.ifCond .eq 27, 3) := by decide +kernel
theorem dX5_file_12 : decode cX5_file 12 = .ok (.iload_n 1, 1) := by decide +kernel
theorem dX5_file_13 : decode cX5_file 13 = .ok (.i2l, 1) := by decide +kernel
theorem dX5_file_14 : decode cX5_file 14 = .ok (.lconst 0, 1) := by decide +kernel
theorem dX5_file_15 : decode cX5_file 15 = .ok (.ldc2_w 349, 3) := by decide +kernel
theorem dX5_file_18 : decode cX5_file 18 = .ok (.invokestatic 161, 3) := by decide +kernel
theorem dX5_file_21 : decode cX5_file 21 = .ok (.ifCond .eq 15, 3) := by decide +kernel
theorem dX5_file_24 : decode cX5_file 24 = .ok (.iload_n 1, 1) := by decide +kernel
theorem dX5_file_25 : decode cX5_file 25 = .ok (.ifCond .ne 15, 3) := by decide +kernel
theorem dX5_file_28 : decode cX5_file 28 = .ok (.aload_n 0, 1) := by decide +kernel
theorem dX5_file_29 : decode cX5_file 29 = .ok (.iload_n 2, 1) := by decide +kernel
theorem dX5_file_30 : decode cX5_file 30 = .ok (.invokevirtual 234, 3) := by decide +kernel
theorem dX5_file_33 : decode cX5_file 33 = .ok (.ifCond .ne 7, 3) := by decide +kernel
theorem dX5_file_36 : decode cX5_file 36 = .ok (.iconst 1, 1) := by decide +kernel
theorem dX5_file_37 : decode cX5_file 37 = .ok (.goto 4, 3) := by decide +kernel
theorem dX5_file_40 : decode cX5_file 40 = .ok (.iconst 0, 1) := by decide +kernel
theorem dX5_file_41 : decode cX5_file 41 = .ok (.iconst 1, 1) := by decide +kernel
theorem dX5_file_42 : decode cX5_file 42 = .ok (.invokevirtual 215, 3) := by decide +kernel
theorem dX5_file_45 : decode cX5_file 45 = .ok (.ifCond .eq 5, 3) := by decide +kernel
theorem dX5_file_48 : decode cX5_file 48 = .ok (.iconst (-1), 1) := by decide +kernel
theorem dX5_file_49 : decode cX5_file 49 = .ok (.ireturn, 1) := by decide +kernel
theorem dX5_file_50 : decode cX5_file 50 = .ok (.aload_n 0, 1) := by decide +kernel
theorem dX5_file_51 : decode cX5_file 51 = .ok (.iload_n 3, 1) := by decide +kernel
theorem dX5_file_52 : decode cX5_file 52 = .ok (.i2l, 1) := by decide +kernel
theorem dX5_file_53 : decode cX5_file 53 = .ok (.lconst 1, 1) := by decide +kernel
theorem dX5_file_54 : decode cX5_file 54 = .ok (.ldc2_w 337, 3) := by decide +kernel
theorem dX5_file_57 : decode cX5_file 57 = .ok (.invokestatic 161, 3) := by decide +kernel
theorem dX5_file_60 : decode cX5_file 60 = .ok (.ifCond .eq 16, 3) := by decide +kernel
theorem dX5_file_63 : decode cX5_file 63 = .ok (.iload 4, 2) := by decide +kernel
theorem dX5_file_65 : decode cX5_file 65 = .ok (.i2l, 1) := by decide +kernel
theorem dX5_file_66 : decode cX5_file 66 = .ok (.lconst 0, 1) := by decide +kernel
theorem dX5_file_67 : decode cX5_file 67 = .ok (.ldc2_w 395, 3) := by decide +kernel
theorem dX5_file_70 : decode cX5_file 70 = .ok (.invokestatic 161, 3) := by decide +kernel
theorem dX5_file_73 : decode cX5_file 73 = .ok (.ifCond .ne 7, 3) := by decide +kernel
theorem dX5_file_76 : decode cX5_file 76 = .ok (.iconst 1, 1) := by decide +kernel
theorem dX5_file_77 : decode cX5_file 77 = .ok (.goto 4, 3) := by decide +kernel
theorem dX5_file_80 : decode cX5_file 80 = .ok (.iconst 0, 1) := by decide +kernel
theorem dX5_file_81 : decode cX5_file 81 = .ok (.iconst 2, 1) := by decide +kernel
theorem dX5_file_82 : decode cX5_file 82 = .ok (.invokevirtual 215, 3) := by decide +kernel
theorem dX5_file_85 : decode cX5_file 85 = .ok (.ifCond .ne 27, 3) := by decide +kernel
theorem dX5_file_88 : decode cX5_file 88 = .ok (.aload_n 0, 1) := by decide +kernel
theorem dX5_file_89 : decode cX5_file 89 = .ok (.aload_n 0, 1) := by decide +kernel
theorem dX5_file_90 : decode cX5_file 90 = .ok (.getfield 13, 3) := by decide +kernel
theorem dX5_file_93 : decode cX5_file 93 = .ok (.iconst 1, 1) := by decide +kernel
theorem dX5_file_94 : decode cX5_file 94 = .ok (.iaload, 1) := by decide +kernel
theorem dX5_file_95 : decode cX5_file 95 = .ok (.bipush 12, 2) := by decide +kernel
theorem dX5_file_97 : decode cX5_file 97 = .ok (.if_icmp .ne 7, 3) := by decide +kernel
theorem dX5_file_100 : decode cX5_file 100 = .ok (.iconst 1, 1) := by decide +kernel
theorem dX5_file_101 : decode cX5_file 101 = .ok (.goto 4, 3) := by decide +kernel
theorem dX5_file_104 : decode cX5_file 104 = .ok (.iconst 0, 1) := by decide +kernel
theorem dX5_file_105 : decode cX5_file 105 = .ok (.iconst 3, 1) := by decide +kernel
theorem dX5_file_106 : decode cX5_file 106 = .ok (.invokevirtual 215, 3) := by decide +kernel
theorem dX5_file_109 : decode cX5_file 109 = .ok (.ifCond .eq 5, 3) := by decide +kernel
theorem dX5_file_112 : decode cX5_file 112 = .ok (.iconst (-1), 1) := by decide +kernel
theorem dX5_file_113 : decode cX5_file 113 = .ok (.ireturn, 1) := by decide +kernel
theorem dX5_file_114 : decode cX5_file 114 = .ok (.aload_n 0, 1) := by decide +kernel
theorem dX5_file_115 : decode cX5_file 115 = .ok (.invokevirtual 392, 3) := by decide +kernel
theorem dX5_file_118 : decode cX5_file 118 = .ok (.bipush 34, 2) := by decide +kernel
theorem dX5_file_120 : decode cX5_file 120 = .ok (.iconst 4, 1) := by decide +kernel
theorem dX5_file_121 : decode cX5_file 121 = .ok (.aload_n 0, 1) := by decide +kernel
theorem dX5_file_122 : decode cX5_file 122 = .ok (.getfield 13, 3) := by decide +kernel
theorem dX5_file_125 : decode cX5_file 125 = .ok (.iconst 1, 1) := by decide +kernel
theorem dX5_file_126 : decode cX5_file 126 = .ok (.iaload, 1) := by decide +kernel
theorem dX5_file_127 : decode cX5_file 127 = .ok (.imul, 1) := by decide +kernel
theorem dX5_file_128 : decode cX5_file 128 = .ok (.iadd, 1) := by decide +kernel
theorem dX5_file_129 : decode cX5_file 129 = .ok (.istore 5, 2) := by decide +kernel
theorem dX5_file_131 : decode cX5_file 131 = .ok (.aload_n 0, 1) := by decide +kernel
theorem dX5_file_132 : decode cX5_file 132 = .ok (.getfield 13, 3) := by decide +kernel
theorem dX5_file_135 : decode cX5_file 135 = .ok (.iload 5, 2) := by decide +kernel
theorem dX5_file_137 : decode cX5_file 137 = .ok (.iconst 0, 1) := by decide +kernel
theorem dX5_file_138 : decode cX5_file 138 = .ok (.iadd, 1) := by decide +kernel
theorem dX5_file_139 : decode cX5_file 139 = .ok (.iload_n 1, 1) := by decide +kernel
theorem dX5_file_140 : decode cX5_file 140 = .ok (.iastore, 1) := by decide +kernel
theorem dX5_file_141 : decode cX5_file 141 = .ok (.aload_n 0, 1) := by decide +kernel
theorem dX5_file_142 : decode cX5_file 142 = .ok (.getfield 13, 3) := by decide +kernel
theorem dX5_file_145 : decode cX5_file 145 = .ok (.iload 5, 2) := by decide +kernel
theorem dX5_file_147 : decode cX5_file 147 = .ok (.iconst 1, 1) := by decide +kernel
theorem dX5_file_148 : decode cX5_file 148 = .ok (.iadd, 1) := by decide +kernel
theorem dX5_file_149 : decode cX5_file 149 = .ok (.iload_n 1, 1) := by decide +kernel
theorem dX5_file_150 : decode cX5_file 150 = .ok (.ifCond .ne 7, 3) := by decide +kernel
theorem dX5_file_153 : decode cX5_file 153 = .ok (.iload_n 2, 1) := by decide +kernel
theorem dX5_file_154 : decode cX5_file 154 = .ok (.goto 5, 3) := by decide +kernel
theorem dX5_file_157 : decode cX5_file 157 = .ok (.bipush (-2), 2) := by decide +kernel
theorem dX5_file_159 : decode cX5_file 159 = .ok (.iastore, 1) := by decide +kernel
theorem dX5_file_160 : decode cX5_file 160 = .ok (.aload_n 0, 1) := by decide +kernel
theorem dX5_file_161 : decode cX5_file 161 = .ok (.getfield 13, 3) := by decide +kernel
theorem dX5_file_164 : decode cX5_file 164 = .ok (.iload 5, 2) := by decide +kernel
theorem dX5_file_166 : decode cX5_file 166 = .ok (.iconst 2, 1) := by decide +kernel
theorem dX5_file_167 : decode cX5_file 167 = .ok (.iadd, 1) := by decide +kernel
theorem dX5_file_168 : decode cX5_file 168 = .ok (.iload_n 3, 1) := by decide +kernel
theorem dX5_file_169 : decode cX5_file 169 = .ok (.iastore, 1) := by decide +kernel
theorem dX5_file_170 : decode cX5_file 170 = .ok (.aload_n 0, 1) := by decide +kernel
theorem dX5_file_171 : decode cX5_file 171 = .ok (.getfield 13, 3) := by decide +kernel
theorem dX5_file_174 : decode cX5_file 174 = .ok (.iload 5, 2) := by decide +kernel
theorem dX5_file_176 : decode cX5_file 176 = .ok (.iconst 3, 1) := by decide +kernel
theorem dX5_file_177 : decode cX5_file 177 = .ok (.iadd, 1) := by decide +kernel
theorem dX5_file_178 : decode cX5_file 178 = .ok (.iload 4, 2) := by decide +kernel
theorem dX5_file_180 : decode cX5_file 180 = .ok (.iastore, 1) := by decide +kernel
theorem dX5_file_181 : decode cX5_file 181 = .ok (.aload_n 0, 1) := by decide +kernel
theorem dX5_file_182 : decode cX5_file 182 = .ok (.getfield 13, 3) := by decide +kernel
theorem dX5_file_185 : decode cX5_file 185 = .ok (.iconst 1, 1) := by decide +kernel
theorem dX5_file_186 : decode cX5_file 186 = .ok (.dup2, 1) := by decide +kernel
theorem dX5_file_187 : decode cX5_file 187 = .ok (.iaload, 1) := by decide +kernel
theorem dX5_file_188 : decode cX5_file 188 = .ok (.iconst 1, 1) := by decide +kernel
theorem dX5_file_189 : decode cX5_file 189 = .ok (.iadd, 1) := by decide +kernel
theorem dX5_file_190 : decode cX5_file 190 = .ok (.iastore, 1) := by decide +kernel
theorem dX5_file_191 : decode cX5_file 191 = .ok (.aload_n 0, 1) := by decide +kernel
theorem dX5_file_192 : decode cX5_file 192 = .ok (.getfield 13, 3) := by decide +kernel
theorem dX5_file_195 : decode cX5_file 195 = .ok (.iconst 1, 1) := by decide +kernel
theorem dX5_file_196 : decode cX5_file 196 = .ok (.iaload, 1) := by decide +kernel
theorem dX5_file_197 : decode cX5_file 197 = .ok (.iconst 1, 1) := by decide +kernel
theorem dX5_file_198 : decode cX5_file 198 = .ok (.isub, 1) := by decide +kernel
theorem dX5_file_199 : decode cX5_file 199 = .ok (.ireturn, 1) := by decide +kernel
theorem dX5_withdraw_0 : decode cX5_withdraw 0 = .ok (.aload_n 0, 1) := by decide +kernel
theorem dX5_withdraw_1 : decode cX5_withdraw 1 = .ok (.invokevirtual 212, 3) := by decide +kernel
theorem dX5_withdraw_4 : decode cX5_withdraw 4 = .ok (.aload_n 0, 1) := by decide +kernel
theorem dX5_withdraw_5 : decode cX5_withdraw 5 = .ok (.aload_n 0, 1) := by decide +kernel
theorem dX5_withdraw_6 : decode cX5_withdraw 6 = .ok (.iload_n 1, 1) := by decide +kernel
theorem dX5_withdraw_7 : decode cX5_withdraw 7 = .ok (.invokevirtual 247, 3) := by decide +kernel
theorem dX5_withdraw_10 : decode cX5_withdraw 10 = .ok (.ifCond .ne 7, 3) := by decide +kernel
theorem dX5_withdraw_13 : decode cX5_withdraw 13 = .ok (.iconst 1, 1) := by decide +kernel
theorem dX5_withdraw_14 : decode cX5_withdraw 14 = .ok (.goto 4, 3) := by decide +kernel
theorem dX5_withdraw_17 : decode cX5_withdraw 17 = .ok (.iconst 0, 1) := by decide +kernel
theorem dX5_withdraw_18 : decode cX5_withdraw 18 = .ok (.iconst 1, 1) := by decide +kernel
theorem dX5_withdraw_19 : decode cX5_withdraw 19 = .ok (.invokevirtual 215, 3) := by decide +kernel
theorem dX5_withdraw_22 : decode cX5_withdraw 22 = .ok (.ifCond .eq 5, 3) := by decide +kernel
theorem dX5_withdraw_25 : decode cX5_withdraw 25 = .ok (.iconst (-1), 1) := by decide +kernel
theorem dX5_withdraw_26 : decode cX5_withdraw 26 = .ok (.ireturn, 1) := by decide +kernel
theorem dX5_withdraw_27 : decode cX5_withdraw 27 = .ok (.aload_n 0, 1) := by decide +kernel
theorem dX5_withdraw_28 : decode cX5_withdraw 28 = .ok (.invokevirtual 392, 3) := by decide +kernel
theorem dX5_withdraw_31 : decode cX5_withdraw 31 = .ok (.aload_n 0, 1) := by decide +kernel
theorem dX5_withdraw_32 : decode cX5_withdraw 32 = .ok (.getfield 13, 3) := by decide +kernel
theorem dX5_withdraw_35 : decode cX5_withdraw 35 = .ok (.iconst 1, 1) := by decide +kernel
theorem dX5_withdraw_36 : decode cX5_withdraw 36 = .ok (.dup2, 1) := by decide +kernel
theorem dX5_withdraw_37 : decode cX5_withdraw 37 = .ok (.iaload, 1) := by decide +kernel
theorem dX5_withdraw_38 : decode cX5_withdraw 38 = .ok (.iconst 1, 1) := by decide +kernel
theorem dX5_withdraw_39 : decode cX5_withdraw 39 = .ok (.isub, 1) := by decide +kernel
theorem dX5_withdraw_40 : decode cX5_withdraw 40 = .ok (.iastore, 1) := by decide +kernel
theorem dX5_withdraw_41 : decode cX5_withdraw 41 = .ok (.bipush 34, 2) := by decide +kernel
theorem dX5_withdraw_43 : decode cX5_withdraw 43 = .ok (.iconst 4, 1) := by decide +kernel
theorem dX5_withdraw_44 : decode cX5_withdraw 44 = .ok (.iload_n 1, 1) := by decide +kernel
theorem dX5_withdraw_45 : decode cX5_withdraw 45 = .ok (.imul, 1) := by decide +kernel
theorem dX5_withdraw_46 : decode cX5_withdraw 46 = .ok (.iadd, 1) := by decide +kernel
theorem dX5_withdraw_47 : decode cX5_withdraw 47 = .ok (.istore_n 2, 1) := by decide +kernel
theorem dX5_withdraw_48 : decode cX5_withdraw 48 = .ok (.iload_n 2, 1) := by decide +kernel
theorem dX5_withdraw_49 : decode cX5_withdraw 49 = .ok (.bipush 34, 2) := by decide +kernel
theorem dX5_withdraw_51 : decode cX5_withdraw 51 = .ok (.iconst 4, 1) := by decide +kernel
theorem dX5_withdraw_52 : decode cX5_withdraw 52 = .ok (.aload_n 0, 1) := by decide +kernel
theorem dX5_withdraw_53 : decode cX5_withdraw 53 = .ok (.getfield 13, 3) := by decide +kernel
theorem dX5_withdraw_56 : decode cX5_withdraw 56 = .ok (.iconst 1, 1) := by decide +kernel
theorem dX5_withdraw_57 : decode cX5_withdraw 57 = .ok (.iaload, 1) := by decide +kernel
theorem dX5_withdraw_58 : decode cX5_withdraw 58 = .ok (.imul, 1) := by decide +kernel
theorem dX5_withdraw_59 : decode cX5_withdraw 59 = .ok (.iadd, 1) := by decide +kernel
theorem dX5_withdraw_60 : decode cX5_withdraw 60 = .ok (.if_icmp .ge 23, 3) := by decide +kernel
theorem dX5_withdraw_63 : decode cX5_withdraw 63 = .ok (.aload_n 0, 1) := by decide +kernel
theorem dX5_withdraw_64 : decode cX5_withdraw 64 = .ok (.getfield 13, 3) := by decide +kernel
theorem dX5_withdraw_67 : decode cX5_withdraw 67 = .ok (.iload_n 2, 1) := by decide +kernel
theorem dX5_withdraw_68 : decode cX5_withdraw 68 = .ok (.aload_n 0, 1) := by decide +kernel
theorem dX5_withdraw_69 : decode cX5_withdraw 69 = .ok (.getfield 13, 3) := by decide +kernel
theorem dX5_withdraw_72 : decode cX5_withdraw 72 = .ok (.iload_n 2, 1) := by decide +kernel
theorem dX5_withdraw_73 : decode cX5_withdraw 73 = .ok (.iconst 4, 1) := by decide +kernel
theorem dX5_withdraw_74 : decode cX5_withdraw 74 = .ok (.iadd, 1) := by decide +kernel
theorem dX5_withdraw_75 : decode cX5_withdraw 75 = .ok (.iaload, 1) := by decide +kernel
theorem dX5_withdraw_76 : decode cX5_withdraw 76 = .ok (.iastore, 1) := by decide +kernel
theorem dX5_withdraw_77 : decode cX5_withdraw 77 = .ok (.iinc 2 1, 3) := by decide +kernel
theorem dX5_withdraw_80 : decode cX5_withdraw 80 = .ok (.goto (-32), 3) := by decide +kernel
theorem dX5_withdraw_83 : decode cX5_withdraw 83 = .ok (.aload_n 0, 1) := by decide +kernel
theorem dX5_withdraw_84 : decode cX5_withdraw 84 = .ok (.getfield 13, 3) := by decide +kernel
theorem dX5_withdraw_87 : decode cX5_withdraw 87 = .ok (.iconst 1, 1) := by decide +kernel
theorem dX5_withdraw_88 : decode cX5_withdraw 88 = .ok (.iaload, 1) := by decide +kernel
theorem dX5_withdraw_89 : decode cX5_withdraw 89 = .ok (.ireturn, 1) := by decide +kernel
theorem dX5_isWithin_0 : decode cX5_isWithin 0 = .ok (.iload_n 0, 1) := by decide +kernel
theorem dX5_isWithin_1 : decode cX5_isWithin 1 = .ok (.tableswitch 51 0 3 #[31, 51, 41, 41], 31) := by decide +kernel
theorem dX5_isWithin_32 : decode cX5_isWithin 32 = .ok (.iload_n 1, 1) := by decide +kernel
theorem dX5_isWithin_33 : decode cX5_isWithin 33 = .ok (.i2l, 1) := by decide +kernel
theorem dX5_isWithin_34 : decode cX5_isWithin 34 = .ok (.lconst 1, 1) := by decide +kernel
theorem dX5_isWithin_35 : decode cX5_isWithin 35 = .ok (.ldc2_w 365, 3) := by decide +kernel
theorem dX5_isWithin_38 : decode cX5_isWithin 38 = .ok (.invokestatic 161, 3) := by decide +kernel
theorem dX5_isWithin_41 : decode cX5_isWithin 41 = .ok (.ireturn, 1) := by decide +kernel
theorem dX5_isWithin_42 : decode cX5_isWithin 42 = .ok (.iload_n 1, 1) := by decide +kernel
theorem dX5_isWithin_43 : decode cX5_isWithin 43 = .ok (.i2l, 1) := by decide +kernel
theorem dX5_isWithin_44 : decode cX5_isWithin 44 = .ok (.lconst 0, 1) := by decide +kernel
theorem dX5_isWithin_45 : decode cX5_isWithin 45 = .ok (.ldc2_w 337, 3) := by decide +kernel
theorem dX5_isWithin_48 : decode cX5_isWithin 48 = .ok (.invokestatic 161, 3) := by decide +kernel
theorem dX5_isWithin_51 : decode cX5_isWithin 51 = .ok (.ireturn, 1) := by decide +kernel
theorem dX5_isWithin_52 : decode cX5_isWithin 52 = .ok (.iload_n 1, 1) := by decide +kernel
theorem dX5_isWithin_53 : decode cX5_isWithin 53 = .ok (.i2l, 1) := by decide +kernel
theorem dX5_isWithin_54 : decode cX5_isWithin 54 = .ok (.lconst 0, 1) := by decide +kernel
theorem dX5_isWithin_55 : decode cX5_isWithin 55 = .ok (.lconst 1, 1) := by decide +kernel
theorem dX5_isWithin_56 : decode cX5_isWithin 56 = .ok (.invokestatic 161, 3) := by decide +kernel
theorem dX5_isWithin_59 : decode cX5_isWithin 59 = .ok (.ireturn, 1) := by decide +kernel
theorem dX5_become_0 : decode cX5_become 0 = .ok (.aload_n 0, 1) := by decide +kernel
theorem dX5_become_1 : decode cX5_become 1 = .ok (.invokevirtual 212, 3) := by decide +kernel
theorem dX5_become_4 : decode cX5_become 4 = .ok (.aload_n 0, 1) := by decide +kernel
theorem dX5_become_5 : decode cX5_become 5 = .ok (.aload_n 0, 1) := by decide +kernel
theorem dX5_become_6 : decode cX5_become 6 = .ok (.iload_n 1, 1) := by decide +kernel
theorem dX5_become_7 : decode cX5_become 7 = .ok (.invokevirtual 234, 3) := by decide +kernel
theorem dX5_become_10 : decode cX5_become 10 = .ok (.ifCond .eq 20, 3) := by decide +kernel
theorem dX5_become_13 : decode cX5_become 13 = .ok (.iload_n 2, 1) := by decide +kernel
theorem dX5_become_14 : decode cX5_become 14 = .ok (.i2l, 1) := by decide +kernel
theorem dX5_become_15 : decode cX5_become 15 = .ok (.lconst 0, 1) := by decide +kernel
theorem dX5_become_16 : decode cX5_become 16 = .ok (.ldc2_w 397, 3) := by decide +kernel
theorem dX5_become_19 : decode cX5_become 19 = .ok (.invokestatic 161, 3) := by decide +kernel
theorem dX5_become_22 : decode cX5_become 22 = .ok (.ifCond .eq 8, 3) := by decide +kernel
theorem dX5_become_25 : decode cX5_become 25 = .ok (.iload_n 2, 1) := by decide +kernel
theorem dX5_become_26 : decode cX5_become 26 = .ok (.iconst 1, 1) := by decide +kernel
theorem dX5_become_27 : decode cX5_become 27 = .ok (.if_icmp .ne 7, 3) := by decide +kernel
theorem dX5_become_30 : decode cX5_become 30 = .ok (.iconst 1, 1) := by decide +kernel
theorem dX5_become_31 : decode cX5_become 31 = .ok (.goto 4, 3) := by decide +kernel
theorem dX5_become_34 : decode cX5_become 34 = .ok (.iconst 0, 1) := by decide +kernel
theorem dX5_become_35 : decode cX5_become 35 = .ok (.iconst 1, 1) := by decide +kernel
theorem dX5_become_36 : decode cX5_become 36 = .ok (.invokevirtual 215, 3) := by decide +kernel
theorem dX5_become_39 : decode cX5_become 39 = .ok (.ifCond .ne 24, 3) := by decide +kernel
theorem dX5_become_42 : decode cX5_become 42 = .ok (.aload_n 0, 1) := by decide +kernel
theorem dX5_become_43 : decode cX5_become 43 = .ok (.iload_n 2, 1) := by decide +kernel
theorem dX5_become_44 : decode cX5_become 44 = .ok (.iload_n 3, 1) := by decide +kernel
theorem dX5_become_45 : decode cX5_become 45 = .ok (.invokestatic 399, 3) := by decide +kernel
theorem dX5_become_48 : decode cX5_become 48 = .ok (.ifCond .ne 7, 3) := by decide +kernel
theorem dX5_become_51 : decode cX5_become 51 = .ok (.iconst 1, 1) := by decide +kernel
theorem dX5_become_52 : decode cX5_become 52 = .ok (.goto 4, 3) := by decide +kernel
theorem dX5_become_55 : decode cX5_become 55 = .ok (.iconst 0, 1) := by decide +kernel
theorem dX5_become_56 : decode cX5_become 56 = .ok (.iconst 2, 1) := by decide +kernel
theorem dX5_become_57 : decode cX5_become 57 = .ok (.invokevirtual 215, 3) := by decide +kernel
theorem dX5_become_60 : decode cX5_become 60 = .ok (.ifCond .eq 5, 3) := by decide +kernel
theorem dX5_become_63 : decode cX5_become 63 = .ok (.iconst (-1), 1) := by decide +kernel
theorem dX5_become_64 : decode cX5_become 64 = .ok (.ireturn, 1) := by decide +kernel
theorem dX5_become_65 : decode cX5_become 65 = .ok (.aload_n 0, 1) := by decide +kernel
theorem dX5_become_66 : decode cX5_become 66 = .ok (.invokevirtual 392, 3) := by decide +kernel
theorem dX5_become_69 : decode cX5_become 69 = .ok (.aload_n 0, 1) := by decide +kernel
theorem dX5_become_70 : decode cX5_become 70 = .ok (.getfield 13, 3) := by decide +kernel
theorem dX5_become_73 : decode cX5_become 73 = .ok (.iload_n 1, 1) := by decide +kernel
theorem dX5_become_74 : decode cX5_become 74 = .ok (.iload_n 2, 1) := by decide +kernel
theorem dX5_become_75 : decode cX5_become 75 = .ok (.invokestatic 243, 3) := by decide +kernel
theorem dX5_become_78 : decode cX5_become 78 = .ok (.istore 4, 2) := by decide +kernel
theorem dX5_become_80 : decode cX5_become 80 = .ok (.aload_n 0, 1) := by decide +kernel
theorem dX5_become_81 : decode cX5_become 81 = .ok (.getfield 13, 3) := by decide +kernel
theorem dX5_become_84 : decode cX5_become 84 = .ok (.bipush 10, 2) := by decide +kernel
theorem dX5_become_86 : decode cX5_become 86 = .ok (.bipush 6, 2) := by decide +kernel
theorem dX5_become_88 : decode cX5_become 88 = .ok (.iload_n 1, 1) := by decide +kernel
theorem dX5_become_89 : decode cX5_become 89 = .ok (.imul, 1) := by decide +kernel
theorem dX5_become_90 : decode cX5_become 90 = .ok (.iadd, 1) := by decide +kernel
theorem dX5_become_91 : decode cX5_become 91 = .ok (.iload_n 2, 1) := by decide +kernel
theorem dX5_become_92 : decode cX5_become 92 = .ok (.iadd, 1) := by decide +kernel
theorem dX5_become_93 : decode cX5_become 93 = .ok (.iload_n 3, 1) := by decide +kernel
theorem dX5_become_94 : decode cX5_become 94 = .ok (.iastore, 1) := by decide +kernel
theorem dX5_become_95 : decode cX5_become 95 = .ok (.iload 4, 2) := by decide +kernel
theorem dX5_become_97 : decode cX5_become 97 = .ok (.ireturn, 1) := by decide +kernel
theorem dX5_law_0 : decode cX5_law 0 = .ok (.aload_n 0, 1) := by decide +kernel
theorem dX5_law_1 : decode cX5_law 1 = .ok (.invokevirtual 212, 3) := by decide +kernel
theorem dX5_law_4 : decode cX5_law 4 = .ok (.aload_n 0, 1) := by decide +kernel
theorem dX5_law_5 : decode cX5_law 5 = .ok (.aload_n 0, 1) := by decide +kernel
theorem dX5_law_6 : decode cX5_law 6 = .ok (.getfield 225, 3) := by decide +kernel
theorem dX5_law_9 : decode cX5_law 9 = .ok (.ifCond .eq 17, 3) := by decide +kernel
theorem dX5_law_12 : decode cX5_law 12 = .ok (.iload_n 1, 1) := by decide +kernel
theorem dX5_law_13 : decode cX5_law 13 = .ok (.i2l, 1) := by decide +kernel
theorem dX5_law_14 : decode cX5_law 14 = .ok (.ldc2_w 349, 3) := by decide +kernel
theorem dX5_law_17 : decode cX5_law 17 = .ok (.ldc2_w 403, 3) := by decide +kernel
theorem dX5_law_20 : decode cX5_law 20 = .ok (.invokestatic 161, 3) := by decide +kernel
theorem dX5_law_23 : decode cX5_law 23 = .ok (.ifCond .ne 7, 3) := by decide +kernel
theorem dX5_law_26 : decode cX5_law 26 = .ok (.iconst 1, 1) := by decide +kernel
theorem dX5_law_27 : decode cX5_law 27 = .ok (.goto 4, 3) := by decide +kernel
theorem dX5_law_30 : decode cX5_law 30 = .ok (.iconst 0, 1) := by decide +kernel
theorem dX5_law_31 : decode cX5_law 31 = .ok (.iconst 1, 1) := by decide +kernel
theorem dX5_law_32 : decode cX5_law 32 = .ok (.invokevirtual 215, 3) := by decide +kernel
theorem dX5_law_35 : decode cX5_law 35 = .ok (.ifCond .ne 34, 3) := by decide +kernel
theorem dX5_law_38 : decode cX5_law 38 = .ok (.aload_n 0, 1) := by decide +kernel
theorem dX5_law_39 : decode cX5_law 39 = .ok (.iload_n 2, 1) := by decide +kernel
theorem dX5_law_40 : decode cX5_law 40 = .ok (.i2l, 1) := by decide +kernel
theorem dX5_law_41 : decode cX5_law 41 = .ok (.iload_n 1, 1) := by decide +kernel
theorem dX5_law_42 : decode cX5_law 42 = .ok (.invokestatic 185, 3) := by decide +kernel
theorem dX5_law_45 : decode cX5_law 45 = .ok (.i2l, 1) := by decide +kernel
theorem dX5_law_46 : decode cX5_law 46 = .ok (.iload_n 1, 1) := by decide +kernel
theorem dX5_law_47 : decode cX5_law 47 = .ok (.invokestatic 188, 3) := by decide +kernel
theorem dX5_law_50 : decode cX5_law 50 = .ok (.i2l, 1) := by decide +kernel
theorem dX5_law_51 : decode cX5_law 51 = .ok (.invokestatic 161, 3) := by decide +kernel
theorem dX5_law_54 : decode cX5_law 54 = .ok (.ifCond .ne 7, 3) := by decide +kernel
theorem dX5_law_57 : decode cX5_law 57 = .ok (.iconst 1, 1) := by decide +kernel
theorem dX5_law_58 : decode cX5_law 58 = .ok (.goto 4, 3) := by decide +kernel
theorem dX5_law_61 : decode cX5_law 61 = .ok (.iconst 0, 1) := by decide +kernel
theorem dX5_law_62 : decode cX5_law 62 = .ok (.iconst 2, 1) := by decide +kernel
theorem dX5_law_63 : decode cX5_law 63 = .ok (.invokevirtual 215, 3) := by decide +kernel
theorem dX5_law_66 : decode cX5_law 66 = .ok (.ifCond .eq 5, 3) := by decide +kernel
theorem dX5_law_69 : decode cX5_law 69 = .ok (.iconst (-1), 1) := by decide +kernel
theorem dX5_law_70 : decode cX5_law 70 = .ok (.ireturn, 1) := by decide +kernel
theorem dX5_law_71 : decode cX5_law 71 = .ok (.iload_n 1, 1) := by decide +kernel
theorem dX5_law_72 : decode cX5_law 72 = .ok (.bipush 8, 2) := by decide +kernel
theorem dX5_law_74 : decode cX5_law 74 = .ok (.if_icmp .ne 7, 3) := by decide +kernel
theorem dX5_law_77 : decode cX5_law 77 = .ok (.iload_n 2, 1) := by decide +kernel
theorem dX5_law_78 : decode cX5_law 78 = .ok (.goto 10, 3) := by decide +kernel
theorem dX5_law_81 : decode cX5_law 81 = .ok (.aload_n 0, 1) := by decide +kernel
theorem dX5_law_82 : decode cX5_law 82 = .ok (.getfield 13, 3) := by decide +kernel
theorem dX5_law_85 : decode cX5_law 85 = .ok (.bipush 8, 2) := by decide +kernel
theorem dX5_law_87 : decode cX5_law 87 = .ok (.iaload, 1) := by decide +kernel
theorem dX5_law_88 : decode cX5_law 88 = .ok (.istore_n 3, 1) := by decide +kernel
theorem dX5_law_89 : decode cX5_law 89 = .ok (.iload_n 1, 1) := by decide +kernel
theorem dX5_law_90 : decode cX5_law 90 = .ok (.bipush 9, 2) := by decide +kernel
theorem dX5_law_92 : decode cX5_law 92 = .ok (.if_icmp .ne 7, 3) := by decide +kernel
theorem dX5_law_95 : decode cX5_law 95 = .ok (.iload_n 2, 1) := by decide +kernel
theorem dX5_law_96 : decode cX5_law 96 = .ok (.goto 10, 3) := by decide +kernel
theorem dX5_law_99 : decode cX5_law 99 = .ok (.aload_n 0, 1) := by decide +kernel
theorem dX5_law_100 : decode cX5_law 100 = .ok (.getfield 13, 3) := by decide +kernel
theorem dX5_law_103 : decode cX5_law 103 = .ok (.bipush 9, 2) := by decide +kernel
theorem dX5_law_105 : decode cX5_law 105 = .ok (.iaload, 1) := by decide +kernel
theorem dX5_law_106 : decode cX5_law 106 = .ok (.istore 4, 2) := by decide +kernel
theorem dX5_law_108 : decode cX5_law 108 = .ok (.aload_n 0, 1) := by decide +kernel
theorem dX5_law_109 : decode cX5_law 109 = .ok (.iload 4, 2) := by decide +kernel
theorem dX5_law_111 : decode cX5_law 111 = .ok (.iload_n 3, 1) := by decide +kernel
theorem dX5_law_112 : decode cX5_law 112 = .ok (.if_icmp .ge 7, 3) := by decide +kernel
theorem dX5_law_115 : decode cX5_law 115 = .ok (.iconst 1, 1) := by decide +kernel
theorem dX5_law_116 : decode cX5_law 116 = .ok (.goto 4, 3) := by decide +kernel
theorem dX5_law_119 : decode cX5_law 119 = .ok (.iconst 0, 1) := by decide +kernel
theorem dX5_law_120 : decode cX5_law 120 = .ok (.iconst 5, 1) := by decide +kernel
theorem dX5_law_121 : decode cX5_law 121 = .ok (.invokevirtual 215, 3) := by decide +kernel
theorem dX5_law_124 : decode cX5_law 124 = .ok (.ifCond .eq 5, 3) := by decide +kernel
theorem dX5_law_127 : decode cX5_law 127 = .ok (.iconst (-1), 1) := by decide +kernel
theorem dX5_law_128 : decode cX5_law 128 = .ok (.ireturn, 1) := by decide +kernel
theorem dX5_law_129 : decode cX5_law 129 = .ok (.aload_n 0, 1) := by decide +kernel
theorem dX5_law_130 : decode cX5_law 130 = .ok (.invokevirtual 392, 3) := by decide +kernel
theorem dX5_law_133 : decode cX5_law 133 = .ok (.aload_n 0, 1) := by decide +kernel
theorem dX5_law_134 : decode cX5_law 134 = .ok (.getfield 13, 3) := by decide +kernel
theorem dX5_law_137 : decode cX5_law 137 = .ok (.iload_n 1, 1) := by decide +kernel
theorem dX5_law_138 : decode cX5_law 138 = .ok (.iaload, 1) := by decide +kernel
theorem dX5_law_139 : decode cX5_law 139 = .ok (.istore 5, 2) := by decide +kernel
theorem dX5_law_141 : decode cX5_law 141 = .ok (.aload_n 0, 1) := by decide +kernel
theorem dX5_law_142 : decode cX5_law 142 = .ok (.getfield 13, 3) := by decide +kernel
theorem dX5_law_145 : decode cX5_law 145 = .ok (.iload_n 1, 1) := by decide +kernel
theorem dX5_law_146 : decode cX5_law 146 = .ok (.iload_n 2, 1) := by decide +kernel
theorem dX5_law_147 : decode cX5_law 147 = .ok (.iastore, 1) := by decide +kernel
theorem dX5_law_148 : decode cX5_law 148 = .ok (.iload 5, 2) := by decide +kernel
theorem dX5_law_150 : decode cX5_law 150 = .ok (.ireturn, 1) := by decide +kernel
theorem dX5_undo_0 : decode cX5_undo 0 = .ok (.aload_n 0, 1) := by decide +kernel
theorem dX5_undo_1 : decode cX5_undo 1 = .ok (.invokevirtual 212, 3) := by decide +kernel
theorem dX5_undo_4 : decode cX5_undo 4 = .ok (.aload_n 0, 1) := by decide +kernel
theorem dX5_undo_5 : decode cX5_undo 5 = .ok (.aload_n 0, 1) := by decide +kernel
theorem dX5_undo_6 : decode cX5_undo 6 = .ok (.getfield 225, 3) := by decide +kernel
theorem dX5_undo_9 : decode cX5_undo 9 = .ok (.ifCond .ne 7, 3) := by decide +kernel
theorem dX5_undo_12 : decode cX5_undo 12 = .ok (.iconst 1, 1) := by decide +kernel
theorem dX5_undo_13 : decode cX5_undo 13 = .ok (.goto 4, 3) := by decide +kernel
theorem dX5_undo_16 : decode cX5_undo 16 = .ok (.iconst 0, 1) := by decide +kernel
theorem dX5_undo_17 : decode cX5_undo 17 = .ok (.iconst 1, 1) := by decide +kernel
theorem dX5_undo_18 : decode cX5_undo 18 = .ok (.invokevirtual 215, 3) := by decide +kernel
theorem dX5_undo_21 : decode cX5_undo 21 = .ok (.ifCond .ne 23, 3) := by decide +kernel
theorem dX5_undo_24 : decode cX5_undo 24 = .ok (.aload_n 0, 1) := by decide +kernel
theorem dX5_undo_25 : decode cX5_undo 25 = .ok (.aload_n 0, 1) := by decide +kernel
theorem dX5_undo_26 : decode cX5_undo 26 = .ok (.getfield 229, 3) := by decide +kernel
theorem dX5_undo_29 : decode cX5_undo 29 = .ok (.ifCond .ne 7, 3) := by decide +kernel
theorem dX5_undo_32 : decode cX5_undo 32 = .ok (.iconst 1, 1) := by decide +kernel
theorem dX5_undo_33 : decode cX5_undo 33 = .ok (.goto 4, 3) := by decide +kernel
theorem dX5_undo_36 : decode cX5_undo 36 = .ok (.iconst 0, 1) := by decide +kernel
theorem dX5_undo_37 : decode cX5_undo 37 = .ok (.iconst 5, 1) := by decide +kernel
theorem dX5_undo_38 : decode cX5_undo 38 = .ok (.invokevirtual 215, 3) := by decide +kernel
theorem dX5_undo_41 : decode cX5_undo 41 = .ok (.ifCond .eq 5, 3) := by decide +kernel
theorem dX5_undo_44 : decode cX5_undo 44 = .ok (.iconst (-1), 1) := by decide +kernel
theorem dX5_undo_45 : decode cX5_undo 45 = .ok (.ireturn, 1) := by decide +kernel
theorem dX5_undo_46 : decode cX5_undo 46 = .ok (.aload_n 0, 1) := by decide +kernel
theorem dX5_undo_47 : decode cX5_undo 47 = .ok (.dup, 1) := by decide +kernel
theorem dX5_undo_48 : decode cX5_undo 48 = .ok (.getfield 229, 3) := by decide +kernel
theorem dX5_undo_51 : decode cX5_undo 51 = .ok (.iconst 1, 1) := by decide +kernel
theorem dX5_undo_52 : decode cX5_undo 52 = .ok (.isub, 1) := by decide +kernel
theorem dX5_undo_53 : decode cX5_undo 53 = .ok (.putfield 229, 3) := by decide +kernel
theorem dX5_undo_56 : decode cX5_undo 56 = .ok (.iconst 0, 1) := by decide +kernel
theorem dX5_undo_57 : decode cX5_undo 57 = .ok (.istore_n 1, 1) := by decide +kernel
theorem dX5_undo_58 : decode cX5_undo 58 = .ok (.iload_n 1, 1) := by decide +kernel
theorem dX5_undo_59 : decode cX5_undo 59 = .ok (.bipush 82, 2) := by decide +kernel
theorem dX5_undo_61 : decode cX5_undo 61 = .ok (.if_icmp .ge 29, 3) := by decide +kernel
theorem dX5_undo_64 : decode cX5_undo 64 = .ok (.aload_n 0, 1) := by decide +kernel
theorem dX5_undo_65 : decode cX5_undo 65 = .ok (.getfield 13, 3) := by decide +kernel
theorem dX5_undo_68 : decode cX5_undo 68 = .ok (.iload_n 1, 1) := by decide +kernel
theorem dX5_undo_69 : decode cX5_undo 69 = .ok (.aload_n 0, 1) := by decide +kernel
theorem dX5_undo_70 : decode cX5_undo 70 = .ok (.getfield 23, 3) := by decide +kernel
theorem dX5_undo_73 : decode cX5_undo 73 = .ok (.bipush 82, 2) := by decide +kernel
theorem dX5_undo_75 : decode cX5_undo 75 = .ok (.aload_n 0, 1) := by decide +kernel
theorem dX5_undo_76 : decode cX5_undo 76 = .ok (.getfield 229, 3) := by decide +kernel
theorem dX5_undo_79 : decode cX5_undo 79 = .ok (.imul, 1) := by decide +kernel
theorem dX5_undo_80 : decode cX5_undo 80 = .ok (.iload_n 1, 1) := by decide +kernel
theorem dX5_undo_81 : decode cX5_undo 81 = .ok (.iadd, 1) := by decide +kernel
theorem dX5_undo_82 : decode cX5_undo 82 = .ok (.iaload, 1) := by decide +kernel
theorem dX5_undo_83 : decode cX5_undo 83 = .ok (.iastore, 1) := by decide +kernel
theorem dX5_undo_84 : decode cX5_undo 84 = .ok (.iinc 1 1, 3) := by decide +kernel
theorem dX5_undo_87 : decode cX5_undo 87 = .ok (.goto (-29), 3) := by decide +kernel
theorem dX5_undo_90 : decode cX5_undo 90 = .ok (.aload_n 0, 1) := by decide +kernel
theorem dX5_undo_91 : decode cX5_undo 91 = .ok (.getfield 229, 3) := by decide +kernel
theorem dX5_undo_94 : decode cX5_undo 94 = .ok (.ireturn, 1) := by decide +kernel
theorem dX5_image_0 : decode cX5_image 0 = .ok (.aload_n 0, 1) := by decide +kernel
theorem dX5_image_1 : decode cX5_image 1 = .ok (.invokevirtual 212, 3) := by decide +kernel
theorem dX5_image_4 : decode cX5_image 4 = .ok (.aload_n 0, 1) := by decide +kernel
theorem dX5_image_5 : decode cX5_image 5 = .ok (.aload_n 0, 1) := by decide +kernel
theorem dX5_image_6 : decode cX5_image 6 = .ok (.getfield 225, 3) := by decide +kernel
theorem dX5_image_9 : decode cX5_image 9 = .ok (.ifCond .eq 13, 3) := by decide +kernel
theorem dX5_image_12 : decode cX5_image 12 = .ok (.iload_n 1, 1) := by decide +kernel
theorem dX5_image_13 : decode cX5_image 13 = .ok (.i2l, 1) := by decide +kernel
theorem dX5_image_14 : decode cX5_image 14 = .ok (.lconst 0, 1) := by decide +kernel
theorem dX5_image_15 : decode cX5_image 15 = .ok (.lconst 1, 1) := by decide +kernel
theorem dX5_image_16 : decode cX5_image 16 = .ok (.invokestatic 161, 3) := by decide +kernel
theorem dX5_image_19 : decode cX5_image 19 = .ok (.ifCond .ne 7, 3) := by decide +kernel
theorem dX5_image_22 : decode cX5_image 22 = .ok (.iconst 1, 1) := by decide +kernel
theorem dX5_image_23 : decode cX5_image 23 = .ok (.goto 4, 3) := by decide +kernel
theorem dX5_image_26 : decode cX5_image 26 = .ok (.iconst 0, 1) := by decide +kernel
theorem dX5_image_27 : decode cX5_image 27 = .ok (.iconst 1, 1) := by decide +kernel
theorem dX5_image_28 : decode cX5_image 28 = .ok (.invokevirtual 215, 3) := by decide +kernel
theorem dX5_image_31 : decode cX5_image 31 = .ok (.ifCond .eq 5, 3) := by decide +kernel
theorem dX5_image_34 : decode cX5_image 34 = .ok (.iconst 0, 1) := by decide +kernel
theorem dX5_image_35 : decode cX5_image 35 = .ok (.ireturn, 1) := by decide +kernel
theorem dX5_image_36 : decode cX5_image 36 = .ok (.iconst 0, 1) := by decide +kernel
theorem dX5_image_37 : decode cX5_image 37 = .ok (.istore_n 2, 1) := by decide +kernel
theorem dX5_image_38 : decode cX5_image 38 = .ok (.iload_n 2, 1) := by decide +kernel
theorem dX5_image_39 : decode cX5_image 39 = .ok (.bipush 82, 2) := by decide +kernel
theorem dX5_image_41 : decode cX5_image 41 = .ok (.if_icmp .ge 26, 3) := by decide +kernel
theorem dX5_image_44 : decode cX5_image 44 = .ok (.aload_n 0, 1) := by decide +kernel
theorem dX5_image_45 : decode cX5_image 45 = .ok (.getfield 26, 3) := by decide +kernel
theorem dX5_image_48 : decode cX5_image 48 = .ok (.bipush 82, 2) := by decide +kernel
theorem dX5_image_50 : decode cX5_image 50 = .ok (.iload_n 1, 1) := by decide +kernel
theorem dX5_image_51 : decode cX5_image 51 = .ok (.imul, 1) := by decide +kernel
theorem dX5_image_52 : decode cX5_image 52 = .ok (.iload_n 2, 1) := by decide +kernel
theorem dX5_image_53 : decode cX5_image 53 = .ok (.iadd, 1) := by decide +kernel
theorem dX5_image_54 : decode cX5_image 54 = .ok (.aload_n 0, 1) := by decide +kernel
theorem dX5_image_55 : decode cX5_image 55 = .ok (.getfield 13, 3) := by decide +kernel
theorem dX5_image_58 : decode cX5_image 58 = .ok (.iload_n 2, 1) := by decide +kernel
theorem dX5_image_59 : decode cX5_image 59 = .ok (.iaload, 1) := by decide +kernel
theorem dX5_image_60 : decode cX5_image 60 = .ok (.iastore, 1) := by decide +kernel
theorem dX5_image_61 : decode cX5_image 61 = .ok (.iinc 2 1, 3) := by decide +kernel
theorem dX5_image_64 : decode cX5_image 64 = .ok (.goto (-26), 3) := by decide +kernel
theorem dX5_image_67 : decode cX5_image 67 = .ok (.aload_n 0, 1) := by decide +kernel
theorem dX5_image_68 : decode cX5_image 68 = .ok (.getfield 29, 3) := by decide +kernel
theorem dX5_image_71 : decode cX5_image 71 = .ok (.iload_n 1, 1) := by decide +kernel
theorem dX5_image_72 : decode cX5_image 72 = .ok (.iconst 1, 1) := by decide +kernel
theorem dX5_image_73 : decode cX5_image 73 = .ok (.bastore, 1) := by decide +kernel
theorem dX5_image_74 : decode cX5_image 74 = .ok (.iconst 1, 1) := by decide +kernel
theorem dX5_image_75 : decode cX5_image 75 = .ok (.ireturn, 1) := by decide +kernel
theorem dX5_again_0 : decode cX5_again 0 = .ok (.aload_n 0, 1) := by decide +kernel
theorem dX5_again_1 : decode cX5_again 1 = .ok (.invokevirtual 212, 3) := by decide +kernel
theorem dX5_again_4 : decode cX5_again 4 = .ok (.aload_n 0, 1) := by decide +kernel
theorem dX5_again_5 : decode cX5_again 5 = .ok (.aload_n 0, 1) := by decide +kernel
theorem dX5_again_6 : decode cX5_again 6 = .ok (.getfield 225, 3) := by decide +kernel
theorem dX5_again_9 : decode cX5_again 9 = .ok (.ifCond .eq 22, 3) := by decide +kernel
theorem dX5_again_12 : decode cX5_again 12 = .ok (.iload_n 1, 1) := by decide +kernel
theorem dX5_again_13 : decode cX5_again 13 = .ok (.i2l, 1) := by decide +kernel
theorem dX5_again_14 : decode cX5_again 14 = .ok (.lconst 0, 1) := by decide +kernel
theorem dX5_again_15 : decode cX5_again 15 = .ok (.lconst 1, 1) := by decide +kernel
theorem dX5_again_16 : decode cX5_again 16 = .ok (.invokestatic 161, 3) := by decide +kernel
theorem dX5_again_19 : decode cX5_again 19 = .ok (.ifCond .eq 12, 3) := by decide +kernel
theorem dX5_again_22 : decode cX5_again 22 = .ok (.aload_n 0, 1) := by decide +kernel
theorem dX5_again_23 : decode cX5_again 23 = .ok (.getfield 29, 3) := by decide +kernel
theorem dX5_again_26 : decode cX5_again 26 = .ok (.iload_n 1, 1) := by decide +kernel
theorem dX5_again_27 : decode cX5_again 27 = .ok (.baload, 1) := by decide +kernel
theorem dX5_again_28 : decode cX5_again 28 = .ok (.ifCond .ne 7, 3) := by decide +kernel
theorem dX5_again_31 : decode cX5_again 31 = .ok (.iconst 1, 1) := by decide +kernel
theorem dX5_again_32 : decode cX5_again 32 = .ok (.goto 4, 3) := by decide +kernel
theorem dX5_again_35 : decode cX5_again 35 = .ok (.iconst 0, 1) := by decide +kernel
theorem dX5_again_36 : decode cX5_again 36 = .ok (.iconst 1, 1) := by decide +kernel
theorem dX5_again_37 : decode cX5_again 37 = .ok (.invokevirtual 215, 3) := by decide +kernel
theorem dX5_again_40 : decode cX5_again 40 = .ok (.ifCond .eq 5, 3) := by decide +kernel
theorem dX5_again_43 : decode cX5_again 43 = .ok (.iconst 0, 1) := by decide +kernel
theorem dX5_again_44 : decode cX5_again 44 = .ok (.ireturn, 1) := by decide +kernel
theorem dX5_again_45 : decode cX5_again 45 = .ok (.iconst 0, 1) := by decide +kernel
theorem dX5_again_46 : decode cX5_again 46 = .ok (.istore_n 2, 1) := by decide +kernel
theorem dX5_again_47 : decode cX5_again 47 = .ok (.iload_n 2, 1) := by decide +kernel
theorem dX5_again_48 : decode cX5_again 48 = .ok (.bipush 82, 2) := by decide +kernel
theorem dX5_again_50 : decode cX5_again 50 = .ok (.if_icmp .ge 26, 3) := by decide +kernel
theorem dX5_again_53 : decode cX5_again 53 = .ok (.aload_n 0, 1) := by decide +kernel
theorem dX5_again_54 : decode cX5_again 54 = .ok (.getfield 13, 3) := by decide +kernel
theorem dX5_again_57 : decode cX5_again 57 = .ok (.iload_n 2, 1) := by decide +kernel
theorem dX5_again_58 : decode cX5_again 58 = .ok (.aload_n 0, 1) := by decide +kernel
theorem dX5_again_59 : decode cX5_again 59 = .ok (.getfield 26, 3) := by decide +kernel
theorem dX5_again_62 : decode cX5_again 62 = .ok (.bipush 82, 2) := by decide +kernel
theorem dX5_again_64 : decode cX5_again 64 = .ok (.iload_n 1, 1) := by decide +kernel
theorem dX5_again_65 : decode cX5_again 65 = .ok (.imul, 1) := by decide +kernel
theorem dX5_again_66 : decode cX5_again 66 = .ok (.iload_n 2, 1) := by decide +kernel
theorem dX5_again_67 : decode cX5_again 67 = .ok (.iadd, 1) := by decide +kernel
theorem dX5_again_68 : decode cX5_again 68 = .ok (.iaload, 1) := by decide +kernel
theorem dX5_again_69 : decode cX5_again 69 = .ok (.iastore, 1) := by decide +kernel
theorem dX5_again_70 : decode cX5_again 70 = .ok (.iinc 2 1, 3) := by decide +kernel
theorem dX5_again_73 : decode cX5_again 73 = .ok (.goto (-26), 3) := by decide +kernel
theorem dX5_again_76 : decode cX5_again 76 = .ok (.aload_n 0, 1) := by decide +kernel
theorem dX5_again_77 : decode cX5_again 77 = .ok (.iconst 0, 1) := by decide +kernel
theorem dX5_again_78 : decode cX5_again 78 = .ok (.putfield 229, 3) := by decide +kernel
theorem dX5_again_81 : decode cX5_again 81 = .ok (.iconst 1, 1) := by decide +kernel
theorem dX5_again_82 : decode cX5_again 82 = .ok (.ireturn, 1) := by decide +kernel
end
section
theorem dL_letter_0 : decode cL_letter 0 = .ok (.aload_n 3, 1) := by decide +kernel
theorem dL_letter_1 : decode cL_letter 1 = .ok (.iconst 0, 1) := by decide +kernel
theorem dL_letter_2 : decode cL_letter 2 = .ok (.aload_n 0, 1) := by decide +kernel
theorem dL_letter_3 : decode cL_letter 3 = .ok (.iload_n 1, 1) := by decide +kernel
theorem dL_letter_4 : decode cL_letter 4 = .ok (.iload_n 2, 1) := by decide +kernel
theorem dL_letter_5 : decode cL_letter 5 = .ok (.invokevirtual 7, 3) := by decide +kernel
theorem dL_letter_8 : decode cL_letter 8 = .ok (.i2l, 1) := by decide +kernel
theorem dL_letter_9 : decode cL_letter 9 = .ok (.lastore, 1) := by decide +kernel
theorem dL_letter_10 : decode cL_letter 10 = .ok (.goto 7, 3) := by decide +kernel
theorem dL_letter_13 : decode cL_letter 13 = .ok (.astore 4, 2) := by decide +kernel
theorem dL_letter_15 : decode cL_letter 15 = .ok (.iconst 1, 1) := by decide +kernel
theorem dL_letter_16 : decode cL_letter 16 = .ok (.ireturn, 1) := by decide +kernel
theorem dL_letter_17 : decode cL_letter 17 = .ok (.iconst 0, 1) := by decide +kernel
theorem dL_letter_18 : decode cL_letter 18 = .ok (.ireturn, 1) := by decide +kernel
theorem dL_law_0 : decode cL_law 0 = .ok (.new 8, 3) := by decide +kernel
theorem dL_law_3 : decode cL_law 3 = .ok (.dup, 1) := by decide +kernel
theorem dL_law_4 : decode cL_law 4 = .ok (.invokespecial 15, 3) := by decide +kernel
theorem dL_law_7 : decode cL_law 7 = .ok (.astore_n 1, 1) := by decide +kernel
theorem dL_law_8 : decode cL_law 8 = .ok (.new 16, 3) := by decide +kernel
theorem dL_law_11 : decode cL_law 11 = .ok (.dup, 1) := by decide +kernel
theorem dL_law_12 : decode cL_law 12 = .ok (.invokespecial 18, 3) := by decide +kernel
theorem dL_law_15 : decode cL_law 15 = .ok (.astore_n 2, 1) := by decide +kernel
theorem dL_law_16 : decode cL_law 16 = .ok (.iconst 1, 1) := by decide +kernel
theorem dL_law_17 : decode cL_law 17 = .ok (.newarray .long, 2) := by decide +kernel
theorem dL_law_19 : decode cL_law 19 = .ok (.astore_n 3, 1) := by decide +kernel
theorem dL_law_20 : decode cL_law 20 = .ok (.iconst 0, 1) := by decide +kernel
theorem dL_law_21 : decode cL_law 21 = .ok (.istore 4, 2) := by decide +kernel
theorem dL_law_23 : decode cL_law 23 = .ok (.iload 4, 2) := by decide +kernel
theorem dL_law_25 : decode cL_law 25 = .ok (.aload_n 0, 1) := by decide +kernel
theorem dL_law_26 : decode cL_law 26 = .ok (.arraylength, 1) := by decide +kernel
theorem dL_law_27 : decode cL_law 27 = .ok (.bipush 6, 2) := by decide +kernel
theorem dL_law_29 : decode cL_law 29 = .ok (.isub, 1) := by decide +kernel
theorem dL_law_30 : decode cL_law 30 = .ok (.if_icmp .gt 1489, 3) := by decide +kernel
theorem dL_law_33 : decode cL_law 33 = .ok (.aload_n 0, 1) := by decide +kernel
theorem dL_law_34 : decode cL_law 34 = .ok (.iload 4, 2) := by decide +kernel
theorem dL_law_36 : decode cL_law 36 = .ok (.iaload, 1) := by decide +kernel
theorem dL_law_37 : decode cL_law 37 = .ok (.bipush 63, 2) := by decide +kernel
theorem dL_law_39 : decode cL_law 39 = .ok (.iand, 1) := by decide +kernel
theorem dL_law_40 : decode cL_law 40 = .ok (.tableswitch 1473 0 37 #[168, 241, 266, 279, 292, 317, 354, 391, 428, 465, 515, 541, 578, 615, 653, 691, 716, 754, 792, 818, 856, 881, 907, 920, 970, 1019, 1081, 1095, 1144, 1205, 1230, 1279, 1316, 1329, 1354, 1379, 1447, 1460], 168) := by decide +kernel
theorem dL_law_208 : decode cL_law 208 = .ok (.aload_n 1, 1) := by decide +kernel
theorem dL_law_209 : decode cL_law 209 = .ok (.aload_n 0, 1) := by decide +kernel
theorem dL_law_210 : decode cL_law 210 = .ok (.iload 4, 2) := by decide +kernel
theorem dL_law_212 : decode cL_law 212 = .ok (.iconst 1, 1) := by decide +kernel
theorem dL_law_213 : decode cL_law 213 = .ok (.iadd, 1) := by decide +kernel
theorem dL_law_214 : decode cL_law 214 = .ok (.iaload, 1) := by decide +kernel
theorem dL_law_215 : decode cL_law 215 = .ok (.aload_n 0, 1) := by decide +kernel
theorem dL_law_216 : decode cL_law 216 = .ok (.iload 4, 2) := by decide +kernel
theorem dL_law_218 : decode cL_law 218 = .ok (.iconst 2, 1) := by decide +kernel
theorem dL_law_219 : decode cL_law 219 = .ok (.iadd, 1) := by decide +kernel
theorem dL_law_220 : decode cL_law 220 = .ok (.iaload, 1) := by decide +kernel
theorem dL_law_221 : decode cL_law 221 = .ok (.aload_n 0, 1) := by decide +kernel
theorem dL_law_222 : decode cL_law 222 = .ok (.iload 4, 2) := by decide +kernel
theorem dL_law_224 : decode cL_law 224 = .ok (.iconst 3, 1) := by decide +kernel
theorem dL_law_225 : decode cL_law 225 = .ok (.iadd, 1) := by decide +kernel
theorem dL_law_226 : decode cL_law 226 = .ok (.iaload, 1) := by decide +kernel
theorem dL_law_227 : decode cL_law 227 = .ok (.aload_n 0, 1) := by decide +kernel
theorem dL_law_228 : decode cL_law 228 = .ok (.iload 4, 2) := by decide +kernel
theorem dL_law_230 : decode cL_law 230 = .ok (.iconst 4, 1) := by decide +kernel
theorem dL_law_231 : decode cL_law 231 = .ok (.iadd, 1) := by decide +kernel
theorem dL_law_232 : decode cL_law 232 = .ok (.iaload, 1) := by decide +kernel
theorem dL_law_233 : decode cL_law 233 = .ok (.aload_n 0, 1) := by decide +kernel
theorem dL_law_234 : decode cL_law 234 = .ok (.iload 4, 2) := by decide +kernel
theorem dL_law_236 : decode cL_law 236 = .ok (.iconst 5, 1) := by decide +kernel
theorem dL_law_237 : decode cL_law 237 = .ok (.iadd, 1) := by decide +kernel
theorem dL_law_238 : decode cL_law 238 = .ok (.iaload, 1) := by decide +kernel
theorem dL_law_239 : decode cL_law 239 = .ok (.invokevirtual 19, 3) := by decide +kernel
theorem dL_law_242 : decode cL_law 242 = .ok (.aload_n 2, 1) := by decide +kernel
theorem dL_law_243 : decode cL_law 243 = .ok (.aload_n 0, 1) := by decide +kernel
theorem dL_law_244 : decode cL_law 244 = .ok (.iload 4, 2) := by decide +kernel
theorem dL_law_246 : decode cL_law 246 = .ok (.iconst 1, 1) := by decide +kernel
theorem dL_law_247 : decode cL_law 247 = .ok (.iadd, 1) := by decide +kernel
theorem dL_law_248 : decode cL_law 248 = .ok (.iaload, 1) := by decide +kernel
theorem dL_law_249 : decode cL_law 249 = .ok (.aload_n 0, 1) := by decide +kernel
theorem dL_law_250 : decode cL_law 250 = .ok (.iload 4, 2) := by decide +kernel
theorem dL_law_252 : decode cL_law 252 = .ok (.iconst 2, 1) := by decide +kernel
theorem dL_law_253 : decode cL_law 253 = .ok (.iadd, 1) := by decide +kernel
theorem dL_law_254 : decode cL_law 254 = .ok (.iaload, 1) := by decide +kernel
theorem dL_law_255 : decode cL_law 255 = .ok (.aload_n 0, 1) := by decide +kernel
theorem dL_law_256 : decode cL_law 256 = .ok (.iload 4, 2) := by decide +kernel
theorem dL_law_258 : decode cL_law 258 = .ok (.iconst 3, 1) := by decide +kernel
theorem dL_law_259 : decode cL_law 259 = .ok (.iadd, 1) := by decide +kernel
theorem dL_law_260 : decode cL_law 260 = .ok (.iaload, 1) := by decide +kernel
theorem dL_law_261 : decode cL_law 261 = .ok (.aload_n 0, 1) := by decide +kernel
theorem dL_law_262 : decode cL_law 262 = .ok (.iload 4, 2) := by decide +kernel
theorem dL_law_264 : decode cL_law 264 = .ok (.iconst 4, 1) := by decide +kernel
theorem dL_law_265 : decode cL_law 265 = .ok (.iadd, 1) := by decide +kernel
theorem dL_law_266 : decode cL_law 266 = .ok (.iaload, 1) := by decide +kernel
theorem dL_law_267 : decode cL_law 267 = .ok (.aload_n 0, 1) := by decide +kernel
theorem dL_law_268 : decode cL_law 268 = .ok (.iload 4, 2) := by decide +kernel
theorem dL_law_270 : decode cL_law 270 = .ok (.iconst 5, 1) := by decide +kernel
theorem dL_law_271 : decode cL_law 271 = .ok (.iadd, 1) := by decide +kernel
theorem dL_law_272 : decode cL_law 272 = .ok (.iaload, 1) := by decide +kernel
theorem dL_law_273 : decode cL_law 273 = .ok (.invokevirtual 23, 3) := by decide +kernel
theorem dL_law_276 : decode cL_law 276 = .ok (.if_icmp .eq 1237, 3) := by decide +kernel
theorem dL_law_279 : decode cL_law 279 = .ok (.iconst 0, 1) := by decide +kernel
theorem dL_law_280 : decode cL_law 280 = .ok (.ireturn, 1) := by decide +kernel
theorem dL_law_281 : decode cL_law 281 = .ok (.aload_n 1, 1) := by decide +kernel
theorem dL_law_282 : decode cL_law 282 = .ok (.aload_n 0, 1) := by decide +kernel
theorem dL_law_283 : decode cL_law 283 = .ok (.iload 4, 2) := by decide +kernel
theorem dL_law_285 : decode cL_law 285 = .ok (.iconst 1, 1) := by decide +kernel
theorem dL_law_286 : decode cL_law 286 = .ok (.iadd, 1) := by decide +kernel
theorem dL_law_287 : decode cL_law 287 = .ok (.iaload, 1) := by decide +kernel
theorem dL_law_288 : decode cL_law 288 = .ok (.invokevirtual 24, 3) := by decide +kernel
theorem dL_law_291 : decode cL_law 291 = .ok (.aload_n 2, 1) := by decide +kernel
theorem dL_law_292 : decode cL_law 292 = .ok (.aload_n 0, 1) := by decide +kernel
theorem dL_law_293 : decode cL_law 293 = .ok (.iload 4, 2) := by decide +kernel
theorem dL_law_295 : decode cL_law 295 = .ok (.iconst 1, 1) := by decide +kernel
theorem dL_law_296 : decode cL_law 296 = .ok (.iadd, 1) := by decide +kernel
theorem dL_law_297 : decode cL_law 297 = .ok (.iaload, 1) := by decide +kernel
theorem dL_law_298 : decode cL_law 298 = .ok (.invokevirtual 28, 3) := by decide +kernel
theorem dL_law_301 : decode cL_law 301 = .ok (.if_icmp .eq 1212, 3) := by decide +kernel
theorem dL_law_304 : decode cL_law 304 = .ok (.iconst 0, 1) := by decide +kernel
theorem dL_law_305 : decode cL_law 305 = .ok (.ireturn, 1) := by decide +kernel
theorem dL_law_306 : decode cL_law 306 = .ok (.aload_n 1, 1) := by decide +kernel
theorem dL_law_307 : decode cL_law 307 = .ok (.invokevirtual 29, 3) := by decide +kernel
theorem dL_law_310 : decode cL_law 310 = .ok (.aload_n 2, 1) := by decide +kernel
theorem dL_law_311 : decode cL_law 311 = .ok (.invokevirtual 33, 3) := by decide +kernel
theorem dL_law_314 : decode cL_law 314 = .ok (.if_icmp .eq 1199, 3) := by decide +kernel
theorem dL_law_317 : decode cL_law 317 = .ok (.iconst 0, 1) := by decide +kernel
theorem dL_law_318 : decode cL_law 318 = .ok (.ireturn, 1) := by decide +kernel
theorem dL_law_319 : decode cL_law 319 = .ok (.aload_n 1, 1) := by decide +kernel
theorem dL_law_320 : decode cL_law 320 = .ok (.invokevirtual 34, 3) := by decide +kernel
theorem dL_law_323 : decode cL_law 323 = .ok (.aload_n 2, 1) := by decide +kernel
theorem dL_law_324 : decode cL_law 324 = .ok (.invokevirtual 37, 3) := by decide +kernel
theorem dL_law_327 : decode cL_law 327 = .ok (.if_icmp .eq 1186, 3) := by decide +kernel
theorem dL_law_330 : decode cL_law 330 = .ok (.iconst 0, 1) := by decide +kernel
theorem dL_law_331 : decode cL_law 331 = .ok (.ireturn, 1) := by decide +kernel
theorem dL_law_332 : decode cL_law 332 = .ok (.aload_n 1, 1) := by decide +kernel
theorem dL_law_333 : decode cL_law 333 = .ok (.aload_n 0, 1) := by decide +kernel
theorem dL_law_334 : decode cL_law 334 = .ok (.iload 4, 2) := by decide +kernel
theorem dL_law_336 : decode cL_law 336 = .ok (.iconst 1, 1) := by decide +kernel
theorem dL_law_337 : decode cL_law 337 = .ok (.iadd, 1) := by decide +kernel
theorem dL_law_338 : decode cL_law 338 = .ok (.iaload, 1) := by decide +kernel
theorem dL_law_339 : decode cL_law 339 = .ok (.invokevirtual 38, 3) := by decide +kernel
theorem dL_law_342 : decode cL_law 342 = .ok (.aload_n 2, 1) := by decide +kernel
theorem dL_law_343 : decode cL_law 343 = .ok (.aload_n 0, 1) := by decide +kernel
theorem dL_law_344 : decode cL_law 344 = .ok (.iload 4, 2) := by decide +kernel
theorem dL_law_346 : decode cL_law 346 = .ok (.iconst 1, 1) := by decide +kernel
theorem dL_law_347 : decode cL_law 347 = .ok (.iadd, 1) := by decide +kernel
theorem dL_law_348 : decode cL_law 348 = .ok (.iaload, 1) := by decide +kernel
theorem dL_law_349 : decode cL_law 349 = .ok (.invokevirtual 41, 3) := by decide +kernel
theorem dL_law_352 : decode cL_law 352 = .ok (.if_icmp .eq 1161, 3) := by decide +kernel
theorem dL_law_355 : decode cL_law 355 = .ok (.iconst 0, 1) := by decide +kernel
theorem dL_law_356 : decode cL_law 356 = .ok (.ireturn, 1) := by decide +kernel
theorem dL_law_357 : decode cL_law 357 = .ok (.aload_n 1, 1) := by decide +kernel
theorem dL_law_358 : decode cL_law 358 = .ok (.aload_n 0, 1) := by decide +kernel
theorem dL_law_359 : decode cL_law 359 = .ok (.iload 4, 2) := by decide +kernel
theorem dL_law_361 : decode cL_law 361 = .ok (.iconst 1, 1) := by decide +kernel
theorem dL_law_362 : decode cL_law 362 = .ok (.iadd, 1) := by decide +kernel
theorem dL_law_363 : decode cL_law 363 = .ok (.iaload, 1) := by decide +kernel
theorem dL_law_364 : decode cL_law 364 = .ok (.aload_n 0, 1) := by decide +kernel
theorem dL_law_365 : decode cL_law 365 = .ok (.iload 4, 2) := by decide +kernel
theorem dL_law_367 : decode cL_law 367 = .ok (.iconst 2, 1) := by decide +kernel
theorem dL_law_368 : decode cL_law 368 = .ok (.iadd, 1) := by decide +kernel
theorem dL_law_369 : decode cL_law 369 = .ok (.iaload, 1) := by decide +kernel
theorem dL_law_370 : decode cL_law 370 = .ok (.invokevirtual 42, 3) := by decide +kernel
theorem dL_law_373 : decode cL_law 373 = .ok (.aload_n 2, 1) := by decide +kernel
theorem dL_law_374 : decode cL_law 374 = .ok (.aload_n 0, 1) := by decide +kernel
theorem dL_law_375 : decode cL_law 375 = .ok (.iload 4, 2) := by decide +kernel
theorem dL_law_377 : decode cL_law 377 = .ok (.iconst 1, 1) := by decide +kernel
theorem dL_law_378 : decode cL_law 378 = .ok (.iadd, 1) := by decide +kernel
theorem dL_law_379 : decode cL_law 379 = .ok (.iaload, 1) := by decide +kernel
theorem dL_law_380 : decode cL_law 380 = .ok (.aload_n 0, 1) := by decide +kernel
theorem dL_law_381 : decode cL_law 381 = .ok (.iload 4, 2) := by decide +kernel
theorem dL_law_383 : decode cL_law 383 = .ok (.iconst 2, 1) := by decide +kernel
theorem dL_law_384 : decode cL_law 384 = .ok (.iadd, 1) := by decide +kernel
theorem dL_law_385 : decode cL_law 385 = .ok (.iaload, 1) := by decide +kernel
theorem dL_law_386 : decode cL_law 386 = .ok (.invokevirtual 45, 3) := by decide +kernel
theorem dL_law_389 : decode cL_law 389 = .ok (.if_icmp .eq 1124, 3) := by decide +kernel
theorem dL_law_392 : decode cL_law 392 = .ok (.iconst 0, 1) := by decide +kernel
theorem dL_law_393 : decode cL_law 393 = .ok (.ireturn, 1) := by decide +kernel
theorem dL_law_394 : decode cL_law 394 = .ok (.aload_n 1, 1) := by decide +kernel
theorem dL_law_395 : decode cL_law 395 = .ok (.aload_n 0, 1) := by decide +kernel
theorem dL_law_396 : decode cL_law 396 = .ok (.iload 4, 2) := by decide +kernel
theorem dL_law_398 : decode cL_law 398 = .ok (.iconst 1, 1) := by decide +kernel
theorem dL_law_399 : decode cL_law 399 = .ok (.iadd, 1) := by decide +kernel
theorem dL_law_400 : decode cL_law 400 = .ok (.iaload, 1) := by decide +kernel
theorem dL_law_401 : decode cL_law 401 = .ok (.aload_n 0, 1) := by decide +kernel
theorem dL_law_402 : decode cL_law 402 = .ok (.iload 4, 2) := by decide +kernel
theorem dL_law_404 : decode cL_law 404 = .ok (.iconst 2, 1) := by decide +kernel
theorem dL_law_405 : decode cL_law 405 = .ok (.iadd, 1) := by decide +kernel
theorem dL_law_406 : decode cL_law 406 = .ok (.iaload, 1) := by decide +kernel
theorem dL_law_407 : decode cL_law 407 = .ok (.invokevirtual 46, 3) := by decide +kernel
theorem dL_law_410 : decode cL_law 410 = .ok (.aload_n 2, 1) := by decide +kernel
theorem dL_law_411 : decode cL_law 411 = .ok (.aload_n 0, 1) := by decide +kernel
theorem dL_law_412 : decode cL_law 412 = .ok (.iload 4, 2) := by decide +kernel
theorem dL_law_414 : decode cL_law 414 = .ok (.iconst 1, 1) := by decide +kernel
theorem dL_law_415 : decode cL_law 415 = .ok (.iadd, 1) := by decide +kernel
theorem dL_law_416 : decode cL_law 416 = .ok (.iaload, 1) := by decide +kernel
theorem dL_law_417 : decode cL_law 417 = .ok (.aload_n 0, 1) := by decide +kernel
theorem dL_law_418 : decode cL_law 418 = .ok (.iload 4, 2) := by decide +kernel
theorem dL_law_420 : decode cL_law 420 = .ok (.iconst 2, 1) := by decide +kernel
theorem dL_law_421 : decode cL_law 421 = .ok (.iadd, 1) := by decide +kernel
theorem dL_law_422 : decode cL_law 422 = .ok (.iaload, 1) := by decide +kernel
theorem dL_law_423 : decode cL_law 423 = .ok (.invokevirtual 49, 3) := by decide +kernel
theorem dL_law_426 : decode cL_law 426 = .ok (.if_icmp .eq 1087, 3) := by decide +kernel
theorem dL_law_429 : decode cL_law 429 = .ok (.iconst 0, 1) := by decide +kernel
theorem dL_law_430 : decode cL_law 430 = .ok (.ireturn, 1) := by decide +kernel
theorem dL_law_431 : decode cL_law 431 = .ok (.aload_n 1, 1) := by decide +kernel
theorem dL_law_432 : decode cL_law 432 = .ok (.aload_n 0, 1) := by decide +kernel
theorem dL_law_433 : decode cL_law 433 = .ok (.iload 4, 2) := by decide +kernel
theorem dL_law_435 : decode cL_law 435 = .ok (.iconst 1, 1) := by decide +kernel
theorem dL_law_436 : decode cL_law 436 = .ok (.iadd, 1) := by decide +kernel
theorem dL_law_437 : decode cL_law 437 = .ok (.iaload, 1) := by decide +kernel
theorem dL_law_438 : decode cL_law 438 = .ok (.aload_n 0, 1) := by decide +kernel
theorem dL_law_439 : decode cL_law 439 = .ok (.iload 4, 2) := by decide +kernel
theorem dL_law_441 : decode cL_law 441 = .ok (.iconst 2, 1) := by decide +kernel
theorem dL_law_442 : decode cL_law 442 = .ok (.iadd, 1) := by decide +kernel
theorem dL_law_443 : decode cL_law 443 = .ok (.iaload, 1) := by decide +kernel
theorem dL_law_444 : decode cL_law 444 = .ok (.invokevirtual 50, 3) := by decide +kernel
theorem dL_law_447 : decode cL_law 447 = .ok (.aload_n 2, 1) := by decide +kernel
theorem dL_law_448 : decode cL_law 448 = .ok (.aload_n 0, 1) := by decide +kernel
theorem dL_law_449 : decode cL_law 449 = .ok (.iload 4, 2) := by decide +kernel
theorem dL_law_451 : decode cL_law 451 = .ok (.iconst 1, 1) := by decide +kernel
theorem dL_law_452 : decode cL_law 452 = .ok (.iadd, 1) := by decide +kernel
theorem dL_law_453 : decode cL_law 453 = .ok (.iaload, 1) := by decide +kernel
theorem dL_law_454 : decode cL_law 454 = .ok (.aload_n 0, 1) := by decide +kernel
theorem dL_law_455 : decode cL_law 455 = .ok (.iload 4, 2) := by decide +kernel
theorem dL_law_457 : decode cL_law 457 = .ok (.iconst 2, 1) := by decide +kernel
theorem dL_law_458 : decode cL_law 458 = .ok (.iadd, 1) := by decide +kernel
theorem dL_law_459 : decode cL_law 459 = .ok (.iaload, 1) := by decide +kernel
theorem dL_law_460 : decode cL_law 460 = .ok (.invokevirtual 53, 3) := by decide +kernel
theorem dL_law_463 : decode cL_law 463 = .ok (.if_icmp .eq 1050, 3) := by decide +kernel
theorem dL_law_466 : decode cL_law 466 = .ok (.iconst 0, 1) := by decide +kernel
theorem dL_law_467 : decode cL_law 467 = .ok (.ireturn, 1) := by decide +kernel
theorem dL_law_468 : decode cL_law 468 = .ok (.aload_n 1, 1) := by decide +kernel
theorem dL_law_469 : decode cL_law 469 = .ok (.aload_n 0, 1) := by decide +kernel
theorem dL_law_470 : decode cL_law 470 = .ok (.iload 4, 2) := by decide +kernel
theorem dL_law_472 : decode cL_law 472 = .ok (.iconst 1, 1) := by decide +kernel
theorem dL_law_473 : decode cL_law 473 = .ok (.iadd, 1) := by decide +kernel
theorem dL_law_474 : decode cL_law 474 = .ok (.iaload, 1) := by decide +kernel
theorem dL_law_475 : decode cL_law 475 = .ok (.aload_n 0, 1) := by decide +kernel
theorem dL_law_476 : decode cL_law 476 = .ok (.iload 4, 2) := by decide +kernel
theorem dL_law_478 : decode cL_law 478 = .ok (.iconst 2, 1) := by decide +kernel
theorem dL_law_479 : decode cL_law 479 = .ok (.iadd, 1) := by decide +kernel
theorem dL_law_480 : decode cL_law 480 = .ok (.iaload, 1) := by decide +kernel
theorem dL_law_481 : decode cL_law 481 = .ok (.invokevirtual 54, 3) := by decide +kernel
theorem dL_law_484 : decode cL_law 484 = .ok (.aload_n 2, 1) := by decide +kernel
theorem dL_law_485 : decode cL_law 485 = .ok (.aload_n 0, 1) := by decide +kernel
theorem dL_law_486 : decode cL_law 486 = .ok (.iload 4, 2) := by decide +kernel
theorem dL_law_488 : decode cL_law 488 = .ok (.iconst 1, 1) := by decide +kernel
theorem dL_law_489 : decode cL_law 489 = .ok (.iadd, 1) := by decide +kernel
theorem dL_law_490 : decode cL_law 490 = .ok (.iaload, 1) := by decide +kernel
theorem dL_law_491 : decode cL_law 491 = .ok (.aload_n 0, 1) := by decide +kernel
theorem dL_law_492 : decode cL_law 492 = .ok (.iload 4, 2) := by decide +kernel
theorem dL_law_494 : decode cL_law 494 = .ok (.iconst 2, 1) := by decide +kernel
theorem dL_law_495 : decode cL_law 495 = .ok (.iadd, 1) := by decide +kernel
theorem dL_law_496 : decode cL_law 496 = .ok (.iaload, 1) := by decide +kernel
theorem dL_law_497 : decode cL_law 497 = .ok (.invokevirtual 57, 3) := by decide +kernel
theorem dL_law_500 : decode cL_law 500 = .ok (.if_icmp .eq 1013, 3) := by decide +kernel
theorem dL_law_503 : decode cL_law 503 = .ok (.iconst 0, 1) := by decide +kernel
theorem dL_law_504 : decode cL_law 504 = .ok (.ireturn, 1) := by decide +kernel
theorem dL_law_505 : decode cL_law 505 = .ok (.aload_n 1, 1) := by decide +kernel
theorem dL_law_506 : decode cL_law 506 = .ok (.aload_n 0, 1) := by decide +kernel
theorem dL_law_507 : decode cL_law 507 = .ok (.iload 4, 2) := by decide +kernel
theorem dL_law_509 : decode cL_law 509 = .ok (.iconst 1, 1) := by decide +kernel
theorem dL_law_510 : decode cL_law 510 = .ok (.iadd, 1) := by decide +kernel
theorem dL_law_511 : decode cL_law 511 = .ok (.iaload, 1) := by decide +kernel
theorem dL_law_512 : decode cL_law 512 = .ok (.aload_n 0, 1) := by decide +kernel
theorem dL_law_513 : decode cL_law 513 = .ok (.iload 4, 2) := by decide +kernel
theorem dL_law_515 : decode cL_law 515 = .ok (.iconst 2, 1) := by decide +kernel
theorem dL_law_516 : decode cL_law 516 = .ok (.iadd, 1) := by decide +kernel
theorem dL_law_517 : decode cL_law 517 = .ok (.iaload, 1) := by decide +kernel
theorem dL_law_518 : decode cL_law 518 = .ok (.aload_n 0, 1) := by decide +kernel
theorem dL_law_519 : decode cL_law 519 = .ok (.iload 4, 2) := by decide +kernel
theorem dL_law_521 : decode cL_law 521 = .ok (.iconst 3, 1) := by decide +kernel
theorem dL_law_522 : decode cL_law 522 = .ok (.iadd, 1) := by decide +kernel
theorem dL_law_523 : decode cL_law 523 = .ok (.iaload, 1) := by decide +kernel
theorem dL_law_524 : decode cL_law 524 = .ok (.invokevirtual 58, 3) := by decide +kernel
theorem dL_law_527 : decode cL_law 527 = .ok (.aload_n 2, 1) := by decide +kernel
theorem dL_law_528 : decode cL_law 528 = .ok (.aload_n 0, 1) := by decide +kernel
theorem dL_law_529 : decode cL_law 529 = .ok (.iload 4, 2) := by decide +kernel
theorem dL_law_531 : decode cL_law 531 = .ok (.iconst 1, 1) := by decide +kernel
theorem dL_law_532 : decode cL_law 532 = .ok (.iadd, 1) := by decide +kernel
theorem dL_law_533 : decode cL_law 533 = .ok (.iaload, 1) := by decide +kernel
theorem dL_law_534 : decode cL_law 534 = .ok (.aload_n 0, 1) := by decide +kernel
theorem dL_law_535 : decode cL_law 535 = .ok (.iload 4, 2) := by decide +kernel
theorem dL_law_537 : decode cL_law 537 = .ok (.iconst 2, 1) := by decide +kernel
theorem dL_law_538 : decode cL_law 538 = .ok (.iadd, 1) := by decide +kernel
theorem dL_law_539 : decode cL_law 539 = .ok (.iaload, 1) := by decide +kernel
theorem dL_law_540 : decode cL_law 540 = .ok (.aload_n 0, 1) := by decide +kernel
theorem dL_law_541 : decode cL_law 541 = .ok (.iload 4, 2) := by decide +kernel
theorem dL_law_543 : decode cL_law 543 = .ok (.iconst 3, 1) := by decide +kernel
theorem dL_law_544 : decode cL_law 544 = .ok (.iadd, 1) := by decide +kernel
theorem dL_law_545 : decode cL_law 545 = .ok (.iaload, 1) := by decide +kernel
theorem dL_law_546 : decode cL_law 546 = .ok (.invokevirtual 62, 3) := by decide +kernel
theorem dL_law_549 : decode cL_law 549 = .ok (.lcmp, 1) := by decide +kernel
theorem dL_law_550 : decode cL_law 550 = .ok (.ifCond .eq 963, 3) := by decide +kernel
theorem dL_law_553 : decode cL_law 553 = .ok (.iconst 0, 1) := by decide +kernel
theorem dL_law_554 : decode cL_law 554 = .ok (.ireturn, 1) := by decide +kernel
theorem dL_law_555 : decode cL_law 555 = .ok (.aload_n 1, 1) := by decide +kernel
theorem dL_law_556 : decode cL_law 556 = .ok (.aload_n 0, 1) := by decide +kernel
theorem dL_law_557 : decode cL_law 557 = .ok (.iload 4, 2) := by decide +kernel
theorem dL_law_559 : decode cL_law 559 = .ok (.iconst 1, 1) := by decide +kernel
theorem dL_law_560 : decode cL_law 560 = .ok (.iadd, 1) := by decide +kernel
theorem dL_law_561 : decode cL_law 561 = .ok (.iaload, 1) := by decide +kernel
theorem dL_law_562 : decode cL_law 562 = .ok (.invokevirtual 63, 3) := by decide +kernel
theorem dL_law_565 : decode cL_law 565 = .ok (.aload_n 2, 1) := by decide +kernel
theorem dL_law_566 : decode cL_law 566 = .ok (.aload_n 0, 1) := by decide +kernel
theorem dL_law_567 : decode cL_law 567 = .ok (.iload 4, 2) := by decide +kernel
theorem dL_law_569 : decode cL_law 569 = .ok (.iconst 1, 1) := by decide +kernel
theorem dL_law_570 : decode cL_law 570 = .ok (.iadd, 1) := by decide +kernel
theorem dL_law_571 : decode cL_law 571 = .ok (.iaload, 1) := by decide +kernel
theorem dL_law_572 : decode cL_law 572 = .ok (.invokevirtual 67, 3) := by decide +kernel
theorem dL_law_575 : decode cL_law 575 = .ok (.lcmp, 1) := by decide +kernel
theorem dL_law_576 : decode cL_law 576 = .ok (.ifCond .eq 937, 3) := by decide +kernel
theorem dL_law_579 : decode cL_law 579 = .ok (.iconst 0, 1) := by decide +kernel
theorem dL_law_580 : decode cL_law 580 = .ok (.ireturn, 1) := by decide +kernel
theorem dL_law_581 : decode cL_law 581 = .ok (.aload_n 1, 1) := by decide +kernel
theorem dL_law_582 : decode cL_law 582 = .ok (.aload_n 0, 1) := by decide +kernel
theorem dL_law_583 : decode cL_law 583 = .ok (.iload 4, 2) := by decide +kernel
theorem dL_law_585 : decode cL_law 585 = .ok (.iconst 1, 1) := by decide +kernel
theorem dL_law_586 : decode cL_law 586 = .ok (.iadd, 1) := by decide +kernel
theorem dL_law_587 : decode cL_law 587 = .ok (.iaload, 1) := by decide +kernel
theorem dL_law_588 : decode cL_law 588 = .ok (.aload_n 0, 1) := by decide +kernel
theorem dL_law_589 : decode cL_law 589 = .ok (.iload 4, 2) := by decide +kernel
theorem dL_law_591 : decode cL_law 591 = .ok (.iconst 2, 1) := by decide +kernel
theorem dL_law_592 : decode cL_law 592 = .ok (.iadd, 1) := by decide +kernel
theorem dL_law_593 : decode cL_law 593 = .ok (.iaload, 1) := by decide +kernel
theorem dL_law_594 : decode cL_law 594 = .ok (.invokevirtual 68, 3) := by decide +kernel
theorem dL_law_597 : decode cL_law 597 = .ok (.aload_n 2, 1) := by decide +kernel
theorem dL_law_598 : decode cL_law 598 = .ok (.aload_n 0, 1) := by decide +kernel
theorem dL_law_599 : decode cL_law 599 = .ok (.iload 4, 2) := by decide +kernel
theorem dL_law_601 : decode cL_law 601 = .ok (.iconst 1, 1) := by decide +kernel
theorem dL_law_602 : decode cL_law 602 = .ok (.iadd, 1) := by decide +kernel
theorem dL_law_603 : decode cL_law 603 = .ok (.iaload, 1) := by decide +kernel
theorem dL_law_604 : decode cL_law 604 = .ok (.aload_n 0, 1) := by decide +kernel
theorem dL_law_605 : decode cL_law 605 = .ok (.iload 4, 2) := by decide +kernel
theorem dL_law_607 : decode cL_law 607 = .ok (.iconst 2, 1) := by decide +kernel
theorem dL_law_608 : decode cL_law 608 = .ok (.iadd, 1) := by decide +kernel
theorem dL_law_609 : decode cL_law 609 = .ok (.iaload, 1) := by decide +kernel
theorem dL_law_610 : decode cL_law 610 = .ok (.invokevirtual 71, 3) := by decide +kernel
theorem dL_law_613 : decode cL_law 613 = .ok (.if_icmp .eq 900, 3) := by decide +kernel
theorem dL_law_616 : decode cL_law 616 = .ok (.iconst 0, 1) := by decide +kernel
theorem dL_law_617 : decode cL_law 617 = .ok (.ireturn, 1) := by decide +kernel
theorem dL_law_618 : decode cL_law 618 = .ok (.aload_n 1, 1) := by decide +kernel
theorem dL_law_619 : decode cL_law 619 = .ok (.aload_n 0, 1) := by decide +kernel
theorem dL_law_620 : decode cL_law 620 = .ok (.iload 4, 2) := by decide +kernel
theorem dL_law_622 : decode cL_law 622 = .ok (.iconst 1, 1) := by decide +kernel
theorem dL_law_623 : decode cL_law 623 = .ok (.iadd, 1) := by decide +kernel
theorem dL_law_624 : decode cL_law 624 = .ok (.iaload, 1) := by decide +kernel
theorem dL_law_625 : decode cL_law 625 = .ok (.aload_n 0, 1) := by decide +kernel
theorem dL_law_626 : decode cL_law 626 = .ok (.iload 4, 2) := by decide +kernel
theorem dL_law_628 : decode cL_law 628 = .ok (.iconst 2, 1) := by decide +kernel
theorem dL_law_629 : decode cL_law 629 = .ok (.iadd, 1) := by decide +kernel
theorem dL_law_630 : decode cL_law 630 = .ok (.iaload, 1) := by decide +kernel
theorem dL_law_631 : decode cL_law 631 = .ok (.invokevirtual 72, 3) := by decide +kernel
theorem dL_law_634 : decode cL_law 634 = .ok (.aload_n 2, 1) := by decide +kernel
theorem dL_law_635 : decode cL_law 635 = .ok (.aload_n 0, 1) := by decide +kernel
theorem dL_law_636 : decode cL_law 636 = .ok (.iload 4, 2) := by decide +kernel
theorem dL_law_638 : decode cL_law 638 = .ok (.iconst 1, 1) := by decide +kernel
theorem dL_law_639 : decode cL_law 639 = .ok (.iadd, 1) := by decide +kernel
theorem dL_law_640 : decode cL_law 640 = .ok (.iaload, 1) := by decide +kernel
theorem dL_law_641 : decode cL_law 641 = .ok (.aload_n 0, 1) := by decide +kernel
theorem dL_law_642 : decode cL_law 642 = .ok (.iload 4, 2) := by decide +kernel
theorem dL_law_644 : decode cL_law 644 = .ok (.iconst 2, 1) := by decide +kernel
theorem dL_law_645 : decode cL_law 645 = .ok (.iadd, 1) := by decide +kernel
theorem dL_law_646 : decode cL_law 646 = .ok (.iaload, 1) := by decide +kernel
theorem dL_law_647 : decode cL_law 647 = .ok (.invokevirtual 75, 3) := by decide +kernel
theorem dL_law_650 : decode cL_law 650 = .ok (.if_icmp .eq 863, 3) := by decide +kernel
theorem dL_law_653 : decode cL_law 653 = .ok (.iconst 0, 1) := by decide +kernel
theorem dL_law_654 : decode cL_law 654 = .ok (.ireturn, 1) := by decide +kernel
theorem dL_law_655 : decode cL_law 655 = .ok (.aload_n 1, 1) := by decide +kernel
theorem dL_law_656 : decode cL_law 656 = .ok (.aload_n 0, 1) := by decide +kernel
theorem dL_law_657 : decode cL_law 657 = .ok (.iload 4, 2) := by decide +kernel
theorem dL_law_659 : decode cL_law 659 = .ok (.iconst 1, 1) := by decide +kernel
theorem dL_law_660 : decode cL_law 660 = .ok (.iadd, 1) := by decide +kernel
theorem dL_law_661 : decode cL_law 661 = .ok (.iaload, 1) := by decide +kernel
theorem dL_law_662 : decode cL_law 662 = .ok (.aload_n 0, 1) := by decide +kernel
theorem dL_law_663 : decode cL_law 663 = .ok (.iload 4, 2) := by decide +kernel
theorem dL_law_665 : decode cL_law 665 = .ok (.iconst 2, 1) := by decide +kernel
theorem dL_law_666 : decode cL_law 666 = .ok (.iadd, 1) := by decide +kernel
theorem dL_law_667 : decode cL_law 667 = .ok (.iaload, 1) := by decide +kernel
theorem dL_law_668 : decode cL_law 668 = .ok (.invokevirtual 76, 3) := by decide +kernel
theorem dL_law_671 : decode cL_law 671 = .ok (.aload_n 2, 1) := by decide +kernel
theorem dL_law_672 : decode cL_law 672 = .ok (.aload_n 0, 1) := by decide +kernel
theorem dL_law_673 : decode cL_law 673 = .ok (.iload 4, 2) := by decide +kernel
theorem dL_law_675 : decode cL_law 675 = .ok (.iconst 1, 1) := by decide +kernel
theorem dL_law_676 : decode cL_law 676 = .ok (.iadd, 1) := by decide +kernel
theorem dL_law_677 : decode cL_law 677 = .ok (.iaload, 1) := by decide +kernel
theorem dL_law_678 : decode cL_law 678 = .ok (.aload_n 0, 1) := by decide +kernel
theorem dL_law_679 : decode cL_law 679 = .ok (.iload 4, 2) := by decide +kernel
theorem dL_law_681 : decode cL_law 681 = .ok (.iconst 2, 1) := by decide +kernel
theorem dL_law_682 : decode cL_law 682 = .ok (.iadd, 1) := by decide +kernel
theorem dL_law_683 : decode cL_law 683 = .ok (.iaload, 1) := by decide +kernel
theorem dL_law_684 : decode cL_law 684 = .ok (.invokevirtual 80, 3) := by decide +kernel
theorem dL_law_687 : decode cL_law 687 = .ok (.lcmp, 1) := by decide +kernel
theorem dL_law_688 : decode cL_law 688 = .ok (.ifCond .eq 825, 3) := by decide +kernel
theorem dL_law_691 : decode cL_law 691 = .ok (.iconst 0, 1) := by decide +kernel
theorem dL_law_692 : decode cL_law 692 = .ok (.ireturn, 1) := by decide +kernel
theorem dL_law_693 : decode cL_law 693 = .ok (.aload_n 1, 1) := by decide +kernel
theorem dL_law_694 : decode cL_law 694 = .ok (.aload_n 0, 1) := by decide +kernel
theorem dL_law_695 : decode cL_law 695 = .ok (.iload 4, 2) := by decide +kernel
theorem dL_law_697 : decode cL_law 697 = .ok (.iconst 1, 1) := by decide +kernel
theorem dL_law_698 : decode cL_law 698 = .ok (.iadd, 1) := by decide +kernel
theorem dL_law_699 : decode cL_law 699 = .ok (.iaload, 1) := by decide +kernel
theorem dL_law_700 : decode cL_law 700 = .ok (.aload_n 0, 1) := by decide +kernel
theorem dL_law_701 : decode cL_law 701 = .ok (.iload 4, 2) := by decide +kernel
theorem dL_law_703 : decode cL_law 703 = .ok (.iconst 2, 1) := by decide +kernel
theorem dL_law_704 : decode cL_law 704 = .ok (.iadd, 1) := by decide +kernel
theorem dL_law_705 : decode cL_law 705 = .ok (.iaload, 1) := by decide +kernel
theorem dL_law_706 : decode cL_law 706 = .ok (.invokevirtual 81, 3) := by decide +kernel
theorem dL_law_709 : decode cL_law 709 = .ok (.aload_n 2, 1) := by decide +kernel
theorem dL_law_710 : decode cL_law 710 = .ok (.aload_n 0, 1) := by decide +kernel
theorem dL_law_711 : decode cL_law 711 = .ok (.iload 4, 2) := by decide +kernel
theorem dL_law_713 : decode cL_law 713 = .ok (.iconst 1, 1) := by decide +kernel
theorem dL_law_714 : decode cL_law 714 = .ok (.iadd, 1) := by decide +kernel
theorem dL_law_715 : decode cL_law 715 = .ok (.iaload, 1) := by decide +kernel
theorem dL_law_716 : decode cL_law 716 = .ok (.aload_n 0, 1) := by decide +kernel
theorem dL_law_717 : decode cL_law 717 = .ok (.iload 4, 2) := by decide +kernel
theorem dL_law_719 : decode cL_law 719 = .ok (.iconst 2, 1) := by decide +kernel
theorem dL_law_720 : decode cL_law 720 = .ok (.iadd, 1) := by decide +kernel
theorem dL_law_721 : decode cL_law 721 = .ok (.iaload, 1) := by decide +kernel
theorem dL_law_722 : decode cL_law 722 = .ok (.invokevirtual 84, 3) := by decide +kernel
theorem dL_law_725 : decode cL_law 725 = .ok (.lcmp, 1) := by decide +kernel
theorem dL_law_726 : decode cL_law 726 = .ok (.ifCond .eq 787, 3) := by decide +kernel
theorem dL_law_729 : decode cL_law 729 = .ok (.iconst 0, 1) := by decide +kernel
theorem dL_law_730 : decode cL_law 730 = .ok (.ireturn, 1) := by decide +kernel
theorem dL_law_731 : decode cL_law 731 = .ok (.aload_n 1, 1) := by decide +kernel
theorem dL_law_732 : decode cL_law 732 = .ok (.aload_n 0, 1) := by decide +kernel
theorem dL_law_733 : decode cL_law 733 = .ok (.iload 4, 2) := by decide +kernel
theorem dL_law_735 : decode cL_law 735 = .ok (.iconst 1, 1) := by decide +kernel
theorem dL_law_736 : decode cL_law 736 = .ok (.iadd, 1) := by decide +kernel
theorem dL_law_737 : decode cL_law 737 = .ok (.iaload, 1) := by decide +kernel
theorem dL_law_738 : decode cL_law 738 = .ok (.invokevirtual 85, 3) := by decide +kernel
theorem dL_law_741 : decode cL_law 741 = .ok (.aload_n 2, 1) := by decide +kernel
theorem dL_law_742 : decode cL_law 742 = .ok (.aload_n 0, 1) := by decide +kernel
theorem dL_law_743 : decode cL_law 743 = .ok (.iload 4, 2) := by decide +kernel
theorem dL_law_745 : decode cL_law 745 = .ok (.iconst 1, 1) := by decide +kernel
theorem dL_law_746 : decode cL_law 746 = .ok (.iadd, 1) := by decide +kernel
theorem dL_law_747 : decode cL_law 747 = .ok (.iaload, 1) := by decide +kernel
theorem dL_law_748 : decode cL_law 748 = .ok (.invokevirtual 88, 3) := by decide +kernel
theorem dL_law_751 : decode cL_law 751 = .ok (.if_icmp .eq 762, 3) := by decide +kernel
theorem dL_law_754 : decode cL_law 754 = .ok (.iconst 0, 1) := by decide +kernel
theorem dL_law_755 : decode cL_law 755 = .ok (.ireturn, 1) := by decide +kernel
theorem dL_law_756 : decode cL_law 756 = .ok (.aload_n 1, 1) := by decide +kernel
theorem dL_law_757 : decode cL_law 757 = .ok (.aload_n 0, 1) := by decide +kernel
theorem dL_law_758 : decode cL_law 758 = .ok (.iload 4, 2) := by decide +kernel
theorem dL_law_760 : decode cL_law 760 = .ok (.iconst 1, 1) := by decide +kernel
theorem dL_law_761 : decode cL_law 761 = .ok (.iadd, 1) := by decide +kernel
theorem dL_law_762 : decode cL_law 762 = .ok (.iaload, 1) := by decide +kernel
theorem dL_law_763 : decode cL_law 763 = .ok (.aload_n 0, 1) := by decide +kernel
theorem dL_law_764 : decode cL_law 764 = .ok (.iload 4, 2) := by decide +kernel
theorem dL_law_766 : decode cL_law 766 = .ok (.iconst 2, 1) := by decide +kernel
theorem dL_law_767 : decode cL_law 767 = .ok (.iadd, 1) := by decide +kernel
theorem dL_law_768 : decode cL_law 768 = .ok (.iaload, 1) := by decide +kernel
theorem dL_law_769 : decode cL_law 769 = .ok (.invokevirtual 89, 3) := by decide +kernel
theorem dL_law_772 : decode cL_law 772 = .ok (.aload_n 2, 1) := by decide +kernel
theorem dL_law_773 : decode cL_law 773 = .ok (.aload_n 0, 1) := by decide +kernel
theorem dL_law_774 : decode cL_law 774 = .ok (.iload 4, 2) := by decide +kernel
theorem dL_law_776 : decode cL_law 776 = .ok (.iconst 1, 1) := by decide +kernel
theorem dL_law_777 : decode cL_law 777 = .ok (.iadd, 1) := by decide +kernel
theorem dL_law_778 : decode cL_law 778 = .ok (.iaload, 1) := by decide +kernel
theorem dL_law_779 : decode cL_law 779 = .ok (.aload_n 0, 1) := by decide +kernel
theorem dL_law_780 : decode cL_law 780 = .ok (.iload 4, 2) := by decide +kernel
theorem dL_law_782 : decode cL_law 782 = .ok (.iconst 2, 1) := by decide +kernel
theorem dL_law_783 : decode cL_law 783 = .ok (.iadd, 1) := by decide +kernel
theorem dL_law_784 : decode cL_law 784 = .ok (.iaload, 1) := by decide +kernel
theorem dL_law_785 : decode cL_law 785 = .ok (.invokevirtual 92, 3) := by decide +kernel
theorem dL_law_788 : decode cL_law 788 = .ok (.lcmp, 1) := by decide +kernel
theorem dL_law_789 : decode cL_law 789 = .ok (.ifCond .eq 724, 3) := by decide +kernel
theorem dL_law_792 : decode cL_law 792 = .ok (.iconst 0, 1) := by decide +kernel
theorem dL_law_793 : decode cL_law 793 = .ok (.ireturn, 1) := by decide +kernel
theorem dL_law_794 : decode cL_law 794 = .ok (.aload_n 1, 1) := by decide +kernel
theorem dL_law_795 : decode cL_law 795 = .ok (.aload_n 0, 1) := by decide +kernel
theorem dL_law_796 : decode cL_law 796 = .ok (.iload 4, 2) := by decide +kernel
theorem dL_law_798 : decode cL_law 798 = .ok (.iconst 1, 1) := by decide +kernel
theorem dL_law_799 : decode cL_law 799 = .ok (.iadd, 1) := by decide +kernel
theorem dL_law_800 : decode cL_law 800 = .ok (.iaload, 1) := by decide +kernel
theorem dL_law_801 : decode cL_law 801 = .ok (.aload_n 0, 1) := by decide +kernel
theorem dL_law_802 : decode cL_law 802 = .ok (.iload 4, 2) := by decide +kernel
theorem dL_law_804 : decode cL_law 804 = .ok (.iconst 2, 1) := by decide +kernel
theorem dL_law_805 : decode cL_law 805 = .ok (.iadd, 1) := by decide +kernel
theorem dL_law_806 : decode cL_law 806 = .ok (.iaload, 1) := by decide +kernel
theorem dL_law_807 : decode cL_law 807 = .ok (.invokevirtual 93, 3) := by decide +kernel
theorem dL_law_810 : decode cL_law 810 = .ok (.aload_n 2, 1) := by decide +kernel
theorem dL_law_811 : decode cL_law 811 = .ok (.aload_n 0, 1) := by decide +kernel
theorem dL_law_812 : decode cL_law 812 = .ok (.iload 4, 2) := by decide +kernel
theorem dL_law_814 : decode cL_law 814 = .ok (.iconst 1, 1) := by decide +kernel
theorem dL_law_815 : decode cL_law 815 = .ok (.iadd, 1) := by decide +kernel
theorem dL_law_816 : decode cL_law 816 = .ok (.iaload, 1) := by decide +kernel
theorem dL_law_817 : decode cL_law 817 = .ok (.aload_n 0, 1) := by decide +kernel
theorem dL_law_818 : decode cL_law 818 = .ok (.iload 4, 2) := by decide +kernel
theorem dL_law_820 : decode cL_law 820 = .ok (.iconst 2, 1) := by decide +kernel
theorem dL_law_821 : decode cL_law 821 = .ok (.iadd, 1) := by decide +kernel
theorem dL_law_822 : decode cL_law 822 = .ok (.iaload, 1) := by decide +kernel
theorem dL_law_823 : decode cL_law 823 = .ok (.invokevirtual 96, 3) := by decide +kernel
theorem dL_law_826 : decode cL_law 826 = .ok (.lcmp, 1) := by decide +kernel
theorem dL_law_827 : decode cL_law 827 = .ok (.ifCond .eq 686, 3) := by decide +kernel
theorem dL_law_830 : decode cL_law 830 = .ok (.iconst 0, 1) := by decide +kernel
theorem dL_law_831 : decode cL_law 831 = .ok (.ireturn, 1) := by decide +kernel
theorem dL_law_832 : decode cL_law 832 = .ok (.aload_n 1, 1) := by decide +kernel
theorem dL_law_833 : decode cL_law 833 = .ok (.aload_n 0, 1) := by decide +kernel
theorem dL_law_834 : decode cL_law 834 = .ok (.iload 4, 2) := by decide +kernel
theorem dL_law_836 : decode cL_law 836 = .ok (.iconst 1, 1) := by decide +kernel
theorem dL_law_837 : decode cL_law 837 = .ok (.iadd, 1) := by decide +kernel
theorem dL_law_838 : decode cL_law 838 = .ok (.iaload, 1) := by decide +kernel
theorem dL_law_839 : decode cL_law 839 = .ok (.invokevirtual 97, 3) := by decide +kernel
theorem dL_law_842 : decode cL_law 842 = .ok (.aload_n 2, 1) := by decide +kernel
theorem dL_law_843 : decode cL_law 843 = .ok (.aload_n 0, 1) := by decide +kernel
theorem dL_law_844 : decode cL_law 844 = .ok (.iload 4, 2) := by decide +kernel
theorem dL_law_846 : decode cL_law 846 = .ok (.iconst 1, 1) := by decide +kernel
theorem dL_law_847 : decode cL_law 847 = .ok (.iadd, 1) := by decide +kernel
theorem dL_law_848 : decode cL_law 848 = .ok (.iaload, 1) := by decide +kernel
theorem dL_law_849 : decode cL_law 849 = .ok (.invokevirtual 100, 3) := by decide +kernel
theorem dL_law_852 : decode cL_law 852 = .ok (.lcmp, 1) := by decide +kernel
theorem dL_law_853 : decode cL_law 853 = .ok (.ifCond .eq 660, 3) := by decide +kernel
theorem dL_law_856 : decode cL_law 856 = .ok (.iconst 0, 1) := by decide +kernel
theorem dL_law_857 : decode cL_law 857 = .ok (.ireturn, 1) := by decide +kernel
theorem dL_law_858 : decode cL_law 858 = .ok (.aload_n 1, 1) := by decide +kernel
theorem dL_law_859 : decode cL_law 859 = .ok (.aload_n 0, 1) := by decide +kernel
theorem dL_law_860 : decode cL_law 860 = .ok (.iload 4, 2) := by decide +kernel
theorem dL_law_862 : decode cL_law 862 = .ok (.iconst 1, 1) := by decide +kernel
theorem dL_law_863 : decode cL_law 863 = .ok (.iadd, 1) := by decide +kernel
theorem dL_law_864 : decode cL_law 864 = .ok (.iaload, 1) := by decide +kernel
theorem dL_law_865 : decode cL_law 865 = .ok (.aload_n 0, 1) := by decide +kernel
theorem dL_law_866 : decode cL_law 866 = .ok (.iload 4, 2) := by decide +kernel
theorem dL_law_868 : decode cL_law 868 = .ok (.iconst 2, 1) := by decide +kernel
theorem dL_law_869 : decode cL_law 869 = .ok (.iadd, 1) := by decide +kernel
theorem dL_law_870 : decode cL_law 870 = .ok (.iaload, 1) := by decide +kernel
theorem dL_law_871 : decode cL_law 871 = .ok (.invokevirtual 101, 3) := by decide +kernel
theorem dL_law_874 : decode cL_law 874 = .ok (.aload_n 2, 1) := by decide +kernel
theorem dL_law_875 : decode cL_law 875 = .ok (.aload_n 0, 1) := by decide +kernel
theorem dL_law_876 : decode cL_law 876 = .ok (.iload 4, 2) := by decide +kernel
theorem dL_law_878 : decode cL_law 878 = .ok (.iconst 1, 1) := by decide +kernel
theorem dL_law_879 : decode cL_law 879 = .ok (.iadd, 1) := by decide +kernel
theorem dL_law_880 : decode cL_law 880 = .ok (.iaload, 1) := by decide +kernel
theorem dL_law_881 : decode cL_law 881 = .ok (.aload_n 0, 1) := by decide +kernel
theorem dL_law_882 : decode cL_law 882 = .ok (.iload 4, 2) := by decide +kernel
theorem dL_law_884 : decode cL_law 884 = .ok (.iconst 2, 1) := by decide +kernel
theorem dL_law_885 : decode cL_law 885 = .ok (.iadd, 1) := by decide +kernel
theorem dL_law_886 : decode cL_law 886 = .ok (.iaload, 1) := by decide +kernel
theorem dL_law_887 : decode cL_law 887 = .ok (.invokevirtual 104, 3) := by decide +kernel
theorem dL_law_890 : decode cL_law 890 = .ok (.lcmp, 1) := by decide +kernel
theorem dL_law_891 : decode cL_law 891 = .ok (.ifCond .eq 622, 3) := by decide +kernel
theorem dL_law_894 : decode cL_law 894 = .ok (.iconst 0, 1) := by decide +kernel
theorem dL_law_895 : decode cL_law 895 = .ok (.ireturn, 1) := by decide +kernel
theorem dL_law_896 : decode cL_law 896 = .ok (.aload_n 1, 1) := by decide +kernel
theorem dL_law_897 : decode cL_law 897 = .ok (.aload_n 0, 1) := by decide +kernel
theorem dL_law_898 : decode cL_law 898 = .ok (.iload 4, 2) := by decide +kernel
theorem dL_law_900 : decode cL_law 900 = .ok (.iconst 1, 1) := by decide +kernel
theorem dL_law_901 : decode cL_law 901 = .ok (.iadd, 1) := by decide +kernel
theorem dL_law_902 : decode cL_law 902 = .ok (.iaload, 1) := by decide +kernel
theorem dL_law_903 : decode cL_law 903 = .ok (.invokevirtual 105, 3) := by decide +kernel
theorem dL_law_906 : decode cL_law 906 = .ok (.aload_n 2, 1) := by decide +kernel
theorem dL_law_907 : decode cL_law 907 = .ok (.aload_n 0, 1) := by decide +kernel
theorem dL_law_908 : decode cL_law 908 = .ok (.iload 4, 2) := by decide +kernel
theorem dL_law_910 : decode cL_law 910 = .ok (.iconst 1, 1) := by decide +kernel
theorem dL_law_911 : decode cL_law 911 = .ok (.iadd, 1) := by decide +kernel
theorem dL_law_912 : decode cL_law 912 = .ok (.iaload, 1) := by decide +kernel
theorem dL_law_913 : decode cL_law 913 = .ok (.invokevirtual 108, 3) := by decide +kernel
theorem dL_law_916 : decode cL_law 916 = .ok (.if_icmp .eq 597, 3) := by decide +kernel
theorem dL_law_919 : decode cL_law 919 = .ok (.iconst 0, 1) := by decide +kernel
theorem dL_law_920 : decode cL_law 920 = .ok (.ireturn, 1) := by decide +kernel
theorem dL_law_921 : decode cL_law 921 = .ok (.aload_n 1, 1) := by decide +kernel
theorem dL_law_922 : decode cL_law 922 = .ok (.aload_n 0, 1) := by decide +kernel
theorem dL_law_923 : decode cL_law 923 = .ok (.iload 4, 2) := by decide +kernel
theorem dL_law_925 : decode cL_law 925 = .ok (.iconst 1, 1) := by decide +kernel
theorem dL_law_926 : decode cL_law 926 = .ok (.iadd, 1) := by decide +kernel
theorem dL_law_927 : decode cL_law 927 = .ok (.iaload, 1) := by decide +kernel
theorem dL_law_928 : decode cL_law 928 = .ok (.invokevirtual 109, 3) := by decide +kernel
theorem dL_law_931 : decode cL_law 931 = .ok (.aload_n 2, 1) := by decide +kernel
theorem dL_law_932 : decode cL_law 932 = .ok (.aload_n 0, 1) := by decide +kernel
theorem dL_law_933 : decode cL_law 933 = .ok (.iload 4, 2) := by decide +kernel
theorem dL_law_935 : decode cL_law 935 = .ok (.iconst 1, 1) := by decide +kernel
theorem dL_law_936 : decode cL_law 936 = .ok (.iadd, 1) := by decide +kernel
theorem dL_law_937 : decode cL_law 937 = .ok (.iaload, 1) := by decide +kernel
theorem dL_law_938 : decode cL_law 938 = .ok (.invokevirtual 112, 3) := by decide +kernel
theorem dL_law_941 : decode cL_law 941 = .ok (.lcmp, 1) := by decide +kernel
theorem dL_law_942 : decode cL_law 942 = .ok (.ifCond .eq 571, 3) := by decide +kernel
theorem dL_law_945 : decode cL_law 945 = .ok (.iconst 0, 1) := by decide +kernel
theorem dL_law_946 : decode cL_law 946 = .ok (.ireturn, 1) := by decide +kernel
theorem dL_law_947 : decode cL_law 947 = .ok (.aload_n 1, 1) := by decide +kernel
theorem dL_law_948 : decode cL_law 948 = .ok (.invokevirtual 113, 3) := by decide +kernel
theorem dL_law_951 : decode cL_law 951 = .ok (.aload_n 2, 1) := by decide +kernel
theorem dL_law_952 : decode cL_law 952 = .ok (.invokevirtual 116, 3) := by decide +kernel
theorem dL_law_955 : decode cL_law 955 = .ok (.if_icmp .eq 558, 3) := by decide +kernel
theorem dL_law_958 : decode cL_law 958 = .ok (.iconst 0, 1) := by decide +kernel
theorem dL_law_959 : decode cL_law 959 = .ok (.ireturn, 1) := by decide +kernel
theorem dL_law_960 : decode cL_law 960 = .ok (.aload_n 1, 1) := by decide +kernel
theorem dL_law_961 : decode cL_law 961 = .ok (.aload_n 0, 1) := by decide +kernel
theorem dL_law_962 : decode cL_law 962 = .ok (.iload 4, 2) := by decide +kernel
theorem dL_law_964 : decode cL_law 964 = .ok (.iconst 1, 1) := by decide +kernel
theorem dL_law_965 : decode cL_law 965 = .ok (.iadd, 1) := by decide +kernel
theorem dL_law_966 : decode cL_law 966 = .ok (.iaload, 1) := by decide +kernel
theorem dL_law_967 : decode cL_law 967 = .ok (.aload_n 0, 1) := by decide +kernel
theorem dL_law_968 : decode cL_law 968 = .ok (.iload 4, 2) := by decide +kernel
theorem dL_law_970 : decode cL_law 970 = .ok (.iconst 2, 1) := by decide +kernel
theorem dL_law_971 : decode cL_law 971 = .ok (.iadd, 1) := by decide +kernel
theorem dL_law_972 : decode cL_law 972 = .ok (.iaload, 1) := by decide +kernel
theorem dL_law_973 : decode cL_law 973 = .ok (.aload_n 0, 1) := by decide +kernel
theorem dL_law_974 : decode cL_law 974 = .ok (.iload 4, 2) := by decide +kernel
theorem dL_law_976 : decode cL_law 976 = .ok (.iconst 3, 1) := by decide +kernel
theorem dL_law_977 : decode cL_law 977 = .ok (.iadd, 1) := by decide +kernel
theorem dL_law_978 : decode cL_law 978 = .ok (.iaload, 1) := by decide +kernel
theorem dL_law_979 : decode cL_law 979 = .ok (.invokevirtual 117, 3) := by decide +kernel
theorem dL_law_982 : decode cL_law 982 = .ok (.aload_n 2, 1) := by decide +kernel
theorem dL_law_983 : decode cL_law 983 = .ok (.aload_n 0, 1) := by decide +kernel
theorem dL_law_984 : decode cL_law 984 = .ok (.iload 4, 2) := by decide +kernel
theorem dL_law_986 : decode cL_law 986 = .ok (.iconst 1, 1) := by decide +kernel
theorem dL_law_987 : decode cL_law 987 = .ok (.iadd, 1) := by decide +kernel
theorem dL_law_988 : decode cL_law 988 = .ok (.iaload, 1) := by decide +kernel
theorem dL_law_989 : decode cL_law 989 = .ok (.aload_n 0, 1) := by decide +kernel
theorem dL_law_990 : decode cL_law 990 = .ok (.iload 4, 2) := by decide +kernel
theorem dL_law_992 : decode cL_law 992 = .ok (.iconst 2, 1) := by decide +kernel
theorem dL_law_993 : decode cL_law 993 = .ok (.iadd, 1) := by decide +kernel
theorem dL_law_994 : decode cL_law 994 = .ok (.iaload, 1) := by decide +kernel
theorem dL_law_995 : decode cL_law 995 = .ok (.aload_n 0, 1) := by decide +kernel
theorem dL_law_996 : decode cL_law 996 = .ok (.iload 4, 2) := by decide +kernel
theorem dL_law_998 : decode cL_law 998 = .ok (.iconst 3, 1) := by decide +kernel
theorem dL_law_999 : decode cL_law 999 = .ok (.iadd, 1) := by decide +kernel
theorem dL_law_1000 : decode cL_law 1000 = .ok (.iaload, 1) := by decide +kernel
theorem dL_law_1001 : decode cL_law 1001 = .ok (.invokevirtual 120, 3) := by decide +kernel
theorem dL_law_1004 : decode cL_law 1004 = .ok (.lcmp, 1) := by decide +kernel
theorem dL_law_1005 : decode cL_law 1005 = .ok (.ifCond .eq 508, 3) := by decide +kernel
theorem dL_law_1008 : decode cL_law 1008 = .ok (.iconst 0, 1) := by decide +kernel
theorem dL_law_1009 : decode cL_law 1009 = .ok (.ireturn, 1) := by decide +kernel
theorem dL_law_1010 : decode cL_law 1010 = .ok (.aload_n 1, 1) := by decide +kernel
theorem dL_law_1011 : decode cL_law 1011 = .ok (.aload_n 0, 1) := by decide +kernel
theorem dL_law_1012 : decode cL_law 1012 = .ok (.iload 4, 2) := by decide +kernel
theorem dL_law_1014 : decode cL_law 1014 = .ok (.iconst 1, 1) := by decide +kernel
theorem dL_law_1015 : decode cL_law 1015 = .ok (.iadd, 1) := by decide +kernel
theorem dL_law_1016 : decode cL_law 1016 = .ok (.iaload, 1) := by decide +kernel
theorem dL_law_1017 : decode cL_law 1017 = .ok (.aload_n 0, 1) := by decide +kernel
theorem dL_law_1018 : decode cL_law 1018 = .ok (.iload 4, 2) := by decide +kernel
theorem dL_law_1020 : decode cL_law 1020 = .ok (.iconst 2, 1) := by decide +kernel
theorem dL_law_1021 : decode cL_law 1021 = .ok (.iadd, 1) := by decide +kernel
theorem dL_law_1022 : decode cL_law 1022 = .ok (.iaload, 1) := by decide +kernel
theorem dL_law_1023 : decode cL_law 1023 = .ok (.aload_n 0, 1) := by decide +kernel
theorem dL_law_1024 : decode cL_law 1024 = .ok (.iload 4, 2) := by decide +kernel
theorem dL_law_1026 : decode cL_law 1026 = .ok (.iconst 3, 1) := by decide +kernel
theorem dL_law_1027 : decode cL_law 1027 = .ok (.iadd, 1) := by decide +kernel
theorem dL_law_1028 : decode cL_law 1028 = .ok (.iaload, 1) := by decide +kernel
theorem dL_law_1029 : decode cL_law 1029 = .ok (.invokevirtual 121, 3) := by decide +kernel
theorem dL_law_1032 : decode cL_law 1032 = .ok (.aload_n 2, 1) := by decide +kernel
theorem dL_law_1033 : decode cL_law 1033 = .ok (.aload_n 0, 1) := by decide +kernel
theorem dL_law_1034 : decode cL_law 1034 = .ok (.iload 4, 2) := by decide +kernel
theorem dL_law_1036 : decode cL_law 1036 = .ok (.iconst 1, 1) := by decide +kernel
theorem dL_law_1037 : decode cL_law 1037 = .ok (.iadd, 1) := by decide +kernel
theorem dL_law_1038 : decode cL_law 1038 = .ok (.iaload, 1) := by decide +kernel
theorem dL_law_1039 : decode cL_law 1039 = .ok (.aload_n 0, 1) := by decide +kernel
theorem dL_law_1040 : decode cL_law 1040 = .ok (.iload 4, 2) := by decide +kernel
theorem dL_law_1042 : decode cL_law 1042 = .ok (.iconst 2, 1) := by decide +kernel
theorem dL_law_1043 : decode cL_law 1043 = .ok (.iadd, 1) := by decide +kernel
theorem dL_law_1044 : decode cL_law 1044 = .ok (.iaload, 1) := by decide +kernel
theorem dL_law_1045 : decode cL_law 1045 = .ok (.aload_n 0, 1) := by decide +kernel
theorem dL_law_1046 : decode cL_law 1046 = .ok (.iload 4, 2) := by decide +kernel
theorem dL_law_1048 : decode cL_law 1048 = .ok (.iconst 3, 1) := by decide +kernel
theorem dL_law_1049 : decode cL_law 1049 = .ok (.iadd, 1) := by decide +kernel
theorem dL_law_1050 : decode cL_law 1050 = .ok (.iaload, 1) := by decide +kernel
theorem dL_law_1051 : decode cL_law 1051 = .ok (.invokevirtual 125, 3) := by decide +kernel
theorem dL_law_1054 : decode cL_law 1054 = .ok (.if_icmp .eq 459, 3) := by decide +kernel
theorem dL_law_1057 : decode cL_law 1057 = .ok (.iconst 0, 1) := by decide +kernel
theorem dL_law_1058 : decode cL_law 1058 = .ok (.ireturn, 1) := by decide +kernel
theorem dL_law_1059 : decode cL_law 1059 = .ok (.aload_n 1, 1) := by decide +kernel
theorem dL_law_1060 : decode cL_law 1060 = .ok (.aload_n 0, 1) := by decide +kernel
theorem dL_law_1061 : decode cL_law 1061 = .ok (.iload 4, 2) := by decide +kernel
theorem dL_law_1063 : decode cL_law 1063 = .ok (.iconst 1, 1) := by decide +kernel
theorem dL_law_1064 : decode cL_law 1064 = .ok (.iadd, 1) := by decide +kernel
theorem dL_law_1065 : decode cL_law 1065 = .ok (.iaload, 1) := by decide +kernel
theorem dL_law_1066 : decode cL_law 1066 = .ok (.aload_n 0, 1) := by decide +kernel
theorem dL_law_1067 : decode cL_law 1067 = .ok (.iload 4, 2) := by decide +kernel
theorem dL_law_1069 : decode cL_law 1069 = .ok (.iconst 2, 1) := by decide +kernel
theorem dL_law_1070 : decode cL_law 1070 = .ok (.iadd, 1) := by decide +kernel
theorem dL_law_1071 : decode cL_law 1071 = .ok (.iaload, 1) := by decide +kernel
theorem dL_law_1072 : decode cL_law 1072 = .ok (.aload_n 0, 1) := by decide +kernel
theorem dL_law_1073 : decode cL_law 1073 = .ok (.iload 4, 2) := by decide +kernel
theorem dL_law_1075 : decode cL_law 1075 = .ok (.iconst 3, 1) := by decide +kernel
theorem dL_law_1076 : decode cL_law 1076 = .ok (.iadd, 1) := by decide +kernel
theorem dL_law_1077 : decode cL_law 1077 = .ok (.iaload, 1) := by decide +kernel
theorem dL_law_1078 : decode cL_law 1078 = .ok (.aload_n 0, 1) := by decide +kernel
theorem dL_law_1079 : decode cL_law 1079 = .ok (.iload 4, 2) := by decide +kernel
theorem dL_law_1081 : decode cL_law 1081 = .ok (.iconst 4, 1) := by decide +kernel
theorem dL_law_1082 : decode cL_law 1082 = .ok (.iadd, 1) := by decide +kernel
theorem dL_law_1083 : decode cL_law 1083 = .ok (.iaload, 1) := by decide +kernel
theorem dL_law_1084 : decode cL_law 1084 = .ok (.invokevirtual 126, 3) := by decide +kernel
theorem dL_law_1087 : decode cL_law 1087 = .ok (.aload_n 2, 1) := by decide +kernel
theorem dL_law_1088 : decode cL_law 1088 = .ok (.aload_n 0, 1) := by decide +kernel
theorem dL_law_1089 : decode cL_law 1089 = .ok (.iload 4, 2) := by decide +kernel
theorem dL_law_1091 : decode cL_law 1091 = .ok (.iconst 1, 1) := by decide +kernel
theorem dL_law_1092 : decode cL_law 1092 = .ok (.iadd, 1) := by decide +kernel
theorem dL_law_1093 : decode cL_law 1093 = .ok (.iaload, 1) := by decide +kernel
theorem dL_law_1094 : decode cL_law 1094 = .ok (.aload_n 0, 1) := by decide +kernel
theorem dL_law_1095 : decode cL_law 1095 = .ok (.iload 4, 2) := by decide +kernel
theorem dL_law_1097 : decode cL_law 1097 = .ok (.iconst 2, 1) := by decide +kernel
theorem dL_law_1098 : decode cL_law 1098 = .ok (.iadd, 1) := by decide +kernel
theorem dL_law_1099 : decode cL_law 1099 = .ok (.iaload, 1) := by decide +kernel
theorem dL_law_1100 : decode cL_law 1100 = .ok (.aload_n 0, 1) := by decide +kernel
theorem dL_law_1101 : decode cL_law 1101 = .ok (.iload 4, 2) := by decide +kernel
theorem dL_law_1103 : decode cL_law 1103 = .ok (.iconst 3, 1) := by decide +kernel
theorem dL_law_1104 : decode cL_law 1104 = .ok (.iadd, 1) := by decide +kernel
theorem dL_law_1105 : decode cL_law 1105 = .ok (.iaload, 1) := by decide +kernel
theorem dL_law_1106 : decode cL_law 1106 = .ok (.aload_n 0, 1) := by decide +kernel
theorem dL_law_1107 : decode cL_law 1107 = .ok (.iload 4, 2) := by decide +kernel
theorem dL_law_1109 : decode cL_law 1109 = .ok (.iconst 4, 1) := by decide +kernel
theorem dL_law_1110 : decode cL_law 1110 = .ok (.iadd, 1) := by decide +kernel
theorem dL_law_1111 : decode cL_law 1111 = .ok (.iaload, 1) := by decide +kernel
theorem dL_law_1112 : decode cL_law 1112 = .ok (.invokevirtual 130, 3) := by decide +kernel
theorem dL_law_1115 : decode cL_law 1115 = .ok (.lcmp, 1) := by decide +kernel
theorem dL_law_1116 : decode cL_law 1116 = .ok (.ifCond .eq 397, 3) := by decide +kernel
theorem dL_law_1119 : decode cL_law 1119 = .ok (.iconst 0, 1) := by decide +kernel
theorem dL_law_1120 : decode cL_law 1120 = .ok (.ireturn, 1) := by decide +kernel
theorem dL_law_1121 : decode cL_law 1121 = .ok (.aload_n 1, 1) := by decide +kernel
theorem dL_law_1122 : decode cL_law 1122 = .ok (.invokevirtual 131, 3) := by decide +kernel
theorem dL_law_1125 : decode cL_law 1125 = .ok (.aload_n 2, 1) := by decide +kernel
theorem dL_law_1126 : decode cL_law 1126 = .ok (.invokevirtual 135, 3) := by decide +kernel
theorem dL_law_1129 : decode cL_law 1129 = .ok (.lcmp, 1) := by decide +kernel
theorem dL_law_1130 : decode cL_law 1130 = .ok (.ifCond .eq 383, 3) := by decide +kernel
theorem dL_law_1133 : decode cL_law 1133 = .ok (.iconst 0, 1) := by decide +kernel
theorem dL_law_1134 : decode cL_law 1134 = .ok (.ireturn, 1) := by decide +kernel
theorem dL_law_1135 : decode cL_law 1135 = .ok (.aload_n 1, 1) := by decide +kernel
theorem dL_law_1136 : decode cL_law 1136 = .ok (.aload_n 0, 1) := by decide +kernel
theorem dL_law_1137 : decode cL_law 1137 = .ok (.iload 4, 2) := by decide +kernel
theorem dL_law_1139 : decode cL_law 1139 = .ok (.iconst 1, 1) := by decide +kernel
theorem dL_law_1140 : decode cL_law 1140 = .ok (.iadd, 1) := by decide +kernel
theorem dL_law_1141 : decode cL_law 1141 = .ok (.iaload, 1) := by decide +kernel
theorem dL_law_1142 : decode cL_law 1142 = .ok (.aload_n 0, 1) := by decide +kernel
theorem dL_law_1143 : decode cL_law 1143 = .ok (.iload 4, 2) := by decide +kernel
theorem dL_law_1145 : decode cL_law 1145 = .ok (.iconst 2, 1) := by decide +kernel
theorem dL_law_1146 : decode cL_law 1146 = .ok (.iadd, 1) := by decide +kernel
theorem dL_law_1147 : decode cL_law 1147 = .ok (.iaload, 1) := by decide +kernel
theorem dL_law_1148 : decode cL_law 1148 = .ok (.aload_n 0, 1) := by decide +kernel
theorem dL_law_1149 : decode cL_law 1149 = .ok (.iload 4, 2) := by decide +kernel
theorem dL_law_1151 : decode cL_law 1151 = .ok (.iconst 3, 1) := by decide +kernel
theorem dL_law_1152 : decode cL_law 1152 = .ok (.iadd, 1) := by decide +kernel
theorem dL_law_1153 : decode cL_law 1153 = .ok (.iaload, 1) := by decide +kernel
theorem dL_law_1154 : decode cL_law 1154 = .ok (.invokevirtual 136, 3) := by decide +kernel
theorem dL_law_1157 : decode cL_law 1157 = .ok (.aload_n 2, 1) := by decide +kernel
theorem dL_law_1158 : decode cL_law 1158 = .ok (.aload_n 0, 1) := by decide +kernel
theorem dL_law_1159 : decode cL_law 1159 = .ok (.iload 4, 2) := by decide +kernel
theorem dL_law_1161 : decode cL_law 1161 = .ok (.iconst 1, 1) := by decide +kernel
theorem dL_law_1162 : decode cL_law 1162 = .ok (.iadd, 1) := by decide +kernel
theorem dL_law_1163 : decode cL_law 1163 = .ok (.iaload, 1) := by decide +kernel
theorem dL_law_1164 : decode cL_law 1164 = .ok (.aload_n 0, 1) := by decide +kernel
theorem dL_law_1165 : decode cL_law 1165 = .ok (.iload 4, 2) := by decide +kernel
theorem dL_law_1167 : decode cL_law 1167 = .ok (.iconst 2, 1) := by decide +kernel
theorem dL_law_1168 : decode cL_law 1168 = .ok (.iadd, 1) := by decide +kernel
theorem dL_law_1169 : decode cL_law 1169 = .ok (.iaload, 1) := by decide +kernel
theorem dL_law_1170 : decode cL_law 1170 = .ok (.aload_n 0, 1) := by decide +kernel
theorem dL_law_1171 : decode cL_law 1171 = .ok (.iload 4, 2) := by decide +kernel
theorem dL_law_1173 : decode cL_law 1173 = .ok (.iconst 3, 1) := by decide +kernel
theorem dL_law_1174 : decode cL_law 1174 = .ok (.iadd, 1) := by decide +kernel
theorem dL_law_1175 : decode cL_law 1175 = .ok (.iaload, 1) := by decide +kernel
theorem dL_law_1176 : decode cL_law 1176 = .ok (.invokevirtual 139, 3) := by decide +kernel
theorem dL_law_1179 : decode cL_law 1179 = .ok (.if_icmp .eq 334, 3) := by decide +kernel
theorem dL_law_1182 : decode cL_law 1182 = .ok (.iconst 0, 1) := by decide +kernel
theorem dL_law_1183 : decode cL_law 1183 = .ok (.ireturn, 1) := by decide +kernel
theorem dL_law_1184 : decode cL_law 1184 = .ok (.aload_n 1, 1) := by decide +kernel
theorem dL_law_1185 : decode cL_law 1185 = .ok (.aload_n 0, 1) := by decide +kernel
theorem dL_law_1186 : decode cL_law 1186 = .ok (.iload 4, 2) := by decide +kernel
theorem dL_law_1188 : decode cL_law 1188 = .ok (.iconst 1, 1) := by decide +kernel
theorem dL_law_1189 : decode cL_law 1189 = .ok (.iadd, 1) := by decide +kernel
theorem dL_law_1190 : decode cL_law 1190 = .ok (.iaload, 1) := by decide +kernel
theorem dL_law_1191 : decode cL_law 1191 = .ok (.aload_n 0, 1) := by decide +kernel
theorem dL_law_1192 : decode cL_law 1192 = .ok (.iload 4, 2) := by decide +kernel
theorem dL_law_1194 : decode cL_law 1194 = .ok (.iconst 2, 1) := by decide +kernel
theorem dL_law_1195 : decode cL_law 1195 = .ok (.iadd, 1) := by decide +kernel
theorem dL_law_1196 : decode cL_law 1196 = .ok (.iaload, 1) := by decide +kernel
theorem dL_law_1197 : decode cL_law 1197 = .ok (.aload_n 0, 1) := by decide +kernel
theorem dL_law_1198 : decode cL_law 1198 = .ok (.iload 4, 2) := by decide +kernel
theorem dL_law_1200 : decode cL_law 1200 = .ok (.iconst 3, 1) := by decide +kernel
theorem dL_law_1201 : decode cL_law 1201 = .ok (.iadd, 1) := by decide +kernel
theorem dL_law_1202 : decode cL_law 1202 = .ok (.iaload, 1) := by decide +kernel
theorem dL_law_1203 : decode cL_law 1203 = .ok (.aload_n 0, 1) := by decide +kernel
theorem dL_law_1204 : decode cL_law 1204 = .ok (.iload 4, 2) := by decide +kernel
theorem dL_law_1206 : decode cL_law 1206 = .ok (.iconst 4, 1) := by decide +kernel
theorem dL_law_1207 : decode cL_law 1207 = .ok (.iadd, 1) := by decide +kernel
theorem dL_law_1208 : decode cL_law 1208 = .ok (.iaload, 1) := by decide +kernel
theorem dL_law_1209 : decode cL_law 1209 = .ok (.invokevirtual 140, 3) := by decide +kernel
theorem dL_law_1212 : decode cL_law 1212 = .ok (.aload_n 2, 1) := by decide +kernel
theorem dL_law_1213 : decode cL_law 1213 = .ok (.aload_n 0, 1) := by decide +kernel
theorem dL_law_1214 : decode cL_law 1214 = .ok (.iload 4, 2) := by decide +kernel
theorem dL_law_1216 : decode cL_law 1216 = .ok (.iconst 1, 1) := by decide +kernel
theorem dL_law_1217 : decode cL_law 1217 = .ok (.iadd, 1) := by decide +kernel
theorem dL_law_1218 : decode cL_law 1218 = .ok (.iaload, 1) := by decide +kernel
theorem dL_law_1219 : decode cL_law 1219 = .ok (.aload_n 0, 1) := by decide +kernel
theorem dL_law_1220 : decode cL_law 1220 = .ok (.iload 4, 2) := by decide +kernel
theorem dL_law_1222 : decode cL_law 1222 = .ok (.iconst 2, 1) := by decide +kernel
theorem dL_law_1223 : decode cL_law 1223 = .ok (.iadd, 1) := by decide +kernel
theorem dL_law_1224 : decode cL_law 1224 = .ok (.iaload, 1) := by decide +kernel
theorem dL_law_1225 : decode cL_law 1225 = .ok (.aload_n 0, 1) := by decide +kernel
theorem dL_law_1226 : decode cL_law 1226 = .ok (.iload 4, 2) := by decide +kernel
theorem dL_law_1228 : decode cL_law 1228 = .ok (.iconst 3, 1) := by decide +kernel
theorem dL_law_1229 : decode cL_law 1229 = .ok (.iadd, 1) := by decide +kernel
theorem dL_law_1230 : decode cL_law 1230 = .ok (.iaload, 1) := by decide +kernel
theorem dL_law_1231 : decode cL_law 1231 = .ok (.aload_n 0, 1) := by decide +kernel
theorem dL_law_1232 : decode cL_law 1232 = .ok (.iload 4, 2) := by decide +kernel
theorem dL_law_1234 : decode cL_law 1234 = .ok (.iconst 4, 1) := by decide +kernel
theorem dL_law_1235 : decode cL_law 1235 = .ok (.iadd, 1) := by decide +kernel
theorem dL_law_1236 : decode cL_law 1236 = .ok (.iaload, 1) := by decide +kernel
theorem dL_law_1237 : decode cL_law 1237 = .ok (.invokevirtual 144, 3) := by decide +kernel
theorem dL_law_1240 : decode cL_law 1240 = .ok (.if_icmp .eq 273, 3) := by decide +kernel
theorem dL_law_1243 : decode cL_law 1243 = .ok (.iconst 0, 1) := by decide +kernel
theorem dL_law_1244 : decode cL_law 1244 = .ok (.ireturn, 1) := by decide +kernel
theorem dL_law_1245 : decode cL_law 1245 = .ok (.aload_n 1, 1) := by decide +kernel
theorem dL_law_1246 : decode cL_law 1246 = .ok (.aload_n 0, 1) := by decide +kernel
theorem dL_law_1247 : decode cL_law 1247 = .ok (.iload 4, 2) := by decide +kernel
theorem dL_law_1249 : decode cL_law 1249 = .ok (.iconst 1, 1) := by decide +kernel
theorem dL_law_1250 : decode cL_law 1250 = .ok (.iadd, 1) := by decide +kernel
theorem dL_law_1251 : decode cL_law 1251 = .ok (.iaload, 1) := by decide +kernel
theorem dL_law_1252 : decode cL_law 1252 = .ok (.invokevirtual 145, 3) := by decide +kernel
theorem dL_law_1255 : decode cL_law 1255 = .ok (.aload_n 2, 1) := by decide +kernel
theorem dL_law_1256 : decode cL_law 1256 = .ok (.aload_n 0, 1) := by decide +kernel
theorem dL_law_1257 : decode cL_law 1257 = .ok (.iload 4, 2) := by decide +kernel
theorem dL_law_1259 : decode cL_law 1259 = .ok (.iconst 1, 1) := by decide +kernel
theorem dL_law_1260 : decode cL_law 1260 = .ok (.iadd, 1) := by decide +kernel
theorem dL_law_1261 : decode cL_law 1261 = .ok (.iaload, 1) := by decide +kernel
theorem dL_law_1262 : decode cL_law 1262 = .ok (.invokevirtual 148, 3) := by decide +kernel
theorem dL_law_1265 : decode cL_law 1265 = .ok (.if_icmp .eq 248, 3) := by decide +kernel
theorem dL_law_1268 : decode cL_law 1268 = .ok (.iconst 0, 1) := by decide +kernel
theorem dL_law_1269 : decode cL_law 1269 = .ok (.ireturn, 1) := by decide +kernel
theorem dL_law_1270 : decode cL_law 1270 = .ok (.aload_n 1, 1) := by decide +kernel
theorem dL_law_1271 : decode cL_law 1271 = .ok (.aload_n 0, 1) := by decide +kernel
theorem dL_law_1272 : decode cL_law 1272 = .ok (.iload 4, 2) := by decide +kernel
theorem dL_law_1274 : decode cL_law 1274 = .ok (.iconst 1, 1) := by decide +kernel
theorem dL_law_1275 : decode cL_law 1275 = .ok (.iadd, 1) := by decide +kernel
theorem dL_law_1276 : decode cL_law 1276 = .ok (.iaload, 1) := by decide +kernel
theorem dL_law_1277 : decode cL_law 1277 = .ok (.aload_n 0, 1) := by decide +kernel
theorem dL_law_1278 : decode cL_law 1278 = .ok (.iload 4, 2) := by decide +kernel
theorem dL_law_1280 : decode cL_law 1280 = .ok (.iconst 2, 1) := by decide +kernel
theorem dL_law_1281 : decode cL_law 1281 = .ok (.iadd, 1) := by decide +kernel
theorem dL_law_1282 : decode cL_law 1282 = .ok (.iaload, 1) := by decide +kernel
theorem dL_law_1283 : decode cL_law 1283 = .ok (.aload_n 0, 1) := by decide +kernel
theorem dL_law_1284 : decode cL_law 1284 = .ok (.iload 4, 2) := by decide +kernel
theorem dL_law_1286 : decode cL_law 1286 = .ok (.iconst 3, 1) := by decide +kernel
theorem dL_law_1287 : decode cL_law 1287 = .ok (.iadd, 1) := by decide +kernel
theorem dL_law_1288 : decode cL_law 1288 = .ok (.iaload, 1) := by decide +kernel
theorem dL_law_1289 : decode cL_law 1289 = .ok (.invokevirtual 149, 3) := by decide +kernel
theorem dL_law_1292 : decode cL_law 1292 = .ok (.aload_n 2, 1) := by decide +kernel
theorem dL_law_1293 : decode cL_law 1293 = .ok (.aload_n 0, 1) := by decide +kernel
theorem dL_law_1294 : decode cL_law 1294 = .ok (.iload 4, 2) := by decide +kernel
theorem dL_law_1296 : decode cL_law 1296 = .ok (.iconst 1, 1) := by decide +kernel
theorem dL_law_1297 : decode cL_law 1297 = .ok (.iadd, 1) := by decide +kernel
theorem dL_law_1298 : decode cL_law 1298 = .ok (.iaload, 1) := by decide +kernel
theorem dL_law_1299 : decode cL_law 1299 = .ok (.aload_n 0, 1) := by decide +kernel
theorem dL_law_1300 : decode cL_law 1300 = .ok (.iload 4, 2) := by decide +kernel
theorem dL_law_1302 : decode cL_law 1302 = .ok (.iconst 2, 1) := by decide +kernel
theorem dL_law_1303 : decode cL_law 1303 = .ok (.iadd, 1) := by decide +kernel
theorem dL_law_1304 : decode cL_law 1304 = .ok (.iaload, 1) := by decide +kernel
theorem dL_law_1305 : decode cL_law 1305 = .ok (.aload_n 0, 1) := by decide +kernel
theorem dL_law_1306 : decode cL_law 1306 = .ok (.iload 4, 2) := by decide +kernel
theorem dL_law_1308 : decode cL_law 1308 = .ok (.iconst 3, 1) := by decide +kernel
theorem dL_law_1309 : decode cL_law 1309 = .ok (.iadd, 1) := by decide +kernel
theorem dL_law_1310 : decode cL_law 1310 = .ok (.iaload, 1) := by decide +kernel
theorem dL_law_1311 : decode cL_law 1311 = .ok (.invokevirtual 152, 3) := by decide +kernel
theorem dL_law_1314 : decode cL_law 1314 = .ok (.if_icmp .eq 199, 3) := by decide +kernel
theorem dL_law_1317 : decode cL_law 1317 = .ok (.iconst 0, 1) := by decide +kernel
theorem dL_law_1318 : decode cL_law 1318 = .ok (.ireturn, 1) := by decide +kernel
theorem dL_law_1319 : decode cL_law 1319 = .ok (.aload_n 1, 1) := by decide +kernel
theorem dL_law_1320 : decode cL_law 1320 = .ok (.aload_n 0, 1) := by decide +kernel
theorem dL_law_1321 : decode cL_law 1321 = .ok (.iload 4, 2) := by decide +kernel
theorem dL_law_1323 : decode cL_law 1323 = .ok (.iconst 1, 1) := by decide +kernel
theorem dL_law_1324 : decode cL_law 1324 = .ok (.iadd, 1) := by decide +kernel
theorem dL_law_1325 : decode cL_law 1325 = .ok (.iaload, 1) := by decide +kernel
theorem dL_law_1326 : decode cL_law 1326 = .ok (.aload_n 0, 1) := by decide +kernel
theorem dL_law_1327 : decode cL_law 1327 = .ok (.iload 4, 2) := by decide +kernel
theorem dL_law_1329 : decode cL_law 1329 = .ok (.iconst 2, 1) := by decide +kernel
theorem dL_law_1330 : decode cL_law 1330 = .ok (.iadd, 1) := by decide +kernel
theorem dL_law_1331 : decode cL_law 1331 = .ok (.iaload, 1) := by decide +kernel
theorem dL_law_1332 : decode cL_law 1332 = .ok (.invokevirtual 153, 3) := by decide +kernel
theorem dL_law_1335 : decode cL_law 1335 = .ok (.aload_n 2, 1) := by decide +kernel
theorem dL_law_1336 : decode cL_law 1336 = .ok (.aload_n 0, 1) := by decide +kernel
theorem dL_law_1337 : decode cL_law 1337 = .ok (.iload 4, 2) := by decide +kernel
theorem dL_law_1339 : decode cL_law 1339 = .ok (.iconst 1, 1) := by decide +kernel
theorem dL_law_1340 : decode cL_law 1340 = .ok (.iadd, 1) := by decide +kernel
theorem dL_law_1341 : decode cL_law 1341 = .ok (.iaload, 1) := by decide +kernel
theorem dL_law_1342 : decode cL_law 1342 = .ok (.aload_n 0, 1) := by decide +kernel
theorem dL_law_1343 : decode cL_law 1343 = .ok (.iload 4, 2) := by decide +kernel
theorem dL_law_1345 : decode cL_law 1345 = .ok (.iconst 2, 1) := by decide +kernel
theorem dL_law_1346 : decode cL_law 1346 = .ok (.iadd, 1) := by decide +kernel
theorem dL_law_1347 : decode cL_law 1347 = .ok (.iaload, 1) := by decide +kernel
theorem dL_law_1348 : decode cL_law 1348 = .ok (.invokevirtual 156, 3) := by decide +kernel
theorem dL_law_1351 : decode cL_law 1351 = .ok (.if_icmp .eq 162, 3) := by decide +kernel
theorem dL_law_1354 : decode cL_law 1354 = .ok (.iconst 0, 1) := by decide +kernel
theorem dL_law_1355 : decode cL_law 1355 = .ok (.ireturn, 1) := by decide +kernel
theorem dL_law_1356 : decode cL_law 1356 = .ok (.aload_n 1, 1) := by decide +kernel
theorem dL_law_1357 : decode cL_law 1357 = .ok (.invokevirtual 157, 3) := by decide +kernel
theorem dL_law_1360 : decode cL_law 1360 = .ok (.aload_n 2, 1) := by decide +kernel
theorem dL_law_1361 : decode cL_law 1361 = .ok (.invokevirtual 160, 3) := by decide +kernel
theorem dL_law_1364 : decode cL_law 1364 = .ok (.if_icmp .eq 149, 3) := by decide +kernel
theorem dL_law_1367 : decode cL_law 1367 = .ok (.iconst 0, 1) := by decide +kernel
theorem dL_law_1368 : decode cL_law 1368 = .ok (.ireturn, 1) := by decide +kernel
theorem dL_law_1369 : decode cL_law 1369 = .ok (.aload_n 1, 1) := by decide +kernel
theorem dL_law_1370 : decode cL_law 1370 = .ok (.aload_n 0, 1) := by decide +kernel
theorem dL_law_1371 : decode cL_law 1371 = .ok (.iload 4, 2) := by decide +kernel
theorem dL_law_1373 : decode cL_law 1373 = .ok (.iconst 1, 1) := by decide +kernel
theorem dL_law_1374 : decode cL_law 1374 = .ok (.iadd, 1) := by decide +kernel
theorem dL_law_1375 : decode cL_law 1375 = .ok (.iaload, 1) := by decide +kernel
theorem dL_law_1376 : decode cL_law 1376 = .ok (.invokevirtual 161, 3) := by decide +kernel
theorem dL_law_1379 : decode cL_law 1379 = .ok (.aload_n 2, 1) := by decide +kernel
theorem dL_law_1380 : decode cL_law 1380 = .ok (.aload_n 0, 1) := by decide +kernel
theorem dL_law_1381 : decode cL_law 1381 = .ok (.iload 4, 2) := by decide +kernel
theorem dL_law_1383 : decode cL_law 1383 = .ok (.iconst 1, 1) := by decide +kernel
theorem dL_law_1384 : decode cL_law 1384 = .ok (.iadd, 1) := by decide +kernel
theorem dL_law_1385 : decode cL_law 1385 = .ok (.iaload, 1) := by decide +kernel
theorem dL_law_1386 : decode cL_law 1386 = .ok (.invokevirtual 165, 3) := by decide +kernel
theorem dL_law_1389 : decode cL_law 1389 = .ok (.if_icmp .eq 124, 3) := by decide +kernel
theorem dL_law_1392 : decode cL_law 1392 = .ok (.iconst 0, 1) := by decide +kernel
theorem dL_law_1393 : decode cL_law 1393 = .ok (.ireturn, 1) := by decide +kernel
theorem dL_law_1394 : decode cL_law 1394 = .ok (.aload_n 1, 1) := by decide +kernel
theorem dL_law_1395 : decode cL_law 1395 = .ok (.aload_n 0, 1) := by decide +kernel
theorem dL_law_1396 : decode cL_law 1396 = .ok (.iload 4, 2) := by decide +kernel
theorem dL_law_1398 : decode cL_law 1398 = .ok (.iconst 1, 1) := by decide +kernel
theorem dL_law_1399 : decode cL_law 1399 = .ok (.iadd, 1) := by decide +kernel
theorem dL_law_1400 : decode cL_law 1400 = .ok (.iaload, 1) := by decide +kernel
theorem dL_law_1401 : decode cL_law 1401 = .ok (.invokevirtual 166, 3) := by decide +kernel
theorem dL_law_1404 : decode cL_law 1404 = .ok (.aload_n 2, 1) := by decide +kernel
theorem dL_law_1405 : decode cL_law 1405 = .ok (.aload_n 0, 1) := by decide +kernel
theorem dL_law_1406 : decode cL_law 1406 = .ok (.iload 4, 2) := by decide +kernel
theorem dL_law_1408 : decode cL_law 1408 = .ok (.iconst 1, 1) := by decide +kernel
theorem dL_law_1409 : decode cL_law 1409 = .ok (.iadd, 1) := by decide +kernel
theorem dL_law_1410 : decode cL_law 1410 = .ok (.iaload, 1) := by decide +kernel
theorem dL_law_1411 : decode cL_law 1411 = .ok (.invokevirtual 169, 3) := by decide +kernel
theorem dL_law_1414 : decode cL_law 1414 = .ok (.if_icmp .eq 99, 3) := by decide +kernel
theorem dL_law_1417 : decode cL_law 1417 = .ok (.iconst 0, 1) := by decide +kernel
theorem dL_law_1418 : decode cL_law 1418 = .ok (.ireturn, 1) := by decide +kernel
theorem dL_law_1419 : decode cL_law 1419 = .ok (.aload_n 1, 1) := by decide +kernel
theorem dL_law_1420 : decode cL_law 1420 = .ok (.aload_n 0, 1) := by decide +kernel
theorem dL_law_1421 : decode cL_law 1421 = .ok (.iload 4, 2) := by decide +kernel
theorem dL_law_1423 : decode cL_law 1423 = .ok (.iconst 1, 1) := by decide +kernel
theorem dL_law_1424 : decode cL_law 1424 = .ok (.iadd, 1) := by decide +kernel
theorem dL_law_1425 : decode cL_law 1425 = .ok (.iaload, 1) := by decide +kernel
theorem dL_law_1426 : decode cL_law 1426 = .ok (.aload_n 0, 1) := by decide +kernel
theorem dL_law_1427 : decode cL_law 1427 = .ok (.iload 4, 2) := by decide +kernel
theorem dL_law_1429 : decode cL_law 1429 = .ok (.iconst 2, 1) := by decide +kernel
theorem dL_law_1430 : decode cL_law 1430 = .ok (.iadd, 1) := by decide +kernel
theorem dL_law_1431 : decode cL_law 1431 = .ok (.iaload, 1) := by decide +kernel
theorem dL_law_1432 : decode cL_law 1432 = .ok (.aload_n 3, 1) := by decide +kernel
theorem dL_law_1433 : decode cL_law 1433 = .ok (.invokestatic 170, 3) := by decide +kernel
theorem dL_law_1436 : decode cL_law 1436 = .ok (.istore 5, 2) := by decide +kernel
theorem dL_law_1438 : decode cL_law 1438 = .ok (.aload_n 2, 1) := by decide +kernel
theorem dL_law_1439 : decode cL_law 1439 = .ok (.aload_n 0, 1) := by decide +kernel
theorem dL_law_1440 : decode cL_law 1440 = .ok (.iload 4, 2) := by decide +kernel
theorem dL_law_1442 : decode cL_law 1442 = .ok (.iconst 1, 1) := by decide +kernel
theorem dL_law_1443 : decode cL_law 1443 = .ok (.iadd, 1) := by decide +kernel
theorem dL_law_1444 : decode cL_law 1444 = .ok (.iaload, 1) := by decide +kernel
theorem dL_law_1445 : decode cL_law 1445 = .ok (.aload_n 0, 1) := by decide +kernel
theorem dL_law_1446 : decode cL_law 1446 = .ok (.iload 4, 2) := by decide +kernel
theorem dL_law_1448 : decode cL_law 1448 = .ok (.iconst 2, 1) := by decide +kernel
theorem dL_law_1449 : decode cL_law 1449 = .ok (.iadd, 1) := by decide +kernel
theorem dL_law_1450 : decode cL_law 1450 = .ok (.iaload, 1) := by decide +kernel
theorem dL_law_1451 : decode cL_law 1451 = .ok (.invokevirtual 175, 3) := by decide +kernel
theorem dL_law_1454 : decode cL_law 1454 = .ok (.istore 6, 2) := by decide +kernel
theorem dL_law_1456 : decode cL_law 1456 = .ok (.aload_n 2, 1) := by decide +kernel
theorem dL_law_1457 : decode cL_law 1457 = .ok (.invokevirtual 176, 3) := by decide +kernel
theorem dL_law_1460 : decode cL_law 1460 = .ok (.iload 5, 2) := by decide +kernel
theorem dL_law_1462 : decode cL_law 1462 = .ok (.if_icmp .eq 5, 3) := by decide +kernel
theorem dL_law_1465 : decode cL_law 1465 = .ok (.iconst 0, 1) := by decide +kernel
theorem dL_law_1466 : decode cL_law 1466 = .ok (.ireturn, 1) := by decide +kernel
theorem dL_law_1467 : decode cL_law 1467 = .ok (.iload 5, 2) := by decide +kernel
theorem dL_law_1469 : decode cL_law 1469 = .ok (.ifCond .ne 15, 3) := by decide +kernel
theorem dL_law_1472 : decode cL_law 1472 = .ok (.aload_n 3, 1) := by decide +kernel
theorem dL_law_1473 : decode cL_law 1473 = .ok (.iconst 0, 1) := by decide +kernel
theorem dL_law_1474 : decode cL_law 1474 = .ok (.laload, 1) := by decide +kernel
theorem dL_law_1475 : decode cL_law 1475 = .ok (.iload 6, 2) := by decide +kernel
theorem dL_law_1477 : decode cL_law 1477 = .ok (.i2l, 1) := by decide +kernel
theorem dL_law_1478 : decode cL_law 1478 = .ok (.lcmp, 1) := by decide +kernel
theorem dL_law_1479 : decode cL_law 1479 = .ok (.ifCond .eq 5, 3) := by decide +kernel
theorem dL_law_1482 : decode cL_law 1482 = .ok (.iconst 0, 1) := by decide +kernel
theorem dL_law_1483 : decode cL_law 1483 = .ok (.ireturn, 1) := by decide +kernel
theorem dL_law_1484 : decode cL_law 1484 = .ok (.goto 29, 3) := by decide +kernel
theorem dL_law_1487 : decode cL_law 1487 = .ok (.aload_n 1, 1) := by decide +kernel
theorem dL_law_1488 : decode cL_law 1488 = .ok (.invokevirtual 179, 3) := by decide +kernel
theorem dL_law_1491 : decode cL_law 1491 = .ok (.aload_n 2, 1) := by decide +kernel
theorem dL_law_1492 : decode cL_law 1492 = .ok (.invokevirtual 182, 3) := by decide +kernel
theorem dL_law_1495 : decode cL_law 1495 = .ok (.if_icmp .eq 18, 3) := by decide +kernel
theorem dL_law_1498 : decode cL_law 1498 = .ok (.iconst 0, 1) := by decide +kernel
theorem dL_law_1499 : decode cL_law 1499 = .ok (.ireturn, 1) := by decide +kernel
theorem dL_law_1500 : decode cL_law 1500 = .ok (.aload_n 1, 1) := by decide +kernel
theorem dL_law_1501 : decode cL_law 1501 = .ok (.invokevirtual 183, 3) := by decide +kernel
theorem dL_law_1504 : decode cL_law 1504 = .ok (.aload_n 2, 1) := by decide +kernel
theorem dL_law_1505 : decode cL_law 1505 = .ok (.invokevirtual 186, 3) := by decide +kernel
theorem dL_law_1508 : decode cL_law 1508 = .ok (.if_icmp .eq 5, 3) := by decide +kernel
theorem dL_law_1511 : decode cL_law 1511 = .ok (.iconst 0, 1) := by decide +kernel
theorem dL_law_1512 : decode cL_law 1512 = .ok (.ireturn, 1) := by decide +kernel
theorem dL_law_1513 : decode cL_law 1513 = .ok (.iinc 4 6, 3) := by decide +kernel
theorem dL_law_1516 : decode cL_law 1516 = .ok (.goto (-1493), 3) := by decide +kernel
theorem dL_law_1519 : decode cL_law 1519 = .ok (.iconst 1, 1) := by decide +kernel
theorem dL_law_1520 : decode cL_law 1520 = .ok (.ireturn, 1) := by decide +kernel
end
section
/-! ===== 10.base: one list of words for all methods; arrays as functions on Fin; a contract by a pure function; calls ===== -/
def GW : List Cond := lw_tbl.filter goodWord
theorem gw_in {w : Cond} (h : w ∈ lw_tbl) (hg : goodWord w = true) : w ∈ GW := List.mem_filter.mpr ⟨h, hg⟩
theorem gw_ok {w : Cond} (h : w ∈ GW) : (w.onTables && w.keeps) = true ∨ ∃ ty, w = .arrayClass ty := good_of_word (List.mem_filter.mp h).2
theorem gw_code {w : Cond} (h : w ∈ GW) : GoodIn GW (w :: GW) := fun v hv => by
  rcases List.mem_cons.mp hv with rfl | h2
  · exact ⟨h, gw_ok h⟩
  · exact ⟨h2, gw_ok h2⟩
def isNest : Cond → Bool
  | .fieldLinkNest .. => true
  | .methodLinkNest .. => true
  | _ => false
def NW : List Cond := lw_tbl.filter isNest
theorem nw_in {w : Cond} (h : w ∈ lw_tbl) (hg : isNest w = true) : w ∈ NW := List.mem_filter.mpr ⟨h, hg⟩
theorem nw_warm {s U : State} {w : Cond} (hW : s.WarmedH U.vm) (hn : isNest w = true) (h : va_Nw w s) : va_Nw w U := by
  cases w with
  | fieldLinkNest a i b n d h9 => exact va_Nw.warmF hW h
  | methodLinkNest a i x h9 => exact va_Nw.warmM hW h
  | _ => cases hn
theorem nw_same {u U : State} {w : Cond} (hn : isNest w = true) (hv : u.vm = U.vm) (h : va_Nw w u) : va_Nw w U := by
  cases w with
  | fieldLinkNest a i b n d h9 => exact va_Nw.same rfl hv h
  | methodLinkNest a i x h9 => exact va_Nw.same rfl hv h
  | _ => cases hn
/-! what all methods take as given: tables' classes, nest links, statics; G: class numbers, array classes, addresses of the static arrays, of the words -/
abbrev GT : Type := va_G × (Nat → ClassId) × (Nat → Nat) × (Nat → Nat)
def tysG (G : GT) : List (ClassId × FieldType) := [(G.2.1 0, .int), (G.2.1 1, .long), (G.2.1 2, .byte), (G.2.1 3, .boolean), (G.2.1 4, .object "BothToBlame$Told")]
def sA_n : Nat → String
  | 0 => "SHIP_LOW" | 1 => "SHIP_HIGH" | 2 => "LAW_LOW" | 3 => "LAW_HIGH" | _ => "LAW_UNTOLD"
def sA_v : Nat → List Int32
  | 0 => [1, 0, 0, 0, 0, 0] | 1 => [99999, 10, 9999999, 9999999, 1, 1] | 2 => [0, 0, 0, 0, 0, 0, 0, 1, 0, 0]
  | 3 => [0, 0, 1, 1, 1, 99999, 99999, 99999, 999, 999] | _ => [0, 0, 0, 0, 0, 100, 200, 300, 365, 730]
def wd_n : List String := ["SHIP_WORD", "TONS_WORD", "FAULT_WORD", "HULL_WORD", "VALUE_WORD", "CLAUSE_WORD", "BARRED_WORD", "DAY_WORD", "GOODS_WORD", "PERSONS_WORD", "OTHERS_WORD", "EQUAL_WORD", "WHOLE_WORD", "CROSS_WORD", "RATE_WORD", "LIVES_WORD", "LEAST_WORD", "DUE_WORD", "LAST_WORD"]
def wd_role : List Int32 := [1, 0, 0, 0, 0, 0, 0, 0, 2, 2, 2, 3, 3, 3, 3, 3, 3, 3, 3]
def wd_col : List Int32 := [0, 0, 1, 2, 3, 4, 5, 3, 0, 1, 2, 2, 3, 4, 5, 6, 7, 8, 9]
def wd_F : List (String × String × String × List Int32) := [("BothToBlame$Word", "role", "I", wd_role), ("BothToBlame$Word", "column", "I", wd_col)]
def wd_let : List Int64 := [533779, 637428, 21386278, 406184, 5943350, 188384643, 140068898, 25636, 20069863, 20887226544, 656581263, 12637733, 5651735, 20561475, 184370, 20109612, 21595308, 5796, 674860]
def SF (G : GT) (A : Nat → Prop) (U : State) (H : Heap) : Prop :=
  (∀ k, k < 5 → va_Z "BothToBlame" (sA_n k) "[I" (.ref (G.2.2.1 k)) A U H ∧ va_T .int (G.2.2.1 k) (sA_v k).length (fun j => .int ((sA_v k).getD j 0)) A U H) ∧
  va_Z "BothToBlame$Reader" "WORDS" "[LBothToBlame$Word;" (.ref (G.2.2.1 5)) A U H ∧ va_T (.object "BothToBlame$Word") (G.2.2.1 5) 19 (fun j => .ref (G.2.2.2 j)) A U H ∧
  va_En "BothToBlame$Word" "LBothToBlame$Word;" wd_n wd_F G.2.2.2 A U H ∧ va_Ef 19 "BothToBlame$Word" "letters" "J" (fun i => .long (wd_let.getD i 0)) G.2.2.2 A U H
theorem SF.moved {G : GT} {A : Nat → Prop} {u U : State} {H : Heap} (hvm : u.vm.Alike U.vm) (h : SF G A u H) : SF G A U H :=
  ⟨fun k hk => ⟨(h.1 k hk).1.moved hvm, (h.1 k hk).2.moved hvm⟩, h.2.1.moved hvm, h.2.2.1.moved hvm, h.2.2.2.1.moved hvm, h.2.2.2.2.moved hvm⟩
theorem SF.kept {G : GT} {A : Nat → Prop} {U : State} {H H1 : Heap} (h : SF G A U H) (hq : ∀ a : Nat, a < H.size → ¬ A a → H1[a]? = H[a]?) : SF G A U H1 :=
  ⟨fun k hk => ⟨(h.1 k hk).1.kept hq, (h.1 k hk).2.kept hq⟩, h.2.1.kept hq, h.2.2.1.kept hq, h.2.2.2.1.kept hq, h.2.2.2.2.kept hq⟩
theorem SF.narrow {G : GT} {A B : Nat → Prop} {U : State} {H : Heap} (h : SF G A U H) (hAB : ∀ q, B q → A q) : SF G B U H :=
  ⟨fun k hk => ⟨(h.1 k hk).1.narrow hAB, (h.1 k hk).2.narrow hAB⟩, h.2.1.narrow hAB, h.2.2.1.narrow hAB, h.2.2.2.1.narrow hAB, h.2.2.2.2.narrow hAB⟩
def EV (G : GT) (A : Nat → Prop) (U : State) (H : Heap) : Prop := va_K G.1 vwCl (tysG G) U ∧ (∀ w ∈ NW, va_Nw w U) ∧ SF G A U H
theorem EV.call {G : GT} {A B : Nat → Prop} {s U : State} {H : Heap} {locs : List Loc} (h : EV G A s s.heap) (hS : va_S A s.heap H locs) (hB : ∀ q, B q → A q) (hU : U.heap = H) (hW : s.WarmedH U.vm) : EV G B U U.heap :=
  ⟨va_K.moved hW.alike h.1, fun w hw => nw_warm hW (List.mem_filter.mp hw).2 (h.2.1 w hw), by
    rw [hU]
    exact ((h.2.2.kept hS.2.1).moved hW.alike).narrow hB⟩
theorem EV.blind {G : GT} {B : Nat → Prop} {U U2 : State} (hv : U.vm = U2.vm) (hh : U.heap = U2.heap) (h : EV G B U U.heap) : EV G B U2 U2.heap :=
  ⟨va_K.moved (by rw [hv]; exact Vm.Alike.refl U2.vm) h.1, fun w hw => nw_same (List.mem_filter.mp hw).2 hv (h.2.1 w hw), by
    rw [← hh]
    exact h.2.2.moved (by rw [hv]; exact Vm.Alike.refl U2.vm)⟩
/-! the world at a point of a walk -/
def SI (G : GT) (A : Nat → Prop) (s : State) (H : Heap) (locs : List Loc) (ws : va_W) : Prop := va_P G.1 vwCl ws H ∧ va_D A ws ∧ va_S A s.heap H locs
theorem va_D_iff {A : Nat → Prop} {ws : va_W} : va_D A ws ↔ (ws.map Prod.fst).Nodup ∧ ∀ q ∈ ws, A q.1 := by
  constructor
  · intro h
    refine ⟨?_, fun q hq => ?_⟩
    · refine List.pairwise_iff_getElem.mpr ?_
      intro i j hi hj hij e
      rw [List.length_map] at hi hj
      rw [List.getElem_map, List.getElem_map] at e
      have := h.1 i j _ _ (List.getElem?_eq_getElem hi) (List.getElem?_eq_getElem hj) e
      omega
    · obtain ⟨i, hi⟩ := List.getElem?_of_mem hq
      exact h.2 i q hi
  · intro ⟨h1, h2⟩
    refine ⟨fun i j p q hi hj e => ?_, fun k q hk => h2 q (List.mem_of_getElem? hk)⟩
    have hil := (List.getElem?_eq_some_iff.mp hi).1
    refine (List.getElem?_inj (by rw [List.length_map]; exact hil) h1).mp ?_
    rw [List.getElem?_map, List.getElem?_map, hi, hj]
    exact congrArg some e
theorem va_D_perm {A : Nat → Prop} {w1 w2 : va_W} (h : w1.Perm w2) (hD : va_D A w1) : va_D A w2 := by
  rw [va_D_iff] at hD ⊢
  exact ⟨(h.map Prod.fst).nodup_iff.mp hD.1, fun q hq => hD.2 q (h.mem_iff.mpr hq)⟩
theorem va_P_mem {D : va_G} {cl : List vw_C} {ws : va_W} {H : Heap} : va_P D cl ws H ↔ ∀ q ∈ ws, va_at D cl q H :=
  ⟨fun h q hq => by obtain ⟨i, hi⟩ := List.getElem?_of_mem hq; exact h i q hi, fun h k q hk => h q (List.mem_of_getElem? hk)⟩
theorem va_P_perm {D : va_G} {cl : List vw_C} {w1 w2 : va_W} {H : Heap} (h : w1.Perm w2) (hP : va_P D cl w1 H) : va_P D cl w2 H :=
  va_P_mem.mpr fun q hq => va_P_mem.mp hP q (h.mem_iff.mpr hq)
theorem va_A_mem {w0 : va_W} {sz q : Nat} : va_A w0 sz q ↔ (∃ e, (q, e) ∈ w0) ∨ sz ≤ q := by
  constructor
  · rintro (⟨k, e, h⟩ | h)
    · exact Or.inl ⟨e, List.mem_of_getElem? h⟩
    · exact Or.inr h
  · rintro (⟨e, h⟩ | h)
    · obtain ⟨i, hi⟩ := List.getElem?_of_mem h
      exact Or.inl ⟨i, e, hi⟩
    · exact Or.inr h
theorem sx_sub {G : GT} {A : Nat → Prop} {s : State} {H : Heap} {locs : List Loc} {ws w0 wr : va_W} (hs : SI G A s H locs ws) (hp : (w0 ++ wr).Perm ws) (hA : ∀ q, s.heap.size ≤ q → A q) :
    va_P G.1 vwCl w0 H ∧ va_D (fun _ => True) w0 ∧ ∀ q, va_A w0 H.size q → A q := by
  have hP := va_P_perm hp.symm hs.1
  have hD := va_D_perm hp.symm hs.2.1
  refine ⟨va_P_mem.mpr fun q hq => va_P_mem.mp hP q (List.mem_append_left _ hq), ?_, fun q h => ?_⟩
  · rw [va_D_iff] at hD ⊢
    rw [List.map_append] at hD
    exact ⟨(List.nodup_append.mp hD.1).1, fun _ _ => trivial⟩
  · rcases va_A_mem.mp h with ⟨e, h⟩ | h
    · exact (va_D_iff.mp hD).2 (q, e) (List.mem_append_left _ h)
    · exact hA q (Nat.le_trans hs.2.2.1 h)
/-! a contract: w0 the world at the start, rv the answer, w1 the world at the end -/
def PM (G : GT) (w0 : va_W) (sz : Nat) : State → Prop := fun U => U.heap.size = sz ∧ va_P G.1 vwCl w0 U.heap ∧ EV G (va_A w0 sz) U U.heap ∧ va_D (fun _ => True) w0
def QMA (G : GT) (A : Nat → Prop) (rv : Option Value) (w1 : va_W) : Array Value → State → Outcome → State → Prop := fun _ st oc t => (oc = .returned rv ∧ va_P G.1 vwCl w1 t.heap ∧ va_D A w1) ∧ va_F A st t
def MT (G : GT) (l : Launch) (y : MethodName) (cc : ByteArray) (mL : Nat) (rt : Option FieldType) (fr lo : Nat) (av : List Value) (w0 : va_W) (rv : Option Value) (w1 : va_W) : Prop :=
  ∀ sz : Nat, Met l y (Cond.code y cc mL rt :: GW) ({ frames := fr, cells := 0, slots := 0, locals := lo }) (va_Pc av (PM G w0 sz)) (QMA G (va_A w0 sz) rv w1) 0 0 (va_A w0 sz)
theorem MT.of {G : GT} {l : Launch} {y : MethodName} {cc : ByteArray} {mL : Nat} {rt : Option FieldType} {fr lo : Nat} {av : List Value} {w0 : va_W} {rv : Option Value} {w1 : va_W} (hy : plainName y.cls = true) (hn : (lg_sl av).length ≤ mL)
    (body : ∀ (p : Program) (e : Env) (s : State) (m : MethodId) (args : Array Value) (below : List Frame) (meth : Method) (c : Code) (A : Nat → Prop) (ls : Array Slot),
      p.tables.exec = Jvm.exec → c.code = cc → meth.sig.returnType = rt → c.maxLocals = mL → s.vm.findClass y.cls = some m.cls → (∀ w ∈ GW, w.before args s = true) → meth.locks = false → EV G A s s.heap → (∀ q : Nat, s.heap.size ≤ q → A q) → SI G A s s.heap [] w0 → lv_has ls mL (lv_args 0 av) →
      W p l e ({ frames := fr, cells := 0, slots := 0, locals := lo }) s m args below meth c s.heap [] 0 0 (MQ below (QMA G A rv w1) args s 0 0 A) (F0 m 0 ls [])) : MT G l y cc mL rt fr lo av w0 rv w1 := by
  intro sz
  refine Met.ofW (cc := cc) (maxL := mL) (ret := rt) hy rfl ?_
  intro p e s m args below meth c s₁ B hml hv
  obtain ⟨rfl, hsz, hP, hE, hD0⟩ := hv
  subst hsz
  have hts0 := atoms_spec (ws := Cond.code y cc mL rt :: GW) B.pre
  rw [lg_entry_eq]
  exact body p e s m _ below meth c (va_A w0 s.heap.size) _ B.exec B.bytes B.returns hml (findClass_of_methodNamed B.named) (fun w h => hts0 w (List.mem_cons_of_mem _ h)) B.notSynchronized hE (fun q h => Or.inr h) ⟨hP, hD0.self, va_S.rf⟩ (lv_entry av hn)
theorem PM.blind {G : GT} {w0 : va_W} {sz : Nat} {av : List Value} : FrameBlind (va_Pc av (PM G w0 sz)) := fun a U g mk q => by
  obtain ⟨q0, q1, q2, q3, q4⟩ := q
  exact ⟨q0, q1, q2, EV.blind (U := U) (U2 := U.calling g mk a) rfl rfl q3, q4⟩
section SXRUN
variable {p : Program} {l : Launch} {e : Env} {R : Room} {s : State} {m : MethodId} {args : Array Value} {below : List Frame} {meth : Method} {c : Code} {H : Heap} {locs : List Loc} {cells slots : Nat} {Q : State → Prop}
variable {cc cy : ByteArray} {pc : Nat} {ls : Array Slot} {rest As : List Value} {A : Nat → Prop} {G : GT} {ws w0 w1 wr : va_W} {nL n idx mL fr lo b : Nat} {y : MethodName} {rt : Option FieldType} {rv : Option Value} {own Cn host : String}
theorem sx_pre (hs : SI G A s H locs ws) (hE : EV G A s s.heap) (hA : ∀ q : Nat, s.heap.size ≤ q → A q) (hp : (w0 ++ wr).Perm ws) (av : List Value) : ∀ U : State, U.heap = H → s.WarmedH U.vm → va_Pc av (PM G w0 H.size) av.toArray U := fun U hU hW => by
  obtain ⟨h1, h2, h3⟩ := sx_sub hs hp hA
  exact ⟨rfl, by rw [hU], by rw [hU]; exact h1, hE.call hs.2.2 h3 hU hW, h2⟩
/-- a method of the same class, or a public one: its words -/
def VW (own : String) (idx : Nat) (Cn : String) (y : MethodName) (cy : ByteArray) (mL : Nat) (rt : Option FieldType) (n : Nat) : Prop :=
  Cond.methodLink own idx y ∈ GW ∧ Cond.instanceMethod y ∈ GW ∧ Cond.selects Cn y y ∈ GW ∧ Cond.initialized Cn ∈ GW ∧ Cond.code y cy mL rt ∈ GW ∧ (y.cls = Cn ∧ y.cls ≠ "java/lang/invoke/MethodHandle" ∧ y.cls ≠ "java/lang/invoke/VarHandle" ∧ (parseMethodDescriptor y.desc).map (fun d => d.parameters.length) = some n)
/-- a private method of a nest mate -/
def VN (own : String) (idx : Nat) (Cn : String) (y : MethodName) (cy : ByteArray) (mL : Nat) (rt : Option FieldType) (n : Nat) : Prop :=
  Cond.methodLinkNest own idx y "BothToBlame" ∈ NW ∧ Cond.instanceMethod y ∈ GW ∧ Cond.selects Cn y y ∈ GW ∧ Cond.initialized y.cls ∈ GW ∧ Cond.code y cy mL rt ∈ GW ∧ (y.cls ≠ "java/lang/invoke/MethodHandle" ∧ y.cls ≠ "java/lang/invoke/VarHandle" ∧ (parseMethodDescriptor y.desc).map (fun d => d.parameters.length) = some n)
/-- a static method -/
def VS (own : String) (idx : Nat) (y : MethodName) (cy : ByteArray) (mL : Nat) (rt : Option FieldType) (n : Nat) : Prop :=
  Cond.methodLink own idx y ∈ GW ∧ Cond.static y ∈ GW ∧ Cond.initialized y.cls ∈ GW ∧ Cond.code y cy mL rt ∈ GW ∧ (y.cls ≠ "java/lang/invoke/MethodHandle" ∧ y.cls ≠ "java/lang/invoke/VarHandle" ∧ (parseMethodDescriptor y.desc).map (fun d => d.parameters.length) = some n)
/-- a private static method of a nest mate -/
def VSN (own : String) (idx : Nat) (y : MethodName) (cy : ByteArray) (mL : Nat) (rt : Option FieldType) (n : Nat) : Prop :=
  Cond.methodLinkNest own idx y "BothToBlame" ∈ NW ∧ Cond.static y ∈ GW ∧ Cond.initialized y.cls ∈ GW ∧ Cond.code y cy mL rt ∈ GW ∧ (y.cls ≠ "java/lang/invoke/MethodHandle" ∧ y.cls ≠ "java/lang/invoke/VarHandle" ∧ (parseMethodDescriptor y.desc).map (fun d => d.parameters.length) = some n)
theorem sx_call {st0 : List Value} (hr : va_Run p l e R s m args below meth c H locs cells slots 0 0 (F0 m pc ls st0) rest (fun st oc t => QMA G (va_A w0 H.size) rv w1 #[] st oc t) (va_A w0 H.size)) (hs : SI G A s H locs ws) (hA : ∀ q : Nat, s.heap.size ≤ q → A q) (hp : (w0 ++ wr).Perm ws) {ws' : va_W} (hp' : (w1 ++ wr).Perm ws')
    (kk : ∀ (H1 : Heap) (locs1 : List Loc), SI G A s H1 locs1 ws' → W p l e R s m args below meth c H1 locs1 cells slots Q (F0 m (pc + 3) ls (rv.toList ++ rest))) : W p l e R s m args below meth c H locs cells slots Q (F0 m pc ls st0) := by
  obtain ⟨-, -, hF⟩ := sx_sub hs hp hA
  have hP := va_P_perm hp.symm hs.1
  have hD := va_D_perm hp.symm hs.2.1
  intro T hT X
  obtain ⟨v, st₀, t, T', L, h0, X', hL, e1, e2, ⟨⟨hv, hP1, hD1⟩, hz, hk⟩, st⟩ := hr T hT X
  cases hv
  rw [h0] at hz hk
  rw [← e1] at hP1 hz hk
  have apart : ∀ q ∈ wr, q.1 < H.size ∧ ¬ va_A w0 H.size q.1 := by
    intro q hq
    have hl := (va_P_mem.mp hP q (List.mem_append_right _ hq)).lt
    refine ⟨hl, fun h => ?_⟩
    rcases va_A_mem.mp h with ⟨e9, h⟩ | h
    · have hn := (va_D_iff.mp hD).1
      rw [List.map_append] at hn
      exact (List.nodup_append.mp hn).2.2 q.1 (List.mem_map.mpr ⟨(q.1, e9), h, rfl⟩) q.1 (List.mem_map.mpr ⟨q, hq, rfl⟩) rfl
    · omega
  have hS1 : va_S A s.heap T'.heap (locs ++ L) := ⟨Nat.le_trans hs.2.2.1 hz, fun q h1 h2 => by
      rw [hk q (Nat.lt_of_lt_of_le h1 hs.2.2.1) (fun z => h2 (hF q z))]; exact hs.2.2.2.1 q h1 h2, fun q hq => by
      rcases List.mem_append.mp hq with h | h
      · exact hs.2.2.2.2 q h
      · exact hF _ (hL q h)⟩
  have hPn : va_P G.1 vwCl (w1 ++ wr) T'.heap := va_P.app hP1 (va_P_mem.mpr fun q hq => (va_P_mem.mp hP q (List.mem_append_right _ hq)).kept (hk q.1 (apart q hq).1 (apart q hq).2))
  have hDr : va_D A wr := by
    rw [va_D_iff] at hD ⊢
    rw [List.map_append] at hD
    exact ⟨(List.nodup_append.mp hD.1).2.1, fun q hq => hD.2 q (List.mem_append_right _ hq)⟩
  have hDn : va_D A (w1 ++ wr) := va_D.app (hD1.weaken (fun k q _ h => hF q.1 h)) hDr (fun i j x y hx hy hxy => (apart y (List.mem_of_getElem? hy)).2 (by rw [← hxy]; exact hD1.2 i x hx))
  obtain ⟨t2, a1, b1⟩ := kk T'.heap (locs ++ L) ⟨va_P_perm hp' hPn, va_D_perm hp' hDn, hS1⟩ T' rfl X'
  exact ⟨t2, st t2 a1, b1⟩
theorem sx_V (hM : MT G l y cy mL rt fr lo (.ref b :: As) w0 rv w1) (hw : VW own idx Cn y cy mL rt n) (hR : fr + 1 ≤ R.frames ∧ 8 + (mL + 11) + lo ≤ R.locals) (hx : p.tables.exec = Jvm.exec) (hb : c.code = cc) (hml : c.maxLocals = nL) (hown : s.vm.findClass own = some m.cls) (hts : ∀ w ∈ GW, w.before args s = true) (hE : EV G A s s.heap) (hA : ∀ q : Nat, s.heap.size ≤ q → A q) (hs : SI G A s H locs ws) (hf : cells ≤ R.cells ∧ slots ≤ R.slots)
    (q0 : Nat) {ci : Nat} {T : u_T} {N : Nat} {fs : List Value} (he : ws[q0]? = some (b, .inr (ci, fs))) (hc : vwCl[ci]? = some (Cn, T, N)) (hn : As.length = n) (hl : ls.size = nL) (hst : (rest.map fun v => v.category).sum ≤ 8) (hdg : decode cc pc = .ok (.invokevirtual idx, 3)) (hp : (w0 ++ wr).Perm ws) {ws' : va_W} (hp' : (w1 ++ wr).Perm ws')
    (kk : ∀ (H1 : Heap) (locs1 : List Loc), SI G A s H1 locs1 ws' → W p l e R s m args below meth c H1 locs1 cells slots Q (F0 m (pc + 3) ls (rv.toList ++ rest))) : W p l e R s m args below meth c H locs cells slots Q (F0 m pc ls (As.reverse ++ .ref b :: rest)) := by
  obtain ⟨h1, h2, h3, h4, h5, h6⟩ := hw
  have hG : GoodIn GW (wsV own idx Cn y (Cond.code y cy mL rt :: GW)) := by
    intro w hw
    rcases List.mem_append.mp hw with h | h
    · rcases List.mem_cons.mp h with rfl | h
      · exact ⟨h1, gw_ok h1⟩
      rcases List.mem_cons.mp h with rfl | h
      · exact ⟨h2, gw_ok h2⟩
      rcases List.mem_cons.mp h with rfl | h
      · exact ⟨h3, gw_ok h3⟩
      rcases List.mem_cons.mp h with rfl | h
      · exact ⟨h4, gw_ok h4⟩
      · exact absurd h List.not_mem_nil
    · exact gw_code h5 w h
  exact sx_call (va_runV (As := As) (rest := rest) (Ts := GW) (own := own) (b := b) (nL := nL) ⟨hx, hb, hml, hown, hts⟩ (hM H.size) (cwV n hts hG rfl rfl rfl h6 hR) ⟨PM.blind, va_recv hE.1 hs.1 hc he, sx_pre hs hE hA hp _⟩ rfl hn hl rfl (lv_room hst) hdg ⟨hf.1, hf.2⟩) hs hA hp hp' kk
theorem sx_N (hM : MT G l y cy mL rt fr lo (.ref b :: As) w0 rv w1) (hw : VN own idx Cn y cy mL rt n) (hR : fr + 1 ≤ R.frames ∧ 8 + (mL + 11) + lo ≤ R.locals) (hx : p.tables.exec = Jvm.exec) (hb : c.code = cc) (hml : c.maxLocals = nL) (hown : s.vm.findClass own = some m.cls) (hts : ∀ w ∈ GW, w.before args s = true) (hE : EV G A s s.heap) (hA : ∀ q : Nat, s.heap.size ≤ q → A q) (hs : SI G A s H locs ws) (hf : cells ≤ R.cells ∧ slots ≤ R.slots)
    (q0 : Nat) {ci : Nat} {T : u_T} {N : Nat} {fs : List Value} (he : ws[q0]? = some (b, .inr (ci, fs))) (hc : vwCl[ci]? = some (Cn, T, N)) (hn : As.length = n) (hl : ls.size = nL) (hst : (rest.map fun v => v.category).sum ≤ 8) (hdg : decode cc pc = .ok (.invokevirtual idx, 3)) (hp : (w0 ++ wr).Perm ws) {ws' : va_W} (hp' : (w1 ++ wr).Perm ws')
    (kk : ∀ (H1 : Heap) (locs1 : List Loc), SI G A s H1 locs1 ws' → W p l e R s m args below meth c H1 locs1 cells slots Q (F0 m (pc + 3) ls (rv.toList ++ rest))) : W p l e R s m args below meth c H locs cells slots Q (F0 m pc ls (As.reverse ++ .ref b :: rest)) := by
  obtain ⟨h1, h2, h3, h4, h5, h6⟩ := hw
  exact sx_call (va_runVN (As := As) (rest := rest) (Ts := GW) (own := own) (C := Cn) (host := "BothToBlame") (b := b) (nL := nL) ⟨hx, hb, hml, hown, hts⟩ (hM H.size) ⟨va_cnB n hts (gw_code h5) rfl rfl rfl (hE.2.1 _ h1) (hts _ h4) h6 hR, hts _ h2, hts _ h3⟩ ⟨PM.blind, va_recv hE.1 hs.1 hc he, sx_pre hs hE hA hp _⟩ rfl hn hl rfl (lv_room hst) hdg ⟨hf.1, hf.2⟩) hs hA hp hp' kk
theorem sx_S (hM : MT G l y cy mL rt fr lo As w0 rv w1) (hw : VS own idx y cy mL rt n) (hR : fr + 1 ≤ R.frames ∧ 8 + (mL + 11) + lo ≤ R.locals) (hx : p.tables.exec = Jvm.exec) (hb : c.code = cc) (hml : c.maxLocals = nL) (hown : s.vm.findClass own = some m.cls) (hts : ∀ w ∈ GW, w.before args s = true) (hE : EV G A s s.heap) (hA : ∀ q : Nat, s.heap.size ≤ q → A q) (hs : SI G A s H locs ws) (hf : cells ≤ R.cells ∧ slots ≤ R.slots)
    (hn : As.length = n) (hl : ls.size = nL) (hst : (rest.map fun v => v.category).sum ≤ 8) (hdg : decode cc pc = .ok (.invokestatic idx, 3)) (hp : (w0 ++ wr).Perm ws) {ws' : va_W} (hp' : (w1 ++ wr).Perm ws')
    (kk : ∀ (H1 : Heap) (locs1 : List Loc), SI G A s H1 locs1 ws' → W p l e R s m args below meth c H1 locs1 cells slots Q (F0 m (pc + 3) ls (rv.toList ++ rest))) : W p l e R s m args below meth c H locs cells slots Q (F0 m pc ls (As.reverse ++ rest)) := by
  obtain ⟨h1, h2, h3, h4, h5⟩ := hw
  have hG : GoodIn GW (va_wsS own idx y (Cond.code y cy mL rt :: GW)) := by
    intro w hw
    rcases List.mem_append.mp hw with h | h
    · rcases List.mem_cons.mp h with rfl | h
      · exact ⟨h1, gw_ok h1⟩
      rcases List.mem_cons.mp h with rfl | h
      · exact ⟨h2, gw_ok h2⟩
      rcases List.mem_cons.mp h with rfl | h
      · exact ⟨h3, gw_ok h3⟩
      · exact absurd h List.not_mem_nil
    · exact gw_code h4 w h
  exact sx_call (va_runS (As := As) (rest := rest) (Ts := GW) (own := own) (nL := nL) ⟨hx, hb, hml, hown, hts⟩ (hM H.size) (va_cwS n hts hG rfl rfl rfl h5 hR) ⟨PM.blind, sx_pre hs hE hA hp _⟩ rfl hn hl rfl (lv_room hst) hdg ⟨hf.1, hf.2⟩) hs hA hp hp' kk
theorem sx_SN (hM : MT G l y cy mL rt fr lo As w0 rv w1) (hw : VSN own idx y cy mL rt n) (hR : fr + 1 ≤ R.frames ∧ 8 + (mL + 11) + lo ≤ R.locals) (hx : p.tables.exec = Jvm.exec) (hb : c.code = cc) (hml : c.maxLocals = nL) (hown : s.vm.findClass own = some m.cls) (hts : ∀ w ∈ GW, w.before args s = true) (hE : EV G A s s.heap) (hA : ∀ q : Nat, s.heap.size ≤ q → A q) (hs : SI G A s H locs ws) (hf : cells ≤ R.cells ∧ slots ≤ R.slots)
    (hn : As.length = n) (hl : ls.size = nL) (hst : (rest.map fun v => v.category).sum ≤ 8) (hdg : decode cc pc = .ok (.invokestatic idx, 3)) (hp : (w0 ++ wr).Perm ws) {ws' : va_W} (hp' : (w1 ++ wr).Perm ws')
    (kk : ∀ (H1 : Heap) (locs1 : List Loc), SI G A s H1 locs1 ws' → W p l e R s m args below meth c H1 locs1 cells slots Q (F0 m (pc + 3) ls (rv.toList ++ rest))) : W p l e R s m args below meth c H locs cells slots Q (F0 m pc ls (As.reverse ++ rest)) := by
  obtain ⟨h1, h2, h3, h4, h5⟩ := hw
  exact sx_call (va_runSN (As := As) (rest := rest) (Ts := GW) (own := own) (host := "BothToBlame") (nL := nL) ⟨hx, hb, hml, hown, hts⟩ (hM H.size) ⟨va_cnB n hts (gw_code h4) rfl rfl rfl (hE.2.1 _ h1) (hts _ h3) h5 hR, hts _ h2, trivial⟩ ⟨PM.blind, sx_pre hs hE hA hp _⟩ rfl hn hl rfl (lv_room hst) hdg ⟨hf.1, hf.2⟩) hs hA hp hp' kk
/-! ends -/
theorem sx_iret {v : Int32} (hx : p.tables.exec = Jvm.exec) (hb : c.code = cc) (hr : meth.sig.returnType = some .int) (hlk : meth.locks = false) (hs : SI G A s H locs w1) (hdg : decode cc pc = .ok (.ireturn, 1)) : W p l e R s m args below meth c H locs cells slots (MQ below (QMA G A (some (.int v)) w1) args s cells slots A) (F0 m pc ls [.int v]) :=
  W.iret (v := v) hx hb hr (fun t ht hW => ⟨⟨rfl, by rw [ht]; exact hs.1, hs.2.1⟩, hs.2.2.F ht⟩) hs.2.2.2.2 hdg hlk
theorem sx_zret {v : Int32} (hx : p.tables.exec = Jvm.exec) (hb : c.code = cc) (hr : meth.sig.returnType = some .boolean) (hlk : meth.locks = false) (hz : v = 0 ∨ v = 1) (hs : SI G A s H locs w1) (hdg : decode cc pc = .ok (.ireturn, 1)) : W p l e R s m args below meth c H locs cells slots (MQ below (QMA G A (some (.int v)) w1) args s cells slots A) (F0 m pc ls [.int v]) :=
  W.zret (v := v) hx hb hr (by rcases hz with rfl | rfl <;> rfl) (fun t ht hW => ⟨⟨rfl, by rw [ht]; exact hs.1, hs.2.1⟩, hs.2.2.F ht⟩) hs.2.2.2.2 hdg hlk
theorem sx_lret {v : Int64} (hx : p.tables.exec = Jvm.exec) (hb : c.code = cc) (hr : meth.sig.returnType = some .long) (hlk : meth.locks = false) (hs : SI G A s H locs w1) (hdg : decode cc pc = .ok (.lreturn, 1)) : W p l e R s m args below meth c H locs cells slots (MQ below (QMA G A (some (.long v)) w1) args s cells slots A) (F0 m pc ls [.long v]) :=
  W.lret (v := v) hx hb hr (fun t ht hW => ⟨⟨rfl, by rw [ht]; exact hs.1, hs.2.1⟩, hs.2.2.F ht⟩) hs.2.2.2.2 hdg hlk
theorem sx_vret (hx : p.tables.exec = Jvm.exec) (hb : c.code = cc) (hr : meth.sig.returnType = none) (hlk : meth.locks = false) (hs : SI G A s H locs w1) (hdg : decode cc pc = .ok (.return_, 1)) : W p l e R s m args below meth c H locs cells slots (MQ below (QMA G A none w1) args s cells slots A) (F0 m pc ls []) :=
  W.vret hx hb hr (fun t ht hW => ⟨⟨rfl, by rw [ht]; exact hs.1, hs.2.1⟩, hs.2.2.F ht⟩) hs.2.2.2.2 hdg hlk
end SXRUN
end
