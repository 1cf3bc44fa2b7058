section
-- ===== PART A: goes FIRST, ahead of the names: the tables' words, and 'selects' of the private methods out of them =====
/-- a private method of a class that the tables say can be made, by its rows of tables_1 -/
def lw_okq (q : MethodName × Nat) : Prop := (q.1.cls ≠ "java/lang/invoke/MethodHandle" ∧ q.1.cls ≠ "java/lang/invoke/VarHandle") ∧ Cond.instantiable q.1.cls q.2 ∈ tables_1 ∧ Cond.privateMethod q.1 ∈ tables_1 ∧ Cond.instanceMethod q.1 ∈ tables_1
theorem lw_p0 : lw_okq (⟨"ShareStore", "liveNodes", "()I"⟩, 13) := ⟨⟨by decide +kernel, by decide +kernel⟩, List.mem_of_getElem? (i := 10) (by decide +kernel), List.mem_of_getElem? (i := 208) (by decide +kernel), List.mem_of_getElem? (i := 209) (by decide +kernel)⟩
theorem lw_p1 : lw_okq (⟨"ShareStore", "leastFreeOfLive", "()I"⟩, 13) := ⟨⟨by decide +kernel, by decide +kernel⟩, List.mem_of_getElem? (i := 10) (by decide +kernel), List.mem_of_getElem? (i := 212) (by decide +kernel), List.mem_of_getElem? (i := 213) (by decide +kernel)⟩
theorem lw_p2 : lw_okq (⟨"ShareStore", "begin", "(II)I"⟩, 13) := ⟨⟨by decide +kernel, by decide +kernel⟩, List.mem_of_getElem? (i := 10) (by decide +kernel), List.mem_of_getElem? (i := 226) (by decide +kernel), List.mem_of_getElem? (i := 227) (by decide +kernel)⟩
theorem lw_p3 : lw_okq (⟨"ShareStore", "sendShadows", "(III)V"⟩, 13) := ⟨⟨by decide +kernel, by decide +kernel⟩, List.mem_of_getElem? (i := 10) (by decide +kernel), List.mem_of_getElem? (i := 230) (by decide +kernel), List.mem_of_getElem? (i := 231) (by decide +kernel)⟩
theorem lw_p4 : lw_okq (⟨"ShareStore$Node", "takeLeastFree", "()I"⟩, 6) := ⟨⟨by decide +kernel, by decide +kernel⟩, List.mem_of_getElem? (i := 68) (by decide +kernel), List.mem_of_getElem? (i := 240) (by decide +kernel), List.mem_of_getElem? (i := 241) (by decide +kernel)⟩
theorem lw_p5 : lw_okq (⟨"ShareStore$Coder", "mirror", "(III)V"⟩, 7) := ⟨⟨by decide +kernel, by decide +kernel⟩, List.mem_of_getElem? (i := 18) (by decide +kernel), List.mem_of_getElem? (i := 251) (by decide +kernel), List.mem_of_getElem? (i := 252) (by decide +kernel)⟩
theorem lw_p6 : lw_okq (⟨"ShareStore", "fillShadows", "(III)V"⟩, 13) := ⟨⟨by decide +kernel, by decide +kernel⟩, List.mem_of_getElem? (i := 10) (by decide +kernel), List.mem_of_getElem? (i := 255) (by decide +kernel), List.mem_of_getElem? (i := 256) (by decide +kernel)⟩
theorem lw_p7 : lw_okq (⟨"ShareStore", "sendFlips", "(II)V"⟩, 13) := ⟨⟨by decide +kernel, by decide +kernel⟩, List.mem_of_getElem? (i := 10) (by decide +kernel), List.mem_of_getElem? (i := 272) (by decide +kernel), List.mem_of_getElem? (i := 273) (by decide +kernel)⟩
theorem lw_p8 : lw_okq (⟨"ShareStore", "someNodeRecords", "(II)Z"⟩, 13) := ⟨⟨by decide +kernel, by decide +kernel⟩, List.mem_of_getElem? (i := 10) (by decide +kernel), List.mem_of_getElem? (i := 293) (by decide +kernel), List.mem_of_getElem? (i := 294) (by decide +kernel)⟩
theorem lw_p9 : lw_okq (⟨"ShareStore", "chooseLeastNumbers", "(II)I"⟩, 13) := ⟨⟨by decide +kernel, by decide +kernel⟩, List.mem_of_getElem? (i := 10) (by decide +kernel), List.mem_of_getElem? (i := 302) (by decide +kernel), List.mem_of_getElem? (i := 303) (by decide +kernel)⟩
theorem lw_p10 : lw_okq (⟨"ShareStore", "newestOf", "(I)I"⟩, 13) := ⟨⟨by decide +kernel, by decide +kernel⟩, List.mem_of_getElem? (i := 10) (by decide +kernel), List.mem_of_getElem? (i := 306) (by decide +kernel), List.mem_of_getElem? (i := 307) (by decide +kernel)⟩
theorem lw_p11 : lw_okq (⟨"ShareStore", "liveHolders", "(II)I"⟩, 13) := ⟨⟨by decide +kernel, by decide +kernel⟩, List.mem_of_getElem? (i := 10) (by decide +kernel), List.mem_of_getElem? (i := 310) (by decide +kernel), List.mem_of_getElem? (i := 311) (by decide +kernel)⟩
theorem lw_p12 : lw_okq (⟨"ShareStore", "isFresh", "(III)Z"⟩, 13) := ⟨⟨by decide +kernel, by decide +kernel⟩, List.mem_of_getElem? (i := 10) (by decide +kernel), List.mem_of_getElem? (i := 314) (by decide +kernel), List.mem_of_getElem? (i := 315) (by decide +kernel)⟩
theorem lw_p13 : lw_okq (⟨"ShareStore", "newestBytes", "(I)I"⟩, 13) := ⟨⟨by decide +kernel, by decide +kernel⟩, List.mem_of_getElem? (i := 10) (by decide +kernel), List.mem_of_getElem? (i := 321) (by decide +kernel), List.mem_of_getElem? (i := 322) (by decide +kernel)⟩
theorem lw_p14 : lw_okq (⟨"ShareStore", "decode", "(II)V"⟩, 13) := ⟨⟨by decide +kernel, by decide +kernel⟩, List.mem_of_getElem? (i := 10) (by decide +kernel), List.mem_of_getElem? (i := 325) (by decide +kernel), List.mem_of_getElem? (i := 326) (by decide +kernel)⟩
theorem lw_p15 : lw_okq (⟨"ShareStore$Coder", "clearColumn", "(II)V"⟩, 7) := ⟨⟨by decide +kernel, by decide +kernel⟩, List.mem_of_getElem? (i := 18) (by decide +kernel), List.mem_of_getElem? (i := 334) (by decide +kernel), List.mem_of_getElem? (i := 335) (by decide +kernel)⟩
def lw_privs_1 : List (MethodName × Nat) := [(⟨"ShareStore", "liveNodes", "()I"⟩, 13), (⟨"ShareStore", "leastFreeOfLive", "()I"⟩, 13), (⟨"ShareStore", "begin", "(II)I"⟩, 13), (⟨"ShareStore", "sendShadows", "(III)V"⟩, 13), (⟨"ShareStore$Node", "takeLeastFree", "()I"⟩, 6), (⟨"ShareStore$Coder", "mirror", "(III)V"⟩, 7), (⟨"ShareStore", "fillShadows", "(III)V"⟩, 13), (⟨"ShareStore", "sendFlips", "(II)V"⟩, 13), (⟨"ShareStore", "someNodeRecords", "(II)Z"⟩, 13), (⟨"ShareStore", "chooseLeastNumbers", "(II)I"⟩, 13), (⟨"ShareStore", "newestOf", "(I)I"⟩, 13), (⟨"ShareStore", "liveHolders", "(II)I"⟩, 13), (⟨"ShareStore", "isFresh", "(III)Z"⟩, 13), (⟨"ShareStore", "newestBytes", "(I)I"⟩, 13), (⟨"ShareStore", "decode", "(II)V"⟩, 13), (⟨"ShareStore$Coder", "clearColumn", "(II)V"⟩, 7)]
theorem lw_r1 : ∀ q ∈ lw_privs_1, lw_okq q := List.forall_mem_cons.mpr ⟨lw_p0, List.forall_mem_cons.mpr ⟨lw_p1, List.forall_mem_cons.mpr ⟨lw_p2, List.forall_mem_cons.mpr ⟨lw_p3, List.forall_mem_cons.mpr ⟨lw_p4, List.forall_mem_cons.mpr ⟨lw_p5, List.forall_mem_cons.mpr ⟨lw_p6, List.forall_mem_cons.mpr ⟨lw_p7, List.forall_mem_cons.mpr ⟨lw_p8, List.forall_mem_cons.mpr ⟨lw_p9, List.forall_mem_cons.mpr ⟨lw_p10, List.forall_mem_cons.mpr ⟨lw_p11, List.forall_mem_cons.mpr ⟨lw_p12, List.forall_mem_cons.mpr ⟨lw_p13, List.forall_mem_cons.mpr ⟨lw_p14, List.forall_mem_cons.mpr ⟨lw_p15, fun _ h => absurd h List.not_mem_nil⟩⟩⟩⟩⟩⟩⟩⟩⟩⟩⟩⟩⟩⟩⟩⟩
theorem lw_p16 : lw_okq (⟨"ShareStore$Coder", "solveColumn", "(I)V"⟩, 7) := ⟨⟨by decide +kernel, by decide +kernel⟩, List.mem_of_getElem? (i := 18) (by decide +kernel), List.mem_of_getElem? (i := 357) (by decide +kernel), List.mem_of_getElem? (i := 358) (by decide +kernel)⟩
theorem lw_p17 : lw_okq (⟨"ShareStore", "lacksHelpers", "(II)Z"⟩, 13) := ⟨⟨by decide +kernel, by decide +kernel⟩, List.mem_of_getElem? (i := 10) (by decide +kernel), List.mem_of_getElem? (i := 405) (by decide +kernel), List.mem_of_getElem? (i := 406) (by decide +kernel)⟩
theorem lw_p18 : lw_okq (⟨"ShareStore", "isStale", "(II)Z"⟩, 13) := ⟨⟨by decide +kernel, by decide +kernel⟩, List.mem_of_getElem? (i := 10) (by decide +kernel), List.mem_of_getElem? (i := 409) (by decide +kernel), List.mem_of_getElem? (i := 410) (by decide +kernel)⟩
theorem lw_p19 : lw_okq (⟨"ShareStore", "chooseLeastSent", "(III)I"⟩, 13) := ⟨⟨by decide +kernel, by decide +kernel⟩, List.mem_of_getElem? (i := 10) (by decide +kernel), List.mem_of_getElem? (i := 413) (by decide +kernel), List.mem_of_getElem? (i := 414) (by decide +kernel)⟩
theorem lw_p20 : lw_okq (⟨"ShareStore", "lacksRoom", "(I)Z"⟩, 13) := ⟨⟨by decide +kernel, by decide +kernel⟩, List.mem_of_getElem? (i := 10) (by decide +kernel), List.mem_of_getElem? (i := 417) (by decide +kernel), List.mem_of_getElem? (i := 418) (by decide +kernel)⟩
theorem lw_p21 : lw_okq (⟨"ShareStore", "renew", "(III)V"⟩, 13) := ⟨⟨by decide +kernel, by decide +kernel⟩, List.mem_of_getElem? (i := 10) (by decide +kernel), List.mem_of_getElem? (i := 421) (by decide +kernel), List.mem_of_getElem? (i := 422) (by decide +kernel)⟩
theorem lw_p22 : lw_okq (⟨"ShareStore", "repair", "(III)V"⟩, 13) := ⟨⟨by decide +kernel, by decide +kernel⟩, List.mem_of_getElem? (i := 10) (by decide +kernel), List.mem_of_getElem? (i := 425) (by decide +kernel), List.mem_of_getElem? (i := 426) (by decide +kernel)⟩
theorem lw_p23 : lw_okq (⟨"ShareStore", "symbolFrom", "(LShareStore$Node;II)I"⟩, 13) := ⟨⟨by decide +kernel, by decide +kernel⟩, List.mem_of_getElem? (i := 10) (by decide +kernel), List.mem_of_getElem? (i := 429) (by decide +kernel), List.mem_of_getElem? (i := 430) (by decide +kernel)⟩
theorem lw_p24 : lw_okq (⟨"ShareStore", "openObjects", "()I"⟩, 13) := ⟨⟨by decide +kernel, by decide +kernel⟩, List.mem_of_getElem? (i := 10) (by decide +kernel), List.mem_of_getElem? (i := 473) (by decide +kernel), List.mem_of_getElem? (i := 474) (by decide +kernel)⟩
theorem lw_p25 : lw_okq (⟨"ShareStoreModel", "refused", "(I)I"⟩, 20) := ⟨⟨by decide +kernel, by decide +kernel⟩, List.mem_of_getElem? (i := 490) (by decide +kernel), List.mem_of_getElem? (i := 596) (by decide +kernel), List.mem_of_getElem? (i := 597) (by decide +kernel)⟩
theorem lw_p26 : lw_okq (⟨"ShareStoreModel", "live", "()I"⟩, 20) := ⟨⟨by decide +kernel, by decide +kernel⟩, List.mem_of_getElem? (i := 490) (by decide +kernel), List.mem_of_getElem? (i := 603) (by decide +kernel), List.mem_of_getElem? (i := 604) (by decide +kernel)⟩
theorem lw_p27 : lw_okq (⟨"ShareStoreModel", "usedBy", "(I)I"⟩, 20) := ⟨⟨by decide +kernel, by decide +kernel⟩, List.mem_of_getElem? (i := 490) (by decide +kernel), List.mem_of_getElem? (i := 607) (by decide +kernel), List.mem_of_getElem? (i := 608) (by decide +kernel)⟩
theorem lw_p28 : lw_okq (⟨"ShareStoreModel", "goes", "(I)I"⟩, 20) := ⟨⟨by decide +kernel, by decide +kernel⟩, List.mem_of_getElem? (i := 490) (by decide +kernel), List.mem_of_getElem? (i := 614) (by decide +kernel), List.mem_of_getElem? (i := 615) (by decide +kernel)⟩
theorem lw_p29 : lw_okq (⟨"ShareStoreModel", "givesUp", "(IIZ)V"⟩, 20) := ⟨⟨by decide +kernel, by decide +kernel⟩, List.mem_of_getElem? (i := 490) (by decide +kernel), List.mem_of_getElem? (i := 618) (by decide +kernel), List.mem_of_getElem? (i := 619) (by decide +kernel)⟩
theorem lw_p30 : lw_okq (⟨"ShareStoreModel", "takes", "(IIZII)V"⟩, 20) := ⟨⟨by decide +kernel, by decide +kernel⟩, List.mem_of_getElem? (i := 490) (by decide +kernel), List.mem_of_getElem? (i := 625) (by decide +kernel), List.mem_of_getElem? (i := 626) (by decide +kernel)⟩
theorem lw_p31 : lw_okq (⟨"ShareStoreModel", "leastFree", "(I)I"⟩, 20) := ⟨⟨by decide +kernel, by decide +kernel⟩, List.mem_of_getElem? (i := 490) (by decide +kernel), List.mem_of_getElem? (i := 629) (by decide +kernel), List.mem_of_getElem? (i := 630) (by decide +kernel)⟩
def lw_privs_2 : List (MethodName × Nat) := [(⟨"ShareStore$Coder", "solveColumn", "(I)V"⟩, 7), (⟨"ShareStore", "lacksHelpers", "(II)Z"⟩, 13), (⟨"ShareStore", "isStale", "(II)Z"⟩, 13), (⟨"ShareStore", "chooseLeastSent", "(III)I"⟩, 13), (⟨"ShareStore", "lacksRoom", "(I)Z"⟩, 13), (⟨"ShareStore", "renew", "(III)V"⟩, 13), (⟨"ShareStore", "repair", "(III)V"⟩, 13), (⟨"ShareStore", "symbolFrom", "(LShareStore$Node;II)I"⟩, 13), (⟨"ShareStore", "openObjects", "()I"⟩, 13), (⟨"ShareStoreModel", "refused", "(I)I"⟩, 20), (⟨"ShareStoreModel", "live", "()I"⟩, 20), (⟨"ShareStoreModel", "usedBy", "(I)I"⟩, 20), (⟨"ShareStoreModel", "goes", "(I)I"⟩, 20), (⟨"ShareStoreModel", "givesUp", "(IIZ)V"⟩, 20), (⟨"ShareStoreModel", "takes", "(IIZII)V"⟩, 20), (⟨"ShareStoreModel", "leastFree", "(I)I"⟩, 20)]
theorem lw_r2 : ∀ q ∈ lw_privs_2, lw_okq q := List.forall_mem_cons.mpr ⟨lw_p16, List.forall_mem_cons.mpr ⟨lw_p17, List.forall_mem_cons.mpr ⟨lw_p18, List.forall_mem_cons.mpr ⟨lw_p19, List.forall_mem_cons.mpr ⟨lw_p20, List.forall_mem_cons.mpr ⟨lw_p21, List.forall_mem_cons.mpr ⟨lw_p22, List.forall_mem_cons.mpr ⟨lw_p23, List.forall_mem_cons.mpr ⟨lw_p24, List.forall_mem_cons.mpr ⟨lw_p25, List.forall_mem_cons.mpr ⟨lw_p26, List.forall_mem_cons.mpr ⟨lw_p27, List.forall_mem_cons.mpr ⟨lw_p28, List.forall_mem_cons.mpr ⟨lw_p29, List.forall_mem_cons.mpr ⟨lw_p30, List.forall_mem_cons.mpr ⟨lw_p31, fun _ h => absurd h List.not_mem_nil⟩⟩⟩⟩⟩⟩⟩⟩⟩⟩⟩⟩⟩⟩⟩⟩
theorem lw_p32 : lw_okq (⟨"ShareStoreModel", "shares", "(II)V"⟩, 20) := ⟨⟨by decide +kernel, by decide +kernel⟩, List.mem_of_getElem? (i := 490) (by decide +kernel), List.mem_of_getElem? (i := 633) (by decide +kernel), List.mem_of_getElem? (i := 634) (by decide +kernel)⟩
theorem lw_p33 : lw_okq (⟨"ShareStoreModel", "matrix", "(III)I"⟩, 20) := ⟨⟨by decide +kernel, by decide +kernel⟩, List.mem_of_getElem? (i := 490) (by decide +kernel), List.mem_of_getElem? (i := 637) (by decide +kernel), List.mem_of_getElem? (i := 638) (by decide +kernel)⟩
theorem lw_p34 : lw_okq (⟨"ShareStoreModel", "byteAt", "(IIII)I"⟩, 20) := ⟨⟨by decide +kernel, by decide +kernel⟩, List.mem_of_getElem? (i := 490) (by decide +kernel), List.mem_of_getElem? (i := 641) (by decide +kernel), List.mem_of_getElem? (i := 642) (by decide +kernel)⟩
theorem lw_p35 : lw_okq (⟨"ShareStoreModel", "flips", "(II)V"⟩, 20) := ⟨⟨by decide +kernel, by decide +kernel⟩, List.mem_of_getElem? (i := 490) (by decide +kernel), List.mem_of_getElem? (i := 645) (by decide +kernel), List.mem_of_getElem? (i := 646) (by decide +kernel)⟩
theorem lw_p36 : lw_okq (⟨"ShareStoreModel", "newest", "(I)I"⟩, 20) := ⟨⟨by decide +kernel, by decide +kernel⟩, List.mem_of_getElem? (i := 490) (by decide +kernel), List.mem_of_getElem? (i := 661) (by decide +kernel), List.mem_of_getElem? (i := 662) (by decide +kernel)⟩
theorem lw_p37 : lw_okq (⟨"ShareStoreModel", "choose", "(IIII)I"⟩, 20) := ⟨⟨by decide +kernel, by decide +kernel⟩, List.mem_of_getElem? (i := 490) (by decide +kernel), List.mem_of_getElem? (i := 665) (by decide +kernel), List.mem_of_getElem? (i := 666) (by decide +kernel)⟩
theorem lw_p38 : lw_okq (⟨"ShareStoreModel", "isFresh", "(III)Z"⟩, 20) := ⟨⟨by decide +kernel, by decide +kernel⟩, List.mem_of_getElem? (i := 490) (by decide +kernel), List.mem_of_getElem? (i := 669) (by decide +kernel), List.mem_of_getElem? (i := 670) (by decide +kernel)⟩
theorem lw_p39 : lw_okq (⟨"ShareStoreModel", "sizeOf", "(II)I"⟩, 20) := ⟨⟨by decide +kernel, by decide +kernel⟩, List.mem_of_getElem? (i := 490) (by decide +kernel), List.mem_of_getElem? (i := 673) (by decide +kernel), List.mem_of_getElem? (i := 674) (by decide +kernel)⟩
theorem lw_p40 : lw_okq (⟨"ShareStoreModel", "getStripe", "(II)V"⟩, 20) := ⟨⟨by decide +kernel, by decide +kernel⟩, List.mem_of_getElem? (i := 490) (by decide +kernel), List.mem_of_getElem? (i := 677) (by decide +kernel), List.mem_of_getElem? (i := 678) (by decide +kernel)⟩
theorem lw_p41 : lw_okq (⟨"ShareStoreModel", "solve", "(II)V"⟩, 20) := ⟨⟨by decide +kernel, by decide +kernel⟩, List.mem_of_getElem? (i := 490) (by decide +kernel), List.mem_of_getElem? (i := 681) (by decide +kernel), List.mem_of_getElem? (i := 682) (by decide +kernel)⟩
theorem lw_p42 : lw_okq (⟨"ShareStoreModel", "wants", "(II)Z"⟩, 20) := ⟨⟨by decide +kernel, by decide +kernel⟩, List.mem_of_getElem? (i := 490) (by decide +kernel), List.mem_of_getElem? (i := 713) (by decide +kernel), List.mem_of_getElem? (i := 714) (by decide +kernel)⟩
theorem lw_p43 : lw_okq (⟨"ShareStoreModel", "rebuilds", "(III)I"⟩, 20) := ⟨⟨by decide +kernel, by decide +kernel⟩, List.mem_of_getElem? (i := 490) (by decide +kernel), List.mem_of_getElem? (i := 717) (by decide +kernel), List.mem_of_getElem? (i := 718) (by decide +kernel)⟩
theorem lw_p44 : lw_okq (⟨"ShareStoreModel", "chooseLeast", "(III)V"⟩, 20) := ⟨⟨by decide +kernel, by decide +kernel⟩, List.mem_of_getElem? (i := 490) (by decide +kernel), List.mem_of_getElem? (i := 721) (by decide +kernel), List.mem_of_getElem? (i := 722) (by decide +kernel)⟩
theorem lw_p45 : lw_okq (⟨"ShareStoreModel", "symbolOf", "(IIII)I"⟩, 20) := ⟨⟨by decide +kernel, by decide +kernel⟩, List.mem_of_getElem? (i := 490) (by decide +kernel), List.mem_of_getElem? (i := 725) (by decide +kernel), List.mem_of_getElem? (i := 726) (by decide +kernel)⟩
def lw_privs_3 : List (MethodName × Nat) := [(⟨"ShareStoreModel", "shares", "(II)V"⟩, 20), (⟨"ShareStoreModel", "matrix", "(III)I"⟩, 20), (⟨"ShareStoreModel", "byteAt", "(IIII)I"⟩, 20), (⟨"ShareStoreModel", "flips", "(II)V"⟩, 20), (⟨"ShareStoreModel", "newest", "(I)I"⟩, 20), (⟨"ShareStoreModel", "choose", "(IIII)I"⟩, 20), (⟨"ShareStoreModel", "isFresh", "(III)Z"⟩, 20), (⟨"ShareStoreModel", "sizeOf", "(II)I"⟩, 20), (⟨"ShareStoreModel", "getStripe", "(II)V"⟩, 20), (⟨"ShareStoreModel", "solve", "(II)V"⟩, 20), (⟨"ShareStoreModel", "wants", "(II)Z"⟩, 20), (⟨"ShareStoreModel", "rebuilds", "(III)I"⟩, 20), (⟨"ShareStoreModel", "chooseLeast", "(III)V"⟩, 20), (⟨"ShareStoreModel", "symbolOf", "(IIII)I"⟩, 20)]
theorem lw_r3 : ∀ q ∈ lw_privs_3, lw_okq q := List.forall_mem_cons.mpr ⟨lw_p32, List.forall_mem_cons.mpr ⟨lw_p33, List.forall_mem_cons.mpr ⟨lw_p34, List.forall_mem_cons.mpr ⟨lw_p35, List.forall_mem_cons.mpr ⟨lw_p36, List.forall_mem_cons.mpr ⟨lw_p37, List.forall_mem_cons.mpr ⟨lw_p38, List.forall_mem_cons.mpr ⟨lw_p39, List.forall_mem_cons.mpr ⟨lw_p40, List.forall_mem_cons.mpr ⟨lw_p41, List.forall_mem_cons.mpr ⟨lw_p42, List.forall_mem_cons.mpr ⟨lw_p43, List.forall_mem_cons.mpr ⟨lw_p44, List.forall_mem_cons.mpr ⟨lw_p45, fun _ h => absurd h List.not_mem_nil⟩⟩⟩⟩⟩⟩⟩⟩⟩⟩⟩⟩⟩⟩
def lw_privs : List (MethodName × Nat) := lw_privs_1 ++ (lw_privs_2 ++ (lw_privs_3))
def lw_tbl : List Cond := k2_sels lw_privs ++ tables_1
theorem lw_privs_ok : ∀ q ∈ lw_privs, lw_okq q := by
  show ∀ q ∈ lw_privs_1 ++ (lw_privs_2 ++ (lw_privs_3)), lw_okq q
  exact List.forall_mem_append.mpr ⟨lw_r1, List.forall_mem_append.mpr ⟨lw_r2, lw_r3⟩⟩

def R_C : String := "ShareStore$Coder"
def T_C : u_T := fun k => match k with
  | 0 => ("ShareStore$Coder", "field", "LShareStore$Field;", true)
  | 1 => ("ShareStore$Coder", "rows", "[[I", true)
  | 2 => ("ShareStore$Coder", "matrix", "[[I", true)
  | 3 => ("ShareStore$Coder", "given", "[[I", true)
  | 4 => ("ShareStore$Coder", "square", "[[I", true)
  | 5 => ("ShareStore$Coder", "inverse", "[[I", true)
  | _ => ("ShareStore$Coder", "result", "[I", true)
def ty_C : Nat → FieldType := fun k => match k with
  | 0 => .object "ShareStore$Field"
  | 1 => .array (.array .int)
  | 2 => .array (.array .int)
  | 3 => .array (.array .int)
  | 4 => .array (.array .int)
  | 5 => .array (.array .int)
  | _ => .array .int
theorem nm_C : ∀ a, a < 7 → ∀ b, b < 7 → a ≠ b → (T_C a).2.1 ≠ (T_C b).2.1 := by decide +kernel
theorem ty_C_ok : ∀ k, k < 7 → parseFieldDescriptor (T_C k).2.2.1 = some (ty_C k) := by decide +kernel
def R_F : String := "ShareStore$Field"
def T_F : u_T := fun k => match k with
  | 0 => ("ShareStore$Field", "powers", "[I", true)
  | _ => ("ShareStore$Field", "exponents", "[I", true)
def ty_F : Nat → FieldType := fun k => match k with
  | 0 => .array .int
  | _ => .array .int
theorem nm_F : ∀ a, a < 2 → ∀ b, b < 2 → a ≠ b → (T_F a).2.1 ≠ (T_F b).2.1 := by decide +kernel
theorem ty_F_ok : ∀ k, k < 2 → parseFieldDescriptor (T_F k).2.2.1 = some (ty_F k) := by decide +kernel
def R_H : String := "ShareStore$Holding"
def T_H : u_T := fun k => match k with
  | 0 => ("ShareStore$Holding", "places", "[I", true)
  | 1 => ("ShareStore$Holding", "version", "I", false)
  | 2 => ("ShareStore$Holding", "bytes", "I", false)
  | _ => ("ShareStore$Holding", "stripes", "I", false)
def ty_H : Nat → FieldType := fun k => match k with
  | 0 => .array .int
  | 1 => .int
  | 2 => .int
  | _ => .int
theorem nm_H : ∀ a, a < 4 → ∀ b, b < 4 → a ≠ b → (T_H a).2.1 ≠ (T_H b).2.1 := by decide +kernel
theorem ty_H_ok : ∀ k, k < 4 → parseFieldDescriptor (T_H k).2.2.1 = some (ty_H k) := by decide +kernel
def R_N : String := "ShareStore$Node"
def T_N : u_T := fun k => match k with
  | 0 => ("ShareStore$Node", "data", "[I", true)
  | 1 => ("ShareStore$Node", "taken", "[Z", true)
  | 2 => ("ShareStore$Node", "records", "[LShareStore$Holding;", true)
  | 3 => ("ShareStore$Node", "shadows", "[LShareStore$Holding;", true)
  | 4 => ("ShareStore$Node", "live", "Z", false)
  | _ => ("ShareStore$Node", "symbolsSent", "I", false)
def ty_N : Nat → FieldType := fun k => match k with
  | 0 => .array .int
  | 1 => .array .boolean
  | 2 => .array (.object "ShareStore$Holding")
  | 3 => .array (.object "ShareStore$Holding")
  | 4 => .boolean
  | _ => .int
theorem nm_N : ∀ a, a < 6 → ∀ b, b < 6 → a ≠ b → (T_N a).2.1 ≠ (T_N b).2.1 := by decide +kernel
theorem ty_N_ok : ∀ k, k < 6 → parseFieldDescriptor (T_N k).2.2.1 = some (ty_N k) := by decide +kernel
def R_S : String := "ShareStore"
def T_S : u_T := fun k => match k with
  | 0 => ("ShareStore", "coder", "LShareStore$Coder;", true)
  | 1 => ("ShareStore", "nodes", "[LShareStore$Node;", true)
  | 2 => ("ShareStore", "begun", "[I", true)
  | 3 => ("ShareStore", "unsettled", "[Z", true)
  | 4 => ("ShareStore", "tape", "[I", true)
  | 5 => ("ShareStore", "tapeBytes", "I", false)
  | 6 => ("ShareStore", "gotten", "[I", true)
  | 7 => ("ShareStore", "gottenBytes", "I", false)
  | 8 => ("ShareStore", "cutBehind", "I", false)
  | 9 => ("ShareStore", "messages", "I", false)
  | 10 => ("ShareStore", "symbols", "I", false)
  | 11 => ("ShareStore", "chosen", "[I", true)
  | _ => ("ShareStore", "wire", "[I", true)
def ty_S : Nat → FieldType := fun k => match k with
  | 0 => .object "ShareStore$Coder"
  | 1 => .array (.object "ShareStore$Node")
  | 2 => .array .int
  | 3 => .array .boolean
  | 4 => .array .int
  | 5 => .int
  | 6 => .array .int
  | 7 => .int
  | 8 => .int
  | 9 => .int
  | 10 => .int
  | 11 => .array .int
  | _ => .array .int
theorem nm_S : ∀ a, a < 13 → ∀ b, b < 13 → a ≠ b → (T_S a).2.1 ≠ (T_S b).2.1 := by decide +kernel
theorem ty_S_ok : ∀ k, k < 13 → parseFieldDescriptor (T_S k).2.2.1 = some (ty_S k) := by decide +kernel
def R_M : String := "ShareStoreModel"
def T_M : u_T := fun k => match k with
  | 0 => ("ShareStoreModel", "tape", "[I", true)
  | 1 => ("ShareStoreModel", "taped", "I", false)
  | 2 => ("ShareStoreModel", "cutAt", "I", false)
  | 3 => ("ShareStoreModel", "isFailed", "[Z", true)
  | 4 => ("ShareStoreModel", "sent", "[I", true)
  | 5 => ("ShareStoreModel", "used", "[Z", true)
  | 6 => ("ShareStoreModel", "bytes", "[I", true)
  | 7 => ("ShareStoreModel", "has", "[Z", true)
  | 8 => ("ShareStoreModel", "version", "[I", true)
  | 9 => ("ShareStoreModel", "size", "[I", true)
  | 10 => ("ShareStoreModel", "blockOf", "[I", true)
  | 11 => ("ShareStoreModel", "latest", "[I", true)
  | 12 => ("ShareStoreModel", "isOpen", "[Z", true)
  | 13 => ("ShareStoreModel", "got", "[I", true)
  | 14 => ("ShareStoreModel", "gotMany", "I", false)
  | 15 => ("ShareStoreModel", "messages", "I", false)
  | 16 => ("ShareStoreModel", "symbols", "I", false)
  | 17 => ("ShareStoreModel", "equations", "[I", true)
  | 18 => ("ShareStoreModel", "chosen", "[I", true)
  | _ => ("ShareStoreModel", "right", "[I", true)
def ty_M : Nat → FieldType := fun k => match k with
  | 0 => .array .int
  | 1 => .int
  | 2 => .int
  | 3 => .array .boolean
  | 4 => .array .int
  | 5 => .array .boolean
  | 6 => .array .int
  | 7 => .array .boolean
  | 8 => .array .int
  | 9 => .array .int
  | 10 => .array .int
  | 11 => .array .int
  | 12 => .array .boolean
  | 13 => .array .int
  | 14 => .int
  | 15 => .int
  | 16 => .int
  | 17 => .array .int
  | 18 => .array .int
  | _ => .array .int
theorem nm_M : ∀ a, a < 20 → ∀ b, b < 20 → a ≠ b → (T_M a).2.1 ≠ (T_M b).2.1 := by decide +kernel
theorem ty_M_ok : ∀ k, k < 20 → parseFieldDescriptor (T_M k).2.2.1 = some (ty_M k) := by decide +kernel
abbrev CL : List vw_C := [(R_C, T_C, 7), (R_F, T_F, 2), (R_H, T_H, 4), (R_N, T_N, 6), (R_S, T_S, 13), (R_M, T_M, 20)]
abbrev MT : Type := MethodName × ByteArray × Nat × Option FieldType
def M_S_init : MT := (⟨"ShareStore", "<init>", "()V"⟩, prog_1_method_1_code, 2, (Option.none : Option Jvm.ClassFile.FieldType))
def M_C_init : MT := (⟨"ShareStore$Coder", "<init>", "()V"⟩, prog_2_method_1_code, 4, (Option.none : Option Jvm.ClassFile.FieldType))
def M_F_init : MT := (⟨"ShareStore$Field", "<init>", "()V"⟩, prog_3_method_1_code, 3, (Option.none : Option Jvm.ClassFile.FieldType))
def M_F_product : MT := (⟨"ShareStore$Field", "product", "(II)I"⟩, prog_3_method_2_code, 3, (Option.some Jvm.ClassFile.FieldType.int))
def M_N_init : MT := (⟨"ShareStore$Node", "<init>", "()V"⟩, prog_5_method_1_code, 2, (Option.none : Option Jvm.ClassFile.FieldType))
def M_H_init : MT := (⟨"ShareStore$Holding", "<init>", "()V"⟩, prog_4_method_1_code, 1, (Option.none : Option Jvm.ClassFile.FieldType))
def M_S_times : MT := (⟨"ShareStore", "times", "(II)I"⟩, prog_1_method_2_code, 3, (Option.some Jvm.ClassFile.FieldType.int))
def M_S_isElement : MT := (⟨"ShareStore", "isElement", "(I)Z"⟩, prog_1_method_28_code, 1, (Option.some Jvm.ClassFile.FieldType.boolean))
def M_S_over : MT := (⟨"ShareStore", "over", "(II)I"⟩, prog_1_method_3_code, 3, (Option.some Jvm.ClassFile.FieldType.int))
def M_F_quotient : MT := (⟨"ShareStore$Field", "quotient", "(II)I"⟩, prog_3_method_3_code, 3, (Option.some Jvm.ClassFile.FieldType.int))
def M_S_rowAt : MT := (⟨"ShareStore", "rowAt", "(II)I"⟩, prog_1_method_4_code, 3, (Option.some Jvm.ClassFile.FieldType.int))
def M_S_isNode : MT := (⟨"ShareStore", "isNode", "(I)Z"⟩, prog_1_method_29_code, 1, (Option.some Jvm.ClassFile.FieldType.boolean))
def M_C_rowByte : MT := (⟨"ShareStore$Coder", "rowByte", "(II)I"⟩, prog_2_method_2_code, 3, (Option.some Jvm.ClassFile.FieldType.int))
def M_S_feed : MT := (⟨"ShareStore", "feed", "(JI)I"⟩, prog_1_method_5_code, 5, (Option.some Jvm.ClassFile.FieldType.int))
def M_S_cut : MT := (⟨"ShareStore", "cut", "(I)I"⟩, prog_1_method_6_code, 2, (Option.some Jvm.ClassFile.FieldType.int))
def M_S_put : MT := (⟨"ShareStore", "put", "(I)I"⟩, prog_1_method_7_code, 3, (Option.some Jvm.ClassFile.FieldType.int))
def M_S_isObject : MT := (⟨"ShareStore", "isObject", "(I)Z"⟩, prog_1_method_30_code, 1, (Option.some Jvm.ClassFile.FieldType.boolean))
def M_S_liveNodes : MT := (⟨"ShareStore", "liveNodes", "()I"⟩, prog_1_method_33_code, 3, (Option.some Jvm.ClassFile.FieldType.int))
def M_S_leastFreeOfLive : MT := (⟨"ShareStore", "leastFreeOfLive", "()I"⟩, prog_1_method_35_code, 3, (Option.some Jvm.ClassFile.FieldType.int))
def M_N_freeBlocks : MT := (⟨"ShareStore$Node", "freeBlocks", "()I"⟩, prog_5_method_2_code, 3, (Option.some Jvm.ClassFile.FieldType.int))
def M_S_stripesOf : MT := (⟨"ShareStore", "stripesOf", "(I)I"⟩, prog_1_method_32_code, 1, (Option.some Jvm.ClassFile.FieldType.int))
def M_S_begin : MT := (⟨"ShareStore", "begin", "(II)I"⟩, prog_1_method_43_code, 7, (Option.some Jvm.ClassFile.FieldType.int))
def M_S_sendShadows : MT := (⟨"ShareStore", "sendShadows", "(III)V"⟩, prog_1_method_44_code, 6, (Option.none : Option Jvm.ClassFile.FieldType))
def M_N_take : MT := (⟨"ShareStore$Node", "take", "(LShareStore$Holding;II)V"⟩, prog_5_method_4_code, 5, (Option.none : Option Jvm.ClassFile.FieldType))
def M_N_takeLeastFree : MT := (⟨"ShareStore$Node", "takeLeastFree", "()I"⟩, prog_5_method_3_code, 2, (Option.some Jvm.ClassFile.FieldType.int))
def M_C_load : MT := (⟨"ShareStore$Coder", "load", "([III)V"⟩, prog_2_method_3_code, 7, (Option.none : Option Jvm.ClassFile.FieldType))
def M_C_byteBefore : MT := (⟨"ShareStore$Coder", "byteBefore", "([III)I"⟩, prog_2_method_5_code, 3, (Option.some Jvm.ClassFile.FieldType.int))
def M_C_mirror : MT := (⟨"ShareStore$Coder", "mirror", "(III)V"⟩, prog_2_method_4_code, 4, (Option.none : Option Jvm.ClassFile.FieldType))
def M_S_fillShadows : MT := (⟨"ShareStore", "fillShadows", "(III)V"⟩, prog_1_method_45_code, 6, (Option.none : Option Jvm.ClassFile.FieldType))
def M_C_share : MT := (⟨"ShareStore$Coder", "share", "(I[I)V"⟩, prog_2_method_8_code, 6, (Option.none : Option Jvm.ClassFile.FieldType))
def M_H_placeOf : MT := (⟨"ShareStore$Holding", "placeOf", "(I)I"⟩, prog_4_method_2_code, 2, (Option.some Jvm.ClassFile.FieldType.int))
def M_N_write : MT := (⟨"ShareStore$Node", "write", "(I[I)V"⟩, prog_5_method_11_code, 4, (Option.none : Option Jvm.ClassFile.FieldType))
def M_S_sendFlips : MT := (⟨"ShareStore", "sendFlips", "(II)V"⟩, prog_1_method_46_code, 5, (Option.none : Option Jvm.ClassFile.FieldType))
def M_N_flip : MT := (⟨"ShareStore$Node", "flip", "(I)V"⟩, prog_5_method_6_code, 3, (Option.none : Option Jvm.ClassFile.FieldType))
def M_N_giveUp : MT := (⟨"ShareStore$Node", "giveUp", "(LShareStore$Holding;)V"⟩, prog_5_method_5_code, 4, (Option.none : Option Jvm.ClassFile.FieldType))
def M_S_remove : MT := (⟨"ShareStore", "remove", "(I)I"⟩, prog_1_method_8_code, 2, (Option.some Jvm.ClassFile.FieldType.int))
def M_S_settle : MT := (⟨"ShareStore", "settle", "(I)I"⟩, prog_1_method_9_code, 5, (Option.some Jvm.ClassFile.FieldType.int))
def M_S_someNodeRecords : MT := (⟨"ShareStore", "someNodeRecords", "(II)Z"⟩, prog_1_method_40_code, 4, (Option.some Jvm.ClassFile.FieldType.boolean))
def M_S_get : MT := (⟨"ShareStore", "get", "(II)I"⟩, prog_1_method_10_code, 4, (Option.some Jvm.ClassFile.FieldType.int))
def M_S_chooseLeastNumbers : MT := (⟨"ShareStore", "chooseLeastNumbers", "(II)I"⟩, prog_1_method_47_code, 6, (Option.some Jvm.ClassFile.FieldType.int))
def M_S_newestOf : MT := (⟨"ShareStore", "newestOf", "(I)I"⟩, prog_1_method_36_code, 5, (Option.some Jvm.ClassFile.FieldType.int))
def M_S_liveHolders : MT := (⟨"ShareStore", "liveHolders", "(II)I"⟩, prog_1_method_37_code, 5, (Option.some Jvm.ClassFile.FieldType.int))
def M_S_isFresh : MT := (⟨"ShareStore", "isFresh", "(III)Z"⟩, prog_1_method_38_code, 4, (Option.some Jvm.ClassFile.FieldType.boolean))
def M_S_isTold : MT := (⟨"ShareStore", "isTold", "(II)Z"⟩, prog_1_method_31_code, 2, (Option.some Jvm.ClassFile.FieldType.boolean))
def M_S_newestBytes : MT := (⟨"ShareStore", "newestBytes", "(I)I"⟩, prog_1_method_39_code, 4, (Option.some Jvm.ClassFile.FieldType.int))
def M_S_decode : MT := (⟨"ShareStore", "decode", "(II)V"⟩, prog_1_method_48_code, 6, (Option.none : Option Jvm.ClassFile.FieldType))
def M_C_invert : MT := (⟨"ShareStore$Coder", "invert", "([II)V"⟩, prog_2_method_9_code, 6, (Option.none : Option Jvm.ClassFile.FieldType))
def M_C_clearColumn : MT := (⟨"ShareStore$Coder", "clearColumn", "(II)V"⟩, prog_2_method_10_code, 6, (Option.none : Option Jvm.ClassFile.FieldType))
def M_N_read : MT := (⟨"ShareStore$Node", "read", "(I[I)V"⟩, prog_5_method_10_code, 4, (Option.none : Option Jvm.ClassFile.FieldType))
def M_N_byteAt : MT := (⟨"ShareStore$Node", "byteAt", "(II)I"⟩, prog_5_method_9_code, 3, (Option.some Jvm.ClassFile.FieldType.int))
def M_C_give : MT := (⟨"ShareStore$Coder", "give", "(I[I)V"⟩, prog_2_method_12_code, 3, (Option.none : Option Jvm.ClassFile.FieldType))
def M_C_solve : MT := (⟨"ShareStore$Coder", "solve", "([I)V"⟩, prog_2_method_13_code, 5, (Option.none : Option Jvm.ClassFile.FieldType))
def M_C_solveColumn : MT := (⟨"ShareStore$Coder", "solveColumn", "(I)V"⟩, prog_2_method_14_code, 5, (Option.none : Option Jvm.ClassFile.FieldType))
def M_C_unload : MT := (⟨"ShareStore$Coder", "unload", "([III)V"⟩, prog_2_method_6_code, 7, (Option.none : Option Jvm.ClassFile.FieldType))
def M_C_storeBefore : MT := (⟨"ShareStore$Coder", "storeBefore", "([IIII)V"⟩, prog_2_method_7_code, 4, (Option.none : Option Jvm.ClassFile.FieldType))
def M_S_got : MT := (⟨"ShareStore", "got", "(I)I"⟩, prog_1_method_11_code, 2, (Option.some Jvm.ClassFile.FieldType.int))
def M_S_version : MT := (⟨"ShareStore", "version", "(I)I"⟩, prog_1_method_12_code, 2, (Option.some Jvm.ClassFile.FieldType.int))
def M_S_open : MT := (⟨"ShareStore", "open", "(I)I"⟩, prog_1_method_13_code, 2, (Option.some Jvm.ClassFile.FieldType.int))
def M_S_fail : MT := (⟨"ShareStore", "fail", "(I)I"⟩, prog_1_method_14_code, 2, (Option.some Jvm.ClassFile.FieldType.int))
def M_S_back : MT := (⟨"ShareStore", "back", "(I)I"⟩, prog_1_method_15_code, 2, (Option.some Jvm.ClassFile.FieldType.int))
def M_N_giveUpShadows : MT := (⟨"ShareStore$Node", "giveUpShadows", "()I"⟩, prog_5_method_7_code, 3, (Option.some Jvm.ClassFile.FieldType.int))
def M_S_wipe : MT := (⟨"ShareStore", "wipe", "(I)I"⟩, prog_1_method_16_code, 3, (Option.some Jvm.ClassFile.FieldType.int))
def M_N_giveUpAll : MT := (⟨"ShareStore$Node", "giveUpAll", "()V"⟩, prog_5_method_8_code, 2, (Option.none : Option Jvm.ClassFile.FieldType))
def M_S_rebuild : MT := (⟨"ShareStore", "rebuild", "(II)I"⟩, prog_1_method_17_code, 5, (Option.some Jvm.ClassFile.FieldType.int))
def M_S_lacksHelpers : MT := (⟨"ShareStore", "lacksHelpers", "(II)Z"⟩, prog_1_method_50_code, 4, (Option.some Jvm.ClassFile.FieldType.boolean))
def M_S_isStale : MT := (⟨"ShareStore", "isStale", "(II)Z"⟩, prog_1_method_49_code, 4, (Option.some Jvm.ClassFile.FieldType.boolean))
def M_S_chooseLeastSent : MT := (⟨"ShareStore", "chooseLeastSent", "(III)I"⟩, prog_1_method_53_code, 9, (Option.some Jvm.ClassFile.FieldType.int))
def M_S_lacksRoom : MT := (⟨"ShareStore", "lacksRoom", "(I)Z"⟩, prog_1_method_51_code, 4, (Option.some Jvm.ClassFile.FieldType.boolean))
def M_S_renew : MT := (⟨"ShareStore", "renew", "(III)V"⟩, prog_1_method_52_code, 7, (Option.none : Option Jvm.ClassFile.FieldType))
def M_S_repair : MT := (⟨"ShareStore", "repair", "(III)V"⟩, prog_1_method_54_code, 7, (Option.none : Option Jvm.ClassFile.FieldType))
def M_S_symbolFrom : MT := (⟨"ShareStore", "symbolFrom", "(LShareStore$Node;II)I"⟩, prog_1_method_55_code, 6, (Option.some Jvm.ClassFile.FieldType.int))
def M_C_multiplyByInverse : MT := (⟨"ShareStore$Coder", "multiplyByInverse", "([I)V"⟩, prog_2_method_11_code, 5, (Option.none : Option Jvm.ClassFile.FieldType))
def M_S_fresh : MT := (⟨"ShareStore", "fresh", "(II)I"⟩, prog_1_method_18_code, 3, (Option.some Jvm.ClassFile.FieldType.int))
def M_S_sent : MT := (⟨"ShareStore", "sent", "(I)I"⟩, prog_1_method_19_code, 2, (Option.some Jvm.ClassFile.FieldType.int))
def M_S_free : MT := (⟨"ShareStore", "free", "(I)I"⟩, prog_1_method_20_code, 2, (Option.some Jvm.ClassFile.FieldType.int))
def M_S_record : MT := (⟨"ShareStore", "record", "(III)I"⟩, prog_1_method_21_code, 4, (Option.some Jvm.ClassFile.FieldType.int))
def M_S_recordNumber : MT := (⟨"ShareStore", "recordNumber", "(LShareStore$Node;II)I"⟩, prog_1_method_41_code, 6, (Option.some Jvm.ClassFile.FieldType.int))
def M_S_block : MT := (⟨"ShareStore", "block", "(IIIZ)I"⟩, prog_1_method_22_code, 5, (Option.some Jvm.ClassFile.FieldType.int))
def M_S_byteOf : MT := (⟨"ShareStore", "byteOf", "(III)I"⟩, prog_1_method_23_code, 4, (Option.some Jvm.ClassFile.FieldType.int))
def M_S_symbol : MT := (⟨"ShareStore", "symbol", "(IIII)I"⟩, prog_1_method_24_code, 6, (Option.some Jvm.ClassFile.FieldType.int))
def M_S_count : MT := (⟨"ShareStore", "count", "(I)I"⟩, prog_1_method_25_code, 2, (Option.some Jvm.ClassFile.FieldType.int))
def M_S_openObjects : MT := (⟨"ShareStore", "openObjects", "()I"⟩, prog_1_method_34_code, 3, (Option.some Jvm.ClassFile.FieldType.int))
def M_S_digest : MT := (⟨"ShareStore", "digest", "()J"⟩, prog_1_method_26_code, 6, (Option.some Jvm.ClassFile.FieldType.long))
def M_S_digestOfRecord : MT := (⟨"ShareStore", "digestOfRecord", "(JLShareStore$Node;I)J"⟩, prog_1_method_42_code, 10, (Option.some Jvm.ClassFile.FieldType.long))
def M_S_clear : MT := (⟨"ShareStore", "clear", "()I"⟩, prog_1_method_27_code, 3, (Option.some Jvm.ClassFile.FieldType.int))
def M_M_init : MT := (⟨"ShareStoreModel", "<init>", "()V"⟩, prog_7_method_1_code, 1, (Option.none : Option Jvm.ClassFile.FieldType))
def M_M_times : MT := (⟨"ShareStoreModel", "times", "(II)I"⟩, prog_7_method_8_code, 3, (Option.some Jvm.ClassFile.FieldType.int))
def M_M_in : MT := (⟨"ShareStoreModel", "in", "(III)Z"⟩, prog_7_method_3_code, 3, (Option.some Jvm.ClassFile.FieldType.boolean))
def M_M_product : MT := (⟨"ShareStoreModel", "product", "(II)I"⟩, prog_7_method_6_code, 5, (Option.some Jvm.ClassFile.FieldType.int))
def M_M_over : MT := (⟨"ShareStoreModel", "over", "(II)I"⟩, prog_7_method_9_code, 3, (Option.some Jvm.ClassFile.FieldType.int))
def M_M_inverse : MT := (⟨"ShareStoreModel", "inverse", "(I)I"⟩, prog_7_method_7_code, 3, (Option.some Jvm.ClassFile.FieldType.int))
def M_M_rowAt : MT := (⟨"ShareStoreModel", "rowAt", "(II)I"⟩, prog_7_method_11_code, 3, (Option.some Jvm.ClassFile.FieldType.int))
def M_M_isNode : MT := (⟨"ShareStoreModel", "isNode", "(I)Z"⟩, prog_7_method_4_code, 1, (Option.some Jvm.ClassFile.FieldType.boolean))
def M_M_row : MT := (⟨"ShareStoreModel", "row", "(II)I"⟩, prog_7_method_10_code, 4, (Option.some Jvm.ClassFile.FieldType.int))
def M_M_feed : MT := (⟨"ShareStoreModel", "feed", "(JI)I"⟩, prog_7_method_28_code, 5, (Option.some Jvm.ClassFile.FieldType.int))
def M_M_cut : MT := (⟨"ShareStoreModel", "cut", "(I)I"⟩, prog_7_method_29_code, 2, (Option.some Jvm.ClassFile.FieldType.int))
def M_M_put : MT := (⟨"ShareStoreModel", "put", "(I)I"⟩, prog_7_method_31_code, 4, (Option.some Jvm.ClassFile.FieldType.int))
def M_M_refused : MT := (⟨"ShareStoreModel", "refused", "(I)I"⟩, prog_7_method_30_code, 2, (Option.some Jvm.ClassFile.FieldType.int))
def M_M_isObject : MT := (⟨"ShareStoreModel", "isObject", "(I)Z"⟩, prog_7_method_5_code, 1, (Option.some Jvm.ClassFile.FieldType.boolean))
def M_M_live : MT := (⟨"ShareStoreModel", "live", "()I"⟩, prog_7_method_24_code, 3, (Option.some Jvm.ClassFile.FieldType.int))
def M_M_usedBy : MT := (⟨"ShareStoreModel", "usedBy", "(I)I"⟩, prog_7_method_15_code, 4, (Option.some Jvm.ClassFile.FieldType.int))
def M_M_stripes : MT := (⟨"ShareStoreModel", "stripes", "(I)I"⟩, prog_7_method_14_code, 1, (Option.some Jvm.ClassFile.FieldType.int))
def M_M_goes : MT := (⟨"ShareStoreModel", "goes", "(I)I"⟩, prog_7_method_27_code, 6, (Option.some Jvm.ClassFile.FieldType.int))
def M_M_givesUp : MT := (⟨"ShareStoreModel", "givesUp", "(IIZ)V"⟩, prog_7_method_17_code, 6, (Option.none : Option Jvm.ClassFile.FieldType))
def M_M_at : MT := (⟨"ShareStoreModel", "at", "(IIZ)I"⟩, prog_7_method_13_code, 3, (Option.some Jvm.ClassFile.FieldType.int))
def M_M_takes : MT := (⟨"ShareStoreModel", "takes", "(IIZII)V"⟩, prog_7_method_18_code, 9, (Option.none : Option Jvm.ClassFile.FieldType))
def M_M_leastFree : MT := (⟨"ShareStoreModel", "leastFree", "(I)I"⟩, prog_7_method_16_code, 3, (Option.some Jvm.ClassFile.FieldType.int))
def M_M_shares : MT := (⟨"ShareStoreModel", "shares", "(II)V"⟩, prog_7_method_26_code, 8, (Option.none : Option Jvm.ClassFile.FieldType))
def M_M_matrix : MT := (⟨"ShareStoreModel", "matrix", "(III)I"⟩, prog_7_method_25_code, 8, (Option.some Jvm.ClassFile.FieldType.int))
def M_M_byteAt : MT := (⟨"ShareStoreModel", "byteAt", "(IIII)I"⟩, prog_7_method_20_code, 5, (Option.some Jvm.ClassFile.FieldType.int))
def M_M_flips : MT := (⟨"ShareStoreModel", "flips", "(II)V"⟩, prog_7_method_19_code, 6, (Option.none : Option Jvm.ClassFile.FieldType))
def M_M_remove : MT := (⟨"ShareStoreModel", "remove", "(I)I"⟩, prog_7_method_32_code, 5, (Option.some Jvm.ClassFile.FieldType.int))
def M_M_settle : MT := (⟨"ShareStoreModel", "settle", "(I)I"⟩, prog_7_method_33_code, 5, (Option.some Jvm.ClassFile.FieldType.int))
def M_M_get : MT := (⟨"ShareStoreModel", "get", "(II)I"⟩, prog_7_method_36_code, 6, (Option.some Jvm.ClassFile.FieldType.int))
def M_M_newest : MT := (⟨"ShareStoreModel", "newest", "(I)I"⟩, prog_7_method_21_code, 8, (Option.some Jvm.ClassFile.FieldType.int))
def M_M_choose : MT := (⟨"ShareStoreModel", "choose", "(IIII)I"⟩, prog_7_method_34_code, 7, (Option.some Jvm.ClassFile.FieldType.int))
def M_M_isFresh : MT := (⟨"ShareStoreModel", "isFresh", "(III)Z"⟩, prog_7_method_22_code, 5, (Option.some Jvm.ClassFile.FieldType.boolean))
def M_M_sizeOf : MT := (⟨"ShareStoreModel", "sizeOf", "(II)I"⟩, prog_7_method_23_code, 4, (Option.some Jvm.ClassFile.FieldType.int))
def M_M_getStripe : MT := (⟨"ShareStoreModel", "getStripe", "(II)V"⟩, prog_7_method_35_code, 8, (Option.none : Option Jvm.ClassFile.FieldType))
def M_M_solve : MT := (⟨"ShareStoreModel", "solve", "(II)V"⟩, prog_7_method_12_code, 9, (Option.none : Option Jvm.ClassFile.FieldType))
def M_M_got : MT := (⟨"ShareStoreModel", "got", "(I)I"⟩, prog_7_method_37_code, 2, (Option.some Jvm.ClassFile.FieldType.int))
def M_M_version : MT := (⟨"ShareStoreModel", "version", "(I)I"⟩, prog_7_method_38_code, 2, (Option.some Jvm.ClassFile.FieldType.int))
def M_M_open : MT := (⟨"ShareStoreModel", "open", "(I)I"⟩, prog_7_method_39_code, 2, (Option.some Jvm.ClassFile.FieldType.int))
def M_M_fail : MT := (⟨"ShareStoreModel", "fail", "(I)I"⟩, prog_7_method_40_code, 2, (Option.some Jvm.ClassFile.FieldType.int))
def M_M_back : MT := (⟨"ShareStoreModel", "back", "(I)I"⟩, prog_7_method_41_code, 4, (Option.some Jvm.ClassFile.FieldType.int))
def M_M_wipe : MT := (⟨"ShareStoreModel", "wipe", "(I)I"⟩, prog_7_method_42_code, 4, (Option.some Jvm.ClassFile.FieldType.int))
def M_M_rebuild : MT := (⟨"ShareStoreModel", "rebuild", "(II)I"⟩, prog_7_method_47_code, 10, (Option.some Jvm.ClassFile.FieldType.int))
def M_M_wants : MT := (⟨"ShareStoreModel", "wants", "(II)Z"⟩, prog_7_method_43_code, 4, (Option.some Jvm.ClassFile.FieldType.boolean))
def M_M_rebuilds : MT := (⟨"ShareStoreModel", "rebuilds", "(III)I"⟩, prog_7_method_46_code, 10, (Option.some Jvm.ClassFile.FieldType.int))
def M_M_chooseLeast : MT := (⟨"ShareStoreModel", "chooseLeast", "(III)V"⟩, prog_7_method_45_code, 8, (Option.none : Option Jvm.ClassFile.FieldType))
def M_M_symbolOf : MT := (⟨"ShareStoreModel", "symbolOf", "(IIII)I"⟩, prog_7_method_44_code, 7, (Option.some Jvm.ClassFile.FieldType.int))
def M_M_fresh : MT := (⟨"ShareStoreModel", "fresh", "(II)I"⟩, prog_7_method_48_code, 3, (Option.some Jvm.ClassFile.FieldType.int))
def M_M_sent : MT := (⟨"ShareStoreModel", "sent", "(I)I"⟩, prog_7_method_49_code, 2, (Option.some Jvm.ClassFile.FieldType.int))
def M_M_free : MT := (⟨"ShareStoreModel", "free", "(I)I"⟩, prog_7_method_50_code, 2, (Option.some Jvm.ClassFile.FieldType.int))
def M_M_record : MT := (⟨"ShareStoreModel", "record", "(III)I"⟩, prog_7_method_51_code, 6, (Option.some Jvm.ClassFile.FieldType.int))
def M_M_block : MT := (⟨"ShareStoreModel", "block", "(IIIZ)I"⟩, prog_7_method_52_code, 6, (Option.some Jvm.ClassFile.FieldType.int))
def M_M_byteOf : MT := (⟨"ShareStoreModel", "byteOf", "(III)I"⟩, prog_7_method_53_code, 4, (Option.some Jvm.ClassFile.FieldType.int))
def M_M_symbol : MT := (⟨"ShareStoreModel", "symbol", "(IIII)I"⟩, prog_7_method_54_code, 6, (Option.some Jvm.ClassFile.FieldType.int))
def M_M_count : MT := (⟨"ShareStoreModel", "count", "(I)I"⟩, prog_7_method_55_code, 4, (Option.some Jvm.ClassFile.FieldType.int))
def M_M_digest : MT := (⟨"ShareStoreModel", "digest", "()J"⟩, prog_7_method_56_code, 8, (Option.some Jvm.ClassFile.FieldType.long))
def M_M_clear : MT := (⟨"ShareStoreModel", "clear", "()I"⟩, prog_7_method_57_code, 3, (Option.some Jvm.ClassFile.FieldType.int))
def tblG : List Cond := lw_tbl.filter goodWord
theorem tblG_sub : ∀ w ∈ tblG, w ∈ lw_tbl := fun w hw => (List.mem_filter.mp hw).1
theorem gi_tbl : GoodIn tblG tblG := fun w hw => ⟨hw, good_of_word (List.mem_filter.mp hw).2⟩
theorem gi_cons {w : Cond} {ws : List Cond} (hw : w ∈ tblG) (h : GoodIn tblG ws) : GoodIn tblG (w :: ws) := fun x hx => (List.mem_cons.mp hx).elim (fun e => by rw [e]; exact gi_tbl w hw) (h x)
theorem wm_in {w : Cond} {i : Nat} (h : lw_tbl[i]? = some w) (hg : goodWord w = true) : w ∈ tblG := List.mem_filter.mpr ⟨List.mem_of_getElem? h, hg⟩
def SPW : List Cond := [(Jvm.Cond.arrayOver (Jvm.ClassFile.FieldType.array Jvm.ClassFile.FieldType.int)), (Jvm.Cond.fieldLinkNest "ShareStore" (63 : Nat) "ShareStore$Coder" "field" "LShareStore$Field;" "ShareStore"), (Jvm.Cond.arrayOver (Jvm.ClassFile.FieldType.object "ShareStore$Node")), (Jvm.Cond.arrayOver (Jvm.ClassFile.FieldType.object "ShareStore$Holding")), (Jvm.Cond.methodLinkNest "ShareStore$Node" (36 : Nat) ({ cls := "ShareStore$Holding", name := "<init>", desc := "()V" } : Jvm.MethodName) "ShareStore"), (Jvm.Cond.fieldLinkNest "ShareStore$Node" (56 : Nat) "ShareStore$Holding" "places" "[I" "ShareStore"), (Jvm.Cond.fieldLinkNest "ShareStore$Node" (37 : Nat) "ShareStore$Holding" "version" "I" "ShareStore"), (Jvm.Cond.fieldLinkNest "ShareStore" (111 : Nat) "ShareStore$Holding" "version" "I" "ShareStore"), (Jvm.Cond.fieldLinkNest "ShareStore$Node" (40 : Nat) "ShareStore$Holding" "bytes" "I" "ShareStore"), (Jvm.Cond.fieldLinkNest "ShareStore" (201 : Nat) "ShareStore$Holding" "bytes" "I" "ShareStore"), (Jvm.Cond.fieldLinkNest "ShareStore$Node" (53 : Nat) "ShareStore$Holding" "stripes" "I" "ShareStore"), (Jvm.Cond.fieldLinkNest "ShareStore" (204 : Nat) "ShareStore$Holding" "stripes" "I" "ShareStore"), (Jvm.Cond.fieldLinkNest "ShareStore" (173 : Nat) "ShareStore$Node" "records" "[LShareStore$Holding;" "ShareStore"), (Jvm.Cond.fieldLinkNest "ShareStore" (107 : Nat) "ShareStore$Node" "shadows" "[LShareStore$Holding;" "ShareStore"), (Jvm.Cond.fieldLinkNest "ShareStore" (103 : Nat) "ShareStore$Node" "live" "Z" "ShareStore"), (Jvm.Cond.fieldLinkNest "ShareStore" (163 : Nat) "ShareStore$Node" "symbolsSent" "I" "ShareStore"), (Jvm.Cond.methodLinkNest "ShareStore$Coder" (43 : Nat) ({ cls := "ShareStore", name := "isNode", desc := "(I)Z" } : Jvm.MethodName) "ShareStore"), (Jvm.Cond.methodLinkNest "ShareStore$Node" (43 : Nat) ({ cls := "ShareStore", name := "stripesOf", desc := "(I)I" } : Jvm.MethodName) "ShareStore")]
theorem spw_sub : ∀ w ∈ SPW, w ∈ lw_tbl := by decide +kernel
theorem iw_C : ∀ w ∈ u_ws R_C T_C 7, w ∈ tblG := by decide +kernel
theorem iw_F : ∀ w ∈ u_ws R_F T_F 2, w ∈ tblG := by decide +kernel
theorem iw_H : ∀ w ∈ u_ws R_H T_H 4, w ∈ tblG := by decide +kernel
theorem iw_N : ∀ w ∈ u_ws R_N T_N 6, w ∈ tblG := by decide +kernel
theorem iw_S : ∀ w ∈ u_ws R_S T_S 13, w ∈ tblG := by decide +kernel
theorem iw_M : ∀ w ∈ u_ws R_M T_M 20, w ∈ tblG := by decide +kernel
end
section
-- ===== the machine under one judgement: heaps as functions from addresses, contracts that are exact =====
abbrev AC : Type := (Nat × vp_A) ⊕ (Nat × List Value)
abbrev AH : Type := Nat → Option AC
abbrev GX : Type := Nat × va_G × (Nat → ClassId)
def TYS (g : GX) : List (ClassId × FieldType) := [(g.2.2 0, .int), (g.2.2 1, .boolean), (g.2.2 2, .object "ShareStore$Node"), (g.2.2 3, .object "ShareStore$Holding"), (g.2.2 4, .array .int)]
def g_E (g : GX) (c : AC) : va_E := match c with
  | .inl x => .inl (g.2.2 x.1, x.2)
  | .inr o => .inr o
def updH (h : AH) (a : Nat) (c : AC) : AH := fun q => if q = a then some c else h q
def HR (g : GX) (n : Nat) (h : AH) (H : Heap) : Prop := H.size = g.1 + n ∧ (∀ a c, h a = some c → g.1 ≤ a) ∧ ∀ a c, h a = some c → va_at g.2.1 CL (a, g_E g c) H
def isSp : Cond → Bool
  | .fieldLinkNest .. => true
  | .methodLinkNest .. => true
  | .arrayOver _ => true
  | _ => false
theorem spw_is : SPW.all isSp = true := by decide +kernel
def KX (g : GX) (U : State) : Prop := va_K g.2.1 CL (TYS g) U ∧ ∀ w ∈ SPW, w.before #[] U = true
theorem sp_warm {s U : State} (hW : s.WarmedH U.vm) : ∀ w : Cond, isSp w = true → w.before #[] s = true → w.before #[] U = true
  | .fieldLinkNest .., _, h => va_Nw.warmF hW h
  | .methodLinkNest .., _, h => va_Nw.warmM hW h
  | .arrayOver ty, _, h => by
    have e := Cond.arrayOver_setVmC (args := #[]) hW.alike ty
    rw [h] at e
    exact e
theorem KX.moved {g : GX} {s U : State} (hW : s.WarmedH U.vm) (h : KX g s) : KX g U := ⟨va_K.moved hW.alike h.1, fun w hw => sp_warm hW w (List.all_eq_true.mp spw_is w hw) (h.2 w hw)⟩
/-- the law's extra fact of the start, or nothing -/
abbrev XPT : Type := State → Prop
abbrev TGT : Type := Array Value → State → List Frame → State → Prop
def RMX (d mc ms : Nat) : Room := { frames := d, cells := mc, slots := ms, locals := 36 * d }
def EVX (g : GX) (M : MT) (XP : XPT) (p : Program) (s : State) (m : MethodId) (args : Array Value) (meth : Method) (c : Code) : Prop :=
  p.tables.exec = Jvm.exec ∧ c.code = M.2.1 ∧ c.maxLocals = M.2.2.1 ∧ meth.sig.returnType = M.2.2.2 ∧ meth.locks = false ∧ s.vm.findClass M.1.cls = some m.cls ∧ (∀ w ∈ tblG, w.before args s = true) ∧ KX g s ∧ meth.name = M.1.name ∧ g.1 ≤ s.heap.size ∧ XP s
def RJ (l : Launch) (g : GX) (M : MT) (R : Room) (TG : TGT) (XP : XPT) (n : Nat) (h : AH) (k sl : Nat) (pc : Nat) (lv : List (Nat × Value)) (st : List Value) : Prop :=
  ∀ (p : Program) (e : Env) (s : State) (m : MethodId) (args : Array Value) (below : List Frame) (meth : Method) (c : Code) (H : Heap) (locs : List Loc) (ls : Array Slot),
    EVX g M XP p s m args meth c → HR g n h H → va_S (fun q : Nat => g.1 ≤ q) s.heap H locs → lv_has ls M.2.2.1 lv →
    W p l e R s m args below meth c H locs k sl (TG args s below) (F0 m pc ls st)
def QX (g : GX) (Q : Option Value → Nat → AH → Prop) : Array Value → State → Outcome → State → Prop := fun _ st o t =>
  ∃ v n h, o = .returned v ∧ Q v n h ∧ HR g n h t.heap ∧ va_F (fun q : Nat => g.1 ≤ q) st t
def TQ (g : GX) (mc ms : Nat) (Q : Option Value → Nat → AH → Prop) : TGT := fun args s below => MQ below (QX g Q) args s mc ms (fun q : Nat => g.1 ≤ q)
/-- the contract: from the heap h (n cells), M returns r and leaves h' (n' cells) -/
def CE (l : Launch) (g : GX) (M : MT) (d mc ms : Nat) (As : List Value) (n : Nat) (h : AH) (r : Option Value) (n' : Nat) (h' : AH) : Prop :=
  Met l M.1 (Cond.code M.1 M.2.1 M.2.2.1 M.2.2.2 :: tblG) (RMX d mc ms) (va_Pc As (fun U => HR g n h U.heap ∧ KX g U)) (QX g (fun v n2 h2 => v = r ∧ n2 = n' ∧ h2 = h')) mc ms (fun q : Nat => g.1 ≤ q)
abbrev XT : XPT := fun _ => True
abbrev QE (r : Option Value) (n' : Nat) (h' : AH) : Option Value → Nat → AH → Prop := fun v n2 h2 => v = r ∧ n2 = n' ∧ h2 = h'
theorem CE.of {l : Launch} {g : GX} {M : MT} {d mc ms : Nat} {As : List Value} {n : Nat} {h : AH} {r : Option Value} {n' : Nat} {h' : AH} (hy : plainName M.1.cls = true) {lv : List (Nat × Value)} (hlv : lv_args 0 As = lv) (hlen : (lg_sl As).length ≤ M.2.2.1)
    (k : RJ l g M (RMX d mc ms) (TQ g mc ms (QE r n' h')) XT n h 0 0 0 lv []) : CE l g M d mc ms As n h r n' h' := by
  refine Met.ofW (cc := M.2.1) (maxL := M.2.2.1) (ret := M.2.2.2) hy rfl ?_
  intro p e s m args below meth c s₁ B hml hv
  obtain ⟨rfl, hH, hK⟩ := hv
  rw [lg_entry_eq]
  have hl := lv_entry As hlen
  rw [hlv] at hl
  have hts := atoms_spec (ws := Cond.code M.1 M.2.1 M.2.2.1 M.2.2.2 :: tblG) B.pre
  exact k p e s m _ below meth c s.heap [] _ ⟨B.exec, B.bytes, hml, B.returns, B.notSynchronized, findClass_of_methodNamed B.named, fun w hw => hts w (List.mem_cons_of_mem _ hw), hK, (name_of_methodNamed B.named B.method).1, by rw [hH.1]; exact Nat.le_add_right _ _, trivial⟩ hH va_S.rf hl
theorem va_P1 {D : va_G} {a : Nat} {e : va_E} {H : Heap} (h : va_at D CL (a, e) H) : va_P D CL [(a, e)] H := fun k q hk => by
  have hz : k < 1 := (List.getElem?_eq_some_iff.mp hk).1
  rw [show k = 0 by omega] at hk
  cases hk
  exact h
theorem HR.set {g : GX} {n : Nat} {h : AH} {H H1 : Heap} {a : Nat} {c0 c : AC} (hR : HR g n h H) (h0 : h a = some c0) (z : H1.size = H.size) (oq : ∀ q : Nat, q ≠ a → H1[q]? = H[q]?) (e : va_at g.2.1 CL (a, g_E g c) H1) : HR g n (updH h a c) H1 := by
  refine ⟨z.trans hR.1, fun q x hx => ?_, fun q x hx => ?_⟩
  · unfold updH at hx
    by_cases hq : q = a
    · rw [hq]; exact hR.2.1 a c0 h0
    · rw [if_neg hq] at hx; exact hR.2.1 q x hx
  · unfold updH at hx
    by_cases hq : q = a
    · rw [if_pos hq] at hx
      cases hx
      rw [hq]
      exact e
    · rw [if_neg hq] at hx
      exact (hR.2.2 q x hx).kept (oq q hq)
theorem HR.push {g : GX} {n : Nat} {h : AH} {H H1 : Heap} {c : AC} (hR : HR g n h H) (z : H1.size = H.size + 1) (o1 : ∀ q : Nat, q < H.size → H1[q]? = H[q]?) (e : va_at g.2.1 CL (H.size, g_E g c) H1) : HR g (n + 1) (updH h (g.1 + n) c) H1 := by
  have hs := hR.1
  refine ⟨by rw [z, hs]; rfl, fun q x hx => ?_, fun q x hx => ?_⟩
  · unfold updH at hx
    by_cases hq : q = g.1 + n
    · omega
    · rw [if_neg hq] at hx; exact hR.2.1 q x hx
  · unfold updH at hx
    by_cases hq : q = g.1 + n
    · rw [if_pos hq] at hx
      cases hx
      rw [hq, ← hs]
      exact e
    · rw [if_neg hq] at hx
      have h1 := hR.2.2 q x hx
      exact h1.kept (o1 q h1.lt)
/-- the locals kept in the order of their places -/
def lins (i : Nat) (v : Value) : List (Nat × Value) → List (Nat × Value)
  | [] => [(i, v)]
  | q :: t => if i < q.1 then (i, v) :: q :: t else q :: lins i v t
theorem lins_mem {i : Nat} {v : Value} : ∀ {l : List (Nat × Value)} {q : Nat × Value}, q ∈ lins i v l → q ∈ (i, v) :: l
  | [], _, h => h
  | a :: t, q, h => by
    unfold lins at h
    by_cases c : i < a.1
    · rw [if_pos c] at h; exact h
    · rw [if_neg c] at h
      rcases List.mem_cons.mp h with h | h
      · rw [h]; exact List.mem_cons_of_mem _ List.mem_cons_self
      · rcases List.mem_cons.mp (lins_mem h) with h | h
        · rw [h]; exact List.mem_cons_self
        · exact List.mem_cons_of_mem _ (List.mem_cons_of_mem _ h)
def ls1 (i : Nat) (v : Value) (lv : List (Nat × Value)) : List (Nat × Value) := lins i v (lv.filter (fun q => !(q.1 == i) && !(q.1 + 1 == i && q.2.category == 2)))
def ls2 (i : Nat) (v : Value) (lv : List (Nat × Value)) : List (Nat × Value) := lins i v (lv.filter (fun q => !(q.1 == i) && (!(q.1 == i + 1) && !(q.1 + 1 == i && q.2.category == 2))))
theorem lv_lins {ls : Array Slot} {nL i : Nat} {v : Value} {l : List (Nat × Value)} (h : lv_has ls nL ((i, v) :: l)) : lv_has ls nL (lins i v l) := ⟨h.1, h.2.1, fun q hq => h.2.2 q (lins_mem hq)⟩
theorem lv_less {ls : Array Slot} {nL : Nat} {l l' : List (Nat × Value)} (h : lv_has ls nL l) (hs : ∀ q ∈ l', q ∈ l) : lv_has ls nL l' := ⟨h.1, h.2.1, fun q hq => h.2.2 q (hs q hq)⟩
end
section
section RULES
variable {l : Launch} {g : GX} {M : MT} {R : Room} {TG : TGT} {XP : XPT} {n : Nat} {h : AH} {k sl : Nat} {pc : Nat} {lv lv' : List (Nat × Value)} {st : List Value}
theorem r_less (hs : ∀ q ∈ lv', q ∈ lv) (kk : RJ l g M R TG XP n h k sl pc lv' st) : RJ l g M R TG XP n h k sl pc lv st := fun p e s m args below meth c H locs ls E hR hS hl => kk p e s m args below meth c H locs ls E hR hS (lv_less hl hs)
theorem r_heap {h' : AH} (e : h = h') (kk : RJ l g M R TG XP n h' k sl pc lv st) : RJ l g M R TG XP n h k sl pc lv st := e ▸ kk
theorem r_at {lv' : List (Nat × Value)} {st' : List Value} {h' : AH} (kk : RJ l g M R TG XP n h' k sl pc lv' st') (e1 : h = h') (e2 : lv = lv') (e3 : st = st') : RJ l g M R TG XP n h k sl pc lv st := by subst e1 e2 e3; exact kk
theorem r_widen {k' sl' : Nat} (h1 : k ≤ k') (h2 : sl ≤ sl') (kk : RJ l g M R TG XP n h k' sl' pc lv st) : RJ l g M R TG XP n h k sl pc lv st := fun p e s m args below meth c H locs ls E hR hS hl => W.widen h1 h2 (kk p e s m args below meth c H locs ls E hR hS hl)
theorem r_iadd {x y : Int32} (hd : decode M.2.1 pc = .ok (.iadd, 1)) (kk : RJ l g M R TG XP n h k sl (pc + 1) lv (.int (x + y) :: st)) : RJ l g M R TG XP n h k sl pc lv (.int y :: .int x :: st) := fun p e s m args below meth c H locs ls E hR hS hl => lv_iadd E.1 E.2.1 hd (kk p e s m args below meth c H locs ls E hR hS hl)
theorem r_isub {x y : Int32} (hd : decode M.2.1 pc = .ok (.isub, 1)) (kk : RJ l g M R TG XP n h k sl (pc + 1) lv (.int (x - y) :: st)) : RJ l g M R TG XP n h k sl pc lv (.int y :: .int x :: st) := fun p e s m args below meth c H locs ls E hR hS hl => lv_isub E.1 E.2.1 hd (kk p e s m args below meth c H locs ls E hR hS hl)
theorem r_imul {x y : Int32} (hd : decode M.2.1 pc = .ok (.imul, 1)) (kk : RJ l g M R TG XP n h k sl (pc + 1) lv (.int (x * y) :: st)) : RJ l g M R TG XP n h k sl pc lv (.int y :: .int x :: st) := fun p e s m args below meth c H locs ls E hR hS hl => lv_imul E.1 E.2.1 hd (kk p e s m args below meth c H locs ls E hR hS hl)
theorem r_iand {x y : Int32} (hd : decode M.2.1 pc = .ok (.iand, 1)) (kk : RJ l g M R TG XP n h k sl (pc + 1) lv (.int (x &&& y) :: st)) : RJ l g M R TG XP n h k sl pc lv (.int y :: .int x :: st) := fun p e s m args below meth c H locs ls E hR hS hl => lv_iand E.1 E.2.1 hd (kk p e s m args below meth c H locs ls E hR hS hl)
theorem r_ixor {x y : Int32} (hd : decode M.2.1 pc = .ok (.ixor, 1)) (kk : RJ l g M R TG XP n h k sl (pc + 1) lv (.int (x ^^^ y) :: st)) : RJ l g M R TG XP n h k sl pc lv (.int y :: .int x :: st) := fun p e s m args below meth c H locs ls E hR hS hl => lv_ixor E.1 E.2.1 hd (kk p e s m args below meth c H locs ls E hR hS hl)
theorem r_ishl {x y : Int32} (hd : decode M.2.1 pc = .ok (.ishl, 1)) (kk : RJ l g M R TG XP n h k sl (pc + 1) lv (.int (x <<< (y &&& 31)) :: st)) : RJ l g M R TG XP n h k sl pc lv (.int y :: .int x :: st) := fun p e s m args below meth c H locs ls E hR hS hl => lv_ishl E.1 E.2.1 hd (kk p e s m args below meth c H locs ls E hR hS hl)
theorem r_ishr {x y : Int32} (hd : decode M.2.1 pc = .ok (.ishr, 1)) (kk : RJ l g M R TG XP n h k sl (pc + 1) lv (.int (x >>> (y &&& 31)) :: st)) : RJ l g M R TG XP n h k sl pc lv (.int y :: .int x :: st) := fun p e s m args below meth c H locs ls E hR hS hl => lv_ishr E.1 E.2.1 hd (kk p e s m args below meth c H locs ls E hR hS hl)
theorem r_idiv {x y : Int32} (hd : decode M.2.1 pc = .ok (.idiv, 1)) (hne : ¬ y = 0) (kk : RJ l g M R TG XP n h k sl (pc + 1) lv (.int (x / y) :: st)) : RJ l g M R TG XP n h k sl pc lv (.int y :: .int x :: st) := fun p e s m args below meth c H locs ls E hR hS hl => lv_idiv E.1 E.2.1 hd hne (kk p e s m args below meth c H locs ls E hR hS hl)
theorem r_irem {x y : Int32} (hd : decode M.2.1 pc = .ok (.irem, 1)) (hne : ¬ y = 0) (kk : RJ l g M R TG XP n h k sl (pc + 1) lv (.int (x - x / y * y) :: st)) : RJ l g M R TG XP n h k sl pc lv (.int y :: .int x :: st) := fun p e s m args below meth c H locs ls E hR hS hl => lv_irem E.1 E.2.1 hd hne (kk p e s m args below meth c H locs ls E hR hS hl)
theorem r_ladd {x y : Int64} (hd : decode M.2.1 pc = .ok (.ladd, 1)) (kk : RJ l g M R TG XP n h k sl (pc + 1) lv (.long (x + y) :: st)) : RJ l g M R TG XP n h k sl pc lv (.long y :: .long x :: st) := fun p e s m args below meth c H locs ls E hR hS hl => lv_ladd E.1 E.2.1 hd (kk p e s m args below meth c H locs ls E hR hS hl)
theorem r_lsub {x y : Int64} (hd : decode M.2.1 pc = .ok (.lsub, 1)) (kk : RJ l g M R TG XP n h k sl (pc + 1) lv (.long (x - y) :: st)) : RJ l g M R TG XP n h k sl pc lv (.long y :: .long x :: st) := fun p e s m args below meth c H locs ls E hR hS hl => lv_lsub E.1 E.2.1 hd (kk p e s m args below meth c H locs ls E hR hS hl)
theorem r_lmul {x y : Int64} (hd : decode M.2.1 pc = .ok (.lmul, 1)) (kk : RJ l g M R TG XP n h k sl (pc + 1) lv (.long (x * y) :: st)) : RJ l g M R TG XP n h k sl pc lv (.long y :: .long x :: st) := fun p e s m args below meth c H locs ls E hR hS hl => lv_lmul E.1 E.2.1 hd (kk p e s m args below meth c H locs ls E hR hS hl)
theorem r_land {x y : Int64} (hd : decode M.2.1 pc = .ok (.land, 1)) (kk : RJ l g M R TG XP n h k sl (pc + 1) lv (.long (x &&& y) :: st)) : RJ l g M R TG XP n h k sl pc lv (.long y :: .long x :: st) := fun p e s m args below meth c H locs ls E hR hS hl => lv_land E.1 E.2.1 hd (kk p e s m args below meth c H locs ls E hR hS hl)
theorem r_lor {x y : Int64} (hd : decode M.2.1 pc = .ok (.lor, 1)) (kk : RJ l g M R TG XP n h k sl (pc + 1) lv (.long (x ||| y) :: st)) : RJ l g M R TG XP n h k sl pc lv (.long y :: .long x :: st) := fun p e s m args below meth c H locs ls E hR hS hl => lv_lor E.1 E.2.1 hd (kk p e s m args below meth c H locs ls E hR hS hl)
theorem r_lshl {x : Int64} {y : Int32} (hd : decode M.2.1 pc = .ok (.lshl, 1)) (kk : RJ l g M R TG XP n h k sl (pc + 1) lv (.long (x <<< (y.toInt64 &&& 63)) :: st)) : RJ l g M R TG XP n h k sl pc lv (.int y :: .long x :: st) := fun p e s m args below meth c H locs ls E hR hS hl => lv_lshl E.1 E.2.1 hd rfl (kk p e s m args below meth c H locs ls E hR hS hl)
theorem r_lshr {x : Int64} {y : Int32} (hd : decode M.2.1 pc = .ok (.lshr, 1)) (kk : RJ l g M R TG XP n h k sl (pc + 1) lv (.long (x >>> (y.toInt64 &&& 63)) :: st)) : RJ l g M R TG XP n h k sl pc lv (.int y :: .long x :: st) := fun p e s m args below meth c H locs ls E hR hS hl => lv_lshr E.1 E.2.1 hd rfl (kk p e s m args below meth c H locs ls E hR hS hl)
theorem r_i2l {x : Int32} (hd : decode M.2.1 pc = .ok (.i2l, 1)) (kk : RJ l g M R TG XP n h k sl (pc + 1) lv (.long x.toInt64 :: st)) : RJ l g M R TG XP n h k sl pc lv (.int x :: st) := fun p e s m args below meth c H locs ls E hR hS hl => lv_i2l E.1 E.2.1 hd rfl (kk p e s m args below meth c H locs ls E hR hS hl)
theorem r_l2i {x : Int64} (hd : decode M.2.1 pc = .ok (.l2i, 1)) (kk : RJ l g M R TG XP n h k sl (pc + 1) lv (.int x.toInt32 :: st)) : RJ l g M R TG XP n h k sl pc lv (.long x :: st) := fun p e s m args below meth c H locs ls E hR hS hl => lv_l2i E.1 E.2.1 hd rfl (kk p e s m args below meth c H locs ls E hR hS hl)
theorem r_lcmp {x y : Int64} (hd : decode M.2.1 pc = .ok (.lcmp, 1)) (kk : RJ l g M R TG XP n h k sl (pc + 1) lv (.int (lg_cmp x y) :: st)) : RJ l g M R TG XP n h k sl pc lv (.long y :: .long x :: st) := fun p e s m args below meth c H locs ls E hR hS hl => W.lcmp E.1 E.2.1 hd (kk p e s m args below meth c H locs ls E hR hS hl)
theorem r_dup {v : Value} (hd : decode M.2.1 pc = .ok (.dup, 1)) (hv : v.category = 1) (kk : RJ l g M R TG XP n h k sl (pc + 1) lv (v :: v :: st)) : RJ l g M R TG XP n h k sl pc lv (v :: st) := fun p e s m args below meth c H locs ls E hR hS hl => lv_dup E.1 E.2.1 hd hv (kk p e s m args below meth c H locs ls E hR hS hl)
theorem r_pop {v : Value} (hd : decode M.2.1 pc = .ok (.pop, 1)) (hv : v.category = 1) (kk : RJ l g M R TG XP n h k sl (pc + 1) lv (st)) : RJ l g M R TG XP n h k sl pc lv (v :: st) := fun p e s m args below meth c H locs ls E hR hS hl => lv_pop E.1 E.2.1 hd hv (kk p e s m args below meth c H locs ls E hR hS hl)
theorem r_dup2 {v w : Value} (hd : decode M.2.1 pc = .ok (.dup2, 1)) (hv : v.category = 1) (hw : w.category = 1) (kk : RJ l g M R TG XP n h k sl (pc + 1) lv (v :: w :: v :: w :: st)) : RJ l g M R TG XP n h k sl pc lv (v :: w :: st) := fun p e s m args below meth c H locs ls E hR hS hl => lv_dup2_11 E.1 E.2.1 hd hv hw (kk p e s m args below meth c H locs ls E hR hS hl)
theorem r_iconst {a : Int} {v : Int32} (hd : decode M.2.1 pc = .ok (.iconst a, 1)) (hv : Int32.ofInt a = v) (kk : RJ l g M R TG XP n h k sl (pc + 1) lv (.int v :: st)) : RJ l g M R TG XP n h k sl pc lv (st) := fun p e s m args below meth c H locs ls E hR hS hl => lv_iconst E.1 E.2.1 hd hv (kk p e s m args below meth c H locs ls E hR hS hl)
theorem r_bipush {a : Int} {v : Int32} (hd : decode M.2.1 pc = .ok (.bipush a, 2)) (hv : (Int8.ofInt a).toInt32 = v) (kk : RJ l g M R TG XP n h k sl (pc + 2) lv (.int v :: st)) : RJ l g M R TG XP n h k sl pc lv (st) := fun p e s m args below meth c H locs ls E hR hS hl => lv_bipush E.1 E.2.1 hd hv (kk p e s m args below meth c H locs ls E hR hS hl)
theorem r_sipush {a : Int} {v : Int32} (hd : decode M.2.1 pc = .ok (.sipush a, 3)) (hv : (Int16.ofInt a).toInt32 = v) (kk : RJ l g M R TG XP n h k sl (pc + 3) lv (.int v :: st)) : RJ l g M R TG XP n h k sl pc lv (st) := fun p e s m args below meth c H locs ls E hR hS hl => lv_sipush E.1 E.2.1 hd hv (kk p e s m args below meth c H locs ls E hR hS hl)
theorem r_ldc2 {i : Nat} {v : Int64} (hd : decode M.2.1 pc = .ok (.ldc2_w i, 3)) (hw : Cond.constantLong M.1.cls i v ∈ tblG) (kk : RJ l g M R TG XP n h k sl (pc + 3) lv (.long v :: st)) : RJ l g M R TG XP n h k sl pc lv (st) := fun p e s m args below meth c H locs ls E hR hS hl => lv_ldc2 E.1 E.2.1 E.2.2.2.2.2.1 (E.2.2.2.2.2.2.1 _ hw) hd (kk p e s m args below meth c H locs ls E hR hS hl)
theorem r_iload_n {f : Fin 4} {x : Int32} (hd : decode M.2.1 pc = .ok (.iload_n f, 1)) (j : Nat) (hj : lv[j]? = some ((f : Nat), .int x)) (kk : RJ l g M R TG XP n h k sl (pc + 1) lv (.int x :: st)) : RJ l g M R TG XP n h k sl pc lv (st) := fun p e s m args below meth c H locs ls E hR hS hl => lv_iload_n E.1 E.2.1 hd rfl (lv_at hl j hj) (kk p e s m args below meth c H locs ls E hR hS hl)
theorem r_iload {f : Nat} {x : Int32} (hd : decode M.2.1 pc = .ok (.iload f, 2)) (j : Nat) (hj : lv[j]? = some (f, .int x)) (kk : RJ l g M R TG XP n h k sl (pc + 2) lv (.int x :: st)) : RJ l g M R TG XP n h k sl pc lv (st) := fun p e s m args below meth c H locs ls E hR hS hl => lv_iload E.1 E.2.1 hd (lv_at hl j hj) (kk p e s m args below meth c H locs ls E hR hS hl)
theorem r_istore_n {f : Fin 4} {x : Int32} (hd : decode M.2.1 pc = .ok (.istore_n f, 1)) (hn : (f : Nat) < M.2.2.1) (hl' : ls1 (f : Nat) (.int x) lv = lv') (kk : RJ l g M R TG XP n h k sl (pc + 1) lv' st) : RJ l g M R TG XP n h k sl pc lv (.int x :: st) := fun p e s m args below meth c H locs ls E hR hS hl => lv_istore_n E.1 E.2.1 hd rfl hl hn rfl (fun ls' h' => kk p e s m args below meth c H locs ls' E hR hS (by rw [← hl']; exact lv_lins h'))
theorem r_istore {f : Nat} {x : Int32} (hd : decode M.2.1 pc = .ok (.istore f, 2)) (hn : f < M.2.2.1) (hl' : ls1 f (.int x) lv = lv') (kk : RJ l g M R TG XP n h k sl (pc + 2) lv' st) : RJ l g M R TG XP n h k sl pc lv (.int x :: st) := fun p e s m args below meth c H locs ls E hR hS hl => lv_istore E.1 E.2.1 hd hl hn rfl (fun ls' h' => kk p e s m args below meth c H locs ls' E hR hS (by rw [← hl']; exact lv_lins h'))
theorem r_lload_n {f : Fin 4} {x : Int64} (hd : decode M.2.1 pc = .ok (.lload_n f, 1)) (j : Nat) (hj : lv[j]? = some ((f : Nat), .long x)) (kk : RJ l g M R TG XP n h k sl (pc + 1) lv (.long x :: st)) : RJ l g M R TG XP n h k sl pc lv (st) := fun p e s m args below meth c H locs ls E hR hS hl => lv_lload_n E.1 E.2.1 hd rfl (lv_at hl j hj) (kk p e s m args below meth c H locs ls E hR hS hl)
theorem r_lload {f : Nat} {x : Int64} (hd : decode M.2.1 pc = .ok (.lload f, 2)) (j : Nat) (hj : lv[j]? = some (f, .long x)) (kk : RJ l g M R TG XP n h k sl (pc + 2) lv (.long x :: st)) : RJ l g M R TG XP n h k sl pc lv (st) := fun p e s m args below meth c H locs ls E hR hS hl => lv_lload E.1 E.2.1 hd (lv_at hl j hj) (kk p e s m args below meth c H locs ls E hR hS hl)
theorem r_lstore_n {f : Fin 4} {x : Int64} (hd : decode M.2.1 pc = .ok (.lstore_n f, 1)) (hn : (f : Nat) + 1 < M.2.2.1) (hl' : ls2 (f : Nat) (.long x) lv = lv') (kk : RJ l g M R TG XP n h k sl (pc + 1) lv' st) : RJ l g M R TG XP n h k sl pc lv (.long x :: st) := fun p e s m args below meth c H locs ls E hR hS hl => lv_lstore_n E.1 E.2.1 hd rfl hl hn rfl (fun ls' h' => kk p e s m args below meth c H locs ls' E hR hS (by rw [← hl']; exact lv_lins h'))
theorem r_lstore {f : Nat} {x : Int64} (hd : decode M.2.1 pc = .ok (.lstore f, 2)) (hn : f + 1 < M.2.2.1) (hl' : ls2 f (.long x) lv = lv') (kk : RJ l g M R TG XP n h k sl (pc + 2) lv' st) : RJ l g M R TG XP n h k sl pc lv (.long x :: st) := fun p e s m args below meth c H locs ls E hR hS hl => lv_lstore E.1 E.2.1 hd hl hn rfl (fun ls' h' => kk p e s m args below meth c H locs ls' E hR hS (by rw [← hl']; exact lv_lins h'))
theorem r_aload_n {f : Fin 4} {x : Nat} (hd : decode M.2.1 pc = .ok (.aload_n f, 1)) (j : Nat) (hj : lv[j]? = some ((f : Nat), .ref x)) (kk : RJ l g M R TG XP n h k sl (pc + 1) lv (.ref x :: st)) : RJ l g M R TG XP n h k sl pc lv (st) := fun p e s m args below meth c H locs ls E hR hS hl => lv_aload_n E.1 E.2.1 hd rfl (lv_at hl j hj) (kk p e s m args below meth c H locs ls E hR hS hl)
theorem r_aload {f : Nat} {x : Nat} (hd : decode M.2.1 pc = .ok (.aload f, 2)) (j : Nat) (hj : lv[j]? = some (f, .ref x)) (kk : RJ l g M R TG XP n h k sl (pc + 2) lv (.ref x :: st)) : RJ l g M R TG XP n h k sl pc lv (st) := fun p e s m args below meth c H locs ls E hR hS hl => lv_aload E.1 E.2.1 hd (lv_at hl j hj) (kk p e s m args below meth c H locs ls E hR hS hl)
theorem r_astore_n {f : Fin 4} {x : Nat} (hd : decode M.2.1 pc = .ok (.astore_n f, 1)) (hn : (f : Nat) < M.2.2.1) (hl' : ls1 (f : Nat) (.ref x) lv = lv') (kk : RJ l g M R TG XP n h k sl (pc + 1) lv' st) : RJ l g M R TG XP n h k sl pc lv (.ref x :: st) := fun p e s m args below meth c H locs ls E hR hS hl => lv_astore_n E.1 E.2.1 hd rfl hl hn rfl (fun ls' h' => kk p e s m args below meth c H locs ls' E hR hS (by rw [← hl']; exact lv_lins h'))
theorem r_astore {f : Nat} {x : Nat} (hd : decode M.2.1 pc = .ok (.astore f, 2)) (hn : f < M.2.2.1) (hl' : ls1 f (.ref x) lv = lv') (kk : RJ l g M R TG XP n h k sl (pc + 2) lv' st) : RJ l g M R TG XP n h k sl pc lv (.ref x :: st) := fun p e s m args below meth c H locs ls E hR hS hl => lv_astore E.1 E.2.1 hd hl hn rfl (fun ls' h' => kk p e s m args below meth c H locs ls' E hR hS (by rw [← hl']; exact lv_lins h'))
theorem r_iinc {f : Nat} {a : Int} {x v : Int32} (hd : decode M.2.1 pc = .ok (.iinc f a, 3)) (j : Nat) (hj : lv[j]? = some (f, .int x)) (hv : x + Int32.ofInt a = v) (hn : f < M.2.2.1) (hl' : ls1 f (.int v) lv = lv') (kk : RJ l g M R TG XP n h k sl (pc + 3) lv' st) : RJ l g M R TG XP n h k sl pc lv st := fun p e s m args below meth c H locs ls E hR hS hl => lv_iinc E.1 E.2.1 hd hl hj hv hn rfl (fun ls' h' => kk p e s m args below meth c H locs ls' E hR hS (by rw [← hl']; exact lv_lins h'))
theorem r_iincN {f a : Nat} (hd : decode M.2.1 pc = .ok (.iinc f 1, 3)) (j : Nat) (hj : lv[j]? = some (f, .int (nI a))) (hn : f < M.2.2.1) (hl' : ls1 f (.int (nI (a + 1))) lv = lv') (kk : RJ l g M R TG XP n h k sl (pc + 3) lv' st) : RJ l g M R TG XP n h k sl pc lv st := r_iinc hd j hj (nI_1 a) hn hl' kk
theorem r_iincD {f a : Nat} (hd : decode M.2.1 pc = .ok (.iinc f (-1), 3)) (j : Nat) (hj : lv[j]? = some (f, .int (nI (a + 1)))) (hn : f < M.2.2.1) (hl' : ls1 f (.int (nI a)) lv = lv') (kk : RJ l g M R TG XP n h k sl (pc + 3) lv' st) : RJ l g M R TG XP n h k sl pc lv st := r_iinc hd j hj (pk_m1 a) hn hl' kk
theorem r_goto {off : Int} {tgt : Nat} (hd : decode M.2.1 pc = .ok (.goto off, 3)) (ht : (pc : Int) + off = (tgt : Int)) (kk : RJ l g M R TG XP n h k sl tgt lv st) : RJ l g M R TG XP n h k sl pc lv st := fun p e s m args below meth c H locs ls E hR hS hl => lv_goto E.1 E.2.1 hd ht (kk p e s m args below meth c H locs ls E hR hS hl)
theorem r_if_eq {x : Int32} {off : Int} {tgt : Nat} (hd : decode M.2.1 pc = .ok (.ifCond .eq off, 3)) (ht : (pc : Int) + off = (tgt : Int)) (kt : x = 0 → RJ l g M R TG XP n h k sl tgt lv st) (kf : ¬ x = 0 → RJ l g M R TG XP n h k sl (pc + 3) lv st) : RJ l g M R TG XP n h k sl pc lv (.int x :: st) := fun p e s m args below meth c H locs ls E hR hS hl => lv_if_eq E.1 E.2.1 hd ht (fun q => kt q p e s m args below meth c H locs ls E hR hS hl) (fun q => kf q p e s m args below meth c H locs ls E hR hS hl)
theorem r_icmp_eq {x y : Int32} {off : Int} {tgt : Nat} (hd : decode M.2.1 pc = .ok (.if_icmp .eq off, 3)) (ht : (pc : Int) + off = (tgt : Int)) (kt : x = y → RJ l g M R TG XP n h k sl tgt lv st) (kf : ¬ x = y → RJ l g M R TG XP n h k sl (pc + 3) lv st) : RJ l g M R TG XP n h k sl pc lv (.int y :: .int x :: st) := fun p e s m args below meth c H locs ls E hR hS hl => lv_icmp_eq E.1 E.2.1 hd ht (fun q => kt q p e s m args below meth c H locs ls E hR hS hl) (fun q => kf q p e s m args below meth c H locs ls E hR hS hl)
theorem r_if_ne {x : Int32} {off : Int} {tgt : Nat} (hd : decode M.2.1 pc = .ok (.ifCond .ne off, 3)) (ht : (pc : Int) + off = (tgt : Int)) (kt : ¬ x = 0 → RJ l g M R TG XP n h k sl tgt lv st) (kf : x = 0 → RJ l g M R TG XP n h k sl (pc + 3) lv st) : RJ l g M R TG XP n h k sl pc lv (.int x :: st) := fun p e s m args below meth c H locs ls E hR hS hl => lv_if_ne E.1 E.2.1 hd ht (fun q => kt q p e s m args below meth c H locs ls E hR hS hl) (fun q => kf q p e s m args below meth c H locs ls E hR hS hl)
theorem r_icmp_ne {x y : Int32} {off : Int} {tgt : Nat} (hd : decode M.2.1 pc = .ok (.if_icmp .ne off, 3)) (ht : (pc : Int) + off = (tgt : Int)) (kt : ¬ x = y → RJ l g M R TG XP n h k sl tgt lv st) (kf : x = y → RJ l g M R TG XP n h k sl (pc + 3) lv st) : RJ l g M R TG XP n h k sl pc lv (.int y :: .int x :: st) := fun p e s m args below meth c H locs ls E hR hS hl => lv_icmp_ne E.1 E.2.1 hd ht (fun q => kt q p e s m args below meth c H locs ls E hR hS hl) (fun q => kf q p e s m args below meth c H locs ls E hR hS hl)
theorem r_if_lt {x : Int32} {off : Int} {tgt : Nat} (hd : decode M.2.1 pc = .ok (.ifCond .lt off, 3)) (ht : (pc : Int) + off = (tgt : Int)) (kt : x < 0 → RJ l g M R TG XP n h k sl tgt lv st) (kf : ¬ x < 0 → RJ l g M R TG XP n h k sl (pc + 3) lv st) : RJ l g M R TG XP n h k sl pc lv (.int x :: st) := fun p e s m args below meth c H locs ls E hR hS hl => lv_if_lt E.1 E.2.1 hd ht (fun q => kt q p e s m args below meth c H locs ls E hR hS hl) (fun q => kf q p e s m args below meth c H locs ls E hR hS hl)
theorem r_icmp_lt {x y : Int32} {off : Int} {tgt : Nat} (hd : decode M.2.1 pc = .ok (.if_icmp .lt off, 3)) (ht : (pc : Int) + off = (tgt : Int)) (kt : x < y → RJ l g M R TG XP n h k sl tgt lv st) (kf : ¬ x < y → RJ l g M R TG XP n h k sl (pc + 3) lv st) : RJ l g M R TG XP n h k sl pc lv (.int y :: .int x :: st) := fun p e s m args below meth c H locs ls E hR hS hl => lv_icmp_lt E.1 E.2.1 hd ht (fun q => kt q p e s m args below meth c H locs ls E hR hS hl) (fun q => kf q p e s m args below meth c H locs ls E hR hS hl)
theorem r_if_ge {x : Int32} {off : Int} {tgt : Nat} (hd : decode M.2.1 pc = .ok (.ifCond .ge off, 3)) (ht : (pc : Int) + off = (tgt : Int)) (kt : 0 ≤ x → RJ l g M R TG XP n h k sl tgt lv st) (kf : ¬ 0 ≤ x → RJ l g M R TG XP n h k sl (pc + 3) lv st) : RJ l g M R TG XP n h k sl pc lv (.int x :: st) := fun p e s m args below meth c H locs ls E hR hS hl => lv_if_ge E.1 E.2.1 hd ht (fun q => kt q p e s m args below meth c H locs ls E hR hS hl) (fun q => kf q p e s m args below meth c H locs ls E hR hS hl)
theorem r_icmp_ge {x y : Int32} {off : Int} {tgt : Nat} (hd : decode M.2.1 pc = .ok (.if_icmp .ge off, 3)) (ht : (pc : Int) + off = (tgt : Int)) (kt : y ≤ x → RJ l g M R TG XP n h k sl tgt lv st) (kf : ¬ y ≤ x → RJ l g M R TG XP n h k sl (pc + 3) lv st) : RJ l g M R TG XP n h k sl pc lv (.int y :: .int x :: st) := fun p e s m args below meth c H locs ls E hR hS hl => lv_icmp_ge E.1 E.2.1 hd ht (fun q => kt q p e s m args below meth c H locs ls E hR hS hl) (fun q => kf q p e s m args below meth c H locs ls E hR hS hl)
theorem r_if_gt {x : Int32} {off : Int} {tgt : Nat} (hd : decode M.2.1 pc = .ok (.ifCond .gt off, 3)) (ht : (pc : Int) + off = (tgt : Int)) (kt : 0 < x → RJ l g M R TG XP n h k sl tgt lv st) (kf : ¬ 0 < x → RJ l g M R TG XP n h k sl (pc + 3) lv st) : RJ l g M R TG XP n h k sl pc lv (.int x :: st) := fun p e s m args below meth c H locs ls E hR hS hl => lv_if_gt E.1 E.2.1 hd ht (fun q => kt q p e s m args below meth c H locs ls E hR hS hl) (fun q => kf q p e s m args below meth c H locs ls E hR hS hl)
theorem r_icmp_gt {x y : Int32} {off : Int} {tgt : Nat} (hd : decode M.2.1 pc = .ok (.if_icmp .gt off, 3)) (ht : (pc : Int) + off = (tgt : Int)) (kt : y < x → RJ l g M R TG XP n h k sl tgt lv st) (kf : ¬ y < x → RJ l g M R TG XP n h k sl (pc + 3) lv st) : RJ l g M R TG XP n h k sl pc lv (.int y :: .int x :: st) := fun p e s m args below meth c H locs ls E hR hS hl => lv_icmp_gt E.1 E.2.1 hd ht (fun q => kt q p e s m args below meth c H locs ls E hR hS hl) (fun q => kf q p e s m args below meth c H locs ls E hR hS hl)
theorem r_if_le {x : Int32} {off : Int} {tgt : Nat} (hd : decode M.2.1 pc = .ok (.ifCond .le off, 3)) (ht : (pc : Int) + off = (tgt : Int)) (kt : x ≤ 0 → RJ l g M R TG XP n h k sl tgt lv st) (kf : ¬ x ≤ 0 → RJ l g M R TG XP n h k sl (pc + 3) lv st) : RJ l g M R TG XP n h k sl pc lv (.int x :: st) := fun p e s m args below meth c H locs ls E hR hS hl => lv_if_le E.1 E.2.1 hd ht (fun q => kt q p e s m args below meth c H locs ls E hR hS hl) (fun q => kf q p e s m args below meth c H locs ls E hR hS hl)
theorem r_icmp_le {x y : Int32} {off : Int} {tgt : Nat} (hd : decode M.2.1 pc = .ok (.if_icmp .le off, 3)) (ht : (pc : Int) + off = (tgt : Int)) (kt : x ≤ y → RJ l g M R TG XP n h k sl tgt lv st) (kf : ¬ x ≤ y → RJ l g M R TG XP n h k sl (pc + 3) lv st) : RJ l g M R TG XP n h k sl pc lv (.int y :: .int x :: st) := fun p e s m args below meth c H locs ls E hR hS hl => lv_icmp_le E.1 E.2.1 hd ht (fun q => kt q p e s m args below meth c H locs ls E hR hS hl) (fun q => kf q p e s m args below meth c H locs ls E hR hS hl)
theorem r_icmp_eqN {a b : Nat} {off : Int} {tgt : Nat} (hd : decode M.2.1 pc = .ok (.if_icmp .eq off, 3)) (ht : (pc : Int) + off = (tgt : Int)) (ha : a < 2 ^ 31) (hb : b < 2 ^ 31) (kt : a = b → RJ l g M R TG XP n h k sl tgt lv st) (kf : ¬ a = b → RJ l g M R TG XP n h k sl (pc + 3) lv st) : RJ l g M R TG XP n h k sl pc lv (.int (nI b) :: .int (nI a) :: st) := r_icmp_eq hd ht (fun q => kt ((nI_eq ha hb).mp q)) (fun q => kf (fun z => q ((nI_eq ha hb).mpr z)))
theorem r_icmp_neN {a b : Nat} {off : Int} {tgt : Nat} (hd : decode M.2.1 pc = .ok (.if_icmp .ne off, 3)) (ht : (pc : Int) + off = (tgt : Int)) (ha : a < 2 ^ 31) (hb : b < 2 ^ 31) (kt : ¬ a = b → RJ l g M R TG XP n h k sl tgt lv st) (kf : a = b → RJ l g M R TG XP n h k sl (pc + 3) lv st) : RJ l g M R TG XP n h k sl pc lv (.int (nI b) :: .int (nI a) :: st) := r_icmp_ne hd ht (fun q => kt ((not_congr (nI_eq ha hb)).mp q)) (fun q => kf ((nI_eq ha hb).mp q))
theorem r_icmp_ltN {a b : Nat} {off : Int} {tgt : Nat} (hd : decode M.2.1 pc = .ok (.if_icmp .lt off, 3)) (ht : (pc : Int) + off = (tgt : Int)) (ha : a < 2 ^ 31) (hb : b < 2 ^ 31) (kt : a < b → RJ l g M R TG XP n h k sl tgt lv st) (kf : b ≤ a → RJ l g M R TG XP n h k sl (pc + 3) lv st) : RJ l g M R TG XP n h k sl pc lv (.int (nI b) :: .int (nI a) :: st) := r_icmp_lt hd ht (fun q => kt ((nI_ltI ha hb).mp q)) (fun q => kf (Nat.le_of_not_lt (fun z => q ((nI_ltI ha hb).mpr z))))
theorem r_icmp_geN {a b : Nat} {off : Int} {tgt : Nat} (hd : decode M.2.1 pc = .ok (.if_icmp .ge off, 3)) (ht : (pc : Int) + off = (tgt : Int)) (ha : a < 2 ^ 31) (hb : b < 2 ^ 31) (kt : b ≤ a → RJ l g M R TG XP n h k sl tgt lv st) (kf : a < b → RJ l g M R TG XP n h k sl (pc + 3) lv st) : RJ l g M R TG XP n h k sl pc lv (.int (nI b) :: .int (nI a) :: st) := r_icmp_ge hd ht (fun q => kt ((nI_leI hb ha).mp q)) (fun q => kf (Nat.lt_of_not_le (fun z => q ((nI_leI hb ha).mpr z))))
theorem r_icmp_gtN {a b : Nat} {off : Int} {tgt : Nat} (hd : decode M.2.1 pc = .ok (.if_icmp .gt off, 3)) (ht : (pc : Int) + off = (tgt : Int)) (ha : a < 2 ^ 31) (hb : b < 2 ^ 31) (kt : b < a → RJ l g M R TG XP n h k sl tgt lv st) (kf : a ≤ b → RJ l g M R TG XP n h k sl (pc + 3) lv st) : RJ l g M R TG XP n h k sl pc lv (.int (nI b) :: .int (nI a) :: st) := r_icmp_gt hd ht (fun q => kt ((nI_ltI hb ha).mp q)) (fun q => kf (Nat.le_of_not_lt (fun z => q ((nI_ltI hb ha).mpr z))))
theorem r_icmp_leN {a b : Nat} {off : Int} {tgt : Nat} (hd : decode M.2.1 pc = .ok (.if_icmp .le off, 3)) (ht : (pc : Int) + off = (tgt : Int)) (ha : a < 2 ^ 31) (hb : b < 2 ^ 31) (kt : a ≤ b → RJ l g M R TG XP n h k sl tgt lv st) (kf : b < a → RJ l g M R TG XP n h k sl (pc + 3) lv st) : RJ l g M R TG XP n h k sl pc lv (.int (nI b) :: .int (nI a) :: st) := r_icmp_le hd ht (fun q => kt ((nI_leI ha hb).mp q)) (fun q => kf (Nat.lt_of_not_le (fun z => q ((nI_leI ha hb).mpr z))))
theorem r_if_eqN {a : Nat} {off : Int} {tgt : Nat} (hd : decode M.2.1 pc = .ok (.ifCond .eq off, 3)) (ht : (pc : Int) + off = (tgt : Int)) (ha : a < 2 ^ 31) (kt : a = 0 → RJ l g M R TG XP n h k sl tgt lv st) (kf : ¬ a = 0 → RJ l g M R TG XP n h k sl (pc + 3) lv st) : RJ l g M R TG XP n h k sl pc lv (.int (nI a) :: st) := r_if_eq hd ht (fun q => kt ((nI_eq ha (by decide)).mp (q.trans nI_0.symm))) (fun q => kf (fun z => q (by rw [z]; exact nI_0)))
theorem r_if_neN {a : Nat} {off : Int} {tgt : Nat} (hd : decode M.2.1 pc = .ok (.ifCond .ne off, 3)) (ht : (pc : Int) + off = (tgt : Int)) (ha : a < 2 ^ 31) (kt : ¬ a = 0 → RJ l g M R TG XP n h k sl tgt lv st) (kf : a = 0 → RJ l g M R TG XP n h k sl (pc + 3) lv st) : RJ l g M R TG XP n h k sl pc lv (.int (nI a) :: st) := r_if_ne hd ht (fun q => kt (fun z => q (by rw [z]; exact nI_0))) (fun q => kf (Decidable.byContradiction (fun z => nI_ne0 (Nat.pos_of_ne_zero z) ha q)))
theorem r_if_ltN {a : Nat} {off : Int} {tgt : Nat} (hd : decode M.2.1 pc = .ok (.ifCond .lt off, 3)) (ht : (pc : Int) + off = (tgt : Int)) (ha : a < 2 ^ 31) (kt : False → RJ l g M R TG XP n h k sl tgt lv st) (kf : True → RJ l g M R TG XP n h k sl (pc + 3) lv st) : RJ l g M R TG XP n h k sl pc lv (.int (nI a) :: st) := r_if_lt hd ht (fun q => absurd q (nI_pos ha)) (fun q => kf trivial)
theorem r_if_geN {a : Nat} {off : Int} {tgt : Nat} (hd : decode M.2.1 pc = .ok (.ifCond .ge off, 3)) (ht : (pc : Int) + off = (tgt : Int)) (ha : a < 2 ^ 31) (kt : True → RJ l g M R TG XP n h k sl tgt lv st) (kf : False → RJ l g M R TG XP n h k sl (pc + 3) lv st) : RJ l g M R TG XP n h k sl pc lv (.int (nI a) :: st) := r_if_ge hd ht (fun q => kt trivial) (fun q => absurd (nI_pos' ha) q)
theorem r_if_gtN {a : Nat} {off : Int} {tgt : Nat} (hd : decode M.2.1 pc = .ok (.ifCond .gt off, 3)) (ht : (pc : Int) + off = (tgt : Int)) (ha : a < 2 ^ 31) (kt : 0 < a → RJ l g M R TG XP n h k sl tgt lv st) (kf : a = 0 → RJ l g M R TG XP n h k sl (pc + 3) lv st) : RJ l g M R TG XP n h k sl pc lv (.int (nI a) :: st) := r_if_gt hd ht (fun q => kt (Nat.pos_of_ne_zero (fun z => by rw [z] at q; exact absurd q (by decide)))) (fun q => kf (Decidable.byContradiction (fun z => q (Int32.not_le.mp (nI_nle (Nat.pos_of_ne_zero z) ha)))))
theorem r_if_leN {a : Nat} {off : Int} {tgt : Nat} (hd : decode M.2.1 pc = .ok (.ifCond .le off, 3)) (ht : (pc : Int) + off = (tgt : Int)) (ha : a < 2 ^ 31) (kt : a = 0 → RJ l g M R TG XP n h k sl tgt lv st) (kf : 0 < a → RJ l g M R TG XP n h k sl (pc + 3) lv st) : RJ l g M R TG XP n h k sl pc lv (.int (nI a) :: st) := r_if_le hd ht (fun q => kt (Decidable.byContradiction (fun z => nI_nle (Nat.pos_of_ne_zero z) ha q))) (fun q => kf (Nat.pos_of_ne_zero (fun z => q (by rw [z]; decide))))
def b2 (b : Bool) : Int32 := if b then 1 else 0
theorem b2_0 {b : Bool} : b2 b = 0 ↔ b = false := by cases b <;> decide
theorem b2_f : b2 false = nI 0 := rfl
theorem b2_t : b2 true = nI 1 := rfl
theorem r_if_eqB {b : Bool} {off : Int} {tgt : Nat} (hd : decode M.2.1 pc = .ok (.ifCond .eq off, 3)) (ht : (pc : Int) + off = (tgt : Int)) (kt : b = false → RJ l g M R TG XP n h k sl tgt lv st) (kf : b = true → RJ l g M R TG XP n h k sl (pc + 3) lv st) : RJ l g M R TG XP n h k sl pc lv (.int (b2 b) :: st) := r_if_eq hd ht (fun q => kt (b2_0.mp q)) (fun q => kf (by cases b; exact absurd rfl q; rfl))
theorem r_if_neB {b : Bool} {off : Int} {tgt : Nat} (hd : decode M.2.1 pc = .ok (.ifCond .ne off, 3)) (ht : (pc : Int) + off = (tgt : Int)) (kt : b = true → RJ l g M R TG XP n h k sl tgt lv st) (kf : b = false → RJ l g M R TG XP n h k sl (pc + 3) lv st) : RJ l g M R TG XP n h k sl pc lv (.int (b2 b) :: st) := r_if_ne hd ht (fun q => kt (by cases b; exact absurd rfl q; rfl)) (fun q => kf (b2_0.mp q))
theorem r_tsw {d lo hi : Int} {offs : Array Int} {len : Nat} {x : Int32} {off : Int} {tgt : Nat} (hd : decode M.2.1 pc = .ok (.tableswitch d lo hi offs, len)) (h1 : ¬ x.toInt < lo) (h2 : ¬ hi < x.toInt) (ho : offs[(x.toInt - lo).toNat]? = some off) (ht : (pc : Int) + off = (tgt : Int)) (kk : RJ l g M R TG XP n h k sl tgt lv st) : RJ l g M R TG XP n h k sl pc lv (.int x :: st) := fun p e s m args below meth c H locs ls E hR hS hl => lv_tableIn E.1 E.2.1 hd h1 h2 ho ht (kk p e s m args below meth c H locs ls E hR hS hl)
theorem r_tswO {d lo hi : Int} {offs : Array Int} {len : Nat} {x : Int32} {tgt : Nat} (hd : decode M.2.1 pc = .ok (.tableswitch d lo hi offs, len)) (h1 : x.toInt < lo ∨ hi < x.toInt) (ht : (pc : Int) + d = (tgt : Int)) (kk : RJ l g M R TG XP n h k sl tgt lv st) : RJ l g M R TG XP n h k sl pc lv (.int x :: st) := fun p e s m args below meth c H locs ls E hR hS hl => lv_tableOut E.1 E.2.1 hd h1 ht (kk p e s m args below meth c H locs ls E hR hS hl)
theorem r_top {x y : Int32} (e : x = y) (kk : RJ l g M R TG XP n h k sl pc lv (.int y :: st)) : RJ l g M R TG XP n h k sl pc lv (.int x :: st) := by subst e; exact kk
theorem r_iaddN {a b : Nat} (hd : decode M.2.1 pc = .ok (.iadd, 1)) (kk : RJ l g M R TG XP n h k sl (pc + 1) lv (.int (nI (a + b)) :: st)) : RJ l g M R TG XP n h k sl pc lv (.int (nI b) :: .int (nI a) :: st) := r_iadd hd (r_top (nI_add a b) kk)
theorem r_imulN {a b : Nat} (hd : decode M.2.1 pc = .ok (.imul, 1)) (kk : RJ l g M R TG XP n h k sl (pc + 1) lv (.int (nI (a * b)) :: st)) : RJ l g M R TG XP n h k sl pc lv (.int (nI b) :: .int (nI a) :: st) := r_imul hd (r_top (pk_mul a b) kk)
theorem r_isubN {a b : Nat} (hd : decode M.2.1 pc = .ok (.isub, 1)) (hab : b ≤ a) (kk : RJ l g M R TG XP n h k sl (pc + 1) lv (.int (nI (a - b)) :: st)) : RJ l g M R TG XP n h k sl pc lv (.int (nI b) :: .int (nI a) :: st) := r_isub hd (r_top (pk_sub hab) kk)
theorem r_idivN {a b : Nat} (hd : decode M.2.1 pc = .ok (.idiv, 1)) (ha : a < 2 ^ 31) (h0 : 0 < b) (hb : b < 2 ^ 31) (kk : RJ l g M R TG XP n h k sl (pc + 1) lv (.int (nI (a / b)) :: st)) : RJ l g M R TG XP n h k sl pc lv (.int (nI b) :: .int (nI a) :: st) := r_idiv hd (nI_ne0 h0 hb) (r_top (pk_div ha h0 hb) kk)
theorem nI_xor (a b : Nat) : nI a ^^^ nI b = nI (a ^^^ b) := by
  apply Int32.toBitVec_inj.mp
  simp [nI, BitVec.ofNat_xor]
theorem r_ixorN {a b : Nat} (hd : decode M.2.1 pc = .ok (.ixor, 1)) (kk : RJ l g M R TG XP n h k sl (pc + 1) lv (.int (nI (a ^^^ b)) :: st)) : RJ l g M R TG XP n h k sl pc lv (.int (nI b) :: .int (nI a) :: st) := r_ixor hd (r_top (nI_xor a b) kk)
end RULES
end
section
section HEAP
variable {l : Launch} {g : GX} {M : MT} {R : Room} {TG : TGT} {XP : XPT} {n : Nat} {h h' : AH} {k sl : Nat} {pc : Nat} {lv lv' : List (Nat × Value)} {st : List Value}
theorem r_get {C : String} {T : u_T} {N ci kf index a : Nat} {fs : List Value} {v : Value} (hcl : CL[ci]? = some (C, T, N)) (hin : ∀ w ∈ u_ws C T N, w ∈ tblG) (hk : kf < N) (hw : Cond.fieldLink M.1.cls index (T kf).1 (T kf).2.1 (T kf).2.2.1 ∈ tblG)
    (hd : decode M.2.1 pc = .ok (.getfield index, 3)) (hc : h a = some (.inr (ci, fs))) (hv : fs[kf]? = some v) (kk : RJ l g M R TG XP n h k sl (pc + 3) lv (v :: st)) : RJ l g M R TG XP n h k sl pc lv (.ref a :: st) := by
  intro p e s m args below meth c H locs ls E hR hS hl
  exact va_get (D := g.2.1) E.1 E.2.1 E.2.2.2.2.2.2.1 hin E.2.2.2.2.2.1 E.2.2.2.2.2.2.2.1.1 (va_P1 (hR.2.2 a _ hc)) 0 rfl hcl kf hk (E.2.2.2.2.2.2.1 _ hw) (fun _ h9 => h9) hv hd (kk p e s m args below meth c H locs ls E hR hS hl)
theorem r_getN {C host : String} {T : u_T} {N ci kf index a : Nat} {fs : List Value} {v : Value} (hcl : CL[ci]? = some (C, T, N)) (hin : ∀ w ∈ u_ws C T N, w ∈ tblG) (hk : kf < N) (hw : Cond.fieldLinkNest M.1.cls index (T kf).1 (T kf).2.1 (T kf).2.2.1 host ∈ SPW)
    (hd : decode M.2.1 pc = .ok (.getfield index, 3)) (hc : h a = some (.inr (ci, fs))) (hv : fs[kf]? = some v) (kk : RJ l g M R TG XP n h k sl (pc + 3) lv (v :: st)) : RJ l g M R TG XP n h k sl pc lv (.ref a :: st) := by
  intro p e s m args below meth c H locs ls E hR hS hl
  exact va_getN (D := g.2.1) E.1 E.2.1 E.2.2.2.2.2.2.1 hin E.2.2.2.2.2.1 E.2.2.2.2.2.2.2.1.1 (va_P1 (hR.2.2 a _ hc)) 0 rfl hcl kf hk (va_Nw.use rfl (E.2.2.2.2.2.2.2.1.2 _ hw)) (fun _ h9 => h9) hv hd (kk p e s m args below meth c H locs ls E hR hS hl)
theorem r_put {C : String} {T : u_T} {N ci kf index a : Nat} {fs fs' : List Value} {v : Value} {ty : FieldType} (hcl : CL[ci]? = some (C, T, N)) (hin : ∀ w ∈ u_ws C T N, w ∈ tblG) (ty0 : Nat → FieldType) (hty : ∀ k, k < N → parseFieldDescriptor (T k).2.2.1 = some (ty0 k)) (hnm : ∀ a, a < N → ∀ b, b < N → a ≠ b → (T a).2.1 ≠ (T b).2.1) (hk : kf < N) (hfin : (T kf).2.2.2 = false) (hd0 : ty0 kf = ty) (hw : Cond.fieldLink M.1.cls index (T kf).1 (T kf).2.1 (T kf).2.2.1 ∈ tblG)
    (hd : decode M.2.1 pc = .ok (.putfield index, 3)) (hn : narrow ty v = v) (hfit : fits ty v = true) (hc : h a = some (.inr (ci, fs))) (hlen : kf < fs.length) (hfs : fs.set kf v = fs') (hh : updH h a (.inr (ci, fs')) = h') (kk : RJ l g M R TG XP n h' k sl (pc + 3) lv st) : RJ l g M R TG XP n h k sl pc lv (v :: .ref a :: st) := by
  intro p e s m args below meth c H locs ls E hR hS hl
  have hts := E.2.2.2.2.2.2.1
  have hK := E.2.2.2.2.2.2.2.1.1
  have hap := va_apart (own := M.1.cls) hts hin ty0 hty hnm hK hcl
  obtain ⟨r, h1, cell, q1, q2, q3, q4⟩ := hR.2.2 a _ hc
  have hr : r = (C, T, N) := Option.some.inj (h1.symm.trans hcl)
  subst hr
  obtain ⟨hSl, hfc, kC, hkC, hkind⟩ := hK.1 ci _ hcl
  obtain ⟨cf, kf2, fi, f, hi, hsl⟩ := hSl kf hk
  have hlay := hts _ (hin _ (u_in_lay hk))
  unfold u_lay at hlay
  rw [if_neg (by rw [hfin]; decide)] at hlay
  have hst := (u_facts hfc hkC (u_lays hts hin hk) hi).1
  have h6 := u_store hfc hkC hkind hlay hi (by rw [hty kf hk, hd0]) hn hfit
  refine W.putK E.1 E.2.1 (f := f) ⟨E.2.2.2.2.2.1, hts _ hw, ⟨_, _, _, hi⟩, hst⟩ (by rw [q2]; exact h6) q1 q3 (by rw [hsl]; exact k2_hasslot (q4 kf hk)) rfl rfl hd fun H' e1 e2 e3 => ?_
  rw [hsl] at e1 ⊢
  refine kk p e s m args below meth c H' _ ls E ?_ (hS.put e2 e3 (hR.2.1 a _ hc)) hl
  rw [← hh, ← hfs]
  exact hR.set hc e2 e3 ⟨_, hcl, t_OB.to (V := updV (vp_V fs) kf v) ⟨_, e1, q2, q3, t_set q4 hap hk v⟩ (fun j _ => vp_updV_set hlen v j)⟩
theorem r_putN {C host : String} {T : u_T} {N ci kf index a : Nat} {fs fs' : List Value} {v : Value} {ty : FieldType} (hcl : CL[ci]? = some (C, T, N)) (hin : ∀ w ∈ u_ws C T N, w ∈ tblG) (ty0 : Nat → FieldType) (hty : ∀ k, k < N → parseFieldDescriptor (T k).2.2.1 = some (ty0 k)) (hnm : ∀ a, a < N → ∀ b, b < N → a ≠ b → (T a).2.1 ≠ (T b).2.1) (hk : kf < N) (hfin : (T kf).2.2.2 = false) (hd0 : ty0 kf = ty) (hw : Cond.fieldLinkNest M.1.cls index (T kf).1 (T kf).2.1 (T kf).2.2.1 host ∈ SPW)
    (hd : decode M.2.1 pc = .ok (.putfield index, 3)) (hn : narrow ty v = v) (hfit : fits ty v = true) (hc : h a = some (.inr (ci, fs))) (hlen : kf < fs.length) (hfs : fs.set kf v = fs') (hh : updH h a (.inr (ci, fs')) = h') (kk : RJ l g M R TG XP n h' k sl (pc + 3) lv st) : RJ l g M R TG XP n h k sl pc lv (v :: .ref a :: st) := by
  intro p e s m args below meth c H locs ls E hR hS hl
  have hts := E.2.2.2.2.2.2.1
  have hK := E.2.2.2.2.2.2.2.1.1
  have hap := va_apart (own := M.1.cls) hts hin ty0 hty hnm hK hcl
  obtain ⟨r, h1, cell, q1, q2, q3, q4⟩ := hR.2.2 a _ hc
  have hr : r = (C, T, N) := Option.some.inj (h1.symm.trans hcl)
  subst hr
  obtain ⟨hSl, hfc, kC, hkC, hkind⟩ := hK.1 ci _ hcl
  obtain ⟨cf, kf2, fi, f, hi, hsl⟩ := hSl kf hk
  have hlay := hts _ (hin _ (u_in_lay hk))
  unfold u_lay at hlay
  rw [if_neg (by rw [hfin]; decide)] at hlay
  have hst := (u_facts hfc hkC (u_lays hts hin hk) hi).1
  have h6 := u_store hfc hkC hkind hlay hi (by rw [hty kf hk, hd0]) hn hfit
  refine va_WputK E.1 E.2.1 E.2.2.2.2.2.1 (va_Nw.use rfl (E.2.2.2.2.2.2.2.1.2 _ hw)) hi hst (by rw [q2]; exact h6) q1 q3 (by rw [hsl]; exact k2_hasslot (q4 kf hk)) rfl rfl hd fun H' e1 e2 e3 => ?_
  rw [hsl] at e1 ⊢
  refine kk p e s m args below meth c H' _ ls E ?_ (hS.put e2 e3 (hR.2.1 a _ hc)) hl
  rw [← hh, ← hfs]
  exact hR.set hc e2 e3 ⟨_, hcl, t_OB.to (V := updV (vp_V fs) kf v) ⟨_, e1, q2, q3, t_set q4 hap hk v⟩ (fun j _ => vp_updV_set hlen v j)⟩
theorem r_putF {C : String} {T : u_T} {N ci kf index a : Nat} {fs fs' : List Value} {v : Value} {ty : FieldType} (hcl : CL[ci]? = some (C, T, N)) (hin : ∀ w ∈ u_ws C T N, w ∈ tblG) (ty0 : Nat → FieldType) (hty : ∀ k, k < N → parseFieldDescriptor (T k).2.2.1 = some (ty0 k)) (hnm : ∀ a, a < N → ∀ b, b < N → a ≠ b → (T a).2.1 ≠ (T b).2.1) (hk : kf < N) (hfin : (T kf).2.2.2 = true) (hd0 : ty0 kf = ty) (hw : Cond.fieldLink M.1.cls index (T kf).1 (T kf).2.1 (T kf).2.2.1 ∈ tblG) (hinit : M.1.name = "<init>") (hdecl : (T kf).1 = M.1.cls)
    (hd : decode M.2.1 pc = .ok (.putfield index, 3)) (hn : narrow ty v = v) (hfit : fits ty v = true) (hc : h a = some (.inr (ci, fs))) (hlen : kf < fs.length) (hfs : fs.set kf v = fs') (hh : updH h a (.inr (ci, fs')) = h') (kk : RJ l g M R TG XP n h' k sl (pc + 3) lv st) : RJ l g M R TG XP n h k sl pc lv (v :: .ref a :: st) := by
  intro p e s m args below meth c H locs ls E hR hS hl
  have hts := E.2.2.2.2.2.2.1
  have hown := E.2.2.2.2.2.1
  have hK := E.2.2.2.2.2.2.2.1.1
  have hap := va_apart (own := M.1.cls) hts hin ty0 hty hnm hK hcl
  obtain ⟨r, h1, cell, q1, q2, q3, q4⟩ := hR.2.2 a _ hc
  have hr : r = (C, T, N) := Option.some.inj (h1.symm.trans hcl)
  subst hr
  obtain ⟨hSl, hfc, kC, hkC, hkind⟩ := hK.1 ci _ hcl
  obtain ⟨cf, kf2, fi, f, hi, hsl⟩ := hSl kf hk
  have hlay := hts _ (hin _ (u_in_lay hk))
  unfold u_lay at hlay
  rw [if_pos hfin] at hlay
  have hst := (u_facts hfc hkC (u_lays hts hin hk) hi).1
  have hcf : m.cls = cf := by
    obtain ⟨_, _, c', _, _, _, -, -, hf', -, -, -, hown2, -⟩ := Cond.laysFinal_spec hlay
    have e1 : c' = cf := by have := hi.symm.trans hf'; simp at this; exact this.1.symm
    rw [hdecl] at hown2
    rw [← e1]; exact Option.some.inj (hown.symm.trans hown2)
  have h6 := u_fits hfc hkC hkind (Or.inr hlay) hi (by rw [hty kf hk, hd0]) hn hfit
  refine W.putFinK E.1 E.2.1 hown (hts _ hw) hi hst hcf (E.2.2.2.2.2.2.2.2.1.trans hinit) (by rw [q2]; exact h6) q1 q3 (by rw [hsl]; exact k2_hasslot (q4 kf hk)) rfl rfl hd fun H' e1 e2 e3 => ?_
  rw [hsl] at e1 ⊢
  refine kk p e s m args below meth c H' _ ls E ?_ (hS.put e2 e3 (hR.2.1 a _ hc)) hl
  rw [← hh, ← hfs]
  exact hR.set hc e2 e3 ⟨_, hcl, t_OB.to (V := updV (vp_V fs) kf v) ⟨_, e1, q2, q3, t_set q4 hap hk v⟩ (fun j _ => vp_updV_set hlen v j)⟩
-- arrays: 0 int, 1 boolean, 2 Node, 3 Holding, 4 int[]
def nF (f : Nat → Nat) : Nat → Int32 := fun j => nI (f j)
def bF (f : Nat → Bool) : Nat → Int32 := fun j => b2 (f j)
def upN {α : Type} (f : Nat → α) (j : Nat) (v : α) : Nat → α := fun q => if q = j then v else f q
theorem vp_in_j {j N : Nat} (hj : j < N) (hN : N < 2 ^ 31) : vp_in (nI j) N := vp_in_nI hj hN
theorem TYS_arr {g : GX} {s : State} (hK : KX g s) (t : Nat) {cA : ClassId} {ty : FieldType} (ht : (TYS g)[t]? = some (cA, ty)) : ArrOfT s cA ty := (hK.1.2 t _ ht).1
theorem r_ald {a t j N : Nat} {f : Nat → Int32} (hd : decode M.2.1 pc = .ok (.iaload, 1)) (hc : h a = some (.inl (0, N, .inl f))) (hj : j < N) (hN : N < 2 ^ 31) (kk : RJ l g M R TG XP n h k sl (pc + 1) lv (.int (f j) :: st)) : RJ l g M R TG XP n h k sl pc lv (.int (nI j) :: .ref a :: st) := by
  intro p e s m args below meth c H locs ls E hR hS hl
  refine va_iald (D := g.2.1) E.1 E.2.1 E.2.2.2.2.2.2.2.1.1 (va_P1 (hR.2.2 a _ hc)) 0 0 rfl rfl (vp_in_j hj hN) hd ?_
  rw [nI_clamp (by omega)]
  exact kk p e s m args below meth c H locs ls E hR hS hl
theorem r_aldN {a j N : Nat} {f : Nat → Nat} (hd : decode M.2.1 pc = .ok (.iaload, 1)) (hc : h a = some (.inl (0, N, .inl (nF f)))) (hj : j < N) (hN : N < 2 ^ 31) (kk : RJ l g M R TG XP n h k sl (pc + 1) lv (.int (nI (f j)) :: st)) : RJ l g M R TG XP n h k sl pc lv (.int (nI j) :: .ref a :: st) := r_ald (t := 0) hd hc hj hN kk
theorem r_zldB {a j N : Nat} {f : Nat → Bool} (hd : decode M.2.1 pc = .ok (.baload, 1)) (hc : h a = some (.inl (1, N, .inl (bF f)))) (hj : j < N) (hN : N < 2 ^ 31) (kk : RJ l g M R TG XP n h k sl (pc + 1) lv (.int (b2 (f j)) :: st)) : RJ l g M R TG XP n h k sl pc lv (.int (nI j) :: .ref a :: st) := by
  intro p e s m args below meth c H locs ls E hR hS hl
  refine va_zald (D := g.2.1) E.1 E.2.1 E.2.2.2.2.2.2.2.1.1 (va_P1 (hR.2.2 a _ hc)) 0 1 rfl rfl (vp_in_j hj hN) hd ?_
  rw [nI_clamp (by omega)]
  exact kk p e s m args below meth c H locs ls E hR hS hl
theorem r_qld {a t j N q : Nat} {C : String} {f : Nat → Option Nat} (ht : (TYS g)[t]? = some (g.2.2 t, .object C)) (hd : decode M.2.1 pc = .ok (.aaload, 1)) (hc : h a = some (.inl (t, N, .inr (.inr (.inr (.inr f)))))) (hj : j < N) (hN : N < 2 ^ 31) (hf : f j = some q) (kk : RJ l g M R TG XP n h k sl (pc + 1) lv (.ref q :: st)) : RJ l g M R TG XP n h k sl pc lv (.int (nI j) :: .ref a :: st) := by
  intro p e s m args below meth c H locs ls E hR hS hl
  refine va_aldq (D := g.2.1) E.1 E.2.1 E.2.2.2.2.2.2.2.1.1 (va_P1 (hR.2.2 a _ hc)) 0 t rfl ht (vp_in_j hj hN) hd ?_
  rw [nI_clamp (by omega), hf]
  exact kk p e s m args below meth c H locs ls E hR hS hl
theorem r_gld {a j N q : Nat} {f : Nat → Option Nat} (hd : decode M.2.1 pc = .ok (.aaload, 1)) (hc : h a = some (.inl (4, N, .inr (.inr (.inr (.inr f)))))) (hj : j < N) (hN : N < 2 ^ 31) (hf : f j = some q) (kk : RJ l g M R TG XP n h k sl (pc + 1) lv (.ref q :: st)) : RJ l g M R TG XP n h k sl pc lv (.int (nI j) :: .ref a :: st) := by
  intro p e s m args below meth c H locs ls E hR hS hl
  have hin := vp_in_j hj hN
  have hlt : (nI j).toNatClampNeg < N := by rw [nI_clamp (by omega)]; exact hj
  refine W.aald (v := .ref q) (ty := .array .int) E.1 E.2.1 (hR.2.2 a _ hc) (TYS_arr E.2.2.2.2.2.2.2.1 4 rfl N (fun j => va_rf (f j))) rfl (fun q => by cases q) (by show ¬ (_ ∨ (arrV _ _ _).slots.size ≤ _); rw [arrV_size]; exact hin) (by show (arrV _ _ _).slots[_]? = _; rw [arrV_read _ _ hlt, nI_clamp (by omega), hf]; rfl) rfl rfl hd ?_
  exact kk p e s m args below meth c H locs ls E hR hS hl
theorem r_alen {a t : Nat} {x : vp_A} {ty : FieldType} {v : Int32} (ht : (TYS g)[t]? = some (g.2.2 t, ty)) (hd : decode M.2.1 pc = .ok (.arraylength, 1)) (hc : h a = some (.inl (t, x))) (hv : Int32.ofNat x.1 = v) (kk : RJ l g M R TG XP n h k sl (pc + 1) lv (.int v :: st)) : RJ l g M R TG XP n h k sl pc lv (.ref a :: st) := by
  intro p e s m args below meth c H locs ls E hR hS hl
  exact va_alen (D := g.2.1) E.1 E.2.1 E.2.2.2.2.2.2.2.1.1 (va_P1 (hR.2.2 a _ hc)) 0 t rfl ht hv hd (kk p e s m args below meth c H locs ls E hR hS hl)
theorem r_ast {a j N : Nat} {f f' : Nat → Int32} {x : Int32} (hd : decode M.2.1 pc = .ok (.iastore, 1)) (hc : h a = some (.inl (0, N, .inl f))) (hj : j < N) (hN : N < 2 ^ 31) (hf : upN f j x = f') (hh : updH h a (.inl (0, N, .inl f')) = h') (kk : RJ l g M R TG XP n h' k sl (pc + 1) lv st) : RJ l g M R TG XP n h k sl pc lv (.int x :: .int (nI j) :: .ref a :: st) := by
  intro p e s m args below meth c H locs ls E hR hS hl
  have hin := vp_in_j hj hN
  refine W.iast E.1 E.2.1 (hR.2.2 a _ hc) (TYS_arr E.2.2.2.2.2.2.2.1 0 rfl N (fun j => .int (f j))) (fun q => by cases q) (by show ¬ (_ ∨ (arrV _ _ _).slots.size ≤ _); rw [arrV_size]; exact hin) rfl rfl hd fun H1 e1 z oq => ?_
  refine kk p e s m args below meth c H1 _ ls E ?_ (hS.put z oq (hR.2.1 a _ hc)) hl
  rw [← hh]
  refine hR.set hc z oq ?_
  show H1[a]? = some (vp_cell _ _)
  rw [e1, ← hf]
  show some ((vp_cell (g.2.2 0) (N, .inl f)).setSlot _ _) = some (vp_cell (g.2.2 0) (N, .inl _))
  rw [vp_cell_i, vp_cell_i, arrV_store, nI_clamp (by omega)]
  congr 2
  funext q
  by_cases hq : q = j
  · subst hq
    simp [updV, upN]
  · simp [updV, upN, hq]
theorem r_astN {a j N v : Nat} {f : Nat → Nat} (hd : decode M.2.1 pc = .ok (.iastore, 1)) (hc : h a = some (.inl (0, N, .inl (nF f)))) (hj : j < N) (hN : N < 2 ^ 31) (hh : updH h a (.inl (0, N, .inl (nF (upN f j v)))) = h') (kk : RJ l g M R TG XP n h' k sl (pc + 1) lv st) : RJ l g M R TG XP n h k sl pc lv (.int (nI v) :: .int (nI j) :: .ref a :: st) := by
  refine r_ast hd hc hj hN ?_ hh kk
  funext q
  by_cases hq : q = j <;> simp [upN, nF, hq]
theorem r_zast {a j N : Nat} {f : Nat → Bool} {x : Int32} {b : Bool} (hd : decode M.2.1 pc = .ok (.bastore, 1)) (hx : x = b2 b) (hc : h a = some (.inl (1, N, .inl (bF f)))) (hj : j < N) (hN : N < 2 ^ 31) (hh : updH h a (.inl (1, N, .inl (bF (upN f j b)))) = h') (kk : RJ l g M R TG XP n h' k sl (pc + 1) lv st) : RJ l g M R TG XP n h k sl pc lv (.int x :: .int (nI j) :: .ref a :: st) := by
  intro p e s m args below meth c H locs ls E hR hS hl
  have hin := vp_in_j hj hN
  refine W.zast E.1 E.2.1 (hR.2.2 a _ hc) (TYS_arr E.2.2.2.2.2.2.2.1 1 rfl N (fun j => .int (bF f j))) (fun q => by cases q) (by show ¬ (_ ∨ (arrV _ _ _).slots.size ≤ _); rw [arrV_size]; exact hin) rfl rfl hd fun H1 e1 z oq => ?_
  refine kk p e s m args below meth c H1 _ ls E ?_ (hS.put z oq (hR.2.1 a _ hc)) hl
  rw [← hh]
  refine hR.set hc z oq ?_
  show H1[a]? = some (vp_cell _ _)
  rw [e1]
  show some ((vp_cell (g.2.2 1) (N, .inl (bF f))).setSlot _ _) = some (vp_cell (g.2.2 1) (N, .inl _))
  rw [vp_cell_i, vp_cell_i, arrV_store, nI_clamp (by omega)]
  congr 2
  funext q
  by_cases hq : q = j
  · subst hq hx
    cases b <;> simp [updV, upN, bF, b2] <;> rfl
  · simp [updV, upN, hq, bF]
theorem r_qst {a t j N ci v : Nat} {C : String} {T : u_T} {N2 : Nat} {f f' : Nat → Option Nat} {vs : List Value} (ht : (TYS g)[t]? = some (g.2.2 t, .object C)) (hcl : CL[ci]? = some (C, T, N2)) (hd : decode M.2.1 pc = .ok (.aastore, 1)) (hc : h a = some (.inl (t, N, .inr (.inr (.inr (.inr f)))))) (hv : h v = some (.inr (ci, vs))) (hj : j < N) (hN : N < 2 ^ 31) (hf : upN f j (some v) = f') (hh : updH h a (.inl (t, N, .inr (.inr (.inr (.inr f'))))) = h') (kk : RJ l g M R TG XP n h' k sl (pc + 1) lv st) : RJ l g M R TG XP n h k sl pc lv (.ref v :: .int (nI j) :: .ref a :: st) := by
  intro p e s m args below meth c H locs ls E hR hS hl
  have hin := vp_in_j hj hN
  have hlt : (nI j).toNatClampNeg < N := by rw [nI_clamp (by omega)]; exact hj
  have h0 : ¬ nI j < 0 := fun q => hin (Or.inl q)
  have hK := E.2.2.2.2.2.2.2.1.1
  obtain ⟨r', hr', cellV, g1, g2, g3, -⟩ := hR.2.2 v _ hv
  have hcls := (hK.1 ci _ hcl).2
  obtain ⟨kA, comp, k1, k2, k3, -⟩ := (hK.2 t _ ht).2
  have hcomp : comp = g.2.1.1 ci := Option.some.inj (k3.symm.trans hcls.1)
  subst hcomp
  obtain ⟨kC, hkC, -⟩ := hcls.2
  refine W.aast E.1 E.2.1 (hR.2.2 a _ hc) (fun q h => by cases h) (fun h => by cases h) k1 k2 rfl hkC ⟨h0, by show _ < (arrV _ _ _).slots.size; rw [arrV_size]; exact hlt⟩ g1 (fun q h => by rw [g3] at h; cases h) (by rw [g2]; exact hkC) (by rw [g2]; exact va_assign hcls) rfl rfl hd fun H1 e1 z oq => ?_
  refine kk p e s m args below meth c H1 _ ls E ?_ (hS.put z oq (hR.2.1 a _ hc)) hl
  rw [← hh]
  refine hR.set hc z oq ?_
  show H1[a]? = some (vp_cell _ _)
  rw [e1, ← hf]
  show some ((vp_cell (g.2.2 t) (N, .inr (.inr (.inr (.inr f))))).setSlot _ _) = some (vp_cell (g.2.2 t) (N, .inr (.inr (.inr (.inr _)))))
  rw [vp_cell_q, vp_cell_q, arrV_store, nI_clamp (by omega)]
  congr 2
  funext q
  by_cases hq : q = j
  · subst hq
    simp [updV, upN, va_rf]
  · simp [updV, upN, hq]
end HEAP
end
section
section CALLS
variable {l : Launch} {g : GX} {M : MT} {R : Room} {TG : TGT} {XP : XPT} {n : Nat} {h h' : AH} {k sl : Nat} {pc : Nat} {lv lv' : List (Nat × Value)} {st : List Value}
theorem pc_blind {g : GX} {n : Nat} {h : AH} {As : List Value} : FrameBlind (va_Pc As (fun U => HR g n h U.heap ∧ KX g U)) := fun a U gf mk q => ⟨q.1, q.2.1, KX.moved (U := U.calling gf mk a) (State.WarmedH.refl U) q.2.2⟩
/-- behind a call -/
theorem r_back {M' : MT} {mc ms n' : Nat} {h' : AH} {r : Option Value} {a : Array Value} {p : Program} {e : Env} {s : State} {m : MethodId} {args : Array Value} {below : List Frame} {meth : Method} {c : Code} {H : Heap} {locs : List Loc} {ls : Array Slot} {st0 : List Value}
    (E : EVX g M XP p s m args meth c) (hS : va_S (fun q : Nat => g.1 ≤ q) s.heap H locs) (hl : lv_has ls M.2.2.1 lv) (hH : g.1 ≤ H.size)
    (hr : va_Run p l e R s m args below meth c H locs k sl mc ms (F0 m pc ls st0) st (QX g (QE r n' h') a) (fun q : Nat => g.1 ≤ q))
    (kk : RJ l g M R TG XP n' h' (k + mc) (sl + ms) (pc + 3) lv (r.toList ++ st)) : W p l e R s m args below meth c H locs k sl (TG args s below) (F0 m pc ls st0) := by
  intro T hT X
  obtain ⟨v, st₀, t, T', L, h0, X', hL, e1, e2, ⟨v2, n2, h2, hv, ⟨q1, q2, q3⟩, hR2, hz, hk⟩, stp⟩ := hr T hT X
  cases hv
  subst q1 q2 q3
  rw [h0] at hz hk
  obtain ⟨t2, a1, b1⟩ := kk p e s m args below meth c T'.heap (locs ++ L) ls E (by rw [e1]; exact hR2)
    ⟨Nat.le_trans hS.1 (by rw [e1]; exact hz), fun q h1 h2 => by rw [e1, hk q (Nat.lt_of_lt_of_le h1 hS.1) h2]; exact hS.2.1 q h1 h2, fun q hq => by
      rcases List.mem_append.mp hq with h | h
      · exact hS.2.2 q h
      · exact hL q h⟩ hl T' rfl X'
  exact ⟨t2, stp t2 a1, b1⟩
theorem cw_in {M' : MT} (hc : Cond.code M'.1 M'.2.1 M'.2.2.1 M'.2.2.2 ∈ tblG) : GoodIn tblG (Cond.code M'.1 M'.2.1 M'.2.2.1 M'.2.2.2 :: tblG) := gi_cons hc gi_tbl
theorem r_cV {M' : MT} {index d' mc' ms' b n' np ci : Nat} {As : List Value} {fs : List Value} {r : Option Value} {stk : List Value} {q : vw_C} (hM : CE l g M' d' mc' ms' (.ref b :: As) n h r n' h')
    (w1 : Cond.methodLink M.1.cls index M'.1 ∈ tblG) (w2 : Cond.instanceMethod M'.1 ∈ tblG) (w3 : Cond.selects M'.1.cls M'.1 M'.1 ∈ tblG) (w4 : Cond.initialized M'.1.cls ∈ tblG) (w5 : Cond.code M'.1 M'.2.1 M'.2.2.1 M'.2.2.2 ∈ tblG)
    (hy : M'.1.cls ≠ "java/lang/invoke/MethodHandle" ∧ M'.1.cls ≠ "java/lang/invoke/VarHandle" ∧ (parseMethodDescriptor M'.1.desc).map (fun d => d.parameters.length) = some np) (hn : As.length = np)
    (hd : decode M.2.1 pc = .ok (.invokevirtual index, 3)) (hcl : CL[ci]? = some q) (hC : q.1 = M'.1.cls) (hb : h b = some (.inr (ci, fs))) (hR0 : d' + 1 ≤ R.frames ∧ 8 + (M'.2.2.1 + 11) + 36 * d' ≤ R.locals) (hcells : k + mc' ≤ R.cells ∧ sl + ms' ≤ R.slots)
    (hs : As.reverse ++ .ref b :: st = stk) (hst : (st.map fun v => v.category).sum ≤ 8) (kk : RJ l g M R TG XP n' h' (k + mc') (sl + ms') (pc + 3) lv (r.toList ++ st)) : RJ l g M R TG XP n h k sl pc lv stk := by
  intro p e s m args below meth c H locs ls E hR hS hl
  subst hs
  have hts := E.2.2.2.2.2.2.1
  have hK := E.2.2.2.2.2.2.2.1
  have cw : CallW R s args M.1.cls M'.1.cls index M'.1 M'.2.1 M'.2.2.1 M'.2.2.2 (Cond.code M'.1 M'.2.1 M'.2.2.1 M'.2.2.2 :: tblG) (RMX d' mc' ms') mc' ms' np :=
    cwV np hts (fun w hw => by
      rcases List.mem_append.mp hw with h | h
      · rcases List.mem_cons.mp h with e | h
        · rw [e]; exact gi_tbl _ w1
        · rcases List.mem_cons.mp h with e | h
          · rw [e]; exact gi_tbl _ w2
          · rcases List.mem_cons.mp h with e | h
            · rw [e]; exact gi_tbl _ w3
            · rcases List.mem_cons.mp h with e | h
              · rw [e]; exact gi_tbl _ w4
              · cases h
      · exact cw_in w5 w h) rfl rfl rfl ⟨rfl, hy⟩ hR0
  refine r_back (M' := M') E hS hl (Nat.le_trans E.2.2.2.2.2.2.2.2.2.1 hS.1) (va_runV (As := As) (b := b) (rest := st) ⟨E.1, E.2.1, E.2.2.1, E.2.2.2.2.2.1, hts⟩ hM cw ⟨pc_blind, ?_, ?_⟩ rfl hn hl.1 rfl (lv_room hst) hd hcells) kk
  · have hh := va_recv hK.1 (va_P1 (hR.2.2 b _ hb)) hcl (q0 := 0) rfl
    rw [hC] at hh
    exact hh
  · intro U hU hW
    exact ⟨rfl, by rw [hU]; exact hR, KX.moved hW hK⟩
theorem r_cS {M' : MT} {index d' mc' ms' n' np : Nat} {As : List Value} {r : Option Value} {stk : List Value} (hM : CE l g M' d' mc' ms' As n h r n' h')
    (w1 : Cond.methodLink M.1.cls index M'.1 ∈ tblG) (w2 : Cond.static M'.1 ∈ tblG) (w4 : Cond.initialized M.1.cls ∈ tblG) (w5 : Cond.code M'.1 M'.2.1 M'.2.2.1 M'.2.2.2 ∈ tblG)
    (hy : M'.1.cls = M.1.cls ∧ M'.1.cls ≠ "java/lang/invoke/MethodHandle" ∧ M'.1.cls ≠ "java/lang/invoke/VarHandle" ∧ (parseMethodDescriptor M'.1.desc).map (fun d => d.parameters.length) = some np) (hn : As.length = np)
    (hd : decode M.2.1 pc = .ok (.invokestatic index, 3)) (hR0 : d' + 1 ≤ R.frames ∧ 8 + (M'.2.2.1 + 11) + 36 * d' ≤ R.locals) (hcells : k + mc' ≤ R.cells ∧ sl + ms' ≤ R.slots)
    (hs : As.reverse ++ st = stk) (hst : (st.map fun v => v.category).sum ≤ 8) (kk : RJ l g M R TG XP n' h' (k + mc') (sl + ms') (pc + 3) lv (r.toList ++ st)) : RJ l g M R TG XP n h k sl pc lv stk := by
  intro p e s m args below meth c H locs ls E hR hS hl
  subst hs
  have hts := E.2.2.2.2.2.2.1
  have hK := E.2.2.2.2.2.2.2.1
  have cw : CallB R s args M.1.cls index M'.1 M'.2.1 M'.2.2.1 M'.2.2.2 (Cond.code M'.1 M'.2.1 M'.2.2.1 M'.2.2.2 :: tblG) (RMX d' mc' ms') mc' ms' np ∧ (Cond.static M'.1).before args s = true :=
    cwS np hts (fun w hw => by
      rcases List.mem_append.mp hw with h | h
      · rcases List.mem_cons.mp h with e | h
        · rw [e]; exact gi_tbl _ w1
        · rcases List.mem_cons.mp h with e | h
          · rw [e]; exact gi_tbl _ w2
          · rcases List.mem_cons.mp h with e | h
            · rw [e]; exact gi_tbl _ w4
            · cases h
      · exact cw_in w5 w h) rfl rfl rfl hy hR0
  refine r_back (M' := M') E hS hl (Nat.le_trans E.2.2.2.2.2.2.2.2.2.1 hS.1) (va_runS (As := As) (rest := st) ⟨E.1, E.2.1, E.2.2.1, E.2.2.2.2.2.1, hts⟩ hM cw ⟨pc_blind, ?_⟩ rfl hn hl.1 rfl (lv_room hst) hd hcells) kk
  intro U hU hW
  exact ⟨rfl, by rw [hU]; exact hR, KX.moved hW hK⟩
theorem r_cSN {M' : MT} {host : String} {index d' mc' ms' n' np : Nat} {As : List Value} {r : Option Value} {stk : List Value} (hM : CE l g M' d' mc' ms' As n h r n' h')
    (w1 : Cond.methodLinkNest M.1.cls index M'.1 host ∈ SPW) (w2 : Cond.static M'.1 ∈ tblG) (w4 : Cond.initialized M'.1.cls ∈ tblG) (w5 : Cond.code M'.1 M'.2.1 M'.2.2.1 M'.2.2.2 ∈ tblG)
    (hy : M'.1.cls ≠ "java/lang/invoke/MethodHandle" ∧ M'.1.cls ≠ "java/lang/invoke/VarHandle" ∧ (parseMethodDescriptor M'.1.desc).map (fun d => d.parameters.length) = some np) (hn : As.length = np)
    (hd : decode M.2.1 pc = .ok (.invokestatic index, 3)) (hR0 : d' + 1 ≤ R.frames ∧ 8 + (M'.2.2.1 + 11) + 36 * d' ≤ R.locals) (hcells : k + mc' ≤ R.cells ∧ sl + ms' ≤ R.slots)
    (hs : As.reverse ++ st = stk) (hst : (st.map fun v => v.category).sum ≤ 8) (kk : RJ l g M R TG XP n' h' (k + mc') (sl + ms') (pc + 3) lv (r.toList ++ st)) : RJ l g M R TG XP n h k sl pc lv stk := by
  intro p e s m args below meth c H locs ls E hR hS hl
  subst hs
  have hts := E.2.2.2.2.2.2.1
  have hK := E.2.2.2.2.2.2.2.1
  have cn := va_cnB (R := R) (s := s) (args := args) (rm := RMX d' mc' ms') (mc := mc') (ms := ms') np hts (cw_in w5) rfl rfl rfl (hK.2 _ w1) (hts _ w4) hy hR0
  refine r_back (M' := M') E hS hl (Nat.le_trans E.2.2.2.2.2.2.2.2.2.1 hS.1) (va_runSN (As := As) (rest := st) ⟨E.1, E.2.1, E.2.2.1, E.2.2.2.2.2.1, hts⟩ hM ⟨cn, hts _ w2, trivial⟩ ⟨pc_blind, ?_⟩ rfl hn hl.1 rfl (lv_room hst) hd hcells) kk
  intro U hU hW
  exact ⟨rfl, by rw [hU]; exact hR, KX.moved hW hK⟩
theorem r_cI {M' : MT} {index d' mc' ms' b n' np : Nat} {As : List Value} {r : Option Value} {stk : List Value} (hM : CE l g M' d' mc' ms' (.ref b :: As) n h r n' h') (hret : M'.2.2.2 = none) (hnm : M'.1.name = "<init>")
    (w1 : Cond.methodLink M.1.cls index M'.1 ∈ tblG) (w2 : Cond.instanceMethod M'.1 ∈ tblG) (w4 : Cond.initialized M'.1.cls ∈ tblG) (w5 : Cond.code M'.1 M'.2.1 M'.2.2.1 M'.2.2.2 ∈ tblG)
    (hy : M'.1.cls ≠ "java/lang/invoke/MethodHandle" ∧ M'.1.cls ≠ "java/lang/invoke/VarHandle" ∧ (parseMethodDescriptor M'.1.desc).map (fun d => d.parameters.length) = some np) (hn : As.length = np)
    (hd : decode M.2.1 pc = .ok (.invokespecial index, 3)) (hR0 : d' + 1 ≤ R.frames ∧ 8 + (M'.2.2.1 + 11) + 36 * d' ≤ R.locals) (hcells : k + mc' ≤ R.cells ∧ sl + ms' ≤ R.slots)
    (hs : As.reverse ++ .ref b :: st = stk) (hst : (st.map fun v => v.category).sum ≤ 8) (kk : RJ l g M R TG XP n' h' (k + mc') (sl + ms') (pc + 3) lv (r.toList ++ st)) : RJ l g M R TG XP n h k sl pc lv stk := by
  intro p e s m args below meth c H locs ls E hR hS hl
  subst hs
  have hts := E.2.2.2.2.2.2.1
  have hK := E.2.2.2.2.2.2.2.1
  have w5' := w5
  rw [hret] at w5'
  have cb : CallB R s args M.1.cls index M'.1 M'.2.1 M'.2.2.1 none (Cond.code M'.1 M'.2.1 M'.2.2.1 M'.2.2.2 :: tblG) (RMX d' mc' ms') mc' ms' np :=
    callB_of np hts (cw_in w5) (by rw [hret]) rfl rfl (hts _ w4) (hts _ w1) hy hR0
  refine r_back (M' := M') E hS hl (Nat.le_trans E.2.2.2.2.2.2.2.2.2.1 hS.1) (va_runI (As := As) (b := b) (rest := st) ⟨E.1, E.2.1, E.2.2.1, E.2.2.2.2.2.1, hts⟩ hM ⟨cb, hnm, hts _ w2⟩ ⟨pc_blind, ?_⟩ rfl hn hl.1 rfl (lv_room hst) hd hcells) kk
  intro U hU hW
  exact ⟨rfl, by rw [hU]; exact hR, KX.moved hW hK⟩
theorem r_cIN {M' : MT} {host : String} {index d' mc' ms' b n' np : Nat} {As : List Value} {r : Option Value} {stk : List Value} (hM : CE l g M' d' mc' ms' (.ref b :: As) n h r n' h') (hret : M'.2.2.2 = none) (hnm : M'.1.name = "<init>")
    (w1 : Cond.methodLinkNest M.1.cls index M'.1 host ∈ SPW) (w2 : Cond.instanceMethod M'.1 ∈ tblG) (w4 : Cond.initialized M'.1.cls ∈ tblG) (w5 : Cond.code M'.1 M'.2.1 M'.2.2.1 M'.2.2.2 ∈ tblG)
    (hy : M'.1.cls ≠ "java/lang/invoke/MethodHandle" ∧ M'.1.cls ≠ "java/lang/invoke/VarHandle" ∧ (parseMethodDescriptor M'.1.desc).map (fun d => d.parameters.length) = some np) (hn : As.length = np)
    (hd : decode M.2.1 pc = .ok (.invokespecial index, 3)) (hR0 : d' + 1 ≤ R.frames ∧ 8 + (M'.2.2.1 + 11) + 36 * d' ≤ R.locals) (hcells : k + mc' ≤ R.cells ∧ sl + ms' ≤ R.slots)
    (hs : As.reverse ++ .ref b :: st = stk) (hst : (st.map fun v => v.category).sum ≤ 8) (kk : RJ l g M R TG XP n' h' (k + mc') (sl + ms') (pc + 3) lv (r.toList ++ st)) : RJ l g M R TG XP n h k sl pc lv stk := by
  intro p e s m args below meth c H locs ls E hR hS hl
  subst hs
  have hts := E.2.2.2.2.2.2.1
  have hK := E.2.2.2.2.2.2.2.1
  have cn := va_cnB (R := R) (s := s) (args := args) (rm := RMX d' mc' ms') (mc := mc') (ms := ms') np hts (cw_in w5) (ret := none) (by rw [hret]) rfl rfl (hK.2 _ w1) (hts _ w4) hy hR0
  refine r_back (M' := M') E hS hl (Nat.le_trans E.2.2.2.2.2.2.2.2.2.1 hS.1) (va_runIN (As := As) (b := b) (rest := st) ⟨E.1, E.2.1, E.2.2.1, E.2.2.2.2.2.1, hts⟩ hM ⟨cn, hnm, hts _ w2⟩ ⟨pc_blind, ?_⟩ rfl hn hl.1 rfl (lv_room hst) hd hcells) kk
  intro U hU hW
  exact ⟨rfl, by rw [hU]; exact hR, KX.moved hW hK⟩
-- returns
theorem qx_of {g : GX} {s t : State} {H : Heap} {locs : List Loc} {v : Option Value} {Q : Option Value → Nat → AH → Prop} {args : Array Value} (hR : HR g n h H) (hS : va_S (fun q : Nat => g.1 ≤ q) s.heap H locs) (hQ : Q v n h) (ht : t.heap = H) : QX g Q args s (.returned v) t :=
  ⟨v, n, h, rfl, hQ, by rw [ht]; exact hR, hS.F ht⟩
theorem r_ireturn {Q : Option Value → Nat → AH → Prop} {x : Int32} {ty : FieldType} (hd : decode M.2.1 pc = .ok (.ireturn, 1)) (hr : M.2.2.2 = some ty) (hn : narrow ty (.int x) = .int x) (hQ : Q (some (.int x)) n h) : RJ l g M R (TQ g k sl Q) XP n h k sl pc lv [.int x] := by
  intro p e s m args below meth c H locs ls E hR hS hl
  exact W.zret E.1 E.2.1 (E.2.2.2.1.trans hr) hn (fun t ht _ => qx_of hR hS hQ ht) hS.2.2 hd E.2.2.2.2.1
theorem r_lreturn {Q : Option Value → Nat → AH → Prop} {x : Int64} (hd : decode M.2.1 pc = .ok (.lreturn, 1)) (hr : M.2.2.2 = some .long) (hQ : Q (some (.long x)) n h) : RJ l g M R (TQ g k sl Q) XP n h k sl pc lv [.long x] := by
  intro p e s m args below meth c H locs ls E hR hS hl
  exact W.lret E.1 E.2.1 (E.2.2.2.1.trans hr) (fun t ht _ => qx_of hR hS hQ ht) hS.2.2 hd E.2.2.2.2.1
theorem r_return {Q : Option Value → Nat → AH → Prop} (hd : decode M.2.1 pc = .ok (.return_, 1)) (hr : M.2.2.2 = none) (hQ : Q none n h) : RJ l g M R (TQ g k sl Q) XP n h k sl pc lv [] := by
  intro p e s m args below meth c H locs ls E hR hS hl
  exact W.vret E.1 E.2.1 (E.2.2.2.1.trans hr) (fun t ht _ => qx_of hR hS hQ ht) hS.2.2 hd E.2.2.2.2.1
-- making
theorem r_objInit {idx a : Nat} (hd : decode M.2.1 pc = .ok (.invokespecial idx, 3)) (w1 : Cond.methodLink M.1.cls idx Lib.objectInit ∈ tblG) (w2 : Cond.instanceMethod Lib.objectInit ∈ tblG) (w3 : Cond.code Lib.objectInit ⟨#[0xb1]⟩ 1 none ∈ tblG) (hR0 : 1 ≤ R.frames ∧ (st.map fun v => v.category).sum + 12 ≤ R.locals)
    (kk : RJ l g M R TG XP n h k sl (pc + 3) lv st) : RJ l g M R TG XP n h k sl pc lv (.ref a :: st) := by
  intro p e s m args below meth c H locs ls E hR hS hl
  have hts := E.2.2.2.2.2.2.1
  refine W.objInit (a := a) (rest := st) E.1 E.2.1 E.2.2.2.2.2.1 (hts _ w1) (hts _ w2) (hts _ w3) rfl (by rw [E.2.2.1]; exact hl.1) rfl hd hR0.1 (by show 2 * 0 + _ + 12 ≤ _; omega) ?_
  exact kk p e s m args below meth c H locs ls E hR hS hl
theorem r_new {C : String} {T : u_T} {N ci index : Nat} {fs : List Value} (hcl : CL[ci]? = some (C, T, N)) (hin : ∀ w ∈ u_ws C T N, w ∈ tblG) (ty : Nat → FieldType) (hty : ∀ k, k < N → parseFieldDescriptor (T k).2.2.1 = some (ty k)) (w1 : Cond.classLink M.1.cls index C ∈ tblG) (w2 : Cond.instantiable C N ∈ tblG) (w3 : Cond.initialized C ∈ tblG) (hfs : ∀ j, j < N → defaultValue (ty j) = vp_V fs j)
    (hd : decode M.2.1 pc = .ok (.new index, 3)) (hcells : k + 1 ≤ R.cells ∧ sl + N ≤ R.slots) (hh : updH h (g.1 + n) (.inr (ci, fs)) = h') (kk : RJ l g M R TG XP (n + 1) h' (k + 1) (sl + N) (pc + 3) lv (.ref (g.1 + n) :: st)) : RJ l g M R TG XP n h k sl pc lv st := by
  intro p e s m args below meth c H locs ls E hR hS hl
  have hts := E.2.2.2.2.2.2.1
  have hK := E.2.2.2.2.2.2.2.1.1
  have hKn := hK.1 ci _ hcl
  refine W.newcK E.1 E.2.1 E.2.2.2.2.2.1 (hts _ w1) (hts _ w2) (hts _ w3) rfl hd hcells.1 hcells.2 hKn.2.1 rfl fun H1 kC hkC e1 z1 o1 => ?_
  rw [hR.1]
  refine kk p e s m args below meth c H1 locs ls E ?_ ⟨Nat.le_trans hS.1 (by omega), fun q h1 h2 => (o1 q (Nat.lt_of_lt_of_le h1 hS.1)).trans (hS.2.1 q h1 h2), hS.2.2⟩ hl
  rw [← hh]
  exact hR.push z1 o1 ⟨_, hcl, (u_born ty hts hin hKn hkC e1 hty).to hfs⟩
theorem r_newarr {t N : Nat} {atype : ArrayType} {ty : FieldType} {x : Int32} {f : Nat → Int32} (ht : (TYS g)[t]? = some (g.2.2 t, ty)) (hty : newarray.typeOf atype = ty) (hno : ∀ C, ty ≠ .object C) (w1 : Cond.arrayClass ty ∈ tblG) (hd : decode M.2.1 pc = .ok (.newarray atype, 2)) (hx : x = nI N) (hN : N < 65536) (hb : componentBytes ty ≤ 8) (hz : ∀ j, defaultValue ty = .int (f j)) (hcells : k + 1 ≤ R.cells ∧ sl + N ≤ R.slots)
    (hh : updH h (g.1 + n) (.inl (t, N, .inl f)) = h') (kk : RJ l g M R TG XP (n + 1) h' (k + 1) (sl + N) (pc + 2) lv (.ref (g.1 + n) :: st)) : RJ l g M R TG XP n h k sl pc lv (.int x :: st) := by
  intro p e s m args below meth c H locs ls E hR hS hl
  subst hty hx
  have hts := E.2.2.2.2.2.2.1
  have hK := E.2.2.2.2.2.2.2.1.1
  refine va_newaK E.1 E.2.1 (hts _ w1) rfl hd (N := N) rfl (nI_pos (by omega)) (nI_clamp (by omega)) (Nat.le_trans (Nat.mul_le_mul_left N hb) (by omega)) hcells.1 hcells.2 rfl fun H1 cA e1 z1 o1 hAr hNm => ?_
  have hcA : cA = g.2.2 t := by
    have h2 := (hK.2 t _ ht).2
    have h3 : s.vm.findClass ("[" ++ (newarray.typeOf atype).toString) = some (g.2.2 t) := by
      cases atype <;> exact h2
    exact Option.some.inj (hNm.symm.trans h3)
  subst hcA
  rw [hR.1]
  refine kk p e s m args below meth c H1 locs ls E ?_ ⟨Nat.le_trans hS.1 (by omega), fun q h1 h2 => (o1 q (Nat.lt_of_lt_of_le h1 hS.1)).trans (hS.2.1 q h1 h2), hS.2.2⟩ hl
  rw [← hh]
  refine hR.push z1 o1 ?_
  show H1[H.size]? = some (arrV (g.2.2 t) N (fun j => .int (f j)))
  rw [e1]
  congr 2
  funext j
  exact hz j
theorem r_anew {t N index : Nat} {C : String} {x : Int32} (ht : (TYS g)[t]? = some (g.2.2 t, .object C)) (w1 : Cond.classLink M.1.cls index C ∈ tblG) (w2 : Cond.arrayOver (.object C) ∈ SPW) (hd : decode M.2.1 pc = .ok (.anewarray index, 3)) (hx : x = nI N) (hN : N < 65536) (hcells : k + 1 ≤ R.cells ∧ sl + N ≤ R.slots)
    (hh : updH h (g.1 + n) (.inl (t, N, .inr (.inr (.inr (.inr (fun _ => none)))))) = h') (kk : RJ l g M R TG XP (n + 1) h' (k + 1) (sl + N) (pc + 3) lv (.ref (g.1 + n) :: st)) : RJ l g M R TG XP n h k sl pc lv (.int x :: st) := by
  intro p e s m args below meth c H locs ls E hR hS hl
  subst hx
  have hts := E.2.2.2.2.2.2.1
  have hK := E.2.2.2.2.2.2.2.1
  have hcl : (nI N).toNatClampNeg = N := nI_clamp (by omega)
  refine W.anew E.1 E.2.1 E.2.2.2.2.2.1 (hts _ w1) (va_AO.use (hK.2 _ w2)) rfl hd rfl (nI_pos (by omega)) (by rw [hcl]; omega) hcells.1 (by rw [hcl]; exact hcells.2) fun cA kA comp f1 f2 f3 f4 => ?_
  have hcA : cA = g.2.2 t := by
    obtain ⟨kA2, comp2, k1, k2, k3, k4⟩ := (hK.1.2 t _ ht).2
    exact Option.some.inj (by first | exact f4.symm.trans k4 | exact f1.symm.trans k4 | exact (f3.symm.trans k4))
  subst hcA
  rw [hcl, hR.1]
  refine kk p e s m args below meth c _ locs ls E ?_ ⟨Nat.le_trans hS.1 (by simp), fun q h1 h2 => (by rw [Array.getElem?_push, if_neg (Nat.ne_of_lt (Nat.lt_of_lt_of_le h1 hS.1))]; exact hS.2.1 q h1 h2), hS.2.2⟩ hl
  rw [← hh]
  refine hR.push (by simp) (fun q hq => by rw [Array.getElem?_push, if_neg (Nat.ne_of_lt hq)]) ?_
  show _ = some (arrV (g.2.2 t) N (fun j => va_rf none))
  rw [Array.getElem?_push_size]
  rw [show (fun j : Nat => va_rf none) = (fun _ : Nat => Value.null) from rfl, ← arrV_new]
-- the library's own
theorem r_min {index : Nat} {x y : Int32} (hd : decode M.2.1 pc = .ok (.invokestatic index, 3)) (w1 : Cond.methodLink M.1.cls index Lib.Math.min.name ∈ tblG) (w2 : Cond.static Lib.Math.min.name ∈ tblG) (w3 : Cond.initialized "java/lang/Math" ∈ tblG) (w4 : Cond.code Lib.Math.min.name Lib.Math.min.code 2 (some .int) ∈ tblG) (hR0 : 1 ≤ R.frames ∧ (st.map fun v => v.category).sum + 13 ≤ R.locals) (hcells : k ≤ R.cells ∧ sl ≤ R.slots)
    (kk : RJ l g M R TG XP n h k sl (pc + 3) lv (.int (if y < x then y else x) :: st)) : RJ l g M R TG XP n h k sl pc lv (.int y :: .int x :: st) := by
  intro p e s m args below meth c H locs ls E hR hS hl
  have hts := E.2.2.2.2.2.2.1
  exact va_mmin E.1 E.2.1 (by rw [E.2.2.1]; exact hl.1.symm) E.2.2.2.2.2.1 (hts _ w1) (hts _ w2) (hts _ w3) (hts _ w4) hR0.1 hR0.2 hcells.1 hcells.2 hd (kk p e s m args below meth c H locs ls E hR hS hl)
theorem r_acopy {index a0 a n0 n1 sp dp cn : Nat} {f f1 f2 : Nat → Int32} (hd : decode M.2.1 pc = .ok (.invokestatic index, 3)) (w1 : Cond.methodLink M.1.cls index arraycopyName ∈ tblG) (w2 : Cond.native arraycopyName ∈ tblG) (w3 : Cond.static arraycopyName ∈ tblG) (w4 : Cond.initialized "java/lang/System" ∈ tblG) (hc0 : h a0 = some (.inl (0, n0, .inl f))) (hc1 : h a = some (.inl (0, n1, .inl f1)))
    (hb : sp + cn ≤ n0 ∧ dp + cn ≤ n1 ∧ sp < 65536 ∧ dp < 65536 ∧ cn < 65536) (hR0 : 1 ≤ R.frames ∧ (st.map fun v => v.category).sum + (nativeFrameWords "java/lang/System" "arraycopy" 5 + 11) ≤ R.locals)
    (hf : va_cpy f f1 sp dp cn = f2) (hh : updH h a (.inl (0, n1, .inl f2)) = h') (kk : RJ l g M R TG XP n h' k sl (pc + 3) lv st) : RJ l g M R TG XP n h k sl pc lv (.int (nI cn) :: .int (nI dp) :: .ref a :: .int (nI sp) :: .ref a0 :: st) := by
  intro p e s m args below meth c H locs ls E hR hS hl
  have hts := E.2.2.2.2.2.2.1
  obtain ⟨b1, b2, b3, b4, b5⟩ := hb
  have c1 : (nI sp).toNatClampNeg = sp := nI_clamp (by omega)
  have c2 : (nI dp).toNatClampNeg = dp := nI_clamp (by omega)
  have c3 : (nI cn).toNatClampNeg = cn := nI_clamp (by omega)
  intro T hT X
  have g0 : H[a0]? = some (vp_cell (g.2.2 0) (n0, .inl f)) := hR.2.2 a0 _ hc0
  have g1 : H[a]? = some (vp_cell (g.2.2 0) (n1, .inl f1)) := hR.2.2 a _ hc1
  have hA := TYS_arr E.2.2.2.2.2.2.2.1 0 rfl
  obtain ⟨-, k0, hk0, cm0, hkk0⟩ := hA n0 (fun j => .int (f j))
  obtain ⟨-, k1, hk1, cm1, hkk1⟩ := hA n1 (fun j => .int (f1 j))
  have nn : ∀ z : Nat, z < 65536 → (nI z).toInt = (z : Int) := fun z hz => nI_toInt (by omega)
  obtain ⟨vm', X', step⟩ := X.arraycopy E.1 E.2.2.2.2.2.1 (hts _ w1) (hts _ w2) (hts _ w3) (hts _ w4) (src := a0) (dst := a) (cs := vp_cell (g.2.2 0) (n0, .inl f)) (cd := vp_cell (g.2.2 0) (n1, .inl f1)) (srcPos := nI sp) (destPos := nI dp) (n := nI cn) (by rw [hT]; exact g0) (by rw [hT]; exact g1)
    (fun _ h => by cases h) (fun _ h => by cases h) (fun h => by cases h) (fun h => by cases h) hk0 hk1 hkk0 hkk1 (by simp [refKind]) (nI_pos (by omega)) (nI_pos (by omega)) (nI_pos (by omega))
    (by rw [nn sp b3, nn cn b5]; show ¬ _ > ((arrV (g.2.2 0) n0 (fun j => .int (f j))).slots.size : Int); rw [arrV_size]; omega)
    (by rw [nn dp b4, nn cn b5]; show ¬ _ > ((arrV (g.2.2 0) n1 (fun j => .int (f1 j))).slots.size : Int); rw [arrV_size]; omega)
    (fun vm₁ _ i hi => by
      rw [c3] at hi
      have e : (vp_cell (g.2.2 0) (n0, .inl f)).slots.getD ((nI sp).toNatClampNeg + i) .null = .int (f (sp + i)) := by
        rw [c1]
        show (arrV (g.2.2 0) n0 (fun j => .int (f j))).slots.getD _ _ = _
        rw [Array.getD_eq_getD_getElem?, arrV_read _ _ (by omega)]
        rfl
      refine ⟨?_, ?_⟩
      · rw [e]
        rfl
      · rw [e]
        exact trivial)
    (g := F0 m pc ls (.int (nI cn) :: .int (nI dp) :: .ref a :: .int (nI sp) :: .ref a0 :: st)) rfl (by rw [E.2.2.1]; exact hl.1) (rest := st) rfl (by rw [E.2.1]; exact hd) hR0.1 (by show 2 * 0 + _ + _ ≤ _; omega)
  have e1 : copied (vp_cell (g.2.2 0) (n0, .inl f)) (vp_cell (g.2.2 0) (n1, .inl f1)) (nI sp) (nI dp) (nI cn) = vp_cell (g.2.2 0) (n1, .inl f2) := by
    rw [← hf]
    have := va_copied (fun z => .int z) (g.2.2 0) (g.2.2 0) (n0 := n0) (n1 := n1) (sp := (nI sp).toNatClampNeg) (dp := (nI dp).toNatClampNeg) (n := (nI cn).toNatClampNeg) f f1 (by rw [c1, c3]; exact b1)
    rw [show va_cpy f f1 (nI sp).toNatClampNeg (nI dp).toNatClampNeg (nI cn).toNatClampNeg = va_cpy f f1 sp dp cn by rw [c1, c2, c3]] at this
    exact this
  rw [e1] at X' step
  have hl0 : a < H.size := (Array.getElem?_eq_some_iff.mp g1).1
  have hheap : ((T.setVm vm').setCell a (vp_cell (g.2.2 0) (n1, .inl f2))).heap = H.setIfInBounds a (vp_cell (g.2.2 0) (n1, .inl f2)) := by rw [← hT]; rfl
  have oq : ∀ q : Nat, q ≠ a → (H.setIfInBounds a (vp_cell (g.2.2 0) (n1, .inl f2)))[q]? = H[q]? := fun q hq => by simp [Array.getElem?_setIfInBounds, Ne.symm hq]
  obtain ⟨t, a1, bb⟩ := kk p e s m args below meth c (H.setIfInBounds a (vp_cell (g.2.2 0) (n1, .inl f2))) _ ls E (by
      rw [← hh]
      refine hR.set hc1 (by simp) oq ?_
      show (H.setIfInBounds a _)[a]? = some _
      simp [Array.getElem?_setIfInBounds, hl0]) ⟨by simp; exact hS.1, fun q g2 g3 => by
      rw [oq q (fun e => g3 (by rw [e]; exact hR.2.1 a _ hc1))]
      exact hS.2.1 q g2 g3, fun q hq => by
      rcases List.mem_append.mp hq with h | h
      · exact hS.2.2 q h
      · obtain ⟨z, -, hz⟩ := List.mem_map.mp h
        rw [← hz]
        exact hR.2.1 a _ hc1⟩ hl _ hheap X'
  exact ⟨t, step t a1, bb⟩
end CALLS
end
