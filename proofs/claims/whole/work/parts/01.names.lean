-- ===== PART A: goes FIRST, ahead of the names: the tables' words, and 'selects' of the private methods out of them =====
/-- a private method of a class that the tables say can be made, by its rows of tables_1 -/
def lw_okq (q : MethodName × Nat) : Prop := (q.1.cls ≠ "java/lang/invoke/MethodHandle" ∧ q.1.cls ≠ "java/lang/invoke/VarHandle") ∧ Cond.instantiable q.1.cls q.2 ∈ tables_1 ∧ Cond.privateMethod q.1 ∈ tables_1 ∧ Cond.instanceMethod q.1 ∈ tables_1
theorem lw_p0 : lw_okq (⟨"ShareStore", "liveNodes", "()I"⟩, 13) := ⟨⟨by decide +kernel, by decide +kernel⟩, List.mem_of_getElem? (i := 10) (by decide +kernel), List.mem_of_getElem? (i := 208) (by decide +kernel), List.mem_of_getElem? (i := 209) (by decide +kernel)⟩
theorem lw_p1 : lw_okq (⟨"ShareStore", "leastFreeOfLive", "()I"⟩, 13) := ⟨⟨by decide +kernel, by decide +kernel⟩, List.mem_of_getElem? (i := 10) (by decide +kernel), List.mem_of_getElem? (i := 212) (by decide +kernel), List.mem_of_getElem? (i := 213) (by decide +kernel)⟩
theorem lw_p2 : lw_okq (⟨"ShareStore", "begin", "(II)I"⟩, 13) := ⟨⟨by decide +kernel, by decide +kernel⟩, List.mem_of_getElem? (i := 10) (by decide +kernel), List.mem_of_getElem? (i := 226) (by decide +kernel), List.mem_of_getElem? (i := 227) (by decide +kernel)⟩
theorem lw_p3 : lw_okq (⟨"ShareStore", "sendShadows", "(III)V"⟩, 13) := ⟨⟨by decide +kernel, by decide +kernel⟩, List.mem_of_getElem? (i := 10) (by decide +kernel), List.mem_of_getElem? (i := 230) (by decide +kernel), List.mem_of_getElem? (i := 231) (by decide +kernel)⟩
theorem lw_p4 : lw_okq (⟨"ShareStore$Node", "takeLeastFree", "()I"⟩, 6) := ⟨⟨by decide +kernel, by decide +kernel⟩, List.mem_of_getElem? (i := 68) (by decide +kernel), List.mem_of_getElem? (i := 240) (by decide +kernel), List.mem_of_getElem? (i := 241) (by decide +kernel)⟩
theorem lw_p5 : lw_okq (⟨"ShareStore$Coder", "mirror", "(III)V"⟩, 7) := ⟨⟨by decide +kernel, by decide +kernel⟩, List.mem_of_getElem? (i := 18) (by decide +kernel), List.mem_of_getElem? (i := 251) (by decide +kernel), List.mem_of_getElem? (i := 252) (by decide +kernel)⟩
theorem lw_p6 : lw_okq (⟨"ShareStore", "fillShadows", "(II)V"⟩, 13) := ⟨⟨by decide +kernel, by decide +kernel⟩, List.mem_of_getElem? (i := 10) (by decide +kernel), List.mem_of_getElem? (i := 255) (by decide +kernel), List.mem_of_getElem? (i := 256) (by decide +kernel)⟩
theorem lw_p7 : lw_okq (⟨"ShareStore", "sendFlips", "(II)V"⟩, 13) := ⟨⟨by decide +kernel, by decide +kernel⟩, List.mem_of_getElem? (i := 10) (by decide +kernel), List.mem_of_getElem? (i := 272) (by decide +kernel), List.mem_of_getElem? (i := 273) (by decide +kernel)⟩
theorem lw_p8 : lw_okq (⟨"ShareStore", "someNodeRecords", "(II)Z"⟩, 13) := ⟨⟨by decide +kernel, by decide +kernel⟩, List.mem_of_getElem? (i := 10) (by decide +kernel), List.mem_of_getElem? (i := 293) (by decide +kernel), List.mem_of_getElem? (i := 294) (by decide +kernel)⟩
theorem lw_p9 : lw_okq (⟨"ShareStore", "chooseLeastNumbers", "(II)I"⟩, 13) := ⟨⟨by decide +kernel, by decide +kernel⟩, List.mem_of_getElem? (i := 10) (by decide +kernel), List.mem_of_getElem? (i := 302) (by decide +kernel), List.mem_of_getElem? (i := 303) (by decide +kernel)⟩
theorem lw_p10 : lw_okq (⟨"ShareStore", "newestOf", "(I)I"⟩, 13) := ⟨⟨by decide +kernel, by decide +kernel⟩, List.mem_of_getElem? (i := 10) (by decide +kernel), List.mem_of_getElem? (i := 306) (by decide +kernel), List.mem_of_getElem? (i := 307) (by decide +kernel)⟩
theorem lw_p11 : lw_okq (⟨"ShareStore", "liveHolders", "(II)I"⟩, 13) := ⟨⟨by decide +kernel, by decide +kernel⟩, List.mem_of_getElem? (i := 10) (by decide +kernel), List.mem_of_getElem? (i := 310) (by decide +kernel), List.mem_of_getElem? (i := 311) (by decide +kernel)⟩
theorem lw_p12 : lw_okq (⟨"ShareStore", "isFresh", "(III)Z"⟩, 13) := ⟨⟨by decide +kernel, by decide +kernel⟩, List.mem_of_getElem? (i := 10) (by decide +kernel), List.mem_of_getElem? (i := 314) (by decide +kernel), List.mem_of_getElem? (i := 315) (by decide +kernel)⟩
theorem lw_p13 : lw_okq (⟨"ShareStore", "newestBytes", "(I)I"⟩, 13) := ⟨⟨by decide +kernel, by decide +kernel⟩, List.mem_of_getElem? (i := 10) (by decide +kernel), List.mem_of_getElem? (i := 321) (by decide +kernel), List.mem_of_getElem? (i := 322) (by decide +kernel)⟩
theorem lw_p14 : lw_okq (⟨"ShareStore", "decode", "(II)V"⟩, 13) := ⟨⟨by decide +kernel, by decide +kernel⟩, List.mem_of_getElem? (i := 10) (by decide +kernel), List.mem_of_getElem? (i := 325) (by decide +kernel), List.mem_of_getElem? (i := 326) (by decide +kernel)⟩
theorem lw_p15 : lw_okq (⟨"ShareStore$Coder", "clearColumn", "(II)V"⟩, 7) := ⟨⟨by decide +kernel, by decide +kernel⟩, List.mem_of_getElem? (i := 18) (by decide +kernel), List.mem_of_getElem? (i := 334) (by decide +kernel), List.mem_of_getElem? (i := 335) (by decide +kernel)⟩
def lw_privs_1 : List (MethodName × Nat) := [(⟨"ShareStore", "liveNodes", "()I"⟩, 13), (⟨"ShareStore", "leastFreeOfLive", "()I"⟩, 13), (⟨"ShareStore", "begin", "(II)I"⟩, 13), (⟨"ShareStore", "sendShadows", "(III)V"⟩, 13), (⟨"ShareStore$Node", "takeLeastFree", "()I"⟩, 6), (⟨"ShareStore$Coder", "mirror", "(III)V"⟩, 7), (⟨"ShareStore", "fillShadows", "(II)V"⟩, 13), (⟨"ShareStore", "sendFlips", "(II)V"⟩, 13), (⟨"ShareStore", "someNodeRecords", "(II)Z"⟩, 13), (⟨"ShareStore", "chooseLeastNumbers", "(II)I"⟩, 13), (⟨"ShareStore", "newestOf", "(I)I"⟩, 13), (⟨"ShareStore", "liveHolders", "(II)I"⟩, 13), (⟨"ShareStore", "isFresh", "(III)Z"⟩, 13), (⟨"ShareStore", "newestBytes", "(I)I"⟩, 13), (⟨"ShareStore", "decode", "(II)V"⟩, 13), (⟨"ShareStore$Coder", "clearColumn", "(II)V"⟩, 7)]
theorem lw_r1 : ∀ q ∈ lw_privs_1, lw_okq q := List.forall_mem_cons.mpr ⟨lw_p0, List.forall_mem_cons.mpr ⟨lw_p1, List.forall_mem_cons.mpr ⟨lw_p2, List.forall_mem_cons.mpr ⟨lw_p3, List.forall_mem_cons.mpr ⟨lw_p4, List.forall_mem_cons.mpr ⟨lw_p5, List.forall_mem_cons.mpr ⟨lw_p6, List.forall_mem_cons.mpr ⟨lw_p7, List.forall_mem_cons.mpr ⟨lw_p8, List.forall_mem_cons.mpr ⟨lw_p9, List.forall_mem_cons.mpr ⟨lw_p10, List.forall_mem_cons.mpr ⟨lw_p11, List.forall_mem_cons.mpr ⟨lw_p12, List.forall_mem_cons.mpr ⟨lw_p13, List.forall_mem_cons.mpr ⟨lw_p14, List.forall_mem_cons.mpr ⟨lw_p15, fun _ h => absurd h List.not_mem_nil⟩⟩⟩⟩⟩⟩⟩⟩⟩⟩⟩⟩⟩⟩⟩⟩
theorem lw_p16 : lw_okq (⟨"ShareStore$Coder", "solveColumn", "(I)V"⟩, 7) := ⟨⟨by decide +kernel, by decide +kernel⟩, List.mem_of_getElem? (i := 18) (by decide +kernel), List.mem_of_getElem? (i := 357) (by decide +kernel), List.mem_of_getElem? (i := 358) (by decide +kernel)⟩
theorem lw_p17 : lw_okq (⟨"ShareStore", "lacksHelpers", "(II)Z"⟩, 13) := ⟨⟨by decide +kernel, by decide +kernel⟩, List.mem_of_getElem? (i := 10) (by decide +kernel), List.mem_of_getElem? (i := 405) (by decide +kernel), List.mem_of_getElem? (i := 406) (by decide +kernel)⟩
theorem lw_p18 : lw_okq (⟨"ShareStore", "isStale", "(II)Z"⟩, 13) := ⟨⟨by decide +kernel, by decide +kernel⟩, List.mem_of_getElem? (i := 10) (by decide +kernel), List.mem_of_getElem? (i := 409) (by decide +kernel), List.mem_of_getElem? (i := 410) (by decide +kernel)⟩
theorem lw_p19 : lw_okq (⟨"ShareStore", "chooseLeastSent", "(III)I"⟩, 13) := ⟨⟨by decide +kernel, by decide +kernel⟩, List.mem_of_getElem? (i := 10) (by decide +kernel), List.mem_of_getElem? (i := 413) (by decide +kernel), List.mem_of_getElem? (i := 414) (by decide +kernel)⟩
theorem lw_p20 : lw_okq (⟨"ShareStore", "lacksRoom", "(I)Z"⟩, 13) := ⟨⟨by decide +kernel, by decide +kernel⟩, List.mem_of_getElem? (i := 10) (by decide +kernel), List.mem_of_getElem? (i := 417) (by decide +kernel), List.mem_of_getElem? (i := 418) (by decide +kernel)⟩
theorem lw_p21 : lw_okq (⟨"ShareStore", "renew", "(III)V"⟩, 13) := ⟨⟨by decide +kernel, by decide +kernel⟩, List.mem_of_getElem? (i := 10) (by decide +kernel), List.mem_of_getElem? (i := 421) (by decide +kernel), List.mem_of_getElem? (i := 422) (by decide +kernel)⟩
theorem lw_p22 : lw_okq (⟨"ShareStore", "repair", "(III)V"⟩, 13) := ⟨⟨by decide +kernel, by decide +kernel⟩, List.mem_of_getElem? (i := 10) (by decide +kernel), List.mem_of_getElem? (i := 425) (by decide +kernel), List.mem_of_getElem? (i := 426) (by decide +kernel)⟩
theorem lw_p23 : lw_okq (⟨"ShareStore", "symbolFrom", "(LShareStore$Node;II)I"⟩, 13) := ⟨⟨by decide +kernel, by decide +kernel⟩, List.mem_of_getElem? (i := 10) (by decide +kernel), List.mem_of_getElem? (i := 429) (by decide +kernel), List.mem_of_getElem? (i := 430) (by decide +kernel)⟩
theorem lw_p24 : lw_okq (⟨"ShareStore", "openObjects", "()I"⟩, 13) := ⟨⟨by decide +kernel, by decide +kernel⟩, List.mem_of_getElem? (i := 10) (by decide +kernel), List.mem_of_getElem? (i := 473) (by decide +kernel), List.mem_of_getElem? (i := 474) (by decide +kernel)⟩
theorem lw_p25 : lw_okq (⟨"ShareStoreModel", "refused", "(I)I"⟩, 20) := ⟨⟨by decide +kernel, by decide +kernel⟩, List.mem_of_getElem? (i := 490) (by decide +kernel), List.mem_of_getElem? (i := 596) (by decide +kernel), List.mem_of_getElem? (i := 597) (by decide +kernel)⟩
theorem lw_p26 : lw_okq (⟨"ShareStoreModel", "live", "()I"⟩, 20) := ⟨⟨by decide +kernel, by decide +kernel⟩, List.mem_of_getElem? (i := 490) (by decide +kernel), List.mem_of_getElem? (i := 603) (by decide +kernel), List.mem_of_getElem? (i := 604) (by decide +kernel)⟩
theorem lw_p27 : lw_okq (⟨"ShareStoreModel", "usedBy", "(I)I"⟩, 20) := ⟨⟨by decide +kernel, by decide +kernel⟩, List.mem_of_getElem? (i := 490) (by decide +kernel), List.mem_of_getElem? (i := 607) (by decide +kernel), List.mem_of_getElem? (i := 608) (by decide +kernel)⟩
theorem lw_p28 : lw_okq (⟨"ShareStoreModel", "goes", "(I)I"⟩, 20) := ⟨⟨by decide +kernel, by decide +kernel⟩, List.mem_of_getElem? (i := 490) (by decide +kernel), List.mem_of_getElem? (i := 614) (by decide +kernel), List.mem_of_getElem? (i := 615) (by decide +kernel)⟩
theorem lw_p29 : lw_okq (⟨"ShareStoreModel", "givesUp", "(IIZ)V"⟩, 20) := ⟨⟨by decide +kernel, by decide +kernel⟩, List.mem_of_getElem? (i := 490) (by decide +kernel), List.mem_of_getElem? (i := 618) (by decide +kernel), List.mem_of_getElem? (i := 619) (by decide +kernel)⟩
theorem lw_p30 : lw_okq (⟨"ShareStoreModel", "takes", "(IIZII)V"⟩, 20) := ⟨⟨by decide +kernel, by decide +kernel⟩, List.mem_of_getElem? (i := 490) (by decide +kernel), List.mem_of_getElem? (i := 625) (by decide +kernel), List.mem_of_getElem? (i := 626) (by decide +kernel)⟩
theorem lw_p31 : lw_okq (⟨"ShareStoreModel", "leastFree", "(I)I"⟩, 20) := ⟨⟨by decide +kernel, by decide +kernel⟩, List.mem_of_getElem? (i := 490) (by decide +kernel), List.mem_of_getElem? (i := 629) (by decide +kernel), List.mem_of_getElem? (i := 630) (by decide +kernel)⟩
def lw_privs_2 : List (MethodName × Nat) := [(⟨"ShareStore$Coder", "solveColumn", "(I)V"⟩, 7), (⟨"ShareStore", "lacksHelpers", "(II)Z"⟩, 13), (⟨"ShareStore", "isStale", "(II)Z"⟩, 13), (⟨"ShareStore", "chooseLeastSent", "(III)I"⟩, 13), (⟨"ShareStore", "lacksRoom", "(I)Z"⟩, 13), (⟨"ShareStore", "renew", "(III)V"⟩, 13), (⟨"ShareStore", "repair", "(III)V"⟩, 13), (⟨"ShareStore", "symbolFrom", "(LShareStore$Node;II)I"⟩, 13), (⟨"ShareStore", "openObjects", "()I"⟩, 13), (⟨"ShareStoreModel", "refused", "(I)I"⟩, 20), (⟨"ShareStoreModel", "live", "()I"⟩, 20), (⟨"ShareStoreModel", "usedBy", "(I)I"⟩, 20), (⟨"ShareStoreModel", "goes", "(I)I"⟩, 20), (⟨"ShareStoreModel", "givesUp", "(IIZ)V"⟩, 20), (⟨"ShareStoreModel", "takes", "(IIZII)V"⟩, 20), (⟨"ShareStoreModel", "leastFree", "(I)I"⟩, 20)]
theorem lw_r2 : ∀ q ∈ lw_privs_2, lw_okq q := List.forall_mem_cons.mpr ⟨lw_p16, List.forall_mem_cons.mpr ⟨lw_p17, List.forall_mem_cons.mpr ⟨lw_p18, List.forall_mem_cons.mpr ⟨lw_p19, List.forall_mem_cons.mpr ⟨lw_p20, List.forall_mem_cons.mpr ⟨lw_p21, List.forall_mem_cons.mpr ⟨lw_p22, List.forall_mem_cons.mpr ⟨lw_p23, List.forall_mem_cons.mpr ⟨lw_p24, List.forall_mem_cons.mpr ⟨lw_p25, List.forall_mem_cons.mpr ⟨lw_p26, List.forall_mem_cons.mpr ⟨lw_p27, List.forall_mem_cons.mpr ⟨lw_p28, List.forall_mem_cons.mpr ⟨lw_p29, List.forall_mem_cons.mpr ⟨lw_p30, List.forall_mem_cons.mpr ⟨lw_p31, fun _ h => absurd h List.not_mem_nil⟩⟩⟩⟩⟩⟩⟩⟩⟩⟩⟩⟩⟩⟩⟩⟩
theorem lw_p32 : lw_okq (⟨"ShareStoreModel", "shares", "(II)V"⟩, 20) := ⟨⟨by decide +kernel, by decide +kernel⟩, List.mem_of_getElem? (i := 490) (by decide +kernel), List.mem_of_getElem? (i := 633) (by decide +kernel), List.mem_of_getElem? (i := 634) (by decide +kernel)⟩
theorem lw_p33 : lw_okq (⟨"ShareStoreModel", "matrix", "(III)I"⟩, 20) := ⟨⟨by decide +kernel, by decide +kernel⟩, List.mem_of_getElem? (i := 490) (by decide +kernel), List.mem_of_getElem? (i := 637) (by decide +kernel), List.mem_of_getElem? (i := 638) (by decide +kernel)⟩
theorem lw_p34 : lw_okq (⟨"ShareStoreModel", "byteAt", "(IIII)I"⟩, 20) := ⟨⟨by decide +kernel, by decide +kernel⟩, List.mem_of_getElem? (i := 490) (by decide +kernel), List.mem_of_getElem? (i := 641) (by decide +kernel), List.mem_of_getElem? (i := 642) (by decide +kernel)⟩
theorem lw_p35 : lw_okq (⟨"ShareStoreModel", "flips", "(II)V"⟩, 20) := ⟨⟨by decide +kernel, by decide +kernel⟩, List.mem_of_getElem? (i := 490) (by decide +kernel), List.mem_of_getElem? (i := 645) (by decide +kernel), List.mem_of_getElem? (i := 646) (by decide +kernel)⟩
theorem lw_p36 : lw_okq (⟨"ShareStoreModel", "newest", "(I)I"⟩, 20) := ⟨⟨by decide +kernel, by decide +kernel⟩, List.mem_of_getElem? (i := 490) (by decide +kernel), List.mem_of_getElem? (i := 661) (by decide +kernel), List.mem_of_getElem? (i := 662) (by decide +kernel)⟩
theorem lw_p37 : lw_okq (⟨"ShareStoreModel", "choose", "(IIII)I"⟩, 20) := ⟨⟨by decide +kernel, by decide +kernel⟩, List.mem_of_getElem? (i := 490) (by decide +kernel), List.mem_of_getElem? (i := 665) (by decide +kernel), List.mem_of_getElem? (i := 666) (by decide +kernel)⟩
theorem lw_p38 : lw_okq (⟨"ShareStoreModel", "isFresh", "(III)Z"⟩, 20) := ⟨⟨by decide +kernel, by decide +kernel⟩, List.mem_of_getElem? (i := 490) (by decide +kernel), List.mem_of_getElem? (i := 669) (by decide +kernel), List.mem_of_getElem? (i := 670) (by decide +kernel)⟩
theorem lw_p39 : lw_okq (⟨"ShareStoreModel", "sizeOf", "(II)I"⟩, 20) := ⟨⟨by decide +kernel, by decide +kernel⟩, List.mem_of_getElem? (i := 490) (by decide +kernel), List.mem_of_getElem? (i := 673) (by decide +kernel), List.mem_of_getElem? (i := 674) (by decide +kernel)⟩
theorem lw_p40 : lw_okq (⟨"ShareStoreModel", "getStripe", "(II)V"⟩, 20) := ⟨⟨by decide +kernel, by decide +kernel⟩, List.mem_of_getElem? (i := 490) (by decide +kernel), List.mem_of_getElem? (i := 677) (by decide +kernel), List.mem_of_getElem? (i := 678) (by decide +kernel)⟩
theorem lw_p41 : lw_okq (⟨"ShareStoreModel", "solve", "(II)V"⟩, 20) := ⟨⟨by decide +kernel, by decide +kernel⟩, List.mem_of_getElem? (i := 490) (by decide +kernel), List.mem_of_getElem? (i := 681) (by decide +kernel), List.mem_of_getElem? (i := 682) (by decide +kernel)⟩
theorem lw_p42 : lw_okq (⟨"ShareStoreModel", "wants", "(II)Z"⟩, 20) := ⟨⟨by decide +kernel, by decide +kernel⟩, List.mem_of_getElem? (i := 490) (by decide +kernel), List.mem_of_getElem? (i := 713) (by decide +kernel), List.mem_of_getElem? (i := 714) (by decide +kernel)⟩
theorem lw_p43 : lw_okq (⟨"ShareStoreModel", "rebuilds", "(III)I"⟩, 20) := ⟨⟨by decide +kernel, by decide +kernel⟩, List.mem_of_getElem? (i := 490) (by decide +kernel), List.mem_of_getElem? (i := 717) (by decide +kernel), List.mem_of_getElem? (i := 718) (by decide +kernel)⟩
theorem lw_p44 : lw_okq (⟨"ShareStoreModel", "chooseLeast", "(III)V"⟩, 20) := ⟨⟨by decide +kernel, by decide +kernel⟩, List.mem_of_getElem? (i := 490) (by decide +kernel), List.mem_of_getElem? (i := 721) (by decide +kernel), List.mem_of_getElem? (i := 722) (by decide +kernel)⟩
theorem lw_p45 : lw_okq (⟨"ShareStoreModel", "symbolOf", "(IIII)I"⟩, 20) := ⟨⟨by decide +kernel, by decide +kernel⟩, List.mem_of_getElem? (i := 490) (by decide +kernel), List.mem_of_getElem? (i := 725) (by decide +kernel), List.mem_of_getElem? (i := 726) (by decide +kernel)⟩
def lw_privs_3 : List (MethodName × Nat) := [(⟨"ShareStoreModel", "shares", "(II)V"⟩, 20), (⟨"ShareStoreModel", "matrix", "(III)I"⟩, 20), (⟨"ShareStoreModel", "byteAt", "(IIII)I"⟩, 20), (⟨"ShareStoreModel", "flips", "(II)V"⟩, 20), (⟨"ShareStoreModel", "newest", "(I)I"⟩, 20), (⟨"ShareStoreModel", "choose", "(IIII)I"⟩, 20), (⟨"ShareStoreModel", "isFresh", "(III)Z"⟩, 20), (⟨"ShareStoreModel", "sizeOf", "(II)I"⟩, 20), (⟨"ShareStoreModel", "getStripe", "(II)V"⟩, 20), (⟨"ShareStoreModel", "solve", "(II)V"⟩, 20), (⟨"ShareStoreModel", "wants", "(II)Z"⟩, 20), (⟨"ShareStoreModel", "rebuilds", "(III)I"⟩, 20), (⟨"ShareStoreModel", "chooseLeast", "(III)V"⟩, 20), (⟨"ShareStoreModel", "symbolOf", "(IIII)I"⟩, 20)]
theorem lw_r3 : ∀ q ∈ lw_privs_3, lw_okq q := List.forall_mem_cons.mpr ⟨lw_p32, List.forall_mem_cons.mpr ⟨lw_p33, List.forall_mem_cons.mpr ⟨lw_p34, List.forall_mem_cons.mpr ⟨lw_p35, List.forall_mem_cons.mpr ⟨lw_p36, List.forall_mem_cons.mpr ⟨lw_p37, List.forall_mem_cons.mpr ⟨lw_p38, List.forall_mem_cons.mpr ⟨lw_p39, List.forall_mem_cons.mpr ⟨lw_p40, List.forall_mem_cons.mpr ⟨lw_p41, List.forall_mem_cons.mpr ⟨lw_p42, List.forall_mem_cons.mpr ⟨lw_p43, List.forall_mem_cons.mpr ⟨lw_p44, List.forall_mem_cons.mpr ⟨lw_p45, fun _ h => absurd h List.not_mem_nil⟩⟩⟩⟩⟩⟩⟩⟩⟩⟩⟩⟩⟩⟩
def lw_privs : List (MethodName × Nat) := lw_privs_1 ++ (lw_privs_2 ++ (lw_privs_3))
def lw_tbl : List Cond := k2_sels lw_privs ++ tables_1
theorem lw_privs_ok : ∀ q ∈ lw_privs, lw_okq q := by
  show ∀ q ∈ lw_privs_1 ++ (lw_privs_2 ++ (lw_privs_3)), lw_okq q
  exact List.forall_mem_append.mpr ⟨lw_r1, List.forall_mem_append.mpr ⟨lw_r2, lw_r3⟩⟩

def R_C : String := "ShareStore$Coder"
def T_C : u_T := fun k => match k with
  | 0 => ("ShareStore$Coder", "field", "LShareStore$Field;", true)
  | 1 => ("ShareStore$Coder", "rows", "[[I", true)
  | 2 => ("ShareStore$Coder", "matrix", "[[I", true)
  | 3 => ("ShareStore$Coder", "given", "[[I", true)
  | 4 => ("ShareStore$Coder", "square", "[[I", true)
  | 5 => ("ShareStore$Coder", "inverse", "[[I", true)
  | _ => ("ShareStore$Coder", "result", "[I", true)
def ty_C : Nat → FieldType := fun k => match k with
  | 0 => .object "ShareStore$Field"
  | 1 => .array (.array .int)
  | 2 => .array (.array .int)
  | 3 => .array (.array .int)
  | 4 => .array (.array .int)
  | 5 => .array (.array .int)
  | _ => .array .int
theorem nm_C : ∀ a, a < 7 → ∀ b, b < 7 → a ≠ b → (T_C a).2.1 ≠ (T_C b).2.1 := by decide +kernel
theorem ty_C_ok : ∀ k, k < 7 → parseFieldDescriptor (T_C k).2.2.1 = some (ty_C k) := by decide +kernel
def R_F : String := "ShareStore$Field"
def T_F : u_T := fun k => match k with
  | 0 => ("ShareStore$Field", "powers", "[I", true)
  | _ => ("ShareStore$Field", "exponents", "[I", true)
def ty_F : Nat → FieldType := fun k => match k with
  | 0 => .array .int
  | _ => .array .int
theorem nm_F : ∀ a, a < 2 → ∀ b, b < 2 → a ≠ b → (T_F a).2.1 ≠ (T_F b).2.1 := by decide +kernel
theorem ty_F_ok : ∀ k, k < 2 → parseFieldDescriptor (T_F k).2.2.1 = some (ty_F k) := by decide +kernel
def R_H : String := "ShareStore$Holding"
def T_H : u_T := fun k => match k with
  | 0 => ("ShareStore$Holding", "places", "[I", true)
  | 1 => ("ShareStore$Holding", "version", "I", false)
  | 2 => ("ShareStore$Holding", "bytes", "I", false)
  | _ => ("ShareStore$Holding", "stripes", "I", false)
def ty_H : Nat → FieldType := fun k => match k with
  | 0 => .array .int
  | 1 => .int
  | 2 => .int
  | _ => .int
theorem nm_H : ∀ a, a < 4 → ∀ b, b < 4 → a ≠ b → (T_H a).2.1 ≠ (T_H b).2.1 := by decide +kernel
theorem ty_H_ok : ∀ k, k < 4 → parseFieldDescriptor (T_H k).2.2.1 = some (ty_H k) := by decide +kernel
def R_N : String := "ShareStore$Node"
def T_N : u_T := fun k => match k with
  | 0 => ("ShareStore$Node", "data", "[I", true)
  | 1 => ("ShareStore$Node", "taken", "[Z", true)
  | 2 => ("ShareStore$Node", "records", "[LShareStore$Holding;", true)
  | 3 => ("ShareStore$Node", "shadows", "[LShareStore$Holding;", true)
  | 4 => ("ShareStore$Node", "live", "Z", false)
  | _ => ("ShareStore$Node", "symbolsSent", "I", false)
def ty_N : Nat → FieldType := fun k => match k with
  | 0 => .array .int
  | 1 => .array .boolean
  | 2 => .array (.object "ShareStore$Holding")
  | 3 => .array (.object "ShareStore$Holding")
  | 4 => .boolean
  | _ => .int
theorem nm_N : ∀ a, a < 6 → ∀ b, b < 6 → a ≠ b → (T_N a).2.1 ≠ (T_N b).2.1 := by decide +kernel
theorem ty_N_ok : ∀ k, k < 6 → parseFieldDescriptor (T_N k).2.2.1 = some (ty_N k) := by decide +kernel
def R_S : String := "ShareStore"
def T_S : u_T := fun k => match k with
  | 0 => ("ShareStore", "coder", "LShareStore$Coder;", true)
  | 1 => ("ShareStore", "nodes", "[LShareStore$Node;", true)
  | 2 => ("ShareStore", "begun", "[I", true)
  | 3 => ("ShareStore", "unsettled", "[Z", true)
  | 4 => ("ShareStore", "tape", "[I", true)
  | 5 => ("ShareStore", "tapeBytes", "I", false)
  | 6 => ("ShareStore", "gotten", "[I", true)
  | 7 => ("ShareStore", "gottenBytes", "I", false)
  | 8 => ("ShareStore", "cutBehind", "I", false)
  | 9 => ("ShareStore", "messages", "I", false)
  | 10 => ("ShareStore", "symbols", "I", false)
  | 11 => ("ShareStore", "chosen", "[I", true)
  | _ => ("ShareStore", "wire", "[I", true)
def ty_S : Nat → FieldType := fun k => match k with
  | 0 => .object "ShareStore$Coder"
  | 1 => .array (.object "ShareStore$Node")
  | 2 => .array .int
  | 3 => .array .boolean
  | 4 => .array .int
  | 5 => .int
  | 6 => .array .int
  | 7 => .int
  | 8 => .int
  | 9 => .int
  | 10 => .int
  | 11 => .array .int
  | _ => .array .int
theorem nm_S : ∀ a, a < 13 → ∀ b, b < 13 → a ≠ b → (T_S a).2.1 ≠ (T_S b).2.1 := by decide +kernel
theorem ty_S_ok : ∀ k, k < 13 → parseFieldDescriptor (T_S k).2.2.1 = some (ty_S k) := by decide +kernel
def R_M : String := "ShareStoreModel"
def T_M : u_T := fun k => match k with
  | 0 => ("ShareStoreModel", "tape", "[I", true)
  | 1 => ("ShareStoreModel", "taped", "I", false)
  | 2 => ("ShareStoreModel", "cutAt", "I", false)
  | 3 => ("ShareStoreModel", "isFailed", "[Z", true)
  | 4 => ("ShareStoreModel", "sent", "[I", true)
  | 5 => ("ShareStoreModel", "used", "[Z", true)
  | 6 => ("ShareStoreModel", "bytes", "[I", true)
  | 7 => ("ShareStoreModel", "has", "[Z", true)
  | 8 => ("ShareStoreModel", "version", "[I", true)
  | 9 => ("ShareStoreModel", "size", "[I", true)
  | 10 => ("ShareStoreModel", "blockOf", "[I", true)
  | 11 => ("ShareStoreModel", "latest", "[I", true)
  | 12 => ("ShareStoreModel", "isOpen", "[Z", true)
  | 13 => ("ShareStoreModel", "got", "[I", true)
  | 14 => ("ShareStoreModel", "gotMany", "I", false)
  | 15 => ("ShareStoreModel", "messages", "I", false)
  | 16 => ("ShareStoreModel", "symbols", "I", false)
  | 17 => ("ShareStoreModel", "equations", "[I", true)
  | 18 => ("ShareStoreModel", "chosen", "[I", true)
  | _ => ("ShareStoreModel", "right", "[I", true)
def ty_M : Nat → FieldType := fun k => match k with
  | 0 => .array .int
  | 1 => .int
  | 2 => .int
  | 3 => .array .boolean
  | 4 => .array .int
  | 5 => .array .boolean
  | 6 => .array .int
  | 7 => .array .boolean
  | 8 => .array .int
  | 9 => .array .int
  | 10 => .array .int
  | 11 => .array .int
  | 12 => .array .boolean
  | 13 => .array .int
  | 14 => .int
  | 15 => .int
  | 16 => .int
  | 17 => .array .int
  | 18 => .array .int
  | _ => .array .int
theorem nm_M : ∀ a, a < 20 → ∀ b, b < 20 → a ≠ b → (T_M a).2.1 ≠ (T_M b).2.1 := by decide +kernel
theorem ty_M_ok : ∀ k, k < 20 → parseFieldDescriptor (T_M k).2.2.1 = some (ty_M k) := by decide +kernel
abbrev CL : List vw_C := [(R_C, T_C, 7), (R_F, T_F, 2), (R_H, T_H, 4), (R_N, T_N, 6), (R_S, T_S, 13), (R_M, T_M, 20)]
abbrev MT : Type := MethodName × ByteArray × Nat × Option FieldType
def M_S_init : MT := (⟨"ShareStore", "<init>", "()V"⟩, prog_1_method_1_code, 2, (Option.none : Option Jvm.ClassFile.FieldType))
def M_C_init : MT := (⟨"ShareStore$Coder", "<init>", "()V"⟩, prog_2_method_1_code, 4, (Option.none : Option Jvm.ClassFile.FieldType))
def M_F_init : MT := (⟨"ShareStore$Field", "<init>", "()V"⟩, prog_3_method_1_code, 3, (Option.none : Option Jvm.ClassFile.FieldType))
def M_F_product : MT := (⟨"ShareStore$Field", "product", "(II)I"⟩, prog_3_method_2_code, 3, (Option.some Jvm.ClassFile.FieldType.int))
def M_N_init : MT := (⟨"ShareStore$Node", "<init>", "()V"⟩, prog_5_method_1_code, 2, (Option.none : Option Jvm.ClassFile.FieldType))
def M_H_init : MT := (⟨"ShareStore$Holding", "<init>", "()V"⟩, prog_4_method_1_code, 1, (Option.none : Option Jvm.ClassFile.FieldType))
def M_S_times : MT := (⟨"ShareStore", "times", "(II)I"⟩, prog_1_method_2_code, 3, (Option.some Jvm.ClassFile.FieldType.int))
def M_S_isElement : MT := (⟨"ShareStore", "isElement", "(I)Z"⟩, prog_1_method_28_code, 1, (Option.some Jvm.ClassFile.FieldType.boolean))
def M_S_over : MT := (⟨"ShareStore", "over", "(II)I"⟩, prog_1_method_3_code, 3, (Option.some Jvm.ClassFile.FieldType.int))
def M_F_quotient : MT := (⟨"ShareStore$Field", "quotient", "(II)I"⟩, prog_3_method_3_code, 3, (Option.some Jvm.ClassFile.FieldType.int))
def M_S_rowAt : MT := (⟨"ShareStore", "rowAt", "(II)I"⟩, prog_1_method_4_code, 3, (Option.some Jvm.ClassFile.FieldType.int))
def M_S_isNode : MT := (⟨"ShareStore", "isNode", "(I)Z"⟩, prog_1_method_29_code, 1, (Option.some Jvm.ClassFile.FieldType.boolean))
def M_C_rowByte : MT := (⟨"ShareStore$Coder", "rowByte", "(II)I"⟩, prog_2_method_2_code, 3, (Option.some Jvm.ClassFile.FieldType.int))
def M_S_feed : MT := (⟨"ShareStore", "feed", "(JI)I"⟩, prog_1_method_5_code, 5, (Option.some Jvm.ClassFile.FieldType.int))
def M_S_cut : MT := (⟨"ShareStore", "cut", "(I)I"⟩, prog_1_method_6_code, 2, (Option.some Jvm.ClassFile.FieldType.int))
def M_S_put : MT := (⟨"ShareStore", "put", "(I)I"⟩, prog_1_method_7_code, 3, (Option.some Jvm.ClassFile.FieldType.int))
def M_S_isObject : MT := (⟨"ShareStore", "isObject", "(I)Z"⟩, prog_1_method_30_code, 1, (Option.some Jvm.ClassFile.FieldType.boolean))
def M_S_liveNodes : MT := (⟨"ShareStore", "liveNodes", "()I"⟩, prog_1_method_33_code, 3, (Option.some Jvm.ClassFile.FieldType.int))
def M_S_leastFreeOfLive : MT := (⟨"ShareStore", "leastFreeOfLive", "()I"⟩, prog_1_method_35_code, 3, (Option.some Jvm.ClassFile.FieldType.int))
def M_N_freeBlocks : MT := (⟨"ShareStore$Node", "freeBlocks", "()I"⟩, prog_5_method_2_code, 3, (Option.some Jvm.ClassFile.FieldType.int))
def M_S_stripesOf : MT := (⟨"ShareStore", "stripesOf", "(I)I"⟩, prog_1_method_32_code, 1, (Option.some Jvm.ClassFile.FieldType.int))
def M_S_begin : MT := (⟨"ShareStore", "begin", "(II)I"⟩, prog_1_method_43_code, 7, (Option.some Jvm.ClassFile.FieldType.int))
def M_S_sendShadows : MT := (⟨"ShareStore", "sendShadows", "(III)V"⟩, prog_1_method_44_code, 6, (Option.none : Option Jvm.ClassFile.FieldType))
def M_N_take : MT := (⟨"ShareStore$Node", "take", "(LShareStore$Holding;II)V"⟩, prog_5_method_4_code, 5, (Option.none : Option Jvm.ClassFile.FieldType))
def M_N_takeLeastFree : MT := (⟨"ShareStore$Node", "takeLeastFree", "()I"⟩, prog_5_method_3_code, 2, (Option.some Jvm.ClassFile.FieldType.int))
def M_C_load : MT := (⟨"ShareStore$Coder", "load", "([III)V"⟩, prog_2_method_3_code, 7, (Option.none : Option Jvm.ClassFile.FieldType))
def M_C_byteBefore : MT := (⟨"ShareStore$Coder", "byteBefore", "([III)I"⟩, prog_2_method_5_code, 3, (Option.some Jvm.ClassFile.FieldType.int))
def M_C_mirror : MT := (⟨"ShareStore$Coder", "mirror", "(III)V"⟩, prog_2_method_4_code, 4, (Option.none : Option Jvm.ClassFile.FieldType))
def M_S_fillShadows : MT := (⟨"ShareStore", "fillShadows", "(II)V"⟩, prog_1_method_45_code, 5, (Option.none : Option Jvm.ClassFile.FieldType))
def M_H_placeOf : MT := (⟨"ShareStore$Holding", "placeOf", "(I)I"⟩, prog_4_method_2_code, 2, (Option.some Jvm.ClassFile.FieldType.int))
def M_C_share : MT := (⟨"ShareStore$Coder", "share", "(I[I)V"⟩, prog_2_method_8_code, 6, (Option.none : Option Jvm.ClassFile.FieldType))
def M_N_write : MT := (⟨"ShareStore$Node", "write", "(I[I)V"⟩, prog_5_method_11_code, 4, (Option.none : Option Jvm.ClassFile.FieldType))
def M_S_sendFlips : MT := (⟨"ShareStore", "sendFlips", "(II)V"⟩, prog_1_method_46_code, 5, (Option.none : Option Jvm.ClassFile.FieldType))
def M_N_flip : MT := (⟨"ShareStore$Node", "flip", "(I)V"⟩, prog_5_method_6_code, 3, (Option.none : Option Jvm.ClassFile.FieldType))
def M_N_giveUp : MT := (⟨"ShareStore$Node", "giveUp", "(LShareStore$Holding;)V"⟩, prog_5_method_5_code, 4, (Option.none : Option Jvm.ClassFile.FieldType))
def M_S_remove : MT := (⟨"ShareStore", "remove", "(I)I"⟩, prog_1_method_8_code, 2, (Option.some Jvm.ClassFile.FieldType.int))
def M_S_settle : MT := (⟨"ShareStore", "settle", "(I)I"⟩, prog_1_method_9_code, 5, (Option.some Jvm.ClassFile.FieldType.int))
def M_S_someNodeRecords : MT := (⟨"ShareStore", "someNodeRecords", "(II)Z"⟩, prog_1_method_40_code, 4, (Option.some Jvm.ClassFile.FieldType.boolean))
def M_S_get : MT := (⟨"ShareStore", "get", "(II)I"⟩, prog_1_method_10_code, 4, (Option.some Jvm.ClassFile.FieldType.int))
def M_S_chooseLeastNumbers : MT := (⟨"ShareStore", "chooseLeastNumbers", "(II)I"⟩, prog_1_method_47_code, 6, (Option.some Jvm.ClassFile.FieldType.int))
def M_S_newestOf : MT := (⟨"ShareStore", "newestOf", "(I)I"⟩, prog_1_method_36_code, 5, (Option.some Jvm.ClassFile.FieldType.int))
def M_S_liveHolders : MT := (⟨"ShareStore", "liveHolders", "(II)I"⟩, prog_1_method_37_code, 5, (Option.some Jvm.ClassFile.FieldType.int))
def M_S_isFresh : MT := (⟨"ShareStore", "isFresh", "(III)Z"⟩, prog_1_method_38_code, 4, (Option.some Jvm.ClassFile.FieldType.boolean))
def M_S_isTold : MT := (⟨"ShareStore", "isTold", "(II)Z"⟩, prog_1_method_31_code, 2, (Option.some Jvm.ClassFile.FieldType.boolean))
def M_S_newestBytes : MT := (⟨"ShareStore", "newestBytes", "(I)I"⟩, prog_1_method_39_code, 4, (Option.some Jvm.ClassFile.FieldType.int))
def M_S_decode : MT := (⟨"ShareStore", "decode", "(II)V"⟩, prog_1_method_48_code, 6, (Option.none : Option Jvm.ClassFile.FieldType))
def M_C_invert : MT := (⟨"ShareStore$Coder", "invert", "([II)V"⟩, prog_2_method_9_code, 6, (Option.none : Option Jvm.ClassFile.FieldType))
def M_C_clearColumn : MT := (⟨"ShareStore$Coder", "clearColumn", "(II)V"⟩, prog_2_method_10_code, 6, (Option.none : Option Jvm.ClassFile.FieldType))
def M_N_read : MT := (⟨"ShareStore$Node", "read", "(I[I)V"⟩, prog_5_method_10_code, 4, (Option.none : Option Jvm.ClassFile.FieldType))
def M_N_byteAt : MT := (⟨"ShareStore$Node", "byteAt", "(II)I"⟩, prog_5_method_9_code, 3, (Option.some Jvm.ClassFile.FieldType.int))
def M_C_give : MT := (⟨"ShareStore$Coder", "give", "(I[I)V"⟩, prog_2_method_12_code, 3, (Option.none : Option Jvm.ClassFile.FieldType))
def M_C_solve : MT := (⟨"ShareStore$Coder", "solve", "([I)V"⟩, prog_2_method_13_code, 5, (Option.none : Option Jvm.ClassFile.FieldType))
def M_C_solveColumn : MT := (⟨"ShareStore$Coder", "solveColumn", "(I)V"⟩, prog_2_method_14_code, 5, (Option.none : Option Jvm.ClassFile.FieldType))
def M_C_unload : MT := (⟨"ShareStore$Coder", "unload", "([III)V"⟩, prog_2_method_6_code, 7, (Option.none : Option Jvm.ClassFile.FieldType))
def M_C_storeBefore : MT := (⟨"ShareStore$Coder", "storeBefore", "([IIII)V"⟩, prog_2_method_7_code, 4, (Option.none : Option Jvm.ClassFile.FieldType))
def M_S_got : MT := (⟨"ShareStore", "got", "(I)I"⟩, prog_1_method_11_code, 2, (Option.some Jvm.ClassFile.FieldType.int))
def M_S_version : MT := (⟨"ShareStore", "version", "(I)I"⟩, prog_1_method_12_code, 2, (Option.some Jvm.ClassFile.FieldType.int))
def M_S_open : MT := (⟨"ShareStore", "open", "(I)I"⟩, prog_1_method_13_code, 2, (Option.some Jvm.ClassFile.FieldType.int))
def M_S_fail : MT := (⟨"ShareStore", "fail", "(I)I"⟩, prog_1_method_14_code, 2, (Option.some Jvm.ClassFile.FieldType.int))
def M_S_back : MT := (⟨"ShareStore", "back", "(I)I"⟩, prog_1_method_15_code, 2, (Option.some Jvm.ClassFile.FieldType.int))
def M_N_giveUpShadows : MT := (⟨"ShareStore$Node", "giveUpShadows", "()I"⟩, prog_5_method_7_code, 3, (Option.some Jvm.ClassFile.FieldType.int))
def M_S_wipe : MT := (⟨"ShareStore", "wipe", "(I)I"⟩, prog_1_method_16_code, 3, (Option.some Jvm.ClassFile.FieldType.int))
def M_N_giveUpAll : MT := (⟨"ShareStore$Node", "giveUpAll", "()V"⟩, prog_5_method_8_code, 2, (Option.none : Option Jvm.ClassFile.FieldType))
def M_S_rebuild : MT := (⟨"ShareStore", "rebuild", "(II)I"⟩, prog_1_method_17_code, 5, (Option.some Jvm.ClassFile.FieldType.int))
def M_S_lacksHelpers : MT := (⟨"ShareStore", "lacksHelpers", "(II)Z"⟩, prog_1_method_50_code, 4, (Option.some Jvm.ClassFile.FieldType.boolean))
def M_S_isStale : MT := (⟨"ShareStore", "isStale", "(II)Z"⟩, prog_1_method_49_code, 4, (Option.some Jvm.ClassFile.FieldType.boolean))
def M_S_chooseLeastSent : MT := (⟨"ShareStore", "chooseLeastSent", "(III)I"⟩, prog_1_method_53_code, 9, (Option.some Jvm.ClassFile.FieldType.int))
def M_S_lacksRoom : MT := (⟨"ShareStore", "lacksRoom", "(I)Z"⟩, prog_1_method_51_code, 4, (Option.some Jvm.ClassFile.FieldType.boolean))
def M_S_renew : MT := (⟨"ShareStore", "renew", "(III)V"⟩, prog_1_method_52_code, 7, (Option.none : Option Jvm.ClassFile.FieldType))
def M_S_repair : MT := (⟨"ShareStore", "repair", "(III)V"⟩, prog_1_method_54_code, 7, (Option.none : Option Jvm.ClassFile.FieldType))
def M_S_symbolFrom : MT := (⟨"ShareStore", "symbolFrom", "(LShareStore$Node;II)I"⟩, prog_1_method_55_code, 6, (Option.some Jvm.ClassFile.FieldType.int))
def M_C_multiplyByInverse : MT := (⟨"ShareStore$Coder", "multiplyByInverse", "([I)V"⟩, prog_2_method_11_code, 5, (Option.none : Option Jvm.ClassFile.FieldType))
def M_S_fresh : MT := (⟨"ShareStore", "fresh", "(II)I"⟩, prog_1_method_18_code, 3, (Option.some Jvm.ClassFile.FieldType.int))
def M_S_sent : MT := (⟨"ShareStore", "sent", "(I)I"⟩, prog_1_method_19_code, 2, (Option.some Jvm.ClassFile.FieldType.int))
def M_S_free : MT := (⟨"ShareStore", "free", "(I)I"⟩, prog_1_method_20_code, 2, (Option.some Jvm.ClassFile.FieldType.int))
def M_S_record : MT := (⟨"ShareStore", "record", "(III)I"⟩, prog_1_method_21_code, 4, (Option.some Jvm.ClassFile.FieldType.int))
def M_S_recordNumber : MT := (⟨"ShareStore", "recordNumber", "(LShareStore$Node;II)I"⟩, prog_1_method_41_code, 6, (Option.some Jvm.ClassFile.FieldType.int))
def M_S_block : MT := (⟨"ShareStore", "block", "(IIIZ)I"⟩, prog_1_method_22_code, 5, (Option.some Jvm.ClassFile.FieldType.int))
def M_S_byteOf : MT := (⟨"ShareStore", "byteOf", "(III)I"⟩, prog_1_method_23_code, 4, (Option.some Jvm.ClassFile.FieldType.int))
def M_S_symbol : MT := (⟨"ShareStore", "symbol", "(IIII)I"⟩, prog_1_method_24_code, 6, (Option.some Jvm.ClassFile.FieldType.int))
def M_S_count : MT := (⟨"ShareStore", "count", "(I)I"⟩, prog_1_method_25_code, 2, (Option.some Jvm.ClassFile.FieldType.int))
def M_S_openObjects : MT := (⟨"ShareStore", "openObjects", "()I"⟩, prog_1_method_34_code, 3, (Option.some Jvm.ClassFile.FieldType.int))
def M_S_digest : MT := (⟨"ShareStore", "digest", "()J"⟩, prog_1_method_26_code, 6, (Option.some Jvm.ClassFile.FieldType.long))
def M_S_digestOfRecord : MT := (⟨"ShareStore", "digestOfRecord", "(JLShareStore$Node;I)J"⟩, prog_1_method_42_code, 10, (Option.some Jvm.ClassFile.FieldType.long))
def M_S_clear : MT := (⟨"ShareStore", "clear", "()I"⟩, prog_1_method_27_code, 3, (Option.some Jvm.ClassFile.FieldType.int))
def M_M_init : MT := (⟨"ShareStoreModel", "<init>", "()V"⟩, prog_7_method_1_code, 1, (Option.none : Option Jvm.ClassFile.FieldType))
def M_M_times : MT := (⟨"ShareStoreModel", "times", "(II)I"⟩, prog_7_method_8_code, 3, (Option.some Jvm.ClassFile.FieldType.int))
def M_M_in : MT := (⟨"ShareStoreModel", "in", "(III)Z"⟩, prog_7_method_3_code, 3, (Option.some Jvm.ClassFile.FieldType.boolean))
def M_M_product : MT := (⟨"ShareStoreModel", "product", "(II)I"⟩, prog_7_method_6_code, 5, (Option.some Jvm.ClassFile.FieldType.int))
def M_M_over : MT := (⟨"ShareStoreModel", "over", "(II)I"⟩, prog_7_method_9_code, 3, (Option.some Jvm.ClassFile.FieldType.int))
def M_M_inverse : MT := (⟨"ShareStoreModel", "inverse", "(I)I"⟩, prog_7_method_7_code, 3, (Option.some Jvm.ClassFile.FieldType.int))
def M_M_rowAt : MT := (⟨"ShareStoreModel", "rowAt", "(II)I"⟩, prog_7_method_11_code, 3, (Option.some Jvm.ClassFile.FieldType.int))
def M_M_isNode : MT := (⟨"ShareStoreModel", "isNode", "(I)Z"⟩, prog_7_method_4_code, 1, (Option.some Jvm.ClassFile.FieldType.boolean))
def M_M_row : MT := (⟨"ShareStoreModel", "row", "(II)I"⟩, prog_7_method_10_code, 4, (Option.some Jvm.ClassFile.FieldType.int))
def M_M_feed : MT := (⟨"ShareStoreModel", "feed", "(JI)I"⟩, prog_7_method_28_code, 5, (Option.some Jvm.ClassFile.FieldType.int))
def M_M_cut : MT := (⟨"ShareStoreModel", "cut", "(I)I"⟩, prog_7_method_29_code, 2, (Option.some Jvm.ClassFile.FieldType.int))
def M_M_put : MT := (⟨"ShareStoreModel", "put", "(I)I"⟩, prog_7_method_31_code, 4, (Option.some Jvm.ClassFile.FieldType.int))
def M_M_refused : MT := (⟨"ShareStoreModel", "refused", "(I)I"⟩, prog_7_method_30_code, 2, (Option.some Jvm.ClassFile.FieldType.int))
def M_M_isObject : MT := (⟨"ShareStoreModel", "isObject", "(I)Z"⟩, prog_7_method_5_code, 1, (Option.some Jvm.ClassFile.FieldType.boolean))
def M_M_live : MT := (⟨"ShareStoreModel", "live", "()I"⟩, prog_7_method_24_code, 3, (Option.some Jvm.ClassFile.FieldType.int))
def M_M_usedBy : MT := (⟨"ShareStoreModel", "usedBy", "(I)I"⟩, prog_7_method_15_code, 4, (Option.some Jvm.ClassFile.FieldType.int))
def M_M_stripes : MT := (⟨"ShareStoreModel", "stripes", "(I)I"⟩, prog_7_method_14_code, 1, (Option.some Jvm.ClassFile.FieldType.int))
def M_M_goes : MT := (⟨"ShareStoreModel", "goes", "(I)I"⟩, prog_7_method_27_code, 6, (Option.some Jvm.ClassFile.FieldType.int))
def M_M_givesUp : MT := (⟨"ShareStoreModel", "givesUp", "(IIZ)V"⟩, prog_7_method_17_code, 6, (Option.none : Option Jvm.ClassFile.FieldType))
def M_M_at : MT := (⟨"ShareStoreModel", "at", "(IIZ)I"⟩, prog_7_method_13_code, 3, (Option.some Jvm.ClassFile.FieldType.int))
def M_M_takes : MT := (⟨"ShareStoreModel", "takes", "(IIZII)V"⟩, prog_7_method_18_code, 9, (Option.none : Option Jvm.ClassFile.FieldType))
def M_M_leastFree : MT := (⟨"ShareStoreModel", "leastFree", "(I)I"⟩, prog_7_method_16_code, 3, (Option.some Jvm.ClassFile.FieldType.int))
def M_M_shares : MT := (⟨"ShareStoreModel", "shares", "(II)V"⟩, prog_7_method_26_code, 8, (Option.none : Option Jvm.ClassFile.FieldType))
def M_M_matrix : MT := (⟨"ShareStoreModel", "matrix", "(III)I"⟩, prog_7_method_25_code, 8, (Option.some Jvm.ClassFile.FieldType.int))
def M_M_byteAt : MT := (⟨"ShareStoreModel", "byteAt", "(IIII)I"⟩, prog_7_method_20_code, 5, (Option.some Jvm.ClassFile.FieldType.int))
def M_M_flips : MT := (⟨"ShareStoreModel", "flips", "(II)V"⟩, prog_7_method_19_code, 6, (Option.none : Option Jvm.ClassFile.FieldType))
def M_M_remove : MT := (⟨"ShareStoreModel", "remove", "(I)I"⟩, prog_7_method_32_code, 5, (Option.some Jvm.ClassFile.FieldType.int))
def M_M_settle : MT := (⟨"ShareStoreModel", "settle", "(I)I"⟩, prog_7_method_33_code, 5, (Option.some Jvm.ClassFile.FieldType.int))
def M_M_get : MT := (⟨"ShareStoreModel", "get", "(II)I"⟩, prog_7_method_36_code, 6, (Option.some Jvm.ClassFile.FieldType.int))
def M_M_newest : MT := (⟨"ShareStoreModel", "newest", "(I)I"⟩, prog_7_method_21_code, 8, (Option.some Jvm.ClassFile.FieldType.int))
def M_M_choose : MT := (⟨"ShareStoreModel", "choose", "(IIII)I"⟩, prog_7_method_34_code, 7, (Option.some Jvm.ClassFile.FieldType.int))
def M_M_isFresh : MT := (⟨"ShareStoreModel", "isFresh", "(III)Z"⟩, prog_7_method_22_code, 5, (Option.some Jvm.ClassFile.FieldType.boolean))
def M_M_sizeOf : MT := (⟨"ShareStoreModel", "sizeOf", "(II)I"⟩, prog_7_method_23_code, 4, (Option.some Jvm.ClassFile.FieldType.int))
def M_M_getStripe : MT := (⟨"ShareStoreModel", "getStripe", "(II)V"⟩, prog_7_method_35_code, 8, (Option.none : Option Jvm.ClassFile.FieldType))
def M_M_solve : MT := (⟨"ShareStoreModel", "solve", "(II)V"⟩, prog_7_method_12_code, 9, (Option.none : Option Jvm.ClassFile.FieldType))
def M_M_got : MT := (⟨"ShareStoreModel", "got", "(I)I"⟩, prog_7_method_37_code, 2, (Option.some Jvm.ClassFile.FieldType.int))
def M_M_version : MT := (⟨"ShareStoreModel", "version", "(I)I"⟩, prog_7_method_38_code, 2, (Option.some Jvm.ClassFile.FieldType.int))
def M_M_open : MT := (⟨"ShareStoreModel", "open", "(I)I"⟩, prog_7_method_39_code, 2, (Option.some Jvm.ClassFile.FieldType.int))
def M_M_fail : MT := (⟨"ShareStoreModel", "fail", "(I)I"⟩, prog_7_method_40_code, 2, (Option.some Jvm.ClassFile.FieldType.int))
def M_M_back : MT := (⟨"ShareStoreModel", "back", "(I)I"⟩, prog_7_method_41_code, 4, (Option.some Jvm.ClassFile.FieldType.int))
def M_M_wipe : MT := (⟨"ShareStoreModel", "wipe", "(I)I"⟩, prog_7_method_42_code, 4, (Option.some Jvm.ClassFile.FieldType.int))
def M_M_rebuild : MT := (⟨"ShareStoreModel", "rebuild", "(II)I"⟩, prog_7_method_47_code, 10, (Option.some Jvm.ClassFile.FieldType.int))
def M_M_wants : MT := (⟨"ShareStoreModel", "wants", "(II)Z"⟩, prog_7_method_43_code, 4, (Option.some Jvm.ClassFile.FieldType.boolean))
def M_M_rebuilds : MT := (⟨"ShareStoreModel", "rebuilds", "(III)I"⟩, prog_7_method_46_code, 10, (Option.some Jvm.ClassFile.FieldType.int))
def M_M_chooseLeast : MT := (⟨"ShareStoreModel", "chooseLeast", "(III)V"⟩, prog_7_method_45_code, 8, (Option.none : Option Jvm.ClassFile.FieldType))
def M_M_symbolOf : MT := (⟨"ShareStoreModel", "symbolOf", "(IIII)I"⟩, prog_7_method_44_code, 7, (Option.some Jvm.ClassFile.FieldType.int))
def M_M_fresh : MT := (⟨"ShareStoreModel", "fresh", "(II)I"⟩, prog_7_method_48_code, 3, (Option.some Jvm.ClassFile.FieldType.int))
def M_M_sent : MT := (⟨"ShareStoreModel", "sent", "(I)I"⟩, prog_7_method_49_code, 2, (Option.some Jvm.ClassFile.FieldType.int))
def M_M_free : MT := (⟨"ShareStoreModel", "free", "(I)I"⟩, prog_7_method_50_code, 2, (Option.some Jvm.ClassFile.FieldType.int))
def M_M_record : MT := (⟨"ShareStoreModel", "record", "(III)I"⟩, prog_7_method_51_code, 6, (Option.some Jvm.ClassFile.FieldType.int))
def M_M_block : MT := (⟨"ShareStoreModel", "block", "(IIIZ)I"⟩, prog_7_method_52_code, 6, (Option.some Jvm.ClassFile.FieldType.int))
def M_M_byteOf : MT := (⟨"ShareStoreModel", "byteOf", "(III)I"⟩, prog_7_method_53_code, 4, (Option.some Jvm.ClassFile.FieldType.int))
def M_M_symbol : MT := (⟨"ShareStoreModel", "symbol", "(IIII)I"⟩, prog_7_method_54_code, 6, (Option.some Jvm.ClassFile.FieldType.int))
def M_M_count : MT := (⟨"ShareStoreModel", "count", "(I)I"⟩, prog_7_method_55_code, 4, (Option.some Jvm.ClassFile.FieldType.int))
def M_M_digest : MT := (⟨"ShareStoreModel", "digest", "()J"⟩, prog_7_method_56_code, 8, (Option.some Jvm.ClassFile.FieldType.long))
def M_M_clear : MT := (⟨"ShareStoreModel", "clear", "()I"⟩, prog_7_method_57_code, 3, (Option.some Jvm.ClassFile.FieldType.int))
def tblG : List Cond := lw_tbl.filter goodWord
theorem tblG_sub : ∀ w ∈ tblG, w ∈ lw_tbl := fun w hw => (List.mem_filter.mp hw).1
theorem gi_tbl : GoodIn tblG tblG := fun w hw => ⟨hw, good_of_word (List.mem_filter.mp hw).2⟩
theorem gi_cons {w : Cond} {ws : List Cond} (hw : w ∈ tblG) (h : GoodIn tblG ws) : GoodIn tblG (w :: ws) := fun x hx => (List.mem_cons.mp hx).elim (fun e => by rw [e]; exact gi_tbl w hw) (h x)
theorem wm_in {w : Cond} {i : Nat} (h : lw_tbl[i]? = some w) (hg : goodWord w = true) : w ∈ tblG := List.mem_filter.mpr ⟨List.mem_of_getElem? h, hg⟩
def SPW : List Cond := [(Jvm.Cond.arrayOver (Jvm.ClassFile.FieldType.array Jvm.ClassFile.FieldType.int)), (Jvm.Cond.fieldLinkNest "ShareStore" (63 : Nat) "ShareStore$Coder" "field" "LShareStore$Field;" "ShareStore"), (Jvm.Cond.arrayOver (Jvm.ClassFile.FieldType.object "ShareStore$Node")), (Jvm.Cond.arrayOver (Jvm.ClassFile.FieldType.object "ShareStore$Holding")), (Jvm.Cond.methodLinkNest "ShareStore$Node" (36 : Nat) ({ cls := "ShareStore$Holding", name := "<init>", desc := "()V" } : Jvm.MethodName) "ShareStore"), (Jvm.Cond.fieldLinkNest "ShareStore$Node" (56 : Nat) "ShareStore$Holding" "places" "[I" "ShareStore"), (Jvm.Cond.fieldLinkNest "ShareStore$Node" (37 : Nat) "ShareStore$Holding" "version" "I" "ShareStore"), (Jvm.Cond.fieldLinkNest "ShareStore" (111 : Nat) "ShareStore$Holding" "version" "I" "ShareStore"), (Jvm.Cond.fieldLinkNest "ShareStore$Node" (40 : Nat) "ShareStore$Holding" "bytes" "I" "ShareStore"), (Jvm.Cond.fieldLinkNest "ShareStore" (201 : Nat) "ShareStore$Holding" "bytes" "I" "ShareStore"), (Jvm.Cond.fieldLinkNest "ShareStore$Node" (53 : Nat) "ShareStore$Holding" "stripes" "I" "ShareStore"), (Jvm.Cond.fieldLinkNest "ShareStore" (204 : Nat) "ShareStore$Holding" "stripes" "I" "ShareStore"), (Jvm.Cond.fieldLinkNest "ShareStore" (173 : Nat) "ShareStore$Node" "records" "[LShareStore$Holding;" "ShareStore"), (Jvm.Cond.fieldLinkNest "ShareStore" (107 : Nat) "ShareStore$Node" "shadows" "[LShareStore$Holding;" "ShareStore"), (Jvm.Cond.fieldLinkNest "ShareStore" (103 : Nat) "ShareStore$Node" "live" "Z" "ShareStore"), (Jvm.Cond.fieldLinkNest "ShareStore" (163 : Nat) "ShareStore$Node" "symbolsSent" "I" "ShareStore"), (Jvm.Cond.methodLinkNest "ShareStore$Coder" (43 : Nat) ({ cls := "ShareStore", name := "isNode", desc := "(I)Z" } : Jvm.MethodName) "ShareStore"), (Jvm.Cond.methodLinkNest "ShareStore$Node" (43 : Nat) ({ cls := "ShareStore", name := "stripesOf", desc := "(I)I" } : Jvm.MethodName) "ShareStore")]
theorem spw_sub : ∀ w ∈ SPW, w ∈ lw_tbl := by decide +kernel
theorem iw_C : ∀ w ∈ u_ws R_C T_C 7, w ∈ tblG := by decide +kernel
theorem iw_F : ∀ w ∈ u_ws R_F T_F 2, w ∈ tblG := by decide +kernel
theorem iw_H : ∀ w ∈ u_ws R_H T_H 4, w ∈ tblG := by decide +kernel
theorem iw_N : ∀ w ∈ u_ws R_N T_N 6, w ∈ tblG := by decide +kernel
theorem iw_S : ∀ w ∈ u_ws R_S T_S 13, w ∈ tblG := by decide +kernel
theorem iw_M : ∀ w ∈ u_ws R_M T_M 20, w ∈ tblG := by decide +kernel
