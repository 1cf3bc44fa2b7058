section
-- ===== PART A: goes FIRST, ahead of the names: the tables' words, and 'selects' of the private methods out of them =====
/-- a private method of a class that the tables say can be made, by its rows of tables_1 -/
def lw_okq (q : MethodName × Nat) : Prop := (q.1.cls ≠ "java/lang/invoke/MethodHandle" ∧ q.1.cls ≠ "java/lang/invoke/VarHandle") ∧ Cond.instantiable q.1.cls q.2 ∈ tables_1 ∧ Cond.privateMethod q.1 ∈ tables_1 ∧ Cond.instanceMethod q.1 ∈ tables_1
theorem lw_p0 : lw_okq (⟨"ShareStore", "liveNodes", "()I"⟩, 13) := ⟨⟨by decide +kernel, by decide +kernel⟩, List.mem_of_getElem? (i := 10) (by decide +kernel), List.mem_of_getElem? (i := 208) (by decide +kernel), List.mem_of_getElem? (i := 209) (by decide +kernel)⟩
theorem lw_p1 : lw_okq (⟨"ShareStore", "leastFreeOfLive", "()I"⟩, 13) := ⟨⟨by decide +kernel, by decide +kernel⟩, List.mem_of_getElem? (i := 10) (by decide +kernel), List.mem_of_getElem? (i := 212) (by decide +kernel), List.mem_of_getElem? (i := 213) (by decide +kernel)⟩
theorem lw_p2 : lw_okq (⟨"ShareStore", "begin", "(II)I"⟩, 13) := ⟨⟨by decide +kernel, by decide +kernel⟩, List.mem_of_getElem? (i := 10) (by decide +kernel), List.mem_of_getElem? (i := 226) (by decide +kernel), List.mem_of_getElem? (i := 227) (by decide +kernel)⟩
theorem lw_p3 : lw_okq (⟨"ShareStore", "sendShadows", "(III)V"⟩, 13) := ⟨⟨by decide +kernel, by decide +kernel⟩, List.mem_of_getElem? (i := 10) (by decide +kernel), List.mem_of_getElem? (i := 230) (by decide +kernel), List.mem_of_getElem? (i := 231) (by decide +kernel)⟩
theorem lw_p4 : lw_okq (⟨"ShareStore$Node", "takeLeastFree", "()I"⟩, 6) := ⟨⟨by decide +kernel, by decide +kernel⟩, List.mem_of_getElem? (i := 68) (by decide +kernel), List.mem_of_getElem? (i := 240) (by decide +kernel), List.mem_of_getElem? (i := 241) (by decide +kernel)⟩
theorem lw_p5 : lw_okq (⟨"ShareStore$Coder", "mirror", "(III)V"⟩, 7) := ⟨⟨by decide +kernel, by decide +kernel⟩, List.mem_of_getElem? (i := 18) (by decide +kernel), List.mem_of_getElem? (i := 251) (by decide +kernel), List.mem_of_getElem? (i := 252) (by decide +kernel)⟩
theorem lw_p6 : lw_okq (⟨"ShareStore", "fillShadows", "(III)V"⟩, 13) := ⟨⟨by decide +kernel, by decide +kernel⟩, List.mem_of_getElem? (i := 10) (by decide +kernel), List.mem_of_getElem? (i := 255) (by decide +kernel), List.mem_of_getElem? (i := 256) (by decide +kernel)⟩
theorem lw_p7 : lw_okq (⟨"ShareStore", "sendFlips", "(II)V"⟩, 13) := ⟨⟨by decide +kernel, by decide +kernel⟩, List.mem_of_getElem? (i := 10) (by decide +kernel), List.mem_of_getElem? (i := 272) (by decide +kernel), List.mem_of_getElem? (i := 273) (by decide +kernel)⟩
theorem lw_p8 : lw_okq (⟨"ShareStore", "someNodeRecords", "(II)Z"⟩, 13) := ⟨⟨by decide +kernel, by decide +kernel⟩, List.mem_of_getElem? (i := 10) (by decide +kernel), List.mem_of_getElem? (i := 293) (by decide +kernel), List.mem_of_getElem? (i := 294) (by decide +kernel)⟩
theorem lw_p9 : lw_okq (⟨"ShareStore", "chooseLeastNumbers", "(II)I"⟩, 13) := ⟨⟨by decide +kernel, by decide +kernel⟩, List.mem_of_getElem? (i := 10) (by decide +kernel), List.mem_of_getElem? (i := 302) (by decide +kernel), List.mem_of_getElem? (i := 303) (by decide +kernel)⟩
theorem lw_p10 : lw_okq (⟨"ShareStore", "newestOf", "(I)I"⟩, 13) := ⟨⟨by decide +kernel, by decide +kernel⟩, List.mem_of_getElem? (i := 10) (by decide +kernel), List.mem_of_getElem? (i := 306) (by decide +kernel), List.mem_of_getElem? (i := 307) (by decide +kernel)⟩
theorem lw_p11 : lw_okq (⟨"ShareStore", "liveHolders", "(II)I"⟩, 13) := ⟨⟨by decide +kernel, by decide +kernel⟩, List.mem_of_getElem? (i := 10) (by decide +kernel), List.mem_of_getElem? (i := 310) (by decide +kernel), List.mem_of_getElem? (i := 311) (by decide +kernel)⟩
theorem lw_p12 : lw_okq (⟨"ShareStore", "isFresh", "(III)Z"⟩, 13) := ⟨⟨by decide +kernel, by decide +kernel⟩, List.mem_of_getElem? (i := 10) (by decide +kernel), List.mem_of_getElem? (i := 314) (by decide +kernel), List.mem_of_getElem? (i := 315) (by decide +kernel)⟩
theorem lw_p13 : lw_okq (⟨"ShareStore", "newestBytes", "(I)I"⟩, 13) := ⟨⟨by decide +kernel, by decide +kernel⟩, List.mem_of_getElem? (i := 10) (by decide +kernel), List.mem_of_getElem? (i := 321) (by decide +kernel), List.mem_of_getElem? (i := 322) (by decide +kernel)⟩
theorem lw_p14 : lw_okq (⟨"ShareStore", "decode", "(II)V"⟩, 13) := ⟨⟨by decide +kernel, by decide +kernel⟩, List.mem_of_getElem? (i := 10) (by decide +kernel), List.mem_of_getElem? (i := 325) (by decide +kernel), List.mem_of_getElem? (i := 326) (by decide +kernel)⟩
theorem lw_p15 : lw_okq (⟨"ShareStore$Coder", "clearColumn", "(II)V"⟩, 7) := ⟨⟨by decide +kernel, by decide +kernel⟩, List.mem_of_getElem? (i := 18) (by decide +kernel), List.mem_of_getElem? (i := 334) (by decide +kernel), List.mem_of_getElem? (i := 335) (by decide +kernel)⟩
def lw_privs_1 : List (MethodName × Nat) := [(⟨"ShareStore", "liveNodes", "()I"⟩, 13), (⟨"ShareStore", "leastFreeOfLive", "()I"⟩, 13), (⟨"ShareStore", "begin", "(II)I"⟩, 13), (⟨"ShareStore", "sendShadows", "(III)V"⟩, 13), (⟨"ShareStore$Node", "takeLeastFree", "()I"⟩, 6), (⟨"ShareStore$Coder", "mirror", "(III)V"⟩, 7), (⟨"ShareStore", "fillShadows", "(III)V"⟩, 13), (⟨"ShareStore", "sendFlips", "(II)V"⟩, 13), (⟨"ShareStore", "someNodeRecords", "(II)Z"⟩, 13), (⟨"ShareStore", "chooseLeastNumbers", "(II)I"⟩, 13), (⟨"ShareStore", "newestOf", "(I)I"⟩, 13), (⟨"ShareStore", "liveHolders", "(II)I"⟩, 13), (⟨"ShareStore", "isFresh", "(III)Z"⟩, 13), (⟨"ShareStore", "newestBytes", "(I)I"⟩, 13), (⟨"ShareStore", "decode", "(II)V"⟩, 13), (⟨"ShareStore$Coder", "clearColumn", "(II)V"⟩, 7)]
theorem lw_r1 : ∀ q ∈ lw_privs_1, lw_okq q := List.forall_mem_cons.mpr ⟨lw_p0, List.forall_mem_cons.mpr ⟨lw_p1, List.forall_mem_cons.mpr ⟨lw_p2, List.forall_mem_cons.mpr ⟨lw_p3, List.forall_mem_cons.mpr ⟨lw_p4, List.forall_mem_cons.mpr ⟨lw_p5, List.forall_mem_cons.mpr ⟨lw_p6, List.forall_mem_cons.mpr ⟨lw_p7, List.forall_mem_cons.mpr ⟨lw_p8, List.forall_mem_cons.mpr ⟨lw_p9, List.forall_mem_cons.mpr ⟨lw_p10, List.forall_mem_cons.mpr ⟨lw_p11, List.forall_mem_cons.mpr ⟨lw_p12, List.forall_mem_cons.mpr ⟨lw_p13, List.forall_mem_cons.mpr ⟨lw_p14, List.forall_mem_cons.mpr ⟨lw_p15, fun _ h => absurd h List.not_mem_nil⟩⟩⟩⟩⟩⟩⟩⟩⟩⟩⟩⟩⟩⟩⟩⟩
theorem lw_p16 : lw_okq (⟨"ShareStore$Coder", "solveColumn", "(I)V"⟩, 7) := ⟨⟨by decide +kernel, by decide +kernel⟩, List.mem_of_getElem? (i := 18) (by decide +kernel), List.mem_of_getElem? (i := 357) (by decide +kernel), List.mem_of_getElem? (i := 358) (by decide +kernel)⟩
theorem lw_p17 : lw_okq (⟨"ShareStore", "lacksHelpers", "(II)Z"⟩, 13) := ⟨⟨by decide +kernel, by decide +kernel⟩, List.mem_of_getElem? (i := 10) (by decide +kernel), List.mem_of_getElem? (i := 405) (by decide +kernel), List.mem_of_getElem? (i := 406) (by decide +kernel)⟩
theorem lw_p18 : lw_okq (⟨"ShareStore", "isStale", "(II)Z"⟩, 13) := ⟨⟨by decide +kernel, by decide +kernel⟩, List.mem_of_getElem? (i := 10) (by decide +kernel), List.mem_of_getElem? (i := 409) (by decide +kernel), List.mem_of_getElem? (i := 410) (by decide +kernel)⟩
theorem lw_p19 : lw_okq (⟨"ShareStore", "chooseLeastSent", "(III)I"⟩, 13) := ⟨⟨by decide +kernel, by decide +kernel⟩, List.mem_of_getElem? (i := 10) (by decide +kernel), List.mem_of_getElem? (i := 413) (by decide +kernel), List.mem_of_getElem? (i := 414) (by decide +kernel)⟩
theorem lw_p20 : lw_okq (⟨"ShareStore", "lacksRoom", "(I)Z"⟩, 13) := ⟨⟨by decide +kernel, by decide +kernel⟩, List.mem_of_getElem? (i := 10) (by decide +kernel), List.mem_of_getElem? (i := 417) (by decide +kernel), List.mem_of_getElem? (i := 418) (by decide +kernel)⟩
theorem lw_p21 : lw_okq (⟨"ShareStore", "renew", "(III)V"⟩, 13) := ⟨⟨by decide +kernel, by decide +kernel⟩, List.mem_of_getElem? (i := 10) (by decide +kernel), List.mem_of_getElem? (i := 421) (by decide +kernel), List.mem_of_getElem? (i := 422) (by decide +kernel)⟩
theorem lw_p22 : lw_okq (⟨"ShareStore", "repair", "(III)V"⟩, 13) := ⟨⟨by decide +kernel, by decide +kernel⟩, List.mem_of_getElem? (i := 10) (by decide +kernel), List.mem_of_getElem? (i := 425) (by decide +kernel), List.mem_of_getElem? (i := 426) (by decide +kernel)⟩
theorem lw_p23 : lw_okq (⟨"ShareStore", "symbolFrom", "(LShareStore$Node;II)I"⟩, 13) := ⟨⟨by decide +kernel, by decide +kernel⟩, List.mem_of_getElem? (i := 10) (by decide +kernel), List.mem_of_getElem? (i := 429) (by decide +kernel), List.mem_of_getElem? (i := 430) (by decide +kernel)⟩
theorem lw_p24 : lw_okq (⟨"ShareStore", "openObjects", "()I"⟩, 13) := ⟨⟨by decide +kernel, by decide +kernel⟩, List.mem_of_getElem? (i := 10) (by decide +kernel), List.mem_of_getElem? (i := 473) (by decide +kernel), List.mem_of_getElem? (i := 474) (by decide +kernel)⟩
theorem lw_p25 : lw_okq (⟨"ShareStoreModel", "refused", "(I)I"⟩, 20) := ⟨⟨by decide +kernel, by decide +kernel⟩, List.mem_of_getElem? (i := 490) (by decide +kernel), List.mem_of_getElem? (i := 596) (by decide +kernel), List.mem_of_getElem? (i := 597) (by decide +kernel)⟩
theorem lw_p26 : lw_okq (⟨"ShareStoreModel", "live", "()I"⟩, 20) := ⟨⟨by decide +kernel, by decide +kernel⟩, List.mem_of_getElem? (i := 490) (by decide +kernel), List.mem_of_getElem? (i := 603) (by decide +kernel), List.mem_of_getElem? (i := 604) (by decide +kernel)⟩
theorem lw_p27 : lw_okq (⟨"ShareStoreModel", "usedBy", "(I)I"⟩, 20) := ⟨⟨by decide +kernel, by decide +kernel⟩, List.mem_of_getElem? (i := 490) (by decide +kernel), List.mem_of_getElem? (i := 607) (by decide +kernel), List.mem_of_getElem? (i := 608) (by decide +kernel)⟩
theorem lw_p28 : lw_okq (⟨"ShareStoreModel", "goes", "(I)I"⟩, 20) := ⟨⟨by decide +kernel, by decide +kernel⟩, List.mem_of_getElem? (i := 490) (by decide +kernel), List.mem_of_getElem? (i := 614) (by decide +kernel), List.mem_of_getElem? (i := 615) (by decide +kernel)⟩
theorem lw_p29 : lw_okq (⟨"ShareStoreModel", "givesUp", "(IIZ)V"⟩, 20) := ⟨⟨by decide +kernel, by decide +kernel⟩, List.mem_of_getElem? (i := 490) (by decide +kernel), List.mem_of_getElem? (i := 618) (by decide +kernel), List.mem_of_getElem? (i := 619) (by decide +kernel)⟩
theorem lw_p30 : lw_okq (⟨"ShareStoreModel", "takes", "(IIZII)V"⟩, 20) := ⟨⟨by decide +kernel, by decide +kernel⟩, List.mem_of_getElem? (i := 490) (by decide +kernel), List.mem_of_getElem? (i := 625) (by decide +kernel), List.mem_of_getElem? (i := 626) (by decide +kernel)⟩
theorem lw_p31 : lw_okq (⟨"ShareStoreModel", "leastFree", "(I)I"⟩, 20) := ⟨⟨by decide +kernel, by decide +kernel⟩, List.mem_of_getElem? (i := 490) (by decide +kernel), List.mem_of_getElem? (i := 629) (by decide +kernel), List.mem_of_getElem? (i := 630) (by decide +kernel)⟩
def lw_privs_2 : List (MethodName × Nat) := [(⟨"ShareStore$Coder", "solveColumn", "(I)V"⟩, 7), (⟨"ShareStore", "lacksHelpers", "(II)Z"⟩, 13), (⟨"ShareStore", "isStale", "(II)Z"⟩, 13), (⟨"ShareStore", "chooseLeastSent", "(III)I"⟩, 13), (⟨"ShareStore", "lacksRoom", "(I)Z"⟩, 13), (⟨"ShareStore", "renew", "(III)V"⟩, 13), (⟨"ShareStore", "repair", "(III)V"⟩, 13), (⟨"ShareStore", "symbolFrom", "(LShareStore$Node;II)I"⟩, 13), (⟨"ShareStore", "openObjects", "()I"⟩, 13), (⟨"ShareStoreModel", "refused", "(I)I"⟩, 20), (⟨"ShareStoreModel", "live", "()I"⟩, 20), (⟨"ShareStoreModel", "usedBy", "(I)I"⟩, 20), (⟨"ShareStoreModel", "goes", "(I)I"⟩, 20), (⟨"ShareStoreModel", "givesUp", "(IIZ)V"⟩, 20), (⟨"ShareStoreModel", "takes", "(IIZII)V"⟩, 20), (⟨"ShareStoreModel", "leastFree", "(I)I"⟩, 20)]
theorem lw_r2 : ∀ q ∈ lw_privs_2, lw_okq q := List.forall_mem_cons.mpr ⟨lw_p16, List.forall_mem_cons.mpr ⟨lw_p17, List.forall_mem_cons.mpr ⟨lw_p18, List.forall_mem_cons.mpr ⟨lw_p19, List.forall_mem_cons.mpr ⟨lw_p20, List.forall_mem_cons.mpr ⟨lw_p21, List.forall_mem_cons.mpr ⟨lw_p22, List.forall_mem_cons.mpr ⟨lw_p23, List.forall_mem_cons.mpr ⟨lw_p24, List.forall_mem_cons.mpr ⟨lw_p25, List.forall_mem_cons.mpr ⟨lw_p26, List.forall_mem_cons.mpr ⟨lw_p27, List.forall_mem_cons.mpr ⟨lw_p28, List.forall_mem_cons.mpr ⟨lw_p29, List.forall_mem_cons.mpr ⟨lw_p30, List.forall_mem_cons.mpr ⟨lw_p31, fun _ h => absurd h List.not_mem_nil⟩⟩⟩⟩⟩⟩⟩⟩⟩⟩⟩⟩⟩⟩⟩⟩
theorem lw_p32 : lw_okq (⟨"ShareStoreModel", "shares", "(II)V"⟩, 20) := ⟨⟨by decide +kernel, by decide +kernel⟩, List.mem_of_getElem? (i := 490) (by decide +kernel), List.mem_of_getElem? (i := 633) (by decide +kernel), List.mem_of_getElem? (i := 634) (by decide +kernel)⟩
theorem lw_p33 : lw_okq (⟨"ShareStoreModel", "matrix", "(III)I"⟩, 20) := ⟨⟨by decide +kernel, by decide +kernel⟩, List.mem_of_getElem? (i := 490) (by decide +kernel), List.mem_of_getElem? (i := 637) (by decide +kernel), List.mem_of_getElem? (i := 638) (by decide +kernel)⟩
theorem lw_p34 : lw_okq (⟨"ShareStoreModel", "byteAt", "(IIII)I"⟩, 20) := ⟨⟨by decide +kernel, by decide +kernel⟩, List.mem_of_getElem? (i := 490) (by decide +kernel), List.mem_of_getElem? (i := 641) (by decide +kernel), List.mem_of_getElem? (i := 642) (by decide +kernel)⟩
theorem lw_p35 : lw_okq (⟨"ShareStoreModel", "flips", "(II)V"⟩, 20) := ⟨⟨by decide +kernel, by decide +kernel⟩, List.mem_of_getElem? (i := 490) (by decide +kernel), List.mem_of_getElem? (i := 645) (by decide +kernel), List.mem_of_getElem? (i := 646) (by decide +kernel)⟩
theorem lw_p36 : lw_okq (⟨"ShareStoreModel", "newest", "(I)I"⟩, 20) := ⟨⟨by decide +kernel, by decide +kernel⟩, List.mem_of_getElem? (i := 490) (by decide +kernel), List.mem_of_getElem? (i := 661) (by decide +kernel), List.mem_of_getElem? (i := 662) (by decide +kernel)⟩
theorem lw_p37 : lw_okq (⟨"ShareStoreModel", "choose", "(IIII)I"⟩, 20) := ⟨⟨by decide +kernel, by decide +kernel⟩, List.mem_of_getElem? (i := 490) (by decide +kernel), List.mem_of_getElem? (i := 665) (by decide +kernel), List.mem_of_getElem? (i := 666) (by decide +kernel)⟩
theorem lw_p38 : lw_okq (⟨"ShareStoreModel", "isFresh", "(III)Z"⟩, 20) := ⟨⟨by decide +kernel, by decide +kernel⟩, List.mem_of_getElem? (i := 490) (by decide +kernel), List.mem_of_getElem? (i := 669) (by decide +kernel), List.mem_of_getElem? (i := 670) (by decide +kernel)⟩
theorem lw_p39 : lw_okq (⟨"ShareStoreModel", "sizeOf", "(II)I"⟩, 20) := ⟨⟨by decide +kernel, by decide +kernel⟩, List.mem_of_getElem? (i := 490) (by decide +kernel), List.mem_of_getElem? (i := 673) (by decide +kernel), List.mem_of_getElem? (i := 674) (by decide +kernel)⟩
theorem lw_p40 : lw_okq (⟨"ShareStoreModel", "getStripe", "(II)V"⟩, 20) := ⟨⟨by decide +kernel, by decide +kernel⟩, List.mem_of_getElem? (i := 490) (by decide +kernel), List.mem_of_getElem? (i := 677) (by decide +kernel), List.mem_of_getElem? (i := 678) (by decide +kernel)⟩
theorem lw_p41 : lw_okq (⟨"ShareStoreModel", "solve", "(II)V"⟩, 20) := ⟨⟨by decide +kernel, by decide +kernel⟩, List.mem_of_getElem? (i := 490) (by decide +kernel), List.mem_of_getElem? (i := 681) (by decide +kernel), List.mem_of_getElem? (i := 682) (by decide +kernel)⟩
theorem lw_p42 : lw_okq (⟨"ShareStoreModel", "wants", "(II)Z"⟩, 20) := ⟨⟨by decide +kernel, by decide +kernel⟩, List.mem_of_getElem? (i := 490) (by decide +kernel), List.mem_of_getElem? (i := 713) (by decide +kernel), List.mem_of_getElem? (i := 714) (by decide +kernel)⟩
theorem lw_p43 : lw_okq (⟨"ShareStoreModel", "rebuilds", "(III)I"⟩, 20) := ⟨⟨by decide +kernel, by decide +kernel⟩, List.mem_of_getElem? (i := 490) (by decide +kernel), List.mem_of_getElem? (i := 717) (by decide +kernel), List.mem_of_getElem? (i := 718) (by decide +kernel)⟩
theorem lw_p44 : lw_okq (⟨"ShareStoreModel", "chooseLeast", "(III)V"⟩, 20) := ⟨⟨by decide +kernel, by decide +kernel⟩, List.mem_of_getElem? (i := 490) (by decide +kernel), List.mem_of_getElem? (i := 721) (by decide +kernel), List.mem_of_getElem? (i := 722) (by decide +kernel)⟩
theorem lw_p45 : lw_okq (⟨"ShareStoreModel", "symbolOf", "(IIII)I"⟩, 20) := ⟨⟨by decide +kernel, by decide +kernel⟩, List.mem_of_getElem? (i := 490) (by decide +kernel), List.mem_of_getElem? (i := 725) (by decide +kernel), List.mem_of_getElem? (i := 726) (by decide +kernel)⟩
def lw_privs_3 : List (MethodName × Nat) := [(⟨"ShareStoreModel", "shares", "(II)V"⟩, 20), (⟨"ShareStoreModel", "matrix", "(III)I"⟩, 20), (⟨"ShareStoreModel", "byteAt", "(IIII)I"⟩, 20), (⟨"ShareStoreModel", "flips", "(II)V"⟩, 20), (⟨"ShareStoreModel", "newest", "(I)I"⟩, 20), (⟨"ShareStoreModel", "choose", "(IIII)I"⟩, 20), (⟨"ShareStoreModel", "isFresh", "(III)Z"⟩, 20), (⟨"ShareStoreModel", "sizeOf", "(II)I"⟩, 20), (⟨"ShareStoreModel", "getStripe", "(II)V"⟩, 20), (⟨"ShareStoreModel", "solve", "(II)V"⟩, 20), (⟨"ShareStoreModel", "wants", "(II)Z"⟩, 20), (⟨"ShareStoreModel", "rebuilds", "(III)I"⟩, 20), (⟨"ShareStoreModel", "chooseLeast", "(III)V"⟩, 20), (⟨"ShareStoreModel", "symbolOf", "(IIII)I"⟩, 20)]
theorem lw_r3 : ∀ q ∈ lw_privs_3, lw_okq q := List.forall_mem_cons.mpr ⟨lw_p32, List.forall_mem_cons.mpr ⟨lw_p33, List.forall_mem_cons.mpr ⟨lw_p34, List.forall_mem_cons.mpr ⟨lw_p35, List.forall_mem_cons.mpr ⟨lw_p36, List.forall_mem_cons.mpr ⟨lw_p37, List.forall_mem_cons.mpr ⟨lw_p38, List.forall_mem_cons.mpr ⟨lw_p39, List.forall_mem_cons.mpr ⟨lw_p40, List.forall_mem_cons.mpr ⟨lw_p41, List.forall_mem_cons.mpr ⟨lw_p42, List.forall_mem_cons.mpr ⟨lw_p43, List.forall_mem_cons.mpr ⟨lw_p44, List.forall_mem_cons.mpr ⟨lw_p45, fun _ h => absurd h List.not_mem_nil⟩⟩⟩⟩⟩⟩⟩⟩⟩⟩⟩⟩⟩⟩
def lw_privs : List (MethodName × Nat) := lw_privs_1 ++ (lw_privs_2 ++ (lw_privs_3))
def lw_tbl : List Cond := k2_sels lw_privs ++ tables_1
theorem lw_privs_ok : ∀ q ∈ lw_privs, lw_okq q := by
  show ∀ q ∈ lw_privs_1 ++ (lw_privs_2 ++ (lw_privs_3)), lw_okq q
  exact List.forall_mem_append.mpr ⟨lw_r1, List.forall_mem_append.mpr ⟨lw_r2, lw_r3⟩⟩

def R_C : String := "ShareStore$Coder"
def T_C : u_T := fun k => match k with
  | 0 => ("ShareStore$Coder", "field", "LShareStore$Field;", true)
  | 1 => ("ShareStore$Coder", "rows", "[[I", true)
  | 2 => ("ShareStore$Coder", "matrix", "[[I", true)
  | 3 => ("ShareStore$Coder", "given", "[[I", true)
  | 4 => ("ShareStore$Coder", "square", "[[I", true)
  | 5 => ("ShareStore$Coder", "inverse", "[[I", true)
  | _ => ("ShareStore$Coder", "result", "[I", true)
def ty_C : Nat → FieldType := fun k => match k with
  | 0 => .object "ShareStore$Field"
  | 1 => .array (.array .int)
  | 2 => .array (.array .int)
  | 3 => .array (.array .int)
  | 4 => .array (.array .int)
  | 5 => .array (.array .int)
  | _ => .array .int
theorem nm_C : ∀ a, a < 7 → ∀ b, b < 7 → a ≠ b → (T_C a).2.1 ≠ (T_C b).2.1 := by decide +kernel
theorem ty_C_ok : ∀ k, k < 7 → parseFieldDescriptor (T_C k).2.2.1 = some (ty_C k) := by decide +kernel
def R_F : String := "ShareStore$Field"
def T_F : u_T := fun k => match k with
  | 0 => ("ShareStore$Field", "powers", "[I", true)
  | _ => ("ShareStore$Field", "exponents", "[I", true)
def ty_F : Nat → FieldType := fun k => match k with
  | 0 => .array .int
  | _ => .array .int
theorem nm_F : ∀ a, a < 2 → ∀ b, b < 2 → a ≠ b → (T_F a).2.1 ≠ (T_F b).2.1 := by decide +kernel
theorem ty_F_ok : ∀ k, k < 2 → parseFieldDescriptor (T_F k).2.2.1 = some (ty_F k) := by decide +kernel
def R_H : String := "ShareStore$Holding"
def T_H : u_T := fun k => match k with
  | 0 => ("ShareStore$Holding", "places", "[I", true)
  | 1 => ("ShareStore$Holding", "version", "I", false)
  | 2 => ("ShareStore$Holding", "bytes", "I", false)
  | _ => ("ShareStore$Holding", "stripes", "I", false)
def ty_H : Nat → FieldType := fun k => match k with
  | 0 => .array .int
  | 1 => .int
  | 2 => .int
  | _ => .int
theorem nm_H : ∀ a, a < 4 → ∀ b, b < 4 → a ≠ b → (T_H a).2.1 ≠ (T_H b).2.1 := by decide +kernel
theorem ty_H_ok : ∀ k, k < 4 → parseFieldDescriptor (T_H k).2.2.1 = some (ty_H k) := by decide +kernel
def R_N : String := "ShareStore$Node"
def T_N : u_T := fun k => match k with
  | 0 => ("ShareStore$Node", "data", "[I", true)
  | 1 => ("ShareStore$Node", "taken", "[Z", true)
  | 2 => ("ShareStore$Node", "records", "[LShareStore$Holding;", true)
  | 3 => ("ShareStore$Node", "shadows", "[LShareStore$Holding;", true)
  | 4 => ("ShareStore$Node", "live", "Z", false)
  | _ => ("ShareStore$Node", "symbolsSent", "I", false)
def ty_N : Nat → FieldType := fun k => match k with
  | 0 => .array .int
  | 1 => .array .boolean
  | 2 => .array (.object "ShareStore$Holding")
  | 3 => .array (.object "ShareStore$Holding")
  | 4 => .boolean
  | _ => .int
theorem nm_N : ∀ a, a < 6 → ∀ b, b < 6 → a ≠ b → (T_N a).2.1 ≠ (T_N b).2.1 := by decide +kernel
theorem ty_N_ok : ∀ k, k < 6 → parseFieldDescriptor (T_N k).2.2.1 = some (ty_N k) := by decide +kernel
def R_S : String := "ShareStore"
def T_S : u_T := fun k => match k with
  | 0 => ("ShareStore", "coder", "LShareStore$Coder;", true)
  | 1 => ("ShareStore", "nodes", "[LShareStore$Node;", true)
  | 2 => ("ShareStore", "begun", "[I", true)
  | 3 => ("ShareStore", "unsettled", "[Z", true)
  | 4 => ("ShareStore", "tape", "[I", true)
  | 5 => ("ShareStore", "tapeBytes", "I", false)
  | 6 => ("ShareStore", "gotten", "[I", true)
  | 7 => ("ShareStore", "gottenBytes", "I", false)
  | 8 => ("ShareStore", "cutBehind", "I", false)
  | 9 => ("ShareStore", "messages", "I", false)
  | 10 => ("ShareStore", "symbols", "I", false)
  | 11 => ("ShareStore", "chosen", "[I", true)
  | _ => ("ShareStore", "wire", "[I", true)
def ty_S : Nat → FieldType := fun k => match k with
  | 0 => .object "ShareStore$Coder"
  | 1 => .array (.object "ShareStore$Node")
  | 2 => .array .int
  | 3 => .array .boolean
  | 4 => .array .int
  | 5 => .int
  | 6 => .array .int
  | 7 => .int
  | 8 => .int
  | 9 => .int
  | 10 => .int
  | 11 => .array .int
  | _ => .array .int
theorem nm_S : ∀ a, a < 13 → ∀ b, b < 13 → a ≠ b → (T_S a).2.1 ≠ (T_S b).2.1 := by decide +kernel
theorem ty_S_ok : ∀ k, k < 13 → parseFieldDescriptor (T_S k).2.2.1 = some (ty_S k) := by decide +kernel
def R_M : String := "ShareStoreModel"
def T_M : u_T := fun k => match k with
  | 0 => ("ShareStoreModel", "tape", "[I", true)
  | 1 => ("ShareStoreModel", "taped", "I", false)
  | 2 => ("ShareStoreModel", "cutAt", "I", false)
  | 3 => ("ShareStoreModel", "isFailed", "[Z", true)
  | 4 => ("ShareStoreModel", "sent", "[I", true)
  | 5 => ("ShareStoreModel", "used", "[Z", true)
  | 6 => ("ShareStoreModel", "bytes", "[I", true)
  | 7 => ("ShareStoreModel", "has", "[Z", true)
  | 8 => ("ShareStoreModel", "version", "[I", true)
  | 9 => ("ShareStoreModel", "size", "[I", true)
  | 10 => ("ShareStoreModel", "blockOf", "[I", true)
  | 11 => ("ShareStoreModel", "latest", "[I", true)
  | 12 => ("ShareStoreModel", "isOpen", "[Z", true)
  | 13 => ("ShareStoreModel", "got", "[I", true)
  | 14 => ("ShareStoreModel", "gotMany", "I", false)
  | 15 => ("ShareStoreModel", "messages", "I", false)
  | 16 => ("ShareStoreModel", "symbols", "I", false)
  | 17 => ("ShareStoreModel", "equations", "[I", true)
  | 18 => ("ShareStoreModel", "chosen", "[I", true)
  | _ => ("ShareStoreModel", "right", "[I", true)
def ty_M : Nat → FieldType := fun k => match k with
  | 0 => .array .int
  | 1 => .int
  | 2 => .int
  | 3 => .array .boolean
  | 4 => .array .int
  | 5 => .array .boolean
  | 6 => .array .int
  | 7 => .array .boolean
  | 8 => .array .int
  | 9 => .array .int
  | 10 => .array .int
  | 11 => .array .int
  | 12 => .array .boolean
  | 13 => .array .int
  | 14 => .int
  | 15 => .int
  | 16 => .int
  | 17 => .array .int
  | 18 => .array .int
  | _ => .array .int
theorem nm_M : ∀ a, a < 20 → ∀ b, b < 20 → a ≠ b → (T_M a).2.1 ≠ (T_M b).2.1 := by decide +kernel
theorem ty_M_ok : ∀ k, k < 20 → parseFieldDescriptor (T_M k).2.2.1 = some (ty_M k) := by decide +kernel
abbrev CL : List vw_C := [(R_C, T_C, 7), (R_F, T_F, 2), (R_H, T_H, 4), (R_N, T_N, 6), (R_S, T_S, 13), (R_M, T_M, 20)]
abbrev MT : Type := MethodName × ByteArray × Nat × Option FieldType
def M_S_init : MT := (⟨"ShareStore", "<init>", "()V"⟩, prog_1_method_1_code, 2, (Option.none : Option Jvm.ClassFile.FieldType))
def M_C_init : MT := (⟨"ShareStore$Coder", "<init>", "()V"⟩, prog_2_method_1_code, 4, (Option.none : Option Jvm.ClassFile.FieldType))
def M_F_init : MT := (⟨"ShareStore$Field", "<init>", "()V"⟩, prog_3_method_1_code, 3, (Option.none : Option Jvm.ClassFile.FieldType))
def M_F_product : MT := (⟨"ShareStore$Field", "product", "(II)I"⟩, prog_3_method_2_code, 3, (Option.some Jvm.ClassFile.FieldType.int))
def M_N_init : MT := (⟨"ShareStore$Node", "<init>", "()V"⟩, prog_5_method_1_code, 2, (Option.none : Option Jvm.ClassFile.FieldType))
def M_H_init : MT := (⟨"ShareStore$Holding", "<init>", "()V"⟩, prog_4_method_1_code, 1, (Option.none : Option Jvm.ClassFile.FieldType))
def M_S_times : MT := (⟨"ShareStore", "times", "(II)I"⟩, prog_1_method_2_code, 3, (Option.some Jvm.ClassFile.FieldType.int))
def M_S_isElement : MT := (⟨"ShareStore", "isElement", "(I)Z"⟩, prog_1_method_28_code, 1, (Option.some Jvm.ClassFile.FieldType.boolean))
def M_S_over : MT := (⟨"ShareStore", "over", "(II)I"⟩, prog_1_method_3_code, 3, (Option.some Jvm.ClassFile.FieldType.int))
def M_F_quotient : MT := (⟨"ShareStore$Field", "quotient", "(II)I"⟩, prog_3_method_3_code, 3, (Option.some Jvm.ClassFile.FieldType.int))
def M_S_rowAt : MT := (⟨"ShareStore", "rowAt", "(II)I"⟩, prog_1_method_4_code, 3, (Option.some Jvm.ClassFile.FieldType.int))
def M_S_isNode : MT := (⟨"ShareStore", "isNode", "(I)Z"⟩, prog_1_method_29_code, 1, (Option.some Jvm.ClassFile.FieldType.boolean))
def M_C_rowByte : MT := (⟨"ShareStore$Coder", "rowByte", "(II)I"⟩, prog_2_method_2_code, 3, (Option.some Jvm.ClassFile.FieldType.int))
def M_S_feed : MT := (⟨"ShareStore", "feed", "(JI)I"⟩, prog_1_method_5_code, 5, (Option.some Jvm.ClassFile.FieldType.int))
def M_S_cut : MT := (⟨"ShareStore", "cut", "(I)I"⟩, prog_1_method_6_code, 2, (Option.some Jvm.ClassFile.FieldType.int))
def M_S_put : MT := (⟨"ShareStore", "put", "(I)I"⟩, prog_1_method_7_code, 3, (Option.some Jvm.ClassFile.FieldType.int))
def M_S_isObject : MT := (⟨"ShareStore", "isObject", "(I)Z"⟩, prog_1_method_30_code, 1, (Option.some Jvm.ClassFile.FieldType.boolean))
def M_S_liveNodes : MT := (⟨"ShareStore", "liveNodes", "()I"⟩, prog_1_method_33_code, 3, (Option.some Jvm.ClassFile.FieldType.int))
def M_S_leastFreeOfLive : MT := (⟨"ShareStore", "leastFreeOfLive", "()I"⟩, prog_1_method_35_code, 3, (Option.some Jvm.ClassFile.FieldType.int))
def M_N_freeBlocks : MT := (⟨"ShareStore$Node", "freeBlocks", "()I"⟩, prog_5_method_2_code, 3, (Option.some Jvm.ClassFile.FieldType.int))
def M_S_stripesOf : MT := (⟨"ShareStore", "stripesOf", "(I)I"⟩, prog_1_method_32_code, 1, (Option.some Jvm.ClassFile.FieldType.int))
def M_S_begin : MT := (⟨"ShareStore", "begin", "(II)I"⟩, prog_1_method_43_code, 7, (Option.some Jvm.ClassFile.FieldType.int))
def M_S_sendShadows : MT := (⟨"ShareStore", "sendShadows", "(III)V"⟩, prog_1_method_44_code, 6, (Option.none : Option Jvm.ClassFile.FieldType))
def M_N_take : MT := (⟨"ShareStore$Node", "take", "(LShareStore$Holding;II)V"⟩, prog_5_method_4_code, 5, (Option.none : Option Jvm.ClassFile.FieldType))
def M_N_takeLeastFree : MT := (⟨"ShareStore$Node", "takeLeastFree", "()I"⟩, prog_5_method_3_code, 2, (Option.some Jvm.ClassFile.FieldType.int))
def M_C_load : MT := (⟨"ShareStore$Coder", "load", "([III)V"⟩, prog_2_method_3_code, 7, (Option.none : Option Jvm.ClassFile.FieldType))
def M_C_byteBefore : MT := (⟨"ShareStore$Coder", "byteBefore", "([III)I"⟩, prog_2_method_5_code, 3, (Option.some Jvm.ClassFile.FieldType.int))
def M_C_mirror : MT := (⟨"ShareStore$Coder", "mirror", "(III)V"⟩, prog_2_method_4_code, 4, (Option.none : Option Jvm.ClassFile.FieldType))
def M_S_fillShadows : MT := (⟨"ShareStore", "fillShadows", "(III)V"⟩, prog_1_method_45_code, 6, (Option.none : Option Jvm.ClassFile.FieldType))
def M_C_share : MT := (⟨"ShareStore$Coder", "share", "(I[I)V"⟩, prog_2_method_8_code, 6, (Option.none : Option Jvm.ClassFile.FieldType))
def M_H_placeOf : MT := (⟨"ShareStore$Holding", "placeOf", "(I)I"⟩, prog_4_method_2_code, 2, (Option.some Jvm.ClassFile.FieldType.int))
def M_N_write : MT := (⟨"ShareStore$Node", "write", "(I[I)V"⟩, prog_5_method_11_code, 4, (Option.none : Option Jvm.ClassFile.FieldType))
def M_S_sendFlips : MT := (⟨"ShareStore", "sendFlips", "(II)V"⟩, prog_1_method_46_code, 5, (Option.none : Option Jvm.ClassFile.FieldType))
def M_N_flip : MT := (⟨"ShareStore$Node", "flip", "(I)V"⟩, prog_5_method_6_code, 3, (Option.none : Option Jvm.ClassFile.FieldType))
def M_N_giveUp : MT := (⟨"ShareStore$Node", "giveUp", "(LShareStore$Holding;)V"⟩, prog_5_method_5_code, 4, (Option.none : Option Jvm.ClassFile.FieldType))
def M_S_remove : MT := (⟨"ShareStore", "remove", "(I)I"⟩, prog_1_method_8_code, 2, (Option.some Jvm.ClassFile.FieldType.int))
def M_S_settle : MT := (⟨"ShareStore", "settle", "(I)I"⟩, prog_1_method_9_code, 5, (Option.some Jvm.ClassFile.FieldType.int))
def M_S_someNodeRecords : MT := (⟨"ShareStore", "someNodeRecords", "(II)Z"⟩, prog_1_method_40_code, 4, (Option.some Jvm.ClassFile.FieldType.boolean))
def M_S_get : MT := (⟨"ShareStore", "get", "(II)I"⟩, prog_1_method_10_code, 4, (Option.some Jvm.ClassFile.FieldType.int))
def M_S_chooseLeastNumbers : MT := (⟨"ShareStore", "chooseLeastNumbers", "(II)I"⟩, prog_1_method_47_code, 6, (Option.some Jvm.ClassFile.FieldType.int))
def M_S_newestOf : MT := (⟨"ShareStore", "newestOf", "(I)I"⟩, prog_1_method_36_code, 5, (Option.some Jvm.ClassFile.FieldType.int))
def M_S_liveHolders : MT := (⟨"ShareStore", "liveHolders", "(II)I"⟩, prog_1_method_37_code, 5, (Option.some Jvm.ClassFile.FieldType.int))
def M_S_isFresh : MT := (⟨"ShareStore", "isFresh", "(III)Z"⟩, prog_1_method_38_code, 4, (Option.some Jvm.ClassFile.FieldType.boolean))
def M_S_isTold : MT := (⟨"ShareStore", "isTold", "(II)Z"⟩, prog_1_method_31_code, 2, (Option.some Jvm.ClassFile.FieldType.boolean))
def M_S_newestBytes : MT := (⟨"ShareStore", "newestBytes", "(I)I"⟩, prog_1_method_39_code, 4, (Option.some Jvm.ClassFile.FieldType.int))
def M_S_decode : MT := (⟨"ShareStore", "decode", "(II)V"⟩, prog_1_method_48_code, 6, (Option.none : Option Jvm.ClassFile.FieldType))
def M_C_invert : MT := (⟨"ShareStore$Coder", "invert", "([II)V"⟩, prog_2_method_9_code, 6, (Option.none : Option Jvm.ClassFile.FieldType))
def M_C_clearColumn : MT := (⟨"ShareStore$Coder", "clearColumn", "(II)V"⟩, prog_2_method_10_code, 6, (Option.none : Option Jvm.ClassFile.FieldType))
def M_N_read : MT := (⟨"ShareStore$Node", "read", "(I[I)V"⟩, prog_5_method_10_code, 4, (Option.none : Option Jvm.ClassFile.FieldType))
def M_N_byteAt : MT := (⟨"ShareStore$Node", "byteAt", "(II)I"⟩, prog_5_method_9_code, 3, (Option.some Jvm.ClassFile.FieldType.int))
def M_C_give : MT := (⟨"ShareStore$Coder", "give", "(I[I)V"⟩, prog_2_method_12_code, 3, (Option.none : Option Jvm.ClassFile.FieldType))
def M_C_solve : MT := (⟨"ShareStore$Coder", "solve", "([I)V"⟩, prog_2_method_13_code, 5, (Option.none : Option Jvm.ClassFile.FieldType))
def M_C_solveColumn : MT := (⟨"ShareStore$Coder", "solveColumn", "(I)V"⟩, prog_2_method_14_code, 5, (Option.none : Option Jvm.ClassFile.FieldType))
def M_C_unload : MT := (⟨"ShareStore$Coder", "unload", "([III)V"⟩, prog_2_method_6_code, 7, (Option.none : Option Jvm.ClassFile.FieldType))
def M_C_storeBefore : MT := (⟨"ShareStore$Coder", "storeBefore", "([IIII)V"⟩, prog_2_method_7_code, 4, (Option.none : Option Jvm.ClassFile.FieldType))
def M_S_got : MT := (⟨"ShareStore", "got", "(I)I"⟩, prog_1_method_11_code, 2, (Option.some Jvm.ClassFile.FieldType.int))
def M_S_version : MT := (⟨"ShareStore", "version", "(I)I"⟩, prog_1_method_12_code, 2, (Option.some Jvm.ClassFile.FieldType.int))
def M_S_open : MT := (⟨"ShareStore", "open", "(I)I"⟩, prog_1_method_13_code, 2, (Option.some Jvm.ClassFile.FieldType.int))
def M_S_fail : MT := (⟨"ShareStore", "fail", "(I)I"⟩, prog_1_method_14_code, 2, (Option.some Jvm.ClassFile.FieldType.int))
def M_S_back : MT := (⟨"ShareStore", "back", "(I)I"⟩, prog_1_method_15_code, 2, (Option.some Jvm.ClassFile.FieldType.int))
def M_N_giveUpShadows : MT := (⟨"ShareStore$Node", "giveUpShadows", "()I"⟩, prog_5_method_7_code, 3, (Option.some Jvm.ClassFile.FieldType.int))
def M_S_wipe : MT := (⟨"ShareStore", "wipe", "(I)I"⟩, prog_1_method_16_code, 3, (Option.some Jvm.ClassFile.FieldType.int))
def M_N_giveUpAll : MT := (⟨"ShareStore$Node", "giveUpAll", "()V"⟩, prog_5_method_8_code, 2, (Option.none : Option Jvm.ClassFile.FieldType))
def M_S_rebuild : MT := (⟨"ShareStore", "rebuild", "(II)I"⟩, prog_1_method_17_code, 5, (Option.some Jvm.ClassFile.FieldType.int))
def M_S_lacksHelpers : MT := (⟨"ShareStore", "lacksHelpers", "(II)Z"⟩, prog_1_method_50_code, 4, (Option.some Jvm.ClassFile.FieldType.boolean))
def M_S_isStale : MT := (⟨"ShareStore", "isStale", "(II)Z"⟩, prog_1_method_49_code, 4, (Option.some Jvm.ClassFile.FieldType.boolean))
def M_S_chooseLeastSent : MT := (⟨"ShareStore", "chooseLeastSent", "(III)I"⟩, prog_1_method_53_code, 9, (Option.some Jvm.ClassFile.FieldType.int))
def M_S_lacksRoom : MT := (⟨"ShareStore", "lacksRoom", "(I)Z"⟩, prog_1_method_51_code, 4, (Option.some Jvm.ClassFile.FieldType.boolean))
def M_S_renew : MT := (⟨"ShareStore", "renew", "(III)V"⟩, prog_1_method_52_code, 7, (Option.none : Option Jvm.ClassFile.FieldType))
def M_S_repair : MT := (⟨"ShareStore", "repair", "(III)V"⟩, prog_1_method_54_code, 7, (Option.none : Option Jvm.ClassFile.FieldType))
def M_S_symbolFrom : MT := (⟨"ShareStore", "symbolFrom", "(LShareStore$Node;II)I"⟩, prog_1_method_55_code, 6, (Option.some Jvm.ClassFile.FieldType.int))
def M_C_multiplyByInverse : MT := (⟨"ShareStore$Coder", "multiplyByInverse", "([I)V"⟩, prog_2_method_11_code, 5, (Option.none : Option Jvm.ClassFile.FieldType))
def M_S_fresh : MT := (⟨"ShareStore", "fresh", "(II)I"⟩, prog_1_method_18_code, 3, (Option.some Jvm.ClassFile.FieldType.int))
def M_S_sent : MT := (⟨"ShareStore", "sent", "(I)I"⟩, prog_1_method_19_code, 2, (Option.some Jvm.ClassFile.FieldType.int))
def M_S_free : MT := (⟨"ShareStore", "free", "(I)I"⟩, prog_1_method_20_code, 2, (Option.some Jvm.ClassFile.FieldType.int))
def M_S_record : MT := (⟨"ShareStore", "record", "(III)I"⟩, prog_1_method_21_code, 4, (Option.some Jvm.ClassFile.FieldType.int))
def M_S_recordNumber : MT := (⟨"ShareStore", "recordNumber", "(LShareStore$Node;II)I"⟩, prog_1_method_41_code, 6, (Option.some Jvm.ClassFile.FieldType.int))
def M_S_block : MT := (⟨"ShareStore", "block", "(IIIZ)I"⟩, prog_1_method_22_code, 5, (Option.some Jvm.ClassFile.FieldType.int))
def M_S_byteOf : MT := (⟨"ShareStore", "byteOf", "(III)I"⟩, prog_1_method_23_code, 4, (Option.some Jvm.ClassFile.FieldType.int))
def M_S_symbol : MT := (⟨"ShareStore", "symbol", "(IIII)I"⟩, prog_1_method_24_code, 6, (Option.some Jvm.ClassFile.FieldType.int))
def M_S_count : MT := (⟨"ShareStore", "count", "(I)I"⟩, prog_1_method_25_code, 2, (Option.some Jvm.ClassFile.FieldType.int))
def M_S_openObjects : MT := (⟨"ShareStore", "openObjects", "()I"⟩, prog_1_method_34_code, 3, (Option.some Jvm.ClassFile.FieldType.int))
def M_S_digest : MT := (⟨"ShareStore", "digest", "()J"⟩, prog_1_method_26_code, 6, (Option.some Jvm.ClassFile.FieldType.long))
def M_S_digestOfRecord : MT := (⟨"ShareStore", "digestOfRecord", "(JLShareStore$Node;I)J"⟩, prog_1_method_42_code, 10, (Option.some Jvm.ClassFile.FieldType.long))
def M_S_clear : MT := (⟨"ShareStore", "clear", "()I"⟩, prog_1_method_27_code, 3, (Option.some Jvm.ClassFile.FieldType.int))
def M_M_init : MT := (⟨"ShareStoreModel", "<init>", "()V"⟩, prog_7_method_1_code, 1, (Option.none : Option Jvm.ClassFile.FieldType))
def M_M_times : MT := (⟨"ShareStoreModel", "times", "(II)I"⟩, prog_7_method_8_code, 3, (Option.some Jvm.ClassFile.FieldType.int))
def M_M_in : MT := (⟨"ShareStoreModel", "in", "(III)Z"⟩, prog_7_method_3_code, 3, (Option.some Jvm.ClassFile.FieldType.boolean))
def M_M_product : MT := (⟨"ShareStoreModel", "product", "(II)I"⟩, prog_7_method_6_code, 5, (Option.some Jvm.ClassFile.FieldType.int))
def M_M_over : MT := (⟨"ShareStoreModel", "over", "(II)I"⟩, prog_7_method_9_code, 3, (Option.some Jvm.ClassFile.FieldType.int))
def M_M_inverse : MT := (⟨"ShareStoreModel", "inverse", "(I)I"⟩, prog_7_method_7_code, 3, (Option.some Jvm.ClassFile.FieldType.int))
def M_M_rowAt : MT := (⟨"ShareStoreModel", "rowAt", "(II)I"⟩, prog_7_method_11_code, 3, (Option.some Jvm.ClassFile.FieldType.int))
def M_M_isNode : MT := (⟨"ShareStoreModel", "isNode", "(I)Z"⟩, prog_7_method_4_code, 1, (Option.some Jvm.ClassFile.FieldType.boolean))
def M_M_row : MT := (⟨"ShareStoreModel", "row", "(II)I"⟩, prog_7_method_10_code, 4, (Option.some Jvm.ClassFile.FieldType.int))
def M_M_feed : MT := (⟨"ShareStoreModel", "feed", "(JI)I"⟩, prog_7_method_28_code, 5, (Option.some Jvm.ClassFile.FieldType.int))
def M_M_cut : MT := (⟨"ShareStoreModel", "cut", "(I)I"⟩, prog_7_method_29_code, 2, (Option.some Jvm.ClassFile.FieldType.int))
def M_M_put : MT := (⟨"ShareStoreModel", "put", "(I)I"⟩, prog_7_method_31_code, 4, (Option.some Jvm.ClassFile.FieldType.int))
def M_M_refused : MT := (⟨"ShareStoreModel", "refused", "(I)I"⟩, prog_7_method_30_code, 2, (Option.some Jvm.ClassFile.FieldType.int))
def M_M_isObject : MT := (⟨"ShareStoreModel", "isObject", "(I)Z"⟩, prog_7_method_5_code, 1, (Option.some Jvm.ClassFile.FieldType.boolean))
def M_M_live : MT := (⟨"ShareStoreModel", "live", "()I"⟩, prog_7_method_24_code, 3, (Option.some Jvm.ClassFile.FieldType.int))
def M_M_usedBy : MT := (⟨"ShareStoreModel", "usedBy", "(I)I"⟩, prog_7_method_15_code, 4, (Option.some Jvm.ClassFile.FieldType.int))
def M_M_stripes : MT := (⟨"ShareStoreModel", "stripes", "(I)I"⟩, prog_7_method_14_code, 1, (Option.some Jvm.ClassFile.FieldType.int))
def M_M_goes : MT := (⟨"ShareStoreModel", "goes", "(I)I"⟩, prog_7_method_27_code, 6, (Option.some Jvm.ClassFile.FieldType.int))
def M_M_givesUp : MT := (⟨"ShareStoreModel", "givesUp", "(IIZ)V"⟩, prog_7_method_17_code, 6, (Option.none : Option Jvm.ClassFile.FieldType))
def M_M_at : MT := (⟨"ShareStoreModel", "at", "(IIZ)I"⟩, prog_7_method_13_code, 3, (Option.some Jvm.ClassFile.FieldType.int))
def M_M_takes : MT := (⟨"ShareStoreModel", "takes", "(IIZII)V"⟩, prog_7_method_18_code, 9, (Option.none : Option Jvm.ClassFile.FieldType))
def M_M_leastFree : MT := (⟨"ShareStoreModel", "leastFree", "(I)I"⟩, prog_7_method_16_code, 3, (Option.some Jvm.ClassFile.FieldType.int))
def M_M_shares : MT := (⟨"ShareStoreModel", "shares", "(II)V"⟩, prog_7_method_26_code, 8, (Option.none : Option Jvm.ClassFile.FieldType))
def M_M_matrix : MT := (⟨"ShareStoreModel", "matrix", "(III)I"⟩, prog_7_method_25_code, 8, (Option.some Jvm.ClassFile.FieldType.int))
def M_M_byteAt : MT := (⟨"ShareStoreModel", "byteAt", "(IIII)I"⟩, prog_7_method_20_code, 5, (Option.some Jvm.ClassFile.FieldType.int))
def M_M_flips : MT := (⟨"ShareStoreModel", "flips", "(II)V"⟩, prog_7_method_19_code, 6, (Option.none : Option Jvm.ClassFile.FieldType))
def M_M_remove : MT := (⟨"ShareStoreModel", "remove", "(I)I"⟩, prog_7_method_32_code, 5, (Option.some Jvm.ClassFile.FieldType.int))
def M_M_settle : MT := (⟨"ShareStoreModel", "settle", "(I)I"⟩, prog_7_method_33_code, 5, (Option.some Jvm.ClassFile.FieldType.int))
def M_M_get : MT := (⟨"ShareStoreModel", "get", "(II)I"⟩, prog_7_method_36_code, 6, (Option.some Jvm.ClassFile.FieldType.int))
def M_M_newest : MT := (⟨"ShareStoreModel", "newest", "(I)I"⟩, prog_7_method_21_code, 8, (Option.some Jvm.ClassFile.FieldType.int))
def M_M_choose : MT := (⟨"ShareStoreModel", "choose", "(IIII)I"⟩, prog_7_method_34_code, 7, (Option.some Jvm.ClassFile.FieldType.int))
def M_M_isFresh : MT := (⟨"ShareStoreModel", "isFresh", "(III)Z"⟩, prog_7_method_22_code, 5, (Option.some Jvm.ClassFile.FieldType.boolean))
def M_M_sizeOf : MT := (⟨"ShareStoreModel", "sizeOf", "(II)I"⟩, prog_7_method_23_code, 4, (Option.some Jvm.ClassFile.FieldType.int))
def M_M_getStripe : MT := (⟨"ShareStoreModel", "getStripe", "(II)V"⟩, prog_7_method_35_code, 8, (Option.none : Option Jvm.ClassFile.FieldType))
def M_M_solve : MT := (⟨"ShareStoreModel", "solve", "(II)V"⟩, prog_7_method_12_code, 9, (Option.none : Option Jvm.ClassFile.FieldType))
def M_M_got : MT := (⟨"ShareStoreModel", "got", "(I)I"⟩, prog_7_method_37_code, 2, (Option.some Jvm.ClassFile.FieldType.int))
def M_M_version : MT := (⟨"ShareStoreModel", "version", "(I)I"⟩, prog_7_method_38_code, 2, (Option.some Jvm.ClassFile.FieldType.int))
def M_M_open : MT := (⟨"ShareStoreModel", "open", "(I)I"⟩, prog_7_method_39_code, 2, (Option.some Jvm.ClassFile.FieldType.int))
def M_M_fail : MT := (⟨"ShareStoreModel", "fail", "(I)I"⟩, prog_7_method_40_code, 2, (Option.some Jvm.ClassFile.FieldType.int))
def M_M_back : MT := (⟨"ShareStoreModel", "back", "(I)I"⟩, prog_7_method_41_code, 4, (Option.some Jvm.ClassFile.FieldType.int))
def M_M_wipe : MT := (⟨"ShareStoreModel", "wipe", "(I)I"⟩, prog_7_method_42_code, 4, (Option.some Jvm.ClassFile.FieldType.int))
def M_M_rebuild : MT := (⟨"ShareStoreModel", "rebuild", "(II)I"⟩, prog_7_method_47_code, 10, (Option.some Jvm.ClassFile.FieldType.int))
def M_M_wants : MT := (⟨"ShareStoreModel", "wants", "(II)Z"⟩, prog_7_method_43_code, 4, (Option.some Jvm.ClassFile.FieldType.boolean))
def M_M_rebuilds : MT := (⟨"ShareStoreModel", "rebuilds", "(III)I"⟩, prog_7_method_46_code, 10, (Option.some Jvm.ClassFile.FieldType.int))
def M_M_chooseLeast : MT := (⟨"ShareStoreModel", "chooseLeast", "(III)V"⟩, prog_7_method_45_code, 8, (Option.none : Option Jvm.ClassFile.FieldType))
def M_M_symbolOf : MT := (⟨"ShareStoreModel", "symbolOf", "(IIII)I"⟩, prog_7_method_44_code, 7, (Option.some Jvm.ClassFile.FieldType.int))
def M_M_fresh : MT := (⟨"ShareStoreModel", "fresh", "(II)I"⟩, prog_7_method_48_code, 3, (Option.some Jvm.ClassFile.FieldType.int))
def M_M_sent : MT := (⟨"ShareStoreModel", "sent", "(I)I"⟩, prog_7_method_49_code, 2, (Option.some Jvm.ClassFile.FieldType.int))
def M_M_free : MT := (⟨"ShareStoreModel", "free", "(I)I"⟩, prog_7_method_50_code, 2, (Option.some Jvm.ClassFile.FieldType.int))
def M_M_record : MT := (⟨"ShareStoreModel", "record", "(III)I"⟩, prog_7_method_51_code, 6, (Option.some Jvm.ClassFile.FieldType.int))
def M_M_block : MT := (⟨"ShareStoreModel", "block", "(IIIZ)I"⟩, prog_7_method_52_code, 6, (Option.some Jvm.ClassFile.FieldType.int))
def M_M_byteOf : MT := (⟨"ShareStoreModel", "byteOf", "(III)I"⟩, prog_7_method_53_code, 4, (Option.some Jvm.ClassFile.FieldType.int))
def M_M_symbol : MT := (⟨"ShareStoreModel", "symbol", "(IIII)I"⟩, prog_7_method_54_code, 6, (Option.some Jvm.ClassFile.FieldType.int))
def M_M_count : MT := (⟨"ShareStoreModel", "count", "(I)I"⟩, prog_7_method_55_code, 4, (Option.some Jvm.ClassFile.FieldType.int))
def M_M_digest : MT := (⟨"ShareStoreModel", "digest", "()J"⟩, prog_7_method_56_code, 8, (Option.some Jvm.ClassFile.FieldType.long))
def M_M_clear : MT := (⟨"ShareStoreModel", "clear", "()I"⟩, prog_7_method_57_code, 3, (Option.some Jvm.ClassFile.FieldType.int))
def tblG : List Cond := lw_tbl.filter goodWord
theorem tblG_sub : ∀ w ∈ tblG, w ∈ lw_tbl := fun w hw => (List.mem_filter.mp hw).1
theorem gi_tbl : GoodIn tblG tblG := fun w hw => ⟨hw, good_of_word (List.mem_filter.mp hw).2⟩
theorem gi_cons {w : Cond} {ws : List Cond} (hw : w ∈ tblG) (h : GoodIn tblG ws) : GoodIn tblG (w :: ws) := fun x hx => (List.mem_cons.mp hx).elim (fun e => by rw [e]; exact gi_tbl w hw) (h x)
theorem wm_in {w : Cond} {i : Nat} (h : lw_tbl[i]? = some w) (hg : goodWord w = true) : w ∈ tblG := List.mem_filter.mpr ⟨List.mem_of_getElem? h, hg⟩
def SPW : List Cond := [(Jvm.Cond.arrayOver (Jvm.ClassFile.FieldType.array Jvm.ClassFile.FieldType.int)), (Jvm.Cond.fieldLinkNest "ShareStore" (63 : Nat) "ShareStore$Coder" "field" "LShareStore$Field;" "ShareStore"), (Jvm.Cond.arrayOver (Jvm.ClassFile.FieldType.object "ShareStore$Node")), (Jvm.Cond.arrayOver (Jvm.ClassFile.FieldType.object "ShareStore$Holding")), (Jvm.Cond.methodLinkNest "ShareStore$Node" (36 : Nat) ({ cls := "ShareStore$Holding", name := "<init>", desc := "()V" } : Jvm.MethodName) "ShareStore"), (Jvm.Cond.fieldLinkNest "ShareStore$Node" (56 : Nat) "ShareStore$Holding" "places" "[I" "ShareStore"), (Jvm.Cond.fieldLinkNest "ShareStore$Node" (37 : Nat) "ShareStore$Holding" "version" "I" "ShareStore"), (Jvm.Cond.fieldLinkNest "ShareStore" (111 : Nat) "ShareStore$Holding" "version" "I" "ShareStore"), (Jvm.Cond.fieldLinkNest "ShareStore$Node" (40 : Nat) "ShareStore$Holding" "bytes" "I" "ShareStore"), (Jvm.Cond.fieldLinkNest "ShareStore" (201 : Nat) "ShareStore$Holding" "bytes" "I" "ShareStore"), (Jvm.Cond.fieldLinkNest "ShareStore$Node" (53 : Nat) "ShareStore$Holding" "stripes" "I" "ShareStore"), (Jvm.Cond.fieldLinkNest "ShareStore" (204 : Nat) "ShareStore$Holding" "stripes" "I" "ShareStore"), (Jvm.Cond.fieldLinkNest "ShareStore" (173 : Nat) "ShareStore$Node" "records" "[LShareStore$Holding;" "ShareStore"), (Jvm.Cond.fieldLinkNest "ShareStore" (107 : Nat) "ShareStore$Node" "shadows" "[LShareStore$Holding;" "ShareStore"), (Jvm.Cond.fieldLinkNest "ShareStore" (103 : Nat) "ShareStore$Node" "live" "Z" "ShareStore"), (Jvm.Cond.fieldLinkNest "ShareStore" (163 : Nat) "ShareStore$Node" "symbolsSent" "I" "ShareStore"), (Jvm.Cond.methodLinkNest "ShareStore$Coder" (43 : Nat) ({ cls := "ShareStore", name := "isNode", desc := "(I)Z" } : Jvm.MethodName) "ShareStore"), (Jvm.Cond.methodLinkNest "ShareStore$Node" (43 : Nat) ({ cls := "ShareStore", name := "stripesOf", desc := "(I)I" } : Jvm.MethodName) "ShareStore")]
theorem spw_sub : ∀ w ∈ SPW, w ∈ lw_tbl := by decide +kernel
theorem iw_C : ∀ w ∈ u_ws R_C T_C 7, w ∈ tblG := by decide +kernel
theorem iw_F : ∀ w ∈ u_ws R_F T_F 2, w ∈ tblG := by decide +kernel
theorem iw_H : ∀ w ∈ u_ws R_H T_H 4, w ∈ tblG := by decide +kernel
theorem iw_N : ∀ w ∈ u_ws R_N T_N 6, w ∈ tblG := by decide +kernel
theorem iw_S : ∀ w ∈ u_ws R_S T_S 13, w ∈ tblG := by decide +kernel
theorem iw_M : ∀ w ∈ u_ws R_M T_M 20, w ∈ tblG := by decide +kernel
end
section
-- ===== the machine under one judgement: heaps as functions from addresses, contracts that are exact =====
abbrev AC : Type := (Nat × vp_A) ⊕ (Nat × List Value)
abbrev AH : Type := Nat → Option AC
abbrev GX : Type := Nat × va_G × (Nat → ClassId)
def TYS (g : GX) : List (ClassId × FieldType) := [(g.2.2 0, .int), (g.2.2 1, .boolean), (g.2.2 2, .object "ShareStore$Node"), (g.2.2 3, .object "ShareStore$Holding"), (g.2.2 4, .array .int)]
def g_E (g : GX) (c : AC) : va_E := match c with
  | .inl x => .inl (g.2.2 x.1, x.2)
  | .inr o => .inr o
def updH (h : AH) (a : Nat) (c : AC) : AH := fun q => if q = a then some c else h q
def HR (g : GX) (n : Nat) (h : AH) (H : Heap) : Prop := H.size = g.1 + n ∧ (∀ a c, h a = some c → g.1 ≤ a) ∧ ∀ a c, h a = some c → va_at g.2.1 CL (a, g_E g c) H
def isSp : Cond → Bool
  | .fieldLinkNest .. => true
  | .methodLinkNest .. => true
  | .arrayOver _ => true
  | _ => false
theorem spw_is : SPW.all isSp = true := by decide +kernel
def KX (g : GX) (U : State) : Prop := va_K g.2.1 CL (TYS g) U ∧ ∀ w ∈ SPW, w.before #[] U = true
theorem sp_warm {s U : State} (hW : s.WarmedH U.vm) : ∀ w : Cond, isSp w = true → w.before #[] s = true → w.before #[] U = true
  | .fieldLinkNest .., _, h => va_Nw.warmF hW h
  | .methodLinkNest .., _, h => va_Nw.warmM hW h
  | .arrayOver ty, _, h => by
    have e := Cond.arrayOver_setVmC (args := #[]) hW.alike ty
    rw [h] at e
    exact e
theorem KX.moved {g : GX} {s U : State} (hW : s.WarmedH U.vm) (h : KX g s) : KX g U := ⟨va_K.moved hW.alike h.1, fun w hw => sp_warm hW w (List.all_eq_true.mp spw_is w hw) (h.2 w hw)⟩
/-- the law's extra fact of the start, or nothing -/
abbrev XPT : Type := State → Prop
abbrev TGT : Type := Array Value → State → List Frame → State → Prop
def RMX (d mc ms : Nat) : Room := { frames := d, cells := mc, slots := ms, locals := 36 * d }
def EVX (g : GX) (M : MT) (XP : XPT) (p : Program) (s : State) (m : MethodId) (args : Array Value) (meth : Method) (c : Code) : Prop :=
  p.tables.exec = Jvm.exec ∧ c.code = M.2.1 ∧ c.maxLocals = M.2.2.1 ∧ meth.sig.returnType = M.2.2.2 ∧ meth.locks = false ∧ s.vm.findClass M.1.cls = some m.cls ∧ (∀ w ∈ tblG, w.before args s = true) ∧ KX g s ∧ meth.name = M.1.name ∧ g.1 ≤ s.heap.size ∧ XP s
def RJ (l : Launch) (g : GX) (M : MT) (R : Room) (TG : TGT) (XP : XPT) (n : Nat) (h : AH) (k sl : Nat) (pc : Nat) (lv : List (Nat × Value)) (st : List Value) : Prop :=
  ∀ (p : Program) (e : Env) (s : State) (m : MethodId) (args : Array Value) (below : List Frame) (meth : Method) (c : Code) (H : Heap) (locs : List Loc) (ls : Array Slot),
    EVX g M XP p s m args meth c → HR g n h H → va_S (fun q : Nat => g.1 ≤ q) s.heap H locs → lv_has ls M.2.2.1 lv →
    W p l e R s m args below meth c H locs k sl (TG args s below) (F0 m pc ls st)
def QX (g : GX) (Q : Option Value → Nat → AH → Prop) : Array Value → State → Outcome → State → Prop := fun _ st o t =>
  ∃ v n h, o = .returned v ∧ Q v n h ∧ HR g n h t.heap ∧ va_F (fun q : Nat => g.1 ≤ q) st t
def TQ (g : GX) (mc ms : Nat) (Q : Option Value → Nat → AH → Prop) : TGT := fun args s below => MQ below (QX g Q) args s mc ms (fun q : Nat => g.1 ≤ q)
/-- the contract: from the heap h (n cells), M returns r and leaves h' (n' cells) -/
def CE (l : Launch) (g : GX) (M : MT) (d mc ms : Nat) (As : List Value) (n : Nat) (h : AH) (r : Option Value) (n' : Nat) (h' : AH) : Prop :=
  Met l M.1 (Cond.code M.1 M.2.1 M.2.2.1 M.2.2.2 :: tblG) (RMX d mc ms) (va_Pc As (fun U => HR g n h U.heap ∧ KX g U)) (QX g (fun v n2 h2 => v = r ∧ n2 = n' ∧ h2 = h')) mc ms (fun q : Nat => g.1 ≤ q)
abbrev XT : XPT := fun _ => True
abbrev QE (r : Option Value) (n' : Nat) (h' : AH) : Option Value → Nat → AH → Prop := fun v n2 h2 => v = r ∧ n2 = n' ∧ h2 = h'
theorem CE.of {l : Launch} {g : GX} {M : MT} {d mc ms : Nat} {As : List Value} {n : Nat} {h : AH} {r : Option Value} {n' : Nat} {h' : AH} (hy : plainName M.1.cls = true) {lv : List (Nat × Value)} (hlv : lv_args 0 As = lv) (hlen : (lg_sl As).length ≤ M.2.2.1)
    (k : RJ l g M (RMX d mc ms) (TQ g mc ms (QE r n' h')) XT n h 0 0 0 lv []) : CE l g M d mc ms As n h r n' h' := by
  refine Met.ofW (cc := M.2.1) (maxL := M.2.2.1) (ret := M.2.2.2) hy rfl ?_
  intro p e s m args below meth c s₁ B hml hv
  obtain ⟨rfl, hH, hK⟩ := hv
  rw [lg_entry_eq]
  have hl := lv_entry As hlen
  rw [hlv] at hl
  have hts := atoms_spec (ws := Cond.code M.1 M.2.1 M.2.2.1 M.2.2.2 :: tblG) B.pre
  exact k p e s m _ below meth c s.heap [] _ ⟨B.exec, B.bytes, hml, B.returns, B.notSynchronized, findClass_of_methodNamed B.named, fun w hw => hts w (List.mem_cons_of_mem _ hw), hK, (name_of_methodNamed B.named B.method).1, by rw [hH.1]; exact Nat.le_add_right _ _, trivial⟩ hH va_S.rf hl
theorem va_P1 {D : va_G} {a : Nat} {e : va_E} {H : Heap} (h : va_at D CL (a, e) H) : va_P D CL [(a, e)] H := fun k q hk => by
  have hz : k < 1 := (List.getElem?_eq_some_iff.mp hk).1
  rw [show k = 0 by omega] at hk
  cases hk
  exact h
theorem HR.set {g : GX} {n : Nat} {h : AH} {H H1 : Heap} {a : Nat} {c0 c : AC} (hR : HR g n h H) (h0 : h a = some c0) (z : H1.size = H.size) (oq : ∀ q : Nat, q ≠ a → H1[q]? = H[q]?) (e : va_at g.2.1 CL (a, g_E g c) H1) : HR g n (updH h a c) H1 := by
  refine ⟨z.trans hR.1, fun q x hx => ?_, fun q x hx => ?_⟩
  · unfold updH at hx
    by_cases hq : q = a
    · rw [hq]; exact hR.2.1 a c0 h0
    · rw [if_neg hq] at hx; exact hR.2.1 q x hx
  · unfold updH at hx
    by_cases hq : q = a
    · rw [if_pos hq] at hx
      cases hx
      rw [hq]
      exact e
    · rw [if_neg hq] at hx
      exact (hR.2.2 q x hx).kept (oq q hq)
theorem HR.push {g : GX} {n : Nat} {h : AH} {H H1 : Heap} {c : AC} (hR : HR g n h H) (z : H1.size = H.size + 1) (o1 : ∀ q : Nat, q < H.size → H1[q]? = H[q]?) (e : va_at g.2.1 CL (H.size, g_E g c) H1) : HR g (n + 1) (updH h (g.1 + n) c) H1 := by
  have hs := hR.1
  refine ⟨by rw [z, hs]; rfl, fun q x hx => ?_, fun q x hx => ?_⟩
  · unfold updH at hx
    by_cases hq : q = g.1 + n
    · omega
    · rw [if_neg hq] at hx; exact hR.2.1 q x hx
  · unfold updH at hx
    by_cases hq : q = g.1 + n
    · rw [if_pos hq] at hx
      cases hx
      rw [hq, ← hs]
      exact e
    · rw [if_neg hq] at hx
      have h1 := hR.2.2 q x hx
      exact h1.kept (o1 q h1.lt)
/-- the locals kept in the order of their places -/
def lins (i : Nat) (v : Value) : List (Nat × Value) → List (Nat × Value)
  | [] => [(i, v)]
  | q :: t => if i < q.1 then (i, v) :: q :: t else q :: lins i v t
theorem lins_mem {i : Nat} {v : Value} : ∀ {l : List (Nat × Value)} {q : Nat × Value}, q ∈ lins i v l → q ∈ (i, v) :: l
  | [], _, h => h
  | a :: t, q, h => by
    unfold lins at h
    by_cases c : i < a.1
    · rw [if_pos c] at h; exact h
    · rw [if_neg c] at h
      rcases List.mem_cons.mp h with h | h
      · rw [h]; exact List.mem_cons_of_mem _ List.mem_cons_self
      · rcases List.mem_cons.mp (lins_mem h) with h | h
        · rw [h]; exact List.mem_cons_self
        · exact List.mem_cons_of_mem _ (List.mem_cons_of_mem _ h)
def ls1 (i : Nat) (v : Value) (lv : List (Nat × Value)) : List (Nat × Value) := lins i v (lv.filter (fun q => !(q.1 == i) && !(q.1 + 1 == i && q.2.category == 2)))
def ls2 (i : Nat) (v : Value) (lv : List (Nat × Value)) : List (Nat × Value) := lins i v (lv.filter (fun q => !(q.1 == i) && (!(q.1 == i + 1) && !(q.1 + 1 == i && q.2.category == 2))))
theorem lv_lins {ls : Array Slot} {nL i : Nat} {v : Value} {l : List (Nat × Value)} (h : lv_has ls nL ((i, v) :: l)) : lv_has ls nL (lins i v l) := ⟨h.1, h.2.1, fun q hq => h.2.2 q (lins_mem hq)⟩
theorem lv_less {ls : Array Slot} {nL : Nat} {l l' : List (Nat × Value)} (h : lv_has ls nL l) (hs : ∀ q ∈ l', q ∈ l) : lv_has ls nL l' := ⟨h.1, h.2.1, fun q hq => h.2.2 q (hs q hq)⟩
end
section
section RULES
variable {l : Launch} {g : GX} {M : MT} {R : Room} {TG : TGT} {XP : XPT} {n : Nat} {h : AH} {k sl : Nat} {pc : Nat} {lv lv' : List (Nat × Value)} {st : List Value}
theorem r_less (hs : ∀ q ∈ lv', q ∈ lv) (kk : RJ l g M R TG XP n h k sl pc lv' st) : RJ l g M R TG XP n h k sl pc lv st := fun p e s m args below meth c H locs ls E hR hS hl => kk p e s m args below meth c H locs ls E hR hS (lv_less hl hs)
theorem r_heap {h' : AH} (e : h = h') (kk : RJ l g M R TG XP n h' k sl pc lv st) : RJ l g M R TG XP n h k sl pc lv st := e ▸ kk
theorem r_at {lv' : List (Nat × Value)} {st' : List Value} {h' : AH} (kk : RJ l g M R TG XP n h' k sl pc lv' st') (e1 : h = h') (e2 : lv = lv') (e3 : st = st') : RJ l g M R TG XP n h k sl pc lv st := by subst e1 e2 e3; exact kk
theorem r_widen {k' sl' : Nat} (h1 : k ≤ k') (h2 : sl ≤ sl') (kk : RJ l g M R TG XP n h k' sl' pc lv st) : RJ l g M R TG XP n h k sl pc lv st := fun p e s m args below meth c H locs ls E hR hS hl => W.widen h1 h2 (kk p e s m args below meth c H locs ls E hR hS hl)
theorem r_iadd {x y : Int32} (hd : decode M.2.1 pc = .ok (.iadd, 1)) (kk : RJ l g M R TG XP n h k sl (pc + 1) lv (.int (x + y) :: st)) : RJ l g M R TG XP n h k sl pc lv (.int y :: .int x :: st) := fun p e s m args below meth c H locs ls E hR hS hl => lv_iadd E.1 E.2.1 hd (kk p e s m args below meth c H locs ls E hR hS hl)
theorem r_isub {x y : Int32} (hd : decode M.2.1 pc = .ok (.isub, 1)) (kk : RJ l g M R TG XP n h k sl (pc + 1) lv (.int (x - y) :: st)) : RJ l g M R TG XP n h k sl pc lv (.int y :: .int x :: st) := fun p e s m args below meth c H locs ls E hR hS hl => lv_isub E.1 E.2.1 hd (kk p e s m args below meth c H locs ls E hR hS hl)
theorem r_imul {x y : Int32} (hd : decode M.2.1 pc = .ok (.imul, 1)) (kk : RJ l g M R TG XP n h k sl (pc + 1) lv (.int (x * y) :: st)) : RJ l g M R TG XP n h k sl pc lv (.int y :: .int x :: st) := fun p e s m args below meth c H locs ls E hR hS hl => lv_imul E.1 E.2.1 hd (kk p e s m args below meth c H locs ls E hR hS hl)
theorem r_iand {x y : Int32} (hd : decode M.2.1 pc = .ok (.iand, 1)) (kk : RJ l g M R TG XP n h k sl (pc + 1) lv (.int (x &&& y) :: st)) : RJ l g M R TG XP n h k sl pc lv (.int y :: .int x :: st) := fun p e s m args below meth c H locs ls E hR hS hl => lv_iand E.1 E.2.1 hd (kk p e s m args below meth c H locs ls E hR hS hl)
theorem r_ixor {x y : Int32} (hd : decode M.2.1 pc = .ok (.ixor, 1)) (kk : RJ l g M R TG XP n h k sl (pc + 1) lv (.int (x ^^^ y) :: st)) : RJ l g M R TG XP n h k sl pc lv (.int y :: .int x :: st) := fun p e s m args below meth c H locs ls E hR hS hl => lv_ixor E.1 E.2.1 hd (kk p e s m args below meth c H locs ls E hR hS hl)
theorem r_ishl {x y : Int32} (hd : decode M.2.1 pc = .ok (.ishl, 1)) (kk : RJ l g M R TG XP n h k sl (pc + 1) lv (.int (x <<< (y &&& 31)) :: st)) : RJ l g M R TG XP n h k sl pc lv (.int y :: .int x :: st) := fun p e s m args below meth c H locs ls E hR hS hl => lv_ishl E.1 E.2.1 hd (kk p e s m args below meth c H locs ls E hR hS hl)
theorem r_ishr {x y : Int32} (hd : decode M.2.1 pc = .ok (.ishr, 1)) (kk : RJ l g M R TG XP n h k sl (pc + 1) lv (.int (x >>> (y &&& 31)) :: st)) : RJ l g M R TG XP n h k sl pc lv (.int y :: .int x :: st) := fun p e s m args below meth c H locs ls E hR hS hl => lv_ishr E.1 E.2.1 hd (kk p e s m args below meth c H locs ls E hR hS hl)
theorem r_idiv {x y : Int32} (hd : decode M.2.1 pc = .ok (.idiv, 1)) (hne : ¬ y = 0) (kk : RJ l g M R TG XP n h k sl (pc + 1) lv (.int (x / y) :: st)) : RJ l g M R TG XP n h k sl pc lv (.int y :: .int x :: st) := fun p e s m args below meth c H locs ls E hR hS hl => lv_idiv E.1 E.2.1 hd hne (kk p e s m args below meth c H locs ls E hR hS hl)
theorem r_irem {x y : Int32} (hd : decode M.2.1 pc = .ok (.irem, 1)) (hne : ¬ y = 0) (kk : RJ l g M R TG XP n h k sl (pc + 1) lv (.int (x - x / y * y) :: st)) : RJ l g M R TG XP n h k sl pc lv (.int y :: .int x :: st) := fun p e s m args below meth c H locs ls E hR hS hl => lv_irem E.1 E.2.1 hd hne (kk p e s m args below meth c H locs ls E hR hS hl)
theorem r_ladd {x y : Int64} (hd : decode M.2.1 pc = .ok (.ladd, 1)) (kk : RJ l g M R TG XP n h k sl (pc + 1) lv (.long (x + y) :: st)) : RJ l g M R TG XP n h k sl pc lv (.long y :: .long x :: st) := fun p e s m args below meth c H locs ls E hR hS hl => lv_ladd E.1 E.2.1 hd (kk p e s m args below meth c H locs ls E hR hS hl)
theorem r_lsub {x y : Int64} (hd : decode M.2.1 pc = .ok (.lsub, 1)) (kk : RJ l g M R TG XP n h k sl (pc + 1) lv (.long (x - y) :: st)) : RJ l g M R TG XP n h k sl pc lv (.long y :: .long x :: st) := fun p e s m args below meth c H locs ls E hR hS hl => lv_lsub E.1 E.2.1 hd (kk p e s m args below meth c H locs ls E hR hS hl)
theorem r_lmul {x y : Int64} (hd : decode M.2.1 pc = .ok (.lmul, 1)) (kk : RJ l g M R TG XP n h k sl (pc + 1) lv (.long (x * y) :: st)) : RJ l g M R TG XP n h k sl pc lv (.long y :: .long x :: st) := fun p e s m args below meth c H locs ls E hR hS hl => lv_lmul E.1 E.2.1 hd (kk p e s m args below meth c H locs ls E hR hS hl)
theorem r_land {x y : Int64} (hd : decode M.2.1 pc = .ok (.land, 1)) (kk : RJ l g M R TG XP n h k sl (pc + 1) lv (.long (x &&& y) :: st)) : RJ l g M R TG XP n h k sl pc lv (.long y :: .long x :: st) := fun p e s m args below meth c H locs ls E hR hS hl => lv_land E.1 E.2.1 hd (kk p e s m args below meth c H locs ls E hR hS hl)
theorem r_lor {x y : Int64} (hd : decode M.2.1 pc = .ok (.lor, 1)) (kk : RJ l g M R TG XP n h k sl (pc + 1) lv (.long (x ||| y) :: st)) : RJ l g M R TG XP n h k sl pc lv (.long y :: .long x :: st) := fun p e s m args below meth c H locs ls E hR hS hl => lv_lor E.1 E.2.1 hd (kk p e s m args below meth c H locs ls E hR hS hl)
theorem r_lshl {x : Int64} {y : Int32} (hd : decode M.2.1 pc = .ok (.lshl, 1)) (kk : RJ l g M R TG XP n h k sl (pc + 1) lv (.long (x <<< (y.toInt64 &&& 63)) :: st)) : RJ l g M R TG XP n h k sl pc lv (.int y :: .long x :: st) := fun p e s m args below meth c H locs ls E hR hS hl => lv_lshl E.1 E.2.1 hd rfl (kk p e s m args below meth c H locs ls E hR hS hl)
theorem r_lshr {x : Int64} {y : Int32} (hd : decode M.2.1 pc = .ok (.lshr, 1)) (kk : RJ l g M R TG XP n h k sl (pc + 1) lv (.long (x >>> (y.toInt64 &&& 63)) :: st)) : RJ l g M R TG XP n h k sl pc lv (.int y :: .long x :: st) := fun p e s m args below meth c H locs ls E hR hS hl => lv_lshr E.1 E.2.1 hd rfl (kk p e s m args below meth c H locs ls E hR hS hl)
theorem r_i2l {x : Int32} (hd : decode M.2.1 pc = .ok (.i2l, 1)) (kk : RJ l g M R TG XP n h k sl (pc + 1) lv (.long x.toInt64 :: st)) : RJ l g M R TG XP n h k sl pc lv (.int x :: st) := fun p e s m args below meth c H locs ls E hR hS hl => lv_i2l E.1 E.2.1 hd rfl (kk p e s m args below meth c H locs ls E hR hS hl)
theorem r_l2i {x : Int64} (hd : decode M.2.1 pc = .ok (.l2i, 1)) (kk : RJ l g M R TG XP n h k sl (pc + 1) lv (.int x.toInt32 :: st)) : RJ l g M R TG XP n h k sl pc lv (.long x :: st) := fun p e s m args below meth c H locs ls E hR hS hl => lv_l2i E.1 E.2.1 hd rfl (kk p e s m args below meth c H locs ls E hR hS hl)
theorem r_lcmp {x y : Int64} (hd : decode M.2.1 pc = .ok (.lcmp, 1)) (kk : RJ l g M R TG XP n h k sl (pc + 1) lv (.int (lg_cmp x y) :: st)) : RJ l g M R TG XP n h k sl pc lv (.long y :: .long x :: st) := fun p e s m args below meth c H locs ls E hR hS hl => W.lcmp E.1 E.2.1 hd (kk p e s m args below meth c H locs ls E hR hS hl)
theorem r_dup {v : Value} (hd : decode M.2.1 pc = .ok (.dup, 1)) (hv : v.category = 1) (kk : RJ l g M R TG XP n h k sl (pc + 1) lv (v :: v :: st)) : RJ l g M R TG XP n h k sl pc lv (v :: st) := fun p e s m args below meth c H locs ls E hR hS hl => lv_dup E.1 E.2.1 hd hv (kk p e s m args below meth c H locs ls E hR hS hl)
theorem r_pop {v : Value} (hd : decode M.2.1 pc = .ok (.pop, 1)) (hv : v.category = 1) (kk : RJ l g M R TG XP n h k sl (pc + 1) lv (st)) : RJ l g M R TG XP n h k sl pc lv (v :: st) := fun p e s m args below meth c H locs ls E hR hS hl => lv_pop E.1 E.2.1 hd hv (kk p e s m args below meth c H locs ls E hR hS hl)
theorem r_dup2 {v w : Value} (hd : decode M.2.1 pc = .ok (.dup2, 1)) (hv : v.category = 1) (hw : w.category = 1) (kk : RJ l g M R TG XP n h k sl (pc + 1) lv (v :: w :: v :: w :: st)) : RJ l g M R TG XP n h k sl pc lv (v :: w :: st) := fun p e s m args below meth c H locs ls E hR hS hl => lv_dup2_11 E.1 E.2.1 hd hv hw (kk p e s m args below meth c H locs ls E hR hS hl)
theorem r_iconst {a : Int} {v : Int32} (hd : decode M.2.1 pc = .ok (.iconst a, 1)) (hv : Int32.ofInt a = v) (kk : RJ l g M R TG XP n h k sl (pc + 1) lv (.int v :: st)) : RJ l g M R TG XP n h k sl pc lv (st) := fun p e s m args below meth c H locs ls E hR hS hl => lv_iconst E.1 E.2.1 hd hv (kk p e s m args below meth c H locs ls E hR hS hl)
theorem r_bipush {a : Int} {v : Int32} (hd : decode M.2.1 pc = .ok (.bipush a, 2)) (hv : (Int8.ofInt a).toInt32 = v) (kk : RJ l g M R TG XP n h k sl (pc + 2) lv (.int v :: st)) : RJ l g M R TG XP n h k sl pc lv (st) := fun p e s m args below meth c H locs ls E hR hS hl => lv_bipush E.1 E.2.1 hd hv (kk p e s m args below meth c H locs ls E hR hS hl)
theorem r_sipush {a : Int} {v : Int32} (hd : decode M.2.1 pc = .ok (.sipush a, 3)) (hv : (Int16.ofInt a).toInt32 = v) (kk : RJ l g M R TG XP n h k sl (pc + 3) lv (.int v :: st)) : RJ l g M R TG XP n h k sl pc lv (st) := fun p e s m args below meth c H locs ls E hR hS hl => lv_sipush E.1 E.2.1 hd hv (kk p e s m args below meth c H locs ls E hR hS hl)
theorem r_ldc2 {i : Nat} {v : Int64} (hd : decode M.2.1 pc = .ok (.ldc2_w i, 3)) (hw : Cond.constantLong M.1.cls i v ∈ tblG) (kk : RJ l g M R TG XP n h k sl (pc + 3) lv (.long v :: st)) : RJ l g M R TG XP n h k sl pc lv (st) := fun p e s m args below meth c H locs ls E hR hS hl => lv_ldc2 E.1 E.2.1 E.2.2.2.2.2.1 (E.2.2.2.2.2.2.1 _ hw) hd (kk p e s m args below meth c H locs ls E hR hS hl)
theorem r_iload_n {f : Fin 4} {x : Int32} (hd : decode M.2.1 pc = .ok (.iload_n f, 1)) (j : Nat) (hj : lv[j]? = some ((f : Nat), .int x)) (kk : RJ l g M R TG XP n h k sl (pc + 1) lv (.int x :: st)) : RJ l g M R TG XP n h k sl pc lv (st) := fun p e s m args below meth c H locs ls E hR hS hl => lv_iload_n E.1 E.2.1 hd rfl (lv_at hl j hj) (kk p e s m args below meth c H locs ls E hR hS hl)
theorem r_iload {f : Nat} {x : Int32} (hd : decode M.2.1 pc = .ok (.iload f, 2)) (j : Nat) (hj : lv[j]? = some (f, .int x)) (kk : RJ l g M R TG XP n h k sl (pc + 2) lv (.int x :: st)) : RJ l g M R TG XP n h k sl pc lv (st) := fun p e s m args below meth c H locs ls E hR hS hl => lv_iload E.1 E.2.1 hd (lv_at hl j hj) (kk p e s m args below meth c H locs ls E hR hS hl)
theorem r_istore_n {f : Fin 4} {x : Int32} (hd : decode M.2.1 pc = .ok (.istore_n f, 1)) (hn : (f : Nat) < M.2.2.1) (hl' : ls1 (f : Nat) (.int x) lv = lv') (kk : RJ l g M R TG XP n h k sl (pc + 1) lv' st) : RJ l g M R TG XP n h k sl pc lv (.int x :: st) := fun p e s m args below meth c H locs ls E hR hS hl => lv_istore_n E.1 E.2.1 hd rfl hl hn rfl (fun ls' h' => kk p e s m args below meth c H locs ls' E hR hS (by rw [← hl']; exact lv_lins h'))
theorem r_istore {f : Nat} {x : Int32} (hd : decode M.2.1 pc = .ok (.istore f, 2)) (hn : f < M.2.2.1) (hl' : ls1 f (.int x) lv = lv') (kk : RJ l g M R TG XP n h k sl (pc + 2) lv' st) : RJ l g M R TG XP n h k sl pc lv (.int x :: st) := fun p e s m args below meth c H locs ls E hR hS hl => lv_istore E.1 E.2.1 hd hl hn rfl (fun ls' h' => kk p e s m args below meth c H locs ls' E hR hS (by rw [← hl']; exact lv_lins h'))
theorem r_lload_n {f : Fin 4} {x : Int64} (hd : decode M.2.1 pc = .ok (.lload_n f, 1)) (j : Nat) (hj : lv[j]? = some ((f : Nat), .long x)) (kk : RJ l g M R TG XP n h k sl (pc + 1) lv (.long x :: st)) : RJ l g M R TG XP n h k sl pc lv (st) := fun p e s m args below meth c H locs ls E hR hS hl => lv_lload_n E.1 E.2.1 hd rfl (lv_at hl j hj) (kk p e s m args below meth c H locs ls E hR hS hl)
theorem r_lload {f : Nat} {x : Int64} (hd : decode M.2.1 pc = .ok (.lload f, 2)) (j : Nat) (hj : lv[j]? = some (f, .long x)) (kk : RJ l g M R TG XP n h k sl (pc + 2) lv (.long x :: st)) : RJ l g M R TG XP n h k sl pc lv (st) := fun p e s m args below meth c H locs ls E hR hS hl => lv_lload E.1 E.2.1 hd (lv_at hl j hj) (kk p e s m args below meth c H locs ls E hR hS hl)
theorem r_lstore_n {f : Fin 4} {x : Int64} (hd : decode M.2.1 pc = .ok (.lstore_n f, 1)) (hn : (f : Nat) + 1 < M.2.2.1) (hl' : ls2 (f : Nat) (.long x) lv = lv') (kk : RJ l g M R TG XP n h k sl (pc + 1) lv' st) : RJ l g M R TG XP n h k sl pc lv (.long x :: st) := fun p e s m args below meth c H locs ls E hR hS hl => lv_lstore_n E.1 E.2.1 hd rfl hl hn rfl (fun ls' h' => kk p e s m args below meth c H locs ls' E hR hS (by rw [← hl']; exact lv_lins h'))
theorem r_lstore {f : Nat} {x : Int64} (hd : decode M.2.1 pc = .ok (.lstore f, 2)) (hn : f + 1 < M.2.2.1) (hl' : ls2 f (.long x) lv = lv') (kk : RJ l g M R TG XP n h k sl (pc + 2) lv' st) : RJ l g M R TG XP n h k sl pc lv (.long x :: st) := fun p e s m args below meth c H locs ls E hR hS hl => lv_lstore E.1 E.2.1 hd hl hn rfl (fun ls' h' => kk p e s m args below meth c H locs ls' E hR hS (by rw [← hl']; exact lv_lins h'))
theorem r_aload_n {f : Fin 4} {x : Nat} (hd : decode M.2.1 pc = .ok (.aload_n f, 1)) (j : Nat) (hj : lv[j]? = some ((f : Nat), .ref x)) (kk : RJ l g M R TG XP n h k sl (pc + 1) lv (.ref x :: st)) : RJ l g M R TG XP n h k sl pc lv (st) := fun p e s m args below meth c H locs ls E hR hS hl => lv_aload_n E.1 E.2.1 hd rfl (lv_at hl j hj) (kk p e s m args below meth c H locs ls E hR hS hl)
theorem r_aload {f : Nat} {x : Nat} (hd : decode M.2.1 pc = .ok (.aload f, 2)) (j : Nat) (hj : lv[j]? = some (f, .ref x)) (kk : RJ l g M R TG XP n h k sl (pc + 2) lv (.ref x :: st)) : RJ l g M R TG XP n h k sl pc lv (st) := fun p e s m args below meth c H locs ls E hR hS hl => lv_aload E.1 E.2.1 hd (lv_at hl j hj) (kk p e s m args below meth c H locs ls E hR hS hl)
theorem r_astore_n {f : Fin 4} {x : Nat} (hd : decode M.2.1 pc = .ok (.astore_n f, 1)) (hn : (f : Nat) < M.2.2.1) (hl' : ls1 (f : Nat) (.ref x) lv = lv') (kk : RJ l g M R TG XP n h k sl (pc + 1) lv' st) : RJ l g M R TG XP n h k sl pc lv (.ref x :: st) := fun p e s m args below meth c H locs ls E hR hS hl => lv_astore_n E.1 E.2.1 hd rfl hl hn rfl (fun ls' h' => kk p e s m args below meth c H locs ls' E hR hS (by rw [← hl']; exact lv_lins h'))
theorem r_astore {f : Nat} {x : Nat} (hd : decode M.2.1 pc = .ok (.astore f, 2)) (hn : f < M.2.2.1) (hl' : ls1 f (.ref x) lv = lv') (kk : RJ l g M R TG XP n h k sl (pc + 2) lv' st) : RJ l g M R TG XP n h k sl pc lv (.ref x :: st) := fun p e s m args below meth c H locs ls E hR hS hl => lv_astore E.1 E.2.1 hd hl hn rfl (fun ls' h' => kk p e s m args below meth c H locs ls' E hR hS (by rw [← hl']; exact lv_lins h'))
theorem r_iinc {f : Nat} {a : Int} {x v : Int32} (hd : decode M.2.1 pc = .ok (.iinc f a, 3)) (j : Nat) (hj : lv[j]? = some (f, .int x)) (hv : x + Int32.ofInt a = v) (hn : f < M.2.2.1) (hl' : ls1 f (.int v) lv = lv') (kk : RJ l g M R TG XP n h k sl (pc + 3) lv' st) : RJ l g M R TG XP n h k sl pc lv st := fun p e s m args below meth c H locs ls E hR hS hl => lv_iinc E.1 E.2.1 hd hl hj hv hn rfl (fun ls' h' => kk p e s m args below meth c H locs ls' E hR hS (by rw [← hl']; exact lv_lins h'))
theorem r_iincN {f a : Nat} (hd : decode M.2.1 pc = .ok (.iinc f 1, 3)) (j : Nat) (hj : lv[j]? = some (f, .int (nI a))) (hn : f < M.2.2.1) (hl' : ls1 f (.int (nI (a + 1))) lv = lv') (kk : RJ l g M R TG XP n h k sl (pc + 3) lv' st) : RJ l g M R TG XP n h k sl pc lv st := r_iinc hd j hj (nI_1 a) hn hl' kk
theorem r_iincD {f a : Nat} (hd : decode M.2.1 pc = .ok (.iinc f (-1), 3)) (j : Nat) (hj : lv[j]? = some (f, .int (nI (a + 1)))) (hn : f < M.2.2.1) (hl' : ls1 f (.int (nI a)) lv = lv') (kk : RJ l g M R TG XP n h k sl (pc + 3) lv' st) : RJ l g M R TG XP n h k sl pc lv st := r_iinc hd j hj (pk_m1 a) hn hl' kk
theorem r_goto {off : Int} {tgt : Nat} (hd : decode M.2.1 pc = .ok (.goto off, 3)) (ht : (pc : Int) + off = (tgt : Int)) (kk : RJ l g M R TG XP n h k sl tgt lv st) : RJ l g M R TG XP n h k sl pc lv st := fun p e s m args below meth c H locs ls E hR hS hl => lv_goto E.1 E.2.1 hd ht (kk p e s m args below meth c H locs ls E hR hS hl)
theorem r_if_eq {x : Int32} {off : Int} {tgt : Nat} (hd : decode M.2.1 pc = .ok (.ifCond .eq off, 3)) (ht : (pc : Int) + off = (tgt : Int)) (kt : x = 0 → RJ l g M R TG XP n h k sl tgt lv st) (kf : ¬ x = 0 → RJ l g M R TG XP n h k sl (pc + 3) lv st) : RJ l g M R TG XP n h k sl pc lv (.int x :: st) := fun p e s m args below meth c H locs ls E hR hS hl => lv_if_eq E.1 E.2.1 hd ht (fun q => kt q p e s m args below meth c H locs ls E hR hS hl) (fun q => kf q p e s m args below meth c H locs ls E hR hS hl)
theorem r_icmp_eq {x y : Int32} {off : Int} {tgt : Nat} (hd : decode M.2.1 pc = .ok (.if_icmp .eq off, 3)) (ht : (pc : Int) + off = (tgt : Int)) (kt : x = y → RJ l g M R TG XP n h k sl tgt lv st) (kf : ¬ x = y → RJ l g M R TG XP n h k sl (pc + 3) lv st) : RJ l g M R TG XP n h k sl pc lv (.int y :: .int x :: st) := fun p e s m args below meth c H locs ls E hR hS hl => lv_icmp_eq E.1 E.2.1 hd ht (fun q => kt q p e s m args below meth c H locs ls E hR hS hl) (fun q => kf q p e s m args below meth c H locs ls E hR hS hl)
theorem r_if_ne {x : Int32} {off : Int} {tgt : Nat} (hd : decode M.2.1 pc = .ok (.ifCond .ne off, 3)) (ht : (pc : Int) + off = (tgt : Int)) (kt : ¬ x = 0 → RJ l g M R TG XP n h k sl tgt lv st) (kf : x = 0 → RJ l g M R TG XP n h k sl (pc + 3) lv st) : RJ l g M R TG XP n h k sl pc lv (.int x :: st) := fun p e s m args below meth c H locs ls E hR hS hl => lv_if_ne E.1 E.2.1 hd ht (fun q => kt q p e s m args below meth c H locs ls E hR hS hl) (fun q => kf q p e s m args below meth c H locs ls E hR hS hl)
theorem r_icmp_ne {x y : Int32} {off : Int} {tgt : Nat} (hd : decode M.2.1 pc = .ok (.if_icmp .ne off, 3)) (ht : (pc : Int) + off = (tgt : Int)) (kt : ¬ x = y → RJ l g M R TG XP n h k sl tgt lv st) (kf : x = y → RJ l g M R TG XP n h k sl (pc + 3) lv st) : RJ l g M R TG XP n h k sl pc lv (.int y :: .int x :: st) := fun p e s m args below meth c H locs ls E hR hS hl => lv_icmp_ne E.1 E.2.1 hd ht (fun q => kt q p e s m args below meth c H locs ls E hR hS hl) (fun q => kf q p e s m args below meth c H locs ls E hR hS hl)
theorem r_if_lt {x : Int32} {off : Int} {tgt : Nat} (hd : decode M.2.1 pc = .ok (.ifCond .lt off, 3)) (ht : (pc : Int) + off = (tgt : Int)) (kt : x < 0 → RJ l g M R TG XP n h k sl tgt lv st) (kf : ¬ x < 0 → RJ l g M R TG XP n h k sl (pc + 3) lv st) : RJ l g M R TG XP n h k sl pc lv (.int x :: st) := fun p e s m args below meth c H locs ls E hR hS hl => lv_if_lt E.1 E.2.1 hd ht (fun q => kt q p e s m args below meth c H locs ls E hR hS hl) (fun q => kf q p e s m args below meth c H locs ls E hR hS hl)
theorem r_icmp_lt {x y : Int32} {off : Int} {tgt : Nat} (hd : decode M.2.1 pc = .ok (.if_icmp .lt off, 3)) (ht : (pc : Int) + off = (tgt : Int)) (kt : x < y → RJ l g M R TG XP n h k sl tgt lv st) (kf : ¬ x < y → RJ l g M R TG XP n h k sl (pc + 3) lv st) : RJ l g M R TG XP n h k sl pc lv (.int y :: .int x :: st) := fun p e s m args below meth c H locs ls E hR hS hl => lv_icmp_lt E.1 E.2.1 hd ht (fun q => kt q p e s m args below meth c H locs ls E hR hS hl) (fun q => kf q p e s m args below meth c H locs ls E hR hS hl)
theorem r_if_ge {x : Int32} {off : Int} {tgt : Nat} (hd : decode M.2.1 pc = .ok (.ifCond .ge off, 3)) (ht : (pc : Int) + off = (tgt : Int)) (kt : 0 ≤ x → RJ l g M R TG XP n h k sl tgt lv st) (kf : ¬ 0 ≤ x → RJ l g M R TG XP n h k sl (pc + 3) lv st) : RJ l g M R TG XP n h k sl pc lv (.int x :: st) := fun p e s m args below meth c H locs ls E hR hS hl => lv_if_ge E.1 E.2.1 hd ht (fun q => kt q p e s m args below meth c H locs ls E hR hS hl) (fun q => kf q p e s m args below meth c H locs ls E hR hS hl)
theorem r_icmp_ge {x y : Int32} {off : Int} {tgt : Nat} (hd : decode M.2.1 pc = .ok (.if_icmp .ge off, 3)) (ht : (pc : Int) + off = (tgt : Int)) (kt : y ≤ x → RJ l g M R TG XP n h k sl tgt lv st) (kf : ¬ y ≤ x → RJ l g M R TG XP n h k sl (pc + 3) lv st) : RJ l g M R TG XP n h k sl pc lv (.int y :: .int x :: st) := fun p e s m args below meth c H locs ls E hR hS hl => lv_icmp_ge E.1 E.2.1 hd ht (fun q => kt q p e s m args below meth c H locs ls E hR hS hl) (fun q => kf q p e s m args below meth c H locs ls E hR hS hl)
theorem r_if_gt {x : Int32} {off : Int} {tgt : Nat} (hd : decode M.2.1 pc = .ok (.ifCond .gt off, 3)) (ht : (pc : Int) + off = (tgt : Int)) (kt : 0 < x → RJ l g M R TG XP n h k sl tgt lv st) (kf : ¬ 0 < x → RJ l g M R TG XP n h k sl (pc + 3) lv st) : RJ l g M R TG XP n h k sl pc lv (.int x :: st) := fun p e s m args below meth c H locs ls E hR hS hl => lv_if_gt E.1 E.2.1 hd ht (fun q => kt q p e s m args below meth c H locs ls E hR hS hl) (fun q => kf q p e s m args below meth c H locs ls E hR hS hl)
theorem r_icmp_gt {x y : Int32} {off : Int} {tgt : Nat} (hd : decode M.2.1 pc = .ok (.if_icmp .gt off, 3)) (ht : (pc : Int) + off = (tgt : Int)) (kt : y < x → RJ l g M R TG XP n h k sl tgt lv st) (kf : ¬ y < x → RJ l g M R TG XP n h k sl (pc + 3) lv st) : RJ l g M R TG XP n h k sl pc lv (.int y :: .int x :: st) := fun p e s m args below meth c H locs ls E hR hS hl => lv_icmp_gt E.1 E.2.1 hd ht (fun q => kt q p e s m args below meth c H locs ls E hR hS hl) (fun q => kf q p e s m args below meth c H locs ls E hR hS hl)
theorem r_if_le {x : Int32} {off : Int} {tgt : Nat} (hd : decode M.2.1 pc = .ok (.ifCond .le off, 3)) (ht : (pc : Int) + off = (tgt : Int)) (kt : x ≤ 0 → RJ l g M R TG XP n h k sl tgt lv st) (kf : ¬ x ≤ 0 → RJ l g M R TG XP n h k sl (pc + 3) lv st) : RJ l g M R TG XP n h k sl pc lv (.int x :: st) := fun p e s m args below meth c H locs ls E hR hS hl => lv_if_le E.1 E.2.1 hd ht (fun q => kt q p e s m args below meth c H locs ls E hR hS hl) (fun q => kf q p e s m args below meth c H locs ls E hR hS hl)
theorem r_icmp_le {x y : Int32} {off : Int} {tgt : Nat} (hd : decode M.2.1 pc = .ok (.if_icmp .le off, 3)) (ht : (pc : Int) + off = (tgt : Int)) (kt : x ≤ y → RJ l g M R TG XP n h k sl tgt lv st) (kf : ¬ x ≤ y → RJ l g M R TG XP n h k sl (pc + 3) lv st) : RJ l g M R TG XP n h k sl pc lv (.int y :: .int x :: st) := fun p e s m args below meth c H locs ls E hR hS hl => lv_icmp_le E.1 E.2.1 hd ht (fun q => kt q p e s m args below meth c H locs ls E hR hS hl) (fun q => kf q p e s m args below meth c H locs ls E hR hS hl)
theorem r_icmp_eqN {a b : Nat} {off : Int} {tgt : Nat} (hd : decode M.2.1 pc = .ok (.if_icmp .eq off, 3)) (ht : (pc : Int) + off = (tgt : Int)) (ha : a < 2 ^ 31) (hb : b < 2 ^ 31) (kt : a = b → RJ l g M R TG XP n h k sl tgt lv st) (kf : ¬ a = b → RJ l g M R TG XP n h k sl (pc + 3) lv st) : RJ l g M R TG XP n h k sl pc lv (.int (nI b) :: .int (nI a) :: st) := r_icmp_eq hd ht (fun q => kt ((nI_eq ha hb).mp q)) (fun q => kf (fun z => q ((nI_eq ha hb).mpr z)))
theorem r_icmp_neN {a b : Nat} {off : Int} {tgt : Nat} (hd : decode M.2.1 pc = .ok (.if_icmp .ne off, 3)) (ht : (pc : Int) + off = (tgt : Int)) (ha : a < 2 ^ 31) (hb : b < 2 ^ 31) (kt : ¬ a = b → RJ l g M R TG XP n h k sl tgt lv st) (kf : a = b → RJ l g M R TG XP n h k sl (pc + 3) lv st) : RJ l g M R TG XP n h k sl pc lv (.int (nI b) :: .int (nI a) :: st) := r_icmp_ne hd ht (fun q => kt ((not_congr (nI_eq ha hb)).mp q)) (fun q => kf ((nI_eq ha hb).mp q))
theorem r_icmp_ltN {a b : Nat} {off : Int} {tgt : Nat} (hd : decode M.2.1 pc = .ok (.if_icmp .lt off, 3)) (ht : (pc : Int) + off = (tgt : Int)) (ha : a < 2 ^ 31) (hb : b < 2 ^ 31) (kt : a < b → RJ l g M R TG XP n h k sl tgt lv st) (kf : b ≤ a → RJ l g M R TG XP n h k sl (pc + 3) lv st) : RJ l g M R TG XP n h k sl pc lv (.int (nI b) :: .int (nI a) :: st) := r_icmp_lt hd ht (fun q => kt ((nI_ltI ha hb).mp q)) (fun q => kf (Nat.le_of_not_lt (fun z => q ((nI_ltI ha hb).mpr z))))
theorem r_icmp_geN {a b : Nat} {off : Int} {tgt : Nat} (hd : decode M.2.1 pc = .ok (.if_icmp .ge off, 3)) (ht : (pc : Int) + off = (tgt : Int)) (ha : a < 2 ^ 31) (hb : b < 2 ^ 31) (kt : b ≤ a → RJ l g M R TG XP n h k sl tgt lv st) (kf : a < b → RJ l g M R TG XP n h k sl (pc + 3) lv st) : RJ l g M R TG XP n h k sl pc lv (.int (nI b) :: .int (nI a) :: st) := r_icmp_ge hd ht (fun q => kt ((nI_leI hb ha).mp q)) (fun q => kf (Nat.lt_of_not_le (fun z => q ((nI_leI hb ha).mpr z))))
theorem r_icmp_gtN {a b : Nat} {off : Int} {tgt : Nat} (hd : decode M.2.1 pc = .ok (.if_icmp .gt off, 3)) (ht : (pc : Int) + off = (tgt : Int)) (ha : a < 2 ^ 31) (hb : b < 2 ^ 31) (kt : b < a → RJ l g M R TG XP n h k sl tgt lv st) (kf : a ≤ b → RJ l g M R TG XP n h k sl (pc + 3) lv st) : RJ l g M R TG XP n h k sl pc lv (.int (nI b) :: .int (nI a) :: st) := r_icmp_gt hd ht (fun q => kt ((nI_ltI hb ha).mp q)) (fun q => kf (Nat.le_of_not_lt (fun z => q ((nI_ltI hb ha).mpr z))))
theorem r_icmp_leN {a b : Nat} {off : Int} {tgt : Nat} (hd : decode M.2.1 pc = .ok (.if_icmp .le off, 3)) (ht : (pc : Int) + off = (tgt : Int)) (ha : a < 2 ^ 31) (hb : b < 2 ^ 31) (kt : a ≤ b → RJ l g M R TG XP n h k sl tgt lv st) (kf : b < a → RJ l g M R TG XP n h k sl (pc + 3) lv st) : RJ l g M R TG XP n h k sl pc lv (.int (nI b) :: .int (nI a) :: st) := r_icmp_le hd ht (fun q => kt ((nI_leI ha hb).mp q)) (fun q => kf (Nat.lt_of_not_le (fun z => q ((nI_leI ha hb).mpr z))))
theorem r_if_eqN {a : Nat} {off : Int} {tgt : Nat} (hd : decode M.2.1 pc = .ok (.ifCond .eq off, 3)) (ht : (pc : Int) + off = (tgt : Int)) (ha : a < 2 ^ 31) (kt : a = 0 → RJ l g M R TG XP n h k sl tgt lv st) (kf : ¬ a = 0 → RJ l g M R TG XP n h k sl (pc + 3) lv st) : RJ l g M R TG XP n h k sl pc lv (.int (nI a) :: st) := r_if_eq hd ht (fun q => kt ((nI_eq ha (by decide)).mp (q.trans nI_0.symm))) (fun q => kf (fun z => q (by rw [z]; exact nI_0)))
theorem r_if_neN {a : Nat} {off : Int} {tgt : Nat} (hd : decode M.2.1 pc = .ok (.ifCond .ne off, 3)) (ht : (pc : Int) + off = (tgt : Int)) (ha : a < 2 ^ 31) (kt : ¬ a = 0 → RJ l g M R TG XP n h k sl tgt lv st) (kf : a = 0 → RJ l g M R TG XP n h k sl (pc + 3) lv st) : RJ l g M R TG XP n h k sl pc lv (.int (nI a) :: st) := r_if_ne hd ht (fun q => kt (fun z => q (by rw [z]; exact nI_0))) (fun q => kf (Decidable.byContradiction (fun z => nI_ne0 (Nat.pos_of_ne_zero z) ha q)))
theorem r_if_ltN {a : Nat} {off : Int} {tgt : Nat} (hd : decode M.2.1 pc = .ok (.ifCond .lt off, 3)) (ht : (pc : Int) + off = (tgt : Int)) (ha : a < 2 ^ 31) (kt : False → RJ l g M R TG XP n h k sl tgt lv st) (kf : True → RJ l g M R TG XP n h k sl (pc + 3) lv st) : RJ l g M R TG XP n h k sl pc lv (.int (nI a) :: st) := r_if_lt hd ht (fun q => absurd q (nI_pos ha)) (fun q => kf trivial)
theorem r_if_geN {a : Nat} {off : Int} {tgt : Nat} (hd : decode M.2.1 pc = .ok (.ifCond .ge off, 3)) (ht : (pc : Int) + off = (tgt : Int)) (ha : a < 2 ^ 31) (kt : True → RJ l g M R TG XP n h k sl tgt lv st) (kf : False → RJ l g M R TG XP n h k sl (pc + 3) lv st) : RJ l g M R TG XP n h k sl pc lv (.int (nI a) :: st) := r_if_ge hd ht (fun q => kt trivial) (fun q => absurd (nI_pos' ha) q)
theorem r_if_gtN {a : Nat} {off : Int} {tgt : Nat} (hd : decode M.2.1 pc = .ok (.ifCond .gt off, 3)) (ht : (pc : Int) + off = (tgt : Int)) (ha : a < 2 ^ 31) (kt : 0 < a → RJ l g M R TG XP n h k sl tgt lv st) (kf : a = 0 → RJ l g M R TG XP n h k sl (pc + 3) lv st) : RJ l g M R TG XP n h k sl pc lv (.int (nI a) :: st) := r_if_gt hd ht (fun q => kt (Nat.pos_of_ne_zero (fun z => by rw [z] at q; exact absurd q (by decide)))) (fun q => kf (Decidable.byContradiction (fun z => q (Int32.not_le.mp (nI_nle (Nat.pos_of_ne_zero z) ha)))))
theorem r_if_leN {a : Nat} {off : Int} {tgt : Nat} (hd : decode M.2.1 pc = .ok (.ifCond .le off, 3)) (ht : (pc : Int) + off = (tgt : Int)) (ha : a < 2 ^ 31) (kt : a = 0 → RJ l g M R TG XP n h k sl tgt lv st) (kf : 0 < a → RJ l g M R TG XP n h k sl (pc + 3) lv st) : RJ l g M R TG XP n h k sl pc lv (.int (nI a) :: st) := r_if_le hd ht (fun q => kt (Decidable.byContradiction (fun z => nI_nle (Nat.pos_of_ne_zero z) ha q))) (fun q => kf (Nat.pos_of_ne_zero (fun z => q (by rw [z]; decide))))
def b2 (b : Bool) : Int32 := if b then 1 else 0
theorem b2_0 {b : Bool} : b2 b = 0 ↔ b = false := by cases b <;> decide
theorem b2_f : b2 false = nI 0 := rfl
theorem b2_t : b2 true = nI 1 := rfl
theorem r_if_eqB {b : Bool} {off : Int} {tgt : Nat} (hd : decode M.2.1 pc = .ok (.ifCond .eq off, 3)) (ht : (pc : Int) + off = (tgt : Int)) (kt : b = false → RJ l g M R TG XP n h k sl tgt lv st) (kf : b = true → RJ l g M R TG XP n h k sl (pc + 3) lv st) : RJ l g M R TG XP n h k sl pc lv (.int (b2 b) :: st) := r_if_eq hd ht (fun q => kt (b2_0.mp q)) (fun q => kf (by cases b; exact absurd rfl q; rfl))
theorem r_if_neB {b : Bool} {off : Int} {tgt : Nat} (hd : decode M.2.1 pc = .ok (.ifCond .ne off, 3)) (ht : (pc : Int) + off = (tgt : Int)) (kt : b = true → RJ l g M R TG XP n h k sl tgt lv st) (kf : b = false → RJ l g M R TG XP n h k sl (pc + 3) lv st) : RJ l g M R TG XP n h k sl pc lv (.int (b2 b) :: st) := r_if_ne hd ht (fun q => kt (by cases b; exact absurd rfl q; rfl)) (fun q => kf (b2_0.mp q))
theorem r_tsw {d lo hi : Int} {offs : Array Int} {len : Nat} {x : Int32} {off : Int} {tgt : Nat} (hd : decode M.2.1 pc = .ok (.tableswitch d lo hi offs, len)) (h1 : ¬ x.toInt < lo) (h2 : ¬ hi < x.toInt) (ho : offs[(x.toInt - lo).toNat]? = some off) (ht : (pc : Int) + off = (tgt : Int)) (kk : RJ l g M R TG XP n h k sl tgt lv st) : RJ l g M R TG XP n h k sl pc lv (.int x :: st) := fun p e s m args below meth c H locs ls E hR hS hl => lv_tableIn E.1 E.2.1 hd h1 h2 ho ht (kk p e s m args below meth c H locs ls E hR hS hl)
theorem r_tswO {d lo hi : Int} {offs : Array Int} {len : Nat} {x : Int32} {tgt : Nat} (hd : decode M.2.1 pc = .ok (.tableswitch d lo hi offs, len)) (h1 : x.toInt < lo ∨ hi < x.toInt) (ht : (pc : Int) + d = (tgt : Int)) (kk : RJ l g M R TG XP n h k sl tgt lv st) : RJ l g M R TG XP n h k sl pc lv (.int x :: st) := fun p e s m args below meth c H locs ls E hR hS hl => lv_tableOut E.1 E.2.1 hd h1 ht (kk p e s m args below meth c H locs ls E hR hS hl)
theorem r_top {x y : Int32} (e : x = y) (kk : RJ l g M R TG XP n h k sl pc lv (.int y :: st)) : RJ l g M R TG XP n h k sl pc lv (.int x :: st) := by subst e; exact kk
theorem r_iaddN {a b : Nat} (hd : decode M.2.1 pc = .ok (.iadd, 1)) (kk : RJ l g M R TG XP n h k sl (pc + 1) lv (.int (nI (a + b)) :: st)) : RJ l g M R TG XP n h k sl pc lv (.int (nI b) :: .int (nI a) :: st) := r_iadd hd (r_top (nI_add a b) kk)
theorem r_imulN {a b : Nat} (hd : decode M.2.1 pc = .ok (.imul, 1)) (kk : RJ l g M R TG XP n h k sl (pc + 1) lv (.int (nI (a * b)) :: st)) : RJ l g M R TG XP n h k sl pc lv (.int (nI b) :: .int (nI a) :: st) := r_imul hd (r_top (pk_mul a b) kk)
theorem r_isubN {a b : Nat} (hd : decode M.2.1 pc = .ok (.isub, 1)) (hab : b ≤ a) (kk : RJ l g M R TG XP n h k sl (pc + 1) lv (.int (nI (a - b)) :: st)) : RJ l g M R TG XP n h k sl pc lv (.int (nI b) :: .int (nI a) :: st) := r_isub hd (r_top (pk_sub hab) kk)
theorem r_idivN {a b : Nat} (hd : decode M.2.1 pc = .ok (.idiv, 1)) (ha : a < 2 ^ 31) (h0 : 0 < b) (hb : b < 2 ^ 31) (kk : RJ l g M R TG XP n h k sl (pc + 1) lv (.int (nI (a / b)) :: st)) : RJ l g M R TG XP n h k sl pc lv (.int (nI b) :: .int (nI a) :: st) := r_idiv hd (nI_ne0 h0 hb) (r_top (pk_div ha h0 hb) kk)
theorem nI_xor (a b : Nat) : nI a ^^^ nI b = nI (a ^^^ b) := by
  apply Int32.toBitVec_inj.mp
  simp [nI, BitVec.ofNat_xor]
theorem r_ixorN {a b : Nat} (hd : decode M.2.1 pc = .ok (.ixor, 1)) (kk : RJ l g M R TG XP n h k sl (pc + 1) lv (.int (nI (a ^^^ b)) :: st)) : RJ l g M R TG XP n h k sl pc lv (.int (nI b) :: .int (nI a) :: st) := r_ixor hd (r_top (nI_xor a b) kk)
end RULES
end
section
section HEAP
variable {l : Launch} {g : GX} {M : MT} {R : Room} {TG : TGT} {XP : XPT} {n : Nat} {h h' : AH} {k sl : Nat} {pc : Nat} {lv lv' : List (Nat × Value)} {st : List Value}
theorem r_get {C : String} {T : u_T} {N ci kf index a : Nat} {fs : List Value} {v : Value} (hcl : CL[ci]? = some (C, T, N)) (hin : ∀ w ∈ u_ws C T N, w ∈ tblG) (hk : kf < N) (hw : Cond.fieldLink M.1.cls index (T kf).1 (T kf).2.1 (T kf).2.2.1 ∈ tblG)
    (hd : decode M.2.1 pc = .ok (.getfield index, 3)) (hc : h a = some (.inr (ci, fs))) (hv : fs[kf]? = some v) (kk : RJ l g M R TG XP n h k sl (pc + 3) lv (v :: st)) : RJ l g M R TG XP n h k sl pc lv (.ref a :: st) := by
  intro p e s m args below meth c H locs ls E hR hS hl
  exact va_get (D := g.2.1) E.1 E.2.1 E.2.2.2.2.2.2.1 hin E.2.2.2.2.2.1 E.2.2.2.2.2.2.2.1.1 (va_P1 (hR.2.2 a _ hc)) 0 rfl hcl kf hk (E.2.2.2.2.2.2.1 _ hw) (fun _ h9 => h9) hv hd (kk p e s m args below meth c H locs ls E hR hS hl)
theorem r_getN {C host : String} {T : u_T} {N ci kf index a : Nat} {fs : List Value} {v : Value} (hcl : CL[ci]? = some (C, T, N)) (hin : ∀ w ∈ u_ws C T N, w ∈ tblG) (hk : kf < N) (hw : Cond.fieldLinkNest M.1.cls index (T kf).1 (T kf).2.1 (T kf).2.2.1 host ∈ SPW)
    (hd : decode M.2.1 pc = .ok (.getfield index, 3)) (hc : h a = some (.inr (ci, fs))) (hv : fs[kf]? = some v) (kk : RJ l g M R TG XP n h k sl (pc + 3) lv (v :: st)) : RJ l g M R TG XP n h k sl pc lv (.ref a :: st) := by
  intro p e s m args below meth c H locs ls E hR hS hl
  exact va_getN (D := g.2.1) E.1 E.2.1 E.2.2.2.2.2.2.1 hin E.2.2.2.2.2.1 E.2.2.2.2.2.2.2.1.1 (va_P1 (hR.2.2 a _ hc)) 0 rfl hcl kf hk (va_Nw.use rfl (E.2.2.2.2.2.2.2.1.2 _ hw)) (fun _ h9 => h9) hv hd (kk p e s m args below meth c H locs ls E hR hS hl)
theorem r_put {C : String} {T : u_T} {N ci kf index a : Nat} {fs fs' : List Value} {v : Value} {ty : FieldType} (hcl : CL[ci]? = some (C, T, N)) (hin : ∀ w ∈ u_ws C T N, w ∈ tblG) (ty0 : Nat → FieldType) (hty : ∀ k, k < N → parseFieldDescriptor (T k).2.2.1 = some (ty0 k)) (hnm : ∀ a, a < N → ∀ b, b < N → a ≠ b → (T a).2.1 ≠ (T b).2.1) (hk : kf < N) (hfin : (T kf).2.2.2 = false) (hd0 : ty0 kf = ty) (hw : Cond.fieldLink M.1.cls index (T kf).1 (T kf).2.1 (T kf).2.2.1 ∈ tblG)
    (hd : decode M.2.1 pc = .ok (.putfield index, 3)) (hn : narrow ty v = v) (hfit : fits ty v = true) (hc : h a = some (.inr (ci, fs))) (hlen : kf < fs.length) (hfs : fs.set kf v = fs') (hh : updH h a (.inr (ci, fs')) = h') (kk : RJ l g M R TG XP n h' k sl (pc + 3) lv st) : RJ l g M R TG XP n h k sl pc lv (v :: .ref a :: st) := by
  intro p e s m args below meth c H locs ls E hR hS hl
  have hts := E.2.2.2.2.2.2.1
  have hK := E.2.2.2.2.2.2.2.1.1
  have hap := va_apart (own := M.1.cls) hts hin ty0 hty hnm hK hcl
  obtain ⟨r, h1, cell, q1, q2, q3, q4⟩ := hR.2.2 a _ hc
  have hr : r = (C, T, N) := Option.some.inj (h1.symm.trans hcl)
  subst hr
  obtain ⟨hSl, hfc, kC, hkC, hkind⟩ := hK.1 ci _ hcl
  obtain ⟨cf, kf2, fi, f, hi, hsl⟩ := hSl kf hk
  have hlay := hts _ (hin _ (u_in_lay hk))
  unfold u_lay at hlay
  rw [if_neg (by rw [hfin]; decide)] at hlay
  have hst := (u_facts hfc hkC (u_lays hts hin hk) hi).1
  have h6 := u_store hfc hkC hkind hlay hi (by rw [hty kf hk, hd0]) hn hfit
  refine W.putK E.1 E.2.1 (f := f) ⟨E.2.2.2.2.2.1, hts _ hw, ⟨_, _, _, hi⟩, hst⟩ (by rw [q2]; exact h6) q1 q3 (by rw [hsl]; exact k2_hasslot (q4 kf hk)) rfl rfl hd fun H' e1 e2 e3 => ?_
  rw [hsl] at e1 ⊢
  refine kk p e s m args below meth c H' _ ls E ?_ (hS.put e2 e3 (hR.2.1 a _ hc)) hl
  rw [← hh, ← hfs]
  exact hR.set hc e2 e3 ⟨_, hcl, t_OB.to (V := updV (vp_V fs) kf v) ⟨_, e1, q2, q3, t_set q4 hap hk v⟩ (fun j _ => vp_updV_set hlen v j)⟩
theorem r_putN {C host : String} {T : u_T} {N ci kf index a : Nat} {fs fs' : List Value} {v : Value} {ty : FieldType} (hcl : CL[ci]? = some (C, T, N)) (hin : ∀ w ∈ u_ws C T N, w ∈ tblG) (ty0 : Nat → FieldType) (hty : ∀ k, k < N → parseFieldDescriptor (T k).2.2.1 = some (ty0 k)) (hnm : ∀ a, a < N → ∀ b, b < N → a ≠ b → (T a).2.1 ≠ (T b).2.1) (hk : kf < N) (hfin : (T kf).2.2.2 = false) (hd0 : ty0 kf = ty) (hw : Cond.fieldLinkNest M.1.cls index (T kf).1 (T kf).2.1 (T kf).2.2.1 host ∈ SPW)
    (hd : decode M.2.1 pc = .ok (.putfield index, 3)) (hn : narrow ty v = v) (hfit : fits ty v = true) (hc : h a = some (.inr (ci, fs))) (hlen : kf < fs.length) (hfs : fs.set kf v = fs') (hh : updH h a (.inr (ci, fs')) = h') (kk : RJ l g M R TG XP n h' k sl (pc + 3) lv st) : RJ l g M R TG XP n h k sl pc lv (v :: .ref a :: st) := by
  intro p e s m args below meth c H locs ls E hR hS hl
  have hts := E.2.2.2.2.2.2.1
  have hK := E.2.2.2.2.2.2.2.1.1
  have hap := va_apart (own := M.1.cls) hts hin ty0 hty hnm hK hcl
  obtain ⟨r, h1, cell, q1, q2, q3, q4⟩ := hR.2.2 a _ hc
  have hr : r = (C, T, N) := Option.some.inj (h1.symm.trans hcl)
  subst hr
  obtain ⟨hSl, hfc, kC, hkC, hkind⟩ := hK.1 ci _ hcl
  obtain ⟨cf, kf2, fi, f, hi, hsl⟩ := hSl kf hk
  have hlay := hts _ (hin _ (u_in_lay hk))
  unfold u_lay at hlay
  rw [if_neg (by rw [hfin]; decide)] at hlay
  have hst := (u_facts hfc hkC (u_lays hts hin hk) hi).1
  have h6 := u_store hfc hkC hkind hlay hi (by rw [hty kf hk, hd0]) hn hfit
  refine va_WputK E.1 E.2.1 E.2.2.2.2.2.1 (va_Nw.use rfl (E.2.2.2.2.2.2.2.1.2 _ hw)) hi hst (by rw [q2]; exact h6) q1 q3 (by rw [hsl]; exact k2_hasslot (q4 kf hk)) rfl rfl hd fun H' e1 e2 e3 => ?_
  rw [hsl] at e1 ⊢
  refine kk p e s m args below meth c H' _ ls E ?_ (hS.put e2 e3 (hR.2.1 a _ hc)) hl
  rw [← hh, ← hfs]
  exact hR.set hc e2 e3 ⟨_, hcl, t_OB.to (V := updV (vp_V fs) kf v) ⟨_, e1, q2, q3, t_set q4 hap hk v⟩ (fun j _ => vp_updV_set hlen v j)⟩
theorem r_putF {C : String} {T : u_T} {N ci kf index a : Nat} {fs fs' : List Value} {v : Value} {ty : FieldType} (hcl : CL[ci]? = some (C, T, N)) (hin : ∀ w ∈ u_ws C T N, w ∈ tblG) (ty0 : Nat → FieldType) (hty : ∀ k, k < N → parseFieldDescriptor (T k).2.2.1 = some (ty0 k)) (hnm : ∀ a, a < N → ∀ b, b < N → a ≠ b → (T a).2.1 ≠ (T b).2.1) (hk : kf < N) (hfin : (T kf).2.2.2 = true) (hd0 : ty0 kf = ty) (hw : Cond.fieldLink M.1.cls index (T kf).1 (T kf).2.1 (T kf).2.2.1 ∈ tblG) (hinit : M.1.name = "<init>") (hdecl : (T kf).1 = M.1.cls)
    (hd : decode M.2.1 pc = .ok (.putfield index, 3)) (hn : narrow ty v = v) (hfit : fits ty v = true) (hc : h a = some (.inr (ci, fs))) (hlen : kf < fs.length) (hfs : fs.set kf v = fs') (hh : updH h a (.inr (ci, fs')) = h') (kk : RJ l g M R TG XP n h' k sl (pc + 3) lv st) : RJ l g M R TG XP n h k sl pc lv (v :: .ref a :: st) := by
  intro p e s m args below meth c H locs ls E hR hS hl
  have hts := E.2.2.2.2.2.2.1
  have hown := E.2.2.2.2.2.1
  have hK := E.2.2.2.2.2.2.2.1.1
  have hap := va_apart (own := M.1.cls) hts hin ty0 hty hnm hK hcl
  obtain ⟨r, h1, cell, q1, q2, q3, q4⟩ := hR.2.2 a _ hc
  have hr : r = (C, T, N) := Option.some.inj (h1.symm.trans hcl)
  subst hr
  obtain ⟨hSl, hfc, kC, hkC, hkind⟩ := hK.1 ci _ hcl
  obtain ⟨cf, kf2, fi, f, hi, hsl⟩ := hSl kf hk
  have hlay := hts _ (hin _ (u_in_lay hk))
  unfold u_lay at hlay
  rw [if_pos hfin] at hlay
  have hst := (u_facts hfc hkC (u_lays hts hin hk) hi).1
  have hcf : m.cls = cf := by
    obtain ⟨_, _, c', _, _, _, -, -, hf', -, -, -, hown2, -⟩ := Cond.laysFinal_spec hlay
    have e1 : c' = cf := by have := hi.symm.trans hf'; simp at this; exact this.1.symm
    rw [hdecl] at hown2
    rw [← e1]; exact Option.some.inj (hown.symm.trans hown2)
  have h6 := u_fits hfc hkC hkind (Or.inr hlay) hi (by rw [hty kf hk, hd0]) hn hfit
  refine W.putFinK E.1 E.2.1 hown (hts _ hw) hi hst hcf (E.2.2.2.2.2.2.2.2.1.trans hinit) (by rw [q2]; exact h6) q1 q3 (by rw [hsl]; exact k2_hasslot (q4 kf hk)) rfl rfl hd fun H' e1 e2 e3 => ?_
  rw [hsl] at e1 ⊢
  refine kk p e s m args below meth c H' _ ls E ?_ (hS.put e2 e3 (hR.2.1 a _ hc)) hl
  rw [← hh, ← hfs]
  exact hR.set hc e2 e3 ⟨_, hcl, t_OB.to (V := updV (vp_V fs) kf v) ⟨_, e1, q2, q3, t_set q4 hap hk v⟩ (fun j _ => vp_updV_set hlen v j)⟩
-- arrays: 0 int, 1 boolean, 2 Node, 3 Holding, 4 int[]
def nF (f : Nat → Nat) : Nat → Int32 := fun j => nI (f j)
def bF (f : Nat → Bool) : Nat → Int32 := fun j => b2 (f j)
def upN {α : Type} (f : Nat → α) (j : Nat) (v : α) : Nat → α := fun q => if q = j then v else f q
theorem vp_in_j {j N : Nat} (hj : j < N) (hN : N < 2 ^ 31) : vp_in (nI j) N := vp_in_nI hj hN
theorem TYS_arr {g : GX} {s : State} (hK : KX g s) (t : Nat) {cA : ClassId} {ty : FieldType} (ht : (TYS g)[t]? = some (cA, ty)) : ArrOfT s cA ty := (hK.1.2 t _ ht).1
theorem r_ald {a t j N : Nat} {f : Nat → Int32} (hd : decode M.2.1 pc = .ok (.iaload, 1)) (hc : h a = some (.inl (0, N, .inl f))) (hj : j < N) (hN : N < 2 ^ 31) (kk : RJ l g M R TG XP n h k sl (pc + 1) lv (.int (f j) :: st)) : RJ l g M R TG XP n h k sl pc lv (.int (nI j) :: .ref a :: st) := by
  intro p e s m args below meth c H locs ls E hR hS hl
  refine va_iald (D := g.2.1) E.1 E.2.1 E.2.2.2.2.2.2.2.1.1 (va_P1 (hR.2.2 a _ hc)) 0 0 rfl rfl (vp_in_j hj hN) hd ?_
  rw [nI_clamp (by omega)]
  exact kk p e s m args below meth c H locs ls E hR hS hl
theorem r_aldN {a j N : Nat} {f : Nat → Nat} (hd : decode M.2.1 pc = .ok (.iaload, 1)) (hc : h a = some (.inl (0, N, .inl (nF f)))) (hj : j < N) (hN : N < 2 ^ 31) (kk : RJ l g M R TG XP n h k sl (pc + 1) lv (.int (nI (f j)) :: st)) : RJ l g M R TG XP n h k sl pc lv (.int (nI j) :: .ref a :: st) := r_ald (t := 0) hd hc hj hN kk
theorem r_zldB {a j N : Nat} {f : Nat → Bool} (hd : decode M.2.1 pc = .ok (.baload, 1)) (hc : h a = some (.inl (1, N, .inl (bF f)))) (hj : j < N) (hN : N < 2 ^ 31) (kk : RJ l g M R TG XP n h k sl (pc + 1) lv (.int (b2 (f j)) :: st)) : RJ l g M R TG XP n h k sl pc lv (.int (nI j) :: .ref a :: st) := by
  intro p e s m args below meth c H locs ls E hR hS hl
  refine va_zald (D := g.2.1) E.1 E.2.1 E.2.2.2.2.2.2.2.1.1 (va_P1 (hR.2.2 a _ hc)) 0 1 rfl rfl (vp_in_j hj hN) hd ?_
  rw [nI_clamp (by omega)]
  exact kk p e s m args below meth c H locs ls E hR hS hl
theorem r_qld {a t j N q : Nat} {C : String} {f : Nat → Option Nat} (ht : (TYS g)[t]? = some (g.2.2 t, .object C)) (hd : decode M.2.1 pc = .ok (.aaload, 1)) (hc : h a = some (.inl (t, N, .inr (.inr (.inr (.inr f)))))) (hj : j < N) (hN : N < 2 ^ 31) (hf : f j = some q) (kk : RJ l g M R TG XP n h k sl (pc + 1) lv (.ref q :: st)) : RJ l g M R TG XP n h k sl pc lv (.int (nI j) :: .ref a :: st) := by
  intro p e s m args below meth c H locs ls E hR hS hl
  refine va_aldq (D := g.2.1) E.1 E.2.1 E.2.2.2.2.2.2.2.1.1 (va_P1 (hR.2.2 a _ hc)) 0 t rfl ht (vp_in_j hj hN) hd ?_
  rw [nI_clamp (by omega), hf]
  exact kk p e s m args below meth c H locs ls E hR hS hl
theorem r_gld {a j N q : Nat} {f : Nat → Option Nat} (hd : decode M.2.1 pc = .ok (.aaload, 1)) (hc : h a = some (.inl (4, N, .inr (.inr (.inr (.inr f)))))) (hj : j < N) (hN : N < 2 ^ 31) (hf : f j = some q) (kk : RJ l g M R TG XP n h k sl (pc + 1) lv (.ref q :: st)) : RJ l g M R TG XP n h k sl pc lv (.int (nI j) :: .ref a :: st) := by
  intro p e s m args below meth c H locs ls E hR hS hl
  have hin := vp_in_j hj hN
  have hlt : (nI j).toNatClampNeg < N := by rw [nI_clamp (by omega)]; exact hj
  refine W.aald (v := .ref q) (ty := .array .int) E.1 E.2.1 (hR.2.2 a _ hc) (TYS_arr E.2.2.2.2.2.2.2.1 4 rfl N (fun j => va_rf (f j))) rfl (fun q => by cases q) (by show ¬ (_ ∨ (arrV _ _ _).slots.size ≤ _); rw [arrV_size]; exact hin) (by show (arrV _ _ _).slots[_]? = _; rw [arrV_read _ _ hlt, nI_clamp (by omega), hf]; rfl) rfl rfl hd ?_
  exact kk p e s m args below meth c H locs ls E hR hS hl
theorem r_alen {a t : Nat} {x : vp_A} {ty : FieldType} {v : Int32} (ht : (TYS g)[t]? = some (g.2.2 t, ty)) (hd : decode M.2.1 pc = .ok (.arraylength, 1)) (hc : h a = some (.inl (t, x))) (hv : Int32.ofNat x.1 = v) (kk : RJ l g M R TG XP n h k sl (pc + 1) lv (.int v :: st)) : RJ l g M R TG XP n h k sl pc lv (.ref a :: st) := by
  intro p e s m args below meth c H locs ls E hR hS hl
  exact va_alen (D := g.2.1) E.1 E.2.1 E.2.2.2.2.2.2.2.1.1 (va_P1 (hR.2.2 a _ hc)) 0 t rfl ht hv hd (kk p e s m args below meth c H locs ls E hR hS hl)
theorem r_ast {a j N : Nat} {f f' : Nat → Int32} {x : Int32} (hd : decode M.2.1 pc = .ok (.iastore, 1)) (hc : h a = some (.inl (0, N, .inl f))) (hj : j < N) (hN : N < 2 ^ 31) (hf : upN f j x = f') (hh : updH h a (.inl (0, N, .inl f')) = h') (kk : RJ l g M R TG XP n h' k sl (pc + 1) lv st) : RJ l g M R TG XP n h k sl pc lv (.int x :: .int (nI j) :: .ref a :: st) := by
  intro p e s m args below meth c H locs ls E hR hS hl
  have hin := vp_in_j hj hN
  refine W.iast E.1 E.2.1 (hR.2.2 a _ hc) (TYS_arr E.2.2.2.2.2.2.2.1 0 rfl N (fun j => .int (f j))) (fun q => by cases q) (by show ¬ (_ ∨ (arrV _ _ _).slots.size ≤ _); rw [arrV_size]; exact hin) rfl rfl hd fun H1 e1 z oq => ?_
  refine kk p e s m args below meth c H1 _ ls E ?_ (hS.put z oq (hR.2.1 a _ hc)) hl
  rw [← hh]
  refine hR.set hc z oq ?_
  show H1[a]? = some (vp_cell _ _)
  rw [e1, ← hf]
  show some ((vp_cell (g.2.2 0) (N, .inl f)).setSlot _ _) = some (vp_cell (g.2.2 0) (N, .inl _))
  rw [vp_cell_i, vp_cell_i, arrV_store, nI_clamp (by omega)]
  congr 2
  funext q
  by_cases hq : q = j
  · subst hq
    simp [updV, upN]
  · simp [updV, upN, hq]
theorem r_astN {a j N v : Nat} {f : Nat → Nat} (hd : decode M.2.1 pc = .ok (.iastore, 1)) (hc : h a = some (.inl (0, N, .inl (nF f)))) (hj : j < N) (hN : N < 2 ^ 31) (hh : updH h a (.inl (0, N, .inl (nF (upN f j v)))) = h') (kk : RJ l g M R TG XP n h' k sl (pc + 1) lv st) : RJ l g M R TG XP n h k sl pc lv (.int (nI v) :: .int (nI j) :: .ref a :: st) := by
  refine r_ast hd hc hj hN ?_ hh kk
  funext q
  by_cases hq : q = j <;> simp [upN, nF, hq]
theorem r_zast {a j N : Nat} {f : Nat → Bool} {x : Int32} {b : Bool} (hd : decode M.2.1 pc = .ok (.bastore, 1)) (hx : x = b2 b) (hc : h a = some (.inl (1, N, .inl (bF f)))) (hj : j < N) (hN : N < 2 ^ 31) (hh : updH h a (.inl (1, N, .inl (bF (upN f j b)))) = h') (kk : RJ l g M R TG XP n h' k sl (pc + 1) lv st) : RJ l g M R TG XP n h k sl pc lv (.int x :: .int (nI j) :: .ref a :: st) := by
  intro p e s m args below meth c H locs ls E hR hS hl
  have hin := vp_in_j hj hN
  refine W.zast E.1 E.2.1 (hR.2.2 a _ hc) (TYS_arr E.2.2.2.2.2.2.2.1 1 rfl N (fun j => .int (bF f j))) (fun q => by cases q) (by show ¬ (_ ∨ (arrV _ _ _).slots.size ≤ _); rw [arrV_size]; exact hin) rfl rfl hd fun H1 e1 z oq => ?_
  refine kk p e s m args below meth c H1 _ ls E ?_ (hS.put z oq (hR.2.1 a _ hc)) hl
  rw [← hh]
  refine hR.set hc z oq ?_
  show H1[a]? = some (vp_cell _ _)
  rw [e1]
  show some ((vp_cell (g.2.2 1) (N, .inl (bF f))).setSlot _ _) = some (vp_cell (g.2.2 1) (N, .inl _))
  rw [vp_cell_i, vp_cell_i, arrV_store, nI_clamp (by omega)]
  congr 2
  funext q
  by_cases hq : q = j
  · subst hq hx
    cases b <;> simp [updV, upN, bF, b2] <;> rfl
  · simp [updV, upN, hq, bF]
theorem r_qst {a t j N ci v : Nat} {C : String} {T : u_T} {N2 : Nat} {f f' : Nat → Option Nat} {vs : List Value} (ht : (TYS g)[t]? = some (g.2.2 t, .object C)) (hcl : CL[ci]? = some (C, T, N2)) (hd : decode M.2.1 pc = .ok (.aastore, 1)) (hc : h a = some (.inl (t, N, .inr (.inr (.inr (.inr f)))))) (hv : h v = some (.inr (ci, vs))) (hj : j < N) (hN : N < 2 ^ 31) (hf : upN f j (some v) = f') (hh : updH h a (.inl (t, N, .inr (.inr (.inr (.inr f'))))) = h') (kk : RJ l g M R TG XP n h' k sl (pc + 1) lv st) : RJ l g M R TG XP n h k sl pc lv (.ref v :: .int (nI j) :: .ref a :: st) := by
  intro p e s m args below meth c H locs ls E hR hS hl
  have hin := vp_in_j hj hN
  have hlt : (nI j).toNatClampNeg < N := by rw [nI_clamp (by omega)]; exact hj
  have h0 : ¬ nI j < 0 := fun q => hin (Or.inl q)
  have hK := E.2.2.2.2.2.2.2.1.1
  obtain ⟨r', hr', cellV, g1, g2, g3, -⟩ := hR.2.2 v _ hv
  have hcls := (hK.1 ci _ hcl).2
  obtain ⟨kA, comp, k1, k2, k3, -⟩ := (hK.2 t _ ht).2
  have hcomp : comp = g.2.1.1 ci := Option.some.inj (k3.symm.trans hcls.1)
  subst hcomp
  obtain ⟨kC, hkC, -⟩ := hcls.2
  refine W.aast E.1 E.2.1 (hR.2.2 a _ hc) (fun q h => by cases h) (fun h => by cases h) k1 k2 rfl hkC ⟨h0, by show _ < (arrV _ _ _).slots.size; rw [arrV_size]; exact hlt⟩ g1 (fun q h => by rw [g3] at h; cases h) (by rw [g2]; exact hkC) (by rw [g2]; exact va_assign hcls) rfl rfl hd fun H1 e1 z oq => ?_
  refine kk p e s m args below meth c H1 _ ls E ?_ (hS.put z oq (hR.2.1 a _ hc)) hl
  rw [← hh]
  refine hR.set hc z oq ?_
  show H1[a]? = some (vp_cell _ _)
  rw [e1, ← hf]
  show some ((vp_cell (g.2.2 t) (N, .inr (.inr (.inr (.inr f))))).setSlot _ _) = some (vp_cell (g.2.2 t) (N, .inr (.inr (.inr (.inr _)))))
  rw [vp_cell_q, vp_cell_q, arrV_store, nI_clamp (by omega)]
  congr 2
  funext q
  by_cases hq : q = j
  · subst hq
    simp [updV, upN, va_rf]
  · simp [updV, upN, hq]
end HEAP
end
section
section CALLS
variable {l : Launch} {g : GX} {M : MT} {R : Room} {TG : TGT} {XP : XPT} {n : Nat} {h h' : AH} {k sl : Nat} {pc : Nat} {lv lv' : List (Nat × Value)} {st : List Value}
theorem pc_blind {g : GX} {n : Nat} {h : AH} {As : List Value} : FrameBlind (va_Pc As (fun U => HR g n h U.heap ∧ KX g U)) := fun a U gf mk q => ⟨q.1, q.2.1, KX.moved (U := U.calling gf mk a) (State.WarmedH.refl U) q.2.2⟩
/-- behind a call -/
theorem r_back {M' : MT} {mc ms n' : Nat} {h' : AH} {r : Option Value} {a : Array Value} {p : Program} {e : Env} {s : State} {m : MethodId} {args : Array Value} {below : List Frame} {meth : Method} {c : Code} {H : Heap} {locs : List Loc} {ls : Array Slot} {st0 : List Value}
    (E : EVX g M XP p s m args meth c) (hS : va_S (fun q : Nat => g.1 ≤ q) s.heap H locs) (hl : lv_has ls M.2.2.1 lv) (hH : g.1 ≤ H.size)
    (hr : va_Run p l e R s m args below meth c H locs k sl mc ms (F0 m pc ls st0) st (QX g (QE r n' h') a) (fun q : Nat => g.1 ≤ q))
    (kk : RJ l g M R TG XP n' h' (k + mc) (sl + ms) (pc + 3) lv (r.toList ++ st)) : W p l e R s m args below meth c H locs k sl (TG args s below) (F0 m pc ls st0) := by
  intro T hT X
  obtain ⟨v, st₀, t, T', L, h0, X', hL, e1, e2, ⟨v2, n2, h2, hv, ⟨q1, q2, q3⟩, hR2, hz, hk⟩, stp⟩ := hr T hT X
  cases hv
  subst q1 q2 q3
  rw [h0] at hz hk
  obtain ⟨t2, a1, b1⟩ := kk p e s m args below meth c T'.heap (locs ++ L) ls E (by rw [e1]; exact hR2)
    ⟨Nat.le_trans hS.1 (by rw [e1]; exact hz), fun q h1 h2 => by rw [e1, hk q (Nat.lt_of_lt_of_le h1 hS.1) h2]; exact hS.2.1 q h1 h2, fun q hq => by
      rcases List.mem_append.mp hq with h | h
      · exact hS.2.2 q h
      · exact hL q h⟩ hl T' rfl X'
  exact ⟨t2, stp t2 a1, b1⟩
theorem cw_in {M' : MT} (hc : Cond.code M'.1 M'.2.1 M'.2.2.1 M'.2.2.2 ∈ tblG) : GoodIn tblG (Cond.code M'.1 M'.2.1 M'.2.2.1 M'.2.2.2 :: tblG) := gi_cons hc gi_tbl
theorem r_cV {M' : MT} {index d' mc' ms' b n' np ci : Nat} {As : List Value} {fs : List Value} {r : Option Value} {stk : List Value} {q : vw_C} (hM : CE l g M' d' mc' ms' (.ref b :: As) n h r n' h')
    (w1 : Cond.methodLink M.1.cls index M'.1 ∈ tblG) (w2 : Cond.instanceMethod M'.1 ∈ tblG) (w3 : Cond.selects M'.1.cls M'.1 M'.1 ∈ tblG) (w4 : Cond.initialized M'.1.cls ∈ tblG) (w5 : Cond.code M'.1 M'.2.1 M'.2.2.1 M'.2.2.2 ∈ tblG)
    (hy : M'.1.cls ≠ "java/lang/invoke/MethodHandle" ∧ M'.1.cls ≠ "java/lang/invoke/VarHandle" ∧ (parseMethodDescriptor M'.1.desc).map (fun d => d.parameters.length) = some np) (hn : As.length = np)
    (hd : decode M.2.1 pc = .ok (.invokevirtual index, 3)) (hcl : CL[ci]? = some q) (hC : q.1 = M'.1.cls) (hb : h b = some (.inr (ci, fs))) (hR0 : d' + 1 ≤ R.frames ∧ 8 + (M'.2.2.1 + 11) + 36 * d' ≤ R.locals) (hcells : k + mc' ≤ R.cells ∧ sl + ms' ≤ R.slots)
    (hs : As.reverse ++ .ref b :: st = stk) (hst : (st.map fun v => v.category).sum ≤ 8) (kk : RJ l g M R TG XP n' h' (k + mc') (sl + ms') (pc + 3) lv (r.toList ++ st)) : RJ l g M R TG XP n h k sl pc lv stk := by
  intro p e s m args below meth c H locs ls E hR hS hl
  subst hs
  have hts := E.2.2.2.2.2.2.1
  have hK := E.2.2.2.2.2.2.2.1
  have cw : CallW R s args M.1.cls M'.1.cls index M'.1 M'.2.1 M'.2.2.1 M'.2.2.2 (Cond.code M'.1 M'.2.1 M'.2.2.1 M'.2.2.2 :: tblG) (RMX d' mc' ms') mc' ms' np :=
    cwV np hts (fun w hw => by
      rcases List.mem_append.mp hw with h | h
      · rcases List.mem_cons.mp h with e | h
        · rw [e]; exact gi_tbl _ w1
        · rcases List.mem_cons.mp h with e | h
          · rw [e]; exact gi_tbl _ w2
          · rcases List.mem_cons.mp h with e | h
            · rw [e]; exact gi_tbl _ w3
            · rcases List.mem_cons.mp h with e | h
              · rw [e]; exact gi_tbl _ w4
              · cases h
      · exact cw_in w5 w h) rfl rfl rfl ⟨rfl, hy⟩ hR0
  refine r_back (M' := M') E hS hl (Nat.le_trans E.2.2.2.2.2.2.2.2.2.1 hS.1) (va_runV (As := As) (b := b) (rest := st) ⟨E.1, E.2.1, E.2.2.1, E.2.2.2.2.2.1, hts⟩ hM cw ⟨pc_blind, ?_, ?_⟩ rfl hn hl.1 rfl (lv_room hst) hd hcells) kk
  · have hh := va_recv hK.1 (va_P1 (hR.2.2 b _ hb)) hcl (q0 := 0) rfl
    rw [hC] at hh
    exact hh
  · intro U hU hW
    exact ⟨rfl, by rw [hU]; exact hR, KX.moved hW hK⟩
theorem r_cS {M' : MT} {index d' mc' ms' n' np : Nat} {As : List Value} {r : Option Value} {stk : List Value} (hM : CE l g M' d' mc' ms' As n h r n' h')
    (w1 : Cond.methodLink M.1.cls index M'.1 ∈ tblG) (w2 : Cond.static M'.1 ∈ tblG) (w4 : Cond.initialized M.1.cls ∈ tblG) (w5 : Cond.code M'.1 M'.2.1 M'.2.2.1 M'.2.2.2 ∈ tblG)
    (hy : M'.1.cls = M.1.cls ∧ M'.1.cls ≠ "java/lang/invoke/MethodHandle" ∧ M'.1.cls ≠ "java/lang/invoke/VarHandle" ∧ (parseMethodDescriptor M'.1.desc).map (fun d => d.parameters.length) = some np) (hn : As.length = np)
    (hd : decode M.2.1 pc = .ok (.invokestatic index, 3)) (hR0 : d' + 1 ≤ R.frames ∧ 8 + (M'.2.2.1 + 11) + 36 * d' ≤ R.locals) (hcells : k + mc' ≤ R.cells ∧ sl + ms' ≤ R.slots)
    (hs : As.reverse ++ st = stk) (hst : (st.map fun v => v.category).sum ≤ 8) (kk : RJ l g M R TG XP n' h' (k + mc') (sl + ms') (pc + 3) lv (r.toList ++ st)) : RJ l g M R TG XP n h k sl pc lv stk := by
  intro p e s m args below meth c H locs ls E hR hS hl
  subst hs
  have hts := E.2.2.2.2.2.2.1
  have hK := E.2.2.2.2.2.2.2.1
  have cw : CallB R s args M.1.cls index M'.1 M'.2.1 M'.2.2.1 M'.2.2.2 (Cond.code M'.1 M'.2.1 M'.2.2.1 M'.2.2.2 :: tblG) (RMX d' mc' ms') mc' ms' np ∧ (Cond.static M'.1).before args s = true :=
    cwS np hts (fun w hw => by
      rcases List.mem_append.mp hw with h | h
      · rcases List.mem_cons.mp h with e | h
        · rw [e]; exact gi_tbl _ w1
        · rcases List.mem_cons.mp h with e | h
          · rw [e]; exact gi_tbl _ w2
          · rcases List.mem_cons.mp h with e | h
            · rw [e]; exact gi_tbl _ w4
            · cases h
      · exact cw_in w5 w h) rfl rfl rfl hy hR0
  refine r_back (M' := M') E hS hl (Nat.le_trans E.2.2.2.2.2.2.2.2.2.1 hS.1) (va_runS (As := As) (rest := st) ⟨E.1, E.2.1, E.2.2.1, E.2.2.2.2.2.1, hts⟩ hM cw ⟨pc_blind, ?_⟩ rfl hn hl.1 rfl (lv_room hst) hd hcells) kk
  intro U hU hW
  exact ⟨rfl, by rw [hU]; exact hR, KX.moved hW hK⟩
theorem r_cSN {M' : MT} {host : String} {index d' mc' ms' n' np : Nat} {As : List Value} {r : Option Value} {stk : List Value} (hM : CE l g M' d' mc' ms' As n h r n' h')
    (w1 : Cond.methodLinkNest M.1.cls index M'.1 host ∈ SPW) (w2 : Cond.static M'.1 ∈ tblG) (w4 : Cond.initialized M'.1.cls ∈ tblG) (w5 : Cond.code M'.1 M'.2.1 M'.2.2.1 M'.2.2.2 ∈ tblG)
    (hy : M'.1.cls ≠ "java/lang/invoke/MethodHandle" ∧ M'.1.cls ≠ "java/lang/invoke/VarHandle" ∧ (parseMethodDescriptor M'.1.desc).map (fun d => d.parameters.length) = some np) (hn : As.length = np)
    (hd : decode M.2.1 pc = .ok (.invokestatic index, 3)) (hR0 : d' + 1 ≤ R.frames ∧ 8 + (M'.2.2.1 + 11) + 36 * d' ≤ R.locals) (hcells : k + mc' ≤ R.cells ∧ sl + ms' ≤ R.slots)
    (hs : As.reverse ++ st = stk) (hst : (st.map fun v => v.category).sum ≤ 8) (kk : RJ l g M R TG XP n' h' (k + mc') (sl + ms') (pc + 3) lv (r.toList ++ st)) : RJ l g M R TG XP n h k sl pc lv stk := by
  intro p e s m args below meth c H locs ls E hR hS hl
  subst hs
  have hts := E.2.2.2.2.2.2.1
  have hK := E.2.2.2.2.2.2.2.1
  have cn := va_cnB (R := R) (s := s) (args := args) (rm := RMX d' mc' ms') (mc := mc') (ms := ms') np hts (cw_in w5) rfl rfl rfl (hK.2 _ w1) (hts _ w4) hy hR0
  refine r_back (M' := M') E hS hl (Nat.le_trans E.2.2.2.2.2.2.2.2.2.1 hS.1) (va_runSN (As := As) (rest := st) ⟨E.1, E.2.1, E.2.2.1, E.2.2.2.2.2.1, hts⟩ hM ⟨cn, hts _ w2, trivial⟩ ⟨pc_blind, ?_⟩ rfl hn hl.1 rfl (lv_room hst) hd hcells) kk
  intro U hU hW
  exact ⟨rfl, by rw [hU]; exact hR, KX.moved hW hK⟩
theorem r_cI {M' : MT} {index d' mc' ms' b n' np : Nat} {As : List Value} {r : Option Value} {stk : List Value} (hM : CE l g M' d' mc' ms' (.ref b :: As) n h r n' h') (hret : M'.2.2.2 = none) (hnm : M'.1.name = "<init>")
    (w1 : Cond.methodLink M.1.cls index M'.1 ∈ tblG) (w2 : Cond.instanceMethod M'.1 ∈ tblG) (w4 : Cond.initialized M'.1.cls ∈ tblG) (w5 : Cond.code M'.1 M'.2.1 M'.2.2.1 M'.2.2.2 ∈ tblG)
    (hy : M'.1.cls ≠ "java/lang/invoke/MethodHandle" ∧ M'.1.cls ≠ "java/lang/invoke/VarHandle" ∧ (parseMethodDescriptor M'.1.desc).map (fun d => d.parameters.length) = some np) (hn : As.length = np)
    (hd : decode M.2.1 pc = .ok (.invokespecial index, 3)) (hR0 : d' + 1 ≤ R.frames ∧ 8 + (M'.2.2.1 + 11) + 36 * d' ≤ R.locals) (hcells : k + mc' ≤ R.cells ∧ sl + ms' ≤ R.slots)
    (hs : As.reverse ++ .ref b :: st = stk) (hst : (st.map fun v => v.category).sum ≤ 8) (kk : RJ l g M R TG XP n' h' (k + mc') (sl + ms') (pc + 3) lv (r.toList ++ st)) : RJ l g M R TG XP n h k sl pc lv stk := by
  intro p e s m args below meth c H locs ls E hR hS hl
  subst hs
  have hts := E.2.2.2.2.2.2.1
  have hK := E.2.2.2.2.2.2.2.1
  have w5' := w5
  rw [hret] at w5'
  have cb : CallB R s args M.1.cls index M'.1 M'.2.1 M'.2.2.1 none (Cond.code M'.1 M'.2.1 M'.2.2.1 M'.2.2.2 :: tblG) (RMX d' mc' ms') mc' ms' np :=
    callB_of np hts (cw_in w5) (by rw [hret]) rfl rfl (hts _ w4) (hts _ w1) hy hR0
  refine r_back (M' := M') E hS hl (Nat.le_trans E.2.2.2.2.2.2.2.2.2.1 hS.1) (va_runI (As := As) (b := b) (rest := st) ⟨E.1, E.2.1, E.2.2.1, E.2.2.2.2.2.1, hts⟩ hM ⟨cb, hnm, hts _ w2⟩ ⟨pc_blind, ?_⟩ rfl hn hl.1 rfl (lv_room hst) hd hcells) kk
  intro U hU hW
  exact ⟨rfl, by rw [hU]; exact hR, KX.moved hW hK⟩
theorem r_cIN {M' : MT} {host : String} {index d' mc' ms' b n' np : Nat} {As : List Value} {r : Option Value} {stk : List Value} (hM : CE l g M' d' mc' ms' (.ref b :: As) n h r n' h') (hret : M'.2.2.2 = none) (hnm : M'.1.name = "<init>")
    (w1 : Cond.methodLinkNest M.1.cls index M'.1 host ∈ SPW) (w2 : Cond.instanceMethod M'.1 ∈ tblG) (w4 : Cond.initialized M'.1.cls ∈ tblG) (w5 : Cond.code M'.1 M'.2.1 M'.2.2.1 M'.2.2.2 ∈ tblG)
    (hy : M'.1.cls ≠ "java/lang/invoke/MethodHandle" ∧ M'.1.cls ≠ "java/lang/invoke/VarHandle" ∧ (parseMethodDescriptor M'.1.desc).map (fun d => d.parameters.length) = some np) (hn : As.length = np)
    (hd : decode M.2.1 pc = .ok (.invokespecial index, 3)) (hR0 : d' + 1 ≤ R.frames ∧ 8 + (M'.2.2.1 + 11) + 36 * d' ≤ R.locals) (hcells : k + mc' ≤ R.cells ∧ sl + ms' ≤ R.slots)
    (hs : As.reverse ++ .ref b :: st = stk) (hst : (st.map fun v => v.category).sum ≤ 8) (kk : RJ l g M R TG XP n' h' (k + mc') (sl + ms') (pc + 3) lv (r.toList ++ st)) : RJ l g M R TG XP n h k sl pc lv stk := by
  intro p e s m args below meth c H locs ls E hR hS hl
  subst hs
  have hts := E.2.2.2.2.2.2.1
  have hK := E.2.2.2.2.2.2.2.1
  have cn := va_cnB (R := R) (s := s) (args := args) (rm := RMX d' mc' ms') (mc := mc') (ms := ms') np hts (cw_in w5) (ret := none) (by rw [hret]) rfl rfl (hK.2 _ w1) (hts _ w4) hy hR0
  refine r_back (M' := M') E hS hl (Nat.le_trans E.2.2.2.2.2.2.2.2.2.1 hS.1) (va_runIN (As := As) (b := b) (rest := st) ⟨E.1, E.2.1, E.2.2.1, E.2.2.2.2.2.1, hts⟩ hM ⟨cn, hnm, hts _ w2⟩ ⟨pc_blind, ?_⟩ rfl hn hl.1 rfl (lv_room hst) hd hcells) kk
  intro U hU hW
  exact ⟨rfl, by rw [hU]; exact hR, KX.moved hW hK⟩
-- returns
theorem qx_of {g : GX} {s t : State} {H : Heap} {locs : List Loc} {v : Option Value} {Q : Option Value → Nat → AH → Prop} {args : Array Value} (hR : HR g n h H) (hS : va_S (fun q : Nat => g.1 ≤ q) s.heap H locs) (hQ : Q v n h) (ht : t.heap = H) : QX g Q args s (.returned v) t :=
  ⟨v, n, h, rfl, hQ, by rw [ht]; exact hR, hS.F ht⟩
theorem r_ireturn {Q : Option Value → Nat → AH → Prop} {x : Int32} {ty : FieldType} (hd : decode M.2.1 pc = .ok (.ireturn, 1)) (hr : M.2.2.2 = some ty) (hn : narrow ty (.int x) = .int x) (hQ : Q (some (.int x)) n h) : RJ l g M R (TQ g k sl Q) XP n h k sl pc lv [.int x] := by
  intro p e s m args below meth c H locs ls E hR hS hl
  exact W.zret E.1 E.2.1 (E.2.2.2.1.trans hr) hn (fun t ht _ => qx_of hR hS hQ ht) hS.2.2 hd E.2.2.2.2.1
theorem r_lreturn {Q : Option Value → Nat → AH → Prop} {x : Int64} (hd : decode M.2.1 pc = .ok (.lreturn, 1)) (hr : M.2.2.2 = some .long) (hQ : Q (some (.long x)) n h) : RJ l g M R (TQ g k sl Q) XP n h k sl pc lv [.long x] := by
  intro p e s m args below meth c H locs ls E hR hS hl
  exact W.lret E.1 E.2.1 (E.2.2.2.1.trans hr) (fun t ht _ => qx_of hR hS hQ ht) hS.2.2 hd E.2.2.2.2.1
theorem r_return {Q : Option Value → Nat → AH → Prop} (hd : decode M.2.1 pc = .ok (.return_, 1)) (hr : M.2.2.2 = none) (hQ : Q none n h) : RJ l g M R (TQ g k sl Q) XP n h k sl pc lv [] := by
  intro p e s m args below meth c H locs ls E hR hS hl
  exact W.vret E.1 E.2.1 (E.2.2.2.1.trans hr) (fun t ht _ => qx_of hR hS hQ ht) hS.2.2 hd E.2.2.2.2.1
-- making
theorem r_objInit {idx a : Nat} (hd : decode M.2.1 pc = .ok (.invokespecial idx, 3)) (w1 : Cond.methodLink M.1.cls idx Lib.objectInit ∈ tblG) (w2 : Cond.instanceMethod Lib.objectInit ∈ tblG) (w3 : Cond.code Lib.objectInit ⟨#[0xb1]⟩ 1 none ∈ tblG) (hR0 : 1 ≤ R.frames ∧ (st.map fun v => v.category).sum + 12 ≤ R.locals)
    (kk : RJ l g M R TG XP n h k sl (pc + 3) lv st) : RJ l g M R TG XP n h k sl pc lv (.ref a :: st) := by
  intro p e s m args below meth c H locs ls E hR hS hl
  have hts := E.2.2.2.2.2.2.1
  refine W.objInit (a := a) (rest := st) E.1 E.2.1 E.2.2.2.2.2.1 (hts _ w1) (hts _ w2) (hts _ w3) rfl (by rw [E.2.2.1]; exact hl.1) rfl hd hR0.1 (by show 2 * 0 + _ + 12 ≤ _; omega) ?_
  exact kk p e s m args below meth c H locs ls E hR hS hl
theorem r_new {C : String} {T : u_T} {N ci index : Nat} {fs : List Value} (hcl : CL[ci]? = some (C, T, N)) (hin : ∀ w ∈ u_ws C T N, w ∈ tblG) (ty : Nat → FieldType) (hty : ∀ k, k < N → parseFieldDescriptor (T k).2.2.1 = some (ty k)) (w1 : Cond.classLink M.1.cls index C ∈ tblG) (w2 : Cond.instantiable C N ∈ tblG) (w3 : Cond.initialized C ∈ tblG) (hfs : ∀ j, j < N → defaultValue (ty j) = vp_V fs j)
    (hd : decode M.2.1 pc = .ok (.new index, 3)) (hcells : k + 1 ≤ R.cells ∧ sl + N ≤ R.slots) (hh : updH h (g.1 + n) (.inr (ci, fs)) = h') (kk : RJ l g M R TG XP (n + 1) h' (k + 1) (sl + N) (pc + 3) lv (.ref (g.1 + n) :: st)) : RJ l g M R TG XP n h k sl pc lv st := by
  intro p e s m args below meth c H locs ls E hR hS hl
  have hts := E.2.2.2.2.2.2.1
  have hK := E.2.2.2.2.2.2.2.1.1
  have hKn := hK.1 ci _ hcl
  refine W.newcK E.1 E.2.1 E.2.2.2.2.2.1 (hts _ w1) (hts _ w2) (hts _ w3) rfl hd hcells.1 hcells.2 hKn.2.1 rfl fun H1 kC hkC e1 z1 o1 => ?_
  rw [hR.1]
  refine kk p e s m args below meth c H1 locs ls E ?_ ⟨Nat.le_trans hS.1 (by omega), fun q h1 h2 => (o1 q (Nat.lt_of_lt_of_le h1 hS.1)).trans (hS.2.1 q h1 h2), hS.2.2⟩ hl
  rw [← hh]
  exact hR.push z1 o1 ⟨_, hcl, (u_born ty hts hin hKn hkC e1 hty).to hfs⟩
theorem r_newarr {t N : Nat} {atype : ArrayType} {ty : FieldType} {x : Int32} {f : Nat → Int32} (ht : (TYS g)[t]? = some (g.2.2 t, ty)) (hty : newarray.typeOf atype = ty) (hno : ∀ C, ty ≠ .object C) (w1 : Cond.arrayClass ty ∈ tblG) (hd : decode M.2.1 pc = .ok (.newarray atype, 2)) (hx : x = nI N) (hN : N < 65536) (hb : componentBytes ty ≤ 8) (hz : ∀ j, defaultValue ty = .int (f j)) (hcells : k + 1 ≤ R.cells ∧ sl + N ≤ R.slots)
    (hh : updH h (g.1 + n) (.inl (t, N, .inl f)) = h') (kk : RJ l g M R TG XP (n + 1) h' (k + 1) (sl + N) (pc + 2) lv (.ref (g.1 + n) :: st)) : RJ l g M R TG XP n h k sl pc lv (.int x :: st) := by
  intro p e s m args below meth c H locs ls E hR hS hl
  subst hty hx
  have hts := E.2.2.2.2.2.2.1
  have hK := E.2.2.2.2.2.2.2.1.1
  refine va_newaK E.1 E.2.1 (hts _ w1) rfl hd (N := N) rfl (nI_pos (by omega)) (nI_clamp (by omega)) (Nat.le_trans (Nat.mul_le_mul_left N hb) (by omega)) hcells.1 hcells.2 rfl fun H1 cA e1 z1 o1 hAr hNm => ?_
  have hcA : cA = g.2.2 t := by
    have h2 := (hK.2 t _ ht).2
    have h3 : s.vm.findClass ("[" ++ (newarray.typeOf atype).toString) = some (g.2.2 t) := by
      cases atype <;> exact h2
    exact Option.some.inj (hNm.symm.trans h3)
  subst hcA
  rw [hR.1]
  refine kk p e s m args below meth c H1 locs ls E ?_ ⟨Nat.le_trans hS.1 (by omega), fun q h1 h2 => (o1 q (Nat.lt_of_lt_of_le h1 hS.1)).trans (hS.2.1 q h1 h2), hS.2.2⟩ hl
  rw [← hh]
  refine hR.push z1 o1 ?_
  show H1[H.size]? = some (arrV (g.2.2 t) N (fun j => .int (f j)))
  rw [e1]
  congr 2
  funext j
  exact hz j
theorem r_anew {t N index : Nat} {C : String} {x : Int32} (ht : (TYS g)[t]? = some (g.2.2 t, .object C)) (w1 : Cond.classLink M.1.cls index C ∈ tblG) (w2 : Cond.arrayOver (.object C) ∈ SPW) (hd : decode M.2.1 pc = .ok (.anewarray index, 3)) (hx : x = nI N) (hN : N < 65536) (hcells : k + 1 ≤ R.cells ∧ sl + N ≤ R.slots)
    (hh : updH h (g.1 + n) (.inl (t, N, .inr (.inr (.inr (.inr (fun _ => none)))))) = h') (kk : RJ l g M R TG XP (n + 1) h' (k + 1) (sl + N) (pc + 3) lv (.ref (g.1 + n) :: st)) : RJ l g M R TG XP n h k sl pc lv (.int x :: st) := by
  intro p e s m args below meth c H locs ls E hR hS hl
  subst hx
  have hts := E.2.2.2.2.2.2.1
  have hK := E.2.2.2.2.2.2.2.1
  have hcl : (nI N).toNatClampNeg = N := nI_clamp (by omega)
  refine W.anew E.1 E.2.1 E.2.2.2.2.2.1 (hts _ w1) (va_AO.use (hK.2 _ w2)) rfl hd rfl (nI_pos (by omega)) (by rw [hcl]; omega) hcells.1 (by rw [hcl]; exact hcells.2) fun cA kA comp f1 f2 f3 f4 => ?_
  have hcA : cA = g.2.2 t := by
    obtain ⟨kA2, comp2, k1, k2, k3, k4⟩ := (hK.1.2 t _ ht).2
    exact Option.some.inj (by first | exact f4.symm.trans k4 | exact f1.symm.trans k4 | exact (f3.symm.trans k4))
  subst hcA
  rw [hcl, hR.1]
  refine kk p e s m args below meth c _ locs ls E ?_ ⟨Nat.le_trans hS.1 (by simp), fun q h1 h2 => (by rw [Array.getElem?_push, if_neg (Nat.ne_of_lt (Nat.lt_of_lt_of_le h1 hS.1))]; exact hS.2.1 q h1 h2), hS.2.2⟩ hl
  rw [← hh]
  refine hR.push (by simp) (fun q hq => by rw [Array.getElem?_push, if_neg (Nat.ne_of_lt hq)]) ?_
  show _ = some (arrV (g.2.2 t) N (fun j => va_rf none))
  rw [Array.getElem?_push_size]
  rw [show (fun j : Nat => va_rf none) = (fun _ : Nat => Value.null) from rfl, ← arrV_new]
-- the library's own
theorem r_min {index : Nat} {x y : Int32} (hd : decode M.2.1 pc = .ok (.invokestatic index, 3)) (w1 : Cond.methodLink M.1.cls index Lib.Math.min.name ∈ tblG) (w2 : Cond.static Lib.Math.min.name ∈ tblG) (w3 : Cond.initialized "java/lang/Math" ∈ tblG) (w4 : Cond.code Lib.Math.min.name Lib.Math.min.code 2 (some .int) ∈ tblG) (hR0 : 1 ≤ R.frames ∧ (st.map fun v => v.category).sum + 13 ≤ R.locals) (hcells : k ≤ R.cells ∧ sl ≤ R.slots)
    (kk : RJ l g M R TG XP n h k sl (pc + 3) lv (.int (if y < x then y else x) :: st)) : RJ l g M R TG XP n h k sl pc lv (.int y :: .int x :: st) := by
  intro p e s m args below meth c H locs ls E hR hS hl
  have hts := E.2.2.2.2.2.2.1
  exact va_mmin E.1 E.2.1 (by rw [E.2.2.1]; exact hl.1.symm) E.2.2.2.2.2.1 (hts _ w1) (hts _ w2) (hts _ w3) (hts _ w4) hR0.1 hR0.2 hcells.1 hcells.2 hd (kk p e s m args below meth c H locs ls E hR hS hl)
theorem r_acopy {index a0 a n0 n1 sp dp cn : Nat} {f f1 f2 : Nat → Int32} (hd : decode M.2.1 pc = .ok (.invokestatic index, 3)) (w1 : Cond.methodLink M.1.cls index arraycopyName ∈ tblG) (w2 : Cond.native arraycopyName ∈ tblG) (w3 : Cond.static arraycopyName ∈ tblG) (w4 : Cond.initialized "java/lang/System" ∈ tblG) (hc0 : h a0 = some (.inl (0, n0, .inl f))) (hc1 : h a = some (.inl (0, n1, .inl f1)))
    (hb : sp + cn ≤ n0 ∧ dp + cn ≤ n1 ∧ sp < 65536 ∧ dp < 65536 ∧ cn < 65536) (hR0 : 1 ≤ R.frames ∧ (st.map fun v => v.category).sum + (nativeFrameWords "java/lang/System" "arraycopy" 5 + 11) ≤ R.locals)
    (hf : va_cpy f f1 sp dp cn = f2) (hh : updH h a (.inl (0, n1, .inl f2)) = h') (kk : RJ l g M R TG XP n h' k sl (pc + 3) lv st) : RJ l g M R TG XP n h k sl pc lv (.int (nI cn) :: .int (nI dp) :: .ref a :: .int (nI sp) :: .ref a0 :: st) := by
  intro p e s m args below meth c H locs ls E hR hS hl
  have hts := E.2.2.2.2.2.2.1
  obtain ⟨b1, b2, b3, b4, b5⟩ := hb
  have c1 : (nI sp).toNatClampNeg = sp := nI_clamp (by omega)
  have c2 : (nI dp).toNatClampNeg = dp := nI_clamp (by omega)
  have c3 : (nI cn).toNatClampNeg = cn := nI_clamp (by omega)
  intro T hT X
  have g0 : H[a0]? = some (vp_cell (g.2.2 0) (n0, .inl f)) := hR.2.2 a0 _ hc0
  have g1 : H[a]? = some (vp_cell (g.2.2 0) (n1, .inl f1)) := hR.2.2 a _ hc1
  have hA := TYS_arr E.2.2.2.2.2.2.2.1 0 rfl
  obtain ⟨-, k0, hk0, cm0, hkk0⟩ := hA n0 (fun j => .int (f j))
  obtain ⟨-, k1, hk1, cm1, hkk1⟩ := hA n1 (fun j => .int (f1 j))
  have nn : ∀ z : Nat, z < 65536 → (nI z).toInt = (z : Int) := fun z hz => nI_toInt (by omega)
  obtain ⟨vm', X', step⟩ := X.arraycopy E.1 E.2.2.2.2.2.1 (hts _ w1) (hts _ w2) (hts _ w3) (hts _ w4) (src := a0) (dst := a) (cs := vp_cell (g.2.2 0) (n0, .inl f)) (cd := vp_cell (g.2.2 0) (n1, .inl f1)) (srcPos := nI sp) (destPos := nI dp) (n := nI cn) (by rw [hT]; exact g0) (by rw [hT]; exact g1)
    (fun _ h => by cases h) (fun _ h => by cases h) (fun h => by cases h) (fun h => by cases h) hk0 hk1 hkk0 hkk1 (by simp [refKind]) (nI_pos (by omega)) (nI_pos (by omega)) (nI_pos (by omega))
    (by rw [nn sp b3, nn cn b5]; show ¬ _ > ((arrV (g.2.2 0) n0 (fun j => .int (f j))).slots.size : Int); rw [arrV_size]; omega)
    (by rw [nn dp b4, nn cn b5]; show ¬ _ > ((arrV (g.2.2 0) n1 (fun j => .int (f1 j))).slots.size : Int); rw [arrV_size]; omega)
    (fun vm₁ _ i hi => by
      rw [c3] at hi
      have e : (vp_cell (g.2.2 0) (n0, .inl f)).slots.getD ((nI sp).toNatClampNeg + i) .null = .int (f (sp + i)) := by
        rw [c1]
        show (arrV (g.2.2 0) n0 (fun j => .int (f j))).slots.getD _ _ = _
        rw [Array.getD_eq_getD_getElem?, arrV_read _ _ (by omega)]
        rfl
      refine ⟨?_, ?_⟩
      · rw [e]
        rfl
      · rw [e]
        exact trivial)
    (g := F0 m pc ls (.int (nI cn) :: .int (nI dp) :: .ref a :: .int (nI sp) :: .ref a0 :: st)) rfl (by rw [E.2.2.1]; exact hl.1) (rest := st) rfl (by rw [E.2.1]; exact hd) hR0.1 (by show 2 * 0 + _ + _ ≤ _; omega)
  have e1 : copied (vp_cell (g.2.2 0) (n0, .inl f)) (vp_cell (g.2.2 0) (n1, .inl f1)) (nI sp) (nI dp) (nI cn) = vp_cell (g.2.2 0) (n1, .inl f2) := by
    rw [← hf]
    have := va_copied (fun z => .int z) (g.2.2 0) (g.2.2 0) (n0 := n0) (n1 := n1) (sp := (nI sp).toNatClampNeg) (dp := (nI dp).toNatClampNeg) (n := (nI cn).toNatClampNeg) f f1 (by rw [c1, c3]; exact b1)
    rw [show va_cpy f f1 (nI sp).toNatClampNeg (nI dp).toNatClampNeg (nI cn).toNatClampNeg = va_cpy f f1 sp dp cn by rw [c1, c2, c3]] at this
    exact this
  rw [e1] at X' step
  have hl0 : a < H.size := (Array.getElem?_eq_some_iff.mp g1).1
  have hheap : ((T.setVm vm').setCell a (vp_cell (g.2.2 0) (n1, .inl f2))).heap = H.setIfInBounds a (vp_cell (g.2.2 0) (n1, .inl f2)) := by rw [← hT]; rfl
  have oq : ∀ q : Nat, q ≠ a → (H.setIfInBounds a (vp_cell (g.2.2 0) (n1, .inl f2)))[q]? = H[q]? := fun q hq => by simp [Array.getElem?_setIfInBounds, Ne.symm hq]
  obtain ⟨t, a1, bb⟩ := kk p e s m args below meth c (H.setIfInBounds a (vp_cell (g.2.2 0) (n1, .inl f2))) _ ls E (by
      rw [← hh]
      refine hR.set hc1 (by simp) oq ?_
      show (H.setIfInBounds a _)[a]? = some _
      simp [Array.getElem?_setIfInBounds, hl0]) ⟨by simp; exact hS.1, fun q g2 g3 => by
      rw [oq q (fun e => g3 (by rw [e]; exact hR.2.1 a _ hc1))]
      exact hS.2.1 q g2 g3, fun q hq => by
      rcases List.mem_append.mp hq with h | h
      · exact hS.2.2 q h
      · obtain ⟨z, -, hz⟩ := List.mem_map.mp h
        rw [← hz]
        exact hR.2.1 a _ hc1⟩ hl _ hheap X'
  exact ⟨t, step t a1, bb⟩
end CALLS
end
section
theorem room_ok {d d' mc ms m : Nat} (h : d' + 1 ≤ d) (hm : m ≤ 17) : d' + 1 ≤ (RMX d mc ms).frames ∧ 8 + (m + 11) + 36 * d' ≤ (RMX d mc ms).locals := ⟨h, by show 8 + (m + 11) + 36 * d' ≤ 36 * d; omega⟩
theorem nar_z (b : Bool) : narrow .boolean (.int (b2 b)) = .int (b2 b) := by cases b <;> rfl
theorem fit_z (b : Bool) : fits .boolean (.int (b2 b)) = true := by cases b <;> rfl
theorem rg_F_9 {l : Launch} {g : GX} {M : MT} {R : Room} {TG : TGT} {XP : XPT} {n : Nat} {h h' : AH} {k sl : Nat} {pc : Nat} {lv : List (Nat × Value)} {st : List Value} {a : Nat} {fs : List Value} {v : Value} (hM : M.1.cls = "ShareStore$Field") (hd : decode M.2.1 pc = .ok (.getfield 9, 3)) (hc : h a = some (.inr (1, fs))) (hv : fs[0]? = some v) (kk : RJ l g M R TG XP n h k sl (pc + 3) lv (v :: st)) : RJ l g M R TG XP n h k sl pc lv (.ref a :: st) := r_get (C := R_F) (T := T_F) (N := 2) (kf := 0) rfl iw_F (by decide) (by rw [hM]; exact wm_in (i := 75) (by decide +kernel) rfl) hd hc hv kk
theorem rp_F_9 {l : Launch} {g : GX} {M : MT} {R : Room} {TG : TGT} {XP : XPT} {n : Nat} {h h' : AH} {k sl : Nat} {pc : Nat} {lv : List (Nat × Value)} {st : List Value} {a : Nat} {fs fs' : List Value} {x : Nat} (hM : M.1.cls = "ShareStore$Field") (hI : M.1.name = "<init>") (hd : decode M.2.1 pc = .ok (.putfield 9, 3)) (hc : h a = some (.inr (1, fs))) (hlen : 0 < fs.length) (hfs : fs.set 0 (.ref x) = fs') (hh : updH h a (.inr (1, fs')) = h') (kk : RJ l g M R TG XP n h' k sl (pc + 3) lv st) : RJ l g M R TG XP n h k sl pc lv (.ref x :: .ref a :: st) := r_putF (C := R_F) (T := T_F) (N := 2) (kf := 0) (ty := .array .int) rfl iw_F ty_F ty_F_ok nm_F (by decide) rfl rfl (by rw [hM]; exact wm_in (i := 75) (by decide +kernel) rfl) hI (by rw [hM]; rfl) hd rfl rfl hc hlen hfs hh kk
theorem rg_F_15 {l : Launch} {g : GX} {M : MT} {R : Room} {TG : TGT} {XP : XPT} {n : Nat} {h h' : AH} {k sl : Nat} {pc : Nat} {lv : List (Nat × Value)} {st : List Value} {a : Nat} {fs : List Value} {v : Value} (hM : M.1.cls = "ShareStore$Field") (hd : decode M.2.1 pc = .ok (.getfield 15, 3)) (hc : h a = some (.inr (1, fs))) (hv : fs[1]? = some v) (kk : RJ l g M R TG XP n h k sl (pc + 3) lv (v :: st)) : RJ l g M R TG XP n h k sl pc lv (.ref a :: st) := r_get (C := R_F) (T := T_F) (N := 2) (kf := 1) rfl iw_F (by decide) (by rw [hM]; exact wm_in (i := 76) (by decide +kernel) rfl) hd hc hv kk
theorem rp_F_15 {l : Launch} {g : GX} {M : MT} {R : Room} {TG : TGT} {XP : XPT} {n : Nat} {h h' : AH} {k sl : Nat} {pc : Nat} {lv : List (Nat × Value)} {st : List Value} {a : Nat} {fs fs' : List Value} {x : Nat} (hM : M.1.cls = "ShareStore$Field") (hI : M.1.name = "<init>") (hd : decode M.2.1 pc = .ok (.putfield 15, 3)) (hc : h a = some (.inr (1, fs))) (hlen : 1 < fs.length) (hfs : fs.set 1 (.ref x) = fs') (hh : updH h a (.inr (1, fs')) = h') (kk : RJ l g M R TG XP n h' k sl (pc + 3) lv st) : RJ l g M R TG XP n h k sl pc lv (.ref x :: .ref a :: st) := r_putF (C := R_F) (T := T_F) (N := 2) (kf := 1) (ty := .array .int) rfl iw_F ty_F ty_F_ok nm_F (by decide) rfl rfl (by rw [hM]; exact wm_in (i := 76) (by decide +kernel) rfl) hI (by rw [hM]; rfl) hd rfl rfl hc hlen hfs hh kk
theorem rg_C_12 {l : Launch} {g : GX} {M : MT} {R : Room} {TG : TGT} {XP : XPT} {n : Nat} {h h' : AH} {k sl : Nat} {pc : Nat} {lv : List (Nat × Value)} {st : List Value} {a : Nat} {fs : List Value} {v : Value} (hM : M.1.cls = "ShareStore$Coder") (hd : decode M.2.1 pc = .ok (.getfield 12, 3)) (hc : h a = some (.inr (0, fs))) (hv : fs[0]? = some v) (kk : RJ l g M R TG XP n h k sl (pc + 3) lv (v :: st)) : RJ l g M R TG XP n h k sl pc lv (.ref a :: st) := r_get (C := R_C) (T := T_C) (N := 7) (kf := 0) rfl iw_C (by decide) (by rw [hM]; exact wm_in (i := 89) (by decide +kernel) rfl) hd hc hv kk
theorem rp_C_12 {l : Launch} {g : GX} {M : MT} {R : Room} {TG : TGT} {XP : XPT} {n : Nat} {h h' : AH} {k sl : Nat} {pc : Nat} {lv : List (Nat × Value)} {st : List Value} {a : Nat} {fs fs' : List Value} {x : Nat} (hM : M.1.cls = "ShareStore$Coder") (hI : M.1.name = "<init>") (hd : decode M.2.1 pc = .ok (.putfield 12, 3)) (hc : h a = some (.inr (0, fs))) (hlen : 0 < fs.length) (hfs : fs.set 0 (.ref x) = fs') (hh : updH h a (.inr (0, fs')) = h') (kk : RJ l g M R TG XP n h' k sl (pc + 3) lv st) : RJ l g M R TG XP n h k sl pc lv (.ref x :: .ref a :: st) := r_putF (C := R_C) (T := T_C) (N := 7) (kf := 0) (ty := .object "ShareStore$Field") rfl iw_C ty_C ty_C_ok nm_C (by decide) rfl rfl (by rw [hM]; exact wm_in (i := 89) (by decide +kernel) rfl) hI (by rw [hM]; rfl) hd rfl rfl hc hlen hfs hh kk
theorem rg_S_63 {l : Launch} {g : GX} {M : MT} {R : Room} {TG : TGT} {XP : XPT} {n : Nat} {h h' : AH} {k sl : Nat} {pc : Nat} {lv : List (Nat × Value)} {st : List Value} {a : Nat} {fs : List Value} {v : Value} (hM : M.1.cls = "ShareStore") (hd : decode M.2.1 pc = .ok (.getfield 63, 3)) (hc : h a = some (.inr (0, fs))) (hv : fs[0]? = some v) (kk : RJ l g M R TG XP n h k sl (pc + 3) lv (v :: st)) : RJ l g M R TG XP n h k sl pc lv (.ref a :: st) := r_getN (C := R_C) (T := T_C) (N := 7) (kf := 0) (host := "ShareStore") rfl iw_C (by decide) (by rw [hM]; decide +kernel) hd hc hv kk
theorem rg_C_20 {l : Launch} {g : GX} {M : MT} {R : Room} {TG : TGT} {XP : XPT} {n : Nat} {h h' : AH} {k sl : Nat} {pc : Nat} {lv : List (Nat × Value)} {st : List Value} {a : Nat} {fs : List Value} {v : Value} (hM : M.1.cls = "ShareStore$Coder") (hd : decode M.2.1 pc = .ok (.getfield 20, 3)) (hc : h a = some (.inr (0, fs))) (hv : fs[1]? = some v) (kk : RJ l g M R TG XP n h k sl (pc + 3) lv (v :: st)) : RJ l g M R TG XP n h k sl pc lv (.ref a :: st) := r_get (C := R_C) (T := T_C) (N := 7) (kf := 1) rfl iw_C (by decide) (by rw [hM]; exact wm_in (i := 91) (by decide +kernel) rfl) hd hc hv kk
theorem rp_C_20 {l : Launch} {g : GX} {M : MT} {R : Room} {TG : TGT} {XP : XPT} {n : Nat} {h h' : AH} {k sl : Nat} {pc : Nat} {lv : List (Nat × Value)} {st : List Value} {a : Nat} {fs fs' : List Value} {x : Nat} (hM : M.1.cls = "ShareStore$Coder") (hI : M.1.name = "<init>") (hd : decode M.2.1 pc = .ok (.putfield 20, 3)) (hc : h a = some (.inr (0, fs))) (hlen : 1 < fs.length) (hfs : fs.set 1 (.ref x) = fs') (hh : updH h a (.inr (0, fs')) = h') (kk : RJ l g M R TG XP n h' k sl (pc + 3) lv st) : RJ l g M R TG XP n h k sl pc lv (.ref x :: .ref a :: st) := r_putF (C := R_C) (T := T_C) (N := 7) (kf := 1) (ty := .array (.array .int)) rfl iw_C ty_C ty_C_ok nm_C (by decide) rfl rfl (by rw [hM]; exact wm_in (i := 91) (by decide +kernel) rfl) hI (by rw [hM]; rfl) hd rfl rfl hc hlen hfs hh kk
theorem rg_C_23 {l : Launch} {g : GX} {M : MT} {R : Room} {TG : TGT} {XP : XPT} {n : Nat} {h h' : AH} {k sl : Nat} {pc : Nat} {lv : List (Nat × Value)} {st : List Value} {a : Nat} {fs : List Value} {v : Value} (hM : M.1.cls = "ShareStore$Coder") (hd : decode M.2.1 pc = .ok (.getfield 23, 3)) (hc : h a = some (.inr (0, fs))) (hv : fs[2]? = some v) (kk : RJ l g M R TG XP n h k sl (pc + 3) lv (v :: st)) : RJ l g M R TG XP n h k sl pc lv (.ref a :: st) := r_get (C := R_C) (T := T_C) (N := 7) (kf := 2) rfl iw_C (by decide) (by rw [hM]; exact wm_in (i := 92) (by decide +kernel) rfl) hd hc hv kk
theorem rp_C_23 {l : Launch} {g : GX} {M : MT} {R : Room} {TG : TGT} {XP : XPT} {n : Nat} {h h' : AH} {k sl : Nat} {pc : Nat} {lv : List (Nat × Value)} {st : List Value} {a : Nat} {fs fs' : List Value} {x : Nat} (hM : M.1.cls = "ShareStore$Coder") (hI : M.1.name = "<init>") (hd : decode M.2.1 pc = .ok (.putfield 23, 3)) (hc : h a = some (.inr (0, fs))) (hlen : 2 < fs.length) (hfs : fs.set 2 (.ref x) = fs') (hh : updH h a (.inr (0, fs')) = h') (kk : RJ l g M R TG XP n h' k sl (pc + 3) lv st) : RJ l g M R TG XP n h k sl pc lv (.ref x :: .ref a :: st) := r_putF (C := R_C) (T := T_C) (N := 7) (kf := 2) (ty := .array (.array .int)) rfl iw_C ty_C ty_C_ok nm_C (by decide) rfl rfl (by rw [hM]; exact wm_in (i := 92) (by decide +kernel) rfl) hI (by rw [hM]; rfl) hd rfl rfl hc hlen hfs hh kk
theorem rg_C_26 {l : Launch} {g : GX} {M : MT} {R : Room} {TG : TGT} {XP : XPT} {n : Nat} {h h' : AH} {k sl : Nat} {pc : Nat} {lv : List (Nat × Value)} {st : List Value} {a : Nat} {fs : List Value} {v : Value} (hM : M.1.cls = "ShareStore$Coder") (hd : decode M.2.1 pc = .ok (.getfield 26, 3)) (hc : h a = some (.inr (0, fs))) (hv : fs[3]? = some v) (kk : RJ l g M R TG XP n h k sl (pc + 3) lv (v :: st)) : RJ l g M R TG XP n h k sl pc lv (.ref a :: st) := r_get (C := R_C) (T := T_C) (N := 7) (kf := 3) rfl iw_C (by decide) (by rw [hM]; exact wm_in (i := 93) (by decide +kernel) rfl) hd hc hv kk
theorem rp_C_26 {l : Launch} {g : GX} {M : MT} {R : Room} {TG : TGT} {XP : XPT} {n : Nat} {h h' : AH} {k sl : Nat} {pc : Nat} {lv : List (Nat × Value)} {st : List Value} {a : Nat} {fs fs' : List Value} {x : Nat} (hM : M.1.cls = "ShareStore$Coder") (hI : M.1.name = "<init>") (hd : decode M.2.1 pc = .ok (.putfield 26, 3)) (hc : h a = some (.inr (0, fs))) (hlen : 3 < fs.length) (hfs : fs.set 3 (.ref x) = fs') (hh : updH h a (.inr (0, fs')) = h') (kk : RJ l g M R TG XP n h' k sl (pc + 3) lv st) : RJ l g M R TG XP n h k sl pc lv (.ref x :: .ref a :: st) := r_putF (C := R_C) (T := T_C) (N := 7) (kf := 3) (ty := .array (.array .int)) rfl iw_C ty_C ty_C_ok nm_C (by decide) rfl rfl (by rw [hM]; exact wm_in (i := 93) (by decide +kernel) rfl) hI (by rw [hM]; rfl) hd rfl rfl hc hlen hfs hh kk
theorem rg_C_29 {l : Launch} {g : GX} {M : MT} {R : Room} {TG : TGT} {XP : XPT} {n : Nat} {h h' : AH} {k sl : Nat} {pc : Nat} {lv : List (Nat × Value)} {st : List Value} {a : Nat} {fs : List Value} {v : Value} (hM : M.1.cls = "ShareStore$Coder") (hd : decode M.2.1 pc = .ok (.getfield 29, 3)) (hc : h a = some (.inr (0, fs))) (hv : fs[4]? = some v) (kk : RJ l g M R TG XP n h k sl (pc + 3) lv (v :: st)) : RJ l g M R TG XP n h k sl pc lv (.ref a :: st) := r_get (C := R_C) (T := T_C) (N := 7) (kf := 4) rfl iw_C (by decide) (by rw [hM]; exact wm_in (i := 94) (by decide +kernel) rfl) hd hc hv kk
theorem rp_C_29 {l : Launch} {g : GX} {M : MT} {R : Room} {TG : TGT} {XP : XPT} {n : Nat} {h h' : AH} {k sl : Nat} {pc : Nat} {lv : List (Nat × Value)} {st : List Value} {a : Nat} {fs fs' : List Value} {x : Nat} (hM : M.1.cls = "ShareStore$Coder") (hI : M.1.name = "<init>") (hd : decode M.2.1 pc = .ok (.putfield 29, 3)) (hc : h a = some (.inr (0, fs))) (hlen : 4 < fs.length) (hfs : fs.set 4 (.ref x) = fs') (hh : updH h a (.inr (0, fs')) = h') (kk : RJ l g M R TG XP n h' k sl (pc + 3) lv st) : RJ l g M R TG XP n h k sl pc lv (.ref x :: .ref a :: st) := r_putF (C := R_C) (T := T_C) (N := 7) (kf := 4) (ty := .array (.array .int)) rfl iw_C ty_C ty_C_ok nm_C (by decide) rfl rfl (by rw [hM]; exact wm_in (i := 94) (by decide +kernel) rfl) hI (by rw [hM]; rfl) hd rfl rfl hc hlen hfs hh kk
theorem rg_C_32 {l : Launch} {g : GX} {M : MT} {R : Room} {TG : TGT} {XP : XPT} {n : Nat} {h h' : AH} {k sl : Nat} {pc : Nat} {lv : List (Nat × Value)} {st : List Value} {a : Nat} {fs : List Value} {v : Value} (hM : M.1.cls = "ShareStore$Coder") (hd : decode M.2.1 pc = .ok (.getfield 32, 3)) (hc : h a = some (.inr (0, fs))) (hv : fs[5]? = some v) (kk : RJ l g M R TG XP n h k sl (pc + 3) lv (v :: st)) : RJ l g M R TG XP n h k sl pc lv (.ref a :: st) := r_get (C := R_C) (T := T_C) (N := 7) (kf := 5) rfl iw_C (by decide) (by rw [hM]; exact wm_in (i := 95) (by decide +kernel) rfl) hd hc hv kk
theorem rp_C_32 {l : Launch} {g : GX} {M : MT} {R : Room} {TG : TGT} {XP : XPT} {n : Nat} {h h' : AH} {k sl : Nat} {pc : Nat} {lv : List (Nat × Value)} {st : List Value} {a : Nat} {fs fs' : List Value} {x : Nat} (hM : M.1.cls = "ShareStore$Coder") (hI : M.1.name = "<init>") (hd : decode M.2.1 pc = .ok (.putfield 32, 3)) (hc : h a = some (.inr (0, fs))) (hlen : 5 < fs.length) (hfs : fs.set 5 (.ref x) = fs') (hh : updH h a (.inr (0, fs')) = h') (kk : RJ l g M R TG XP n h' k sl (pc + 3) lv st) : RJ l g M R TG XP n h k sl pc lv (.ref x :: .ref a :: st) := r_putF (C := R_C) (T := T_C) (N := 7) (kf := 5) (ty := .array (.array .int)) rfl iw_C ty_C ty_C_ok nm_C (by decide) rfl rfl (by rw [hM]; exact wm_in (i := 95) (by decide +kernel) rfl) hI (by rw [hM]; rfl) hd rfl rfl hc hlen hfs hh kk
theorem rg_C_35 {l : Launch} {g : GX} {M : MT} {R : Room} {TG : TGT} {XP : XPT} {n : Nat} {h h' : AH} {k sl : Nat} {pc : Nat} {lv : List (Nat × Value)} {st : List Value} {a : Nat} {fs : List Value} {v : Value} (hM : M.1.cls = "ShareStore$Coder") (hd : decode M.2.1 pc = .ok (.getfield 35, 3)) (hc : h a = some (.inr (0, fs))) (hv : fs[6]? = some v) (kk : RJ l g M R TG XP n h k sl (pc + 3) lv (v :: st)) : RJ l g M R TG XP n h k sl pc lv (.ref a :: st) := r_get (C := R_C) (T := T_C) (N := 7) (kf := 6) rfl iw_C (by decide) (by rw [hM]; exact wm_in (i := 96) (by decide +kernel) rfl) hd hc hv kk
theorem rp_C_35 {l : Launch} {g : GX} {M : MT} {R : Room} {TG : TGT} {XP : XPT} {n : Nat} {h h' : AH} {k sl : Nat} {pc : Nat} {lv : List (Nat × Value)} {st : List Value} {a : Nat} {fs fs' : List Value} {x : Nat} (hM : M.1.cls = "ShareStore$Coder") (hI : M.1.name = "<init>") (hd : decode M.2.1 pc = .ok (.putfield 35, 3)) (hc : h a = some (.inr (0, fs))) (hlen : 6 < fs.length) (hfs : fs.set 6 (.ref x) = fs') (hh : updH h a (.inr (0, fs')) = h') (kk : RJ l g M R TG XP n h' k sl (pc + 3) lv st) : RJ l g M R TG XP n h k sl pc lv (.ref x :: .ref a :: st) := r_putF (C := R_C) (T := T_C) (N := 7) (kf := 6) (ty := .array .int) rfl iw_C ty_C ty_C_ok nm_C (by decide) rfl rfl (by rw [hM]; exact wm_in (i := 96) (by decide +kernel) rfl) hI (by rw [hM]; rfl) hd rfl rfl hc hlen hfs hh kk
theorem rg_H_9 {l : Launch} {g : GX} {M : MT} {R : Room} {TG : TGT} {XP : XPT} {n : Nat} {h h' : AH} {k sl : Nat} {pc : Nat} {lv : List (Nat × Value)} {st : List Value} {a : Nat} {fs : List Value} {v : Value} (hM : M.1.cls = "ShareStore$Holding") (hd : decode M.2.1 pc = .ok (.getfield 9, 3)) (hc : h a = some (.inr (2, fs))) (hv : fs[0]? = some v) (kk : RJ l g M R TG XP n h k sl (pc + 3) lv (v :: st)) : RJ l g M R TG XP n h k sl pc lv (.ref a :: st) := r_get (C := R_H) (T := T_H) (N := 4) (kf := 0) rfl iw_H (by decide) (by rw [hM]; exact wm_in (i := 126) (by decide +kernel) rfl) hd hc hv kk
theorem rp_H_9 {l : Launch} {g : GX} {M : MT} {R : Room} {TG : TGT} {XP : XPT} {n : Nat} {h h' : AH} {k sl : Nat} {pc : Nat} {lv : List (Nat × Value)} {st : List Value} {a : Nat} {fs fs' : List Value} {x : Nat} (hM : M.1.cls = "ShareStore$Holding") (hI : M.1.name = "<init>") (hd : decode M.2.1 pc = .ok (.putfield 9, 3)) (hc : h a = some (.inr (2, fs))) (hlen : 0 < fs.length) (hfs : fs.set 0 (.ref x) = fs') (hh : updH h a (.inr (2, fs')) = h') (kk : RJ l g M R TG XP n h' k sl (pc + 3) lv st) : RJ l g M R TG XP n h k sl pc lv (.ref x :: .ref a :: st) := r_putF (C := R_H) (T := T_H) (N := 4) (kf := 0) (ty := .array .int) rfl iw_H ty_H ty_H_ok nm_H (by decide) rfl rfl (by rw [hM]; exact wm_in (i := 126) (by decide +kernel) rfl) hI (by rw [hM]; rfl) hd rfl rfl hc hlen hfs hh kk
theorem rg_N_56 {l : Launch} {g : GX} {M : MT} {R : Room} {TG : TGT} {XP : XPT} {n : Nat} {h h' : AH} {k sl : Nat} {pc : Nat} {lv : List (Nat × Value)} {st : List Value} {a : Nat} {fs : List Value} {v : Value} (hM : M.1.cls = "ShareStore$Node") (hd : decode M.2.1 pc = .ok (.getfield 56, 3)) (hc : h a = some (.inr (2, fs))) (hv : fs[0]? = some v) (kk : RJ l g M R TG XP n h k sl (pc + 3) lv (v :: st)) : RJ l g M R TG XP n h k sl pc lv (.ref a :: st) := r_getN (C := R_H) (T := T_H) (N := 4) (kf := 0) (host := "ShareStore") rfl iw_H (by decide) (by rw [hM]; decide +kernel) hd hc hv kk
theorem rp_H_15 {l : Launch} {g : GX} {M : MT} {R : Room} {TG : TGT} {XP : XPT} {n : Nat} {h h' : AH} {k sl : Nat} {pc : Nat} {lv : List (Nat × Value)} {st : List Value} {a : Nat} {fs fs' : List Value} {x : Int32} (hM : M.1.cls = "ShareStore$Holding") (hd : decode M.2.1 pc = .ok (.putfield 15, 3)) (hc : h a = some (.inr (2, fs))) (hlen : 1 < fs.length) (hfs : fs.set 1 (.int x) = fs') (hh : updH h a (.inr (2, fs')) = h') (kk : RJ l g M R TG XP n h' k sl (pc + 3) lv st) : RJ l g M R TG XP n h k sl pc lv (.int x :: .ref a :: st) := r_put (C := R_H) (T := T_H) (N := 4) (kf := 1) (ty := .int) rfl iw_H ty_H ty_H_ok nm_H (by decide) rfl rfl (by rw [hM]; exact wm_in (i := 128) (by decide +kernel) rfl) hd rfl rfl hc hlen hfs hh kk
theorem rg_N_37 {l : Launch} {g : GX} {M : MT} {R : Room} {TG : TGT} {XP : XPT} {n : Nat} {h h' : AH} {k sl : Nat} {pc : Nat} {lv : List (Nat × Value)} {st : List Value} {a : Nat} {fs : List Value} {v : Value} (hM : M.1.cls = "ShareStore$Node") (hd : decode M.2.1 pc = .ok (.getfield 37, 3)) (hc : h a = some (.inr (2, fs))) (hv : fs[1]? = some v) (kk : RJ l g M R TG XP n h k sl (pc + 3) lv (v :: st)) : RJ l g M R TG XP n h k sl pc lv (.ref a :: st) := r_getN (C := R_H) (T := T_H) (N := 4) (kf := 1) (host := "ShareStore") rfl iw_H (by decide) (by rw [hM]; decide +kernel) hd hc hv kk
theorem rp_N_37 {l : Launch} {g : GX} {M : MT} {R : Room} {TG : TGT} {XP : XPT} {n : Nat} {h h' : AH} {k sl : Nat} {pc : Nat} {lv : List (Nat × Value)} {st : List Value} {a : Nat} {fs fs' : List Value} {x : Int32} (hM : M.1.cls = "ShareStore$Node") (hd : decode M.2.1 pc = .ok (.putfield 37, 3)) (hc : h a = some (.inr (2, fs))) (hlen : 1 < fs.length) (hfs : fs.set 1 (.int x) = fs') (hh : updH h a (.inr (2, fs')) = h') (kk : RJ l g M R TG XP n h' k sl (pc + 3) lv st) : RJ l g M R TG XP n h k sl pc lv (.int x :: .ref a :: st) := r_putN (C := R_H) (T := T_H) (N := 4) (kf := 1) (ty := .int) (host := "ShareStore") rfl iw_H ty_H ty_H_ok nm_H (by decide) rfl rfl (by rw [hM]; decide +kernel) hd rfl rfl hc hlen hfs hh kk
theorem rg_S_111 {l : Launch} {g : GX} {M : MT} {R : Room} {TG : TGT} {XP : XPT} {n : Nat} {h h' : AH} {k sl : Nat} {pc : Nat} {lv : List (Nat × Value)} {st : List Value} {a : Nat} {fs : List Value} {v : Value} (hM : M.1.cls = "ShareStore") (hd : decode M.2.1 pc = .ok (.getfield 111, 3)) (hc : h a = some (.inr (2, fs))) (hv : fs[1]? = some v) (kk : RJ l g M R TG XP n h k sl (pc + 3) lv (v :: st)) : RJ l g M R TG XP n h k sl pc lv (.ref a :: st) := r_getN (C := R_H) (T := T_H) (N := 4) (kf := 1) (host := "ShareStore") rfl iw_H (by decide) (by rw [hM]; decide +kernel) hd hc hv kk
theorem rp_H_19 {l : Launch} {g : GX} {M : MT} {R : Room} {TG : TGT} {XP : XPT} {n : Nat} {h h' : AH} {k sl : Nat} {pc : Nat} {lv : List (Nat × Value)} {st : List Value} {a : Nat} {fs fs' : List Value} {x : Int32} (hM : M.1.cls = "ShareStore$Holding") (hd : decode M.2.1 pc = .ok (.putfield 19, 3)) (hc : h a = some (.inr (2, fs))) (hlen : 2 < fs.length) (hfs : fs.set 2 (.int x) = fs') (hh : updH h a (.inr (2, fs')) = h') (kk : RJ l g M R TG XP n h' k sl (pc + 3) lv st) : RJ l g M R TG XP n h k sl pc lv (.int x :: .ref a :: st) := r_put (C := R_H) (T := T_H) (N := 4) (kf := 2) (ty := .int) rfl iw_H ty_H ty_H_ok nm_H (by decide) rfl rfl (by rw [hM]; exact wm_in (i := 131) (by decide +kernel) rfl) hd rfl rfl hc hlen hfs hh kk
theorem rp_N_40 {l : Launch} {g : GX} {M : MT} {R : Room} {TG : TGT} {XP : XPT} {n : Nat} {h h' : AH} {k sl : Nat} {pc : Nat} {lv : List (Nat × Value)} {st : List Value} {a : Nat} {fs fs' : List Value} {x : Int32} (hM : M.1.cls = "ShareStore$Node") (hd : decode M.2.1 pc = .ok (.putfield 40, 3)) (hc : h a = some (.inr (2, fs))) (hlen : 2 < fs.length) (hfs : fs.set 2 (.int x) = fs') (hh : updH h a (.inr (2, fs')) = h') (kk : RJ l g M R TG XP n h' k sl (pc + 3) lv st) : RJ l g M R TG XP n h k sl pc lv (.int x :: .ref a :: st) := r_putN (C := R_H) (T := T_H) (N := 4) (kf := 2) (ty := .int) (host := "ShareStore") rfl iw_H ty_H ty_H_ok nm_H (by decide) rfl rfl (by rw [hM]; decide +kernel) hd rfl rfl hc hlen hfs hh kk
theorem rg_S_201 {l : Launch} {g : GX} {M : MT} {R : Room} {TG : TGT} {XP : XPT} {n : Nat} {h h' : AH} {k sl : Nat} {pc : Nat} {lv : List (Nat × Value)} {st : List Value} {a : Nat} {fs : List Value} {v : Value} (hM : M.1.cls = "ShareStore") (hd : decode M.2.1 pc = .ok (.getfield 201, 3)) (hc : h a = some (.inr (2, fs))) (hv : fs[2]? = some v) (kk : RJ l g M R TG XP n h k sl (pc + 3) lv (v :: st)) : RJ l g M R TG XP n h k sl pc lv (.ref a :: st) := r_getN (C := R_H) (T := T_H) (N := 4) (kf := 2) (host := "ShareStore") rfl iw_H (by decide) (by rw [hM]; decide +kernel) hd hc hv kk
theorem rg_H_22 {l : Launch} {g : GX} {M : MT} {R : Room} {TG : TGT} {XP : XPT} {n : Nat} {h h' : AH} {k sl : Nat} {pc : Nat} {lv : List (Nat × Value)} {st : List Value} {a : Nat} {fs : List Value} {v : Value} (hM : M.1.cls = "ShareStore$Holding") (hd : decode M.2.1 pc = .ok (.getfield 22, 3)) (hc : h a = some (.inr (2, fs))) (hv : fs[3]? = some v) (kk : RJ l g M R TG XP n h k sl (pc + 3) lv (v :: st)) : RJ l g M R TG XP n h k sl pc lv (.ref a :: st) := r_get (C := R_H) (T := T_H) (N := 4) (kf := 3) rfl iw_H (by decide) (by rw [hM]; exact wm_in (i := 134) (by decide +kernel) rfl) hd hc hv kk
theorem rp_H_22 {l : Launch} {g : GX} {M : MT} {R : Room} {TG : TGT} {XP : XPT} {n : Nat} {h h' : AH} {k sl : Nat} {pc : Nat} {lv : List (Nat × Value)} {st : List Value} {a : Nat} {fs fs' : List Value} {x : Int32} (hM : M.1.cls = "ShareStore$Holding") (hd : decode M.2.1 pc = .ok (.putfield 22, 3)) (hc : h a = some (.inr (2, fs))) (hlen : 3 < fs.length) (hfs : fs.set 3 (.int x) = fs') (hh : updH h a (.inr (2, fs')) = h') (kk : RJ l g M R TG XP n h' k sl (pc + 3) lv st) : RJ l g M R TG XP n h k sl pc lv (.int x :: .ref a :: st) := r_put (C := R_H) (T := T_H) (N := 4) (kf := 3) (ty := .int) rfl iw_H ty_H ty_H_ok nm_H (by decide) rfl rfl (by rw [hM]; exact wm_in (i := 134) (by decide +kernel) rfl) hd rfl rfl hc hlen hfs hh kk
theorem rg_N_53 {l : Launch} {g : GX} {M : MT} {R : Room} {TG : TGT} {XP : XPT} {n : Nat} {h h' : AH} {k sl : Nat} {pc : Nat} {lv : List (Nat × Value)} {st : List Value} {a : Nat} {fs : List Value} {v : Value} (hM : M.1.cls = "ShareStore$Node") (hd : decode M.2.1 pc = .ok (.getfield 53, 3)) (hc : h a = some (.inr (2, fs))) (hv : fs[3]? = some v) (kk : RJ l g M R TG XP n h k sl (pc + 3) lv (v :: st)) : RJ l g M R TG XP n h k sl pc lv (.ref a :: st) := r_getN (C := R_H) (T := T_H) (N := 4) (kf := 3) (host := "ShareStore") rfl iw_H (by decide) (by rw [hM]; decide +kernel) hd hc hv kk
theorem rp_N_53 {l : Launch} {g : GX} {M : MT} {R : Room} {TG : TGT} {XP : XPT} {n : Nat} {h h' : AH} {k sl : Nat} {pc : Nat} {lv : List (Nat × Value)} {st : List Value} {a : Nat} {fs fs' : List Value} {x : Int32} (hM : M.1.cls = "ShareStore$Node") (hd : decode M.2.1 pc = .ok (.putfield 53, 3)) (hc : h a = some (.inr (2, fs))) (hlen : 3 < fs.length) (hfs : fs.set 3 (.int x) = fs') (hh : updH h a (.inr (2, fs')) = h') (kk : RJ l g M R TG XP n h' k sl (pc + 3) lv st) : RJ l g M R TG XP n h k sl pc lv (.int x :: .ref a :: st) := r_putN (C := R_H) (T := T_H) (N := 4) (kf := 3) (ty := .int) (host := "ShareStore") rfl iw_H ty_H ty_H_ok nm_H (by decide) rfl rfl (by rw [hM]; decide +kernel) hd rfl rfl hc hlen hfs hh kk
theorem rg_S_204 {l : Launch} {g : GX} {M : MT} {R : Room} {TG : TGT} {XP : XPT} {n : Nat} {h h' : AH} {k sl : Nat} {pc : Nat} {lv : List (Nat × Value)} {st : List Value} {a : Nat} {fs : List Value} {v : Value} (hM : M.1.cls = "ShareStore") (hd : decode M.2.1 pc = .ok (.getfield 204, 3)) (hc : h a = some (.inr (2, fs))) (hv : fs[3]? = some v) (kk : RJ l g M R TG XP n h k sl (pc + 3) lv (v :: st)) : RJ l g M R TG XP n h k sl pc lv (.ref a :: st) := r_getN (C := R_H) (T := T_H) (N := 4) (kf := 3) (host := "ShareStore") rfl iw_H (by decide) (by rw [hM]; decide +kernel) hd hc hv kk
theorem rg_N_9 {l : Launch} {g : GX} {M : MT} {R : Room} {TG : TGT} {XP : XPT} {n : Nat} {h h' : AH} {k sl : Nat} {pc : Nat} {lv : List (Nat × Value)} {st : List Value} {a : Nat} {fs : List Value} {v : Value} (hM : M.1.cls = "ShareStore$Node") (hd : decode M.2.1 pc = .ok (.getfield 9, 3)) (hc : h a = some (.inr (3, fs))) (hv : fs[0]? = some v) (kk : RJ l g M R TG XP n h k sl (pc + 3) lv (v :: st)) : RJ l g M R TG XP n h k sl pc lv (.ref a :: st) := r_get (C := R_N) (T := T_N) (N := 6) (kf := 0) rfl iw_N (by decide) (by rw [hM]; exact wm_in (i := 147) (by decide +kernel) rfl) hd hc hv kk
theorem rp_N_9 {l : Launch} {g : GX} {M : MT} {R : Room} {TG : TGT} {XP : XPT} {n : Nat} {h h' : AH} {k sl : Nat} {pc : Nat} {lv : List (Nat × Value)} {st : List Value} {a : Nat} {fs fs' : List Value} {x : Nat} (hM : M.1.cls = "ShareStore$Node") (hI : M.1.name = "<init>") (hd : decode M.2.1 pc = .ok (.putfield 9, 3)) (hc : h a = some (.inr (3, fs))) (hlen : 0 < fs.length) (hfs : fs.set 0 (.ref x) = fs') (hh : updH h a (.inr (3, fs')) = h') (kk : RJ l g M R TG XP n h' k sl (pc + 3) lv st) : RJ l g M R TG XP n h k sl pc lv (.ref x :: .ref a :: st) := r_putF (C := R_N) (T := T_N) (N := 6) (kf := 0) (ty := .array .int) rfl iw_N ty_N ty_N_ok nm_N (by decide) rfl rfl (by rw [hM]; exact wm_in (i := 147) (by decide +kernel) rfl) hI (by rw [hM]; rfl) hd rfl rfl hc hlen hfs hh kk
theorem rg_N_15 {l : Launch} {g : GX} {M : MT} {R : Room} {TG : TGT} {XP : XPT} {n : Nat} {h h' : AH} {k sl : Nat} {pc : Nat} {lv : List (Nat × Value)} {st : List Value} {a : Nat} {fs : List Value} {v : Value} (hM : M.1.cls = "ShareStore$Node") (hd : decode M.2.1 pc = .ok (.getfield 15, 3)) (hc : h a = some (.inr (3, fs))) (hv : fs[1]? = some v) (kk : RJ l g M R TG XP n h k sl (pc + 3) lv (v :: st)) : RJ l g M R TG XP n h k sl pc lv (.ref a :: st) := r_get (C := R_N) (T := T_N) (N := 6) (kf := 1) rfl iw_N (by decide) (by rw [hM]; exact wm_in (i := 148) (by decide +kernel) rfl) hd hc hv kk
theorem rp_N_15 {l : Launch} {g : GX} {M : MT} {R : Room} {TG : TGT} {XP : XPT} {n : Nat} {h h' : AH} {k sl : Nat} {pc : Nat} {lv : List (Nat × Value)} {st : List Value} {a : Nat} {fs fs' : List Value} {x : Nat} (hM : M.1.cls = "ShareStore$Node") (hI : M.1.name = "<init>") (hd : decode M.2.1 pc = .ok (.putfield 15, 3)) (hc : h a = some (.inr (3, fs))) (hlen : 1 < fs.length) (hfs : fs.set 1 (.ref x) = fs') (hh : updH h a (.inr (3, fs')) = h') (kk : RJ l g M R TG XP n h' k sl (pc + 3) lv st) : RJ l g M R TG XP n h k sl pc lv (.ref x :: .ref a :: st) := r_putF (C := R_N) (T := T_N) (N := 6) (kf := 1) (ty := .array .boolean) rfl iw_N ty_N ty_N_ok nm_N (by decide) rfl rfl (by rw [hM]; exact wm_in (i := 148) (by decide +kernel) rfl) hI (by rw [hM]; rfl) hd rfl rfl hc hlen hfs hh kk
theorem rg_N_21 {l : Launch} {g : GX} {M : MT} {R : Room} {TG : TGT} {XP : XPT} {n : Nat} {h h' : AH} {k sl : Nat} {pc : Nat} {lv : List (Nat × Value)} {st : List Value} {a : Nat} {fs : List Value} {v : Value} (hM : M.1.cls = "ShareStore$Node") (hd : decode M.2.1 pc = .ok (.getfield 21, 3)) (hc : h a = some (.inr (3, fs))) (hv : fs[2]? = some v) (kk : RJ l g M R TG XP n h k sl (pc + 3) lv (v :: st)) : RJ l g M R TG XP n h k sl pc lv (.ref a :: st) := r_get (C := R_N) (T := T_N) (N := 6) (kf := 2) rfl iw_N (by decide) (by rw [hM]; exact wm_in (i := 149) (by decide +kernel) rfl) hd hc hv kk
theorem rp_N_21 {l : Launch} {g : GX} {M : MT} {R : Room} {TG : TGT} {XP : XPT} {n : Nat} {h h' : AH} {k sl : Nat} {pc : Nat} {lv : List (Nat × Value)} {st : List Value} {a : Nat} {fs fs' : List Value} {x : Nat} (hM : M.1.cls = "ShareStore$Node") (hI : M.1.name = "<init>") (hd : decode M.2.1 pc = .ok (.putfield 21, 3)) (hc : h a = some (.inr (3, fs))) (hlen : 2 < fs.length) (hfs : fs.set 2 (.ref x) = fs') (hh : updH h a (.inr (3, fs')) = h') (kk : RJ l g M R TG XP n h' k sl (pc + 3) lv st) : RJ l g M R TG XP n h k sl pc lv (.ref x :: .ref a :: st) := r_putF (C := R_N) (T := T_N) (N := 6) (kf := 2) (ty := .array (.object "ShareStore$Holding")) rfl iw_N ty_N ty_N_ok nm_N (by decide) rfl rfl (by rw [hM]; exact wm_in (i := 149) (by decide +kernel) rfl) hI (by rw [hM]; rfl) hd rfl rfl hc hlen hfs hh kk
theorem rg_S_173 {l : Launch} {g : GX} {M : MT} {R : Room} {TG : TGT} {XP : XPT} {n : Nat} {h h' : AH} {k sl : Nat} {pc : Nat} {lv : List (Nat × Value)} {st : List Value} {a : Nat} {fs : List Value} {v : Value} (hM : M.1.cls = "ShareStore") (hd : decode M.2.1 pc = .ok (.getfield 173, 3)) (hc : h a = some (.inr (3, fs))) (hv : fs[2]? = some v) (kk : RJ l g M R TG XP n h k sl (pc + 3) lv (v :: st)) : RJ l g M R TG XP n h k sl pc lv (.ref a :: st) := r_getN (C := R_N) (T := T_N) (N := 6) (kf := 2) (host := "ShareStore") rfl iw_N (by decide) (by rw [hM]; decide +kernel) hd hc hv kk
theorem rg_N_25 {l : Launch} {g : GX} {M : MT} {R : Room} {TG : TGT} {XP : XPT} {n : Nat} {h h' : AH} {k sl : Nat} {pc : Nat} {lv : List (Nat × Value)} {st : List Value} {a : Nat} {fs : List Value} {v : Value} (hM : M.1.cls = "ShareStore$Node") (hd : decode M.2.1 pc = .ok (.getfield 25, 3)) (hc : h a = some (.inr (3, fs))) (hv : fs[3]? = some v) (kk : RJ l g M R TG XP n h k sl (pc + 3) lv (v :: st)) : RJ l g M R TG XP n h k sl pc lv (.ref a :: st) := r_get (C := R_N) (T := T_N) (N := 6) (kf := 3) rfl iw_N (by decide) (by rw [hM]; exact wm_in (i := 151) (by decide +kernel) rfl) hd hc hv kk
theorem rp_N_25 {l : Launch} {g : GX} {M : MT} {R : Room} {TG : TGT} {XP : XPT} {n : Nat} {h h' : AH} {k sl : Nat} {pc : Nat} {lv : List (Nat × Value)} {st : List Value} {a : Nat} {fs fs' : List Value} {x : Nat} (hM : M.1.cls = "ShareStore$Node") (hI : M.1.name = "<init>") (hd : decode M.2.1 pc = .ok (.putfield 25, 3)) (hc : h a = some (.inr (3, fs))) (hlen : 3 < fs.length) (hfs : fs.set 3 (.ref x) = fs') (hh : updH h a (.inr (3, fs')) = h') (kk : RJ l g M R TG XP n h' k sl (pc + 3) lv st) : RJ l g M R TG XP n h k sl pc lv (.ref x :: .ref a :: st) := r_putF (C := R_N) (T := T_N) (N := 6) (kf := 3) (ty := .array (.object "ShareStore$Holding")) rfl iw_N ty_N ty_N_ok nm_N (by decide) rfl rfl (by rw [hM]; exact wm_in (i := 151) (by decide +kernel) rfl) hI (by rw [hM]; rfl) hd rfl rfl hc hlen hfs hh kk
theorem rg_S_107 {l : Launch} {g : GX} {M : MT} {R : Room} {TG : TGT} {XP : XPT} {n : Nat} {h h' : AH} {k sl : Nat} {pc : Nat} {lv : List (Nat × Value)} {st : List Value} {a : Nat} {fs : List Value} {v : Value} (hM : M.1.cls = "ShareStore") (hd : decode M.2.1 pc = .ok (.getfield 107, 3)) (hc : h a = some (.inr (3, fs))) (hv : fs[3]? = some v) (kk : RJ l g M R TG XP n h k sl (pc + 3) lv (v :: st)) : RJ l g M R TG XP n h k sl pc lv (.ref a :: st) := r_getN (C := R_N) (T := T_N) (N := 6) (kf := 3) (host := "ShareStore") rfl iw_N (by decide) (by rw [hM]; decide +kernel) hd hc hv kk
theorem rp_N_28 {l : Launch} {g : GX} {M : MT} {R : Room} {TG : TGT} {XP : XPT} {n : Nat} {h h' : AH} {k sl : Nat} {pc : Nat} {lv : List (Nat × Value)} {st : List Value} {a : Nat} {fs fs' : List Value} {x : Bool} (hM : M.1.cls = "ShareStore$Node") (hd : decode M.2.1 pc = .ok (.putfield 28, 3)) (hc : h a = some (.inr (3, fs))) (hlen : 4 < fs.length) (hfs : fs.set 4 (.int (b2 x)) = fs') (hh : updH h a (.inr (3, fs')) = h') (kk : RJ l g M R TG XP n h' k sl (pc + 3) lv st) : RJ l g M R TG XP n h k sl pc lv (.int (b2 x) :: .ref a :: st) := r_put (C := R_N) (T := T_N) (N := 6) (kf := 4) (ty := .boolean) rfl iw_N ty_N ty_N_ok nm_N (by decide) rfl rfl (by rw [hM]; exact wm_in (i := 153) (by decide +kernel) rfl) hd (nar_z x) (fit_z x) hc hlen hfs hh kk
theorem rg_S_103 {l : Launch} {g : GX} {M : MT} {R : Room} {TG : TGT} {XP : XPT} {n : Nat} {h h' : AH} {k sl : Nat} {pc : Nat} {lv : List (Nat × Value)} {st : List Value} {a : Nat} {fs : List Value} {v : Value} (hM : M.1.cls = "ShareStore") (hd : decode M.2.1 pc = .ok (.getfield 103, 3)) (hc : h a = some (.inr (3, fs))) (hv : fs[4]? = some v) (kk : RJ l g M R TG XP n h k sl (pc + 3) lv (v :: st)) : RJ l g M R TG XP n h k sl pc lv (.ref a :: st) := r_getN (C := R_N) (T := T_N) (N := 6) (kf := 4) (host := "ShareStore") rfl iw_N (by decide) (by rw [hM]; decide +kernel) hd hc hv kk
theorem rp_S_103 {l : Launch} {g : GX} {M : MT} {R : Room} {TG : TGT} {XP : XPT} {n : Nat} {h h' : AH} {k sl : Nat} {pc : Nat} {lv : List (Nat × Value)} {st : List Value} {a : Nat} {fs fs' : List Value} {x : Bool} (hM : M.1.cls = "ShareStore") (hd : decode M.2.1 pc = .ok (.putfield 103, 3)) (hc : h a = some (.inr (3, fs))) (hlen : 4 < fs.length) (hfs : fs.set 4 (.int (b2 x)) = fs') (hh : updH h a (.inr (3, fs')) = h') (kk : RJ l g M R TG XP n h' k sl (pc + 3) lv st) : RJ l g M R TG XP n h k sl pc lv (.int (b2 x) :: .ref a :: st) := r_putN (C := R_N) (T := T_N) (N := 6) (kf := 4) (ty := .boolean) (host := "ShareStore") rfl iw_N ty_N ty_N_ok nm_N (by decide) rfl rfl (by rw [hM]; decide +kernel) hd (nar_z x) (fit_z x) hc hlen hfs hh kk
theorem rp_N_32 {l : Launch} {g : GX} {M : MT} {R : Room} {TG : TGT} {XP : XPT} {n : Nat} {h h' : AH} {k sl : Nat} {pc : Nat} {lv : List (Nat × Value)} {st : List Value} {a : Nat} {fs fs' : List Value} {x : Int32} (hM : M.1.cls = "ShareStore$Node") (hd : decode M.2.1 pc = .ok (.putfield 32, 3)) (hc : h a = some (.inr (3, fs))) (hlen : 5 < fs.length) (hfs : fs.set 5 (.int x) = fs') (hh : updH h a (.inr (3, fs')) = h') (kk : RJ l g M R TG XP n h' k sl (pc + 3) lv st) : RJ l g M R TG XP n h k sl pc lv (.int x :: .ref a :: st) := r_put (C := R_N) (T := T_N) (N := 6) (kf := 5) (ty := .int) rfl iw_N ty_N ty_N_ok nm_N (by decide) rfl rfl (by rw [hM]; exact wm_in (i := 155) (by decide +kernel) rfl) hd rfl rfl hc hlen hfs hh kk
theorem rg_S_163 {l : Launch} {g : GX} {M : MT} {R : Room} {TG : TGT} {XP : XPT} {n : Nat} {h h' : AH} {k sl : Nat} {pc : Nat} {lv : List (Nat × Value)} {st : List Value} {a : Nat} {fs : List Value} {v : Value} (hM : M.1.cls = "ShareStore") (hd : decode M.2.1 pc = .ok (.getfield 163, 3)) (hc : h a = some (.inr (3, fs))) (hv : fs[5]? = some v) (kk : RJ l g M R TG XP n h k sl (pc + 3) lv (v :: st)) : RJ l g M R TG XP n h k sl pc lv (.ref a :: st) := r_getN (C := R_N) (T := T_N) (N := 6) (kf := 5) (host := "ShareStore") rfl iw_N (by decide) (by rw [hM]; decide +kernel) hd hc hv kk
theorem rp_S_163 {l : Launch} {g : GX} {M : MT} {R : Room} {TG : TGT} {XP : XPT} {n : Nat} {h h' : AH} {k sl : Nat} {pc : Nat} {lv : List (Nat × Value)} {st : List Value} {a : Nat} {fs fs' : List Value} {x : Int32} (hM : M.1.cls = "ShareStore") (hd : decode M.2.1 pc = .ok (.putfield 163, 3)) (hc : h a = some (.inr (3, fs))) (hlen : 5 < fs.length) (hfs : fs.set 5 (.int x) = fs') (hh : updH h a (.inr (3, fs')) = h') (kk : RJ l g M R TG XP n h' k sl (pc + 3) lv st) : RJ l g M R TG XP n h k sl pc lv (.int x :: .ref a :: st) := r_putN (C := R_N) (T := T_N) (N := 6) (kf := 5) (ty := .int) (host := "ShareStore") rfl iw_N ty_N ty_N_ok nm_N (by decide) rfl rfl (by rw [hM]; decide +kernel) hd rfl rfl hc hlen hfs hh kk
theorem rg_S_10 {l : Launch} {g : GX} {M : MT} {R : Room} {TG : TGT} {XP : XPT} {n : Nat} {h h' : AH} {k sl : Nat} {pc : Nat} {lv : List (Nat × Value)} {st : List Value} {a : Nat} {fs : List Value} {v : Value} (hM : M.1.cls = "ShareStore") (hd : decode M.2.1 pc = .ok (.getfield 10, 3)) (hc : h a = some (.inr (4, fs))) (hv : fs[0]? = some v) (kk : RJ l g M R TG XP n h k sl (pc + 3) lv (v :: st)) : RJ l g M R TG XP n h k sl pc lv (.ref a :: st) := r_get (C := R_S) (T := T_S) (N := 13) (kf := 0) rfl iw_S (by decide) (by rw [hM]; exact wm_in (i := 170) (by decide +kernel) rfl) hd hc hv kk
theorem rp_S_10 {l : Launch} {g : GX} {M : MT} {R : Room} {TG : TGT} {XP : XPT} {n : Nat} {h h' : AH} {k sl : Nat} {pc : Nat} {lv : List (Nat × Value)} {st : List Value} {a : Nat} {fs fs' : List Value} {x : Nat} (hM : M.1.cls = "ShareStore") (hI : M.1.name = "<init>") (hd : decode M.2.1 pc = .ok (.putfield 10, 3)) (hc : h a = some (.inr (4, fs))) (hlen : 0 < fs.length) (hfs : fs.set 0 (.ref x) = fs') (hh : updH h a (.inr (4, fs')) = h') (kk : RJ l g M R TG XP n h' k sl (pc + 3) lv st) : RJ l g M R TG XP n h k sl pc lv (.ref x :: .ref a :: st) := r_putF (C := R_S) (T := T_S) (N := 13) (kf := 0) (ty := .object "ShareStore$Coder") rfl iw_S ty_S ty_S_ok nm_S (by decide) rfl rfl (by rw [hM]; exact wm_in (i := 170) (by decide +kernel) rfl) hI (by rw [hM]; rfl) hd rfl rfl hc hlen hfs hh kk
theorem rg_S_18 {l : Launch} {g : GX} {M : MT} {R : Room} {TG : TGT} {XP : XPT} {n : Nat} {h h' : AH} {k sl : Nat} {pc : Nat} {lv : List (Nat × Value)} {st : List Value} {a : Nat} {fs : List Value} {v : Value} (hM : M.1.cls = "ShareStore") (hd : decode M.2.1 pc = .ok (.getfield 18, 3)) (hc : h a = some (.inr (4, fs))) (hv : fs[1]? = some v) (kk : RJ l g M R TG XP n h k sl (pc + 3) lv (v :: st)) : RJ l g M R TG XP n h k sl pc lv (.ref a :: st) := r_get (C := R_S) (T := T_S) (N := 13) (kf := 1) rfl iw_S (by decide) (by rw [hM]; exact wm_in (i := 171) (by decide +kernel) rfl) hd hc hv kk
theorem rp_S_18 {l : Launch} {g : GX} {M : MT} {R : Room} {TG : TGT} {XP : XPT} {n : Nat} {h h' : AH} {k sl : Nat} {pc : Nat} {lv : List (Nat × Value)} {st : List Value} {a : Nat} {fs fs' : List Value} {x : Nat} (hM : M.1.cls = "ShareStore") (hI : M.1.name = "<init>") (hd : decode M.2.1 pc = .ok (.putfield 18, 3)) (hc : h a = some (.inr (4, fs))) (hlen : 1 < fs.length) (hfs : fs.set 1 (.ref x) = fs') (hh : updH h a (.inr (4, fs')) = h') (kk : RJ l g M R TG XP n h' k sl (pc + 3) lv st) : RJ l g M R TG XP n h k sl pc lv (.ref x :: .ref a :: st) := r_putF (C := R_S) (T := T_S) (N := 13) (kf := 1) (ty := .array (.object "ShareStore$Node")) rfl iw_S ty_S ty_S_ok nm_S (by decide) rfl rfl (by rw [hM]; exact wm_in (i := 171) (by decide +kernel) rfl) hI (by rw [hM]; rfl) hd rfl rfl hc hlen hfs hh kk
theorem rg_S_22 {l : Launch} {g : GX} {M : MT} {R : Room} {TG : TGT} {XP : XPT} {n : Nat} {h h' : AH} {k sl : Nat} {pc : Nat} {lv : List (Nat × Value)} {st : List Value} {a : Nat} {fs : List Value} {v : Value} (hM : M.1.cls = "ShareStore") (hd : decode M.2.1 pc = .ok (.getfield 22, 3)) (hc : h a = some (.inr (4, fs))) (hv : fs[2]? = some v) (kk : RJ l g M R TG XP n h k sl (pc + 3) lv (v :: st)) : RJ l g M R TG XP n h k sl pc lv (.ref a :: st) := r_get (C := R_S) (T := T_S) (N := 13) (kf := 2) rfl iw_S (by decide) (by rw [hM]; exact wm_in (i := 172) (by decide +kernel) rfl) hd hc hv kk
theorem rp_S_22 {l : Launch} {g : GX} {M : MT} {R : Room} {TG : TGT} {XP : XPT} {n : Nat} {h h' : AH} {k sl : Nat} {pc : Nat} {lv : List (Nat × Value)} {st : List Value} {a : Nat} {fs fs' : List Value} {x : Nat} (hM : M.1.cls = "ShareStore") (hI : M.1.name = "<init>") (hd : decode M.2.1 pc = .ok (.putfield 22, 3)) (hc : h a = some (.inr (4, fs))) (hlen : 2 < fs.length) (hfs : fs.set 2 (.ref x) = fs') (hh : updH h a (.inr (4, fs')) = h') (kk : RJ l g M R TG XP n h' k sl (pc + 3) lv st) : RJ l g M R TG XP n h k sl pc lv (.ref x :: .ref a :: st) := r_putF (C := R_S) (T := T_S) (N := 13) (kf := 2) (ty := .array .int) rfl iw_S ty_S ty_S_ok nm_S (by decide) rfl rfl (by rw [hM]; exact wm_in (i := 172) (by decide +kernel) rfl) hI (by rw [hM]; rfl) hd rfl rfl hc hlen hfs hh kk
theorem rg_S_26 {l : Launch} {g : GX} {M : MT} {R : Room} {TG : TGT} {XP : XPT} {n : Nat} {h h' : AH} {k sl : Nat} {pc : Nat} {lv : List (Nat × Value)} {st : List Value} {a : Nat} {fs : List Value} {v : Value} (hM : M.1.cls = "ShareStore") (hd : decode M.2.1 pc = .ok (.getfield 26, 3)) (hc : h a = some (.inr (4, fs))) (hv : fs[3]? = some v) (kk : RJ l g M R TG XP n h k sl (pc + 3) lv (v :: st)) : RJ l g M R TG XP n h k sl pc lv (.ref a :: st) := r_get (C := R_S) (T := T_S) (N := 13) (kf := 3) rfl iw_S (by decide) (by rw [hM]; exact wm_in (i := 173) (by decide +kernel) rfl) hd hc hv kk
theorem rp_S_26 {l : Launch} {g : GX} {M : MT} {R : Room} {TG : TGT} {XP : XPT} {n : Nat} {h h' : AH} {k sl : Nat} {pc : Nat} {lv : List (Nat × Value)} {st : List Value} {a : Nat} {fs fs' : List Value} {x : Nat} (hM : M.1.cls = "ShareStore") (hI : M.1.name = "<init>") (hd : decode M.2.1 pc = .ok (.putfield 26, 3)) (hc : h a = some (.inr (4, fs))) (hlen : 3 < fs.length) (hfs : fs.set 3 (.ref x) = fs') (hh : updH h a (.inr (4, fs')) = h') (kk : RJ l g M R TG XP n h' k sl (pc + 3) lv st) : RJ l g M R TG XP n h k sl pc lv (.ref x :: .ref a :: st) := r_putF (C := R_S) (T := T_S) (N := 13) (kf := 3) (ty := .array .boolean) rfl iw_S ty_S ty_S_ok nm_S (by decide) rfl rfl (by rw [hM]; exact wm_in (i := 173) (by decide +kernel) rfl) hI (by rw [hM]; rfl) hd rfl rfl hc hlen hfs hh kk
theorem rg_S_30 {l : Launch} {g : GX} {M : MT} {R : Room} {TG : TGT} {XP : XPT} {n : Nat} {h h' : AH} {k sl : Nat} {pc : Nat} {lv : List (Nat × Value)} {st : List Value} {a : Nat} {fs : List Value} {v : Value} (hM : M.1.cls = "ShareStore") (hd : decode M.2.1 pc = .ok (.getfield 30, 3)) (hc : h a = some (.inr (4, fs))) (hv : fs[4]? = some v) (kk : RJ l g M R TG XP n h k sl (pc + 3) lv (v :: st)) : RJ l g M R TG XP n h k sl pc lv (.ref a :: st) := r_get (C := R_S) (T := T_S) (N := 13) (kf := 4) rfl iw_S (by decide) (by rw [hM]; exact wm_in (i := 174) (by decide +kernel) rfl) hd hc hv kk
theorem rp_S_30 {l : Launch} {g : GX} {M : MT} {R : Room} {TG : TGT} {XP : XPT} {n : Nat} {h h' : AH} {k sl : Nat} {pc : Nat} {lv : List (Nat × Value)} {st : List Value} {a : Nat} {fs fs' : List Value} {x : Nat} (hM : M.1.cls = "ShareStore") (hI : M.1.name = "<init>") (hd : decode M.2.1 pc = .ok (.putfield 30, 3)) (hc : h a = some (.inr (4, fs))) (hlen : 4 < fs.length) (hfs : fs.set 4 (.ref x) = fs') (hh : updH h a (.inr (4, fs')) = h') (kk : RJ l g M R TG XP n h' k sl (pc + 3) lv st) : RJ l g M R TG XP n h k sl pc lv (.ref x :: .ref a :: st) := r_putF (C := R_S) (T := T_S) (N := 13) (kf := 4) (ty := .array .int) rfl iw_S ty_S ty_S_ok nm_S (by decide) rfl rfl (by rw [hM]; exact wm_in (i := 174) (by decide +kernel) rfl) hI (by rw [hM]; rfl) hd rfl rfl hc hlen hfs hh kk
theorem rg_S_33 {l : Launch} {g : GX} {M : MT} {R : Room} {TG : TGT} {XP : XPT} {n : Nat} {h h' : AH} {k sl : Nat} {pc : Nat} {lv : List (Nat × Value)} {st : List Value} {a : Nat} {fs : List Value} {v : Value} (hM : M.1.cls = "ShareStore") (hd : decode M.2.1 pc = .ok (.getfield 33, 3)) (hc : h a = some (.inr (4, fs))) (hv : fs[5]? = some v) (kk : RJ l g M R TG XP n h k sl (pc + 3) lv (v :: st)) : RJ l g M R TG XP n h k sl pc lv (.ref a :: st) := r_get (C := R_S) (T := T_S) (N := 13) (kf := 5) rfl iw_S (by decide) (by rw [hM]; exact wm_in (i := 175) (by decide +kernel) rfl) hd hc hv kk
theorem rp_S_33 {l : Launch} {g : GX} {M : MT} {R : Room} {TG : TGT} {XP : XPT} {n : Nat} {h h' : AH} {k sl : Nat} {pc : Nat} {lv : List (Nat × Value)} {st : List Value} {a : Nat} {fs fs' : List Value} {x : Int32} (hM : M.1.cls = "ShareStore") (hd : decode M.2.1 pc = .ok (.putfield 33, 3)) (hc : h a = some (.inr (4, fs))) (hlen : 5 < fs.length) (hfs : fs.set 5 (.int x) = fs') (hh : updH h a (.inr (4, fs')) = h') (kk : RJ l g M R TG XP n h' k sl (pc + 3) lv st) : RJ l g M R TG XP n h k sl pc lv (.int x :: .ref a :: st) := r_put (C := R_S) (T := T_S) (N := 13) (kf := 5) (ty := .int) rfl iw_S ty_S ty_S_ok nm_S (by decide) rfl rfl (by rw [hM]; exact wm_in (i := 175) (by decide +kernel) rfl) hd rfl rfl hc hlen hfs hh kk
theorem rg_S_37 {l : Launch} {g : GX} {M : MT} {R : Room} {TG : TGT} {XP : XPT} {n : Nat} {h h' : AH} {k sl : Nat} {pc : Nat} {lv : List (Nat × Value)} {st : List Value} {a : Nat} {fs : List Value} {v : Value} (hM : M.1.cls = "ShareStore") (hd : decode M.2.1 pc = .ok (.getfield 37, 3)) (hc : h a = some (.inr (4, fs))) (hv : fs[6]? = some v) (kk : RJ l g M R TG XP n h k sl (pc + 3) lv (v :: st)) : RJ l g M R TG XP n h k sl pc lv (.ref a :: st) := r_get (C := R_S) (T := T_S) (N := 13) (kf := 6) rfl iw_S (by decide) (by rw [hM]; exact wm_in (i := 176) (by decide +kernel) rfl) hd hc hv kk
theorem rp_S_37 {l : Launch} {g : GX} {M : MT} {R : Room} {TG : TGT} {XP : XPT} {n : Nat} {h h' : AH} {k sl : Nat} {pc : Nat} {lv : List (Nat × Value)} {st : List Value} {a : Nat} {fs fs' : List Value} {x : Nat} (hM : M.1.cls = "ShareStore") (hI : M.1.name = "<init>") (hd : decode M.2.1 pc = .ok (.putfield 37, 3)) (hc : h a = some (.inr (4, fs))) (hlen : 6 < fs.length) (hfs : fs.set 6 (.ref x) = fs') (hh : updH h a (.inr (4, fs')) = h') (kk : RJ l g M R TG XP n h' k sl (pc + 3) lv st) : RJ l g M R TG XP n h k sl pc lv (.ref x :: .ref a :: st) := r_putF (C := R_S) (T := T_S) (N := 13) (kf := 6) (ty := .array .int) rfl iw_S ty_S ty_S_ok nm_S (by decide) rfl rfl (by rw [hM]; exact wm_in (i := 176) (by decide +kernel) rfl) hI (by rw [hM]; rfl) hd rfl rfl hc hlen hfs hh kk
theorem rg_S_40 {l : Launch} {g : GX} {M : MT} {R : Room} {TG : TGT} {XP : XPT} {n : Nat} {h h' : AH} {k sl : Nat} {pc : Nat} {lv : List (Nat × Value)} {st : List Value} {a : Nat} {fs : List Value} {v : Value} (hM : M.1.cls = "ShareStore") (hd : decode M.2.1 pc = .ok (.getfield 40, 3)) (hc : h a = some (.inr (4, fs))) (hv : fs[7]? = some v) (kk : RJ l g M R TG XP n h k sl (pc + 3) lv (v :: st)) : RJ l g M R TG XP n h k sl pc lv (.ref a :: st) := r_get (C := R_S) (T := T_S) (N := 13) (kf := 7) rfl iw_S (by decide) (by rw [hM]; exact wm_in (i := 177) (by decide +kernel) rfl) hd hc hv kk
theorem rp_S_40 {l : Launch} {g : GX} {M : MT} {R : Room} {TG : TGT} {XP : XPT} {n : Nat} {h h' : AH} {k sl : Nat} {pc : Nat} {lv : List (Nat × Value)} {st : List Value} {a : Nat} {fs fs' : List Value} {x : Int32} (hM : M.1.cls = "ShareStore") (hd : decode M.2.1 pc = .ok (.putfield 40, 3)) (hc : h a = some (.inr (4, fs))) (hlen : 7 < fs.length) (hfs : fs.set 7 (.int x) = fs') (hh : updH h a (.inr (4, fs')) = h') (kk : RJ l g M R TG XP n h' k sl (pc + 3) lv st) : RJ l g M R TG XP n h k sl pc lv (.int x :: .ref a :: st) := r_put (C := R_S) (T := T_S) (N := 13) (kf := 7) (ty := .int) rfl iw_S ty_S ty_S_ok nm_S (by decide) rfl rfl (by rw [hM]; exact wm_in (i := 177) (by decide +kernel) rfl) hd rfl rfl hc hlen hfs hh kk
theorem rg_S_43 {l : Launch} {g : GX} {M : MT} {R : Room} {TG : TGT} {XP : XPT} {n : Nat} {h h' : AH} {k sl : Nat} {pc : Nat} {lv : List (Nat × Value)} {st : List Value} {a : Nat} {fs : List Value} {v : Value} (hM : M.1.cls = "ShareStore") (hd : decode M.2.1 pc = .ok (.getfield 43, 3)) (hc : h a = some (.inr (4, fs))) (hv : fs[8]? = some v) (kk : RJ l g M R TG XP n h k sl (pc + 3) lv (v :: st)) : RJ l g M R TG XP n h k sl pc lv (.ref a :: st) := r_get (C := R_S) (T := T_S) (N := 13) (kf := 8) rfl iw_S (by decide) (by rw [hM]; exact wm_in (i := 178) (by decide +kernel) rfl) hd hc hv kk
theorem rp_S_43 {l : Launch} {g : GX} {M : MT} {R : Room} {TG : TGT} {XP : XPT} {n : Nat} {h h' : AH} {k sl : Nat} {pc : Nat} {lv : List (Nat × Value)} {st : List Value} {a : Nat} {fs fs' : List Value} {x : Int32} (hM : M.1.cls = "ShareStore") (hd : decode M.2.1 pc = .ok (.putfield 43, 3)) (hc : h a = some (.inr (4, fs))) (hlen : 8 < fs.length) (hfs : fs.set 8 (.int x) = fs') (hh : updH h a (.inr (4, fs')) = h') (kk : RJ l g M R TG XP n h' k sl (pc + 3) lv st) : RJ l g M R TG XP n h k sl pc lv (.int x :: .ref a :: st) := r_put (C := R_S) (T := T_S) (N := 13) (kf := 8) (ty := .int) rfl iw_S ty_S ty_S_ok nm_S (by decide) rfl rfl (by rw [hM]; exact wm_in (i := 178) (by decide +kernel) rfl) hd rfl rfl hc hlen hfs hh kk
theorem rg_S_46 {l : Launch} {g : GX} {M : MT} {R : Room} {TG : TGT} {XP : XPT} {n : Nat} {h h' : AH} {k sl : Nat} {pc : Nat} {lv : List (Nat × Value)} {st : List Value} {a : Nat} {fs : List Value} {v : Value} (hM : M.1.cls = "ShareStore") (hd : decode M.2.1 pc = .ok (.getfield 46, 3)) (hc : h a = some (.inr (4, fs))) (hv : fs[9]? = some v) (kk : RJ l g M R TG XP n h k sl (pc + 3) lv (v :: st)) : RJ l g M R TG XP n h k sl pc lv (.ref a :: st) := r_get (C := R_S) (T := T_S) (N := 13) (kf := 9) rfl iw_S (by decide) (by rw [hM]; exact wm_in (i := 179) (by decide +kernel) rfl) hd hc hv kk
theorem rp_S_46 {l : Launch} {g : GX} {M : MT} {R : Room} {TG : TGT} {XP : XPT} {n : Nat} {h h' : AH} {k sl : Nat} {pc : Nat} {lv : List (Nat × Value)} {st : List Value} {a : Nat} {fs fs' : List Value} {x : Int32} (hM : M.1.cls = "ShareStore") (hd : decode M.2.1 pc = .ok (.putfield 46, 3)) (hc : h a = some (.inr (4, fs))) (hlen : 9 < fs.length) (hfs : fs.set 9 (.int x) = fs') (hh : updH h a (.inr (4, fs')) = h') (kk : RJ l g M R TG XP n h' k sl (pc + 3) lv st) : RJ l g M R TG XP n h k sl pc lv (.int x :: .ref a :: st) := r_put (C := R_S) (T := T_S) (N := 13) (kf := 9) (ty := .int) rfl iw_S ty_S ty_S_ok nm_S (by decide) rfl rfl (by rw [hM]; exact wm_in (i := 179) (by decide +kernel) rfl) hd rfl rfl hc hlen hfs hh kk
theorem rg_S_49 {l : Launch} {g : GX} {M : MT} {R : Room} {TG : TGT} {XP : XPT} {n : Nat} {h h' : AH} {k sl : Nat} {pc : Nat} {lv : List (Nat × Value)} {st : List Value} {a : Nat} {fs : List Value} {v : Value} (hM : M.1.cls = "ShareStore") (hd : decode M.2.1 pc = .ok (.getfield 49, 3)) (hc : h a = some (.inr (4, fs))) (hv : fs[10]? = some v) (kk : RJ l g M R TG XP n h k sl (pc + 3) lv (v :: st)) : RJ l g M R TG XP n h k sl pc lv (.ref a :: st) := r_get (C := R_S) (T := T_S) (N := 13) (kf := 10) rfl iw_S (by decide) (by rw [hM]; exact wm_in (i := 180) (by decide +kernel) rfl) hd hc hv kk
theorem rp_S_49 {l : Launch} {g : GX} {M : MT} {R : Room} {TG : TGT} {XP : XPT} {n : Nat} {h h' : AH} {k sl : Nat} {pc : Nat} {lv : List (Nat × Value)} {st : List Value} {a : Nat} {fs fs' : List Value} {x : Int32} (hM : M.1.cls = "ShareStore") (hd : decode M.2.1 pc = .ok (.putfield 49, 3)) (hc : h a = some (.inr (4, fs))) (hlen : 10 < fs.length) (hfs : fs.set 10 (.int x) = fs') (hh : updH h a (.inr (4, fs')) = h') (kk : RJ l g M R TG XP n h' k sl (pc + 3) lv st) : RJ l g M R TG XP n h k sl pc lv (.int x :: .ref a :: st) := r_put (C := R_S) (T := T_S) (N := 13) (kf := 10) (ty := .int) rfl iw_S ty_S ty_S_ok nm_S (by decide) rfl rfl (by rw [hM]; exact wm_in (i := 180) (by decide +kernel) rfl) hd rfl rfl hc hlen hfs hh kk
theorem rg_S_52 {l : Launch} {g : GX} {M : MT} {R : Room} {TG : TGT} {XP : XPT} {n : Nat} {h h' : AH} {k sl : Nat} {pc : Nat} {lv : List (Nat × Value)} {st : List Value} {a : Nat} {fs : List Value} {v : Value} (hM : M.1.cls = "ShareStore") (hd : decode M.2.1 pc = .ok (.getfield 52, 3)) (hc : h a = some (.inr (4, fs))) (hv : fs[11]? = some v) (kk : RJ l g M R TG XP n h k sl (pc + 3) lv (v :: st)) : RJ l g M R TG XP n h k sl pc lv (.ref a :: st) := r_get (C := R_S) (T := T_S) (N := 13) (kf := 11) rfl iw_S (by decide) (by rw [hM]; exact wm_in (i := 181) (by decide +kernel) rfl) hd hc hv kk
theorem rp_S_52 {l : Launch} {g : GX} {M : MT} {R : Room} {TG : TGT} {XP : XPT} {n : Nat} {h h' : AH} {k sl : Nat} {pc : Nat} {lv : List (Nat × Value)} {st : List Value} {a : Nat} {fs fs' : List Value} {x : Nat} (hM : M.1.cls = "ShareStore") (hI : M.1.name = "<init>") (hd : decode M.2.1 pc = .ok (.putfield 52, 3)) (hc : h a = some (.inr (4, fs))) (hlen : 11 < fs.length) (hfs : fs.set 11 (.ref x) = fs') (hh : updH h a (.inr (4, fs')) = h') (kk : RJ l g M R TG XP n h' k sl (pc + 3) lv st) : RJ l g M R TG XP n h k sl pc lv (.ref x :: .ref a :: st) := r_putF (C := R_S) (T := T_S) (N := 13) (kf := 11) (ty := .array .int) rfl iw_S ty_S ty_S_ok nm_S (by decide) rfl rfl (by rw [hM]; exact wm_in (i := 181) (by decide +kernel) rfl) hI (by rw [hM]; rfl) hd rfl rfl hc hlen hfs hh kk
theorem rg_S_55 {l : Launch} {g : GX} {M : MT} {R : Room} {TG : TGT} {XP : XPT} {n : Nat} {h h' : AH} {k sl : Nat} {pc : Nat} {lv : List (Nat × Value)} {st : List Value} {a : Nat} {fs : List Value} {v : Value} (hM : M.1.cls = "ShareStore") (hd : decode M.2.1 pc = .ok (.getfield 55, 3)) (hc : h a = some (.inr (4, fs))) (hv : fs[12]? = some v) (kk : RJ l g M R TG XP n h k sl (pc + 3) lv (v :: st)) : RJ l g M R TG XP n h k sl pc lv (.ref a :: st) := r_get (C := R_S) (T := T_S) (N := 13) (kf := 12) rfl iw_S (by decide) (by rw [hM]; exact wm_in (i := 182) (by decide +kernel) rfl) hd hc hv kk
theorem rp_S_55 {l : Launch} {g : GX} {M : MT} {R : Room} {TG : TGT} {XP : XPT} {n : Nat} {h h' : AH} {k sl : Nat} {pc : Nat} {lv : List (Nat × Value)} {st : List Value} {a : Nat} {fs fs' : List Value} {x : Nat} (hM : M.1.cls = "ShareStore") (hI : M.1.name = "<init>") (hd : decode M.2.1 pc = .ok (.putfield 55, 3)) (hc : h a = some (.inr (4, fs))) (hlen : 12 < fs.length) (hfs : fs.set 12 (.ref x) = fs') (hh : updH h a (.inr (4, fs')) = h') (kk : RJ l g M R TG XP n h' k sl (pc + 3) lv st) : RJ l g M R TG XP n h k sl pc lv (.ref x :: .ref a :: st) := r_putF (C := R_S) (T := T_S) (N := 13) (kf := 12) (ty := .array .int) rfl iw_S ty_S ty_S_ok nm_S (by decide) rfl rfl (by rw [hM]; exact wm_in (i := 182) (by decide +kernel) rfl) hI (by rw [hM]; rfl) hd rfl rfl hc hlen hfs hh kk
theorem rg_M_7 {l : Launch} {g : GX} {M : MT} {R : Room} {TG : TGT} {XP : XPT} {n : Nat} {h h' : AH} {k sl : Nat} {pc : Nat} {lv : List (Nat × Value)} {st : List Value} {a : Nat} {fs : List Value} {v : Value} (hM : M.1.cls = "ShareStoreModel") (hd : decode M.2.1 pc = .ok (.getfield 7, 3)) (hc : h a = some (.inr (5, fs))) (hv : fs[0]? = some v) (kk : RJ l g M R TG XP n h k sl (pc + 3) lv (v :: st)) : RJ l g M R TG XP n h k sl pc lv (.ref a :: st) := r_get (C := R_M) (T := T_M) (N := 20) (kf := 0) rfl iw_M (by decide) (by rw [hM]; exact wm_in (i := 541) (by decide +kernel) rfl) hd hc hv kk
theorem rp_M_7 {l : Launch} {g : GX} {M : MT} {R : Room} {TG : TGT} {XP : XPT} {n : Nat} {h h' : AH} {k sl : Nat} {pc : Nat} {lv : List (Nat × Value)} {st : List Value} {a : Nat} {fs fs' : List Value} {x : Nat} (hM : M.1.cls = "ShareStoreModel") (hI : M.1.name = "<init>") (hd : decode M.2.1 pc = .ok (.putfield 7, 3)) (hc : h a = some (.inr (5, fs))) (hlen : 0 < fs.length) (hfs : fs.set 0 (.ref x) = fs') (hh : updH h a (.inr (5, fs')) = h') (kk : RJ l g M R TG XP n h' k sl (pc + 3) lv st) : RJ l g M R TG XP n h k sl pc lv (.ref x :: .ref a :: st) := r_putF (C := R_M) (T := T_M) (N := 20) (kf := 0) (ty := .array .int) rfl iw_M ty_M ty_M_ok nm_M (by decide) rfl rfl (by rw [hM]; exact wm_in (i := 541) (by decide +kernel) rfl) hI (by rw [hM]; rfl) hd rfl rfl hc hlen hfs hh kk
theorem rg_M_96 {l : Launch} {g : GX} {M : MT} {R : Room} {TG : TGT} {XP : XPT} {n : Nat} {h h' : AH} {k sl : Nat} {pc : Nat} {lv : List (Nat × Value)} {st : List Value} {a : Nat} {fs : List Value} {v : Value} (hM : M.1.cls = "ShareStoreModel") (hd : decode M.2.1 pc = .ok (.getfield 96, 3)) (hc : h a = some (.inr (5, fs))) (hv : fs[1]? = some v) (kk : RJ l g M R TG XP n h k sl (pc + 3) lv (v :: st)) : RJ l g M R TG XP n h k sl pc lv (.ref a :: st) := r_get (C := R_M) (T := T_M) (N := 20) (kf := 1) rfl iw_M (by decide) (by rw [hM]; exact wm_in (i := 542) (by decide +kernel) rfl) hd hc hv kk
theorem rp_M_96 {l : Launch} {g : GX} {M : MT} {R : Room} {TG : TGT} {XP : XPT} {n : Nat} {h h' : AH} {k sl : Nat} {pc : Nat} {lv : List (Nat × Value)} {st : List Value} {a : Nat} {fs fs' : List Value} {x : Int32} (hM : M.1.cls = "ShareStoreModel") (hd : decode M.2.1 pc = .ok (.putfield 96, 3)) (hc : h a = some (.inr (5, fs))) (hlen : 1 < fs.length) (hfs : fs.set 1 (.int x) = fs') (hh : updH h a (.inr (5, fs')) = h') (kk : RJ l g M R TG XP n h' k sl (pc + 3) lv st) : RJ l g M R TG XP n h k sl pc lv (.int x :: .ref a :: st) := r_put (C := R_M) (T := T_M) (N := 20) (kf := 1) (ty := .int) rfl iw_M ty_M ty_M_ok nm_M (by decide) rfl rfl (by rw [hM]; exact wm_in (i := 542) (by decide +kernel) rfl) hd rfl rfl hc hlen hfs hh kk
theorem rg_M_13 {l : Launch} {g : GX} {M : MT} {R : Room} {TG : TGT} {XP : XPT} {n : Nat} {h h' : AH} {k sl : Nat} {pc : Nat} {lv : List (Nat × Value)} {st : List Value} {a : Nat} {fs : List Value} {v : Value} (hM : M.1.cls = "ShareStoreModel") (hd : decode M.2.1 pc = .ok (.getfield 13, 3)) (hc : h a = some (.inr (5, fs))) (hv : fs[2]? = some v) (kk : RJ l g M R TG XP n h k sl (pc + 3) lv (v :: st)) : RJ l g M R TG XP n h k sl pc lv (.ref a :: st) := r_get (C := R_M) (T := T_M) (N := 20) (kf := 2) rfl iw_M (by decide) (by rw [hM]; exact wm_in (i := 543) (by decide +kernel) rfl) hd hc hv kk
theorem rp_M_13 {l : Launch} {g : GX} {M : MT} {R : Room} {TG : TGT} {XP : XPT} {n : Nat} {h h' : AH} {k sl : Nat} {pc : Nat} {lv : List (Nat × Value)} {st : List Value} {a : Nat} {fs fs' : List Value} {x : Int32} (hM : M.1.cls = "ShareStoreModel") (hd : decode M.2.1 pc = .ok (.putfield 13, 3)) (hc : h a = some (.inr (5, fs))) (hlen : 2 < fs.length) (hfs : fs.set 2 (.int x) = fs') (hh : updH h a (.inr (5, fs')) = h') (kk : RJ l g M R TG XP n h' k sl (pc + 3) lv st) : RJ l g M R TG XP n h k sl pc lv (.int x :: .ref a :: st) := r_put (C := R_M) (T := T_M) (N := 20) (kf := 2) (ty := .int) rfl iw_M ty_M ty_M_ok nm_M (by decide) rfl rfl (by rw [hM]; exact wm_in (i := 543) (by decide +kernel) rfl) hd rfl rfl hc hlen hfs hh kk
theorem rg_M_17 {l : Launch} {g : GX} {M : MT} {R : Room} {TG : TGT} {XP : XPT} {n : Nat} {h h' : AH} {k sl : Nat} {pc : Nat} {lv : List (Nat × Value)} {st : List Value} {a : Nat} {fs : List Value} {v : Value} (hM : M.1.cls = "ShareStoreModel") (hd : decode M.2.1 pc = .ok (.getfield 17, 3)) (hc : h a = some (.inr (5, fs))) (hv : fs[3]? = some v) (kk : RJ l g M R TG XP n h k sl (pc + 3) lv (v :: st)) : RJ l g M R TG XP n h k sl pc lv (.ref a :: st) := r_get (C := R_M) (T := T_M) (N := 20) (kf := 3) rfl iw_M (by decide) (by rw [hM]; exact wm_in (i := 544) (by decide +kernel) rfl) hd hc hv kk
theorem rp_M_17 {l : Launch} {g : GX} {M : MT} {R : Room} {TG : TGT} {XP : XPT} {n : Nat} {h h' : AH} {k sl : Nat} {pc : Nat} {lv : List (Nat × Value)} {st : List Value} {a : Nat} {fs fs' : List Value} {x : Nat} (hM : M.1.cls = "ShareStoreModel") (hI : M.1.name = "<init>") (hd : decode M.2.1 pc = .ok (.putfield 17, 3)) (hc : h a = some (.inr (5, fs))) (hlen : 3 < fs.length) (hfs : fs.set 3 (.ref x) = fs') (hh : updH h a (.inr (5, fs')) = h') (kk : RJ l g M R TG XP n h' k sl (pc + 3) lv st) : RJ l g M R TG XP n h k sl pc lv (.ref x :: .ref a :: st) := r_putF (C := R_M) (T := T_M) (N := 20) (kf := 3) (ty := .array .boolean) rfl iw_M ty_M ty_M_ok nm_M (by decide) rfl rfl (by rw [hM]; exact wm_in (i := 544) (by decide +kernel) rfl) hI (by rw [hM]; rfl) hd rfl rfl hc hlen hfs hh kk
theorem rg_M_21 {l : Launch} {g : GX} {M : MT} {R : Room} {TG : TGT} {XP : XPT} {n : Nat} {h h' : AH} {k sl : Nat} {pc : Nat} {lv : List (Nat × Value)} {st : List Value} {a : Nat} {fs : List Value} {v : Value} (hM : M.1.cls = "ShareStoreModel") (hd : decode M.2.1 pc = .ok (.getfield 21, 3)) (hc : h a = some (.inr (5, fs))) (hv : fs[4]? = some v) (kk : RJ l g M R TG XP n h k sl (pc + 3) lv (v :: st)) : RJ l g M R TG XP n h k sl pc lv (.ref a :: st) := r_get (C := R_M) (T := T_M) (N := 20) (kf := 4) rfl iw_M (by decide) (by rw [hM]; exact wm_in (i := 545) (by decide +kernel) rfl) hd hc hv kk
theorem rp_M_21 {l : Launch} {g : GX} {M : MT} {R : Room} {TG : TGT} {XP : XPT} {n : Nat} {h h' : AH} {k sl : Nat} {pc : Nat} {lv : List (Nat × Value)} {st : List Value} {a : Nat} {fs fs' : List Value} {x : Nat} (hM : M.1.cls = "ShareStoreModel") (hI : M.1.name = "<init>") (hd : decode M.2.1 pc = .ok (.putfield 21, 3)) (hc : h a = some (.inr (5, fs))) (hlen : 4 < fs.length) (hfs : fs.set 4 (.ref x) = fs') (hh : updH h a (.inr (5, fs')) = h') (kk : RJ l g M R TG XP n h' k sl (pc + 3) lv st) : RJ l g M R TG XP n h k sl pc lv (.ref x :: .ref a :: st) := r_putF (C := R_M) (T := T_M) (N := 20) (kf := 4) (ty := .array .int) rfl iw_M ty_M ty_M_ok nm_M (by decide) rfl rfl (by rw [hM]; exact wm_in (i := 545) (by decide +kernel) rfl) hI (by rw [hM]; rfl) hd rfl rfl hc hlen hfs hh kk
theorem rg_M_24 {l : Launch} {g : GX} {M : MT} {R : Room} {TG : TGT} {XP : XPT} {n : Nat} {h h' : AH} {k sl : Nat} {pc : Nat} {lv : List (Nat × Value)} {st : List Value} {a : Nat} {fs : List Value} {v : Value} (hM : M.1.cls = "ShareStoreModel") (hd : decode M.2.1 pc = .ok (.getfield 24, 3)) (hc : h a = some (.inr (5, fs))) (hv : fs[5]? = some v) (kk : RJ l g M R TG XP n h k sl (pc + 3) lv (v :: st)) : RJ l g M R TG XP n h k sl pc lv (.ref a :: st) := r_get (C := R_M) (T := T_M) (N := 20) (kf := 5) rfl iw_M (by decide) (by rw [hM]; exact wm_in (i := 546) (by decide +kernel) rfl) hd hc hv kk
theorem rp_M_24 {l : Launch} {g : GX} {M : MT} {R : Room} {TG : TGT} {XP : XPT} {n : Nat} {h h' : AH} {k sl : Nat} {pc : Nat} {lv : List (Nat × Value)} {st : List Value} {a : Nat} {fs fs' : List Value} {x : Nat} (hM : M.1.cls = "ShareStoreModel") (hI : M.1.name = "<init>") (hd : decode M.2.1 pc = .ok (.putfield 24, 3)) (hc : h a = some (.inr (5, fs))) (hlen : 5 < fs.length) (hfs : fs.set 5 (.ref x) = fs') (hh : updH h a (.inr (5, fs')) = h') (kk : RJ l g M R TG XP n h' k sl (pc + 3) lv st) : RJ l g M R TG XP n h k sl pc lv (.ref x :: .ref a :: st) := r_putF (C := R_M) (T := T_M) (N := 20) (kf := 5) (ty := .array .boolean) rfl iw_M ty_M ty_M_ok nm_M (by decide) rfl rfl (by rw [hM]; exact wm_in (i := 546) (by decide +kernel) rfl) hI (by rw [hM]; rfl) hd rfl rfl hc hlen hfs hh kk
theorem rg_M_27 {l : Launch} {g : GX} {M : MT} {R : Room} {TG : TGT} {XP : XPT} {n : Nat} {h h' : AH} {k sl : Nat} {pc : Nat} {lv : List (Nat × Value)} {st : List Value} {a : Nat} {fs : List Value} {v : Value} (hM : M.1.cls = "ShareStoreModel") (hd : decode M.2.1 pc = .ok (.getfield 27, 3)) (hc : h a = some (.inr (5, fs))) (hv : fs[6]? = some v) (kk : RJ l g M R TG XP n h k sl (pc + 3) lv (v :: st)) : RJ l g M R TG XP n h k sl pc lv (.ref a :: st) := r_get (C := R_M) (T := T_M) (N := 20) (kf := 6) rfl iw_M (by decide) (by rw [hM]; exact wm_in (i := 547) (by decide +kernel) rfl) hd hc hv kk
theorem rp_M_27 {l : Launch} {g : GX} {M : MT} {R : Room} {TG : TGT} {XP : XPT} {n : Nat} {h h' : AH} {k sl : Nat} {pc : Nat} {lv : List (Nat × Value)} {st : List Value} {a : Nat} {fs fs' : List Value} {x : Nat} (hM : M.1.cls = "ShareStoreModel") (hI : M.1.name = "<init>") (hd : decode M.2.1 pc = .ok (.putfield 27, 3)) (hc : h a = some (.inr (5, fs))) (hlen : 6 < fs.length) (hfs : fs.set 6 (.ref x) = fs') (hh : updH h a (.inr (5, fs')) = h') (kk : RJ l g M R TG XP n h' k sl (pc + 3) lv st) : RJ l g M R TG XP n h k sl pc lv (.ref x :: .ref a :: st) := r_putF (C := R_M) (T := T_M) (N := 20) (kf := 6) (ty := .array .int) rfl iw_M ty_M ty_M_ok nm_M (by decide) rfl rfl (by rw [hM]; exact wm_in (i := 547) (by decide +kernel) rfl) hI (by rw [hM]; rfl) hd rfl rfl hc hlen hfs hh kk
theorem rg_M_30 {l : Launch} {g : GX} {M : MT} {R : Room} {TG : TGT} {XP : XPT} {n : Nat} {h h' : AH} {k sl : Nat} {pc : Nat} {lv : List (Nat × Value)} {st : List Value} {a : Nat} {fs : List Value} {v : Value} (hM : M.1.cls = "ShareStoreModel") (hd : decode M.2.1 pc = .ok (.getfield 30, 3)) (hc : h a = some (.inr (5, fs))) (hv : fs[7]? = some v) (kk : RJ l g M R TG XP n h k sl (pc + 3) lv (v :: st)) : RJ l g M R TG XP n h k sl pc lv (.ref a :: st) := r_get (C := R_M) (T := T_M) (N := 20) (kf := 7) rfl iw_M (by decide) (by rw [hM]; exact wm_in (i := 548) (by decide +kernel) rfl) hd hc hv kk
theorem rp_M_30 {l : Launch} {g : GX} {M : MT} {R : Room} {TG : TGT} {XP : XPT} {n : Nat} {h h' : AH} {k sl : Nat} {pc : Nat} {lv : List (Nat × Value)} {st : List Value} {a : Nat} {fs fs' : List Value} {x : Nat} (hM : M.1.cls = "ShareStoreModel") (hI : M.1.name = "<init>") (hd : decode M.2.1 pc = .ok (.putfield 30, 3)) (hc : h a = some (.inr (5, fs))) (hlen : 7 < fs.length) (hfs : fs.set 7 (.ref x) = fs') (hh : updH h a (.inr (5, fs')) = h') (kk : RJ l g M R TG XP n h' k sl (pc + 3) lv st) : RJ l g M R TG XP n h k sl pc lv (.ref x :: .ref a :: st) := r_putF (C := R_M) (T := T_M) (N := 20) (kf := 7) (ty := .array .boolean) rfl iw_M ty_M ty_M_ok nm_M (by decide) rfl rfl (by rw [hM]; exact wm_in (i := 548) (by decide +kernel) rfl) hI (by rw [hM]; rfl) hd rfl rfl hc hlen hfs hh kk
theorem rg_M_33 {l : Launch} {g : GX} {M : MT} {R : Room} {TG : TGT} {XP : XPT} {n : Nat} {h h' : AH} {k sl : Nat} {pc : Nat} {lv : List (Nat × Value)} {st : List Value} {a : Nat} {fs : List Value} {v : Value} (hM : M.1.cls = "ShareStoreModel") (hd : decode M.2.1 pc = .ok (.getfield 33, 3)) (hc : h a = some (.inr (5, fs))) (hv : fs[8]? = some v) (kk : RJ l g M R TG XP n h k sl (pc + 3) lv (v :: st)) : RJ l g M R TG XP n h k sl pc lv (.ref a :: st) := r_get (C := R_M) (T := T_M) (N := 20) (kf := 8) rfl iw_M (by decide) (by rw [hM]; exact wm_in (i := 549) (by decide +kernel) rfl) hd hc hv kk
theorem rp_M_33 {l : Launch} {g : GX} {M : MT} {R : Room} {TG : TGT} {XP : XPT} {n : Nat} {h h' : AH} {k sl : Nat} {pc : Nat} {lv : List (Nat × Value)} {st : List Value} {a : Nat} {fs fs' : List Value} {x : Nat} (hM : M.1.cls = "ShareStoreModel") (hI : M.1.name = "<init>") (hd : decode M.2.1 pc = .ok (.putfield 33, 3)) (hc : h a = some (.inr (5, fs))) (hlen : 8 < fs.length) (hfs : fs.set 8 (.ref x) = fs') (hh : updH h a (.inr (5, fs')) = h') (kk : RJ l g M R TG XP n h' k sl (pc + 3) lv st) : RJ l g M R TG XP n h k sl pc lv (.ref x :: .ref a :: st) := r_putF (C := R_M) (T := T_M) (N := 20) (kf := 8) (ty := .array .int) rfl iw_M ty_M ty_M_ok nm_M (by decide) rfl rfl (by rw [hM]; exact wm_in (i := 549) (by decide +kernel) rfl) hI (by rw [hM]; rfl) hd rfl rfl hc hlen hfs hh kk
theorem rg_M_36 {l : Launch} {g : GX} {M : MT} {R : Room} {TG : TGT} {XP : XPT} {n : Nat} {h h' : AH} {k sl : Nat} {pc : Nat} {lv : List (Nat × Value)} {st : List Value} {a : Nat} {fs : List Value} {v : Value} (hM : M.1.cls = "ShareStoreModel") (hd : decode M.2.1 pc = .ok (.getfield 36, 3)) (hc : h a = some (.inr (5, fs))) (hv : fs[9]? = some v) (kk : RJ l g M R TG XP n h k sl (pc + 3) lv (v :: st)) : RJ l g M R TG XP n h k sl pc lv (.ref a :: st) := r_get (C := R_M) (T := T_M) (N := 20) (kf := 9) rfl iw_M (by decide) (by rw [hM]; exact wm_in (i := 550) (by decide +kernel) rfl) hd hc hv kk
theorem rp_M_36 {l : Launch} {g : GX} {M : MT} {R : Room} {TG : TGT} {XP : XPT} {n : Nat} {h h' : AH} {k sl : Nat} {pc : Nat} {lv : List (Nat × Value)} {st : List Value} {a : Nat} {fs fs' : List Value} {x : Nat} (hM : M.1.cls = "ShareStoreModel") (hI : M.1.name = "<init>") (hd : decode M.2.1 pc = .ok (.putfield 36, 3)) (hc : h a = some (.inr (5, fs))) (hlen : 9 < fs.length) (hfs : fs.set 9 (.ref x) = fs') (hh : updH h a (.inr (5, fs')) = h') (kk : RJ l g M R TG XP n h' k sl (pc + 3) lv st) : RJ l g M R TG XP n h k sl pc lv (.ref x :: .ref a :: st) := r_putF (C := R_M) (T := T_M) (N := 20) (kf := 9) (ty := .array .int) rfl iw_M ty_M ty_M_ok nm_M (by decide) rfl rfl (by rw [hM]; exact wm_in (i := 550) (by decide +kernel) rfl) hI (by rw [hM]; rfl) hd rfl rfl hc hlen hfs hh kk
theorem rg_M_39 {l : Launch} {g : GX} {M : MT} {R : Room} {TG : TGT} {XP : XPT} {n : Nat} {h h' : AH} {k sl : Nat} {pc : Nat} {lv : List (Nat × Value)} {st : List Value} {a : Nat} {fs : List Value} {v : Value} (hM : M.1.cls = "ShareStoreModel") (hd : decode M.2.1 pc = .ok (.getfield 39, 3)) (hc : h a = some (.inr (5, fs))) (hv : fs[10]? = some v) (kk : RJ l g M R TG XP n h k sl (pc + 3) lv (v :: st)) : RJ l g M R TG XP n h k sl pc lv (.ref a :: st) := r_get (C := R_M) (T := T_M) (N := 20) (kf := 10) rfl iw_M (by decide) (by rw [hM]; exact wm_in (i := 551) (by decide +kernel) rfl) hd hc hv kk
theorem rp_M_39 {l : Launch} {g : GX} {M : MT} {R : Room} {TG : TGT} {XP : XPT} {n : Nat} {h h' : AH} {k sl : Nat} {pc : Nat} {lv : List (Nat × Value)} {st : List Value} {a : Nat} {fs fs' : List Value} {x : Nat} (hM : M.1.cls = "ShareStoreModel") (hI : M.1.name = "<init>") (hd : decode M.2.1 pc = .ok (.putfield 39, 3)) (hc : h a = some (.inr (5, fs))) (hlen : 10 < fs.length) (hfs : fs.set 10 (.ref x) = fs') (hh : updH h a (.inr (5, fs')) = h') (kk : RJ l g M R TG XP n h' k sl (pc + 3) lv st) : RJ l g M R TG XP n h k sl pc lv (.ref x :: .ref a :: st) := r_putF (C := R_M) (T := T_M) (N := 20) (kf := 10) (ty := .array .int) rfl iw_M ty_M ty_M_ok nm_M (by decide) rfl rfl (by rw [hM]; exact wm_in (i := 551) (by decide +kernel) rfl) hI (by rw [hM]; rfl) hd rfl rfl hc hlen hfs hh kk
theorem rg_M_42 {l : Launch} {g : GX} {M : MT} {R : Room} {TG : TGT} {XP : XPT} {n : Nat} {h h' : AH} {k sl : Nat} {pc : Nat} {lv : List (Nat × Value)} {st : List Value} {a : Nat} {fs : List Value} {v : Value} (hM : M.1.cls = "ShareStoreModel") (hd : decode M.2.1 pc = .ok (.getfield 42, 3)) (hc : h a = some (.inr (5, fs))) (hv : fs[11]? = some v) (kk : RJ l g M R TG XP n h k sl (pc + 3) lv (v :: st)) : RJ l g M R TG XP n h k sl pc lv (.ref a :: st) := r_get (C := R_M) (T := T_M) (N := 20) (kf := 11) rfl iw_M (by decide) (by rw [hM]; exact wm_in (i := 552) (by decide +kernel) rfl) hd hc hv kk
theorem rp_M_42 {l : Launch} {g : GX} {M : MT} {R : Room} {TG : TGT} {XP : XPT} {n : Nat} {h h' : AH} {k sl : Nat} {pc : Nat} {lv : List (Nat × Value)} {st : List Value} {a : Nat} {fs fs' : List Value} {x : Nat} (hM : M.1.cls = "ShareStoreModel") (hI : M.1.name = "<init>") (hd : decode M.2.1 pc = .ok (.putfield 42, 3)) (hc : h a = some (.inr (5, fs))) (hlen : 11 < fs.length) (hfs : fs.set 11 (.ref x) = fs') (hh : updH h a (.inr (5, fs')) = h') (kk : RJ l g M R TG XP n h' k sl (pc + 3) lv st) : RJ l g M R TG XP n h k sl pc lv (.ref x :: .ref a :: st) := r_putF (C := R_M) (T := T_M) (N := 20) (kf := 11) (ty := .array .int) rfl iw_M ty_M ty_M_ok nm_M (by decide) rfl rfl (by rw [hM]; exact wm_in (i := 552) (by decide +kernel) rfl) hI (by rw [hM]; rfl) hd rfl rfl hc hlen hfs hh kk
theorem rg_M_45 {l : Launch} {g : GX} {M : MT} {R : Room} {TG : TGT} {XP : XPT} {n : Nat} {h h' : AH} {k sl : Nat} {pc : Nat} {lv : List (Nat × Value)} {st : List Value} {a : Nat} {fs : List Value} {v : Value} (hM : M.1.cls = "ShareStoreModel") (hd : decode M.2.1 pc = .ok (.getfield 45, 3)) (hc : h a = some (.inr (5, fs))) (hv : fs[12]? = some v) (kk : RJ l g M R TG XP n h k sl (pc + 3) lv (v :: st)) : RJ l g M R TG XP n h k sl pc lv (.ref a :: st) := r_get (C := R_M) (T := T_M) (N := 20) (kf := 12) rfl iw_M (by decide) (by rw [hM]; exact wm_in (i := 553) (by decide +kernel) rfl) hd hc hv kk
theorem rp_M_45 {l : Launch} {g : GX} {M : MT} {R : Room} {TG : TGT} {XP : XPT} {n : Nat} {h h' : AH} {k sl : Nat} {pc : Nat} {lv : List (Nat × Value)} {st : List Value} {a : Nat} {fs fs' : List Value} {x : Nat} (hM : M.1.cls = "ShareStoreModel") (hI : M.1.name = "<init>") (hd : decode M.2.1 pc = .ok (.putfield 45, 3)) (hc : h a = some (.inr (5, fs))) (hlen : 12 < fs.length) (hfs : fs.set 12 (.ref x) = fs') (hh : updH h a (.inr (5, fs')) = h') (kk : RJ l g M R TG XP n h' k sl (pc + 3) lv st) : RJ l g M R TG XP n h k sl pc lv (.ref x :: .ref a :: st) := r_putF (C := R_M) (T := T_M) (N := 20) (kf := 12) (ty := .array .boolean) rfl iw_M ty_M ty_M_ok nm_M (by decide) rfl rfl (by rw [hM]; exact wm_in (i := 553) (by decide +kernel) rfl) hI (by rw [hM]; rfl) hd rfl rfl hc hlen hfs hh kk
theorem rg_M_48 {l : Launch} {g : GX} {M : MT} {R : Room} {TG : TGT} {XP : XPT} {n : Nat} {h h' : AH} {k sl : Nat} {pc : Nat} {lv : List (Nat × Value)} {st : List Value} {a : Nat} {fs : List Value} {v : Value} (hM : M.1.cls = "ShareStoreModel") (hd : decode M.2.1 pc = .ok (.getfield 48, 3)) (hc : h a = some (.inr (5, fs))) (hv : fs[13]? = some v) (kk : RJ l g M R TG XP n h k sl (pc + 3) lv (v :: st)) : RJ l g M R TG XP n h k sl pc lv (.ref a :: st) := r_get (C := R_M) (T := T_M) (N := 20) (kf := 13) rfl iw_M (by decide) (by rw [hM]; exact wm_in (i := 554) (by decide +kernel) rfl) hd hc hv kk
theorem rp_M_48 {l : Launch} {g : GX} {M : MT} {R : Room} {TG : TGT} {XP : XPT} {n : Nat} {h h' : AH} {k sl : Nat} {pc : Nat} {lv : List (Nat × Value)} {st : List Value} {a : Nat} {fs fs' : List Value} {x : Nat} (hM : M.1.cls = "ShareStoreModel") (hI : M.1.name = "<init>") (hd : decode M.2.1 pc = .ok (.putfield 48, 3)) (hc : h a = some (.inr (5, fs))) (hlen : 13 < fs.length) (hfs : fs.set 13 (.ref x) = fs') (hh : updH h a (.inr (5, fs')) = h') (kk : RJ l g M R TG XP n h' k sl (pc + 3) lv st) : RJ l g M R TG XP n h k sl pc lv (.ref x :: .ref a :: st) := r_putF (C := R_M) (T := T_M) (N := 20) (kf := 13) (ty := .array .int) rfl iw_M ty_M ty_M_ok nm_M (by decide) rfl rfl (by rw [hM]; exact wm_in (i := 554) (by decide +kernel) rfl) hI (by rw [hM]; rfl) hd rfl rfl hc hlen hfs hh kk
theorem rg_M_152 {l : Launch} {g : GX} {M : MT} {R : Room} {TG : TGT} {XP : XPT} {n : Nat} {h h' : AH} {k sl : Nat} {pc : Nat} {lv : List (Nat × Value)} {st : List Value} {a : Nat} {fs : List Value} {v : Value} (hM : M.1.cls = "ShareStoreModel") (hd : decode M.2.1 pc = .ok (.getfield 152, 3)) (hc : h a = some (.inr (5, fs))) (hv : fs[14]? = some v) (kk : RJ l g M R TG XP n h k sl (pc + 3) lv (v :: st)) : RJ l g M R TG XP n h k sl pc lv (.ref a :: st) := r_get (C := R_M) (T := T_M) (N := 20) (kf := 14) rfl iw_M (by decide) (by rw [hM]; exact wm_in (i := 555) (by decide +kernel) rfl) hd hc hv kk
theorem rp_M_152 {l : Launch} {g : GX} {M : MT} {R : Room} {TG : TGT} {XP : XPT} {n : Nat} {h h' : AH} {k sl : Nat} {pc : Nat} {lv : List (Nat × Value)} {st : List Value} {a : Nat} {fs fs' : List Value} {x : Int32} (hM : M.1.cls = "ShareStoreModel") (hd : decode M.2.1 pc = .ok (.putfield 152, 3)) (hc : h a = some (.inr (5, fs))) (hlen : 14 < fs.length) (hfs : fs.set 14 (.int x) = fs') (hh : updH h a (.inr (5, fs')) = h') (kk : RJ l g M R TG XP n h' k sl (pc + 3) lv st) : RJ l g M R TG XP n h k sl pc lv (.int x :: .ref a :: st) := r_put (C := R_M) (T := T_M) (N := 20) (kf := 14) (ty := .int) rfl iw_M ty_M ty_M_ok nm_M (by decide) rfl rfl (by rw [hM]; exact wm_in (i := 555) (by decide +kernel) rfl) hd rfl rfl hc hlen hfs hh kk
theorem rg_M_122 {l : Launch} {g : GX} {M : MT} {R : Room} {TG : TGT} {XP : XPT} {n : Nat} {h h' : AH} {k sl : Nat} {pc : Nat} {lv : List (Nat × Value)} {st : List Value} {a : Nat} {fs : List Value} {v : Value} (hM : M.1.cls = "ShareStoreModel") (hd : decode M.2.1 pc = .ok (.getfield 122, 3)) (hc : h a = some (.inr (5, fs))) (hv : fs[15]? = some v) (kk : RJ l g M R TG XP n h k sl (pc + 3) lv (v :: st)) : RJ l g M R TG XP n h k sl pc lv (.ref a :: st) := r_get (C := R_M) (T := T_M) (N := 20) (kf := 15) rfl iw_M (by decide) (by rw [hM]; exact wm_in (i := 556) (by decide +kernel) rfl) hd hc hv kk
theorem rp_M_122 {l : Launch} {g : GX} {M : MT} {R : Room} {TG : TGT} {XP : XPT} {n : Nat} {h h' : AH} {k sl : Nat} {pc : Nat} {lv : List (Nat × Value)} {st : List Value} {a : Nat} {fs fs' : List Value} {x : Int32} (hM : M.1.cls = "ShareStoreModel") (hd : decode M.2.1 pc = .ok (.putfield 122, 3)) (hc : h a = some (.inr (5, fs))) (hlen : 15 < fs.length) (hfs : fs.set 15 (.int x) = fs') (hh : updH h a (.inr (5, fs')) = h') (kk : RJ l g M R TG XP n h' k sl (pc + 3) lv st) : RJ l g M R TG XP n h k sl pc lv (.int x :: .ref a :: st) := r_put (C := R_M) (T := T_M) (N := 20) (kf := 15) (ty := .int) rfl iw_M ty_M ty_M_ok nm_M (by decide) rfl rfl (by rw [hM]; exact wm_in (i := 556) (by decide +kernel) rfl) hd rfl rfl hc hlen hfs hh kk
theorem rg_M_169 {l : Launch} {g : GX} {M : MT} {R : Room} {TG : TGT} {XP : XPT} {n : Nat} {h h' : AH} {k sl : Nat} {pc : Nat} {lv : List (Nat × Value)} {st : List Value} {a : Nat} {fs : List Value} {v : Value} (hM : M.1.cls = "ShareStoreModel") (hd : decode M.2.1 pc = .ok (.getfield 169, 3)) (hc : h a = some (.inr (5, fs))) (hv : fs[16]? = some v) (kk : RJ l g M R TG XP n h k sl (pc + 3) lv (v :: st)) : RJ l g M R TG XP n h k sl pc lv (.ref a :: st) := r_get (C := R_M) (T := T_M) (N := 20) (kf := 16) rfl iw_M (by decide) (by rw [hM]; exact wm_in (i := 557) (by decide +kernel) rfl) hd hc hv kk
theorem rp_M_169 {l : Launch} {g : GX} {M : MT} {R : Room} {TG : TGT} {XP : XPT} {n : Nat} {h h' : AH} {k sl : Nat} {pc : Nat} {lv : List (Nat × Value)} {st : List Value} {a : Nat} {fs fs' : List Value} {x : Int32} (hM : M.1.cls = "ShareStoreModel") (hd : decode M.2.1 pc = .ok (.putfield 169, 3)) (hc : h a = some (.inr (5, fs))) (hlen : 16 < fs.length) (hfs : fs.set 16 (.int x) = fs') (hh : updH h a (.inr (5, fs')) = h') (kk : RJ l g M R TG XP n h' k sl (pc + 3) lv st) : RJ l g M R TG XP n h k sl pc lv (.int x :: .ref a :: st) := r_put (C := R_M) (T := T_M) (N := 20) (kf := 16) (ty := .int) rfl iw_M ty_M ty_M_ok nm_M (by decide) rfl rfl (by rw [hM]; exact wm_in (i := 557) (by decide +kernel) rfl) hd rfl rfl hc hlen hfs hh kk
theorem rg_M_51 {l : Launch} {g : GX} {M : MT} {R : Room} {TG : TGT} {XP : XPT} {n : Nat} {h h' : AH} {k sl : Nat} {pc : Nat} {lv : List (Nat × Value)} {st : List Value} {a : Nat} {fs : List Value} {v : Value} (hM : M.1.cls = "ShareStoreModel") (hd : decode M.2.1 pc = .ok (.getfield 51, 3)) (hc : h a = some (.inr (5, fs))) (hv : fs[17]? = some v) (kk : RJ l g M R TG XP n h k sl (pc + 3) lv (v :: st)) : RJ l g M R TG XP n h k sl pc lv (.ref a :: st) := r_get (C := R_M) (T := T_M) (N := 20) (kf := 17) rfl iw_M (by decide) (by rw [hM]; exact wm_in (i := 558) (by decide +kernel) rfl) hd hc hv kk
theorem rp_M_51 {l : Launch} {g : GX} {M : MT} {R : Room} {TG : TGT} {XP : XPT} {n : Nat} {h h' : AH} {k sl : Nat} {pc : Nat} {lv : List (Nat × Value)} {st : List Value} {a : Nat} {fs fs' : List Value} {x : Nat} (hM : M.1.cls = "ShareStoreModel") (hI : M.1.name = "<init>") (hd : decode M.2.1 pc = .ok (.putfield 51, 3)) (hc : h a = some (.inr (5, fs))) (hlen : 17 < fs.length) (hfs : fs.set 17 (.ref x) = fs') (hh : updH h a (.inr (5, fs')) = h') (kk : RJ l g M R TG XP n h' k sl (pc + 3) lv st) : RJ l g M R TG XP n h k sl pc lv (.ref x :: .ref a :: st) := r_putF (C := R_M) (T := T_M) (N := 20) (kf := 17) (ty := .array .int) rfl iw_M ty_M ty_M_ok nm_M (by decide) rfl rfl (by rw [hM]; exact wm_in (i := 558) (by decide +kernel) rfl) hI (by rw [hM]; rfl) hd rfl rfl hc hlen hfs hh kk
theorem rg_M_54 {l : Launch} {g : GX} {M : MT} {R : Room} {TG : TGT} {XP : XPT} {n : Nat} {h h' : AH} {k sl : Nat} {pc : Nat} {lv : List (Nat × Value)} {st : List Value} {a : Nat} {fs : List Value} {v : Value} (hM : M.1.cls = "ShareStoreModel") (hd : decode M.2.1 pc = .ok (.getfield 54, 3)) (hc : h a = some (.inr (5, fs))) (hv : fs[18]? = some v) (kk : RJ l g M R TG XP n h k sl (pc + 3) lv (v :: st)) : RJ l g M R TG XP n h k sl pc lv (.ref a :: st) := r_get (C := R_M) (T := T_M) (N := 20) (kf := 18) rfl iw_M (by decide) (by rw [hM]; exact wm_in (i := 559) (by decide +kernel) rfl) hd hc hv kk
theorem rp_M_54 {l : Launch} {g : GX} {M : MT} {R : Room} {TG : TGT} {XP : XPT} {n : Nat} {h h' : AH} {k sl : Nat} {pc : Nat} {lv : List (Nat × Value)} {st : List Value} {a : Nat} {fs fs' : List Value} {x : Nat} (hM : M.1.cls = "ShareStoreModel") (hI : M.1.name = "<init>") (hd : decode M.2.1 pc = .ok (.putfield 54, 3)) (hc : h a = some (.inr (5, fs))) (hlen : 18 < fs.length) (hfs : fs.set 18 (.ref x) = fs') (hh : updH h a (.inr (5, fs')) = h') (kk : RJ l g M R TG XP n h' k sl (pc + 3) lv st) : RJ l g M R TG XP n h k sl pc lv (.ref x :: .ref a :: st) := r_putF (C := R_M) (T := T_M) (N := 20) (kf := 18) (ty := .array .int) rfl iw_M ty_M ty_M_ok nm_M (by decide) rfl rfl (by rw [hM]; exact wm_in (i := 559) (by decide +kernel) rfl) hI (by rw [hM]; rfl) hd rfl rfl hc hlen hfs hh kk
theorem rg_M_57 {l : Launch} {g : GX} {M : MT} {R : Room} {TG : TGT} {XP : XPT} {n : Nat} {h h' : AH} {k sl : Nat} {pc : Nat} {lv : List (Nat × Value)} {st : List Value} {a : Nat} {fs : List Value} {v : Value} (hM : M.1.cls = "ShareStoreModel") (hd : decode M.2.1 pc = .ok (.getfield 57, 3)) (hc : h a = some (.inr (5, fs))) (hv : fs[19]? = some v) (kk : RJ l g M R TG XP n h k sl (pc + 3) lv (v :: st)) : RJ l g M R TG XP n h k sl pc lv (.ref a :: st) := r_get (C := R_M) (T := T_M) (N := 20) (kf := 19) rfl iw_M (by decide) (by rw [hM]; exact wm_in (i := 560) (by decide +kernel) rfl) hd hc hv kk
theorem rp_M_57 {l : Launch} {g : GX} {M : MT} {R : Room} {TG : TGT} {XP : XPT} {n : Nat} {h h' : AH} {k sl : Nat} {pc : Nat} {lv : List (Nat × Value)} {st : List Value} {a : Nat} {fs fs' : List Value} {x : Nat} (hM : M.1.cls = "ShareStoreModel") (hI : M.1.name = "<init>") (hd : decode M.2.1 pc = .ok (.putfield 57, 3)) (hc : h a = some (.inr (5, fs))) (hlen : 19 < fs.length) (hfs : fs.set 19 (.ref x) = fs') (hh : updH h a (.inr (5, fs')) = h') (kk : RJ l g M R TG XP n h' k sl (pc + 3) lv st) : RJ l g M R TG XP n h k sl pc lv (.ref x :: .ref a :: st) := r_putF (C := R_M) (T := T_M) (N := 20) (kf := 19) (ty := .array .int) rfl iw_M ty_M ty_M_ok nm_M (by decide) rfl rfl (by rw [hM]; exact wm_in (i := 560) (by decide +kernel) rfl) hI (by rw [hM]; rfl) hd rfl rfl hc hlen hfs hh kk
theorem rc_C_39 {l : Launch} {g : GX} {M : MT} {R : Room} {TG : TGT} {XP : XPT} {n : Nat} {h h' : AH} {k sl : Nat} {pc : Nat} {lv : List (Nat × Value)} {st : List Value} {n' d' : Nat} {x : Value} {b : Nat} {fs : List Value} {a1 a2 : Value} (hM : M.1.cls = "ShareStore$Coder") (hd : decode M.2.1 pc = .ok (.invokevirtual 39, 3)) (hC : CE l g M_F_product d' 0 0 [.ref b, a1, a2] n h (some x) n' h') (hb : h b = some (.inr (1, fs))) (hR0 : d' + 1 ≤ R.frames ∧ 8 + (M_F_product.2.2.1 + 11) + 36 * d' ≤ R.locals) (hz : k ≤ R.cells ∧ sl ≤ R.slots) (hst : (st.map fun v => v.category).sum ≤ 8) (kk : RJ l g M R TG XP n' h' k sl (pc + 3) lv (x :: st)) : RJ l g M R TG XP n h k sl pc lv (a2 :: a1 :: .ref b :: st) := r_cV (M' := M_F_product) (np := 2) (ci := 1) hC (by rw [hM]; exact wm_in (i := 85) (by decide +kernel) rfl) (wm_in (i := 86) (by decide +kernel) rfl) (wm_in (i := 87) (by decide +kernel) rfl) (wm_in (i := 49) (by decide +kernel) rfl) (wm_in (i := 88) (by decide +kernel) rfl) ⟨by decide, by decide, by decide +kernel⟩ rfl hd rfl rfl hb hR0 hz rfl hst kk
theorem rc_L_13 {l : Launch} {g : GX} {M : MT} {R : Room} {TG : TGT} {XP : XPT} {n : Nat} {h h' : AH} {k sl : Nat} {pc : Nat} {lv : List (Nat × Value)} {st : List Value} {n' d' : Nat} {x : Value} {b : Nat} {fs : List Value} {a1 a2 : Value} (hM : M.1.cls = "ShareStoreLaw") (hd : decode M.2.1 pc = .ok (.invokevirtual 13, 3)) (hC : CE l g M_S_times d' 0 0 [.ref b, a1, a2] n h (some x) n' h') (hb : h b = some (.inr (4, fs))) (hR0 : d' + 1 ≤ R.frames ∧ 8 + (M_S_times.2.2.1 + 11) + 36 * d' ≤ R.locals) (hz : k ≤ R.cells ∧ sl ≤ R.slots) (hst : (st.map fun v => v.category).sum ≤ 8) (kk : RJ l g M R TG XP n' h' k sl (pc + 3) lv (x :: st)) : RJ l g M R TG XP n h k sl pc lv (a2 :: a1 :: .ref b :: st) := r_cV (M' := M_S_times) (np := 2) (ci := 4) hC (by rw [hM]; exact wm_in (i := 210) (by decide +kernel) rfl) (wm_in (i := 211) (by decide +kernel) rfl) (wm_in (i := 212) (by decide +kernel) rfl) (wm_in (i := 47) (by decide +kernel) rfl) (wm_in (i := 213) (by decide +kernel) rfl) ⟨by decide, by decide, by decide +kernel⟩ rfl hd rfl rfl hb hR0 hz rfl hst kk
theorem rc_S_59 {l : Launch} {g : GX} {M : MT} {R : Room} {TG : TGT} {XP : XPT} {n : Nat} {h h' : AH} {k sl : Nat} {pc : Nat} {lv : List (Nat × Value)} {st : List Value} {n' d' : Nat} {x : Value} {a1 : Value} (hM : M.1.cls = "ShareStore") (hd : decode M.2.1 pc = .ok (.invokestatic 59, 3)) (hC : CE l g M_S_isElement d' 0 0 [a1] n h (some x) n' h') (hR0 : d' + 1 ≤ R.frames ∧ 8 + (M_S_isElement.2.2.1 + 11) + 36 * d' ≤ R.locals) (hz : k ≤ R.cells ∧ sl ≤ R.slots) (hst : (st.map fun v => v.category).sum ≤ 8) (kk : RJ l g M R TG XP n' h' k sl (pc + 3) lv (x :: st)) : RJ l g M R TG XP n h k sl pc lv (a1 :: st) := r_cS (M' := M_S_isElement) (np := 1) hC (by rw [hM]; exact wm_in (i := 214) (by decide +kernel) rfl) (wm_in (i := 215) (by decide +kernel) rfl) (by rw [hM]; exact wm_in (i := 47) (by decide +kernel) rfl) (wm_in (i := 216) (by decide +kernel) rfl) ⟨by rw [hM]; rfl, by decide, by decide, by decide +kernel⟩ rfl hd hR0 hz rfl hst kk
theorem rc_S_67 {l : Launch} {g : GX} {M : MT} {R : Room} {TG : TGT} {XP : XPT} {n : Nat} {h h' : AH} {k sl : Nat} {pc : Nat} {lv : List (Nat × Value)} {st : List Value} {n' d' : Nat} {x : Value} {b : Nat} {fs : List Value} {a1 a2 : Value} (hM : M.1.cls = "ShareStore") (hd : decode M.2.1 pc = .ok (.invokevirtual 67, 3)) (hC : CE l g M_F_product d' 0 0 [.ref b, a1, a2] n h (some x) n' h') (hb : h b = some (.inr (1, fs))) (hR0 : d' + 1 ≤ R.frames ∧ 8 + (M_F_product.2.2.1 + 11) + 36 * d' ≤ R.locals) (hz : k ≤ R.cells ∧ sl ≤ R.slots) (hst : (st.map fun v => v.category).sum ≤ 8) (kk : RJ l g M R TG XP n' h' k sl (pc + 3) lv (x :: st)) : RJ l g M R TG XP n h k sl pc lv (a2 :: a1 :: .ref b :: st) := r_cV (M' := M_F_product) (np := 2) (ci := 1) hC (by rw [hM]; exact wm_in (i := 217) (by decide +kernel) rfl) (wm_in (i := 86) (by decide +kernel) rfl) (wm_in (i := 87) (by decide +kernel) rfl) (wm_in (i := 49) (by decide +kernel) rfl) (wm_in (i := 88) (by decide +kernel) rfl) ⟨by decide, by decide, by decide +kernel⟩ rfl hd rfl rfl hb hR0 hz rfl hst kk
theorem rc_L_18 {l : Launch} {g : GX} {M : MT} {R : Room} {TG : TGT} {XP : XPT} {n : Nat} {h h' : AH} {k sl : Nat} {pc : Nat} {lv : List (Nat × Value)} {st : List Value} {n' d' : Nat} {x : Value} {b : Nat} {fs : List Value} {a1 a2 : Value} (hM : M.1.cls = "ShareStoreLaw") (hd : decode M.2.1 pc = .ok (.invokevirtual 18, 3)) (hC : CE l g M_S_over d' 0 0 [.ref b, a1, a2] n h (some x) n' h') (hb : h b = some (.inr (4, fs))) (hR0 : d' + 1 ≤ R.frames ∧ 8 + (M_S_over.2.2.1 + 11) + 36 * d' ≤ R.locals) (hz : k ≤ R.cells ∧ sl ≤ R.slots) (hst : (st.map fun v => v.category).sum ≤ 8) (kk : RJ l g M R TG XP n' h' k sl (pc + 3) lv (x :: st)) : RJ l g M R TG XP n h k sl pc lv (a2 :: a1 :: .ref b :: st) := r_cV (M' := M_S_over) (np := 2) (ci := 4) hC (by rw [hM]; exact wm_in (i := 218) (by decide +kernel) rfl) (wm_in (i := 219) (by decide +kernel) rfl) (wm_in (i := 220) (by decide +kernel) rfl) (wm_in (i := 47) (by decide +kernel) rfl) (wm_in (i := 221) (by decide +kernel) rfl) ⟨by decide, by decide, by decide +kernel⟩ rfl hd rfl rfl hb hR0 hz rfl hst kk
theorem rc_S_73 {l : Launch} {g : GX} {M : MT} {R : Room} {TG : TGT} {XP : XPT} {n : Nat} {h h' : AH} {k sl : Nat} {pc : Nat} {lv : List (Nat × Value)} {st : List Value} {n' d' : Nat} {x : Value} {b : Nat} {fs : List Value} {a1 a2 : Value} (hM : M.1.cls = "ShareStore") (hd : decode M.2.1 pc = .ok (.invokevirtual 73, 3)) (hC : CE l g M_F_quotient d' 0 0 [.ref b, a1, a2] n h (some x) n' h') (hb : h b = some (.inr (1, fs))) (hR0 : d' + 1 ≤ R.frames ∧ 8 + (M_F_quotient.2.2.1 + 11) + 36 * d' ≤ R.locals) (hz : k ≤ R.cells ∧ sl ≤ R.slots) (hst : (st.map fun v => v.category).sum ≤ 8) (kk : RJ l g M R TG XP n' h' k sl (pc + 3) lv (x :: st)) : RJ l g M R TG XP n h k sl pc lv (a2 :: a1 :: .ref b :: st) := r_cV (M' := M_F_quotient) (np := 2) (ci := 1) hC (by rw [hM]; exact wm_in (i := 222) (by decide +kernel) rfl) (wm_in (i := 223) (by decide +kernel) rfl) (wm_in (i := 224) (by decide +kernel) rfl) (wm_in (i := 49) (by decide +kernel) rfl) (wm_in (i := 225) (by decide +kernel) rfl) ⟨by decide, by decide, by decide +kernel⟩ rfl hd rfl rfl hb hR0 hz rfl hst kk
theorem rc_L_22 {l : Launch} {g : GX} {M : MT} {R : Room} {TG : TGT} {XP : XPT} {n : Nat} {h h' : AH} {k sl : Nat} {pc : Nat} {lv : List (Nat × Value)} {st : List Value} {n' d' : Nat} {x : Value} {b : Nat} {fs : List Value} {a1 a2 : Value} (hM : M.1.cls = "ShareStoreLaw") (hd : decode M.2.1 pc = .ok (.invokevirtual 22, 3)) (hC : CE l g M_S_rowAt d' 0 0 [.ref b, a1, a2] n h (some x) n' h') (hb : h b = some (.inr (4, fs))) (hR0 : d' + 1 ≤ R.frames ∧ 8 + (M_S_rowAt.2.2.1 + 11) + 36 * d' ≤ R.locals) (hz : k ≤ R.cells ∧ sl ≤ R.slots) (hst : (st.map fun v => v.category).sum ≤ 8) (kk : RJ l g M R TG XP n' h' k sl (pc + 3) lv (x :: st)) : RJ l g M R TG XP n h k sl pc lv (a2 :: a1 :: .ref b :: st) := r_cV (M' := M_S_rowAt) (np := 2) (ci := 4) hC (by rw [hM]; exact wm_in (i := 226) (by decide +kernel) rfl) (wm_in (i := 227) (by decide +kernel) rfl) (wm_in (i := 228) (by decide +kernel) rfl) (wm_in (i := 47) (by decide +kernel) rfl) (wm_in (i := 229) (by decide +kernel) rfl) ⟨by decide, by decide, by decide +kernel⟩ rfl hd rfl rfl hb hR0 hz rfl hst kk
theorem rc_S_76 {l : Launch} {g : GX} {M : MT} {R : Room} {TG : TGT} {XP : XPT} {n : Nat} {h h' : AH} {k sl : Nat} {pc : Nat} {lv : List (Nat × Value)} {st : List Value} {n' d' : Nat} {x : Value} {a1 : Value} (hM : M.1.cls = "ShareStore") (hd : decode M.2.1 pc = .ok (.invokestatic 76, 3)) (hC : CE l g M_S_isNode d' 0 0 [a1] n h (some x) n' h') (hR0 : d' + 1 ≤ R.frames ∧ 8 + (M_S_isNode.2.2.1 + 11) + 36 * d' ≤ R.locals) (hz : k ≤ R.cells ∧ sl ≤ R.slots) (hst : (st.map fun v => v.category).sum ≤ 8) (kk : RJ l g M R TG XP n' h' k sl (pc + 3) lv (x :: st)) : RJ l g M R TG XP n h k sl pc lv (a1 :: st) := r_cS (M' := M_S_isNode) (np := 1) hC (by rw [hM]; exact wm_in (i := 230) (by decide +kernel) rfl) (wm_in (i := 231) (by decide +kernel) rfl) (by rw [hM]; exact wm_in (i := 47) (by decide +kernel) rfl) (wm_in (i := 232) (by decide +kernel) rfl) ⟨by rw [hM]; rfl, by decide, by decide, by decide +kernel⟩ rfl hd hR0 hz rfl hst kk
theorem rc_S_79 {l : Launch} {g : GX} {M : MT} {R : Room} {TG : TGT} {XP : XPT} {n : Nat} {h h' : AH} {k sl : Nat} {pc : Nat} {lv : List (Nat × Value)} {st : List Value} {n' d' : Nat} {x : Value} {b : Nat} {fs : List Value} {a1 a2 : Value} (hM : M.1.cls = "ShareStore") (hd : decode M.2.1 pc = .ok (.invokevirtual 79, 3)) (hC : CE l g M_C_rowByte d' 0 0 [.ref b, a1, a2] n h (some x) n' h') (hb : h b = some (.inr (0, fs))) (hR0 : d' + 1 ≤ R.frames ∧ 8 + (M_C_rowByte.2.2.1 + 11) + 36 * d' ≤ R.locals) (hz : k ≤ R.cells ∧ sl ≤ R.slots) (hst : (st.map fun v => v.category).sum ≤ 8) (kk : RJ l g M R TG XP n' h' k sl (pc + 3) lv (x :: st)) : RJ l g M R TG XP n h k sl pc lv (a2 :: a1 :: .ref b :: st) := r_cV (M' := M_C_rowByte) (np := 2) (ci := 0) hC (by rw [hM]; exact wm_in (i := 233) (by decide +kernel) rfl) (wm_in (i := 234) (by decide +kernel) rfl) (wm_in (i := 235) (by decide +kernel) rfl) (wm_in (i := 48) (by decide +kernel) rfl) (wm_in (i := 236) (by decide +kernel) rfl) ⟨by decide, by decide, by decide +kernel⟩ rfl hd rfl rfl hb hR0 hz rfl hst kk
theorem rc_C_43 {l : Launch} {g : GX} {M : MT} {R : Room} {TG : TGT} {XP : XPT} {n : Nat} {h h' : AH} {k sl : Nat} {pc : Nat} {lv : List (Nat × Value)} {st : List Value} {n' d' : Nat} {x : Value} {a1 : Value} (hM : M.1.cls = "ShareStore$Coder") (hd : decode M.2.1 pc = .ok (.invokestatic 43, 3)) (hC : CE l g M_S_isNode d' 0 0 [a1] n h (some x) n' h') (hR0 : d' + 1 ≤ R.frames ∧ 8 + (M_S_isNode.2.2.1 + 11) + 36 * d' ≤ R.locals) (hz : k ≤ R.cells ∧ sl ≤ R.slots) (hst : (st.map fun v => v.category).sum ≤ 8) (kk : RJ l g M R TG XP n' h' k sl (pc + 3) lv (x :: st)) : RJ l g M R TG XP n h k sl pc lv (a1 :: st) := r_cSN (M' := M_S_isNode) (host := "ShareStore") (np := 1) hC (by rw [hM]; decide +kernel) (wm_in (i := 231) (by decide +kernel) rfl) (wm_in (i := 47) (by decide +kernel) rfl) (wm_in (i := 232) (by decide +kernel) rfl) ⟨by decide, by decide, by decide +kernel⟩ rfl hd hR0 hz rfl hst kk
theorem rc_L_28 {l : Launch} {g : GX} {M : MT} {R : Room} {TG : TGT} {XP : XPT} {n : Nat} {h h' : AH} {k sl : Nat} {pc : Nat} {lv : List (Nat × Value)} {st : List Value} {n' d' : Nat} {x : Value} {b : Nat} {fs : List Value} {a1 a2 : Value} (hM : M.1.cls = "ShareStoreLaw") (hd : decode M.2.1 pc = .ok (.invokevirtual 28, 3)) (hC : CE l g M_S_feed d' 0 0 [.ref b, a1, a2] n h (some x) n' h') (hb : h b = some (.inr (4, fs))) (hR0 : d' + 1 ≤ R.frames ∧ 8 + (M_S_feed.2.2.1 + 11) + 36 * d' ≤ R.locals) (hz : k ≤ R.cells ∧ sl ≤ R.slots) (hst : (st.map fun v => v.category).sum ≤ 8) (kk : RJ l g M R TG XP n' h' k sl (pc + 3) lv (x :: st)) : RJ l g M R TG XP n h k sl pc lv (a2 :: a1 :: .ref b :: st) := r_cV (M' := M_S_feed) (np := 2) (ci := 4) hC (by rw [hM]; exact wm_in (i := 238) (by decide +kernel) rfl) (wm_in (i := 239) (by decide +kernel) rfl) (wm_in (i := 240) (by decide +kernel) rfl) (wm_in (i := 47) (by decide +kernel) rfl) (wm_in (i := 241) (by decide +kernel) rfl) ⟨by decide, by decide, by decide +kernel⟩ rfl hd rfl rfl hb hR0 hz rfl hst kk
theorem rc_L_33 {l : Launch} {g : GX} {M : MT} {R : Room} {TG : TGT} {XP : XPT} {n : Nat} {h h' : AH} {k sl : Nat} {pc : Nat} {lv : List (Nat × Value)} {st : List Value} {n' d' : Nat} {x : Value} {b : Nat} {fs : List Value} {a1 : Value} (hM : M.1.cls = "ShareStoreLaw") (hd : decode M.2.1 pc = .ok (.invokevirtual 33, 3)) (hC : CE l g M_S_cut d' 0 0 [.ref b, a1] n h (some x) n' h') (hb : h b = some (.inr (4, fs))) (hR0 : d' + 1 ≤ R.frames ∧ 8 + (M_S_cut.2.2.1 + 11) + 36 * d' ≤ R.locals) (hz : k ≤ R.cells ∧ sl ≤ R.slots) (hst : (st.map fun v => v.category).sum ≤ 8) (kk : RJ l g M R TG XP n' h' k sl (pc + 3) lv (x :: st)) : RJ l g M R TG XP n h k sl pc lv (a1 :: .ref b :: st) := r_cV (M' := M_S_cut) (np := 1) (ci := 4) hC (by rw [hM]; exact wm_in (i := 242) (by decide +kernel) rfl) (wm_in (i := 243) (by decide +kernel) rfl) (wm_in (i := 244) (by decide +kernel) rfl) (wm_in (i := 47) (by decide +kernel) rfl) (wm_in (i := 245) (by decide +kernel) rfl) ⟨by decide, by decide, by decide +kernel⟩ rfl hd rfl rfl hb hR0 hz rfl hst kk
theorem rc_L_38 {l : Launch} {g : GX} {M : MT} {R : Room} {TG : TGT} {XP : XPT} {n : Nat} {h h' : AH} {k sl : Nat} {pc : Nat} {lv : List (Nat × Value)} {st : List Value} {n' d' : Nat} {x : Value} {b : Nat} {fs : List Value} {a1 : Value} (hM : M.1.cls = "ShareStoreLaw") (hd : decode M.2.1 pc = .ok (.invokevirtual 38, 3)) (hC : CE l g M_S_put d' 0 0 [.ref b, a1] n h (some x) n' h') (hb : h b = some (.inr (4, fs))) (hR0 : d' + 1 ≤ R.frames ∧ 8 + (M_S_put.2.2.1 + 11) + 36 * d' ≤ R.locals) (hz : k ≤ R.cells ∧ sl ≤ R.slots) (hst : (st.map fun v => v.category).sum ≤ 8) (kk : RJ l g M R TG XP n' h' k sl (pc + 3) lv (x :: st)) : RJ l g M R TG XP n h k sl pc lv (a1 :: .ref b :: st) := r_cV (M' := M_S_put) (np := 1) (ci := 4) hC (by rw [hM]; exact wm_in (i := 246) (by decide +kernel) rfl) (wm_in (i := 247) (by decide +kernel) rfl) (wm_in (i := 248) (by decide +kernel) rfl) (wm_in (i := 47) (by decide +kernel) rfl) (wm_in (i := 249) (by decide +kernel) rfl) ⟨by decide, by decide, by decide +kernel⟩ rfl hd rfl rfl hb hR0 hz rfl hst kk
theorem rc_S_82 {l : Launch} {g : GX} {M : MT} {R : Room} {TG : TGT} {XP : XPT} {n : Nat} {h h' : AH} {k sl : Nat} {pc : Nat} {lv : List (Nat × Value)} {st : List Value} {n' d' : Nat} {x : Value} {a1 : Value} (hM : M.1.cls = "ShareStore") (hd : decode M.2.1 pc = .ok (.invokestatic 82, 3)) (hC : CE l g M_S_isObject d' 0 0 [a1] n h (some x) n' h') (hR0 : d' + 1 ≤ R.frames ∧ 8 + (M_S_isObject.2.2.1 + 11) + 36 * d' ≤ R.locals) (hz : k ≤ R.cells ∧ sl ≤ R.slots) (hst : (st.map fun v => v.category).sum ≤ 8) (kk : RJ l g M R TG XP n' h' k sl (pc + 3) lv (x :: st)) : RJ l g M R TG XP n h k sl pc lv (a1 :: st) := r_cS (M' := M_S_isObject) (np := 1) hC (by rw [hM]; exact wm_in (i := 250) (by decide +kernel) rfl) (wm_in (i := 251) (by decide +kernel) rfl) (by rw [hM]; exact wm_in (i := 47) (by decide +kernel) rfl) (wm_in (i := 252) (by decide +kernel) rfl) ⟨by rw [hM]; rfl, by decide, by decide, by decide +kernel⟩ rfl hd hR0 hz rfl hst kk
theorem rc_S_85 {l : Launch} {g : GX} {M : MT} {R : Room} {TG : TGT} {XP : XPT} {n : Nat} {h h' : AH} {k sl : Nat} {pc : Nat} {lv : List (Nat × Value)} {st : List Value} {n' d' : Nat} {x : Value} {b : Nat} {fs : List Value} (hM : M.1.cls = "ShareStore") (hd : decode M.2.1 pc = .ok (.invokevirtual 85, 3)) (hC : CE l g M_S_liveNodes d' 0 0 [.ref b] n h (some x) n' h') (hb : h b = some (.inr (4, fs))) (hR0 : d' + 1 ≤ R.frames ∧ 8 + (M_S_liveNodes.2.2.1 + 11) + 36 * d' ≤ R.locals) (hz : k ≤ R.cells ∧ sl ≤ R.slots) (hst : (st.map fun v => v.category).sum ≤ 8) (kk : RJ l g M R TG XP n' h' k sl (pc + 3) lv (x :: st)) : RJ l g M R TG XP n h k sl pc lv (.ref b :: st) := r_cV (M' := M_S_liveNodes) (np := 0) (ci := 4) hC (by rw [hM]; exact wm_in (i := 253) (by decide +kernel) rfl) (wm_in (i := 255) (by decide +kernel) rfl) (wm_in (i := 0) (by decide +kernel) rfl) (wm_in (i := 47) (by decide +kernel) rfl) (wm_in (i := 256) (by decide +kernel) rfl) ⟨by decide, by decide, by decide +kernel⟩ rfl hd rfl rfl hb hR0 hz rfl hst kk
theorem rc_S_89 {l : Launch} {g : GX} {M : MT} {R : Room} {TG : TGT} {XP : XPT} {n : Nat} {h h' : AH} {k sl : Nat} {pc : Nat} {lv : List (Nat × Value)} {st : List Value} {n' d' : Nat} {x : Value} {b : Nat} {fs : List Value} (hM : M.1.cls = "ShareStore") (hd : decode M.2.1 pc = .ok (.invokevirtual 89, 3)) (hC : CE l g M_S_leastFreeOfLive d' 0 0 [.ref b] n h (some x) n' h') (hb : h b = some (.inr (4, fs))) (hR0 : d' + 1 ≤ R.frames ∧ 8 + (M_S_leastFreeOfLive.2.2.1 + 11) + 36 * d' ≤ R.locals) (hz : k ≤ R.cells ∧ sl ≤ R.slots) (hst : (st.map fun v => v.category).sum ≤ 8) (kk : RJ l g M R TG XP n' h' k sl (pc + 3) lv (x :: st)) : RJ l g M R TG XP n h k sl pc lv (.ref b :: st) := r_cV (M' := M_S_leastFreeOfLive) (np := 0) (ci := 4) hC (by rw [hM]; exact wm_in (i := 257) (by decide +kernel) rfl) (wm_in (i := 259) (by decide +kernel) rfl) (wm_in (i := 1) (by decide +kernel) rfl) (wm_in (i := 47) (by decide +kernel) rfl) (wm_in (i := 260) (by decide +kernel) rfl) ⟨by decide, by decide, by decide +kernel⟩ rfl hd rfl rfl hb hR0 hz rfl hst kk
theorem rc_S_140 {l : Launch} {g : GX} {M : MT} {R : Room} {TG : TGT} {XP : XPT} {n : Nat} {h h' : AH} {k sl : Nat} {pc : Nat} {lv : List (Nat × Value)} {st : List Value} {n' d' : Nat} {x : Value} {b : Nat} {fs : List Value} (hM : M.1.cls = "ShareStore") (hd : decode M.2.1 pc = .ok (.invokevirtual 140, 3)) (hC : CE l g M_N_freeBlocks d' 0 0 [.ref b] n h (some x) n' h') (hb : h b = some (.inr (3, fs))) (hR0 : d' + 1 ≤ R.frames ∧ 8 + (M_N_freeBlocks.2.2.1 + 11) + 36 * d' ≤ R.locals) (hz : k ≤ R.cells ∧ sl ≤ R.slots) (hst : (st.map fun v => v.category).sum ≤ 8) (kk : RJ l g M R TG XP n' h' k sl (pc + 3) lv (x :: st)) : RJ l g M R TG XP n h k sl pc lv (.ref b :: st) := r_cV (M' := M_N_freeBlocks) (np := 0) (ci := 3) hC (by rw [hM]; exact wm_in (i := 261) (by decide +kernel) rfl) (wm_in (i := 262) (by decide +kernel) rfl) (wm_in (i := 263) (by decide +kernel) rfl) (wm_in (i := 50) (by decide +kernel) rfl) (wm_in (i := 264) (by decide +kernel) rfl) ⟨by decide, by decide, by decide +kernel⟩ rfl hd rfl rfl hb hR0 hz rfl hst kk
theorem rc_S_92 {l : Launch} {g : GX} {M : MT} {R : Room} {TG : TGT} {XP : XPT} {n : Nat} {h h' : AH} {k sl : Nat} {pc : Nat} {lv : List (Nat × Value)} {st : List Value} {n' d' : Nat} {x : Value} {a1 : Value} (hM : M.1.cls = "ShareStore") (hd : decode M.2.1 pc = .ok (.invokestatic 92, 3)) (hC : CE l g M_S_stripesOf d' 0 0 [a1] n h (some x) n' h') (hR0 : d' + 1 ≤ R.frames ∧ 8 + (M_S_stripesOf.2.2.1 + 11) + 36 * d' ≤ R.locals) (hz : k ≤ R.cells ∧ sl ≤ R.slots) (hst : (st.map fun v => v.category).sum ≤ 8) (kk : RJ l g M R TG XP n' h' k sl (pc + 3) lv (x :: st)) : RJ l g M R TG XP n h k sl pc lv (a1 :: st) := r_cS (M' := M_S_stripesOf) (np := 1) hC (by rw [hM]; exact wm_in (i := 268) (by decide +kernel) rfl) (wm_in (i := 269) (by decide +kernel) rfl) (by rw [hM]; exact wm_in (i := 47) (by decide +kernel) rfl) (wm_in (i := 270) (by decide +kernel) rfl) ⟨by rw [hM]; rfl, by decide, by decide, by decide +kernel⟩ rfl hd hR0 hz rfl hst kk
theorem rc_S_96 {l : Launch} {g : GX} {M : MT} {R : Room} {TG : TGT} {XP : XPT} {n : Nat} {h h' : AH} {k sl : Nat} {pc : Nat} {lv : List (Nat × Value)} {st : List Value} {n' d' : Nat} {x : Value} {b : Nat} {fs : List Value} {a1 a2 : Value} (hM : M.1.cls = "ShareStore") (hd : decode M.2.1 pc = .ok (.invokevirtual 96, 3)) (hC : CE l g M_S_begin d' 0 0 [.ref b, a1, a2] n h (some x) n' h') (hb : h b = some (.inr (4, fs))) (hR0 : d' + 1 ≤ R.frames ∧ 8 + (M_S_begin.2.2.1 + 11) + 36 * d' ≤ R.locals) (hz : k ≤ R.cells ∧ sl ≤ R.slots) (hst : (st.map fun v => v.category).sum ≤ 8) (kk : RJ l g M R TG XP n' h' k sl (pc + 3) lv (x :: st)) : RJ l g M R TG XP n h k sl pc lv (a2 :: a1 :: .ref b :: st) := r_cV (M' := M_S_begin) (np := 2) (ci := 4) hC (by rw [hM]; exact wm_in (i := 271) (by decide +kernel) rfl) (wm_in (i := 273) (by decide +kernel) rfl) (wm_in (i := 2) (by decide +kernel) rfl) (wm_in (i := 47) (by decide +kernel) rfl) (wm_in (i := 274) (by decide +kernel) rfl) ⟨by decide, by decide, by decide +kernel⟩ rfl hd rfl rfl hb hR0 hz rfl hst kk
theorem rc_S_207 {l : Launch} {g : GX} {M : MT} {R : Room} {TG : TGT} {XP : XPT} {n : Nat} {h h' : AH} {k sl : Nat} {pc : Nat} {lv : List (Nat × Value)} {st : List Value} {n' d' : Nat} {b : Nat} {fs : List Value} {a1 a2 a3 : Value} (hM : M.1.cls = "ShareStore") (hd : decode M.2.1 pc = .ok (.invokevirtual 207, 3)) (hC : CE l g M_S_sendShadows d' 0 0 [.ref b, a1, a2, a3] n h none n' h') (hb : h b = some (.inr (4, fs))) (hR0 : d' + 1 ≤ R.frames ∧ 8 + (M_S_sendShadows.2.2.1 + 11) + 36 * d' ≤ R.locals) (hz : k ≤ R.cells ∧ sl ≤ R.slots) (hst : (st.map fun v => v.category).sum ≤ 8) (kk : RJ l g M R TG XP n' h' k sl (pc + 3) lv st) : RJ l g M R TG XP n h k sl pc lv (a3 :: a2 :: a1 :: .ref b :: st) := r_cV (M' := M_S_sendShadows) (np := 3) (ci := 4) hC (by rw [hM]; exact wm_in (i := 275) (by decide +kernel) rfl) (wm_in (i := 277) (by decide +kernel) rfl) (wm_in (i := 3) (by decide +kernel) rfl) (wm_in (i := 47) (by decide +kernel) rfl) (wm_in (i := 278) (by decide +kernel) rfl) ⟨by decide, by decide, by decide +kernel⟩ rfl hd rfl rfl hb hR0 hz rfl hst kk
theorem rc_S_213 {l : Launch} {g : GX} {M : MT} {R : Room} {TG : TGT} {XP : XPT} {n : Nat} {h h' : AH} {k sl : Nat} {pc : Nat} {lv : List (Nat × Value)} {st : List Value} {n' d' : Nat} {b : Nat} {fs : List Value} {a1 a2 a3 : Value} (hM : M.1.cls = "ShareStore") (hd : decode M.2.1 pc = .ok (.invokevirtual 213, 3)) (hC : CE l g M_N_take d' 0 0 [.ref b, a1, a2, a3] n h none n' h') (hb : h b = some (.inr (3, fs))) (hR0 : d' + 1 ≤ R.frames ∧ 8 + (M_N_take.2.2.1 + 11) + 36 * d' ≤ R.locals) (hz : k ≤ R.cells ∧ sl ≤ R.slots) (hst : (st.map fun v => v.category).sum ≤ 8) (kk : RJ l g M R TG XP n' h' k sl (pc + 3) lv st) : RJ l g M R TG XP n h k sl pc lv (a3 :: a2 :: a1 :: .ref b :: st) := r_cV (M' := M_N_take) (np := 3) (ci := 3) hC (by rw [hM]; exact wm_in (i := 279) (by decide +kernel) rfl) (wm_in (i := 280) (by decide +kernel) rfl) (wm_in (i := 281) (by decide +kernel) rfl) (wm_in (i := 50) (by decide +kernel) rfl) (wm_in (i := 282) (by decide +kernel) rfl) ⟨by decide, by decide, by decide +kernel⟩ rfl hd rfl rfl hb hR0 hz rfl hst kk
theorem rc_N_43 {l : Launch} {g : GX} {M : MT} {R : Room} {TG : TGT} {XP : XPT} {n : Nat} {h h' : AH} {k sl : Nat} {pc : Nat} {lv : List (Nat × Value)} {st : List Value} {n' d' : Nat} {x : Value} {a1 : Value} (hM : M.1.cls = "ShareStore$Node") (hd : decode M.2.1 pc = .ok (.invokestatic 43, 3)) (hC : CE l g M_S_stripesOf d' 0 0 [a1] n h (some x) n' h') (hR0 : d' + 1 ≤ R.frames ∧ 8 + (M_S_stripesOf.2.2.1 + 11) + 36 * d' ≤ R.locals) (hz : k ≤ R.cells ∧ sl ≤ R.slots) (hst : (st.map fun v => v.category).sum ≤ 8) (kk : RJ l g M R TG XP n' h' k sl (pc + 3) lv (x :: st)) : RJ l g M R TG XP n h k sl pc lv (a1 :: st) := r_cSN (M' := M_S_stripesOf) (host := "ShareStore") (np := 1) hC (by rw [hM]; decide +kernel) (wm_in (i := 269) (by decide +kernel) rfl) (wm_in (i := 47) (by decide +kernel) rfl) (wm_in (i := 270) (by decide +kernel) rfl) ⟨by decide, by decide, by decide +kernel⟩ rfl hd hR0 hz rfl hst kk
theorem rc_N_59 {l : Launch} {g : GX} {M : MT} {R : Room} {TG : TGT} {XP : XPT} {n : Nat} {h h' : AH} {k sl : Nat} {pc : Nat} {lv : List (Nat × Value)} {st : List Value} {n' d' : Nat} {x : Value} {b : Nat} {fs : List Value} (hM : M.1.cls = "ShareStore$Node") (hd : decode M.2.1 pc = .ok (.invokevirtual 59, 3)) (hC : CE l g M_N_takeLeastFree d' 0 0 [.ref b] n h (some x) n' h') (hb : h b = some (.inr (3, fs))) (hR0 : d' + 1 ≤ R.frames ∧ 8 + (M_N_takeLeastFree.2.2.1 + 11) + 36 * d' ≤ R.locals) (hz : k ≤ R.cells ∧ sl ≤ R.slots) (hst : (st.map fun v => v.category).sum ≤ 8) (kk : RJ l g M R TG XP n' h' k sl (pc + 3) lv (x :: st)) : RJ l g M R TG XP n h k sl pc lv (.ref b :: st) := r_cV (M' := M_N_takeLeastFree) (np := 0) (ci := 3) hC (by rw [hM]; exact wm_in (i := 285) (by decide +kernel) rfl) (wm_in (i := 287) (by decide +kernel) rfl) (wm_in (i := 4) (by decide +kernel) rfl) (wm_in (i := 50) (by decide +kernel) rfl) (wm_in (i := 288) (by decide +kernel) rfl) ⟨by decide, by decide, by decide +kernel⟩ rfl hd rfl rfl hb hR0 hz rfl hst kk
theorem rc_S_217 {l : Launch} {g : GX} {M : MT} {R : Room} {TG : TGT} {XP : XPT} {n : Nat} {h h' : AH} {k sl : Nat} {pc : Nat} {lv : List (Nat × Value)} {st : List Value} {n' d' : Nat} {b : Nat} {fs : List Value} {a1 a2 a3 : Value} (hM : M.1.cls = "ShareStore") (hd : decode M.2.1 pc = .ok (.invokevirtual 217, 3)) (hC : CE l g M_C_load d' 0 0 [.ref b, a1, a2, a3] n h none n' h') (hb : h b = some (.inr (0, fs))) (hR0 : d' + 1 ≤ R.frames ∧ 8 + (M_C_load.2.2.1 + 11) + 36 * d' ≤ R.locals) (hz : k ≤ R.cells ∧ sl ≤ R.slots) (hst : (st.map fun v => v.category).sum ≤ 8) (kk : RJ l g M R TG XP n' h' k sl (pc + 3) lv st) : RJ l g M R TG XP n h k sl pc lv (a3 :: a2 :: a1 :: .ref b :: st) := r_cV (M' := M_C_load) (np := 3) (ci := 0) hC (by rw [hM]; exact wm_in (i := 289) (by decide +kernel) rfl) (wm_in (i := 290) (by decide +kernel) rfl) (wm_in (i := 291) (by decide +kernel) rfl) (wm_in (i := 48) (by decide +kernel) rfl) (wm_in (i := 292) (by decide +kernel) rfl) ⟨by decide, by decide, by decide +kernel⟩ rfl hd rfl rfl hb hR0 hz rfl hst kk
theorem rc_C_47 {l : Launch} {g : GX} {M : MT} {R : Room} {TG : TGT} {XP : XPT} {n : Nat} {h h' : AH} {k sl : Nat} {pc : Nat} {lv : List (Nat × Value)} {st : List Value} {n' d' : Nat} {x : Value} {a1 a2 a3 : Value} (hM : M.1.cls = "ShareStore$Coder") (hd : decode M.2.1 pc = .ok (.invokestatic 47, 3)) (hC : CE l g M_C_byteBefore d' 0 0 [a1, a2, a3] n h (some x) n' h') (hR0 : d' + 1 ≤ R.frames ∧ 8 + (M_C_byteBefore.2.2.1 + 11) + 36 * d' ≤ R.locals) (hz : k ≤ R.cells ∧ sl ≤ R.slots) (hst : (st.map fun v => v.category).sum ≤ 8) (kk : RJ l g M R TG XP n' h' k sl (pc + 3) lv (x :: st)) : RJ l g M R TG XP n h k sl pc lv (a3 :: a2 :: a1 :: st) := r_cS (M' := M_C_byteBefore) (np := 3) hC (by rw [hM]; exact wm_in (i := 293) (by decide +kernel) rfl) (wm_in (i := 294) (by decide +kernel) rfl) (by rw [hM]; exact wm_in (i := 48) (by decide +kernel) rfl) (wm_in (i := 295) (by decide +kernel) rfl) ⟨by rw [hM]; rfl, by decide, by decide, by decide +kernel⟩ rfl hd hR0 hz rfl hst kk
theorem rc_C_51 {l : Launch} {g : GX} {M : MT} {R : Room} {TG : TGT} {XP : XPT} {n : Nat} {h h' : AH} {k sl : Nat} {pc : Nat} {lv : List (Nat × Value)} {st : List Value} {n' d' : Nat} {b : Nat} {fs : List Value} {a1 a2 a3 : Value} (hM : M.1.cls = "ShareStore$Coder") (hd : decode M.2.1 pc = .ok (.invokevirtual 51, 3)) (hC : CE l g M_C_mirror d' 0 0 [.ref b, a1, a2, a3] n h none n' h') (hb : h b = some (.inr (0, fs))) (hR0 : d' + 1 ≤ R.frames ∧ 8 + (M_C_mirror.2.2.1 + 11) + 36 * d' ≤ R.locals) (hz : k ≤ R.cells ∧ sl ≤ R.slots) (hst : (st.map fun v => v.category).sum ≤ 8) (kk : RJ l g M R TG XP n' h' k sl (pc + 3) lv st) : RJ l g M R TG XP n h k sl pc lv (a3 :: a2 :: a1 :: .ref b :: st) := r_cV (M' := M_C_mirror) (np := 3) (ci := 0) hC (by rw [hM]; exact wm_in (i := 296) (by decide +kernel) rfl) (wm_in (i := 298) (by decide +kernel) rfl) (wm_in (i := 5) (by decide +kernel) rfl) (wm_in (i := 48) (by decide +kernel) rfl) (wm_in (i := 299) (by decide +kernel) rfl) ⟨by decide, by decide, by decide +kernel⟩ rfl hd rfl rfl hb hR0 hz rfl hst kk
theorem rc_S_221 {l : Launch} {g : GX} {M : MT} {R : Room} {TG : TGT} {XP : XPT} {n : Nat} {h h' : AH} {k sl : Nat} {pc : Nat} {lv : List (Nat × Value)} {st : List Value} {n' d' : Nat} {b : Nat} {fs : List Value} {a1 a2 a3 : Value} (hM : M.1.cls = "ShareStore") (hd : decode M.2.1 pc = .ok (.invokevirtual 221, 3)) (hC : CE l g M_S_fillShadows d' 0 0 [.ref b, a1, a2, a3] n h none n' h') (hb : h b = some (.inr (4, fs))) (hR0 : d' + 1 ≤ R.frames ∧ 8 + (M_S_fillShadows.2.2.1 + 11) + 36 * d' ≤ R.locals) (hz : k ≤ R.cells ∧ sl ≤ R.slots) (hst : (st.map fun v => v.category).sum ≤ 8) (kk : RJ l g M R TG XP n' h' k sl (pc + 3) lv st) : RJ l g M R TG XP n h k sl pc lv (a3 :: a2 :: a1 :: .ref b :: st) := r_cV (M' := M_S_fillShadows) (np := 3) (ci := 4) hC (by rw [hM]; exact wm_in (i := 300) (by decide +kernel) rfl) (wm_in (i := 302) (by decide +kernel) rfl) (wm_in (i := 6) (by decide +kernel) rfl) (wm_in (i := 47) (by decide +kernel) rfl) (wm_in (i := 303) (by decide +kernel) rfl) ⟨by decide, by decide, by decide +kernel⟩ rfl hd rfl rfl hb hR0 hz rfl hst kk
theorem rc_S_224 {l : Launch} {g : GX} {M : MT} {R : Room} {TG : TGT} {XP : XPT} {n : Nat} {h h' : AH} {k sl : Nat} {pc : Nat} {lv : List (Nat × Value)} {st : List Value} {n' d' : Nat} {b : Nat} {fs : List Value} {a1 a2 : Value} (hM : M.1.cls = "ShareStore") (hd : decode M.2.1 pc = .ok (.invokevirtual 224, 3)) (hC : CE l g M_C_share d' 0 0 [.ref b, a1, a2] n h none n' h') (hb : h b = some (.inr (0, fs))) (hR0 : d' + 1 ≤ R.frames ∧ 8 + (M_C_share.2.2.1 + 11) + 36 * d' ≤ R.locals) (hz : k ≤ R.cells ∧ sl ≤ R.slots) (hst : (st.map fun v => v.category).sum ≤ 8) (kk : RJ l g M R TG XP n' h' k sl (pc + 3) lv st) : RJ l g M R TG XP n h k sl pc lv (a2 :: a1 :: .ref b :: st) := r_cV (M' := M_C_share) (np := 2) (ci := 0) hC (by rw [hM]; exact wm_in (i := 304) (by decide +kernel) rfl) (wm_in (i := 305) (by decide +kernel) rfl) (wm_in (i := 306) (by decide +kernel) rfl) (wm_in (i := 48) (by decide +kernel) rfl) (wm_in (i := 307) (by decide +kernel) rfl) ⟨by decide, by decide, by decide +kernel⟩ rfl hd rfl rfl hb hR0 hz rfl hst kk
theorem rc_C_59 {l : Launch} {g : GX} {M : MT} {R : Room} {TG : TGT} {XP : XPT} {n : Nat} {h h' : AH} {k sl : Nat} {pc : Nat} {lv : List (Nat × Value)} {st : List Value} {n' d' : Nat} {x : Value} {b : Nat} {fs : List Value} {a1 a2 : Value} (hM : M.1.cls = "ShareStore$Coder") (hd : decode M.2.1 pc = .ok (.invokevirtual 59, 3)) (hC : CE l g M_C_rowByte d' 0 0 [.ref b, a1, a2] n h (some x) n' h') (hb : h b = some (.inr (0, fs))) (hR0 : d' + 1 ≤ R.frames ∧ 8 + (M_C_rowByte.2.2.1 + 11) + 36 * d' ≤ R.locals) (hz : k ≤ R.cells ∧ sl ≤ R.slots) (hst : (st.map fun v => v.category).sum ≤ 8) (kk : RJ l g M R TG XP n' h' k sl (pc + 3) lv (x :: st)) : RJ l g M R TG XP n h k sl pc lv (a2 :: a1 :: .ref b :: st) := r_cV (M' := M_C_rowByte) (np := 2) (ci := 0) hC (by rw [hM]; exact wm_in (i := 308) (by decide +kernel) rfl) (wm_in (i := 234) (by decide +kernel) rfl) (wm_in (i := 235) (by decide +kernel) rfl) (wm_in (i := 48) (by decide +kernel) rfl) (wm_in (i := 236) (by decide +kernel) rfl) ⟨by decide, by decide, by decide +kernel⟩ rfl hd rfl rfl hb hR0 hz rfl hst kk
theorem rc_S_170 {l : Launch} {g : GX} {M : MT} {R : Room} {TG : TGT} {XP : XPT} {n : Nat} {h h' : AH} {k sl : Nat} {pc : Nat} {lv : List (Nat × Value)} {st : List Value} {n' d' : Nat} {x : Value} {b : Nat} {fs : List Value} {a1 : Value} (hM : M.1.cls = "ShareStore") (hd : decode M.2.1 pc = .ok (.invokevirtual 170, 3)) (hC : CE l g M_H_placeOf d' 0 0 [.ref b, a1] n h (some x) n' h') (hb : h b = some (.inr (2, fs))) (hR0 : d' + 1 ≤ R.frames ∧ 8 + (M_H_placeOf.2.2.1 + 11) + 36 * d' ≤ R.locals) (hz : k ≤ R.cells ∧ sl ≤ R.slots) (hst : (st.map fun v => v.category).sum ≤ 8) (kk : RJ l g M R TG XP n' h' k sl (pc + 3) lv (x :: st)) : RJ l g M R TG XP n h k sl pc lv (a1 :: .ref b :: st) := r_cV (M' := M_H_placeOf) (np := 1) (ci := 2) hC (by rw [hM]; exact wm_in (i := 309) (by decide +kernel) rfl) (wm_in (i := 310) (by decide +kernel) rfl) (wm_in (i := 311) (by decide +kernel) rfl) (wm_in (i := 51) (by decide +kernel) rfl) (wm_in (i := 312) (by decide +kernel) rfl) ⟨by decide, by decide, by decide +kernel⟩ rfl hd rfl rfl hb hR0 hz rfl hst kk
theorem rc_S_228 {l : Launch} {g : GX} {M : MT} {R : Room} {TG : TGT} {XP : XPT} {n : Nat} {h h' : AH} {k sl : Nat} {pc : Nat} {lv : List (Nat × Value)} {st : List Value} {n' d' : Nat} {b : Nat} {fs : List Value} {a1 a2 : Value} (hM : M.1.cls = "ShareStore") (hd : decode M.2.1 pc = .ok (.invokevirtual 228, 3)) (hC : CE l g M_N_write d' 0 0 [.ref b, a1, a2] n h none n' h') (hb : h b = some (.inr (3, fs))) (hR0 : d' + 1 ≤ R.frames ∧ 8 + (M_N_write.2.2.1 + 11) + 36 * d' ≤ R.locals) (hz : k ≤ R.cells ∧ sl ≤ R.slots) (hst : (st.map fun v => v.category).sum ≤ 8) (kk : RJ l g M R TG XP n' h' k sl (pc + 3) lv st) : RJ l g M R TG XP n h k sl pc lv (a2 :: a1 :: .ref b :: st) := r_cV (M' := M_N_write) (np := 2) (ci := 3) hC (by rw [hM]; exact wm_in (i := 313) (by decide +kernel) rfl) (wm_in (i := 314) (by decide +kernel) rfl) (wm_in (i := 315) (by decide +kernel) rfl) (wm_in (i := 50) (by decide +kernel) rfl) (wm_in (i := 316) (by decide +kernel) rfl) ⟨by decide, by decide, by decide +kernel⟩ rfl hd rfl rfl hb hR0 hz rfl hst kk
theorem rc_S_210 {l : Launch} {g : GX} {M : MT} {R : Room} {TG : TGT} {XP : XPT} {n : Nat} {h h' : AH} {k sl : Nat} {pc : Nat} {lv : List (Nat × Value)} {st : List Value} {n' d' : Nat} {b : Nat} {fs : List Value} {a1 a2 : Value} (hM : M.1.cls = "ShareStore") (hd : decode M.2.1 pc = .ok (.invokevirtual 210, 3)) (hC : CE l g M_S_sendFlips d' 0 0 [.ref b, a1, a2] n h none n' h') (hb : h b = some (.inr (4, fs))) (hR0 : d' + 1 ≤ R.frames ∧ 8 + (M_S_sendFlips.2.2.1 + 11) + 36 * d' ≤ R.locals) (hz : k ≤ R.cells ∧ sl ≤ R.slots) (hst : (st.map fun v => v.category).sum ≤ 8) (kk : RJ l g M R TG XP n' h' k sl (pc + 3) lv st) : RJ l g M R TG XP n h k sl pc lv (a2 :: a1 :: .ref b :: st) := r_cV (M' := M_S_sendFlips) (np := 2) (ci := 4) hC (by rw [hM]; exact wm_in (i := 317) (by decide +kernel) rfl) (wm_in (i := 319) (by decide +kernel) rfl) (wm_in (i := 7) (by decide +kernel) rfl) (wm_in (i := 47) (by decide +kernel) rfl) (wm_in (i := 320) (by decide +kernel) rfl) ⟨by decide, by decide, by decide +kernel⟩ rfl hd rfl rfl hb hR0 hz rfl hst kk
theorem rc_S_116 {l : Launch} {g : GX} {M : MT} {R : Room} {TG : TGT} {XP : XPT} {n : Nat} {h h' : AH} {k sl : Nat} {pc : Nat} {lv : List (Nat × Value)} {st : List Value} {n' d' : Nat} {b : Nat} {fs : List Value} {a1 : Value} (hM : M.1.cls = "ShareStore") (hd : decode M.2.1 pc = .ok (.invokevirtual 116, 3)) (hC : CE l g M_N_flip d' 0 0 [.ref b, a1] n h none n' h') (hb : h b = some (.inr (3, fs))) (hR0 : d' + 1 ≤ R.frames ∧ 8 + (M_N_flip.2.2.1 + 11) + 36 * d' ≤ R.locals) (hz : k ≤ R.cells ∧ sl ≤ R.slots) (hst : (st.map fun v => v.category).sum ≤ 8) (kk : RJ l g M R TG XP n' h' k sl (pc + 3) lv st) : RJ l g M R TG XP n h k sl pc lv (a1 :: .ref b :: st) := r_cV (M' := M_N_flip) (np := 1) (ci := 3) hC (by rw [hM]; exact wm_in (i := 321) (by decide +kernel) rfl) (wm_in (i := 322) (by decide +kernel) rfl) (wm_in (i := 323) (by decide +kernel) rfl) (wm_in (i := 50) (by decide +kernel) rfl) (wm_in (i := 324) (by decide +kernel) rfl) ⟨by decide, by decide, by decide +kernel⟩ rfl hd rfl rfl hb hR0 hz rfl hst kk
theorem rc_N_66 {l : Launch} {g : GX} {M : MT} {R : Room} {TG : TGT} {XP : XPT} {n : Nat} {h h' : AH} {k sl : Nat} {pc : Nat} {lv : List (Nat × Value)} {st : List Value} {n' d' : Nat} {b : Nat} {fs : List Value} {a1 : Value} (hM : M.1.cls = "ShareStore$Node") (hd : decode M.2.1 pc = .ok (.invokevirtual 66, 3)) (hC : CE l g M_N_giveUp d' 0 0 [.ref b, a1] n h none n' h') (hb : h b = some (.inr (3, fs))) (hR0 : d' + 1 ≤ R.frames ∧ 8 + (M_N_giveUp.2.2.1 + 11) + 36 * d' ≤ R.locals) (hz : k ≤ R.cells ∧ sl ≤ R.slots) (hst : (st.map fun v => v.category).sum ≤ 8) (kk : RJ l g M R TG XP n' h' k sl (pc + 3) lv st) : RJ l g M R TG XP n h k sl pc lv (a1 :: .ref b :: st) := r_cV (M' := M_N_giveUp) (np := 1) (ci := 3) hC (by rw [hM]; exact wm_in (i := 325) (by decide +kernel) rfl) (wm_in (i := 326) (by decide +kernel) rfl) (wm_in (i := 327) (by decide +kernel) rfl) (wm_in (i := 50) (by decide +kernel) rfl) (wm_in (i := 328) (by decide +kernel) rfl) ⟨by decide, by decide, by decide +kernel⟩ rfl hd rfl rfl hb hR0 hz rfl hst kk
theorem rc_N_63 {l : Launch} {g : GX} {M : MT} {R : Room} {TG : TGT} {XP : XPT} {n : Nat} {h h' : AH} {k sl : Nat} {pc : Nat} {lv : List (Nat × Value)} {st : List Value} {n' d' : Nat} {x : Value} {b : Nat} {fs : List Value} {a1 : Value} (hM : M.1.cls = "ShareStore$Node") (hd : decode M.2.1 pc = .ok (.invokevirtual 63, 3)) (hC : CE l g M_H_placeOf d' 0 0 [.ref b, a1] n h (some x) n' h') (hb : h b = some (.inr (2, fs))) (hR0 : d' + 1 ≤ R.frames ∧ 8 + (M_H_placeOf.2.2.1 + 11) + 36 * d' ≤ R.locals) (hz : k ≤ R.cells ∧ sl ≤ R.slots) (hst : (st.map fun v => v.category).sum ≤ 8) (kk : RJ l g M R TG XP n' h' k sl (pc + 3) lv (x :: st)) : RJ l g M R TG XP n h k sl pc lv (a1 :: .ref b :: st) := r_cV (M' := M_H_placeOf) (np := 1) (ci := 2) hC (by rw [hM]; exact wm_in (i := 329) (by decide +kernel) rfl) (wm_in (i := 310) (by decide +kernel) rfl) (wm_in (i := 311) (by decide +kernel) rfl) (wm_in (i := 51) (by decide +kernel) rfl) (wm_in (i := 312) (by decide +kernel) rfl) ⟨by decide, by decide, by decide +kernel⟩ rfl hd rfl rfl hb hR0 hz rfl hst kk
theorem rc_L_42 {l : Launch} {g : GX} {M : MT} {R : Room} {TG : TGT} {XP : XPT} {n : Nat} {h h' : AH} {k sl : Nat} {pc : Nat} {lv : List (Nat × Value)} {st : List Value} {n' d' : Nat} {x : Value} {b : Nat} {fs : List Value} {a1 : Value} (hM : M.1.cls = "ShareStoreLaw") (hd : decode M.2.1 pc = .ok (.invokevirtual 42, 3)) (hC : CE l g M_S_remove d' 0 0 [.ref b, a1] n h (some x) n' h') (hb : h b = some (.inr (4, fs))) (hR0 : d' + 1 ≤ R.frames ∧ 8 + (M_S_remove.2.2.1 + 11) + 36 * d' ≤ R.locals) (hz : k ≤ R.cells ∧ sl ≤ R.slots) (hst : (st.map fun v => v.category).sum ≤ 8) (kk : RJ l g M R TG XP n' h' k sl (pc + 3) lv (x :: st)) : RJ l g M R TG XP n h k sl pc lv (a1 :: .ref b :: st) := r_cV (M' := M_S_remove) (np := 1) (ci := 4) hC (by rw [hM]; exact wm_in (i := 330) (by decide +kernel) rfl) (wm_in (i := 331) (by decide +kernel) rfl) (wm_in (i := 332) (by decide +kernel) rfl) (wm_in (i := 47) (by decide +kernel) rfl) (wm_in (i := 333) (by decide +kernel) rfl) ⟨by decide, by decide, by decide +kernel⟩ rfl hd rfl rfl hb hR0 hz rfl hst kk
theorem rc_L_46 {l : Launch} {g : GX} {M : MT} {R : Room} {TG : TGT} {XP : XPT} {n : Nat} {h h' : AH} {k sl : Nat} {pc : Nat} {lv : List (Nat × Value)} {st : List Value} {n' d' : Nat} {x : Value} {b : Nat} {fs : List Value} {a1 : Value} (hM : M.1.cls = "ShareStoreLaw") (hd : decode M.2.1 pc = .ok (.invokevirtual 46, 3)) (hC : CE l g M_S_settle d' 0 0 [.ref b, a1] n h (some x) n' h') (hb : h b = some (.inr (4, fs))) (hR0 : d' + 1 ≤ R.frames ∧ 8 + (M_S_settle.2.2.1 + 11) + 36 * d' ≤ R.locals) (hz : k ≤ R.cells ∧ sl ≤ R.slots) (hst : (st.map fun v => v.category).sum ≤ 8) (kk : RJ l g M R TG XP n' h' k sl (pc + 3) lv (x :: st)) : RJ l g M R TG XP n h k sl pc lv (a1 :: .ref b :: st) := r_cV (M' := M_S_settle) (np := 1) (ci := 4) hC (by rw [hM]; exact wm_in (i := 334) (by decide +kernel) rfl) (wm_in (i := 335) (by decide +kernel) rfl) (wm_in (i := 336) (by decide +kernel) rfl) (wm_in (i := 47) (by decide +kernel) rfl) (wm_in (i := 337) (by decide +kernel) rfl) ⟨by decide, by decide, by decide +kernel⟩ rfl hd rfl rfl hb hR0 hz rfl hst kk
theorem rc_S_99 {l : Launch} {g : GX} {M : MT} {R : Room} {TG : TGT} {XP : XPT} {n : Nat} {h h' : AH} {k sl : Nat} {pc : Nat} {lv : List (Nat × Value)} {st : List Value} {n' d' : Nat} {x : Value} {b : Nat} {fs : List Value} {a1 a2 : Value} (hM : M.1.cls = "ShareStore") (hd : decode M.2.1 pc = .ok (.invokevirtual 99, 3)) (hC : CE l g M_S_someNodeRecords d' 0 0 [.ref b, a1, a2] n h (some x) n' h') (hb : h b = some (.inr (4, fs))) (hR0 : d' + 1 ≤ R.frames ∧ 8 + (M_S_someNodeRecords.2.2.1 + 11) + 36 * d' ≤ R.locals) (hz : k ≤ R.cells ∧ sl ≤ R.slots) (hst : (st.map fun v => v.category).sum ≤ 8) (kk : RJ l g M R TG XP n' h' k sl (pc + 3) lv (x :: st)) : RJ l g M R TG XP n h k sl pc lv (a2 :: a1 :: .ref b :: st) := r_cV (M' := M_S_someNodeRecords) (np := 2) (ci := 4) hC (by rw [hM]; exact wm_in (i := 338) (by decide +kernel) rfl) (wm_in (i := 340) (by decide +kernel) rfl) (wm_in (i := 8) (by decide +kernel) rfl) (wm_in (i := 47) (by decide +kernel) rfl) (wm_in (i := 341) (by decide +kernel) rfl) ⟨by decide, by decide, by decide +kernel⟩ rfl hd rfl rfl hb hR0 hz rfl hst kk
theorem rc_S_120 {l : Launch} {g : GX} {M : MT} {R : Room} {TG : TGT} {XP : XPT} {n : Nat} {h h' : AH} {k sl : Nat} {pc : Nat} {lv : List (Nat × Value)} {st : List Value} {n' d' : Nat} {b : Nat} {fs : List Value} {a1 : Value} (hM : M.1.cls = "ShareStore") (hd : decode M.2.1 pc = .ok (.invokevirtual 120, 3)) (hC : CE l g M_N_giveUp d' 0 0 [.ref b, a1] n h none n' h') (hb : h b = some (.inr (3, fs))) (hR0 : d' + 1 ≤ R.frames ∧ 8 + (M_N_giveUp.2.2.1 + 11) + 36 * d' ≤ R.locals) (hz : k ≤ R.cells ∧ sl ≤ R.slots) (hst : (st.map fun v => v.category).sum ≤ 8) (kk : RJ l g M R TG XP n' h' k sl (pc + 3) lv st) : RJ l g M R TG XP n h k sl pc lv (a1 :: .ref b :: st) := r_cV (M' := M_N_giveUp) (np := 1) (ci := 3) hC (by rw [hM]; exact wm_in (i := 342) (by decide +kernel) rfl) (wm_in (i := 326) (by decide +kernel) rfl) (wm_in (i := 327) (by decide +kernel) rfl) (wm_in (i := 50) (by decide +kernel) rfl) (wm_in (i := 328) (by decide +kernel) rfl) ⟨by decide, by decide, by decide +kernel⟩ rfl hd rfl rfl hb hR0 hz rfl hst kk
theorem rc_L_50 {l : Launch} {g : GX} {M : MT} {R : Room} {TG : TGT} {XP : XPT} {n : Nat} {h h' : AH} {k sl : Nat} {pc : Nat} {lv : List (Nat × Value)} {st : List Value} {n' d' : Nat} {x : Value} {b : Nat} {fs : List Value} {a1 a2 : Value} (hM : M.1.cls = "ShareStoreLaw") (hd : decode M.2.1 pc = .ok (.invokevirtual 50, 3)) (hC : CE l g M_S_get d' 0 0 [.ref b, a1, a2] n h (some x) n' h') (hb : h b = some (.inr (4, fs))) (hR0 : d' + 1 ≤ R.frames ∧ 8 + (M_S_get.2.2.1 + 11) + 36 * d' ≤ R.locals) (hz : k ≤ R.cells ∧ sl ≤ R.slots) (hst : (st.map fun v => v.category).sum ≤ 8) (kk : RJ l g M R TG XP n' h' k sl (pc + 3) lv (x :: st)) : RJ l g M R TG XP n h k sl pc lv (a2 :: a1 :: .ref b :: st) := r_cV (M' := M_S_get) (np := 2) (ci := 4) hC (by rw [hM]; exact wm_in (i := 343) (by decide +kernel) rfl) (wm_in (i := 344) (by decide +kernel) rfl) (wm_in (i := 345) (by decide +kernel) rfl) (wm_in (i := 47) (by decide +kernel) rfl) (wm_in (i := 346) (by decide +kernel) rfl) ⟨by decide, by decide, by decide +kernel⟩ rfl hd rfl rfl hb hR0 hz rfl hst kk
theorem rc_S_124 {l : Launch} {g : GX} {M : MT} {R : Room} {TG : TGT} {XP : XPT} {n : Nat} {h h' : AH} {k sl : Nat} {pc : Nat} {lv : List (Nat × Value)} {st : List Value} {n' d' : Nat} {x : Value} {b : Nat} {fs : List Value} {a1 a2 : Value} (hM : M.1.cls = "ShareStore") (hd : decode M.2.1 pc = .ok (.invokevirtual 124, 3)) (hC : CE l g M_S_chooseLeastNumbers d' 0 0 [.ref b, a1, a2] n h (some x) n' h') (hb : h b = some (.inr (4, fs))) (hR0 : d' + 1 ≤ R.frames ∧ 8 + (M_S_chooseLeastNumbers.2.2.1 + 11) + 36 * d' ≤ R.locals) (hz : k ≤ R.cells ∧ sl ≤ R.slots) (hst : (st.map fun v => v.category).sum ≤ 8) (kk : RJ l g M R TG XP n' h' k sl (pc + 3) lv (x :: st)) : RJ l g M R TG XP n h k sl pc lv (a2 :: a1 :: .ref b :: st) := r_cV (M' := M_S_chooseLeastNumbers) (np := 2) (ci := 4) hC (by rw [hM]; exact wm_in (i := 347) (by decide +kernel) rfl) (wm_in (i := 349) (by decide +kernel) rfl) (wm_in (i := 9) (by decide +kernel) rfl) (wm_in (i := 47) (by decide +kernel) rfl) (wm_in (i := 350) (by decide +kernel) rfl) ⟨by decide, by decide, by decide +kernel⟩ rfl hd rfl rfl hb hR0 hz rfl hst kk
theorem rc_S_134 {l : Launch} {g : GX} {M : MT} {R : Room} {TG : TGT} {XP : XPT} {n : Nat} {h h' : AH} {k sl : Nat} {pc : Nat} {lv : List (Nat × Value)} {st : List Value} {n' d' : Nat} {x : Value} {b : Nat} {fs : List Value} {a1 : Value} (hM : M.1.cls = "ShareStore") (hd : decode M.2.1 pc = .ok (.invokevirtual 134, 3)) (hC : CE l g M_S_newestOf d' 0 0 [.ref b, a1] n h (some x) n' h') (hb : h b = some (.inr (4, fs))) (hR0 : d' + 1 ≤ R.frames ∧ 8 + (M_S_newestOf.2.2.1 + 11) + 36 * d' ≤ R.locals) (hz : k ≤ R.cells ∧ sl ≤ R.slots) (hst : (st.map fun v => v.category).sum ≤ 8) (kk : RJ l g M R TG XP n' h' k sl (pc + 3) lv (x :: st)) : RJ l g M R TG XP n h k sl pc lv (a1 :: .ref b :: st) := r_cV (M' := M_S_newestOf) (np := 1) (ci := 4) hC (by rw [hM]; exact wm_in (i := 351) (by decide +kernel) rfl) (wm_in (i := 353) (by decide +kernel) rfl) (wm_in (i := 10) (by decide +kernel) rfl) (wm_in (i := 47) (by decide +kernel) rfl) (wm_in (i := 354) (by decide +kernel) rfl) ⟨by decide, by decide, by decide +kernel⟩ rfl hd rfl rfl hb hR0 hz rfl hst kk
theorem rc_S_198 {l : Launch} {g : GX} {M : MT} {R : Room} {TG : TGT} {XP : XPT} {n : Nat} {h h' : AH} {k sl : Nat} {pc : Nat} {lv : List (Nat × Value)} {st : List Value} {n' d' : Nat} {x : Value} {b : Nat} {fs : List Value} {a1 a2 : Value} (hM : M.1.cls = "ShareStore") (hd : decode M.2.1 pc = .ok (.invokevirtual 198, 3)) (hC : CE l g M_S_liveHolders d' 0 0 [.ref b, a1, a2] n h (some x) n' h') (hb : h b = some (.inr (4, fs))) (hR0 : d' + 1 ≤ R.frames ∧ 8 + (M_S_liveHolders.2.2.1 + 11) + 36 * d' ≤ R.locals) (hz : k ≤ R.cells ∧ sl ≤ R.slots) (hst : (st.map fun v => v.category).sum ≤ 8) (kk : RJ l g M R TG XP n' h' k sl (pc + 3) lv (x :: st)) : RJ l g M R TG XP n h k sl pc lv (a2 :: a1 :: .ref b :: st) := r_cV (M' := M_S_liveHolders) (np := 2) (ci := 4) hC (by rw [hM]; exact wm_in (i := 355) (by decide +kernel) rfl) (wm_in (i := 357) (by decide +kernel) rfl) (wm_in (i := 11) (by decide +kernel) rfl) (wm_in (i := 47) (by decide +kernel) rfl) (wm_in (i := 358) (by decide +kernel) rfl) ⟨by decide, by decide, by decide +kernel⟩ rfl hd rfl rfl hb hR0 hz rfl hst kk
theorem rc_S_159 {l : Launch} {g : GX} {M : MT} {R : Room} {TG : TGT} {XP : XPT} {n : Nat} {h h' : AH} {k sl : Nat} {pc : Nat} {lv : List (Nat × Value)} {st : List Value} {n' d' : Nat} {x : Value} {b : Nat} {fs : List Value} {a1 a2 a3 : Value} (hM : M.1.cls = "ShareStore") (hd : decode M.2.1 pc = .ok (.invokevirtual 159, 3)) (hC : CE l g M_S_isFresh d' 0 0 [.ref b, a1, a2, a3] n h (some x) n' h') (hb : h b = some (.inr (4, fs))) (hR0 : d' + 1 ≤ R.frames ∧ 8 + (M_S_isFresh.2.2.1 + 11) + 36 * d' ≤ R.locals) (hz : k ≤ R.cells ∧ sl ≤ R.slots) (hst : (st.map fun v => v.category).sum ≤ 8) (kk : RJ l g M R TG XP n' h' k sl (pc + 3) lv (x :: st)) : RJ l g M R TG XP n h k sl pc lv (a3 :: a2 :: a1 :: .ref b :: st) := r_cV (M' := M_S_isFresh) (np := 3) (ci := 4) hC (by rw [hM]; exact wm_in (i := 359) (by decide +kernel) rfl) (wm_in (i := 361) (by decide +kernel) rfl) (wm_in (i := 12) (by decide +kernel) rfl) (wm_in (i := 47) (by decide +kernel) rfl) (wm_in (i := 362) (by decide +kernel) rfl) ⟨by decide, by decide, by decide +kernel⟩ rfl hd rfl rfl hb hR0 hz rfl hst kk
theorem rc_S_231 {l : Launch} {g : GX} {M : MT} {R : Room} {TG : TGT} {XP : XPT} {n : Nat} {h h' : AH} {k sl : Nat} {pc : Nat} {lv : List (Nat × Value)} {st : List Value} {n' d' : Nat} {x : Value} {a1 a2 : Value} (hM : M.1.cls = "ShareStore") (hd : decode M.2.1 pc = .ok (.invokestatic 231, 3)) (hC : CE l g M_S_isTold d' 0 0 [a1, a2] n h (some x) n' h') (hR0 : d' + 1 ≤ R.frames ∧ 8 + (M_S_isTold.2.2.1 + 11) + 36 * d' ≤ R.locals) (hz : k ≤ R.cells ∧ sl ≤ R.slots) (hst : (st.map fun v => v.category).sum ≤ 8) (kk : RJ l g M R TG XP n' h' k sl (pc + 3) lv (x :: st)) : RJ l g M R TG XP n h k sl pc lv (a2 :: a1 :: st) := r_cS (M' := M_S_isTold) (np := 2) hC (by rw [hM]; exact wm_in (i := 363) (by decide +kernel) rfl) (wm_in (i := 364) (by decide +kernel) rfl) (by rw [hM]; exact wm_in (i := 47) (by decide +kernel) rfl) (wm_in (i := 365) (by decide +kernel) rfl) ⟨by rw [hM]; rfl, by decide, by decide, by decide +kernel⟩ rfl hd hR0 hz rfl hst kk
theorem rc_S_127 {l : Launch} {g : GX} {M : MT} {R : Room} {TG : TGT} {XP : XPT} {n : Nat} {h h' : AH} {k sl : Nat} {pc : Nat} {lv : List (Nat × Value)} {st : List Value} {n' d' : Nat} {x : Value} {b : Nat} {fs : List Value} {a1 : Value} (hM : M.1.cls = "ShareStore") (hd : decode M.2.1 pc = .ok (.invokevirtual 127, 3)) (hC : CE l g M_S_newestBytes d' 0 0 [.ref b, a1] n h (some x) n' h') (hb : h b = some (.inr (4, fs))) (hR0 : d' + 1 ≤ R.frames ∧ 8 + (M_S_newestBytes.2.2.1 + 11) + 36 * d' ≤ R.locals) (hz : k ≤ R.cells ∧ sl ≤ R.slots) (hst : (st.map fun v => v.category).sum ≤ 8) (kk : RJ l g M R TG XP n' h' k sl (pc + 3) lv (x :: st)) : RJ l g M R TG XP n h k sl pc lv (a1 :: .ref b :: st) := r_cV (M' := M_S_newestBytes) (np := 1) (ci := 4) hC (by rw [hM]; exact wm_in (i := 366) (by decide +kernel) rfl) (wm_in (i := 368) (by decide +kernel) rfl) (wm_in (i := 13) (by decide +kernel) rfl) (wm_in (i := 47) (by decide +kernel) rfl) (wm_in (i := 369) (by decide +kernel) rfl) ⟨by decide, by decide, by decide +kernel⟩ rfl hd rfl rfl hb hR0 hz rfl hst kk
theorem rc_S_130 {l : Launch} {g : GX} {M : MT} {R : Room} {TG : TGT} {XP : XPT} {n : Nat} {h h' : AH} {k sl : Nat} {pc : Nat} {lv : List (Nat × Value)} {st : List Value} {n' d' : Nat} {b : Nat} {fs : List Value} {a1 a2 : Value} (hM : M.1.cls = "ShareStore") (hd : decode M.2.1 pc = .ok (.invokevirtual 130, 3)) (hC : CE l g M_S_decode d' 0 0 [.ref b, a1, a2] n h none n' h') (hb : h b = some (.inr (4, fs))) (hR0 : d' + 1 ≤ R.frames ∧ 8 + (M_S_decode.2.2.1 + 11) + 36 * d' ≤ R.locals) (hz : k ≤ R.cells ∧ sl ≤ R.slots) (hst : (st.map fun v => v.category).sum ≤ 8) (kk : RJ l g M R TG XP n' h' k sl (pc + 3) lv st) : RJ l g M R TG XP n h k sl pc lv (a2 :: a1 :: .ref b :: st) := r_cV (M' := M_S_decode) (np := 2) (ci := 4) hC (by rw [hM]; exact wm_in (i := 370) (by decide +kernel) rfl) (wm_in (i := 372) (by decide +kernel) rfl) (wm_in (i := 14) (by decide +kernel) rfl) (wm_in (i := 47) (by decide +kernel) rfl) (wm_in (i := 373) (by decide +kernel) rfl) ⟨by decide, by decide, by decide +kernel⟩ rfl hd rfl rfl hb hR0 hz rfl hst kk
theorem rc_S_234 {l : Launch} {g : GX} {M : MT} {R : Room} {TG : TGT} {XP : XPT} {n : Nat} {h h' : AH} {k sl : Nat} {pc : Nat} {lv : List (Nat × Value)} {st : List Value} {n' d' : Nat} {b : Nat} {fs : List Value} {a1 a2 : Value} (hM : M.1.cls = "ShareStore") (hd : decode M.2.1 pc = .ok (.invokevirtual 234, 3)) (hC : CE l g M_C_invert d' 0 0 [.ref b, a1, a2] n h none n' h') (hb : h b = some (.inr (0, fs))) (hR0 : d' + 1 ≤ R.frames ∧ 8 + (M_C_invert.2.2.1 + 11) + 36 * d' ≤ R.locals) (hz : k ≤ R.cells ∧ sl ≤ R.slots) (hst : (st.map fun v => v.category).sum ≤ 8) (kk : RJ l g M R TG XP n' h' k sl (pc + 3) lv st) : RJ l g M R TG XP n h k sl pc lv (a2 :: a1 :: .ref b :: st) := r_cV (M' := M_C_invert) (np := 2) (ci := 0) hC (by rw [hM]; exact wm_in (i := 374) (by decide +kernel) rfl) (wm_in (i := 375) (by decide +kernel) rfl) (wm_in (i := 376) (by decide +kernel) rfl) (wm_in (i := 48) (by decide +kernel) rfl) (wm_in (i := 377) (by decide +kernel) rfl) ⟨by decide, by decide, by decide +kernel⟩ rfl hd rfl rfl hb hR0 hz rfl hst kk
theorem rc_C_62 {l : Launch} {g : GX} {M : MT} {R : Room} {TG : TGT} {XP : XPT} {n : Nat} {h h' : AH} {k sl : Nat} {pc : Nat} {lv : List (Nat × Value)} {st : List Value} {n' d' : Nat} {x : Value} {b : Nat} {fs : List Value} {a1 a2 : Value} (hM : M.1.cls = "ShareStore$Coder") (hd : decode M.2.1 pc = .ok (.invokevirtual 62, 3)) (hC : CE l g M_F_quotient d' 0 0 [.ref b, a1, a2] n h (some x) n' h') (hb : h b = some (.inr (1, fs))) (hR0 : d' + 1 ≤ R.frames ∧ 8 + (M_F_quotient.2.2.1 + 11) + 36 * d' ≤ R.locals) (hz : k ≤ R.cells ∧ sl ≤ R.slots) (hst : (st.map fun v => v.category).sum ≤ 8) (kk : RJ l g M R TG XP n' h' k sl (pc + 3) lv (x :: st)) : RJ l g M R TG XP n h k sl pc lv (a2 :: a1 :: .ref b :: st) := r_cV (M' := M_F_quotient) (np := 2) (ci := 1) hC (by rw [hM]; exact wm_in (i := 378) (by decide +kernel) rfl) (wm_in (i := 223) (by decide +kernel) rfl) (wm_in (i := 224) (by decide +kernel) rfl) (wm_in (i := 49) (by decide +kernel) rfl) (wm_in (i := 225) (by decide +kernel) rfl) ⟨by decide, by decide, by decide +kernel⟩ rfl hd rfl rfl hb hR0 hz rfl hst kk
theorem rc_C_65 {l : Launch} {g : GX} {M : MT} {R : Room} {TG : TGT} {XP : XPT} {n : Nat} {h h' : AH} {k sl : Nat} {pc : Nat} {lv : List (Nat × Value)} {st : List Value} {n' d' : Nat} {b : Nat} {fs : List Value} {a1 a2 : Value} (hM : M.1.cls = "ShareStore$Coder") (hd : decode M.2.1 pc = .ok (.invokevirtual 65, 3)) (hC : CE l g M_C_clearColumn d' 0 0 [.ref b, a1, a2] n h none n' h') (hb : h b = some (.inr (0, fs))) (hR0 : d' + 1 ≤ R.frames ∧ 8 + (M_C_clearColumn.2.2.1 + 11) + 36 * d' ≤ R.locals) (hz : k ≤ R.cells ∧ sl ≤ R.slots) (hst : (st.map fun v => v.category).sum ≤ 8) (kk : RJ l g M R TG XP n' h' k sl (pc + 3) lv st) : RJ l g M R TG XP n h k sl pc lv (a2 :: a1 :: .ref b :: st) := r_cV (M' := M_C_clearColumn) (np := 2) (ci := 0) hC (by rw [hM]; exact wm_in (i := 379) (by decide +kernel) rfl) (wm_in (i := 381) (by decide +kernel) rfl) (wm_in (i := 15) (by decide +kernel) rfl) (wm_in (i := 48) (by decide +kernel) rfl) (wm_in (i := 382) (by decide +kernel) rfl) ⟨by decide, by decide, by decide +kernel⟩ rfl hd rfl rfl hb hR0 hz rfl hst kk
theorem rc_S_238 {l : Launch} {g : GX} {M : MT} {R : Room} {TG : TGT} {XP : XPT} {n : Nat} {h h' : AH} {k sl : Nat} {pc : Nat} {lv : List (Nat × Value)} {st : List Value} {n' d' : Nat} {b : Nat} {fs : List Value} {a1 a2 : Value} (hM : M.1.cls = "ShareStore") (hd : decode M.2.1 pc = .ok (.invokevirtual 238, 3)) (hC : CE l g M_N_read d' 0 0 [.ref b, a1, a2] n h none n' h') (hb : h b = some (.inr (3, fs))) (hR0 : d' + 1 ≤ R.frames ∧ 8 + (M_N_read.2.2.1 + 11) + 36 * d' ≤ R.locals) (hz : k ≤ R.cells ∧ sl ≤ R.slots) (hst : (st.map fun v => v.category).sum ≤ 8) (kk : RJ l g M R TG XP n' h' k sl (pc + 3) lv st) : RJ l g M R TG XP n h k sl pc lv (a2 :: a1 :: .ref b :: st) := r_cV (M' := M_N_read) (np := 2) (ci := 3) hC (by rw [hM]; exact wm_in (i := 383) (by decide +kernel) rfl) (wm_in (i := 384) (by decide +kernel) rfl) (wm_in (i := 385) (by decide +kernel) rfl) (wm_in (i := 50) (by decide +kernel) rfl) (wm_in (i := 386) (by decide +kernel) rfl) ⟨by decide, by decide, by decide +kernel⟩ rfl hd rfl rfl hb hR0 hz rfl hst kk
theorem rc_N_73 {l : Launch} {g : GX} {M : MT} {R : Room} {TG : TGT} {XP : XPT} {n : Nat} {h h' : AH} {k sl : Nat} {pc : Nat} {lv : List (Nat × Value)} {st : List Value} {n' d' : Nat} {x : Value} {b : Nat} {fs : List Value} {a1 a2 : Value} (hM : M.1.cls = "ShareStore$Node") (hd : decode M.2.1 pc = .ok (.invokevirtual 73, 3)) (hC : CE l g M_N_byteAt d' 0 0 [.ref b, a1, a2] n h (some x) n' h') (hb : h b = some (.inr (3, fs))) (hR0 : d' + 1 ≤ R.frames ∧ 8 + (M_N_byteAt.2.2.1 + 11) + 36 * d' ≤ R.locals) (hz : k ≤ R.cells ∧ sl ≤ R.slots) (hst : (st.map fun v => v.category).sum ≤ 8) (kk : RJ l g M R TG XP n' h' k sl (pc + 3) lv (x :: st)) : RJ l g M R TG XP n h k sl pc lv (a2 :: a1 :: .ref b :: st) := r_cV (M' := M_N_byteAt) (np := 2) (ci := 3) hC (by rw [hM]; exact wm_in (i := 387) (by decide +kernel) rfl) (wm_in (i := 388) (by decide +kernel) rfl) (wm_in (i := 389) (by decide +kernel) rfl) (wm_in (i := 50) (by decide +kernel) rfl) (wm_in (i := 390) (by decide +kernel) rfl) ⟨by decide, by decide, by decide +kernel⟩ rfl hd rfl rfl hb hR0 hz rfl hst kk
theorem rc_S_241 {l : Launch} {g : GX} {M : MT} {R : Room} {TG : TGT} {XP : XPT} {n : Nat} {h h' : AH} {k sl : Nat} {pc : Nat} {lv : List (Nat × Value)} {st : List Value} {n' d' : Nat} {b : Nat} {fs : List Value} {a1 a2 : Value} (hM : M.1.cls = "ShareStore") (hd : decode M.2.1 pc = .ok (.invokevirtual 241, 3)) (hC : CE l g M_C_give d' 0 0 [.ref b, a1, a2] n h none n' h') (hb : h b = some (.inr (0, fs))) (hR0 : d' + 1 ≤ R.frames ∧ 8 + (M_C_give.2.2.1 + 11) + 36 * d' ≤ R.locals) (hz : k ≤ R.cells ∧ sl ≤ R.slots) (hst : (st.map fun v => v.category).sum ≤ 8) (kk : RJ l g M R TG XP n' h' k sl (pc + 3) lv st) : RJ l g M R TG XP n h k sl pc lv (a2 :: a1 :: .ref b :: st) := r_cV (M' := M_C_give) (np := 2) (ci := 0) hC (by rw [hM]; exact wm_in (i := 391) (by decide +kernel) rfl) (wm_in (i := 392) (by decide +kernel) rfl) (wm_in (i := 393) (by decide +kernel) rfl) (wm_in (i := 48) (by decide +kernel) rfl) (wm_in (i := 394) (by decide +kernel) rfl) ⟨by decide, by decide, by decide +kernel⟩ rfl hd rfl rfl hb hR0 hz rfl hst kk
theorem rc_S_244 {l : Launch} {g : GX} {M : MT} {R : Room} {TG : TGT} {XP : XPT} {n : Nat} {h h' : AH} {k sl : Nat} {pc : Nat} {lv : List (Nat × Value)} {st : List Value} {n' d' : Nat} {b : Nat} {fs : List Value} {a1 : Value} (hM : M.1.cls = "ShareStore") (hd : decode M.2.1 pc = .ok (.invokevirtual 244, 3)) (hC : CE l g M_C_solve d' 0 0 [.ref b, a1] n h none n' h') (hb : h b = some (.inr (0, fs))) (hR0 : d' + 1 ≤ R.frames ∧ 8 + (M_C_solve.2.2.1 + 11) + 36 * d' ≤ R.locals) (hz : k ≤ R.cells ∧ sl ≤ R.slots) (hst : (st.map fun v => v.category).sum ≤ 8) (kk : RJ l g M R TG XP n' h' k sl (pc + 3) lv st) : RJ l g M R TG XP n h k sl pc lv (a1 :: .ref b :: st) := r_cV (M' := M_C_solve) (np := 1) (ci := 0) hC (by rw [hM]; exact wm_in (i := 398) (by decide +kernel) rfl) (wm_in (i := 399) (by decide +kernel) rfl) (wm_in (i := 400) (by decide +kernel) rfl) (wm_in (i := 48) (by decide +kernel) rfl) (wm_in (i := 401) (by decide +kernel) rfl) ⟨by decide, by decide, by decide +kernel⟩ rfl hd rfl rfl hb hR0 hz rfl hst kk
theorem rc_C_75 {l : Launch} {g : GX} {M : MT} {R : Room} {TG : TGT} {XP : XPT} {n : Nat} {h h' : AH} {k sl : Nat} {pc : Nat} {lv : List (Nat × Value)} {st : List Value} {n' d' : Nat} {b : Nat} {fs : List Value} {a1 : Value} (hM : M.1.cls = "ShareStore$Coder") (hd : decode M.2.1 pc = .ok (.invokevirtual 75, 3)) (hC : CE l g M_C_solveColumn d' 0 0 [.ref b, a1] n h none n' h') (hb : h b = some (.inr (0, fs))) (hR0 : d' + 1 ≤ R.frames ∧ 8 + (M_C_solveColumn.2.2.1 + 11) + 36 * d' ≤ R.locals) (hz : k ≤ R.cells ∧ sl ≤ R.slots) (hst : (st.map fun v => v.category).sum ≤ 8) (kk : RJ l g M R TG XP n' h' k sl (pc + 3) lv st) : RJ l g M R TG XP n h k sl pc lv (a1 :: .ref b :: st) := r_cV (M' := M_C_solveColumn) (np := 1) (ci := 0) hC (by rw [hM]; exact wm_in (i := 402) (by decide +kernel) rfl) (wm_in (i := 404) (by decide +kernel) rfl) (wm_in (i := 16) (by decide +kernel) rfl) (wm_in (i := 48) (by decide +kernel) rfl) (wm_in (i := 405) (by decide +kernel) rfl) ⟨by decide, by decide, by decide +kernel⟩ rfl hd rfl rfl hb hR0 hz rfl hst kk
theorem rc_S_248 {l : Launch} {g : GX} {M : MT} {R : Room} {TG : TGT} {XP : XPT} {n : Nat} {h h' : AH} {k sl : Nat} {pc : Nat} {lv : List (Nat × Value)} {st : List Value} {n' d' : Nat} {b : Nat} {fs : List Value} {a1 a2 a3 : Value} (hM : M.1.cls = "ShareStore") (hd : decode M.2.1 pc = .ok (.invokevirtual 248, 3)) (hC : CE l g M_C_unload d' 0 0 [.ref b, a1, a2, a3] n h none n' h') (hb : h b = some (.inr (0, fs))) (hR0 : d' + 1 ≤ R.frames ∧ 8 + (M_C_unload.2.2.1 + 11) + 36 * d' ≤ R.locals) (hz : k ≤ R.cells ∧ sl ≤ R.slots) (hst : (st.map fun v => v.category).sum ≤ 8) (kk : RJ l g M R TG XP n' h' k sl (pc + 3) lv st) : RJ l g M R TG XP n h k sl pc lv (a3 :: a2 :: a1 :: .ref b :: st) := r_cV (M' := M_C_unload) (np := 3) (ci := 0) hC (by rw [hM]; exact wm_in (i := 406) (by decide +kernel) rfl) (wm_in (i := 407) (by decide +kernel) rfl) (wm_in (i := 408) (by decide +kernel) rfl) (wm_in (i := 48) (by decide +kernel) rfl) (wm_in (i := 409) (by decide +kernel) rfl) ⟨by decide, by decide, by decide +kernel⟩ rfl hd rfl rfl hb hR0 hz rfl hst kk
theorem rc_C_55 {l : Launch} {g : GX} {M : MT} {R : Room} {TG : TGT} {XP : XPT} {n : Nat} {h h' : AH} {k sl : Nat} {pc : Nat} {lv : List (Nat × Value)} {st : List Value} {n' d' : Nat} {a1 a2 a3 a4 : Value} (hM : M.1.cls = "ShareStore$Coder") (hd : decode M.2.1 pc = .ok (.invokestatic 55, 3)) (hC : CE l g M_C_storeBefore d' 0 0 [a1, a2, a3, a4] n h none n' h') (hR0 : d' + 1 ≤ R.frames ∧ 8 + (M_C_storeBefore.2.2.1 + 11) + 36 * d' ≤ R.locals) (hz : k ≤ R.cells ∧ sl ≤ R.slots) (hst : (st.map fun v => v.category).sum ≤ 8) (kk : RJ l g M R TG XP n' h' k sl (pc + 3) lv st) : RJ l g M R TG XP n h k sl pc lv (a4 :: a3 :: a2 :: a1 :: st) := r_cS (M' := M_C_storeBefore) (np := 4) hC (by rw [hM]; exact wm_in (i := 410) (by decide +kernel) rfl) (wm_in (i := 411) (by decide +kernel) rfl) (by rw [hM]; exact wm_in (i := 48) (by decide +kernel) rfl) (wm_in (i := 412) (by decide +kernel) rfl) ⟨by rw [hM]; rfl, by decide, by decide, by decide +kernel⟩ rfl hd hR0 hz rfl hst kk
theorem rc_L_54 {l : Launch} {g : GX} {M : MT} {R : Room} {TG : TGT} {XP : XPT} {n : Nat} {h h' : AH} {k sl : Nat} {pc : Nat} {lv : List (Nat × Value)} {st : List Value} {n' d' : Nat} {x : Value} {b : Nat} {fs : List Value} {a1 : Value} (hM : M.1.cls = "ShareStoreLaw") (hd : decode M.2.1 pc = .ok (.invokevirtual 54, 3)) (hC : CE l g M_S_got d' 0 0 [.ref b, a1] n h (some x) n' h') (hb : h b = some (.inr (4, fs))) (hR0 : d' + 1 ≤ R.frames ∧ 8 + (M_S_got.2.2.1 + 11) + 36 * d' ≤ R.locals) (hz : k ≤ R.cells ∧ sl ≤ R.slots) (hst : (st.map fun v => v.category).sum ≤ 8) (kk : RJ l g M R TG XP n' h' k sl (pc + 3) lv (x :: st)) : RJ l g M R TG XP n h k sl pc lv (a1 :: .ref b :: st) := r_cV (M' := M_S_got) (np := 1) (ci := 4) hC (by rw [hM]; exact wm_in (i := 413) (by decide +kernel) rfl) (wm_in (i := 414) (by decide +kernel) rfl) (wm_in (i := 415) (by decide +kernel) rfl) (wm_in (i := 47) (by decide +kernel) rfl) (wm_in (i := 416) (by decide +kernel) rfl) ⟨by decide, by decide, by decide +kernel⟩ rfl hd rfl rfl hb hR0 hz rfl hst kk
theorem rc_L_58 {l : Launch} {g : GX} {M : MT} {R : Room} {TG : TGT} {XP : XPT} {n : Nat} {h h' : AH} {k sl : Nat} {pc : Nat} {lv : List (Nat × Value)} {st : List Value} {n' d' : Nat} {x : Value} {b : Nat} {fs : List Value} {a1 : Value} (hM : M.1.cls = "ShareStoreLaw") (hd : decode M.2.1 pc = .ok (.invokevirtual 58, 3)) (hC : CE l g M_S_version d' 0 0 [.ref b, a1] n h (some x) n' h') (hb : h b = some (.inr (4, fs))) (hR0 : d' + 1 ≤ R.frames ∧ 8 + (M_S_version.2.2.1 + 11) + 36 * d' ≤ R.locals) (hz : k ≤ R.cells ∧ sl ≤ R.slots) (hst : (st.map fun v => v.category).sum ≤ 8) (kk : RJ l g M R TG XP n' h' k sl (pc + 3) lv (x :: st)) : RJ l g M R TG XP n h k sl pc lv (a1 :: .ref b :: st) := r_cV (M' := M_S_version) (np := 1) (ci := 4) hC (by rw [hM]; exact wm_in (i := 417) (by decide +kernel) rfl) (wm_in (i := 418) (by decide +kernel) rfl) (wm_in (i := 419) (by decide +kernel) rfl) (wm_in (i := 47) (by decide +kernel) rfl) (wm_in (i := 420) (by decide +kernel) rfl) ⟨by decide, by decide, by decide +kernel⟩ rfl hd rfl rfl hb hR0 hz rfl hst kk
theorem rc_L_62 {l : Launch} {g : GX} {M : MT} {R : Room} {TG : TGT} {XP : XPT} {n : Nat} {h h' : AH} {k sl : Nat} {pc : Nat} {lv : List (Nat × Value)} {st : List Value} {n' d' : Nat} {x : Value} {b : Nat} {fs : List Value} {a1 : Value} (hM : M.1.cls = "ShareStoreLaw") (hd : decode M.2.1 pc = .ok (.invokevirtual 62, 3)) (hC : CE l g M_S_open d' 0 0 [.ref b, a1] n h (some x) n' h') (hb : h b = some (.inr (4, fs))) (hR0 : d' + 1 ≤ R.frames ∧ 8 + (M_S_open.2.2.1 + 11) + 36 * d' ≤ R.locals) (hz : k ≤ R.cells ∧ sl ≤ R.slots) (hst : (st.map fun v => v.category).sum ≤ 8) (kk : RJ l g M R TG XP n' h' k sl (pc + 3) lv (x :: st)) : RJ l g M R TG XP n h k sl pc lv (a1 :: .ref b :: st) := r_cV (M' := M_S_open) (np := 1) (ci := 4) hC (by rw [hM]; exact wm_in (i := 421) (by decide +kernel) rfl) (wm_in (i := 422) (by decide +kernel) rfl) (wm_in (i := 423) (by decide +kernel) rfl) (wm_in (i := 47) (by decide +kernel) rfl) (wm_in (i := 424) (by decide +kernel) rfl) ⟨by decide, by decide, by decide +kernel⟩ rfl hd rfl rfl hb hR0 hz rfl hst kk
theorem rc_L_66 {l : Launch} {g : GX} {M : MT} {R : Room} {TG : TGT} {XP : XPT} {n : Nat} {h h' : AH} {k sl : Nat} {pc : Nat} {lv : List (Nat × Value)} {st : List Value} {n' d' : Nat} {x : Value} {b : Nat} {fs : List Value} {a1 : Value} (hM : M.1.cls = "ShareStoreLaw") (hd : decode M.2.1 pc = .ok (.invokevirtual 66, 3)) (hC : CE l g M_S_fail d' 0 0 [.ref b, a1] n h (some x) n' h') (hb : h b = some (.inr (4, fs))) (hR0 : d' + 1 ≤ R.frames ∧ 8 + (M_S_fail.2.2.1 + 11) + 36 * d' ≤ R.locals) (hz : k ≤ R.cells ∧ sl ≤ R.slots) (hst : (st.map fun v => v.category).sum ≤ 8) (kk : RJ l g M R TG XP n' h' k sl (pc + 3) lv (x :: st)) : RJ l g M R TG XP n h k sl pc lv (a1 :: .ref b :: st) := r_cV (M' := M_S_fail) (np := 1) (ci := 4) hC (by rw [hM]; exact wm_in (i := 425) (by decide +kernel) rfl) (wm_in (i := 426) (by decide +kernel) rfl) (wm_in (i := 427) (by decide +kernel) rfl) (wm_in (i := 47) (by decide +kernel) rfl) (wm_in (i := 428) (by decide +kernel) rfl) ⟨by decide, by decide, by decide +kernel⟩ rfl hd rfl rfl hb hR0 hz rfl hst kk
theorem rc_L_70 {l : Launch} {g : GX} {M : MT} {R : Room} {TG : TGT} {XP : XPT} {n : Nat} {h h' : AH} {k sl : Nat} {pc : Nat} {lv : List (Nat × Value)} {st : List Value} {n' d' : Nat} {x : Value} {b : Nat} {fs : List Value} {a1 : Value} (hM : M.1.cls = "ShareStoreLaw") (hd : decode M.2.1 pc = .ok (.invokevirtual 70, 3)) (hC : CE l g M_S_back d' 0 0 [.ref b, a1] n h (some x) n' h') (hb : h b = some (.inr (4, fs))) (hR0 : d' + 1 ≤ R.frames ∧ 8 + (M_S_back.2.2.1 + 11) + 36 * d' ≤ R.locals) (hz : k ≤ R.cells ∧ sl ≤ R.slots) (hst : (st.map fun v => v.category).sum ≤ 8) (kk : RJ l g M R TG XP n' h' k sl (pc + 3) lv (x :: st)) : RJ l g M R TG XP n h k sl pc lv (a1 :: .ref b :: st) := r_cV (M' := M_S_back) (np := 1) (ci := 4) hC (by rw [hM]; exact wm_in (i := 429) (by decide +kernel) rfl) (wm_in (i := 430) (by decide +kernel) rfl) (wm_in (i := 431) (by decide +kernel) rfl) (wm_in (i := 47) (by decide +kernel) rfl) (wm_in (i := 432) (by decide +kernel) rfl) ⟨by decide, by decide, by decide +kernel⟩ rfl hd rfl rfl hb hR0 hz rfl hst kk
theorem rc_S_137 {l : Launch} {g : GX} {M : MT} {R : Room} {TG : TGT} {XP : XPT} {n : Nat} {h h' : AH} {k sl : Nat} {pc : Nat} {lv : List (Nat × Value)} {st : List Value} {n' d' : Nat} {x : Value} {b : Nat} {fs : List Value} (hM : M.1.cls = "ShareStore") (hd : decode M.2.1 pc = .ok (.invokevirtual 137, 3)) (hC : CE l g M_N_giveUpShadows d' 0 0 [.ref b] n h (some x) n' h') (hb : h b = some (.inr (3, fs))) (hR0 : d' + 1 ≤ R.frames ∧ 8 + (M_N_giveUpShadows.2.2.1 + 11) + 36 * d' ≤ R.locals) (hz : k ≤ R.cells ∧ sl ≤ R.slots) (hst : (st.map fun v => v.category).sum ≤ 8) (kk : RJ l g M R TG XP n' h' k sl (pc + 3) lv (x :: st)) : RJ l g M R TG XP n h k sl pc lv (.ref b :: st) := r_cV (M' := M_N_giveUpShadows) (np := 0) (ci := 3) hC (by rw [hM]; exact wm_in (i := 433) (by decide +kernel) rfl) (wm_in (i := 434) (by decide +kernel) rfl) (wm_in (i := 435) (by decide +kernel) rfl) (wm_in (i := 50) (by decide +kernel) rfl) (wm_in (i := 436) (by decide +kernel) rfl) ⟨by decide, by decide, by decide +kernel⟩ rfl hd rfl rfl hb hR0 hz rfl hst kk
theorem rc_L_74 {l : Launch} {g : GX} {M : MT} {R : Room} {TG : TGT} {XP : XPT} {n : Nat} {h h' : AH} {k sl : Nat} {pc : Nat} {lv : List (Nat × Value)} {st : List Value} {n' d' : Nat} {x : Value} {b : Nat} {fs : List Value} {a1 : Value} (hM : M.1.cls = "ShareStoreLaw") (hd : decode M.2.1 pc = .ok (.invokevirtual 74, 3)) (hC : CE l g M_S_wipe d' 0 0 [.ref b, a1] n h (some x) n' h') (hb : h b = some (.inr (4, fs))) (hR0 : d' + 1 ≤ R.frames ∧ 8 + (M_S_wipe.2.2.1 + 11) + 36 * d' ≤ R.locals) (hz : k ≤ R.cells ∧ sl ≤ R.slots) (hst : (st.map fun v => v.category).sum ≤ 8) (kk : RJ l g M R TG XP n' h' k sl (pc + 3) lv (x :: st)) : RJ l g M R TG XP n h k sl pc lv (a1 :: .ref b :: st) := r_cV (M' := M_S_wipe) (np := 1) (ci := 4) hC (by rw [hM]; exact wm_in (i := 437) (by decide +kernel) rfl) (wm_in (i := 438) (by decide +kernel) rfl) (wm_in (i := 439) (by decide +kernel) rfl) (wm_in (i := 47) (by decide +kernel) rfl) (wm_in (i := 440) (by decide +kernel) rfl) ⟨by decide, by decide, by decide +kernel⟩ rfl hd rfl rfl hb hR0 hz rfl hst kk
theorem rc_S_143 {l : Launch} {g : GX} {M : MT} {R : Room} {TG : TGT} {XP : XPT} {n : Nat} {h h' : AH} {k sl : Nat} {pc : Nat} {lv : List (Nat × Value)} {st : List Value} {n' d' : Nat} {b : Nat} {fs : List Value} (hM : M.1.cls = "ShareStore") (hd : decode M.2.1 pc = .ok (.invokevirtual 143, 3)) (hC : CE l g M_N_giveUpAll d' 0 0 [.ref b] n h none n' h') (hb : h b = some (.inr (3, fs))) (hR0 : d' + 1 ≤ R.frames ∧ 8 + (M_N_giveUpAll.2.2.1 + 11) + 36 * d' ≤ R.locals) (hz : k ≤ R.cells ∧ sl ≤ R.slots) (hst : (st.map fun v => v.category).sum ≤ 8) (kk : RJ l g M R TG XP n' h' k sl (pc + 3) lv st) : RJ l g M R TG XP n h k sl pc lv (.ref b :: st) := r_cV (M' := M_N_giveUpAll) (np := 0) (ci := 3) hC (by rw [hM]; exact wm_in (i := 441) (by decide +kernel) rfl) (wm_in (i := 442) (by decide +kernel) rfl) (wm_in (i := 443) (by decide +kernel) rfl) (wm_in (i := 50) (by decide +kernel) rfl) (wm_in (i := 444) (by decide +kernel) rfl) ⟨by decide, by decide, by decide +kernel⟩ rfl hd rfl rfl hb hR0 hz rfl hst kk
theorem rc_N_70 {l : Launch} {g : GX} {M : MT} {R : Room} {TG : TGT} {XP : XPT} {n : Nat} {h h' : AH} {k sl : Nat} {pc : Nat} {lv : List (Nat × Value)} {st : List Value} {n' d' : Nat} {x : Value} {b : Nat} {fs : List Value} (hM : M.1.cls = "ShareStore$Node") (hd : decode M.2.1 pc = .ok (.invokevirtual 70, 3)) (hC : CE l g M_N_giveUpShadows d' 0 0 [.ref b] n h (some x) n' h') (hb : h b = some (.inr (3, fs))) (hR0 : d' + 1 ≤ R.frames ∧ 8 + (M_N_giveUpShadows.2.2.1 + 11) + 36 * d' ≤ R.locals) (hz : k ≤ R.cells ∧ sl ≤ R.slots) (hst : (st.map fun v => v.category).sum ≤ 8) (kk : RJ l g M R TG XP n' h' k sl (pc + 3) lv (x :: st)) : RJ l g M R TG XP n h k sl pc lv (.ref b :: st) := r_cV (M' := M_N_giveUpShadows) (np := 0) (ci := 3) hC (by rw [hM]; exact wm_in (i := 445) (by decide +kernel) rfl) (wm_in (i := 434) (by decide +kernel) rfl) (wm_in (i := 435) (by decide +kernel) rfl) (wm_in (i := 50) (by decide +kernel) rfl) (wm_in (i := 436) (by decide +kernel) rfl) ⟨by decide, by decide, by decide +kernel⟩ rfl hd rfl rfl hb hR0 hz rfl hst kk
theorem rc_L_78 {l : Launch} {g : GX} {M : MT} {R : Room} {TG : TGT} {XP : XPT} {n : Nat} {h h' : AH} {k sl : Nat} {pc : Nat} {lv : List (Nat × Value)} {st : List Value} {n' d' : Nat} {x : Value} {b : Nat} {fs : List Value} {a1 a2 : Value} (hM : M.1.cls = "ShareStoreLaw") (hd : decode M.2.1 pc = .ok (.invokevirtual 78, 3)) (hC : CE l g M_S_rebuild d' 0 0 [.ref b, a1, a2] n h (some x) n' h') (hb : h b = some (.inr (4, fs))) (hR0 : d' + 1 ≤ R.frames ∧ 8 + (M_S_rebuild.2.2.1 + 11) + 36 * d' ≤ R.locals) (hz : k ≤ R.cells ∧ sl ≤ R.slots) (hst : (st.map fun v => v.category).sum ≤ 8) (kk : RJ l g M R TG XP n' h' k sl (pc + 3) lv (x :: st)) : RJ l g M R TG XP n h k sl pc lv (a2 :: a1 :: .ref b :: st) := r_cV (M' := M_S_rebuild) (np := 2) (ci := 4) hC (by rw [hM]; exact wm_in (i := 446) (by decide +kernel) rfl) (wm_in (i := 447) (by decide +kernel) rfl) (wm_in (i := 448) (by decide +kernel) rfl) (wm_in (i := 47) (by decide +kernel) rfl) (wm_in (i := 449) (by decide +kernel) rfl) ⟨by decide, by decide, by decide +kernel⟩ rfl hd rfl rfl hb hR0 hz rfl hst kk
theorem rc_S_146 {l : Launch} {g : GX} {M : MT} {R : Room} {TG : TGT} {XP : XPT} {n : Nat} {h h' : AH} {k sl : Nat} {pc : Nat} {lv : List (Nat × Value)} {st : List Value} {n' d' : Nat} {x : Value} {b : Nat} {fs : List Value} {a1 a2 : Value} (hM : M.1.cls = "ShareStore") (hd : decode M.2.1 pc = .ok (.invokevirtual 146, 3)) (hC : CE l g M_S_lacksHelpers d' 0 0 [.ref b, a1, a2] n h (some x) n' h') (hb : h b = some (.inr (4, fs))) (hR0 : d' + 1 ≤ R.frames ∧ 8 + (M_S_lacksHelpers.2.2.1 + 11) + 36 * d' ≤ R.locals) (hz : k ≤ R.cells ∧ sl ≤ R.slots) (hst : (st.map fun v => v.category).sum ≤ 8) (kk : RJ l g M R TG XP n' h' k sl (pc + 3) lv (x :: st)) : RJ l g M R TG XP n h k sl pc lv (a2 :: a1 :: .ref b :: st) := r_cV (M' := M_S_lacksHelpers) (np := 2) (ci := 4) hC (by rw [hM]; exact wm_in (i := 450) (by decide +kernel) rfl) (wm_in (i := 452) (by decide +kernel) rfl) (wm_in (i := 17) (by decide +kernel) rfl) (wm_in (i := 47) (by decide +kernel) rfl) (wm_in (i := 453) (by decide +kernel) rfl) ⟨by decide, by decide, by decide +kernel⟩ rfl hd rfl rfl hb hR0 hz rfl hst kk
theorem rc_S_152 {l : Launch} {g : GX} {M : MT} {R : Room} {TG : TGT} {XP : XPT} {n : Nat} {h h' : AH} {k sl : Nat} {pc : Nat} {lv : List (Nat × Value)} {st : List Value} {n' d' : Nat} {x : Value} {b : Nat} {fs : List Value} {a1 a2 : Value} (hM : M.1.cls = "ShareStore") (hd : decode M.2.1 pc = .ok (.invokevirtual 152, 3)) (hC : CE l g M_S_isStale d' 0 0 [.ref b, a1, a2] n h (some x) n' h') (hb : h b = some (.inr (4, fs))) (hR0 : d' + 1 ≤ R.frames ∧ 8 + (M_S_isStale.2.2.1 + 11) + 36 * d' ≤ R.locals) (hz : k ≤ R.cells ∧ sl ≤ R.slots) (hst : (st.map fun v => v.category).sum ≤ 8) (kk : RJ l g M R TG XP n' h' k sl (pc + 3) lv (x :: st)) : RJ l g M R TG XP n h k sl pc lv (a2 :: a1 :: .ref b :: st) := r_cV (M' := M_S_isStale) (np := 2) (ci := 4) hC (by rw [hM]; exact wm_in (i := 454) (by decide +kernel) rfl) (wm_in (i := 456) (by decide +kernel) rfl) (wm_in (i := 18) (by decide +kernel) rfl) (wm_in (i := 47) (by decide +kernel) rfl) (wm_in (i := 457) (by decide +kernel) rfl) ⟨by decide, by decide, by decide +kernel⟩ rfl hd rfl rfl hb hR0 hz rfl hst kk
theorem rc_S_251 {l : Launch} {g : GX} {M : MT} {R : Room} {TG : TGT} {XP : XPT} {n : Nat} {h h' : AH} {k sl : Nat} {pc : Nat} {lv : List (Nat × Value)} {st : List Value} {n' d' : Nat} {x : Value} {b : Nat} {fs : List Value} {a1 a2 a3 : Value} (hM : M.1.cls = "ShareStore") (hd : decode M.2.1 pc = .ok (.invokevirtual 251, 3)) (hC : CE l g M_S_chooseLeastSent d' 0 0 [.ref b, a1, a2, a3] n h (some x) n' h') (hb : h b = some (.inr (4, fs))) (hR0 : d' + 1 ≤ R.frames ∧ 8 + (M_S_chooseLeastSent.2.2.1 + 11) + 36 * d' ≤ R.locals) (hz : k ≤ R.cells ∧ sl ≤ R.slots) (hst : (st.map fun v => v.category).sum ≤ 8) (kk : RJ l g M R TG XP n' h' k sl (pc + 3) lv (x :: st)) : RJ l g M R TG XP n h k sl pc lv (a3 :: a2 :: a1 :: .ref b :: st) := r_cV (M' := M_S_chooseLeastSent) (np := 3) (ci := 4) hC (by rw [hM]; exact wm_in (i := 458) (by decide +kernel) rfl) (wm_in (i := 460) (by decide +kernel) rfl) (wm_in (i := 19) (by decide +kernel) rfl) (wm_in (i := 47) (by decide +kernel) rfl) (wm_in (i := 461) (by decide +kernel) rfl) ⟨by decide, by decide, by decide +kernel⟩ rfl hd rfl rfl hb hR0 hz rfl hst kk
theorem rc_S_149 {l : Launch} {g : GX} {M : MT} {R : Room} {TG : TGT} {XP : XPT} {n : Nat} {h h' : AH} {k sl : Nat} {pc : Nat} {lv : List (Nat × Value)} {st : List Value} {n' d' : Nat} {x : Value} {b : Nat} {fs : List Value} {a1 : Value} (hM : M.1.cls = "ShareStore") (hd : decode M.2.1 pc = .ok (.invokevirtual 149, 3)) (hC : CE l g M_S_lacksRoom d' 0 0 [.ref b, a1] n h (some x) n' h') (hb : h b = some (.inr (4, fs))) (hR0 : d' + 1 ≤ R.frames ∧ 8 + (M_S_lacksRoom.2.2.1 + 11) + 36 * d' ≤ R.locals) (hz : k ≤ R.cells ∧ sl ≤ R.slots) (hst : (st.map fun v => v.category).sum ≤ 8) (kk : RJ l g M R TG XP n' h' k sl (pc + 3) lv (x :: st)) : RJ l g M R TG XP n h k sl pc lv (a1 :: .ref b :: st) := r_cV (M' := M_S_lacksRoom) (np := 1) (ci := 4) hC (by rw [hM]; exact wm_in (i := 462) (by decide +kernel) rfl) (wm_in (i := 464) (by decide +kernel) rfl) (wm_in (i := 20) (by decide +kernel) rfl) (wm_in (i := 47) (by decide +kernel) rfl) (wm_in (i := 465) (by decide +kernel) rfl) ⟨by decide, by decide, by decide +kernel⟩ rfl hd rfl rfl hb hR0 hz rfl hst kk
theorem rc_S_155 {l : Launch} {g : GX} {M : MT} {R : Room} {TG : TGT} {XP : XPT} {n : Nat} {h h' : AH} {k sl : Nat} {pc : Nat} {lv : List (Nat × Value)} {st : List Value} {n' d' : Nat} {b : Nat} {fs : List Value} {a1 a2 a3 : Value} (hM : M.1.cls = "ShareStore") (hd : decode M.2.1 pc = .ok (.invokevirtual 155, 3)) (hC : CE l g M_S_renew d' 0 0 [.ref b, a1, a2, a3] n h none n' h') (hb : h b = some (.inr (4, fs))) (hR0 : d' + 1 ≤ R.frames ∧ 8 + (M_S_renew.2.2.1 + 11) + 36 * d' ≤ R.locals) (hz : k ≤ R.cells ∧ sl ≤ R.slots) (hst : (st.map fun v => v.category).sum ≤ 8) (kk : RJ l g M R TG XP n' h' k sl (pc + 3) lv st) : RJ l g M R TG XP n h k sl pc lv (a3 :: a2 :: a1 :: .ref b :: st) := r_cV (M' := M_S_renew) (np := 3) (ci := 4) hC (by rw [hM]; exact wm_in (i := 466) (by decide +kernel) rfl) (wm_in (i := 468) (by decide +kernel) rfl) (wm_in (i := 21) (by decide +kernel) rfl) (wm_in (i := 47) (by decide +kernel) rfl) (wm_in (i := 469) (by decide +kernel) rfl) ⟨by decide, by decide, by decide +kernel⟩ rfl hd rfl rfl hb hR0 hz rfl hst kk
theorem rc_S_255 {l : Launch} {g : GX} {M : MT} {R : Room} {TG : TGT} {XP : XPT} {n : Nat} {h h' : AH} {k sl : Nat} {pc : Nat} {lv : List (Nat × Value)} {st : List Value} {n' d' : Nat} {b : Nat} {fs : List Value} {a1 a2 a3 : Value} (hM : M.1.cls = "ShareStore") (hd : decode M.2.1 pc = .ok (.invokevirtual 255, 3)) (hC : CE l g M_S_repair d' 0 0 [.ref b, a1, a2, a3] n h none n' h') (hb : h b = some (.inr (4, fs))) (hR0 : d' + 1 ≤ R.frames ∧ 8 + (M_S_repair.2.2.1 + 11) + 36 * d' ≤ R.locals) (hz : k ≤ R.cells ∧ sl ≤ R.slots) (hst : (st.map fun v => v.category).sum ≤ 8) (kk : RJ l g M R TG XP n' h' k sl (pc + 3) lv st) : RJ l g M R TG XP n h k sl pc lv (a3 :: a2 :: a1 :: .ref b :: st) := r_cV (M' := M_S_repair) (np := 3) (ci := 4) hC (by rw [hM]; exact wm_in (i := 470) (by decide +kernel) rfl) (wm_in (i := 472) (by decide +kernel) rfl) (wm_in (i := 22) (by decide +kernel) rfl) (wm_in (i := 47) (by decide +kernel) rfl) (wm_in (i := 473) (by decide +kernel) rfl) ⟨by decide, by decide, by decide +kernel⟩ rfl hd rfl rfl hb hR0 hz rfl hst kk
theorem rc_S_179 {l : Launch} {g : GX} {M : MT} {R : Room} {TG : TGT} {XP : XPT} {n : Nat} {h h' : AH} {k sl : Nat} {pc : Nat} {lv : List (Nat × Value)} {st : List Value} {n' d' : Nat} {x : Value} {b : Nat} {fs : List Value} {a1 a2 a3 : Value} (hM : M.1.cls = "ShareStore") (hd : decode M.2.1 pc = .ok (.invokevirtual 179, 3)) (hC : CE l g M_S_symbolFrom d' 0 0 [.ref b, a1, a2, a3] n h (some x) n' h') (hb : h b = some (.inr (4, fs))) (hR0 : d' + 1 ≤ R.frames ∧ 8 + (M_S_symbolFrom.2.2.1 + 11) + 36 * d' ≤ R.locals) (hz : k ≤ R.cells ∧ sl ≤ R.slots) (hst : (st.map fun v => v.category).sum ≤ 8) (kk : RJ l g M R TG XP n' h' k sl (pc + 3) lv (x :: st)) : RJ l g M R TG XP n h k sl pc lv (a3 :: a2 :: a1 :: .ref b :: st) := r_cV (M' := M_S_symbolFrom) (np := 3) (ci := 4) hC (by rw [hM]; exact wm_in (i := 474) (by decide +kernel) rfl) (wm_in (i := 476) (by decide +kernel) rfl) (wm_in (i := 23) (by decide +kernel) rfl) (wm_in (i := 47) (by decide +kernel) rfl) (wm_in (i := 477) (by decide +kernel) rfl) ⟨by decide, by decide, by decide +kernel⟩ rfl hd rfl rfl hb hR0 hz rfl hst kk
theorem rc_S_176 {l : Launch} {g : GX} {M : MT} {R : Room} {TG : TGT} {XP : XPT} {n : Nat} {h h' : AH} {k sl : Nat} {pc : Nat} {lv : List (Nat × Value)} {st : List Value} {n' d' : Nat} {x : Value} {b : Nat} {fs : List Value} {a1 a2 : Value} (hM : M.1.cls = "ShareStore") (hd : decode M.2.1 pc = .ok (.invokevirtual 176, 3)) (hC : CE l g M_N_byteAt d' 0 0 [.ref b, a1, a2] n h (some x) n' h') (hb : h b = some (.inr (3, fs))) (hR0 : d' + 1 ≤ R.frames ∧ 8 + (M_N_byteAt.2.2.1 + 11) + 36 * d' ≤ R.locals) (hz : k ≤ R.cells ∧ sl ≤ R.slots) (hst : (st.map fun v => v.category).sum ≤ 8) (kk : RJ l g M R TG XP n' h' k sl (pc + 3) lv (x :: st)) : RJ l g M R TG XP n h k sl pc lv (a2 :: a1 :: .ref b :: st) := r_cV (M' := M_N_byteAt) (np := 2) (ci := 3) hC (by rw [hM]; exact wm_in (i := 478) (by decide +kernel) rfl) (wm_in (i := 388) (by decide +kernel) rfl) (wm_in (i := 389) (by decide +kernel) rfl) (wm_in (i := 50) (by decide +kernel) rfl) (wm_in (i := 390) (by decide +kernel) rfl) ⟨by decide, by decide, by decide +kernel⟩ rfl hd rfl rfl hb hR0 hz rfl hst kk
theorem rc_S_258 {l : Launch} {g : GX} {M : MT} {R : Room} {TG : TGT} {XP : XPT} {n : Nat} {h h' : AH} {k sl : Nat} {pc : Nat} {lv : List (Nat × Value)} {st : List Value} {n' d' : Nat} {b : Nat} {fs : List Value} {a1 : Value} (hM : M.1.cls = "ShareStore") (hd : decode M.2.1 pc = .ok (.invokevirtual 258, 3)) (hC : CE l g M_C_multiplyByInverse d' 0 0 [.ref b, a1] n h none n' h') (hb : h b = some (.inr (0, fs))) (hR0 : d' + 1 ≤ R.frames ∧ 8 + (M_C_multiplyByInverse.2.2.1 + 11) + 36 * d' ≤ R.locals) (hz : k ≤ R.cells ∧ sl ≤ R.slots) (hst : (st.map fun v => v.category).sum ≤ 8) (kk : RJ l g M R TG XP n' h' k sl (pc + 3) lv st) : RJ l g M R TG XP n h k sl pc lv (a1 :: .ref b :: st) := r_cV (M' := M_C_multiplyByInverse) (np := 1) (ci := 0) hC (by rw [hM]; exact wm_in (i := 479) (by decide +kernel) rfl) (wm_in (i := 480) (by decide +kernel) rfl) (wm_in (i := 481) (by decide +kernel) rfl) (wm_in (i := 48) (by decide +kernel) rfl) (wm_in (i := 482) (by decide +kernel) rfl) ⟨by decide, by decide, by decide +kernel⟩ rfl hd rfl rfl hb hR0 hz rfl hst kk
theorem rc_L_82 {l : Launch} {g : GX} {M : MT} {R : Room} {TG : TGT} {XP : XPT} {n : Nat} {h h' : AH} {k sl : Nat} {pc : Nat} {lv : List (Nat × Value)} {st : List Value} {n' d' : Nat} {x : Value} {b : Nat} {fs : List Value} {a1 a2 : Value} (hM : M.1.cls = "ShareStoreLaw") (hd : decode M.2.1 pc = .ok (.invokevirtual 82, 3)) (hC : CE l g M_S_fresh d' 0 0 [.ref b, a1, a2] n h (some x) n' h') (hb : h b = some (.inr (4, fs))) (hR0 : d' + 1 ≤ R.frames ∧ 8 + (M_S_fresh.2.2.1 + 11) + 36 * d' ≤ R.locals) (hz : k ≤ R.cells ∧ sl ≤ R.slots) (hst : (st.map fun v => v.category).sum ≤ 8) (kk : RJ l g M R TG XP n' h' k sl (pc + 3) lv (x :: st)) : RJ l g M R TG XP n h k sl pc lv (a2 :: a1 :: .ref b :: st) := r_cV (M' := M_S_fresh) (np := 2) (ci := 4) hC (by rw [hM]; exact wm_in (i := 483) (by decide +kernel) rfl) (wm_in (i := 484) (by decide +kernel) rfl) (wm_in (i := 485) (by decide +kernel) rfl) (wm_in (i := 47) (by decide +kernel) rfl) (wm_in (i := 486) (by decide +kernel) rfl) ⟨by decide, by decide, by decide +kernel⟩ rfl hd rfl rfl hb hR0 hz rfl hst kk
theorem rc_L_86 {l : Launch} {g : GX} {M : MT} {R : Room} {TG : TGT} {XP : XPT} {n : Nat} {h h' : AH} {k sl : Nat} {pc : Nat} {lv : List (Nat × Value)} {st : List Value} {n' d' : Nat} {x : Value} {b : Nat} {fs : List Value} {a1 : Value} (hM : M.1.cls = "ShareStoreLaw") (hd : decode M.2.1 pc = .ok (.invokevirtual 86, 3)) (hC : CE l g M_S_sent d' 0 0 [.ref b, a1] n h (some x) n' h') (hb : h b = some (.inr (4, fs))) (hR0 : d' + 1 ≤ R.frames ∧ 8 + (M_S_sent.2.2.1 + 11) + 36 * d' ≤ R.locals) (hz : k ≤ R.cells ∧ sl ≤ R.slots) (hst : (st.map fun v => v.category).sum ≤ 8) (kk : RJ l g M R TG XP n' h' k sl (pc + 3) lv (x :: st)) : RJ l g M R TG XP n h k sl pc lv (a1 :: .ref b :: st) := r_cV (M' := M_S_sent) (np := 1) (ci := 4) hC (by rw [hM]; exact wm_in (i := 487) (by decide +kernel) rfl) (wm_in (i := 488) (by decide +kernel) rfl) (wm_in (i := 489) (by decide +kernel) rfl) (wm_in (i := 47) (by decide +kernel) rfl) (wm_in (i := 490) (by decide +kernel) rfl) ⟨by decide, by decide, by decide +kernel⟩ rfl hd rfl rfl hb hR0 hz rfl hst kk
theorem rc_L_90 {l : Launch} {g : GX} {M : MT} {R : Room} {TG : TGT} {XP : XPT} {n : Nat} {h h' : AH} {k sl : Nat} {pc : Nat} {lv : List (Nat × Value)} {st : List Value} {n' d' : Nat} {x : Value} {b : Nat} {fs : List Value} {a1 : Value} (hM : M.1.cls = "ShareStoreLaw") (hd : decode M.2.1 pc = .ok (.invokevirtual 90, 3)) (hC : CE l g M_S_free d' 0 0 [.ref b, a1] n h (some x) n' h') (hb : h b = some (.inr (4, fs))) (hR0 : d' + 1 ≤ R.frames ∧ 8 + (M_S_free.2.2.1 + 11) + 36 * d' ≤ R.locals) (hz : k ≤ R.cells ∧ sl ≤ R.slots) (hst : (st.map fun v => v.category).sum ≤ 8) (kk : RJ l g M R TG XP n' h' k sl (pc + 3) lv (x :: st)) : RJ l g M R TG XP n h k sl pc lv (a1 :: .ref b :: st) := r_cV (M' := M_S_free) (np := 1) (ci := 4) hC (by rw [hM]; exact wm_in (i := 491) (by decide +kernel) rfl) (wm_in (i := 492) (by decide +kernel) rfl) (wm_in (i := 493) (by decide +kernel) rfl) (wm_in (i := 47) (by decide +kernel) rfl) (wm_in (i := 494) (by decide +kernel) rfl) ⟨by decide, by decide, by decide +kernel⟩ rfl hd rfl rfl hb hR0 hz rfl hst kk
theorem rc_L_94 {l : Launch} {g : GX} {M : MT} {R : Room} {TG : TGT} {XP : XPT} {n : Nat} {h h' : AH} {k sl : Nat} {pc : Nat} {lv : List (Nat × Value)} {st : List Value} {n' d' : Nat} {x : Value} {b : Nat} {fs : List Value} {a1 a2 a3 : Value} (hM : M.1.cls = "ShareStoreLaw") (hd : decode M.2.1 pc = .ok (.invokevirtual 94, 3)) (hC : CE l g M_S_record d' 0 0 [.ref b, a1, a2, a3] n h (some x) n' h') (hb : h b = some (.inr (4, fs))) (hR0 : d' + 1 ≤ R.frames ∧ 8 + (M_S_record.2.2.1 + 11) + 36 * d' ≤ R.locals) (hz : k ≤ R.cells ∧ sl ≤ R.slots) (hst : (st.map fun v => v.category).sum ≤ 8) (kk : RJ l g M R TG XP n' h' k sl (pc + 3) lv (x :: st)) : RJ l g M R TG XP n h k sl pc lv (a3 :: a2 :: a1 :: .ref b :: st) := r_cV (M' := M_S_record) (np := 3) (ci := 4) hC (by rw [hM]; exact wm_in (i := 495) (by decide +kernel) rfl) (wm_in (i := 496) (by decide +kernel) rfl) (wm_in (i := 497) (by decide +kernel) rfl) (wm_in (i := 47) (by decide +kernel) rfl) (wm_in (i := 498) (by decide +kernel) rfl) ⟨by decide, by decide, by decide +kernel⟩ rfl hd rfl rfl hb hR0 hz rfl hst kk
theorem rc_S_166 {l : Launch} {g : GX} {M : MT} {R : Room} {TG : TGT} {XP : XPT} {n : Nat} {h h' : AH} {k sl : Nat} {pc : Nat} {lv : List (Nat × Value)} {st : List Value} {n' d' : Nat} {x : Value} {a1 a2 a3 : Value} (hM : M.1.cls = "ShareStore") (hd : decode M.2.1 pc = .ok (.invokestatic 166, 3)) (hC : CE l g M_S_recordNumber d' 0 0 [a1, a2, a3] n h (some x) n' h') (hR0 : d' + 1 ≤ R.frames ∧ 8 + (M_S_recordNumber.2.2.1 + 11) + 36 * d' ≤ R.locals) (hz : k ≤ R.cells ∧ sl ≤ R.slots) (hst : (st.map fun v => v.category).sum ≤ 8) (kk : RJ l g M R TG XP n' h' k sl (pc + 3) lv (x :: st)) : RJ l g M R TG XP n h k sl pc lv (a3 :: a2 :: a1 :: st) := r_cS (M' := M_S_recordNumber) (np := 3) hC (by rw [hM]; exact wm_in (i := 499) (by decide +kernel) rfl) (wm_in (i := 500) (by decide +kernel) rfl) (by rw [hM]; exact wm_in (i := 47) (by decide +kernel) rfl) (wm_in (i := 501) (by decide +kernel) rfl) ⟨by rw [hM]; rfl, by decide, by decide, by decide +kernel⟩ rfl hd hR0 hz rfl hst kk
theorem rc_L_99 {l : Launch} {g : GX} {M : MT} {R : Room} {TG : TGT} {XP : XPT} {n : Nat} {h h' : AH} {k sl : Nat} {pc : Nat} {lv : List (Nat × Value)} {st : List Value} {n' d' : Nat} {x : Value} {b : Nat} {fs : List Value} {a1 a2 a3 a4 : Value} (hM : M.1.cls = "ShareStoreLaw") (hd : decode M.2.1 pc = .ok (.invokevirtual 99, 3)) (hC : CE l g M_S_block d' 0 0 [.ref b, a1, a2, a3, a4] n h (some x) n' h') (hb : h b = some (.inr (4, fs))) (hR0 : d' + 1 ≤ R.frames ∧ 8 + (M_S_block.2.2.1 + 11) + 36 * d' ≤ R.locals) (hz : k ≤ R.cells ∧ sl ≤ R.slots) (hst : (st.map fun v => v.category).sum ≤ 8) (kk : RJ l g M R TG XP n' h' k sl (pc + 3) lv (x :: st)) : RJ l g M R TG XP n h k sl pc lv (a4 :: a3 :: a2 :: a1 :: .ref b :: st) := r_cV (M' := M_S_block) (np := 4) (ci := 4) hC (by rw [hM]; exact wm_in (i := 502) (by decide +kernel) rfl) (wm_in (i := 503) (by decide +kernel) rfl) (wm_in (i := 504) (by decide +kernel) rfl) (wm_in (i := 47) (by decide +kernel) rfl) (wm_in (i := 505) (by decide +kernel) rfl) ⟨by decide, by decide, by decide +kernel⟩ rfl hd rfl rfl hb hR0 hz rfl hst kk
theorem rc_L_104 {l : Launch} {g : GX} {M : MT} {R : Room} {TG : TGT} {XP : XPT} {n : Nat} {h h' : AH} {k sl : Nat} {pc : Nat} {lv : List (Nat × Value)} {st : List Value} {n' d' : Nat} {x : Value} {b : Nat} {fs : List Value} {a1 a2 a3 : Value} (hM : M.1.cls = "ShareStoreLaw") (hd : decode M.2.1 pc = .ok (.invokevirtual 104, 3)) (hC : CE l g M_S_byteOf d' 0 0 [.ref b, a1, a2, a3] n h (some x) n' h') (hb : h b = some (.inr (4, fs))) (hR0 : d' + 1 ≤ R.frames ∧ 8 + (M_S_byteOf.2.2.1 + 11) + 36 * d' ≤ R.locals) (hz : k ≤ R.cells ∧ sl ≤ R.slots) (hst : (st.map fun v => v.category).sum ≤ 8) (kk : RJ l g M R TG XP n' h' k sl (pc + 3) lv (x :: st)) : RJ l g M R TG XP n h k sl pc lv (a3 :: a2 :: a1 :: .ref b :: st) := r_cV (M' := M_S_byteOf) (np := 3) (ci := 4) hC (by rw [hM]; exact wm_in (i := 506) (by decide +kernel) rfl) (wm_in (i := 507) (by decide +kernel) rfl) (wm_in (i := 508) (by decide +kernel) rfl) (wm_in (i := 47) (by decide +kernel) rfl) (wm_in (i := 509) (by decide +kernel) rfl) ⟨by decide, by decide, by decide +kernel⟩ rfl hd rfl rfl hb hR0 hz rfl hst kk
theorem rc_L_108 {l : Launch} {g : GX} {M : MT} {R : Room} {TG : TGT} {XP : XPT} {n : Nat} {h h' : AH} {k sl : Nat} {pc : Nat} {lv : List (Nat × Value)} {st : List Value} {n' d' : Nat} {x : Value} {b : Nat} {fs : List Value} {a1 a2 a3 a4 : Value} (hM : M.1.cls = "ShareStoreLaw") (hd : decode M.2.1 pc = .ok (.invokevirtual 108, 3)) (hC : CE l g M_S_symbol d' 0 0 [.ref b, a1, a2, a3, a4] n h (some x) n' h') (hb : h b = some (.inr (4, fs))) (hR0 : d' + 1 ≤ R.frames ∧ 8 + (M_S_symbol.2.2.1 + 11) + 36 * d' ≤ R.locals) (hz : k ≤ R.cells ∧ sl ≤ R.slots) (hst : (st.map fun v => v.category).sum ≤ 8) (kk : RJ l g M R TG XP n' h' k sl (pc + 3) lv (x :: st)) : RJ l g M R TG XP n h k sl pc lv (a4 :: a3 :: a2 :: a1 :: .ref b :: st) := r_cV (M' := M_S_symbol) (np := 4) (ci := 4) hC (by rw [hM]; exact wm_in (i := 510) (by decide +kernel) rfl) (wm_in (i := 511) (by decide +kernel) rfl) (wm_in (i := 512) (by decide +kernel) rfl) (wm_in (i := 47) (by decide +kernel) rfl) (wm_in (i := 513) (by decide +kernel) rfl) ⟨by decide, by decide, by decide +kernel⟩ rfl hd rfl rfl hb hR0 hz rfl hst kk
theorem rc_L_113 {l : Launch} {g : GX} {M : MT} {R : Room} {TG : TGT} {XP : XPT} {n : Nat} {h h' : AH} {k sl : Nat} {pc : Nat} {lv : List (Nat × Value)} {st : List Value} {n' d' : Nat} {x : Value} {b : Nat} {fs : List Value} {a1 : Value} (hM : M.1.cls = "ShareStoreLaw") (hd : decode M.2.1 pc = .ok (.invokevirtual 113, 3)) (hC : CE l g M_S_count d' 0 0 [.ref b, a1] n h (some x) n' h') (hb : h b = some (.inr (4, fs))) (hR0 : d' + 1 ≤ R.frames ∧ 8 + (M_S_count.2.2.1 + 11) + 36 * d' ≤ R.locals) (hz : k ≤ R.cells ∧ sl ≤ R.slots) (hst : (st.map fun v => v.category).sum ≤ 8) (kk : RJ l g M R TG XP n' h' k sl (pc + 3) lv (x :: st)) : RJ l g M R TG XP n h k sl pc lv (a1 :: .ref b :: st) := r_cV (M' := M_S_count) (np := 1) (ci := 4) hC (by rw [hM]; exact wm_in (i := 514) (by decide +kernel) rfl) (wm_in (i := 515) (by decide +kernel) rfl) (wm_in (i := 516) (by decide +kernel) rfl) (wm_in (i := 47) (by decide +kernel) rfl) (wm_in (i := 517) (by decide +kernel) rfl) ⟨by decide, by decide, by decide +kernel⟩ rfl hd rfl rfl hb hR0 hz rfl hst kk
theorem rc_S_182 {l : Launch} {g : GX} {M : MT} {R : Room} {TG : TGT} {XP : XPT} {n : Nat} {h h' : AH} {k sl : Nat} {pc : Nat} {lv : List (Nat × Value)} {st : List Value} {n' d' : Nat} {x : Value} {b : Nat} {fs : List Value} (hM : M.1.cls = "ShareStore") (hd : decode M.2.1 pc = .ok (.invokevirtual 182, 3)) (hC : CE l g M_S_openObjects d' 0 0 [.ref b] n h (some x) n' h') (hb : h b = some (.inr (4, fs))) (hR0 : d' + 1 ≤ R.frames ∧ 8 + (M_S_openObjects.2.2.1 + 11) + 36 * d' ≤ R.locals) (hz : k ≤ R.cells ∧ sl ≤ R.slots) (hst : (st.map fun v => v.category).sum ≤ 8) (kk : RJ l g M R TG XP n' h' k sl (pc + 3) lv (x :: st)) : RJ l g M R TG XP n h k sl pc lv (.ref b :: st) := r_cV (M' := M_S_openObjects) (np := 0) (ci := 4) hC (by rw [hM]; exact wm_in (i := 518) (by decide +kernel) rfl) (wm_in (i := 520) (by decide +kernel) rfl) (wm_in (i := 24) (by decide +kernel) rfl) (wm_in (i := 47) (by decide +kernel) rfl) (wm_in (i := 521) (by decide +kernel) rfl) ⟨by decide, by decide, by decide +kernel⟩ rfl hd rfl rfl hb hR0 hz rfl hst kk
theorem rc_L_117 {l : Launch} {g : GX} {M : MT} {R : Room} {TG : TGT} {XP : XPT} {n : Nat} {h h' : AH} {k sl : Nat} {pc : Nat} {lv : List (Nat × Value)} {st : List Value} {n' d' : Nat} {x : Value} {b : Nat} {fs : List Value} (hM : M.1.cls = "ShareStoreLaw") (hd : decode M.2.1 pc = .ok (.invokevirtual 117, 3)) (hC : CE l g M_S_digest d' 0 0 [.ref b] n h (some x) n' h') (hb : h b = some (.inr (4, fs))) (hR0 : d' + 1 ≤ R.frames ∧ 8 + (M_S_digest.2.2.1 + 11) + 36 * d' ≤ R.locals) (hz : k ≤ R.cells ∧ sl ≤ R.slots) (hst : (st.map fun v => v.category).sum ≤ 8) (kk : RJ l g M R TG XP n' h' k sl (pc + 3) lv (x :: st)) : RJ l g M R TG XP n h k sl pc lv (.ref b :: st) := r_cV (M' := M_S_digest) (np := 0) (ci := 4) hC (by rw [hM]; exact wm_in (i := 522) (by decide +kernel) rfl) (wm_in (i := 523) (by decide +kernel) rfl) (wm_in (i := 524) (by decide +kernel) rfl) (wm_in (i := 47) (by decide +kernel) rfl) (wm_in (i := 525) (by decide +kernel) rfl) ⟨by decide, by decide, by decide +kernel⟩ rfl hd rfl rfl hb hR0 hz rfl hst kk
theorem rc_S_189 {l : Launch} {g : GX} {M : MT} {R : Room} {TG : TGT} {XP : XPT} {n : Nat} {h h' : AH} {k sl : Nat} {pc : Nat} {lv : List (Nat × Value)} {st : List Value} {n' d' : Nat} {x : Value} {a1 a2 a3 : Value} (hM : M.1.cls = "ShareStore") (hd : decode M.2.1 pc = .ok (.invokestatic 189, 3)) (hC : CE l g M_S_digestOfRecord d' 0 0 [a1, a2, a3] n h (some x) n' h') (hR0 : d' + 1 ≤ R.frames ∧ 8 + (M_S_digestOfRecord.2.2.1 + 11) + 36 * d' ≤ R.locals) (hz : k ≤ R.cells ∧ sl ≤ R.slots) (hst : (st.map fun v => v.category).sum ≤ 8) (kk : RJ l g M R TG XP n' h' k sl (pc + 3) lv (x :: st)) : RJ l g M R TG XP n h k sl pc lv (a3 :: a2 :: a1 :: st) := r_cS (M' := M_S_digestOfRecord) (np := 3) hC (by rw [hM]; exact wm_in (i := 528) (by decide +kernel) rfl) (wm_in (i := 529) (by decide +kernel) rfl) (by rw [hM]; exact wm_in (i := 47) (by decide +kernel) rfl) (wm_in (i := 530) (by decide +kernel) rfl) ⟨by rw [hM]; rfl, by decide, by decide, by decide +kernel⟩ rfl hd hR0 hz rfl hst kk
theorem rc_L_122 {l : Launch} {g : GX} {M : MT} {R : Room} {TG : TGT} {XP : XPT} {n : Nat} {h h' : AH} {k sl : Nat} {pc : Nat} {lv : List (Nat × Value)} {st : List Value} {n' d' : Nat} {x : Value} {b : Nat} {fs : List Value} (hM : M.1.cls = "ShareStoreLaw") (hd : decode M.2.1 pc = .ok (.invokevirtual 122, 3)) (hC : CE l g M_S_clear d' 0 0 [.ref b] n h (some x) n' h') (hb : h b = some (.inr (4, fs))) (hR0 : d' + 1 ≤ R.frames ∧ 8 + (M_S_clear.2.2.1 + 11) + 36 * d' ≤ R.locals) (hz : k ≤ R.cells ∧ sl ≤ R.slots) (hst : (st.map fun v => v.category).sum ≤ 8) (kk : RJ l g M R TG XP n' h' k sl (pc + 3) lv (x :: st)) : RJ l g M R TG XP n h k sl pc lv (.ref b :: st) := r_cV (M' := M_S_clear) (np := 0) (ci := 4) hC (by rw [hM]; exact wm_in (i := 531) (by decide +kernel) rfl) (wm_in (i := 532) (by decide +kernel) rfl) (wm_in (i := 533) (by decide +kernel) rfl) (wm_in (i := 47) (by decide +kernel) rfl) (wm_in (i := 534) (by decide +kernel) rfl) ⟨by decide, by decide, by decide +kernel⟩ rfl hd rfl rfl hb hR0 hz rfl hst kk
theorem rc_L_17 {l : Launch} {g : GX} {M : MT} {R : Room} {TG : TGT} {XP : XPT} {n : Nat} {h h' : AH} {k sl : Nat} {pc : Nat} {lv : List (Nat × Value)} {st : List Value} {n' d' : Nat} {x : Value} {b : Nat} {fs : List Value} {a1 a2 : Value} (hM : M.1.cls = "ShareStoreLaw") (hd : decode M.2.1 pc = .ok (.invokevirtual 17, 3)) (hC : CE l g M_M_times d' 0 0 [.ref b, a1, a2] n h (some x) n' h') (hb : h b = some (.inr (5, fs))) (hR0 : d' + 1 ≤ R.frames ∧ 8 + (M_M_times.2.2.1 + 11) + 36 * d' ≤ R.locals) (hz : k ≤ R.cells ∧ sl ≤ R.slots) (hst : (st.map fun v => v.category).sum ≤ 8) (kk : RJ l g M R TG XP n' h' k sl (pc + 3) lv (x :: st)) : RJ l g M R TG XP n h k sl pc lv (a2 :: a1 :: .ref b :: st) := r_cV (M' := M_M_times) (np := 2) (ci := 5) hC (by rw [hM]; exact wm_in (i := 602) (by decide +kernel) rfl) (wm_in (i := 603) (by decide +kernel) rfl) (wm_in (i := 604) (by decide +kernel) rfl) (wm_in (i := 52) (by decide +kernel) rfl) (wm_in (i := 605) (by decide +kernel) rfl) ⟨by decide, by decide, by decide +kernel⟩ rfl hd rfl rfl hb hR0 hz rfl hst kk
theorem rc_M_60 {l : Launch} {g : GX} {M : MT} {R : Room} {TG : TGT} {XP : XPT} {n : Nat} {h h' : AH} {k sl : Nat} {pc : Nat} {lv : List (Nat × Value)} {st : List Value} {n' d' : Nat} {x : Value} {a1 a2 a3 : Value} (hM : M.1.cls = "ShareStoreModel") (hd : decode M.2.1 pc = .ok (.invokestatic 60, 3)) (hC : CE l g M_M_in d' 0 0 [a1, a2, a3] n h (some x) n' h') (hR0 : d' + 1 ≤ R.frames ∧ 8 + (M_M_in.2.2.1 + 11) + 36 * d' ≤ R.locals) (hz : k ≤ R.cells ∧ sl ≤ R.slots) (hst : (st.map fun v => v.category).sum ≤ 8) (kk : RJ l g M R TG XP n' h' k sl (pc + 3) lv (x :: st)) : RJ l g M R TG XP n h k sl pc lv (a3 :: a2 :: a1 :: st) := r_cS (M' := M_M_in) (np := 3) hC (by rw [hM]; exact wm_in (i := 606) (by decide +kernel) rfl) (wm_in (i := 607) (by decide +kernel) rfl) (by rw [hM]; exact wm_in (i := 52) (by decide +kernel) rfl) (wm_in (i := 608) (by decide +kernel) rfl) ⟨by rw [hM]; rfl, by decide, by decide, by decide +kernel⟩ rfl hd hR0 hz rfl hst kk
theorem rc_M_64 {l : Launch} {g : GX} {M : MT} {R : Room} {TG : TGT} {XP : XPT} {n : Nat} {h h' : AH} {k sl : Nat} {pc : Nat} {lv : List (Nat × Value)} {st : List Value} {n' d' : Nat} {x : Value} {a1 a2 : Value} (hM : M.1.cls = "ShareStoreModel") (hd : decode M.2.1 pc = .ok (.invokestatic 64, 3)) (hC : CE l g M_M_product d' 0 0 [a1, a2] n h (some x) n' h') (hR0 : d' + 1 ≤ R.frames ∧ 8 + (M_M_product.2.2.1 + 11) + 36 * d' ≤ R.locals) (hz : k ≤ R.cells ∧ sl ≤ R.slots) (hst : (st.map fun v => v.category).sum ≤ 8) (kk : RJ l g M R TG XP n' h' k sl (pc + 3) lv (x :: st)) : RJ l g M R TG XP n h k sl pc lv (a2 :: a1 :: st) := r_cS (M' := M_M_product) (np := 2) hC (by rw [hM]; exact wm_in (i := 609) (by decide +kernel) rfl) (wm_in (i := 610) (by decide +kernel) rfl) (by rw [hM]; exact wm_in (i := 52) (by decide +kernel) rfl) (wm_in (i := 611) (by decide +kernel) rfl) ⟨by rw [hM]; rfl, by decide, by decide, by decide +kernel⟩ rfl hd hR0 hz rfl hst kk
theorem rc_L_21 {l : Launch} {g : GX} {M : MT} {R : Room} {TG : TGT} {XP : XPT} {n : Nat} {h h' : AH} {k sl : Nat} {pc : Nat} {lv : List (Nat × Value)} {st : List Value} {n' d' : Nat} {x : Value} {b : Nat} {fs : List Value} {a1 a2 : Value} (hM : M.1.cls = "ShareStoreLaw") (hd : decode M.2.1 pc = .ok (.invokevirtual 21, 3)) (hC : CE l g M_M_over d' 0 0 [.ref b, a1, a2] n h (some x) n' h') (hb : h b = some (.inr (5, fs))) (hR0 : d' + 1 ≤ R.frames ∧ 8 + (M_M_over.2.2.1 + 11) + 36 * d' ≤ R.locals) (hz : k ≤ R.cells ∧ sl ≤ R.slots) (hst : (st.map fun v => v.category).sum ≤ 8) (kk : RJ l g M R TG XP n' h' k sl (pc + 3) lv (x :: st)) : RJ l g M R TG XP n h k sl pc lv (a2 :: a1 :: .ref b :: st) := r_cV (M' := M_M_over) (np := 2) (ci := 5) hC (by rw [hM]; exact wm_in (i := 612) (by decide +kernel) rfl) (wm_in (i := 613) (by decide +kernel) rfl) (wm_in (i := 614) (by decide +kernel) rfl) (wm_in (i := 52) (by decide +kernel) rfl) (wm_in (i := 615) (by decide +kernel) rfl) ⟨by decide, by decide, by decide +kernel⟩ rfl hd rfl rfl hb hR0 hz rfl hst kk
theorem rc_M_68 {l : Launch} {g : GX} {M : MT} {R : Room} {TG : TGT} {XP : XPT} {n : Nat} {h h' : AH} {k sl : Nat} {pc : Nat} {lv : List (Nat × Value)} {st : List Value} {n' d' : Nat} {x : Value} {a1 : Value} (hM : M.1.cls = "ShareStoreModel") (hd : decode M.2.1 pc = .ok (.invokestatic 68, 3)) (hC : CE l g M_M_inverse d' 0 0 [a1] n h (some x) n' h') (hR0 : d' + 1 ≤ R.frames ∧ 8 + (M_M_inverse.2.2.1 + 11) + 36 * d' ≤ R.locals) (hz : k ≤ R.cells ∧ sl ≤ R.slots) (hst : (st.map fun v => v.category).sum ≤ 8) (kk : RJ l g M R TG XP n' h' k sl (pc + 3) lv (x :: st)) : RJ l g M R TG XP n h k sl pc lv (a1 :: st) := r_cS (M' := M_M_inverse) (np := 1) hC (by rw [hM]; exact wm_in (i := 616) (by decide +kernel) rfl) (wm_in (i := 617) (by decide +kernel) rfl) (by rw [hM]; exact wm_in (i := 52) (by decide +kernel) rfl) (wm_in (i := 618) (by decide +kernel) rfl) ⟨by rw [hM]; rfl, by decide, by decide, by decide +kernel⟩ rfl hd hR0 hz rfl hst kk
theorem rc_L_25 {l : Launch} {g : GX} {M : MT} {R : Room} {TG : TGT} {XP : XPT} {n : Nat} {h h' : AH} {k sl : Nat} {pc : Nat} {lv : List (Nat × Value)} {st : List Value} {n' d' : Nat} {x : Value} {b : Nat} {fs : List Value} {a1 a2 : Value} (hM : M.1.cls = "ShareStoreLaw") (hd : decode M.2.1 pc = .ok (.invokevirtual 25, 3)) (hC : CE l g M_M_rowAt d' 0 0 [.ref b, a1, a2] n h (some x) n' h') (hb : h b = some (.inr (5, fs))) (hR0 : d' + 1 ≤ R.frames ∧ 8 + (M_M_rowAt.2.2.1 + 11) + 36 * d' ≤ R.locals) (hz : k ≤ R.cells ∧ sl ≤ R.slots) (hst : (st.map fun v => v.category).sum ≤ 8) (kk : RJ l g M R TG XP n' h' k sl (pc + 3) lv (x :: st)) : RJ l g M R TG XP n h k sl pc lv (a2 :: a1 :: .ref b :: st) := r_cV (M' := M_M_rowAt) (np := 2) (ci := 5) hC (by rw [hM]; exact wm_in (i := 619) (by decide +kernel) rfl) (wm_in (i := 620) (by decide +kernel) rfl) (wm_in (i := 621) (by decide +kernel) rfl) (wm_in (i := 52) (by decide +kernel) rfl) (wm_in (i := 622) (by decide +kernel) rfl) ⟨by decide, by decide, by decide +kernel⟩ rfl hd rfl rfl hb hR0 hz rfl hst kk
theorem rc_M_72 {l : Launch} {g : GX} {M : MT} {R : Room} {TG : TGT} {XP : XPT} {n : Nat} {h h' : AH} {k sl : Nat} {pc : Nat} {lv : List (Nat × Value)} {st : List Value} {n' d' : Nat} {x : Value} {a1 : Value} (hM : M.1.cls = "ShareStoreModel") (hd : decode M.2.1 pc = .ok (.invokestatic 72, 3)) (hC : CE l g M_M_isNode d' 0 0 [a1] n h (some x) n' h') (hR0 : d' + 1 ≤ R.frames ∧ 8 + (M_M_isNode.2.2.1 + 11) + 36 * d' ≤ R.locals) (hz : k ≤ R.cells ∧ sl ≤ R.slots) (hst : (st.map fun v => v.category).sum ≤ 8) (kk : RJ l g M R TG XP n' h' k sl (pc + 3) lv (x :: st)) : RJ l g M R TG XP n h k sl pc lv (a1 :: st) := r_cS (M' := M_M_isNode) (np := 1) hC (by rw [hM]; exact wm_in (i := 623) (by decide +kernel) rfl) (wm_in (i := 624) (by decide +kernel) rfl) (by rw [hM]; exact wm_in (i := 52) (by decide +kernel) rfl) (wm_in (i := 625) (by decide +kernel) rfl) ⟨by rw [hM]; rfl, by decide, by decide, by decide +kernel⟩ rfl hd hR0 hz rfl hst kk
theorem rc_M_76 {l : Launch} {g : GX} {M : MT} {R : Room} {TG : TGT} {XP : XPT} {n : Nat} {h h' : AH} {k sl : Nat} {pc : Nat} {lv : List (Nat × Value)} {st : List Value} {n' d' : Nat} {x : Value} {a1 a2 : Value} (hM : M.1.cls = "ShareStoreModel") (hd : decode M.2.1 pc = .ok (.invokestatic 76, 3)) (hC : CE l g M_M_row d' 0 0 [a1, a2] n h (some x) n' h') (hR0 : d' + 1 ≤ R.frames ∧ 8 + (M_M_row.2.2.1 + 11) + 36 * d' ≤ R.locals) (hz : k ≤ R.cells ∧ sl ≤ R.slots) (hst : (st.map fun v => v.category).sum ≤ 8) (kk : RJ l g M R TG XP n' h' k sl (pc + 3) lv (x :: st)) : RJ l g M R TG XP n h k sl pc lv (a2 :: a1 :: st) := r_cS (M' := M_M_row) (np := 2) hC (by rw [hM]; exact wm_in (i := 626) (by decide +kernel) rfl) (wm_in (i := 627) (by decide +kernel) rfl) (by rw [hM]; exact wm_in (i := 52) (by decide +kernel) rfl) (wm_in (i := 628) (by decide +kernel) rfl) ⟨by rw [hM]; rfl, by decide, by decide, by decide +kernel⟩ rfl hd hR0 hz rfl hst kk
theorem rc_L_32 {l : Launch} {g : GX} {M : MT} {R : Room} {TG : TGT} {XP : XPT} {n : Nat} {h h' : AH} {k sl : Nat} {pc : Nat} {lv : List (Nat × Value)} {st : List Value} {n' d' : Nat} {x : Value} {b : Nat} {fs : List Value} {a1 a2 : Value} (hM : M.1.cls = "ShareStoreLaw") (hd : decode M.2.1 pc = .ok (.invokevirtual 32, 3)) (hC : CE l g M_M_feed d' 0 0 [.ref b, a1, a2] n h (some x) n' h') (hb : h b = some (.inr (5, fs))) (hR0 : d' + 1 ≤ R.frames ∧ 8 + (M_M_feed.2.2.1 + 11) + 36 * d' ≤ R.locals) (hz : k ≤ R.cells ∧ sl ≤ R.slots) (hst : (st.map fun v => v.category).sum ≤ 8) (kk : RJ l g M R TG XP n' h' k sl (pc + 3) lv (x :: st)) : RJ l g M R TG XP n h k sl pc lv (a2 :: a1 :: .ref b :: st) := r_cV (M' := M_M_feed) (np := 2) (ci := 5) hC (by rw [hM]; exact wm_in (i := 629) (by decide +kernel) rfl) (wm_in (i := 630) (by decide +kernel) rfl) (wm_in (i := 631) (by decide +kernel) rfl) (wm_in (i := 52) (by decide +kernel) rfl) (wm_in (i := 632) (by decide +kernel) rfl) ⟨by decide, by decide, by decide +kernel⟩ rfl hd rfl rfl hb hR0 hz rfl hst kk
theorem rc_L_37 {l : Launch} {g : GX} {M : MT} {R : Room} {TG : TGT} {XP : XPT} {n : Nat} {h h' : AH} {k sl : Nat} {pc : Nat} {lv : List (Nat × Value)} {st : List Value} {n' d' : Nat} {x : Value} {b : Nat} {fs : List Value} {a1 : Value} (hM : M.1.cls = "ShareStoreLaw") (hd : decode M.2.1 pc = .ok (.invokevirtual 37, 3)) (hC : CE l g M_M_cut d' 0 0 [.ref b, a1] n h (some x) n' h') (hb : h b = some (.inr (5, fs))) (hR0 : d' + 1 ≤ R.frames ∧ 8 + (M_M_cut.2.2.1 + 11) + 36 * d' ≤ R.locals) (hz : k ≤ R.cells ∧ sl ≤ R.slots) (hst : (st.map fun v => v.category).sum ≤ 8) (kk : RJ l g M R TG XP n' h' k sl (pc + 3) lv (x :: st)) : RJ l g M R TG XP n h k sl pc lv (a1 :: .ref b :: st) := r_cV (M' := M_M_cut) (np := 1) (ci := 5) hC (by rw [hM]; exact wm_in (i := 633) (by decide +kernel) rfl) (wm_in (i := 634) (by decide +kernel) rfl) (wm_in (i := 635) (by decide +kernel) rfl) (wm_in (i := 52) (by decide +kernel) rfl) (wm_in (i := 636) (by decide +kernel) rfl) ⟨by decide, by decide, by decide +kernel⟩ rfl hd rfl rfl hb hR0 hz rfl hst kk
theorem rc_L_41 {l : Launch} {g : GX} {M : MT} {R : Room} {TG : TGT} {XP : XPT} {n : Nat} {h h' : AH} {k sl : Nat} {pc : Nat} {lv : List (Nat × Value)} {st : List Value} {n' d' : Nat} {x : Value} {b : Nat} {fs : List Value} {a1 : Value} (hM : M.1.cls = "ShareStoreLaw") (hd : decode M.2.1 pc = .ok (.invokevirtual 41, 3)) (hC : CE l g M_M_put d' 0 0 [.ref b, a1] n h (some x) n' h') (hb : h b = some (.inr (5, fs))) (hR0 : d' + 1 ≤ R.frames ∧ 8 + (M_M_put.2.2.1 + 11) + 36 * d' ≤ R.locals) (hz : k ≤ R.cells ∧ sl ≤ R.slots) (hst : (st.map fun v => v.category).sum ≤ 8) (kk : RJ l g M R TG XP n' h' k sl (pc + 3) lv (x :: st)) : RJ l g M R TG XP n h k sl pc lv (a1 :: .ref b :: st) := r_cV (M' := M_M_put) (np := 1) (ci := 5) hC (by rw [hM]; exact wm_in (i := 637) (by decide +kernel) rfl) (wm_in (i := 638) (by decide +kernel) rfl) (wm_in (i := 639) (by decide +kernel) rfl) (wm_in (i := 52) (by decide +kernel) rfl) (wm_in (i := 640) (by decide +kernel) rfl) ⟨by decide, by decide, by decide +kernel⟩ rfl hd rfl rfl hb hR0 hz rfl hst kk
theorem rc_M_128 {l : Launch} {g : GX} {M : MT} {R : Room} {TG : TGT} {XP : XPT} {n : Nat} {h h' : AH} {k sl : Nat} {pc : Nat} {lv : List (Nat × Value)} {st : List Value} {n' d' : Nat} {x : Value} {b : Nat} {fs : List Value} {a1 : Value} (hM : M.1.cls = "ShareStoreModel") (hd : decode M.2.1 pc = .ok (.invokevirtual 128, 3)) (hC : CE l g M_M_refused d' 0 0 [.ref b, a1] n h (some x) n' h') (hb : h b = some (.inr (5, fs))) (hR0 : d' + 1 ≤ R.frames ∧ 8 + (M_M_refused.2.2.1 + 11) + 36 * d' ≤ R.locals) (hz : k ≤ R.cells ∧ sl ≤ R.slots) (hst : (st.map fun v => v.category).sum ≤ 8) (kk : RJ l g M R TG XP n' h' k sl (pc + 3) lv (x :: st)) : RJ l g M R TG XP n h k sl pc lv (a1 :: .ref b :: st) := r_cV (M' := M_M_refused) (np := 1) (ci := 5) hC (by rw [hM]; exact wm_in (i := 641) (by decide +kernel) rfl) (wm_in (i := 643) (by decide +kernel) rfl) (wm_in (i := 25) (by decide +kernel) rfl) (wm_in (i := 52) (by decide +kernel) rfl) (wm_in (i := 644) (by decide +kernel) rfl) ⟨by decide, by decide, by decide +kernel⟩ rfl hd rfl rfl hb hR0 hz rfl hst kk
theorem rc_M_125 {l : Launch} {g : GX} {M : MT} {R : Room} {TG : TGT} {XP : XPT} {n : Nat} {h h' : AH} {k sl : Nat} {pc : Nat} {lv : List (Nat × Value)} {st : List Value} {n' d' : Nat} {x : Value} {a1 : Value} (hM : M.1.cls = "ShareStoreModel") (hd : decode M.2.1 pc = .ok (.invokestatic 125, 3)) (hC : CE l g M_M_isObject d' 0 0 [a1] n h (some x) n' h') (hR0 : d' + 1 ≤ R.frames ∧ 8 + (M_M_isObject.2.2.1 + 11) + 36 * d' ≤ R.locals) (hz : k ≤ R.cells ∧ sl ≤ R.slots) (hst : (st.map fun v => v.category).sum ≤ 8) (kk : RJ l g M R TG XP n' h' k sl (pc + 3) lv (x :: st)) : RJ l g M R TG XP n h k sl pc lv (a1 :: st) := r_cS (M' := M_M_isObject) (np := 1) hC (by rw [hM]; exact wm_in (i := 645) (by decide +kernel) rfl) (wm_in (i := 646) (by decide +kernel) rfl) (by rw [hM]; exact wm_in (i := 52) (by decide +kernel) rfl) (wm_in (i := 647) (by decide +kernel) rfl) ⟨by rw [hM]; rfl, by decide, by decide, by decide +kernel⟩ rfl hd hR0 hz rfl hst kk
theorem rc_M_107 {l : Launch} {g : GX} {M : MT} {R : Room} {TG : TGT} {XP : XPT} {n : Nat} {h h' : AH} {k sl : Nat} {pc : Nat} {lv : List (Nat × Value)} {st : List Value} {n' d' : Nat} {x : Value} {b : Nat} {fs : List Value} (hM : M.1.cls = "ShareStoreModel") (hd : decode M.2.1 pc = .ok (.invokevirtual 107, 3)) (hC : CE l g M_M_live d' 0 0 [.ref b] n h (some x) n' h') (hb : h b = some (.inr (5, fs))) (hR0 : d' + 1 ≤ R.frames ∧ 8 + (M_M_live.2.2.1 + 11) + 36 * d' ≤ R.locals) (hz : k ≤ R.cells ∧ sl ≤ R.slots) (hst : (st.map fun v => v.category).sum ≤ 8) (kk : RJ l g M R TG XP n' h' k sl (pc + 3) lv (x :: st)) : RJ l g M R TG XP n h k sl pc lv (.ref b :: st) := r_cV (M' := M_M_live) (np := 0) (ci := 5) hC (by rw [hM]; exact wm_in (i := 648) (by decide +kernel) rfl) (wm_in (i := 650) (by decide +kernel) rfl) (wm_in (i := 26) (by decide +kernel) rfl) (wm_in (i := 52) (by decide +kernel) rfl) (wm_in (i := 651) (by decide +kernel) rfl) ⟨by decide, by decide, by decide +kernel⟩ rfl hd rfl rfl hb hR0 hz rfl hst kk
theorem rc_M_131 {l : Launch} {g : GX} {M : MT} {R : Room} {TG : TGT} {XP : XPT} {n : Nat} {h h' : AH} {k sl : Nat} {pc : Nat} {lv : List (Nat × Value)} {st : List Value} {n' d' : Nat} {x : Value} {b : Nat} {fs : List Value} {a1 : Value} (hM : M.1.cls = "ShareStoreModel") (hd : decode M.2.1 pc = .ok (.invokevirtual 131, 3)) (hC : CE l g M_M_usedBy d' 0 0 [.ref b, a1] n h (some x) n' h') (hb : h b = some (.inr (5, fs))) (hR0 : d' + 1 ≤ R.frames ∧ 8 + (M_M_usedBy.2.2.1 + 11) + 36 * d' ≤ R.locals) (hz : k ≤ R.cells ∧ sl ≤ R.slots) (hst : (st.map fun v => v.category).sum ≤ 8) (kk : RJ l g M R TG XP n' h' k sl (pc + 3) lv (x :: st)) : RJ l g M R TG XP n h k sl pc lv (a1 :: .ref b :: st) := r_cV (M' := M_M_usedBy) (np := 1) (ci := 5) hC (by rw [hM]; exact wm_in (i := 652) (by decide +kernel) rfl) (wm_in (i := 654) (by decide +kernel) rfl) (wm_in (i := 27) (by decide +kernel) rfl) (wm_in (i := 52) (by decide +kernel) rfl) (wm_in (i := 655) (by decide +kernel) rfl) ⟨by decide, by decide, by decide +kernel⟩ rfl hd rfl rfl hb hR0 hz rfl hst kk
theorem rc_M_83 {l : Launch} {g : GX} {M : MT} {R : Room} {TG : TGT} {XP : XPT} {n : Nat} {h h' : AH} {k sl : Nat} {pc : Nat} {lv : List (Nat × Value)} {st : List Value} {n' d' : Nat} {x : Value} {a1 : Value} (hM : M.1.cls = "ShareStoreModel") (hd : decode M.2.1 pc = .ok (.invokestatic 83, 3)) (hC : CE l g M_M_stripes d' 0 0 [a1] n h (some x) n' h') (hR0 : d' + 1 ≤ R.frames ∧ 8 + (M_M_stripes.2.2.1 + 11) + 36 * d' ≤ R.locals) (hz : k ≤ R.cells ∧ sl ≤ R.slots) (hst : (st.map fun v => v.category).sum ≤ 8) (kk : RJ l g M R TG XP n' h' k sl (pc + 3) lv (x :: st)) : RJ l g M R TG XP n h k sl pc lv (a1 :: st) := r_cS (M' := M_M_stripes) (np := 1) hC (by rw [hM]; exact wm_in (i := 656) (by decide +kernel) rfl) (wm_in (i := 657) (by decide +kernel) rfl) (by rw [hM]; exact wm_in (i := 52) (by decide +kernel) rfl) (wm_in (i := 658) (by decide +kernel) rfl) ⟨by rw [hM]; rfl, by decide, by decide, by decide +kernel⟩ rfl hd hR0 hz rfl hst kk
theorem rc_M_134 {l : Launch} {g : GX} {M : MT} {R : Room} {TG : TGT} {XP : XPT} {n : Nat} {h h' : AH} {k sl : Nat} {pc : Nat} {lv : List (Nat × Value)} {st : List Value} {n' d' : Nat} {x : Value} {b : Nat} {fs : List Value} {a1 : Value} (hM : M.1.cls = "ShareStoreModel") (hd : decode M.2.1 pc = .ok (.invokevirtual 134, 3)) (hC : CE l g M_M_goes d' 0 0 [.ref b, a1] n h (some x) n' h') (hb : h b = some (.inr (5, fs))) (hR0 : d' + 1 ≤ R.frames ∧ 8 + (M_M_goes.2.2.1 + 11) + 36 * d' ≤ R.locals) (hz : k ≤ R.cells ∧ sl ≤ R.slots) (hst : (st.map fun v => v.category).sum ≤ 8) (kk : RJ l g M R TG XP n' h' k sl (pc + 3) lv (x :: st)) : RJ l g M R TG XP n h k sl pc lv (a1 :: .ref b :: st) := r_cV (M' := M_M_goes) (np := 1) (ci := 5) hC (by rw [hM]; exact wm_in (i := 659) (by decide +kernel) rfl) (wm_in (i := 661) (by decide +kernel) rfl) (wm_in (i := 28) (by decide +kernel) rfl) (wm_in (i := 52) (by decide +kernel) rfl) (wm_in (i := 662) (by decide +kernel) rfl) ⟨by decide, by decide, by decide +kernel⟩ rfl hd rfl rfl hb hR0 hz rfl hst kk
theorem rc_M_89 {l : Launch} {g : GX} {M : MT} {R : Room} {TG : TGT} {XP : XPT} {n : Nat} {h h' : AH} {k sl : Nat} {pc : Nat} {lv : List (Nat × Value)} {st : List Value} {n' d' : Nat} {b : Nat} {fs : List Value} {a1 a2 a3 : Value} (hM : M.1.cls = "ShareStoreModel") (hd : decode M.2.1 pc = .ok (.invokevirtual 89, 3)) (hC : CE l g M_M_givesUp d' 0 0 [.ref b, a1, a2, a3] n h none n' h') (hb : h b = some (.inr (5, fs))) (hR0 : d' + 1 ≤ R.frames ∧ 8 + (M_M_givesUp.2.2.1 + 11) + 36 * d' ≤ R.locals) (hz : k ≤ R.cells ∧ sl ≤ R.slots) (hst : (st.map fun v => v.category).sum ≤ 8) (kk : RJ l g M R TG XP n' h' k sl (pc + 3) lv st) : RJ l g M R TG XP n h k sl pc lv (a3 :: a2 :: a1 :: .ref b :: st) := r_cV (M' := M_M_givesUp) (np := 3) (ci := 5) hC (by rw [hM]; exact wm_in (i := 663) (by decide +kernel) rfl) (wm_in (i := 665) (by decide +kernel) rfl) (wm_in (i := 29) (by decide +kernel) rfl) (wm_in (i := 52) (by decide +kernel) rfl) (wm_in (i := 666) (by decide +kernel) rfl) ⟨by decide, by decide, by decide +kernel⟩ rfl hd rfl rfl hb hR0 hz rfl hst kk
theorem rc_M_79 {l : Launch} {g : GX} {M : MT} {R : Room} {TG : TGT} {XP : XPT} {n : Nat} {h h' : AH} {k sl : Nat} {pc : Nat} {lv : List (Nat × Value)} {st : List Value} {n' d' : Nat} {x : Value} {a1 a2 a3 : Value} (hM : M.1.cls = "ShareStoreModel") (hd : decode M.2.1 pc = .ok (.invokestatic 79, 3)) (hC : CE l g M_M_at d' 0 0 [a1, a2, a3] n h (some x) n' h') (hR0 : d' + 1 ≤ R.frames ∧ 8 + (M_M_at.2.2.1 + 11) + 36 * d' ≤ R.locals) (hz : k ≤ R.cells ∧ sl ≤ R.slots) (hst : (st.map fun v => v.category).sum ≤ 8) (kk : RJ l g M R TG XP n' h' k sl (pc + 3) lv (x :: st)) : RJ l g M R TG XP n h k sl pc lv (a3 :: a2 :: a1 :: st) := r_cS (M' := M_M_at) (np := 3) hC (by rw [hM]; exact wm_in (i := 667) (by decide +kernel) rfl) (wm_in (i := 668) (by decide +kernel) rfl) (by rw [hM]; exact wm_in (i := 52) (by decide +kernel) rfl) (wm_in (i := 669) (by decide +kernel) rfl) ⟨by rw [hM]; rfl, by decide, by decide, by decide +kernel⟩ rfl hd hR0 hz rfl hst kk
theorem rc_M_111 {l : Launch} {g : GX} {M : MT} {R : Room} {TG : TGT} {XP : XPT} {n : Nat} {h h' : AH} {k sl : Nat} {pc : Nat} {lv : List (Nat × Value)} {st : List Value} {n' d' : Nat} {b : Nat} {fs : List Value} {a1 a2 a3 a4 a5 : Value} (hM : M.1.cls = "ShareStoreModel") (hd : decode M.2.1 pc = .ok (.invokevirtual 111, 3)) (hC : CE l g M_M_takes d' 0 0 [.ref b, a1, a2, a3, a4, a5] n h none n' h') (hb : h b = some (.inr (5, fs))) (hR0 : d' + 1 ≤ R.frames ∧ 8 + (M_M_takes.2.2.1 + 11) + 36 * d' ≤ R.locals) (hz : k ≤ R.cells ∧ sl ≤ R.slots) (hst : (st.map fun v => v.category).sum ≤ 8) (kk : RJ l g M R TG XP n' h' k sl (pc + 3) lv st) : RJ l g M R TG XP n h k sl pc lv (a5 :: a4 :: a3 :: a2 :: a1 :: .ref b :: st) := r_cV (M' := M_M_takes) (np := 5) (ci := 5) hC (by rw [hM]; exact wm_in (i := 670) (by decide +kernel) rfl) (wm_in (i := 672) (by decide +kernel) rfl) (wm_in (i := 30) (by decide +kernel) rfl) (wm_in (i := 52) (by decide +kernel) rfl) (wm_in (i := 673) (by decide +kernel) rfl) ⟨by decide, by decide, by decide +kernel⟩ rfl hd rfl rfl hb hR0 hz rfl hst kk
theorem rc_M_86 {l : Launch} {g : GX} {M : MT} {R : Room} {TG : TGT} {XP : XPT} {n : Nat} {h h' : AH} {k sl : Nat} {pc : Nat} {lv : List (Nat × Value)} {st : List Value} {n' d' : Nat} {x : Value} {b : Nat} {fs : List Value} {a1 : Value} (hM : M.1.cls = "ShareStoreModel") (hd : decode M.2.1 pc = .ok (.invokevirtual 86, 3)) (hC : CE l g M_M_leastFree d' 0 0 [.ref b, a1] n h (some x) n' h') (hb : h b = some (.inr (5, fs))) (hR0 : d' + 1 ≤ R.frames ∧ 8 + (M_M_leastFree.2.2.1 + 11) + 36 * d' ≤ R.locals) (hz : k ≤ R.cells ∧ sl ≤ R.slots) (hst : (st.map fun v => v.category).sum ≤ 8) (kk : RJ l g M R TG XP n' h' k sl (pc + 3) lv (x :: st)) : RJ l g M R TG XP n h k sl pc lv (a1 :: .ref b :: st) := r_cV (M' := M_M_leastFree) (np := 1) (ci := 5) hC (by rw [hM]; exact wm_in (i := 674) (by decide +kernel) rfl) (wm_in (i := 676) (by decide +kernel) rfl) (wm_in (i := 31) (by decide +kernel) rfl) (wm_in (i := 52) (by decide +kernel) rfl) (wm_in (i := 677) (by decide +kernel) rfl) ⟨by decide, by decide, by decide +kernel⟩ rfl hd rfl rfl hb hR0 hz rfl hst kk
theorem rc_M_115 {l : Launch} {g : GX} {M : MT} {R : Room} {TG : TGT} {XP : XPT} {n : Nat} {h h' : AH} {k sl : Nat} {pc : Nat} {lv : List (Nat × Value)} {st : List Value} {n' d' : Nat} {b : Nat} {fs : List Value} {a1 a2 : Value} (hM : M.1.cls = "ShareStoreModel") (hd : decode M.2.1 pc = .ok (.invokevirtual 115, 3)) (hC : CE l g M_M_shares d' 0 0 [.ref b, a1, a2] n h none n' h') (hb : h b = some (.inr (5, fs))) (hR0 : d' + 1 ≤ R.frames ∧ 8 + (M_M_shares.2.2.1 + 11) + 36 * d' ≤ R.locals) (hz : k ≤ R.cells ∧ sl ≤ R.slots) (hst : (st.map fun v => v.category).sum ≤ 8) (kk : RJ l g M R TG XP n' h' k sl (pc + 3) lv st) : RJ l g M R TG XP n h k sl pc lv (a2 :: a1 :: .ref b :: st) := r_cV (M' := M_M_shares) (np := 2) (ci := 5) hC (by rw [hM]; exact wm_in (i := 678) (by decide +kernel) rfl) (wm_in (i := 680) (by decide +kernel) rfl) (wm_in (i := 32) (by decide +kernel) rfl) (wm_in (i := 52) (by decide +kernel) rfl) (wm_in (i := 681) (by decide +kernel) rfl) ⟨by decide, by decide, by decide +kernel⟩ rfl hd rfl rfl hb hR0 hz rfl hst kk
theorem rc_M_99 {l : Launch} {g : GX} {M : MT} {R : Room} {TG : TGT} {XP : XPT} {n : Nat} {h h' : AH} {k sl : Nat} {pc : Nat} {lv : List (Nat × Value)} {st : List Value} {n' d' : Nat} {x : Value} {b : Nat} {fs : List Value} {a1 a2 a3 : Value} (hM : M.1.cls = "ShareStoreModel") (hd : decode M.2.1 pc = .ok (.invokevirtual 99, 3)) (hC : CE l g M_M_matrix d' 0 0 [.ref b, a1, a2, a3] n h (some x) n' h') (hb : h b = some (.inr (5, fs))) (hR0 : d' + 1 ≤ R.frames ∧ 8 + (M_M_matrix.2.2.1 + 11) + 36 * d' ≤ R.locals) (hz : k ≤ R.cells ∧ sl ≤ R.slots) (hst : (st.map fun v => v.category).sum ≤ 8) (kk : RJ l g M R TG XP n' h' k sl (pc + 3) lv (x :: st)) : RJ l g M R TG XP n h k sl pc lv (a3 :: a2 :: a1 :: .ref b :: st) := r_cV (M' := M_M_matrix) (np := 3) (ci := 5) hC (by rw [hM]; exact wm_in (i := 682) (by decide +kernel) rfl) (wm_in (i := 684) (by decide +kernel) rfl) (wm_in (i := 33) (by decide +kernel) rfl) (wm_in (i := 52) (by decide +kernel) rfl) (wm_in (i := 685) (by decide +kernel) rfl) ⟨by decide, by decide, by decide +kernel⟩ rfl hd rfl rfl hb hR0 hz rfl hst kk
theorem rc_M_103 {l : Launch} {g : GX} {M : MT} {R : Room} {TG : TGT} {XP : XPT} {n : Nat} {h h' : AH} {k sl : Nat} {pc : Nat} {lv : List (Nat × Value)} {st : List Value} {n' d' : Nat} {x : Value} {b : Nat} {fs : List Value} {a1 a2 a3 a4 : Value} (hM : M.1.cls = "ShareStoreModel") (hd : decode M.2.1 pc = .ok (.invokevirtual 103, 3)) (hC : CE l g M_M_byteAt d' 0 0 [.ref b, a1, a2, a3, a4] n h (some x) n' h') (hb : h b = some (.inr (5, fs))) (hR0 : d' + 1 ≤ R.frames ∧ 8 + (M_M_byteAt.2.2.1 + 11) + 36 * d' ≤ R.locals) (hz : k ≤ R.cells ∧ sl ≤ R.slots) (hst : (st.map fun v => v.category).sum ≤ 8) (kk : RJ l g M R TG XP n' h' k sl (pc + 3) lv (x :: st)) : RJ l g M R TG XP n h k sl pc lv (a4 :: a3 :: a2 :: a1 :: .ref b :: st) := r_cV (M' := M_M_byteAt) (np := 4) (ci := 5) hC (by rw [hM]; exact wm_in (i := 686) (by decide +kernel) rfl) (wm_in (i := 688) (by decide +kernel) rfl) (wm_in (i := 34) (by decide +kernel) rfl) (wm_in (i := 52) (by decide +kernel) rfl) (wm_in (i := 689) (by decide +kernel) rfl) ⟨by decide, by decide, by decide +kernel⟩ rfl hd rfl rfl hb hR0 hz rfl hst kk
theorem rc_M_119 {l : Launch} {g : GX} {M : MT} {R : Room} {TG : TGT} {XP : XPT} {n : Nat} {h h' : AH} {k sl : Nat} {pc : Nat} {lv : List (Nat × Value)} {st : List Value} {n' d' : Nat} {b : Nat} {fs : List Value} {a1 a2 : Value} (hM : M.1.cls = "ShareStoreModel") (hd : decode M.2.1 pc = .ok (.invokevirtual 119, 3)) (hC : CE l g M_M_flips d' 0 0 [.ref b, a1, a2] n h none n' h') (hb : h b = some (.inr (5, fs))) (hR0 : d' + 1 ≤ R.frames ∧ 8 + (M_M_flips.2.2.1 + 11) + 36 * d' ≤ R.locals) (hz : k ≤ R.cells ∧ sl ≤ R.slots) (hst : (st.map fun v => v.category).sum ≤ 8) (kk : RJ l g M R TG XP n' h' k sl (pc + 3) lv st) : RJ l g M R TG XP n h k sl pc lv (a2 :: a1 :: .ref b :: st) := r_cV (M' := M_M_flips) (np := 2) (ci := 5) hC (by rw [hM]; exact wm_in (i := 690) (by decide +kernel) rfl) (wm_in (i := 692) (by decide +kernel) rfl) (wm_in (i := 35) (by decide +kernel) rfl) (wm_in (i := 52) (by decide +kernel) rfl) (wm_in (i := 693) (by decide +kernel) rfl) ⟨by decide, by decide, by decide +kernel⟩ rfl hd rfl rfl hb hR0 hz rfl hst kk
theorem rc_L_45 {l : Launch} {g : GX} {M : MT} {R : Room} {TG : TGT} {XP : XPT} {n : Nat} {h h' : AH} {k sl : Nat} {pc : Nat} {lv : List (Nat × Value)} {st : List Value} {n' d' : Nat} {x : Value} {b : Nat} {fs : List Value} {a1 : Value} (hM : M.1.cls = "ShareStoreLaw") (hd : decode M.2.1 pc = .ok (.invokevirtual 45, 3)) (hC : CE l g M_M_remove d' 0 0 [.ref b, a1] n h (some x) n' h') (hb : h b = some (.inr (5, fs))) (hR0 : d' + 1 ≤ R.frames ∧ 8 + (M_M_remove.2.2.1 + 11) + 36 * d' ≤ R.locals) (hz : k ≤ R.cells ∧ sl ≤ R.slots) (hst : (st.map fun v => v.category).sum ≤ 8) (kk : RJ l g M R TG XP n' h' k sl (pc + 3) lv (x :: st)) : RJ l g M R TG XP n h k sl pc lv (a1 :: .ref b :: st) := r_cV (M' := M_M_remove) (np := 1) (ci := 5) hC (by rw [hM]; exact wm_in (i := 694) (by decide +kernel) rfl) (wm_in (i := 695) (by decide +kernel) rfl) (wm_in (i := 696) (by decide +kernel) rfl) (wm_in (i := 52) (by decide +kernel) rfl) (wm_in (i := 697) (by decide +kernel) rfl) ⟨by decide, by decide, by decide +kernel⟩ rfl hd rfl rfl hb hR0 hz rfl hst kk
theorem rc_L_49 {l : Launch} {g : GX} {M : MT} {R : Room} {TG : TGT} {XP : XPT} {n : Nat} {h h' : AH} {k sl : Nat} {pc : Nat} {lv : List (Nat × Value)} {st : List Value} {n' d' : Nat} {x : Value} {b : Nat} {fs : List Value} {a1 : Value} (hM : M.1.cls = "ShareStoreLaw") (hd : decode M.2.1 pc = .ok (.invokevirtual 49, 3)) (hC : CE l g M_M_settle d' 0 0 [.ref b, a1] n h (some x) n' h') (hb : h b = some (.inr (5, fs))) (hR0 : d' + 1 ≤ R.frames ∧ 8 + (M_M_settle.2.2.1 + 11) + 36 * d' ≤ R.locals) (hz : k ≤ R.cells ∧ sl ≤ R.slots) (hst : (st.map fun v => v.category).sum ≤ 8) (kk : RJ l g M R TG XP n' h' k sl (pc + 3) lv (x :: st)) : RJ l g M R TG XP n h k sl pc lv (a1 :: .ref b :: st) := r_cV (M' := M_M_settle) (np := 1) (ci := 5) hC (by rw [hM]; exact wm_in (i := 698) (by decide +kernel) rfl) (wm_in (i := 699) (by decide +kernel) rfl) (wm_in (i := 700) (by decide +kernel) rfl) (wm_in (i := 52) (by decide +kernel) rfl) (wm_in (i := 701) (by decide +kernel) rfl) ⟨by decide, by decide, by decide +kernel⟩ rfl hd rfl rfl hb hR0 hz rfl hst kk
theorem rc_L_53 {l : Launch} {g : GX} {M : MT} {R : Room} {TG : TGT} {XP : XPT} {n : Nat} {h h' : AH} {k sl : Nat} {pc : Nat} {lv : List (Nat × Value)} {st : List Value} {n' d' : Nat} {x : Value} {b : Nat} {fs : List Value} {a1 a2 : Value} (hM : M.1.cls = "ShareStoreLaw") (hd : decode M.2.1 pc = .ok (.invokevirtual 53, 3)) (hC : CE l g M_M_get d' 0 0 [.ref b, a1, a2] n h (some x) n' h') (hb : h b = some (.inr (5, fs))) (hR0 : d' + 1 ≤ R.frames ∧ 8 + (M_M_get.2.2.1 + 11) + 36 * d' ≤ R.locals) (hz : k ≤ R.cells ∧ sl ≤ R.slots) (hst : (st.map fun v => v.category).sum ≤ 8) (kk : RJ l g M R TG XP n' h' k sl (pc + 3) lv (x :: st)) : RJ l g M R TG XP n h k sl pc lv (a2 :: a1 :: .ref b :: st) := r_cV (M' := M_M_get) (np := 2) (ci := 5) hC (by rw [hM]; exact wm_in (i := 702) (by decide +kernel) rfl) (wm_in (i := 703) (by decide +kernel) rfl) (wm_in (i := 704) (by decide +kernel) rfl) (wm_in (i := 52) (by decide +kernel) rfl) (wm_in (i := 705) (by decide +kernel) rfl) ⟨by decide, by decide, by decide +kernel⟩ rfl hd rfl rfl hb hR0 hz rfl hst kk
theorem rc_M_140 {l : Launch} {g : GX} {M : MT} {R : Room} {TG : TGT} {XP : XPT} {n : Nat} {h h' : AH} {k sl : Nat} {pc : Nat} {lv : List (Nat × Value)} {st : List Value} {n' d' : Nat} {x : Value} {b : Nat} {fs : List Value} {a1 : Value} (hM : M.1.cls = "ShareStoreModel") (hd : decode M.2.1 pc = .ok (.invokevirtual 140, 3)) (hC : CE l g M_M_newest d' 0 0 [.ref b, a1] n h (some x) n' h') (hb : h b = some (.inr (5, fs))) (hR0 : d' + 1 ≤ R.frames ∧ 8 + (M_M_newest.2.2.1 + 11) + 36 * d' ≤ R.locals) (hz : k ≤ R.cells ∧ sl ≤ R.slots) (hst : (st.map fun v => v.category).sum ≤ 8) (kk : RJ l g M R TG XP n' h' k sl (pc + 3) lv (x :: st)) : RJ l g M R TG XP n h k sl pc lv (a1 :: .ref b :: st) := r_cV (M' := M_M_newest) (np := 1) (ci := 5) hC (by rw [hM]; exact wm_in (i := 706) (by decide +kernel) rfl) (wm_in (i := 708) (by decide +kernel) rfl) (wm_in (i := 36) (by decide +kernel) rfl) (wm_in (i := 52) (by decide +kernel) rfl) (wm_in (i := 709) (by decide +kernel) rfl) ⟨by decide, by decide, by decide +kernel⟩ rfl hd rfl rfl hb hR0 hz rfl hst kk
theorem rc_M_143 {l : Launch} {g : GX} {M : MT} {R : Room} {TG : TGT} {XP : XPT} {n : Nat} {h h' : AH} {k sl : Nat} {pc : Nat} {lv : List (Nat × Value)} {st : List Value} {n' d' : Nat} {x : Value} {b : Nat} {fs : List Value} {a1 a2 a3 a4 : Value} (hM : M.1.cls = "ShareStoreModel") (hd : decode M.2.1 pc = .ok (.invokevirtual 143, 3)) (hC : CE l g M_M_choose d' 0 0 [.ref b, a1, a2, a3, a4] n h (some x) n' h') (hb : h b = some (.inr (5, fs))) (hR0 : d' + 1 ≤ R.frames ∧ 8 + (M_M_choose.2.2.1 + 11) + 36 * d' ≤ R.locals) (hz : k ≤ R.cells ∧ sl ≤ R.slots) (hst : (st.map fun v => v.category).sum ≤ 8) (kk : RJ l g M R TG XP n' h' k sl (pc + 3) lv (x :: st)) : RJ l g M R TG XP n h k sl pc lv (a4 :: a3 :: a2 :: a1 :: .ref b :: st) := r_cV (M' := M_M_choose) (np := 4) (ci := 5) hC (by rw [hM]; exact wm_in (i := 710) (by decide +kernel) rfl) (wm_in (i := 712) (by decide +kernel) rfl) (wm_in (i := 37) (by decide +kernel) rfl) (wm_in (i := 52) (by decide +kernel) rfl) (wm_in (i := 713) (by decide +kernel) rfl) ⟨by decide, by decide, by decide +kernel⟩ rfl hd rfl rfl hb hR0 hz rfl hst kk
theorem rc_M_93 {l : Launch} {g : GX} {M : MT} {R : Room} {TG : TGT} {XP : XPT} {n : Nat} {h h' : AH} {k sl : Nat} {pc : Nat} {lv : List (Nat × Value)} {st : List Value} {n' d' : Nat} {x : Value} {b : Nat} {fs : List Value} {a1 a2 a3 : Value} (hM : M.1.cls = "ShareStoreModel") (hd : decode M.2.1 pc = .ok (.invokevirtual 93, 3)) (hC : CE l g M_M_isFresh d' 0 0 [.ref b, a1, a2, a3] n h (some x) n' h') (hb : h b = some (.inr (5, fs))) (hR0 : d' + 1 ≤ R.frames ∧ 8 + (M_M_isFresh.2.2.1 + 11) + 36 * d' ≤ R.locals) (hz : k ≤ R.cells ∧ sl ≤ R.slots) (hst : (st.map fun v => v.category).sum ≤ 8) (kk : RJ l g M R TG XP n' h' k sl (pc + 3) lv (x :: st)) : RJ l g M R TG XP n h k sl pc lv (a3 :: a2 :: a1 :: .ref b :: st) := r_cV (M' := M_M_isFresh) (np := 3) (ci := 5) hC (by rw [hM]; exact wm_in (i := 714) (by decide +kernel) rfl) (wm_in (i := 716) (by decide +kernel) rfl) (wm_in (i := 38) (by decide +kernel) rfl) (wm_in (i := 52) (by decide +kernel) rfl) (wm_in (i := 717) (by decide +kernel) rfl) ⟨by decide, by decide, by decide +kernel⟩ rfl hd rfl rfl hb hR0 hz rfl hst kk
theorem rc_M_146 {l : Launch} {g : GX} {M : MT} {R : Room} {TG : TGT} {XP : XPT} {n : Nat} {h h' : AH} {k sl : Nat} {pc : Nat} {lv : List (Nat × Value)} {st : List Value} {n' d' : Nat} {x : Value} {b : Nat} {fs : List Value} {a1 a2 : Value} (hM : M.1.cls = "ShareStoreModel") (hd : decode M.2.1 pc = .ok (.invokevirtual 146, 3)) (hC : CE l g M_M_sizeOf d' 0 0 [.ref b, a1, a2] n h (some x) n' h') (hb : h b = some (.inr (5, fs))) (hR0 : d' + 1 ≤ R.frames ∧ 8 + (M_M_sizeOf.2.2.1 + 11) + 36 * d' ≤ R.locals) (hz : k ≤ R.cells ∧ sl ≤ R.slots) (hst : (st.map fun v => v.category).sum ≤ 8) (kk : RJ l g M R TG XP n' h' k sl (pc + 3) lv (x :: st)) : RJ l g M R TG XP n h k sl pc lv (a2 :: a1 :: .ref b :: st) := r_cV (M' := M_M_sizeOf) (np := 2) (ci := 5) hC (by rw [hM]; exact wm_in (i := 718) (by decide +kernel) rfl) (wm_in (i := 720) (by decide +kernel) rfl) (wm_in (i := 39) (by decide +kernel) rfl) (wm_in (i := 52) (by decide +kernel) rfl) (wm_in (i := 721) (by decide +kernel) rfl) ⟨by decide, by decide, by decide +kernel⟩ rfl hd rfl rfl hb hR0 hz rfl hst kk
theorem rc_M_149 {l : Launch} {g : GX} {M : MT} {R : Room} {TG : TGT} {XP : XPT} {n : Nat} {h h' : AH} {k sl : Nat} {pc : Nat} {lv : List (Nat × Value)} {st : List Value} {n' d' : Nat} {b : Nat} {fs : List Value} {a1 a2 : Value} (hM : M.1.cls = "ShareStoreModel") (hd : decode M.2.1 pc = .ok (.invokevirtual 149, 3)) (hC : CE l g M_M_getStripe d' 0 0 [.ref b, a1, a2] n h none n' h') (hb : h b = some (.inr (5, fs))) (hR0 : d' + 1 ≤ R.frames ∧ 8 + (M_M_getStripe.2.2.1 + 11) + 36 * d' ≤ R.locals) (hz : k ≤ R.cells ∧ sl ≤ R.slots) (hst : (st.map fun v => v.category).sum ≤ 8) (kk : RJ l g M R TG XP n' h' k sl (pc + 3) lv st) : RJ l g M R TG XP n h k sl pc lv (a2 :: a1 :: .ref b :: st) := r_cV (M' := M_M_getStripe) (np := 2) (ci := 5) hC (by rw [hM]; exact wm_in (i := 722) (by decide +kernel) rfl) (wm_in (i := 724) (by decide +kernel) rfl) (wm_in (i := 40) (by decide +kernel) rfl) (wm_in (i := 52) (by decide +kernel) rfl) (wm_in (i := 725) (by decide +kernel) rfl) ⟨by decide, by decide, by decide +kernel⟩ rfl hd rfl rfl hb hR0 hz rfl hst kk
theorem rc_M_137 {l : Launch} {g : GX} {M : MT} {R : Room} {TG : TGT} {XP : XPT} {n : Nat} {h h' : AH} {k sl : Nat} {pc : Nat} {lv : List (Nat × Value)} {st : List Value} {n' d' : Nat} {b : Nat} {fs : List Value} {a1 a2 : Value} (hM : M.1.cls = "ShareStoreModel") (hd : decode M.2.1 pc = .ok (.invokevirtual 137, 3)) (hC : CE l g M_M_solve d' 0 0 [.ref b, a1, a2] n h none n' h') (hb : h b = some (.inr (5, fs))) (hR0 : d' + 1 ≤ R.frames ∧ 8 + (M_M_solve.2.2.1 + 11) + 36 * d' ≤ R.locals) (hz : k ≤ R.cells ∧ sl ≤ R.slots) (hst : (st.map fun v => v.category).sum ≤ 8) (kk : RJ l g M R TG XP n' h' k sl (pc + 3) lv st) : RJ l g M R TG XP n h k sl pc lv (a2 :: a1 :: .ref b :: st) := r_cV (M' := M_M_solve) (np := 2) (ci := 5) hC (by rw [hM]; exact wm_in (i := 726) (by decide +kernel) rfl) (wm_in (i := 728) (by decide +kernel) rfl) (wm_in (i := 41) (by decide +kernel) rfl) (wm_in (i := 52) (by decide +kernel) rfl) (wm_in (i := 729) (by decide +kernel) rfl) ⟨by decide, by decide, by decide +kernel⟩ rfl hd rfl rfl hb hR0 hz rfl hst kk
theorem rc_L_57 {l : Launch} {g : GX} {M : MT} {R : Room} {TG : TGT} {XP : XPT} {n : Nat} {h h' : AH} {k sl : Nat} {pc : Nat} {lv : List (Nat × Value)} {st : List Value} {n' d' : Nat} {x : Value} {b : Nat} {fs : List Value} {a1 : Value} (hM : M.1.cls = "ShareStoreLaw") (hd : decode M.2.1 pc = .ok (.invokevirtual 57, 3)) (hC : CE l g M_M_got d' 0 0 [.ref b, a1] n h (some x) n' h') (hb : h b = some (.inr (5, fs))) (hR0 : d' + 1 ≤ R.frames ∧ 8 + (M_M_got.2.2.1 + 11) + 36 * d' ≤ R.locals) (hz : k ≤ R.cells ∧ sl ≤ R.slots) (hst : (st.map fun v => v.category).sum ≤ 8) (kk : RJ l g M R TG XP n' h' k sl (pc + 3) lv (x :: st)) : RJ l g M R TG XP n h k sl pc lv (a1 :: .ref b :: st) := r_cV (M' := M_M_got) (np := 1) (ci := 5) hC (by rw [hM]; exact wm_in (i := 730) (by decide +kernel) rfl) (wm_in (i := 731) (by decide +kernel) rfl) (wm_in (i := 732) (by decide +kernel) rfl) (wm_in (i := 52) (by decide +kernel) rfl) (wm_in (i := 733) (by decide +kernel) rfl) ⟨by decide, by decide, by decide +kernel⟩ rfl hd rfl rfl hb hR0 hz rfl hst kk
theorem rc_L_61 {l : Launch} {g : GX} {M : MT} {R : Room} {TG : TGT} {XP : XPT} {n : Nat} {h h' : AH} {k sl : Nat} {pc : Nat} {lv : List (Nat × Value)} {st : List Value} {n' d' : Nat} {x : Value} {b : Nat} {fs : List Value} {a1 : Value} (hM : M.1.cls = "ShareStoreLaw") (hd : decode M.2.1 pc = .ok (.invokevirtual 61, 3)) (hC : CE l g M_M_version d' 0 0 [.ref b, a1] n h (some x) n' h') (hb : h b = some (.inr (5, fs))) (hR0 : d' + 1 ≤ R.frames ∧ 8 + (M_M_version.2.2.1 + 11) + 36 * d' ≤ R.locals) (hz : k ≤ R.cells ∧ sl ≤ R.slots) (hst : (st.map fun v => v.category).sum ≤ 8) (kk : RJ l g M R TG XP n' h' k sl (pc + 3) lv (x :: st)) : RJ l g M R TG XP n h k sl pc lv (a1 :: .ref b :: st) := r_cV (M' := M_M_version) (np := 1) (ci := 5) hC (by rw [hM]; exact wm_in (i := 734) (by decide +kernel) rfl) (wm_in (i := 735) (by decide +kernel) rfl) (wm_in (i := 736) (by decide +kernel) rfl) (wm_in (i := 52) (by decide +kernel) rfl) (wm_in (i := 737) (by decide +kernel) rfl) ⟨by decide, by decide, by decide +kernel⟩ rfl hd rfl rfl hb hR0 hz rfl hst kk
theorem rc_L_65 {l : Launch} {g : GX} {M : MT} {R : Room} {TG : TGT} {XP : XPT} {n : Nat} {h h' : AH} {k sl : Nat} {pc : Nat} {lv : List (Nat × Value)} {st : List Value} {n' d' : Nat} {x : Value} {b : Nat} {fs : List Value} {a1 : Value} (hM : M.1.cls = "ShareStoreLaw") (hd : decode M.2.1 pc = .ok (.invokevirtual 65, 3)) (hC : CE l g M_M_open d' 0 0 [.ref b, a1] n h (some x) n' h') (hb : h b = some (.inr (5, fs))) (hR0 : d' + 1 ≤ R.frames ∧ 8 + (M_M_open.2.2.1 + 11) + 36 * d' ≤ R.locals) (hz : k ≤ R.cells ∧ sl ≤ R.slots) (hst : (st.map fun v => v.category).sum ≤ 8) (kk : RJ l g M R TG XP n' h' k sl (pc + 3) lv (x :: st)) : RJ l g M R TG XP n h k sl pc lv (a1 :: .ref b :: st) := r_cV (M' := M_M_open) (np := 1) (ci := 5) hC (by rw [hM]; exact wm_in (i := 738) (by decide +kernel) rfl) (wm_in (i := 739) (by decide +kernel) rfl) (wm_in (i := 740) (by decide +kernel) rfl) (wm_in (i := 52) (by decide +kernel) rfl) (wm_in (i := 741) (by decide +kernel) rfl) ⟨by decide, by decide, by decide +kernel⟩ rfl hd rfl rfl hb hR0 hz rfl hst kk
theorem rc_L_69 {l : Launch} {g : GX} {M : MT} {R : Room} {TG : TGT} {XP : XPT} {n : Nat} {h h' : AH} {k sl : Nat} {pc : Nat} {lv : List (Nat × Value)} {st : List Value} {n' d' : Nat} {x : Value} {b : Nat} {fs : List Value} {a1 : Value} (hM : M.1.cls = "ShareStoreLaw") (hd : decode M.2.1 pc = .ok (.invokevirtual 69, 3)) (hC : CE l g M_M_fail d' 0 0 [.ref b, a1] n h (some x) n' h') (hb : h b = some (.inr (5, fs))) (hR0 : d' + 1 ≤ R.frames ∧ 8 + (M_M_fail.2.2.1 + 11) + 36 * d' ≤ R.locals) (hz : k ≤ R.cells ∧ sl ≤ R.slots) (hst : (st.map fun v => v.category).sum ≤ 8) (kk : RJ l g M R TG XP n' h' k sl (pc + 3) lv (x :: st)) : RJ l g M R TG XP n h k sl pc lv (a1 :: .ref b :: st) := r_cV (M' := M_M_fail) (np := 1) (ci := 5) hC (by rw [hM]; exact wm_in (i := 742) (by decide +kernel) rfl) (wm_in (i := 743) (by decide +kernel) rfl) (wm_in (i := 744) (by decide +kernel) rfl) (wm_in (i := 52) (by decide +kernel) rfl) (wm_in (i := 745) (by decide +kernel) rfl) ⟨by decide, by decide, by decide +kernel⟩ rfl hd rfl rfl hb hR0 hz rfl hst kk
theorem rc_L_73 {l : Launch} {g : GX} {M : MT} {R : Room} {TG : TGT} {XP : XPT} {n : Nat} {h h' : AH} {k sl : Nat} {pc : Nat} {lv : List (Nat × Value)} {st : List Value} {n' d' : Nat} {x : Value} {b : Nat} {fs : List Value} {a1 : Value} (hM : M.1.cls = "ShareStoreLaw") (hd : decode M.2.1 pc = .ok (.invokevirtual 73, 3)) (hC : CE l g M_M_back d' 0 0 [.ref b, a1] n h (some x) n' h') (hb : h b = some (.inr (5, fs))) (hR0 : d' + 1 ≤ R.frames ∧ 8 + (M_M_back.2.2.1 + 11) + 36 * d' ≤ R.locals) (hz : k ≤ R.cells ∧ sl ≤ R.slots) (hst : (st.map fun v => v.category).sum ≤ 8) (kk : RJ l g M R TG XP n' h' k sl (pc + 3) lv (x :: st)) : RJ l g M R TG XP n h k sl pc lv (a1 :: .ref b :: st) := r_cV (M' := M_M_back) (np := 1) (ci := 5) hC (by rw [hM]; exact wm_in (i := 746) (by decide +kernel) rfl) (wm_in (i := 747) (by decide +kernel) rfl) (wm_in (i := 748) (by decide +kernel) rfl) (wm_in (i := 52) (by decide +kernel) rfl) (wm_in (i := 749) (by decide +kernel) rfl) ⟨by decide, by decide, by decide +kernel⟩ rfl hd rfl rfl hb hR0 hz rfl hst kk
theorem rc_L_77 {l : Launch} {g : GX} {M : MT} {R : Room} {TG : TGT} {XP : XPT} {n : Nat} {h h' : AH} {k sl : Nat} {pc : Nat} {lv : List (Nat × Value)} {st : List Value} {n' d' : Nat} {x : Value} {b : Nat} {fs : List Value} {a1 : Value} (hM : M.1.cls = "ShareStoreLaw") (hd : decode M.2.1 pc = .ok (.invokevirtual 77, 3)) (hC : CE l g M_M_wipe d' 0 0 [.ref b, a1] n h (some x) n' h') (hb : h b = some (.inr (5, fs))) (hR0 : d' + 1 ≤ R.frames ∧ 8 + (M_M_wipe.2.2.1 + 11) + 36 * d' ≤ R.locals) (hz : k ≤ R.cells ∧ sl ≤ R.slots) (hst : (st.map fun v => v.category).sum ≤ 8) (kk : RJ l g M R TG XP n' h' k sl (pc + 3) lv (x :: st)) : RJ l g M R TG XP n h k sl pc lv (a1 :: .ref b :: st) := r_cV (M' := M_M_wipe) (np := 1) (ci := 5) hC (by rw [hM]; exact wm_in (i := 750) (by decide +kernel) rfl) (wm_in (i := 751) (by decide +kernel) rfl) (wm_in (i := 752) (by decide +kernel) rfl) (wm_in (i := 52) (by decide +kernel) rfl) (wm_in (i := 753) (by decide +kernel) rfl) ⟨by decide, by decide, by decide +kernel⟩ rfl hd rfl rfl hb hR0 hz rfl hst kk
theorem rc_L_81 {l : Launch} {g : GX} {M : MT} {R : Room} {TG : TGT} {XP : XPT} {n : Nat} {h h' : AH} {k sl : Nat} {pc : Nat} {lv : List (Nat × Value)} {st : List Value} {n' d' : Nat} {x : Value} {b : Nat} {fs : List Value} {a1 a2 : Value} (hM : M.1.cls = "ShareStoreLaw") (hd : decode M.2.1 pc = .ok (.invokevirtual 81, 3)) (hC : CE l g M_M_rebuild d' 0 0 [.ref b, a1, a2] n h (some x) n' h') (hb : h b = some (.inr (5, fs))) (hR0 : d' + 1 ≤ R.frames ∧ 8 + (M_M_rebuild.2.2.1 + 11) + 36 * d' ≤ R.locals) (hz : k ≤ R.cells ∧ sl ≤ R.slots) (hst : (st.map fun v => v.category).sum ≤ 8) (kk : RJ l g M R TG XP n' h' k sl (pc + 3) lv (x :: st)) : RJ l g M R TG XP n h k sl pc lv (a2 :: a1 :: .ref b :: st) := r_cV (M' := M_M_rebuild) (np := 2) (ci := 5) hC (by rw [hM]; exact wm_in (i := 754) (by decide +kernel) rfl) (wm_in (i := 755) (by decide +kernel) rfl) (wm_in (i := 756) (by decide +kernel) rfl) (wm_in (i := 52) (by decide +kernel) rfl) (wm_in (i := 757) (by decide +kernel) rfl) ⟨by decide, by decide, by decide +kernel⟩ rfl hd rfl rfl hb hR0 hz rfl hst kk
theorem rc_M_162 {l : Launch} {g : GX} {M : MT} {R : Room} {TG : TGT} {XP : XPT} {n : Nat} {h h' : AH} {k sl : Nat} {pc : Nat} {lv : List (Nat × Value)} {st : List Value} {n' d' : Nat} {x : Value} {b : Nat} {fs : List Value} {a1 a2 : Value} (hM : M.1.cls = "ShareStoreModel") (hd : decode M.2.1 pc = .ok (.invokevirtual 162, 3)) (hC : CE l g M_M_wants d' 0 0 [.ref b, a1, a2] n h (some x) n' h') (hb : h b = some (.inr (5, fs))) (hR0 : d' + 1 ≤ R.frames ∧ 8 + (M_M_wants.2.2.1 + 11) + 36 * d' ≤ R.locals) (hz : k ≤ R.cells ∧ sl ≤ R.slots) (hst : (st.map fun v => v.category).sum ≤ 8) (kk : RJ l g M R TG XP n' h' k sl (pc + 3) lv (x :: st)) : RJ l g M R TG XP n h k sl pc lv (a2 :: a1 :: .ref b :: st) := r_cV (M' := M_M_wants) (np := 2) (ci := 5) hC (by rw [hM]; exact wm_in (i := 758) (by decide +kernel) rfl) (wm_in (i := 760) (by decide +kernel) rfl) (wm_in (i := 42) (by decide +kernel) rfl) (wm_in (i := 52) (by decide +kernel) rfl) (wm_in (i := 761) (by decide +kernel) rfl) ⟨by decide, by decide, by decide +kernel⟩ rfl hd rfl rfl hb hR0 hz rfl hst kk
theorem rc_M_166 {l : Launch} {g : GX} {M : MT} {R : Room} {TG : TGT} {XP : XPT} {n : Nat} {h h' : AH} {k sl : Nat} {pc : Nat} {lv : List (Nat × Value)} {st : List Value} {n' d' : Nat} {x : Value} {b : Nat} {fs : List Value} {a1 a2 a3 : Value} (hM : M.1.cls = "ShareStoreModel") (hd : decode M.2.1 pc = .ok (.invokevirtual 166, 3)) (hC : CE l g M_M_rebuilds d' 0 0 [.ref b, a1, a2, a3] n h (some x) n' h') (hb : h b = some (.inr (5, fs))) (hR0 : d' + 1 ≤ R.frames ∧ 8 + (M_M_rebuilds.2.2.1 + 11) + 36 * d' ≤ R.locals) (hz : k ≤ R.cells ∧ sl ≤ R.slots) (hst : (st.map fun v => v.category).sum ≤ 8) (kk : RJ l g M R TG XP n' h' k sl (pc + 3) lv (x :: st)) : RJ l g M R TG XP n h k sl pc lv (a3 :: a2 :: a1 :: .ref b :: st) := r_cV (M' := M_M_rebuilds) (np := 3) (ci := 5) hC (by rw [hM]; exact wm_in (i := 762) (by decide +kernel) rfl) (wm_in (i := 764) (by decide +kernel) rfl) (wm_in (i := 43) (by decide +kernel) rfl) (wm_in (i := 52) (by decide +kernel) rfl) (wm_in (i := 765) (by decide +kernel) rfl) ⟨by decide, by decide, by decide +kernel⟩ rfl hd rfl rfl hb hR0 hz rfl hst kk
theorem rc_M_155 {l : Launch} {g : GX} {M : MT} {R : Room} {TG : TGT} {XP : XPT} {n : Nat} {h h' : AH} {k sl : Nat} {pc : Nat} {lv : List (Nat × Value)} {st : List Value} {n' d' : Nat} {b : Nat} {fs : List Value} {a1 a2 a3 : Value} (hM : M.1.cls = "ShareStoreModel") (hd : decode M.2.1 pc = .ok (.invokevirtual 155, 3)) (hC : CE l g M_M_chooseLeast d' 0 0 [.ref b, a1, a2, a3] n h none n' h') (hb : h b = some (.inr (5, fs))) (hR0 : d' + 1 ≤ R.frames ∧ 8 + (M_M_chooseLeast.2.2.1 + 11) + 36 * d' ≤ R.locals) (hz : k ≤ R.cells ∧ sl ≤ R.slots) (hst : (st.map fun v => v.category).sum ≤ 8) (kk : RJ l g M R TG XP n' h' k sl (pc + 3) lv st) : RJ l g M R TG XP n h k sl pc lv (a3 :: a2 :: a1 :: .ref b :: st) := r_cV (M' := M_M_chooseLeast) (np := 3) (ci := 5) hC (by rw [hM]; exact wm_in (i := 766) (by decide +kernel) rfl) (wm_in (i := 768) (by decide +kernel) rfl) (wm_in (i := 44) (by decide +kernel) rfl) (wm_in (i := 52) (by decide +kernel) rfl) (wm_in (i := 769) (by decide +kernel) rfl) ⟨by decide, by decide, by decide +kernel⟩ rfl hd rfl rfl hb hR0 hz rfl hst kk
theorem rc_M_159 {l : Launch} {g : GX} {M : MT} {R : Room} {TG : TGT} {XP : XPT} {n : Nat} {h h' : AH} {k sl : Nat} {pc : Nat} {lv : List (Nat × Value)} {st : List Value} {n' d' : Nat} {x : Value} {b : Nat} {fs : List Value} {a1 a2 a3 a4 : Value} (hM : M.1.cls = "ShareStoreModel") (hd : decode M.2.1 pc = .ok (.invokevirtual 159, 3)) (hC : CE l g M_M_symbolOf d' 0 0 [.ref b, a1, a2, a3, a4] n h (some x) n' h') (hb : h b = some (.inr (5, fs))) (hR0 : d' + 1 ≤ R.frames ∧ 8 + (M_M_symbolOf.2.2.1 + 11) + 36 * d' ≤ R.locals) (hz : k ≤ R.cells ∧ sl ≤ R.slots) (hst : (st.map fun v => v.category).sum ≤ 8) (kk : RJ l g M R TG XP n' h' k sl (pc + 3) lv (x :: st)) : RJ l g M R TG XP n h k sl pc lv (a4 :: a3 :: a2 :: a1 :: .ref b :: st) := r_cV (M' := M_M_symbolOf) (np := 4) (ci := 5) hC (by rw [hM]; exact wm_in (i := 770) (by decide +kernel) rfl) (wm_in (i := 772) (by decide +kernel) rfl) (wm_in (i := 45) (by decide +kernel) rfl) (wm_in (i := 52) (by decide +kernel) rfl) (wm_in (i := 773) (by decide +kernel) rfl) ⟨by decide, by decide, by decide +kernel⟩ rfl hd rfl rfl hb hR0 hz rfl hst kk
theorem rc_L_85 {l : Launch} {g : GX} {M : MT} {R : Room} {TG : TGT} {XP : XPT} {n : Nat} {h h' : AH} {k sl : Nat} {pc : Nat} {lv : List (Nat × Value)} {st : List Value} {n' d' : Nat} {x : Value} {b : Nat} {fs : List Value} {a1 a2 : Value} (hM : M.1.cls = "ShareStoreLaw") (hd : decode M.2.1 pc = .ok (.invokevirtual 85, 3)) (hC : CE l g M_M_fresh d' 0 0 [.ref b, a1, a2] n h (some x) n' h') (hb : h b = some (.inr (5, fs))) (hR0 : d' + 1 ≤ R.frames ∧ 8 + (M_M_fresh.2.2.1 + 11) + 36 * d' ≤ R.locals) (hz : k ≤ R.cells ∧ sl ≤ R.slots) (hst : (st.map fun v => v.category).sum ≤ 8) (kk : RJ l g M R TG XP n' h' k sl (pc + 3) lv (x :: st)) : RJ l g M R TG XP n h k sl pc lv (a2 :: a1 :: .ref b :: st) := r_cV (M' := M_M_fresh) (np := 2) (ci := 5) hC (by rw [hM]; exact wm_in (i := 774) (by decide +kernel) rfl) (wm_in (i := 775) (by decide +kernel) rfl) (wm_in (i := 776) (by decide +kernel) rfl) (wm_in (i := 52) (by decide +kernel) rfl) (wm_in (i := 777) (by decide +kernel) rfl) ⟨by decide, by decide, by decide +kernel⟩ rfl hd rfl rfl hb hR0 hz rfl hst kk
theorem rc_L_89 {l : Launch} {g : GX} {M : MT} {R : Room} {TG : TGT} {XP : XPT} {n : Nat} {h h' : AH} {k sl : Nat} {pc : Nat} {lv : List (Nat × Value)} {st : List Value} {n' d' : Nat} {x : Value} {b : Nat} {fs : List Value} {a1 : Value} (hM : M.1.cls = "ShareStoreLaw") (hd : decode M.2.1 pc = .ok (.invokevirtual 89, 3)) (hC : CE l g M_M_sent d' 0 0 [.ref b, a1] n h (some x) n' h') (hb : h b = some (.inr (5, fs))) (hR0 : d' + 1 ≤ R.frames ∧ 8 + (M_M_sent.2.2.1 + 11) + 36 * d' ≤ R.locals) (hz : k ≤ R.cells ∧ sl ≤ R.slots) (hst : (st.map fun v => v.category).sum ≤ 8) (kk : RJ l g M R TG XP n' h' k sl (pc + 3) lv (x :: st)) : RJ l g M R TG XP n h k sl pc lv (a1 :: .ref b :: st) := r_cV (M' := M_M_sent) (np := 1) (ci := 5) hC (by rw [hM]; exact wm_in (i := 778) (by decide +kernel) rfl) (wm_in (i := 779) (by decide +kernel) rfl) (wm_in (i := 780) (by decide +kernel) rfl) (wm_in (i := 52) (by decide +kernel) rfl) (wm_in (i := 781) (by decide +kernel) rfl) ⟨by decide, by decide, by decide +kernel⟩ rfl hd rfl rfl hb hR0 hz rfl hst kk
theorem rc_L_93 {l : Launch} {g : GX} {M : MT} {R : Room} {TG : TGT} {XP : XPT} {n : Nat} {h h' : AH} {k sl : Nat} {pc : Nat} {lv : List (Nat × Value)} {st : List Value} {n' d' : Nat} {x : Value} {b : Nat} {fs : List Value} {a1 : Value} (hM : M.1.cls = "ShareStoreLaw") (hd : decode M.2.1 pc = .ok (.invokevirtual 93, 3)) (hC : CE l g M_M_free d' 0 0 [.ref b, a1] n h (some x) n' h') (hb : h b = some (.inr (5, fs))) (hR0 : d' + 1 ≤ R.frames ∧ 8 + (M_M_free.2.2.1 + 11) + 36 * d' ≤ R.locals) (hz : k ≤ R.cells ∧ sl ≤ R.slots) (hst : (st.map fun v => v.category).sum ≤ 8) (kk : RJ l g M R TG XP n' h' k sl (pc + 3) lv (x :: st)) : RJ l g M R TG XP n h k sl pc lv (a1 :: .ref b :: st) := r_cV (M' := M_M_free) (np := 1) (ci := 5) hC (by rw [hM]; exact wm_in (i := 782) (by decide +kernel) rfl) (wm_in (i := 783) (by decide +kernel) rfl) (wm_in (i := 784) (by decide +kernel) rfl) (wm_in (i := 52) (by decide +kernel) rfl) (wm_in (i := 785) (by decide +kernel) rfl) ⟨by decide, by decide, by decide +kernel⟩ rfl hd rfl rfl hb hR0 hz rfl hst kk
theorem rc_L_98 {l : Launch} {g : GX} {M : MT} {R : Room} {TG : TGT} {XP : XPT} {n : Nat} {h h' : AH} {k sl : Nat} {pc : Nat} {lv : List (Nat × Value)} {st : List Value} {n' d' : Nat} {x : Value} {b : Nat} {fs : List Value} {a1 a2 a3 : Value} (hM : M.1.cls = "ShareStoreLaw") (hd : decode M.2.1 pc = .ok (.invokevirtual 98, 3)) (hC : CE l g M_M_record d' 0 0 [.ref b, a1, a2, a3] n h (some x) n' h') (hb : h b = some (.inr (5, fs))) (hR0 : d' + 1 ≤ R.frames ∧ 8 + (M_M_record.2.2.1 + 11) + 36 * d' ≤ R.locals) (hz : k ≤ R.cells ∧ sl ≤ R.slots) (hst : (st.map fun v => v.category).sum ≤ 8) (kk : RJ l g M R TG XP n' h' k sl (pc + 3) lv (x :: st)) : RJ l g M R TG XP n h k sl pc lv (a3 :: a2 :: a1 :: .ref b :: st) := r_cV (M' := M_M_record) (np := 3) (ci := 5) hC (by rw [hM]; exact wm_in (i := 786) (by decide +kernel) rfl) (wm_in (i := 787) (by decide +kernel) rfl) (wm_in (i := 788) (by decide +kernel) rfl) (wm_in (i := 52) (by decide +kernel) rfl) (wm_in (i := 789) (by decide +kernel) rfl) ⟨by decide, by decide, by decide +kernel⟩ rfl hd rfl rfl hb hR0 hz rfl hst kk
theorem rc_L_103 {l : Launch} {g : GX} {M : MT} {R : Room} {TG : TGT} {XP : XPT} {n : Nat} {h h' : AH} {k sl : Nat} {pc : Nat} {lv : List (Nat × Value)} {st : List Value} {n' d' : Nat} {x : Value} {b : Nat} {fs : List Value} {a1 a2 a3 a4 : Value} (hM : M.1.cls = "ShareStoreLaw") (hd : decode M.2.1 pc = .ok (.invokevirtual 103, 3)) (hC : CE l g M_M_block d' 0 0 [.ref b, a1, a2, a3, a4] n h (some x) n' h') (hb : h b = some (.inr (5, fs))) (hR0 : d' + 1 ≤ R.frames ∧ 8 + (M_M_block.2.2.1 + 11) + 36 * d' ≤ R.locals) (hz : k ≤ R.cells ∧ sl ≤ R.slots) (hst : (st.map fun v => v.category).sum ≤ 8) (kk : RJ l g M R TG XP n' h' k sl (pc + 3) lv (x :: st)) : RJ l g M R TG XP n h k sl pc lv (a4 :: a3 :: a2 :: a1 :: .ref b :: st) := r_cV (M' := M_M_block) (np := 4) (ci := 5) hC (by rw [hM]; exact wm_in (i := 790) (by decide +kernel) rfl) (wm_in (i := 791) (by decide +kernel) rfl) (wm_in (i := 792) (by decide +kernel) rfl) (wm_in (i := 52) (by decide +kernel) rfl) (wm_in (i := 793) (by decide +kernel) rfl) ⟨by decide, by decide, by decide +kernel⟩ rfl hd rfl rfl hb hR0 hz rfl hst kk
theorem rc_L_107 {l : Launch} {g : GX} {M : MT} {R : Room} {TG : TGT} {XP : XPT} {n : Nat} {h h' : AH} {k sl : Nat} {pc : Nat} {lv : List (Nat × Value)} {st : List Value} {n' d' : Nat} {x : Value} {b : Nat} {fs : List Value} {a1 a2 a3 : Value} (hM : M.1.cls = "ShareStoreLaw") (hd : decode M.2.1 pc = .ok (.invokevirtual 107, 3)) (hC : CE l g M_M_byteOf d' 0 0 [.ref b, a1, a2, a3] n h (some x) n' h') (hb : h b = some (.inr (5, fs))) (hR0 : d' + 1 ≤ R.frames ∧ 8 + (M_M_byteOf.2.2.1 + 11) + 36 * d' ≤ R.locals) (hz : k ≤ R.cells ∧ sl ≤ R.slots) (hst : (st.map fun v => v.category).sum ≤ 8) (kk : RJ l g M R TG XP n' h' k sl (pc + 3) lv (x :: st)) : RJ l g M R TG XP n h k sl pc lv (a3 :: a2 :: a1 :: .ref b :: st) := r_cV (M' := M_M_byteOf) (np := 3) (ci := 5) hC (by rw [hM]; exact wm_in (i := 794) (by decide +kernel) rfl) (wm_in (i := 795) (by decide +kernel) rfl) (wm_in (i := 796) (by decide +kernel) rfl) (wm_in (i := 52) (by decide +kernel) rfl) (wm_in (i := 797) (by decide +kernel) rfl) ⟨by decide, by decide, by decide +kernel⟩ rfl hd rfl rfl hb hR0 hz rfl hst kk
theorem rc_L_112 {l : Launch} {g : GX} {M : MT} {R : Room} {TG : TGT} {XP : XPT} {n : Nat} {h h' : AH} {k sl : Nat} {pc : Nat} {lv : List (Nat × Value)} {st : List Value} {n' d' : Nat} {x : Value} {b : Nat} {fs : List Value} {a1 a2 a3 a4 : Value} (hM : M.1.cls = "ShareStoreLaw") (hd : decode M.2.1 pc = .ok (.invokevirtual 112, 3)) (hC : CE l g M_M_symbol d' 0 0 [.ref b, a1, a2, a3, a4] n h (some x) n' h') (hb : h b = some (.inr (5, fs))) (hR0 : d' + 1 ≤ R.frames ∧ 8 + (M_M_symbol.2.2.1 + 11) + 36 * d' ≤ R.locals) (hz : k ≤ R.cells ∧ sl ≤ R.slots) (hst : (st.map fun v => v.category).sum ≤ 8) (kk : RJ l g M R TG XP n' h' k sl (pc + 3) lv (x :: st)) : RJ l g M R TG XP n h k sl pc lv (a4 :: a3 :: a2 :: a1 :: .ref b :: st) := r_cV (M' := M_M_symbol) (np := 4) (ci := 5) hC (by rw [hM]; exact wm_in (i := 798) (by decide +kernel) rfl) (wm_in (i := 799) (by decide +kernel) rfl) (wm_in (i := 800) (by decide +kernel) rfl) (wm_in (i := 52) (by decide +kernel) rfl) (wm_in (i := 801) (by decide +kernel) rfl) ⟨by decide, by decide, by decide +kernel⟩ rfl hd rfl rfl hb hR0 hz rfl hst kk
theorem rc_L_116 {l : Launch} {g : GX} {M : MT} {R : Room} {TG : TGT} {XP : XPT} {n : Nat} {h h' : AH} {k sl : Nat} {pc : Nat} {lv : List (Nat × Value)} {st : List Value} {n' d' : Nat} {x : Value} {b : Nat} {fs : List Value} {a1 : Value} (hM : M.1.cls = "ShareStoreLaw") (hd : decode M.2.1 pc = .ok (.invokevirtual 116, 3)) (hC : CE l g M_M_count d' 0 0 [.ref b, a1] n h (some x) n' h') (hb : h b = some (.inr (5, fs))) (hR0 : d' + 1 ≤ R.frames ∧ 8 + (M_M_count.2.2.1 + 11) + 36 * d' ≤ R.locals) (hz : k ≤ R.cells ∧ sl ≤ R.slots) (hst : (st.map fun v => v.category).sum ≤ 8) (kk : RJ l g M R TG XP n' h' k sl (pc + 3) lv (x :: st)) : RJ l g M R TG XP n h k sl pc lv (a1 :: .ref b :: st) := r_cV (M' := M_M_count) (np := 1) (ci := 5) hC (by rw [hM]; exact wm_in (i := 802) (by decide +kernel) rfl) (wm_in (i := 803) (by decide +kernel) rfl) (wm_in (i := 804) (by decide +kernel) rfl) (wm_in (i := 52) (by decide +kernel) rfl) (wm_in (i := 805) (by decide +kernel) rfl) ⟨by decide, by decide, by decide +kernel⟩ rfl hd rfl rfl hb hR0 hz rfl hst kk
theorem rc_L_121 {l : Launch} {g : GX} {M : MT} {R : Room} {TG : TGT} {XP : XPT} {n : Nat} {h h' : AH} {k sl : Nat} {pc : Nat} {lv : List (Nat × Value)} {st : List Value} {n' d' : Nat} {x : Value} {b : Nat} {fs : List Value} (hM : M.1.cls = "ShareStoreLaw") (hd : decode M.2.1 pc = .ok (.invokevirtual 121, 3)) (hC : CE l g M_M_digest d' 0 0 [.ref b] n h (some x) n' h') (hb : h b = some (.inr (5, fs))) (hR0 : d' + 1 ≤ R.frames ∧ 8 + (M_M_digest.2.2.1 + 11) + 36 * d' ≤ R.locals) (hz : k ≤ R.cells ∧ sl ≤ R.slots) (hst : (st.map fun v => v.category).sum ≤ 8) (kk : RJ l g M R TG XP n' h' k sl (pc + 3) lv (x :: st)) : RJ l g M R TG XP n h k sl pc lv (.ref b :: st) := r_cV (M' := M_M_digest) (np := 0) (ci := 5) hC (by rw [hM]; exact wm_in (i := 806) (by decide +kernel) rfl) (wm_in (i := 807) (by decide +kernel) rfl) (wm_in (i := 808) (by decide +kernel) rfl) (wm_in (i := 52) (by decide +kernel) rfl) (wm_in (i := 809) (by decide +kernel) rfl) ⟨by decide, by decide, by decide +kernel⟩ rfl hd rfl rfl hb hR0 hz rfl hst kk
theorem rc_M_178 {l : Launch} {g : GX} {M : MT} {R : Room} {TG : TGT} {XP : XPT} {n : Nat} {h h' : AH} {k sl : Nat} {pc : Nat} {lv : List (Nat × Value)} {st : List Value} {n' d' : Nat} {x : Value} {b : Nat} {fs : List Value} {a1 a2 a3 : Value} (hM : M.1.cls = "ShareStoreModel") (hd : decode M.2.1 pc = .ok (.invokevirtual 178, 3)) (hC : CE l g M_M_record d' 0 0 [.ref b, a1, a2, a3] n h (some x) n' h') (hb : h b = some (.inr (5, fs))) (hR0 : d' + 1 ≤ R.frames ∧ 8 + (M_M_record.2.2.1 + 11) + 36 * d' ≤ R.locals) (hz : k ≤ R.cells ∧ sl ≤ R.slots) (hst : (st.map fun v => v.category).sum ≤ 8) (kk : RJ l g M R TG XP n' h' k sl (pc + 3) lv (x :: st)) : RJ l g M R TG XP n h k sl pc lv (a3 :: a2 :: a1 :: .ref b :: st) := r_cV (M' := M_M_record) (np := 3) (ci := 5) hC (by rw [hM]; exact wm_in (i := 813) (by decide +kernel) rfl) (wm_in (i := 787) (by decide +kernel) rfl) (wm_in (i := 788) (by decide +kernel) rfl) (wm_in (i := 52) (by decide +kernel) rfl) (wm_in (i := 789) (by decide +kernel) rfl) ⟨by decide, by decide, by decide +kernel⟩ rfl hd rfl rfl hb hR0 hz rfl hst kk
theorem rc_L_126 {l : Launch} {g : GX} {M : MT} {R : Room} {TG : TGT} {XP : XPT} {n : Nat} {h h' : AH} {k sl : Nat} {pc : Nat} {lv : List (Nat × Value)} {st : List Value} {n' d' : Nat} {x : Value} {b : Nat} {fs : List Value} (hM : M.1.cls = "ShareStoreLaw") (hd : decode M.2.1 pc = .ok (.invokevirtual 126, 3)) (hC : CE l g M_M_clear d' 0 0 [.ref b] n h (some x) n' h') (hb : h b = some (.inr (5, fs))) (hR0 : d' + 1 ≤ R.frames ∧ 8 + (M_M_clear.2.2.1 + 11) + 36 * d' ≤ R.locals) (hz : k ≤ R.cells ∧ sl ≤ R.slots) (hst : (st.map fun v => v.category).sum ≤ 8) (kk : RJ l g M R TG XP n' h' k sl (pc + 3) lv (x :: st)) : RJ l g M R TG XP n h k sl pc lv (.ref b :: st) := r_cV (M' := M_M_clear) (np := 0) (ci := 5) hC (by rw [hM]; exact wm_in (i := 814) (by decide +kernel) rfl) (wm_in (i := 815) (by decide +kernel) rfl) (wm_in (i := 816) (by decide +kernel) rfl) (wm_in (i := 52) (by decide +kernel) rfl) (wm_in (i := 817) (by decide +kernel) rfl) ⟨by decide, by decide, by decide +kernel⟩ rfl hd rfl rfl hb hR0 hz rfl hst kk
theorem rc_M_181 {l : Launch} {g : GX} {M : MT} {R : Room} {TG : TGT} {XP : XPT} {n : Nat} {h h' : AH} {k sl : Nat} {pc : Nat} {lv : List (Nat × Value)} {st : List Value} {n' d' : Nat} {x : Value} {b : Nat} {fs : List Value} {a1 : Value} (hM : M.1.cls = "ShareStoreModel") (hd : decode M.2.1 pc = .ok (.invokevirtual 181, 3)) (hC : CE l g M_M_wipe d' 0 0 [.ref b, a1] n h (some x) n' h') (hb : h b = some (.inr (5, fs))) (hR0 : d' + 1 ≤ R.frames ∧ 8 + (M_M_wipe.2.2.1 + 11) + 36 * d' ≤ R.locals) (hz : k ≤ R.cells ∧ sl ≤ R.slots) (hst : (st.map fun v => v.category).sum ≤ 8) (kk : RJ l g M R TG XP n' h' k sl (pc + 3) lv (x :: st)) : RJ l g M R TG XP n h k sl pc lv (a1 :: .ref b :: st) := r_cV (M' := M_M_wipe) (np := 1) (ci := 5) hC (by rw [hM]; exact wm_in (i := 818) (by decide +kernel) rfl) (wm_in (i := 751) (by decide +kernel) rfl) (wm_in (i := 752) (by decide +kernel) rfl) (wm_in (i := 52) (by decide +kernel) rfl) (wm_in (i := 753) (by decide +kernel) rfl) ⟨by decide, by decide, by decide +kernel⟩ rfl hd rfl rfl hb hR0 hz rfl hst kk
end
section
theorem d_C_byteBefore_0 : decode M_C_byteBefore.2.1 0 = .ok (.iload_n 1, 1) := by decide +kernel
theorem d_C_byteBefore_1 : decode M_C_byteBefore.2.1 1 = .ok (.ifCond .lt 20, 3) := by decide +kernel
theorem d_C_byteBefore_4 : decode M_C_byteBefore.2.1 4 = .ok (.iload_n 1, 1) := by decide +kernel
theorem d_C_byteBefore_5 : decode M_C_byteBefore.2.1 5 = .ok (.iload_n 2, 1) := by decide +kernel
theorem d_C_byteBefore_6 : decode M_C_byteBefore.2.1 6 = .ok (.if_icmp .ge 15, 3) := by decide +kernel
theorem d_C_byteBefore_9 : decode M_C_byteBefore.2.1 9 = .ok (.iload_n 1, 1) := by decide +kernel
theorem d_C_byteBefore_10 : decode M_C_byteBefore.2.1 10 = .ok (.aload_n 0, 1) := by decide +kernel
theorem d_C_byteBefore_11 : decode M_C_byteBefore.2.1 11 = .ok (.arraylength, 1) := by decide +kernel
theorem d_C_byteBefore_12 : decode M_C_byteBefore.2.1 12 = .ok (.if_icmp .ge 9, 3) := by decide +kernel
theorem d_C_byteBefore_15 : decode M_C_byteBefore.2.1 15 = .ok (.aload_n 0, 1) := by decide +kernel
theorem d_C_byteBefore_16 : decode M_C_byteBefore.2.1 16 = .ok (.iload_n 1, 1) := by decide +kernel
theorem d_C_byteBefore_17 : decode M_C_byteBefore.2.1 17 = .ok (.iaload, 1) := by decide +kernel
theorem d_C_byteBefore_18 : decode M_C_byteBefore.2.1 18 = .ok (.goto 4, 3) := by decide +kernel
theorem d_C_byteBefore_21 : decode M_C_byteBefore.2.1 21 = .ok (.iconst 0, 1) := by decide +kernel
theorem d_C_byteBefore_22 : decode M_C_byteBefore.2.1 22 = .ok (.ireturn, 1) := by decide +kernel
theorem d_C_clearColumn_0 : decode M_C_clearColumn.2.1 0 = .ok (.iconst 0, 1) := by decide +kernel
theorem d_C_clearColumn_1 : decode M_C_clearColumn.2.1 1 = .ok (.istore_n 3, 1) := by decide +kernel
theorem d_C_clearColumn_2 : decode M_C_clearColumn.2.1 2 = .ok (.iload_n 3, 1) := by decide +kernel
theorem d_C_clearColumn_3 : decode M_C_clearColumn.2.1 3 = .ok (.iload_n 2, 1) := by decide +kernel
theorem d_C_clearColumn_4 : decode M_C_clearColumn.2.1 4 = .ok (.if_icmp .ge 108, 3) := by decide +kernel
theorem d_C_clearColumn_7 : decode M_C_clearColumn.2.1 7 = .ok (.iload_n 3, 1) := by decide +kernel
theorem d_C_clearColumn_8 : decode M_C_clearColumn.2.1 8 = .ok (.iload_n 1, 1) := by decide +kernel
theorem d_C_clearColumn_9 : decode M_C_clearColumn.2.1 9 = .ok (.if_icmp .ne 7, 3) := by decide +kernel
theorem d_C_clearColumn_12 : decode M_C_clearColumn.2.1 12 = .ok (.iconst 0, 1) := by decide +kernel
theorem d_C_clearColumn_13 : decode M_C_clearColumn.2.1 13 = .ok (.goto 11, 3) := by decide +kernel
theorem d_C_clearColumn_16 : decode M_C_clearColumn.2.1 16 = .ok (.aload_n 0, 1) := by decide +kernel
theorem d_C_clearColumn_17 : decode M_C_clearColumn.2.1 17 = .ok (.getfield 29, 3) := by decide +kernel
theorem d_C_clearColumn_20 : decode M_C_clearColumn.2.1 20 = .ok (.iload_n 3, 1) := by decide +kernel
theorem d_C_clearColumn_21 : decode M_C_clearColumn.2.1 21 = .ok (.aaload, 1) := by decide +kernel
theorem d_C_clearColumn_22 : decode M_C_clearColumn.2.1 22 = .ok (.iload_n 1, 1) := by decide +kernel
theorem d_C_clearColumn_23 : decode M_C_clearColumn.2.1 23 = .ok (.iaload, 1) := by decide +kernel
theorem d_C_clearColumn_24 : decode M_C_clearColumn.2.1 24 = .ok (.istore 4, 2) := by decide +kernel
theorem d_C_clearColumn_26 : decode M_C_clearColumn.2.1 26 = .ok (.iconst 0, 1) := by decide +kernel
theorem d_C_clearColumn_27 : decode M_C_clearColumn.2.1 27 = .ok (.istore 5, 2) := by decide +kernel
theorem d_C_clearColumn_29 : decode M_C_clearColumn.2.1 29 = .ok (.iload 5, 2) := by decide +kernel
theorem d_C_clearColumn_31 : decode M_C_clearColumn.2.1 31 = .ok (.iload_n 2, 1) := by decide +kernel
theorem d_C_clearColumn_32 : decode M_C_clearColumn.2.1 32 = .ok (.if_icmp .ge 74, 3) := by decide +kernel
theorem d_C_clearColumn_35 : decode M_C_clearColumn.2.1 35 = .ok (.iload 4, 2) := by decide +kernel
theorem d_C_clearColumn_37 : decode M_C_clearColumn.2.1 37 = .ok (.ifCond .eq 69, 3) := by decide +kernel
theorem d_C_clearColumn_40 : decode M_C_clearColumn.2.1 40 = .ok (.aload_n 0, 1) := by decide +kernel
theorem d_C_clearColumn_41 : decode M_C_clearColumn.2.1 41 = .ok (.getfield 29, 3) := by decide +kernel
theorem d_C_clearColumn_44 : decode M_C_clearColumn.2.1 44 = .ok (.iload_n 3, 1) := by decide +kernel
theorem d_C_clearColumn_45 : decode M_C_clearColumn.2.1 45 = .ok (.aaload, 1) := by decide +kernel
theorem d_C_clearColumn_46 : decode M_C_clearColumn.2.1 46 = .ok (.iload 5, 2) := by decide +kernel
theorem d_C_clearColumn_48 : decode M_C_clearColumn.2.1 48 = .ok (.dup2, 1) := by decide +kernel
theorem d_C_clearColumn_49 : decode M_C_clearColumn.2.1 49 = .ok (.iaload, 1) := by decide +kernel
theorem d_C_clearColumn_50 : decode M_C_clearColumn.2.1 50 = .ok (.aload_n 0, 1) := by decide +kernel
theorem d_C_clearColumn_51 : decode M_C_clearColumn.2.1 51 = .ok (.getfield 12, 3) := by decide +kernel
theorem d_C_clearColumn_54 : decode M_C_clearColumn.2.1 54 = .ok (.iload 4, 2) := by decide +kernel
theorem d_C_clearColumn_56 : decode M_C_clearColumn.2.1 56 = .ok (.aload_n 0, 1) := by decide +kernel
theorem d_C_clearColumn_57 : decode M_C_clearColumn.2.1 57 = .ok (.getfield 29, 3) := by decide +kernel
theorem d_C_clearColumn_60 : decode M_C_clearColumn.2.1 60 = .ok (.iload_n 1, 1) := by decide +kernel
theorem d_C_clearColumn_61 : decode M_C_clearColumn.2.1 61 = .ok (.aaload, 1) := by decide +kernel
theorem d_C_clearColumn_62 : decode M_C_clearColumn.2.1 62 = .ok (.iload 5, 2) := by decide +kernel
theorem d_C_clearColumn_64 : decode M_C_clearColumn.2.1 64 = .ok (.iaload, 1) := by decide +kernel
theorem d_C_clearColumn_65 : decode M_C_clearColumn.2.1 65 = .ok (.invokevirtual 39, 3) := by decide +kernel
theorem d_C_clearColumn_68 : decode M_C_clearColumn.2.1 68 = .ok (.ixor, 1) := by decide +kernel
theorem d_C_clearColumn_69 : decode M_C_clearColumn.2.1 69 = .ok (.iastore, 1) := by decide +kernel
theorem d_C_clearColumn_70 : decode M_C_clearColumn.2.1 70 = .ok (.aload_n 0, 1) := by decide +kernel
theorem d_C_clearColumn_71 : decode M_C_clearColumn.2.1 71 = .ok (.getfield 32, 3) := by decide +kernel
theorem d_C_clearColumn_74 : decode M_C_clearColumn.2.1 74 = .ok (.iload_n 3, 1) := by decide +kernel
theorem d_C_clearColumn_75 : decode M_C_clearColumn.2.1 75 = .ok (.aaload, 1) := by decide +kernel
theorem d_C_clearColumn_76 : decode M_C_clearColumn.2.1 76 = .ok (.iload 5, 2) := by decide +kernel
theorem d_C_clearColumn_78 : decode M_C_clearColumn.2.1 78 = .ok (.dup2, 1) := by decide +kernel
theorem d_C_clearColumn_79 : decode M_C_clearColumn.2.1 79 = .ok (.iaload, 1) := by decide +kernel
theorem d_C_clearColumn_80 : decode M_C_clearColumn.2.1 80 = .ok (.aload_n 0, 1) := by decide +kernel
theorem d_C_clearColumn_81 : decode M_C_clearColumn.2.1 81 = .ok (.getfield 12, 3) := by decide +kernel
theorem d_C_clearColumn_84 : decode M_C_clearColumn.2.1 84 = .ok (.iload 4, 2) := by decide +kernel
theorem d_C_clearColumn_86 : decode M_C_clearColumn.2.1 86 = .ok (.aload_n 0, 1) := by decide +kernel
theorem d_C_clearColumn_87 : decode M_C_clearColumn.2.1 87 = .ok (.getfield 32, 3) := by decide +kernel
theorem d_C_clearColumn_90 : decode M_C_clearColumn.2.1 90 = .ok (.iload_n 1, 1) := by decide +kernel
theorem d_C_clearColumn_91 : decode M_C_clearColumn.2.1 91 = .ok (.aaload, 1) := by decide +kernel
theorem d_C_clearColumn_92 : decode M_C_clearColumn.2.1 92 = .ok (.iload 5, 2) := by decide +kernel
theorem d_C_clearColumn_94 : decode M_C_clearColumn.2.1 94 = .ok (.iaload, 1) := by decide +kernel
theorem d_C_clearColumn_95 : decode M_C_clearColumn.2.1 95 = .ok (.invokevirtual 39, 3) := by decide +kernel
theorem d_C_clearColumn_98 : decode M_C_clearColumn.2.1 98 = .ok (.ixor, 1) := by decide +kernel
theorem d_C_clearColumn_99 : decode M_C_clearColumn.2.1 99 = .ok (.iastore, 1) := by decide +kernel
theorem d_C_clearColumn_100 : decode M_C_clearColumn.2.1 100 = .ok (.iinc 5 1, 3) := by decide +kernel
theorem d_C_clearColumn_103 : decode M_C_clearColumn.2.1 103 = .ok (.goto (-74), 3) := by decide +kernel
theorem d_C_clearColumn_106 : decode M_C_clearColumn.2.1 106 = .ok (.iinc 3 1, 3) := by decide +kernel
theorem d_C_clearColumn_109 : decode M_C_clearColumn.2.1 109 = .ok (.goto (-107), 3) := by decide +kernel
theorem d_C_clearColumn_112 : decode M_C_clearColumn.2.1 112 = .ok (.return_, 1) := by decide +kernel
theorem d_C_give_0 : decode M_C_give.2.1 0 = .ok (.iload_n 1, 1) := by decide +kernel
theorem d_C_give_1 : decode M_C_give.2.1 1 = .ok (.ifCond .lt 29, 3) := by decide +kernel
theorem d_C_give_4 : decode M_C_give.2.1 4 = .ok (.iload_n 1, 1) := by decide +kernel
theorem d_C_give_5 : decode M_C_give.2.1 5 = .ok (.iconst 5, 1) := by decide +kernel
theorem d_C_give_6 : decode M_C_give.2.1 6 = .ok (.if_icmp .ge 24, 3) := by decide +kernel
theorem d_C_give_9 : decode M_C_give.2.1 9 = .ok (.aload_n 2, 1) := by decide +kernel
theorem d_C_give_10 : decode M_C_give.2.1 10 = .ok (.arraylength, 1) := by decide +kernel
theorem d_C_give_11 : decode M_C_give.2.1 11 = .ok (.bipush 8, 2) := by decide +kernel
theorem d_C_give_13 : decode M_C_give.2.1 13 = .ok (.if_icmp .lt 17, 3) := by decide +kernel
theorem d_C_give_16 : decode M_C_give.2.1 16 = .ok (.aload_n 2, 1) := by decide +kernel
theorem d_C_give_17 : decode M_C_give.2.1 17 = .ok (.iconst 0, 1) := by decide +kernel
theorem d_C_give_18 : decode M_C_give.2.1 18 = .ok (.aload_n 0, 1) := by decide +kernel
theorem d_C_give_19 : decode M_C_give.2.1 19 = .ok (.getfield 26, 3) := by decide +kernel
theorem d_C_give_22 : decode M_C_give.2.1 22 = .ok (.iload_n 1, 1) := by decide +kernel
theorem d_C_give_23 : decode M_C_give.2.1 23 = .ok (.aaload, 1) := by decide +kernel
theorem d_C_give_24 : decode M_C_give.2.1 24 = .ok (.iconst 0, 1) := by decide +kernel
theorem d_C_give_25 : decode M_C_give.2.1 25 = .ok (.bipush 8, 2) := by decide +kernel
theorem d_C_give_27 : decode M_C_give.2.1 27 = .ok (.invokestatic 69, 3) := by decide +kernel
theorem d_C_give_30 : decode M_C_give.2.1 30 = .ok (.return_, 1) := by decide +kernel
theorem d_C_init_0 : decode M_C_init.2.1 0 = .ok (.aload_n 0, 1) := by decide +kernel
theorem d_C_init_1 : decode M_C_init.2.1 1 = .ok (.invokespecial 3, 3) := by decide +kernel
theorem d_C_init_4 : decode M_C_init.2.1 4 = .ok (.aload_n 0, 1) := by decide +kernel
theorem d_C_init_5 : decode M_C_init.2.1 5 = .ok (.new 9, 3) := by decide +kernel
theorem d_C_init_8 : decode M_C_init.2.1 8 = .ok (.dup, 1) := by decide +kernel
theorem d_C_init_9 : decode M_C_init.2.1 9 = .ok (.invokespecial 11, 3) := by decide +kernel
theorem d_C_init_12 : decode M_C_init.2.1 12 = .ok (.putfield 12, 3) := by decide +kernel
theorem d_C_init_15 : decode M_C_init.2.1 15 = .ok (.aload_n 0, 1) := by decide +kernel
theorem d_C_init_16 : decode M_C_init.2.1 16 = .ok (.bipush 12, 2) := by decide +kernel
theorem d_C_init_18 : decode M_C_init.2.1 18 = .ok (.bipush 8, 2) := by decide +kernel
theorem d_C_init_20 : decode M_C_init.2.1 20 = .ok (.multianewarray 18 2, 4) := by decide +kernel
theorem d_C_init_24 : decode M_C_init.2.1 24 = .ok (.putfield 20, 3) := by decide +kernel
theorem d_C_init_27 : decode M_C_init.2.1 27 = .ok (.aload_n 0, 1) := by decide +kernel
theorem d_C_init_28 : decode M_C_init.2.1 28 = .ok (.bipush 8, 2) := by decide +kernel
theorem d_C_init_30 : decode M_C_init.2.1 30 = .ok (.bipush 8, 2) := by decide +kernel
theorem d_C_init_32 : decode M_C_init.2.1 32 = .ok (.multianewarray 18 2, 4) := by decide +kernel
theorem d_C_init_36 : decode M_C_init.2.1 36 = .ok (.putfield 23, 3) := by decide +kernel
theorem d_C_init_39 : decode M_C_init.2.1 39 = .ok (.aload_n 0, 1) := by decide +kernel
theorem d_C_init_40 : decode M_C_init.2.1 40 = .ok (.iconst 5, 1) := by decide +kernel
theorem d_C_init_41 : decode M_C_init.2.1 41 = .ok (.bipush 8, 2) := by decide +kernel
theorem d_C_init_43 : decode M_C_init.2.1 43 = .ok (.multianewarray 18 2, 4) := by decide +kernel
theorem d_C_init_47 : decode M_C_init.2.1 47 = .ok (.putfield 26, 3) := by decide +kernel
theorem d_C_init_50 : decode M_C_init.2.1 50 = .ok (.aload_n 0, 1) := by decide +kernel
theorem d_C_init_51 : decode M_C_init.2.1 51 = .ok (.bipush 8, 2) := by decide +kernel
theorem d_C_init_53 : decode M_C_init.2.1 53 = .ok (.bipush 8, 2) := by decide +kernel
theorem d_C_init_55 : decode M_C_init.2.1 55 = .ok (.multianewarray 18 2, 4) := by decide +kernel
theorem d_C_init_59 : decode M_C_init.2.1 59 = .ok (.putfield 29, 3) := by decide +kernel
theorem d_C_init_62 : decode M_C_init.2.1 62 = .ok (.aload_n 0, 1) := by decide +kernel
theorem d_C_init_63 : decode M_C_init.2.1 63 = .ok (.bipush 8, 2) := by decide +kernel
theorem d_C_init_65 : decode M_C_init.2.1 65 = .ok (.bipush 8, 2) := by decide +kernel
theorem d_C_init_67 : decode M_C_init.2.1 67 = .ok (.multianewarray 18 2, 4) := by decide +kernel
theorem d_C_init_71 : decode M_C_init.2.1 71 = .ok (.putfield 32, 3) := by decide +kernel
theorem d_C_init_74 : decode M_C_init.2.1 74 = .ok (.aload_n 0, 1) := by decide +kernel
theorem d_C_init_75 : decode M_C_init.2.1 75 = .ok (.bipush 8, 2) := by decide +kernel
theorem d_C_init_77 : decode M_C_init.2.1 77 = .ok (.newarray .int, 2) := by decide +kernel
theorem d_C_init_79 : decode M_C_init.2.1 79 = .ok (.putfield 35, 3) := by decide +kernel
theorem d_C_init_82 : decode M_C_init.2.1 82 = .ok (.iconst 0, 1) := by decide +kernel
theorem d_C_init_83 : decode M_C_init.2.1 83 = .ok (.istore_n 1, 1) := by decide +kernel
theorem d_C_init_84 : decode M_C_init.2.1 84 = .ok (.iload_n 1, 1) := by decide +kernel
theorem d_C_init_85 : decode M_C_init.2.1 85 = .ok (.bipush 12, 2) := by decide +kernel
theorem d_C_init_87 : decode M_C_init.2.1 87 = .ok (.if_icmp .ge 46, 3) := by decide +kernel
theorem d_C_init_90 : decode M_C_init.2.1 90 = .ok (.iconst 1, 1) := by decide +kernel
theorem d_C_init_91 : decode M_C_init.2.1 91 = .ok (.istore_n 2, 1) := by decide +kernel
theorem d_C_init_92 : decode M_C_init.2.1 92 = .ok (.iconst 0, 1) := by decide +kernel
theorem d_C_init_93 : decode M_C_init.2.1 93 = .ok (.istore_n 3, 1) := by decide +kernel
theorem d_C_init_94 : decode M_C_init.2.1 94 = .ok (.iload_n 3, 1) := by decide +kernel
theorem d_C_init_95 : decode M_C_init.2.1 95 = .ok (.bipush 8, 2) := by decide +kernel
theorem d_C_init_97 : decode M_C_init.2.1 97 = .ok (.if_icmp .ge 30, 3) := by decide +kernel
theorem d_C_init_100 : decode M_C_init.2.1 100 = .ok (.aload_n 0, 1) := by decide +kernel
theorem d_C_init_101 : decode M_C_init.2.1 101 = .ok (.getfield 20, 3) := by decide +kernel
theorem d_C_init_104 : decode M_C_init.2.1 104 = .ok (.iload_n 1, 1) := by decide +kernel
theorem d_C_init_105 : decode M_C_init.2.1 105 = .ok (.aaload, 1) := by decide +kernel
theorem d_C_init_106 : decode M_C_init.2.1 106 = .ok (.iload_n 3, 1) := by decide +kernel
theorem d_C_init_107 : decode M_C_init.2.1 107 = .ok (.iload_n 2, 1) := by decide +kernel
theorem d_C_init_108 : decode M_C_init.2.1 108 = .ok (.iastore, 1) := by decide +kernel
theorem d_C_init_109 : decode M_C_init.2.1 109 = .ok (.aload_n 0, 1) := by decide +kernel
theorem d_C_init_110 : decode M_C_init.2.1 110 = .ok (.getfield 12, 3) := by decide +kernel
theorem d_C_init_113 : decode M_C_init.2.1 113 = .ok (.iload_n 2, 1) := by decide +kernel
theorem d_C_init_114 : decode M_C_init.2.1 114 = .ok (.iload_n 1, 1) := by decide +kernel
theorem d_C_init_115 : decode M_C_init.2.1 115 = .ok (.iconst 1, 1) := by decide +kernel
theorem d_C_init_116 : decode M_C_init.2.1 116 = .ok (.iadd, 1) := by decide +kernel
theorem d_C_init_117 : decode M_C_init.2.1 117 = .ok (.invokevirtual 39, 3) := by decide +kernel
theorem d_C_init_120 : decode M_C_init.2.1 120 = .ok (.istore_n 2, 1) := by decide +kernel
theorem d_C_init_121 : decode M_C_init.2.1 121 = .ok (.iinc 3 1, 3) := by decide +kernel
theorem d_C_init_124 : decode M_C_init.2.1 124 = .ok (.goto (-30), 3) := by decide +kernel
theorem d_C_init_127 : decode M_C_init.2.1 127 = .ok (.iinc 1 1, 3) := by decide +kernel
theorem d_C_init_130 : decode M_C_init.2.1 130 = .ok (.goto (-46), 3) := by decide +kernel
theorem d_C_init_133 : decode M_C_init.2.1 133 = .ok (.return_, 1) := by decide +kernel
theorem d_C_invert_0 : decode M_C_invert.2.1 0 = .ok (.iload_n 2, 1) := by decide +kernel
theorem d_C_invert_1 : decode M_C_invert.2.1 1 = .ok (.bipush 8, 2) := by decide +kernel
theorem d_C_invert_3 : decode M_C_invert.2.1 3 = .ok (.if_icmp .gt 9, 3) := by decide +kernel
theorem d_C_invert_6 : decode M_C_invert.2.1 6 = .ok (.iload_n 2, 1) := by decide +kernel
theorem d_C_invert_7 : decode M_C_invert.2.1 7 = .ok (.aload_n 1, 1) := by decide +kernel
theorem d_C_invert_8 : decode M_C_invert.2.1 8 = .ok (.arraylength, 1) := by decide +kernel
theorem d_C_invert_9 : decode M_C_invert.2.1 9 = .ok (.if_icmp .le 4, 3) := by decide +kernel
theorem d_C_invert_12 : decode M_C_invert.2.1 12 = .ok (.return_, 1) := by decide +kernel
theorem d_C_invert_13 : decode M_C_invert.2.1 13 = .ok (.iconst 0, 1) := by decide +kernel
theorem d_C_invert_14 : decode M_C_invert.2.1 14 = .ok (.istore_n 3, 1) := by decide +kernel
theorem d_C_invert_15 : decode M_C_invert.2.1 15 = .ok (.iload_n 3, 1) := by decide +kernel
theorem d_C_invert_16 : decode M_C_invert.2.1 16 = .ok (.iload_n 2, 1) := by decide +kernel
theorem d_C_invert_17 : decode M_C_invert.2.1 17 = .ok (.if_icmp .ge 62, 3) := by decide +kernel
theorem d_C_invert_20 : decode M_C_invert.2.1 20 = .ok (.iconst 0, 1) := by decide +kernel
theorem d_C_invert_21 : decode M_C_invert.2.1 21 = .ok (.istore 4, 2) := by decide +kernel
theorem d_C_invert_23 : decode M_C_invert.2.1 23 = .ok (.iload 4, 2) := by decide +kernel
theorem d_C_invert_25 : decode M_C_invert.2.1 25 = .ok (.iload_n 2, 1) := by decide +kernel
theorem d_C_invert_26 : decode M_C_invert.2.1 26 = .ok (.if_icmp .ge 47, 3) := by decide +kernel
theorem d_C_invert_29 : decode M_C_invert.2.1 29 = .ok (.aload_n 0, 1) := by decide +kernel
theorem d_C_invert_30 : decode M_C_invert.2.1 30 = .ok (.getfield 29, 3) := by decide +kernel
theorem d_C_invert_33 : decode M_C_invert.2.1 33 = .ok (.iload_n 3, 1) := by decide +kernel
theorem d_C_invert_34 : decode M_C_invert.2.1 34 = .ok (.aaload, 1) := by decide +kernel
theorem d_C_invert_35 : decode M_C_invert.2.1 35 = .ok (.iload 4, 2) := by decide +kernel
theorem d_C_invert_37 : decode M_C_invert.2.1 37 = .ok (.aload_n 0, 1) := by decide +kernel
theorem d_C_invert_38 : decode M_C_invert.2.1 38 = .ok (.aload_n 1, 1) := by decide +kernel
theorem d_C_invert_39 : decode M_C_invert.2.1 39 = .ok (.iload_n 3, 1) := by decide +kernel
theorem d_C_invert_40 : decode M_C_invert.2.1 40 = .ok (.iaload, 1) := by decide +kernel
theorem d_C_invert_41 : decode M_C_invert.2.1 41 = .ok (.iload 4, 2) := by decide +kernel
theorem d_C_invert_43 : decode M_C_invert.2.1 43 = .ok (.invokevirtual 59, 3) := by decide +kernel
theorem d_C_invert_46 : decode M_C_invert.2.1 46 = .ok (.iastore, 1) := by decide +kernel
theorem d_C_invert_47 : decode M_C_invert.2.1 47 = .ok (.aload_n 0, 1) := by decide +kernel
theorem d_C_invert_48 : decode M_C_invert.2.1 48 = .ok (.getfield 32, 3) := by decide +kernel
theorem d_C_invert_51 : decode M_C_invert.2.1 51 = .ok (.iload_n 3, 1) := by decide +kernel
theorem d_C_invert_52 : decode M_C_invert.2.1 52 = .ok (.aaload, 1) := by decide +kernel
theorem d_C_invert_53 : decode M_C_invert.2.1 53 = .ok (.iload 4, 2) := by decide +kernel
theorem d_C_invert_55 : decode M_C_invert.2.1 55 = .ok (.iload_n 3, 1) := by decide +kernel
theorem d_C_invert_56 : decode M_C_invert.2.1 56 = .ok (.iload 4, 2) := by decide +kernel
theorem d_C_invert_58 : decode M_C_invert.2.1 58 = .ok (.if_icmp .ne 7, 3) := by decide +kernel
theorem d_C_invert_61 : decode M_C_invert.2.1 61 = .ok (.iconst 1, 1) := by decide +kernel
theorem d_C_invert_62 : decode M_C_invert.2.1 62 = .ok (.goto 4, 3) := by decide +kernel
theorem d_C_invert_65 : decode M_C_invert.2.1 65 = .ok (.iconst 0, 1) := by decide +kernel
theorem d_C_invert_66 : decode M_C_invert.2.1 66 = .ok (.iastore, 1) := by decide +kernel
theorem d_C_invert_67 : decode M_C_invert.2.1 67 = .ok (.iinc 4 1, 3) := by decide +kernel
theorem d_C_invert_70 : decode M_C_invert.2.1 70 = .ok (.goto (-47), 3) := by decide +kernel
theorem d_C_invert_73 : decode M_C_invert.2.1 73 = .ok (.iinc 3 1, 3) := by decide +kernel
theorem d_C_invert_76 : decode M_C_invert.2.1 76 = .ok (.goto (-61), 3) := by decide +kernel
theorem d_C_invert_79 : decode M_C_invert.2.1 79 = .ok (.iconst 0, 1) := by decide +kernel
theorem d_C_invert_80 : decode M_C_invert.2.1 80 = .ok (.istore_n 3, 1) := by decide +kernel
theorem d_C_invert_81 : decode M_C_invert.2.1 81 = .ok (.iload_n 3, 1) := by decide +kernel
theorem d_C_invert_82 : decode M_C_invert.2.1 82 = .ok (.iload_n 2, 1) := by decide +kernel
theorem d_C_invert_83 : decode M_C_invert.2.1 83 = .ok (.if_icmp .ge 94, 3) := by decide +kernel
theorem d_C_invert_86 : decode M_C_invert.2.1 86 = .ok (.aload_n 0, 1) := by decide +kernel
theorem d_C_invert_87 : decode M_C_invert.2.1 87 = .ok (.getfield 29, 3) := by decide +kernel
theorem d_C_invert_90 : decode M_C_invert.2.1 90 = .ok (.iload_n 3, 1) := by decide +kernel
theorem d_C_invert_91 : decode M_C_invert.2.1 91 = .ok (.aaload, 1) := by decide +kernel
theorem d_C_invert_92 : decode M_C_invert.2.1 92 = .ok (.iload_n 3, 1) := by decide +kernel
theorem d_C_invert_93 : decode M_C_invert.2.1 93 = .ok (.iaload, 1) := by decide +kernel
theorem d_C_invert_94 : decode M_C_invert.2.1 94 = .ok (.istore 4, 2) := by decide +kernel
theorem d_C_invert_96 : decode M_C_invert.2.1 96 = .ok (.iconst 0, 1) := by decide +kernel
theorem d_C_invert_97 : decode M_C_invert.2.1 97 = .ok (.istore 5, 2) := by decide +kernel
theorem d_C_invert_99 : decode M_C_invert.2.1 99 = .ok (.iload 5, 2) := by decide +kernel
theorem d_C_invert_101 : decode M_C_invert.2.1 101 = .ok (.iload_n 2, 1) := by decide +kernel
theorem d_C_invert_102 : decode M_C_invert.2.1 102 = .ok (.if_icmp .ge 63, 3) := by decide +kernel
theorem d_C_invert_105 : decode M_C_invert.2.1 105 = .ok (.aload_n 0, 1) := by decide +kernel
theorem d_C_invert_106 : decode M_C_invert.2.1 106 = .ok (.getfield 29, 3) := by decide +kernel
theorem d_C_invert_109 : decode M_C_invert.2.1 109 = .ok (.iload_n 3, 1) := by decide +kernel
theorem d_C_invert_110 : decode M_C_invert.2.1 110 = .ok (.aaload, 1) := by decide +kernel
theorem d_C_invert_111 : decode M_C_invert.2.1 111 = .ok (.iload 5, 2) := by decide +kernel
theorem d_C_invert_113 : decode M_C_invert.2.1 113 = .ok (.aload_n 0, 1) := by decide +kernel
theorem d_C_invert_114 : decode M_C_invert.2.1 114 = .ok (.getfield 12, 3) := by decide +kernel
theorem d_C_invert_117 : decode M_C_invert.2.1 117 = .ok (.aload_n 0, 1) := by decide +kernel
theorem d_C_invert_118 : decode M_C_invert.2.1 118 = .ok (.getfield 29, 3) := by decide +kernel
theorem d_C_invert_121 : decode M_C_invert.2.1 121 = .ok (.iload_n 3, 1) := by decide +kernel
theorem d_C_invert_122 : decode M_C_invert.2.1 122 = .ok (.aaload, 1) := by decide +kernel
theorem d_C_invert_123 : decode M_C_invert.2.1 123 = .ok (.iload 5, 2) := by decide +kernel
theorem d_C_invert_125 : decode M_C_invert.2.1 125 = .ok (.iaload, 1) := by decide +kernel
theorem d_C_invert_126 : decode M_C_invert.2.1 126 = .ok (.iload 4, 2) := by decide +kernel
theorem d_C_invert_128 : decode M_C_invert.2.1 128 = .ok (.invokevirtual 62, 3) := by decide +kernel
theorem d_C_invert_131 : decode M_C_invert.2.1 131 = .ok (.iastore, 1) := by decide +kernel
theorem d_C_invert_132 : decode M_C_invert.2.1 132 = .ok (.aload_n 0, 1) := by decide +kernel
theorem d_C_invert_133 : decode M_C_invert.2.1 133 = .ok (.getfield 32, 3) := by decide +kernel
theorem d_C_invert_136 : decode M_C_invert.2.1 136 = .ok (.iload_n 3, 1) := by decide +kernel
theorem d_C_invert_137 : decode M_C_invert.2.1 137 = .ok (.aaload, 1) := by decide +kernel
theorem d_C_invert_138 : decode M_C_invert.2.1 138 = .ok (.iload 5, 2) := by decide +kernel
theorem d_C_invert_140 : decode M_C_invert.2.1 140 = .ok (.aload_n 0, 1) := by decide +kernel
theorem d_C_invert_141 : decode M_C_invert.2.1 141 = .ok (.getfield 12, 3) := by decide +kernel
theorem d_C_invert_144 : decode M_C_invert.2.1 144 = .ok (.aload_n 0, 1) := by decide +kernel
theorem d_C_invert_145 : decode M_C_invert.2.1 145 = .ok (.getfield 32, 3) := by decide +kernel
theorem d_C_invert_148 : decode M_C_invert.2.1 148 = .ok (.iload_n 3, 1) := by decide +kernel
theorem d_C_invert_149 : decode M_C_invert.2.1 149 = .ok (.aaload, 1) := by decide +kernel
theorem d_C_invert_150 : decode M_C_invert.2.1 150 = .ok (.iload 5, 2) := by decide +kernel
theorem d_C_invert_152 : decode M_C_invert.2.1 152 = .ok (.iaload, 1) := by decide +kernel
theorem d_C_invert_153 : decode M_C_invert.2.1 153 = .ok (.iload 4, 2) := by decide +kernel
theorem d_C_invert_155 : decode M_C_invert.2.1 155 = .ok (.invokevirtual 62, 3) := by decide +kernel
theorem d_C_invert_158 : decode M_C_invert.2.1 158 = .ok (.iastore, 1) := by decide +kernel
theorem d_C_invert_159 : decode M_C_invert.2.1 159 = .ok (.iinc 5 1, 3) := by decide +kernel
theorem d_C_invert_162 : decode M_C_invert.2.1 162 = .ok (.goto (-63), 3) := by decide +kernel
theorem d_C_invert_165 : decode M_C_invert.2.1 165 = .ok (.aload_n 0, 1) := by decide +kernel
theorem d_C_invert_166 : decode M_C_invert.2.1 166 = .ok (.iload_n 3, 1) := by decide +kernel
theorem d_C_invert_167 : decode M_C_invert.2.1 167 = .ok (.iload_n 2, 1) := by decide +kernel
theorem d_C_invert_168 : decode M_C_invert.2.1 168 = .ok (.invokevirtual 65, 3) := by decide +kernel
theorem d_C_invert_171 : decode M_C_invert.2.1 171 = .ok (.iinc 3 1, 3) := by decide +kernel
theorem d_C_invert_174 : decode M_C_invert.2.1 174 = .ok (.goto (-93), 3) := by decide +kernel
theorem d_C_invert_177 : decode M_C_invert.2.1 177 = .ok (.return_, 1) := by decide +kernel
theorem d_C_load_0 : decode M_C_load.2.1 0 = .ok (.iload_n 2, 1) := by decide +kernel
theorem d_C_load_1 : decode M_C_load.2.1 1 = .ok (.istore 4, 2) := by decide +kernel
theorem d_C_load_3 : decode M_C_load.2.1 3 = .ok (.iconst 0, 1) := by decide +kernel
theorem d_C_load_4 : decode M_C_load.2.1 4 = .ok (.istore 5, 2) := by decide +kernel
theorem d_C_load_6 : decode M_C_load.2.1 6 = .ok (.iload 5, 2) := by decide +kernel
theorem d_C_load_8 : decode M_C_load.2.1 8 = .ok (.iconst 5, 1) := by decide +kernel
theorem d_C_load_9 : decode M_C_load.2.1 9 = .ok (.if_icmp .ge 43, 3) := by decide +kernel
theorem d_C_load_12 : decode M_C_load.2.1 12 = .ok (.iload 5, 2) := by decide +kernel
theorem d_C_load_14 : decode M_C_load.2.1 14 = .ok (.istore 6, 2) := by decide +kernel
theorem d_C_load_16 : decode M_C_load.2.1 16 = .ok (.iload 6, 2) := by decide +kernel
theorem d_C_load_18 : decode M_C_load.2.1 18 = .ok (.iconst 5, 1) := by decide +kernel
theorem d_C_load_19 : decode M_C_load.2.1 19 = .ok (.if_icmp .ge 27, 3) := by decide +kernel
theorem d_C_load_22 : decode M_C_load.2.1 22 = .ok (.aload_n 0, 1) := by decide +kernel
theorem d_C_load_23 : decode M_C_load.2.1 23 = .ok (.iload 5, 2) := by decide +kernel
theorem d_C_load_25 : decode M_C_load.2.1 25 = .ok (.iload 6, 2) := by decide +kernel
theorem d_C_load_27 : decode M_C_load.2.1 27 = .ok (.aload_n 1, 1) := by decide +kernel
theorem d_C_load_28 : decode M_C_load.2.1 28 = .ok (.iload 4, 2) := by decide +kernel
theorem d_C_load_30 : decode M_C_load.2.1 30 = .ok (.iload_n 3, 1) := by decide +kernel
theorem d_C_load_31 : decode M_C_load.2.1 31 = .ok (.invokestatic 47, 3) := by decide +kernel
theorem d_C_load_34 : decode M_C_load.2.1 34 = .ok (.invokevirtual 51, 3) := by decide +kernel
theorem d_C_load_37 : decode M_C_load.2.1 37 = .ok (.iinc 4 1, 3) := by decide +kernel
theorem d_C_load_40 : decode M_C_load.2.1 40 = .ok (.iinc 6 1, 3) := by decide +kernel
theorem d_C_load_43 : decode M_C_load.2.1 43 = .ok (.goto (-27), 3) := by decide +kernel
theorem d_C_load_46 : decode M_C_load.2.1 46 = .ok (.iinc 5 1, 3) := by decide +kernel
theorem d_C_load_49 : decode M_C_load.2.1 49 = .ok (.goto (-43), 3) := by decide +kernel
theorem d_C_load_52 : decode M_C_load.2.1 52 = .ok (.iconst 0, 1) := by decide +kernel
theorem d_C_load_53 : decode M_C_load.2.1 53 = .ok (.istore 5, 2) := by decide +kernel
theorem d_C_load_55 : decode M_C_load.2.1 55 = .ok (.iload 5, 2) := by decide +kernel
theorem d_C_load_57 : decode M_C_load.2.1 57 = .ok (.iconst 5, 1) := by decide +kernel
theorem d_C_load_58 : decode M_C_load.2.1 58 = .ok (.if_icmp .ge 43, 3) := by decide +kernel
theorem d_C_load_61 : decode M_C_load.2.1 61 = .ok (.iconst 5, 1) := by decide +kernel
theorem d_C_load_62 : decode M_C_load.2.1 62 = .ok (.istore 6, 2) := by decide +kernel
theorem d_C_load_64 : decode M_C_load.2.1 64 = .ok (.iload 6, 2) := by decide +kernel
theorem d_C_load_66 : decode M_C_load.2.1 66 = .ok (.bipush 8, 2) := by decide +kernel
theorem d_C_load_68 : decode M_C_load.2.1 68 = .ok (.if_icmp .ge 27, 3) := by decide +kernel
theorem d_C_load_71 : decode M_C_load.2.1 71 = .ok (.aload_n 0, 1) := by decide +kernel
theorem d_C_load_72 : decode M_C_load.2.1 72 = .ok (.iload 5, 2) := by decide +kernel
theorem d_C_load_74 : decode M_C_load.2.1 74 = .ok (.iload 6, 2) := by decide +kernel
theorem d_C_load_76 : decode M_C_load.2.1 76 = .ok (.aload_n 1, 1) := by decide +kernel
theorem d_C_load_77 : decode M_C_load.2.1 77 = .ok (.iload 4, 2) := by decide +kernel
theorem d_C_load_79 : decode M_C_load.2.1 79 = .ok (.iload_n 3, 1) := by decide +kernel
theorem d_C_load_80 : decode M_C_load.2.1 80 = .ok (.invokestatic 47, 3) := by decide +kernel
theorem d_C_load_83 : decode M_C_load.2.1 83 = .ok (.invokevirtual 51, 3) := by decide +kernel
theorem d_C_load_86 : decode M_C_load.2.1 86 = .ok (.iinc 4 1, 3) := by decide +kernel
theorem d_C_load_89 : decode M_C_load.2.1 89 = .ok (.iinc 6 1, 3) := by decide +kernel
theorem d_C_load_92 : decode M_C_load.2.1 92 = .ok (.goto (-28), 3) := by decide +kernel
theorem d_C_load_95 : decode M_C_load.2.1 95 = .ok (.iinc 5 1, 3) := by decide +kernel
theorem d_C_load_98 : decode M_C_load.2.1 98 = .ok (.goto (-43), 3) := by decide +kernel
theorem d_C_load_101 : decode M_C_load.2.1 101 = .ok (.return_, 1) := by decide +kernel
theorem d_C_mirror_0 : decode M_C_mirror.2.1 0 = .ok (.aload_n 0, 1) := by decide +kernel
theorem d_C_mirror_1 : decode M_C_mirror.2.1 1 = .ok (.getfield 23, 3) := by decide +kernel
theorem d_C_mirror_4 : decode M_C_mirror.2.1 4 = .ok (.iload_n 1, 1) := by decide +kernel
theorem d_C_mirror_5 : decode M_C_mirror.2.1 5 = .ok (.aaload, 1) := by decide +kernel
theorem d_C_mirror_6 : decode M_C_mirror.2.1 6 = .ok (.iload_n 2, 1) := by decide +kernel
theorem d_C_mirror_7 : decode M_C_mirror.2.1 7 = .ok (.iload_n 3, 1) := by decide +kernel
theorem d_C_mirror_8 : decode M_C_mirror.2.1 8 = .ok (.iastore, 1) := by decide +kernel
theorem d_C_mirror_9 : decode M_C_mirror.2.1 9 = .ok (.aload_n 0, 1) := by decide +kernel
theorem d_C_mirror_10 : decode M_C_mirror.2.1 10 = .ok (.getfield 23, 3) := by decide +kernel
theorem d_C_mirror_13 : decode M_C_mirror.2.1 13 = .ok (.iload_n 2, 1) := by decide +kernel
theorem d_C_mirror_14 : decode M_C_mirror.2.1 14 = .ok (.aaload, 1) := by decide +kernel
theorem d_C_mirror_15 : decode M_C_mirror.2.1 15 = .ok (.iload_n 1, 1) := by decide +kernel
theorem d_C_mirror_16 : decode M_C_mirror.2.1 16 = .ok (.iload_n 3, 1) := by decide +kernel
theorem d_C_mirror_17 : decode M_C_mirror.2.1 17 = .ok (.iastore, 1) := by decide +kernel
theorem d_C_mirror_18 : decode M_C_mirror.2.1 18 = .ok (.return_, 1) := by decide +kernel
theorem d_C_multiplyByInverse_0 : decode M_C_multiplyByInverse.2.1 0 = .ok (.aload_n 1, 1) := by decide +kernel
theorem d_C_multiplyByInverse_1 : decode M_C_multiplyByInverse.2.1 1 = .ok (.arraylength, 1) := by decide +kernel
theorem d_C_multiplyByInverse_2 : decode M_C_multiplyByInverse.2.1 2 = .ok (.bipush 8, 2) := by decide +kernel
theorem d_C_multiplyByInverse_4 : decode M_C_multiplyByInverse.2.1 4 = .ok (.if_icmp .ge 4, 3) := by decide +kernel
theorem d_C_multiplyByInverse_7 : decode M_C_multiplyByInverse.2.1 7 = .ok (.return_, 1) := by decide +kernel
theorem d_C_multiplyByInverse_8 : decode M_C_multiplyByInverse.2.1 8 = .ok (.iconst 0, 1) := by decide +kernel
theorem d_C_multiplyByInverse_9 : decode M_C_multiplyByInverse.2.1 9 = .ok (.istore_n 2, 1) := by decide +kernel
theorem d_C_multiplyByInverse_10 : decode M_C_multiplyByInverse.2.1 10 = .ok (.iload_n 2, 1) := by decide +kernel
theorem d_C_multiplyByInverse_11 : decode M_C_multiplyByInverse.2.1 11 = .ok (.bipush 8, 2) := by decide +kernel
theorem d_C_multiplyByInverse_13 : decode M_C_multiplyByInverse.2.1 13 = .ok (.if_icmp .ge 57, 3) := by decide +kernel
theorem d_C_multiplyByInverse_16 : decode M_C_multiplyByInverse.2.1 16 = .ok (.iconst 0, 1) := by decide +kernel
theorem d_C_multiplyByInverse_17 : decode M_C_multiplyByInverse.2.1 17 = .ok (.istore_n 3, 1) := by decide +kernel
theorem d_C_multiplyByInverse_18 : decode M_C_multiplyByInverse.2.1 18 = .ok (.iconst 0, 1) := by decide +kernel
theorem d_C_multiplyByInverse_19 : decode M_C_multiplyByInverse.2.1 19 = .ok (.istore 4, 2) := by decide +kernel
theorem d_C_multiplyByInverse_21 : decode M_C_multiplyByInverse.2.1 21 = .ok (.iload 4, 2) := by decide +kernel
theorem d_C_multiplyByInverse_23 : decode M_C_multiplyByInverse.2.1 23 = .ok (.bipush 8, 2) := by decide +kernel
theorem d_C_multiplyByInverse_25 : decode M_C_multiplyByInverse.2.1 25 = .ok (.if_icmp .ge 32, 3) := by decide +kernel
theorem d_C_multiplyByInverse_28 : decode M_C_multiplyByInverse.2.1 28 = .ok (.iload_n 3, 1) := by decide +kernel
theorem d_C_multiplyByInverse_29 : decode M_C_multiplyByInverse.2.1 29 = .ok (.aload_n 0, 1) := by decide +kernel
theorem d_C_multiplyByInverse_30 : decode M_C_multiplyByInverse.2.1 30 = .ok (.getfield 12, 3) := by decide +kernel
theorem d_C_multiplyByInverse_33 : decode M_C_multiplyByInverse.2.1 33 = .ok (.aload_n 0, 1) := by decide +kernel
theorem d_C_multiplyByInverse_34 : decode M_C_multiplyByInverse.2.1 34 = .ok (.getfield 32, 3) := by decide +kernel
theorem d_C_multiplyByInverse_37 : decode M_C_multiplyByInverse.2.1 37 = .ok (.iload_n 2, 1) := by decide +kernel
theorem d_C_multiplyByInverse_38 : decode M_C_multiplyByInverse.2.1 38 = .ok (.aaload, 1) := by decide +kernel
theorem d_C_multiplyByInverse_39 : decode M_C_multiplyByInverse.2.1 39 = .ok (.iload 4, 2) := by decide +kernel
theorem d_C_multiplyByInverse_41 : decode M_C_multiplyByInverse.2.1 41 = .ok (.iaload, 1) := by decide +kernel
theorem d_C_multiplyByInverse_42 : decode M_C_multiplyByInverse.2.1 42 = .ok (.aload_n 1, 1) := by decide +kernel
theorem d_C_multiplyByInverse_43 : decode M_C_multiplyByInverse.2.1 43 = .ok (.iload 4, 2) := by decide +kernel
theorem d_C_multiplyByInverse_45 : decode M_C_multiplyByInverse.2.1 45 = .ok (.iaload, 1) := by decide +kernel
theorem d_C_multiplyByInverse_46 : decode M_C_multiplyByInverse.2.1 46 = .ok (.invokevirtual 39, 3) := by decide +kernel
theorem d_C_multiplyByInverse_49 : decode M_C_multiplyByInverse.2.1 49 = .ok (.ixor, 1) := by decide +kernel
theorem d_C_multiplyByInverse_50 : decode M_C_multiplyByInverse.2.1 50 = .ok (.istore_n 3, 1) := by decide +kernel
theorem d_C_multiplyByInverse_51 : decode M_C_multiplyByInverse.2.1 51 = .ok (.iinc 4 1, 3) := by decide +kernel
theorem d_C_multiplyByInverse_54 : decode M_C_multiplyByInverse.2.1 54 = .ok (.goto (-33), 3) := by decide +kernel
theorem d_C_multiplyByInverse_57 : decode M_C_multiplyByInverse.2.1 57 = .ok (.aload_n 0, 1) := by decide +kernel
theorem d_C_multiplyByInverse_58 : decode M_C_multiplyByInverse.2.1 58 = .ok (.getfield 35, 3) := by decide +kernel
theorem d_C_multiplyByInverse_61 : decode M_C_multiplyByInverse.2.1 61 = .ok (.iload_n 2, 1) := by decide +kernel
theorem d_C_multiplyByInverse_62 : decode M_C_multiplyByInverse.2.1 62 = .ok (.iload_n 3, 1) := by decide +kernel
theorem d_C_multiplyByInverse_63 : decode M_C_multiplyByInverse.2.1 63 = .ok (.iastore, 1) := by decide +kernel
theorem d_C_multiplyByInverse_64 : decode M_C_multiplyByInverse.2.1 64 = .ok (.iinc 2 1, 3) := by decide +kernel
theorem d_C_multiplyByInverse_67 : decode M_C_multiplyByInverse.2.1 67 = .ok (.goto (-57), 3) := by decide +kernel
theorem d_C_multiplyByInverse_70 : decode M_C_multiplyByInverse.2.1 70 = .ok (.aload_n 0, 1) := by decide +kernel
theorem d_C_multiplyByInverse_71 : decode M_C_multiplyByInverse.2.1 71 = .ok (.getfield 35, 3) := by decide +kernel
theorem d_C_multiplyByInverse_74 : decode M_C_multiplyByInverse.2.1 74 = .ok (.iconst 0, 1) := by decide +kernel
theorem d_C_multiplyByInverse_75 : decode M_C_multiplyByInverse.2.1 75 = .ok (.aload_n 1, 1) := by decide +kernel
theorem d_C_multiplyByInverse_76 : decode M_C_multiplyByInverse.2.1 76 = .ok (.iconst 0, 1) := by decide +kernel
theorem d_C_multiplyByInverse_77 : decode M_C_multiplyByInverse.2.1 77 = .ok (.bipush 8, 2) := by decide +kernel
theorem d_C_multiplyByInverse_79 : decode M_C_multiplyByInverse.2.1 79 = .ok (.invokestatic 69, 3) := by decide +kernel
theorem d_C_multiplyByInverse_82 : decode M_C_multiplyByInverse.2.1 82 = .ok (.return_, 1) := by decide +kernel
theorem d_C_rowByte_0 : decode M_C_rowByte.2.1 0 = .ok (.iload_n 1, 1) := by decide +kernel
theorem d_C_rowByte_1 : decode M_C_rowByte.2.1 1 = .ok (.invokestatic 43, 3) := by decide +kernel
theorem d_C_rowByte_4 : decode M_C_rowByte.2.1 4 = .ok (.ifCond .eq 24, 3) := by decide +kernel
theorem d_C_rowByte_7 : decode M_C_rowByte.2.1 7 = .ok (.iload_n 2, 1) := by decide +kernel
theorem d_C_rowByte_8 : decode M_C_rowByte.2.1 8 = .ok (.ifCond .lt 20, 3) := by decide +kernel
theorem d_C_rowByte_11 : decode M_C_rowByte.2.1 11 = .ok (.iload_n 2, 1) := by decide +kernel
theorem d_C_rowByte_12 : decode M_C_rowByte.2.1 12 = .ok (.bipush 8, 2) := by decide +kernel
theorem d_C_rowByte_14 : decode M_C_rowByte.2.1 14 = .ok (.if_icmp .ge 14, 3) := by decide +kernel
theorem d_C_rowByte_17 : decode M_C_rowByte.2.1 17 = .ok (.aload_n 0, 1) := by decide +kernel
theorem d_C_rowByte_18 : decode M_C_rowByte.2.1 18 = .ok (.getfield 20, 3) := by decide +kernel
theorem d_C_rowByte_21 : decode M_C_rowByte.2.1 21 = .ok (.iload_n 1, 1) := by decide +kernel
theorem d_C_rowByte_22 : decode M_C_rowByte.2.1 22 = .ok (.aaload, 1) := by decide +kernel
theorem d_C_rowByte_23 : decode M_C_rowByte.2.1 23 = .ok (.iload_n 2, 1) := by decide +kernel
theorem d_C_rowByte_24 : decode M_C_rowByte.2.1 24 = .ok (.iaload, 1) := by decide +kernel
theorem d_C_rowByte_25 : decode M_C_rowByte.2.1 25 = .ok (.goto 4, 3) := by decide +kernel
theorem d_C_rowByte_28 : decode M_C_rowByte.2.1 28 = .ok (.iconst 0, 1) := by decide +kernel
theorem d_C_rowByte_29 : decode M_C_rowByte.2.1 29 = .ok (.ireturn, 1) := by decide +kernel
theorem d_C_share_0 : decode M_C_share.2.1 0 = .ok (.iconst 0, 1) := by decide +kernel
theorem d_C_share_1 : decode M_C_share.2.1 1 = .ok (.istore_n 3, 1) := by decide +kernel
theorem d_C_share_2 : decode M_C_share.2.1 2 = .ok (.iload_n 3, 1) := by decide +kernel
theorem d_C_share_3 : decode M_C_share.2.1 3 = .ok (.bipush 8, 2) := by decide +kernel
theorem d_C_share_5 : decode M_C_share.2.1 5 = .ok (.if_icmp .ge 67, 3) := by decide +kernel
theorem d_C_share_8 : decode M_C_share.2.1 8 = .ok (.iload_n 3, 1) := by decide +kernel
theorem d_C_share_9 : decode M_C_share.2.1 9 = .ok (.aload_n 2, 1) := by decide +kernel
theorem d_C_share_10 : decode M_C_share.2.1 10 = .ok (.arraylength, 1) := by decide +kernel
theorem d_C_share_11 : decode M_C_share.2.1 11 = .ok (.if_icmp .ge 61, 3) := by decide +kernel
theorem d_C_share_14 : decode M_C_share.2.1 14 = .ok (.iconst 0, 1) := by decide +kernel
theorem d_C_share_15 : decode M_C_share.2.1 15 = .ok (.istore 4, 2) := by decide +kernel
theorem d_C_share_17 : decode M_C_share.2.1 17 = .ok (.iconst 0, 1) := by decide +kernel
theorem d_C_share_18 : decode M_C_share.2.1 18 = .ok (.istore 5, 2) := by decide +kernel
theorem d_C_share_20 : decode M_C_share.2.1 20 = .ok (.iload 5, 2) := by decide +kernel
theorem d_C_share_22 : decode M_C_share.2.1 22 = .ok (.bipush 8, 2) := by decide +kernel
theorem d_C_share_24 : decode M_C_share.2.1 24 = .ok (.if_icmp .ge 37, 3) := by decide +kernel
theorem d_C_share_27 : decode M_C_share.2.1 27 = .ok (.iload 4, 2) := by decide +kernel
theorem d_C_share_29 : decode M_C_share.2.1 29 = .ok (.aload_n 0, 1) := by decide +kernel
theorem d_C_share_30 : decode M_C_share.2.1 30 = .ok (.getfield 12, 3) := by decide +kernel
theorem d_C_share_33 : decode M_C_share.2.1 33 = .ok (.aload_n 0, 1) := by decide +kernel
theorem d_C_share_34 : decode M_C_share.2.1 34 = .ok (.iload_n 1, 1) := by decide +kernel
theorem d_C_share_35 : decode M_C_share.2.1 35 = .ok (.iload 5, 2) := by decide +kernel
theorem d_C_share_37 : decode M_C_share.2.1 37 = .ok (.invokevirtual 59, 3) := by decide +kernel
theorem d_C_share_40 : decode M_C_share.2.1 40 = .ok (.aload_n 0, 1) := by decide +kernel
theorem d_C_share_41 : decode M_C_share.2.1 41 = .ok (.getfield 23, 3) := by decide +kernel
theorem d_C_share_44 : decode M_C_share.2.1 44 = .ok (.iload 5, 2) := by decide +kernel
theorem d_C_share_46 : decode M_C_share.2.1 46 = .ok (.aaload, 1) := by decide +kernel
theorem d_C_share_47 : decode M_C_share.2.1 47 = .ok (.iload_n 3, 1) := by decide +kernel
theorem d_C_share_48 : decode M_C_share.2.1 48 = .ok (.iaload, 1) := by decide +kernel
theorem d_C_share_49 : decode M_C_share.2.1 49 = .ok (.invokevirtual 39, 3) := by decide +kernel
theorem d_C_share_52 : decode M_C_share.2.1 52 = .ok (.ixor, 1) := by decide +kernel
theorem d_C_share_53 : decode M_C_share.2.1 53 = .ok (.istore 4, 2) := by decide +kernel
theorem d_C_share_55 : decode M_C_share.2.1 55 = .ok (.iinc 5 1, 3) := by decide +kernel
theorem d_C_share_58 : decode M_C_share.2.1 58 = .ok (.goto (-38), 3) := by decide +kernel
theorem d_C_share_61 : decode M_C_share.2.1 61 = .ok (.aload_n 2, 1) := by decide +kernel
theorem d_C_share_62 : decode M_C_share.2.1 62 = .ok (.iload_n 3, 1) := by decide +kernel
theorem d_C_share_63 : decode M_C_share.2.1 63 = .ok (.iload 4, 2) := by decide +kernel
theorem d_C_share_65 : decode M_C_share.2.1 65 = .ok (.iastore, 1) := by decide +kernel
theorem d_C_share_66 : decode M_C_share.2.1 66 = .ok (.iinc 3 1, 3) := by decide +kernel
theorem d_C_share_69 : decode M_C_share.2.1 69 = .ok (.goto (-67), 3) := by decide +kernel
theorem d_C_share_72 : decode M_C_share.2.1 72 = .ok (.return_, 1) := by decide +kernel
theorem d_C_solve_0 : decode M_C_solve.2.1 0 = .ok (.aload_n 1, 1) := by decide +kernel
theorem d_C_solve_1 : decode M_C_solve.2.1 1 = .ok (.arraylength, 1) := by decide +kernel
theorem d_C_solve_2 : decode M_C_solve.2.1 2 = .ok (.iconst 5, 1) := by decide +kernel
theorem d_C_solve_3 : decode M_C_solve.2.1 3 = .ok (.if_icmp .ge 4, 3) := by decide +kernel
theorem d_C_solve_6 : decode M_C_solve.2.1 6 = .ok (.return_, 1) := by decide +kernel
theorem d_C_solve_7 : decode M_C_solve.2.1 7 = .ok (.iconst 5, 1) := by decide +kernel
theorem d_C_solve_8 : decode M_C_solve.2.1 8 = .ok (.istore_n 2, 1) := by decide +kernel
theorem d_C_solve_9 : decode M_C_solve.2.1 9 = .ok (.iload_n 2, 1) := by decide +kernel
theorem d_C_solve_10 : decode M_C_solve.2.1 10 = .ok (.bipush 8, 2) := by decide +kernel
theorem d_C_solve_12 : decode M_C_solve.2.1 12 = .ok (.if_icmp .ge 14, 3) := by decide +kernel
theorem d_C_solve_15 : decode M_C_solve.2.1 15 = .ok (.aload_n 0, 1) := by decide +kernel
theorem d_C_solve_16 : decode M_C_solve.2.1 16 = .ok (.iload_n 2, 1) := by decide +kernel
theorem d_C_solve_17 : decode M_C_solve.2.1 17 = .ok (.invokevirtual 75, 3) := by decide +kernel
theorem d_C_solve_20 : decode M_C_solve.2.1 20 = .ok (.iinc 2 1, 3) := by decide +kernel
theorem d_C_solve_23 : decode M_C_solve.2.1 23 = .ok (.goto (-14), 3) := by decide +kernel
theorem d_C_solve_26 : decode M_C_solve.2.1 26 = .ok (.iconst 0, 1) := by decide +kernel
theorem d_C_solve_27 : decode M_C_solve.2.1 27 = .ok (.istore_n 2, 1) := by decide +kernel
theorem d_C_solve_28 : decode M_C_solve.2.1 28 = .ok (.iload_n 2, 1) := by decide +kernel
theorem d_C_solve_29 : decode M_C_solve.2.1 29 = .ok (.iconst 5, 1) := by decide +kernel
theorem d_C_solve_30 : decode M_C_solve.2.1 30 = .ok (.if_icmp .ge 74, 3) := by decide +kernel
theorem d_C_solve_33 : decode M_C_solve.2.1 33 = .ok (.iconst 0, 1) := by decide +kernel
theorem d_C_solve_34 : decode M_C_solve.2.1 34 = .ok (.istore_n 3, 1) := by decide +kernel
theorem d_C_solve_35 : decode M_C_solve.2.1 35 = .ok (.iload_n 3, 1) := by decide +kernel
theorem d_C_solve_36 : decode M_C_solve.2.1 36 = .ok (.iconst 5, 1) := by decide +kernel
theorem d_C_solve_37 : decode M_C_solve.2.1 37 = .ok (.if_icmp .ge 61, 3) := by decide +kernel
theorem d_C_solve_40 : decode M_C_solve.2.1 40 = .ok (.iconst 5, 1) := by decide +kernel
theorem d_C_solve_41 : decode M_C_solve.2.1 41 = .ok (.istore 4, 2) := by decide +kernel
theorem d_C_solve_43 : decode M_C_solve.2.1 43 = .ok (.iload 4, 2) := by decide +kernel
theorem d_C_solve_45 : decode M_C_solve.2.1 45 = .ok (.bipush 8, 2) := by decide +kernel
theorem d_C_solve_47 : decode M_C_solve.2.1 47 = .ok (.if_icmp .ge 45, 3) := by decide +kernel
theorem d_C_solve_50 : decode M_C_solve.2.1 50 = .ok (.aload_n 0, 1) := by decide +kernel
theorem d_C_solve_51 : decode M_C_solve.2.1 51 = .ok (.getfield 26, 3) := by decide +kernel
theorem d_C_solve_54 : decode M_C_solve.2.1 54 = .ok (.iload_n 2, 1) := by decide +kernel
theorem d_C_solve_55 : decode M_C_solve.2.1 55 = .ok (.aaload, 1) := by decide +kernel
theorem d_C_solve_56 : decode M_C_solve.2.1 56 = .ok (.iload_n 3, 1) := by decide +kernel
theorem d_C_solve_57 : decode M_C_solve.2.1 57 = .ok (.dup2, 1) := by decide +kernel
theorem d_C_solve_58 : decode M_C_solve.2.1 58 = .ok (.iaload, 1) := by decide +kernel
theorem d_C_solve_59 : decode M_C_solve.2.1 59 = .ok (.aload_n 0, 1) := by decide +kernel
theorem d_C_solve_60 : decode M_C_solve.2.1 60 = .ok (.getfield 12, 3) := by decide +kernel
theorem d_C_solve_63 : decode M_C_solve.2.1 63 = .ok (.aload_n 0, 1) := by decide +kernel
theorem d_C_solve_64 : decode M_C_solve.2.1 64 = .ok (.aload_n 1, 1) := by decide +kernel
theorem d_C_solve_65 : decode M_C_solve.2.1 65 = .ok (.iload_n 2, 1) := by decide +kernel
theorem d_C_solve_66 : decode M_C_solve.2.1 66 = .ok (.iaload, 1) := by decide +kernel
theorem d_C_solve_67 : decode M_C_solve.2.1 67 = .ok (.iload 4, 2) := by decide +kernel
theorem d_C_solve_69 : decode M_C_solve.2.1 69 = .ok (.invokevirtual 59, 3) := by decide +kernel
theorem d_C_solve_72 : decode M_C_solve.2.1 72 = .ok (.aload_n 0, 1) := by decide +kernel
theorem d_C_solve_73 : decode M_C_solve.2.1 73 = .ok (.getfield 23, 3) := by decide +kernel
theorem d_C_solve_76 : decode M_C_solve.2.1 76 = .ok (.iload 4, 2) := by decide +kernel
theorem d_C_solve_78 : decode M_C_solve.2.1 78 = .ok (.aaload, 1) := by decide +kernel
theorem d_C_solve_79 : decode M_C_solve.2.1 79 = .ok (.iload_n 3, 1) := by decide +kernel
theorem d_C_solve_80 : decode M_C_solve.2.1 80 = .ok (.iaload, 1) := by decide +kernel
theorem d_C_solve_81 : decode M_C_solve.2.1 81 = .ok (.invokevirtual 39, 3) := by decide +kernel
theorem d_C_solve_84 : decode M_C_solve.2.1 84 = .ok (.ixor, 1) := by decide +kernel
theorem d_C_solve_85 : decode M_C_solve.2.1 85 = .ok (.iastore, 1) := by decide +kernel
theorem d_C_solve_86 : decode M_C_solve.2.1 86 = .ok (.iinc 4 1, 3) := by decide +kernel
theorem d_C_solve_89 : decode M_C_solve.2.1 89 = .ok (.goto (-46), 3) := by decide +kernel
theorem d_C_solve_92 : decode M_C_solve.2.1 92 = .ok (.iinc 3 1, 3) := by decide +kernel
theorem d_C_solve_95 : decode M_C_solve.2.1 95 = .ok (.goto (-60), 3) := by decide +kernel
theorem d_C_solve_98 : decode M_C_solve.2.1 98 = .ok (.iinc 2 1, 3) := by decide +kernel
theorem d_C_solve_101 : decode M_C_solve.2.1 101 = .ok (.goto (-73), 3) := by decide +kernel
theorem d_C_solve_104 : decode M_C_solve.2.1 104 = .ok (.iconst 0, 1) := by decide +kernel
theorem d_C_solve_105 : decode M_C_solve.2.1 105 = .ok (.istore_n 2, 1) := by decide +kernel
theorem d_C_solve_106 : decode M_C_solve.2.1 106 = .ok (.iload_n 2, 1) := by decide +kernel
theorem d_C_solve_107 : decode M_C_solve.2.1 107 = .ok (.iconst 5, 1) := by decide +kernel
theorem d_C_solve_108 : decode M_C_solve.2.1 108 = .ok (.if_icmp .ge 14, 3) := by decide +kernel
theorem d_C_solve_111 : decode M_C_solve.2.1 111 = .ok (.aload_n 0, 1) := by decide +kernel
theorem d_C_solve_112 : decode M_C_solve.2.1 112 = .ok (.iload_n 2, 1) := by decide +kernel
theorem d_C_solve_113 : decode M_C_solve.2.1 113 = .ok (.invokevirtual 75, 3) := by decide +kernel
theorem d_C_solve_116 : decode M_C_solve.2.1 116 = .ok (.iinc 2 1, 3) := by decide +kernel
theorem d_C_solve_119 : decode M_C_solve.2.1 119 = .ok (.goto (-13), 3) := by decide +kernel
theorem d_C_solve_122 : decode M_C_solve.2.1 122 = .ok (.return_, 1) := by decide +kernel
theorem d_C_solveColumn_0 : decode M_C_solveColumn.2.1 0 = .ok (.iconst 0, 1) := by decide +kernel
theorem d_C_solveColumn_1 : decode M_C_solveColumn.2.1 1 = .ok (.istore_n 2, 1) := by decide +kernel
theorem d_C_solveColumn_2 : decode M_C_solveColumn.2.1 2 = .ok (.iload_n 2, 1) := by decide +kernel
theorem d_C_solveColumn_3 : decode M_C_solveColumn.2.1 3 = .ok (.iconst 5, 1) := by decide +kernel
theorem d_C_solveColumn_4 : decode M_C_solveColumn.2.1 4 = .ok (.if_icmp .ge 61, 3) := by decide +kernel
theorem d_C_solveColumn_7 : decode M_C_solveColumn.2.1 7 = .ok (.iconst 0, 1) := by decide +kernel
theorem d_C_solveColumn_8 : decode M_C_solveColumn.2.1 8 = .ok (.istore_n 3, 1) := by decide +kernel
theorem d_C_solveColumn_9 : decode M_C_solveColumn.2.1 9 = .ok (.iconst 0, 1) := by decide +kernel
theorem d_C_solveColumn_10 : decode M_C_solveColumn.2.1 10 = .ok (.istore 4, 2) := by decide +kernel
theorem d_C_solveColumn_12 : decode M_C_solveColumn.2.1 12 = .ok (.iload 4, 2) := by decide +kernel
theorem d_C_solveColumn_14 : decode M_C_solveColumn.2.1 14 = .ok (.iconst 5, 1) := by decide +kernel
theorem d_C_solveColumn_15 : decode M_C_solveColumn.2.1 15 = .ok (.if_icmp .ge 37, 3) := by decide +kernel
theorem d_C_solveColumn_18 : decode M_C_solveColumn.2.1 18 = .ok (.iload_n 3, 1) := by decide +kernel
theorem d_C_solveColumn_19 : decode M_C_solveColumn.2.1 19 = .ok (.aload_n 0, 1) := by decide +kernel
theorem d_C_solveColumn_20 : decode M_C_solveColumn.2.1 20 = .ok (.getfield 12, 3) := by decide +kernel
theorem d_C_solveColumn_23 : decode M_C_solveColumn.2.1 23 = .ok (.aload_n 0, 1) := by decide +kernel
theorem d_C_solveColumn_24 : decode M_C_solveColumn.2.1 24 = .ok (.getfield 32, 3) := by decide +kernel
theorem d_C_solveColumn_27 : decode M_C_solveColumn.2.1 27 = .ok (.iload_n 2, 1) := by decide +kernel
theorem d_C_solveColumn_28 : decode M_C_solveColumn.2.1 28 = .ok (.aaload, 1) := by decide +kernel
theorem d_C_solveColumn_29 : decode M_C_solveColumn.2.1 29 = .ok (.iload 4, 2) := by decide +kernel
theorem d_C_solveColumn_31 : decode M_C_solveColumn.2.1 31 = .ok (.iaload, 1) := by decide +kernel
theorem d_C_solveColumn_32 : decode M_C_solveColumn.2.1 32 = .ok (.aload_n 0, 1) := by decide +kernel
theorem d_C_solveColumn_33 : decode M_C_solveColumn.2.1 33 = .ok (.getfield 26, 3) := by decide +kernel
theorem d_C_solveColumn_36 : decode M_C_solveColumn.2.1 36 = .ok (.iload 4, 2) := by decide +kernel
theorem d_C_solveColumn_38 : decode M_C_solveColumn.2.1 38 = .ok (.aaload, 1) := by decide +kernel
theorem d_C_solveColumn_39 : decode M_C_solveColumn.2.1 39 = .ok (.iload_n 1, 1) := by decide +kernel
theorem d_C_solveColumn_40 : decode M_C_solveColumn.2.1 40 = .ok (.iaload, 1) := by decide +kernel
theorem d_C_solveColumn_41 : decode M_C_solveColumn.2.1 41 = .ok (.invokevirtual 39, 3) := by decide +kernel
theorem d_C_solveColumn_44 : decode M_C_solveColumn.2.1 44 = .ok (.ixor, 1) := by decide +kernel
theorem d_C_solveColumn_45 : decode M_C_solveColumn.2.1 45 = .ok (.istore_n 3, 1) := by decide +kernel
theorem d_C_solveColumn_46 : decode M_C_solveColumn.2.1 46 = .ok (.iinc 4 1, 3) := by decide +kernel
theorem d_C_solveColumn_49 : decode M_C_solveColumn.2.1 49 = .ok (.goto (-37), 3) := by decide +kernel
theorem d_C_solveColumn_52 : decode M_C_solveColumn.2.1 52 = .ok (.aload_n 0, 1) := by decide +kernel
theorem d_C_solveColumn_53 : decode M_C_solveColumn.2.1 53 = .ok (.iload_n 2, 1) := by decide +kernel
theorem d_C_solveColumn_54 : decode M_C_solveColumn.2.1 54 = .ok (.iload_n 1, 1) := by decide +kernel
theorem d_C_solveColumn_55 : decode M_C_solveColumn.2.1 55 = .ok (.iload_n 3, 1) := by decide +kernel
theorem d_C_solveColumn_56 : decode M_C_solveColumn.2.1 56 = .ok (.invokevirtual 51, 3) := by decide +kernel
theorem d_C_solveColumn_59 : decode M_C_solveColumn.2.1 59 = .ok (.iinc 2 1, 3) := by decide +kernel
theorem d_C_solveColumn_62 : decode M_C_solveColumn.2.1 62 = .ok (.goto (-60), 3) := by decide +kernel
theorem d_C_solveColumn_65 : decode M_C_solveColumn.2.1 65 = .ok (.return_, 1) := by decide +kernel
theorem d_C_storeBefore_0 : decode M_C_storeBefore.2.1 0 = .ok (.iload_n 1, 1) := by decide +kernel
theorem d_C_storeBefore_1 : decode M_C_storeBefore.2.1 1 = .ok (.ifCond .lt 18, 3) := by decide +kernel
theorem d_C_storeBefore_4 : decode M_C_storeBefore.2.1 4 = .ok (.iload_n 1, 1) := by decide +kernel
theorem d_C_storeBefore_5 : decode M_C_storeBefore.2.1 5 = .ok (.iload_n 2, 1) := by decide +kernel
theorem d_C_storeBefore_6 : decode M_C_storeBefore.2.1 6 = .ok (.if_icmp .ge 13, 3) := by decide +kernel
theorem d_C_storeBefore_9 : decode M_C_storeBefore.2.1 9 = .ok (.iload_n 1, 1) := by decide +kernel
theorem d_C_storeBefore_10 : decode M_C_storeBefore.2.1 10 = .ok (.aload_n 0, 1) := by decide +kernel
theorem d_C_storeBefore_11 : decode M_C_storeBefore.2.1 11 = .ok (.arraylength, 1) := by decide +kernel
theorem d_C_storeBefore_12 : decode M_C_storeBefore.2.1 12 = .ok (.if_icmp .ge 7, 3) := by decide +kernel
theorem d_C_storeBefore_15 : decode M_C_storeBefore.2.1 15 = .ok (.aload_n 0, 1) := by decide +kernel
theorem d_C_storeBefore_16 : decode M_C_storeBefore.2.1 16 = .ok (.iload_n 1, 1) := by decide +kernel
theorem d_C_storeBefore_17 : decode M_C_storeBefore.2.1 17 = .ok (.iload_n 3, 1) := by decide +kernel
theorem d_C_storeBefore_18 : decode M_C_storeBefore.2.1 18 = .ok (.iastore, 1) := by decide +kernel
theorem d_C_storeBefore_19 : decode M_C_storeBefore.2.1 19 = .ok (.return_, 1) := by decide +kernel
theorem d_C_unload_0 : decode M_C_unload.2.1 0 = .ok (.iload_n 2, 1) := by decide +kernel
theorem d_C_unload_1 : decode M_C_unload.2.1 1 = .ok (.istore 4, 2) := by decide +kernel
theorem d_C_unload_3 : decode M_C_unload.2.1 3 = .ok (.iconst 0, 1) := by decide +kernel
theorem d_C_unload_4 : decode M_C_unload.2.1 4 = .ok (.istore 5, 2) := by decide +kernel
theorem d_C_unload_6 : decode M_C_unload.2.1 6 = .ok (.iload 5, 2) := by decide +kernel
theorem d_C_unload_8 : decode M_C_unload.2.1 8 = .ok (.iconst 5, 1) := by decide +kernel
theorem d_C_unload_9 : decode M_C_unload.2.1 9 = .ok (.if_icmp .ge 45, 3) := by decide +kernel
theorem d_C_unload_12 : decode M_C_unload.2.1 12 = .ok (.iload 5, 2) := by decide +kernel
theorem d_C_unload_14 : decode M_C_unload.2.1 14 = .ok (.istore 6, 2) := by decide +kernel
theorem d_C_unload_16 : decode M_C_unload.2.1 16 = .ok (.iload 6, 2) := by decide +kernel
theorem d_C_unload_18 : decode M_C_unload.2.1 18 = .ok (.iconst 5, 1) := by decide +kernel
theorem d_C_unload_19 : decode M_C_unload.2.1 19 = .ok (.if_icmp .ge 29, 3) := by decide +kernel
theorem d_C_unload_22 : decode M_C_unload.2.1 22 = .ok (.aload_n 1, 1) := by decide +kernel
theorem d_C_unload_23 : decode M_C_unload.2.1 23 = .ok (.iload 4, 2) := by decide +kernel
theorem d_C_unload_25 : decode M_C_unload.2.1 25 = .ok (.iload_n 3, 1) := by decide +kernel
theorem d_C_unload_26 : decode M_C_unload.2.1 26 = .ok (.aload_n 0, 1) := by decide +kernel
theorem d_C_unload_27 : decode M_C_unload.2.1 27 = .ok (.getfield 23, 3) := by decide +kernel
theorem d_C_unload_30 : decode M_C_unload.2.1 30 = .ok (.iload 5, 2) := by decide +kernel
theorem d_C_unload_32 : decode M_C_unload.2.1 32 = .ok (.aaload, 1) := by decide +kernel
theorem d_C_unload_33 : decode M_C_unload.2.1 33 = .ok (.iload 6, 2) := by decide +kernel
theorem d_C_unload_35 : decode M_C_unload.2.1 35 = .ok (.iaload, 1) := by decide +kernel
theorem d_C_unload_36 : decode M_C_unload.2.1 36 = .ok (.invokestatic 55, 3) := by decide +kernel
theorem d_C_unload_39 : decode M_C_unload.2.1 39 = .ok (.iinc 4 1, 3) := by decide +kernel
theorem d_C_unload_42 : decode M_C_unload.2.1 42 = .ok (.iinc 6 1, 3) := by decide +kernel
theorem d_C_unload_45 : decode M_C_unload.2.1 45 = .ok (.goto (-29), 3) := by decide +kernel
theorem d_C_unload_48 : decode M_C_unload.2.1 48 = .ok (.iinc 5 1, 3) := by decide +kernel
theorem d_C_unload_51 : decode M_C_unload.2.1 51 = .ok (.goto (-45), 3) := by decide +kernel
theorem d_C_unload_54 : decode M_C_unload.2.1 54 = .ok (.iconst 0, 1) := by decide +kernel
theorem d_C_unload_55 : decode M_C_unload.2.1 55 = .ok (.istore 5, 2) := by decide +kernel
theorem d_C_unload_57 : decode M_C_unload.2.1 57 = .ok (.iload 5, 2) := by decide +kernel
theorem d_C_unload_59 : decode M_C_unload.2.1 59 = .ok (.iconst 5, 1) := by decide +kernel
theorem d_C_unload_60 : decode M_C_unload.2.1 60 = .ok (.if_icmp .ge 45, 3) := by decide +kernel
theorem d_C_unload_63 : decode M_C_unload.2.1 63 = .ok (.iconst 5, 1) := by decide +kernel
theorem d_C_unload_64 : decode M_C_unload.2.1 64 = .ok (.istore 6, 2) := by decide +kernel
theorem d_C_unload_66 : decode M_C_unload.2.1 66 = .ok (.iload 6, 2) := by decide +kernel
theorem d_C_unload_68 : decode M_C_unload.2.1 68 = .ok (.bipush 8, 2) := by decide +kernel
theorem d_C_unload_70 : decode M_C_unload.2.1 70 = .ok (.if_icmp .ge 29, 3) := by decide +kernel
theorem d_C_unload_73 : decode M_C_unload.2.1 73 = .ok (.aload_n 1, 1) := by decide +kernel
theorem d_C_unload_74 : decode M_C_unload.2.1 74 = .ok (.iload 4, 2) := by decide +kernel
theorem d_C_unload_76 : decode M_C_unload.2.1 76 = .ok (.iload_n 3, 1) := by decide +kernel
theorem d_C_unload_77 : decode M_C_unload.2.1 77 = .ok (.aload_n 0, 1) := by decide +kernel
theorem d_C_unload_78 : decode M_C_unload.2.1 78 = .ok (.getfield 23, 3) := by decide +kernel
theorem d_C_unload_81 : decode M_C_unload.2.1 81 = .ok (.iload 5, 2) := by decide +kernel
theorem d_C_unload_83 : decode M_C_unload.2.1 83 = .ok (.aaload, 1) := by decide +kernel
theorem d_C_unload_84 : decode M_C_unload.2.1 84 = .ok (.iload 6, 2) := by decide +kernel
theorem d_C_unload_86 : decode M_C_unload.2.1 86 = .ok (.iaload, 1) := by decide +kernel
theorem d_C_unload_87 : decode M_C_unload.2.1 87 = .ok (.invokestatic 55, 3) := by decide +kernel
theorem d_C_unload_90 : decode M_C_unload.2.1 90 = .ok (.iinc 4 1, 3) := by decide +kernel
theorem d_C_unload_93 : decode M_C_unload.2.1 93 = .ok (.iinc 6 1, 3) := by decide +kernel
theorem d_C_unload_96 : decode M_C_unload.2.1 96 = .ok (.goto (-30), 3) := by decide +kernel
theorem d_C_unload_99 : decode M_C_unload.2.1 99 = .ok (.iinc 5 1, 3) := by decide +kernel
theorem d_C_unload_102 : decode M_C_unload.2.1 102 = .ok (.goto (-45), 3) := by decide +kernel
theorem d_C_unload_105 : decode M_C_unload.2.1 105 = .ok (.return_, 1) := by decide +kernel
theorem d_F_init_0 : decode M_F_init.2.1 0 = .ok (.aload_n 0, 1) := by decide +kernel
theorem d_F_init_1 : decode M_F_init.2.1 1 = .ok (.invokespecial 3, 3) := by decide +kernel
theorem d_F_init_4 : decode M_F_init.2.1 4 = .ok (.aload_n 0, 1) := by decide +kernel
theorem d_F_init_5 : decode M_F_init.2.1 5 = .ok (.sipush 512, 3) := by decide +kernel
theorem d_F_init_8 : decode M_F_init.2.1 8 = .ok (.newarray .int, 2) := by decide +kernel
theorem d_F_init_10 : decode M_F_init.2.1 10 = .ok (.putfield 9, 3) := by decide +kernel
theorem d_F_init_13 : decode M_F_init.2.1 13 = .ok (.aload_n 0, 1) := by decide +kernel
theorem d_F_init_14 : decode M_F_init.2.1 14 = .ok (.sipush 256, 3) := by decide +kernel
theorem d_F_init_17 : decode M_F_init.2.1 17 = .ok (.newarray .int, 2) := by decide +kernel
theorem d_F_init_19 : decode M_F_init.2.1 19 = .ok (.putfield 15, 3) := by decide +kernel
theorem d_F_init_22 : decode M_F_init.2.1 22 = .ok (.iconst 1, 1) := by decide +kernel
theorem d_F_init_23 : decode M_F_init.2.1 23 = .ok (.istore_n 1, 1) := by decide +kernel
theorem d_F_init_24 : decode M_F_init.2.1 24 = .ok (.iconst 0, 1) := by decide +kernel
theorem d_F_init_25 : decode M_F_init.2.1 25 = .ok (.istore_n 2, 1) := by decide +kernel
theorem d_F_init_26 : decode M_F_init.2.1 26 = .ok (.iload_n 2, 1) := by decide +kernel
theorem d_F_init_27 : decode M_F_init.2.1 27 = .ok (.sipush 255, 3) := by decide +kernel
theorem d_F_init_30 : decode M_F_init.2.1 30 = .ok (.if_icmp .ge 55, 3) := by decide +kernel
theorem d_F_init_33 : decode M_F_init.2.1 33 = .ok (.aload_n 0, 1) := by decide +kernel
theorem d_F_init_34 : decode M_F_init.2.1 34 = .ok (.getfield 9, 3) := by decide +kernel
theorem d_F_init_37 : decode M_F_init.2.1 37 = .ok (.iload_n 2, 1) := by decide +kernel
theorem d_F_init_38 : decode M_F_init.2.1 38 = .ok (.iload_n 1, 1) := by decide +kernel
theorem d_F_init_39 : decode M_F_init.2.1 39 = .ok (.iastore, 1) := by decide +kernel
theorem d_F_init_40 : decode M_F_init.2.1 40 = .ok (.aload_n 0, 1) := by decide +kernel
theorem d_F_init_41 : decode M_F_init.2.1 41 = .ok (.getfield 9, 3) := by decide +kernel
theorem d_F_init_44 : decode M_F_init.2.1 44 = .ok (.iload_n 2, 1) := by decide +kernel
theorem d_F_init_45 : decode M_F_init.2.1 45 = .ok (.sipush 255, 3) := by decide +kernel
theorem d_F_init_48 : decode M_F_init.2.1 48 = .ok (.iadd, 1) := by decide +kernel
theorem d_F_init_49 : decode M_F_init.2.1 49 = .ok (.iload_n 1, 1) := by decide +kernel
theorem d_F_init_50 : decode M_F_init.2.1 50 = .ok (.iastore, 1) := by decide +kernel
theorem d_F_init_51 : decode M_F_init.2.1 51 = .ok (.aload_n 0, 1) := by decide +kernel
theorem d_F_init_52 : decode M_F_init.2.1 52 = .ok (.getfield 15, 3) := by decide +kernel
theorem d_F_init_55 : decode M_F_init.2.1 55 = .ok (.iload_n 1, 1) := by decide +kernel
theorem d_F_init_56 : decode M_F_init.2.1 56 = .ok (.sipush 255, 3) := by decide +kernel
theorem d_F_init_59 : decode M_F_init.2.1 59 = .ok (.iand, 1) := by decide +kernel
theorem d_F_init_60 : decode M_F_init.2.1 60 = .ok (.iload_n 2, 1) := by decide +kernel
theorem d_F_init_61 : decode M_F_init.2.1 61 = .ok (.iastore, 1) := by decide +kernel
theorem d_F_init_62 : decode M_F_init.2.1 62 = .ok (.iload_n 1, 1) := by decide +kernel
theorem d_F_init_63 : decode M_F_init.2.1 63 = .ok (.iconst 1, 1) := by decide +kernel
theorem d_F_init_64 : decode M_F_init.2.1 64 = .ok (.ishl, 1) := by decide +kernel
theorem d_F_init_65 : decode M_F_init.2.1 65 = .ok (.istore_n 1, 1) := by decide +kernel
theorem d_F_init_66 : decode M_F_init.2.1 66 = .ok (.iload_n 1, 1) := by decide +kernel
theorem d_F_init_67 : decode M_F_init.2.1 67 = .ok (.sipush 256, 3) := by decide +kernel
theorem d_F_init_70 : decode M_F_init.2.1 70 = .ok (.if_icmp .lt 9, 3) := by decide +kernel
theorem d_F_init_73 : decode M_F_init.2.1 73 = .ok (.iload_n 1, 1) := by decide +kernel
theorem d_F_init_74 : decode M_F_init.2.1 74 = .ok (.sipush 285, 3) := by decide +kernel
theorem d_F_init_77 : decode M_F_init.2.1 77 = .ok (.ixor, 1) := by decide +kernel
theorem d_F_init_78 : decode M_F_init.2.1 78 = .ok (.istore_n 1, 1) := by decide +kernel
theorem d_F_init_79 : decode M_F_init.2.1 79 = .ok (.iinc 2 1, 3) := by decide +kernel
theorem d_F_init_82 : decode M_F_init.2.1 82 = .ok (.goto (-56), 3) := by decide +kernel
theorem d_F_init_85 : decode M_F_init.2.1 85 = .ok (.return_, 1) := by decide +kernel
theorem d_F_product_0 : decode M_F_product.2.1 0 = .ok (.iload_n 1, 1) := by decide +kernel
theorem d_F_product_1 : decode M_F_product.2.1 1 = .ok (.ifCond .eq 7, 3) := by decide +kernel
theorem d_F_product_4 : decode M_F_product.2.1 4 = .ok (.iload_n 2, 1) := by decide +kernel
theorem d_F_product_5 : decode M_F_product.2.1 5 = .ok (.ifCond .ne 5, 3) := by decide +kernel
theorem d_F_product_8 : decode M_F_product.2.1 8 = .ok (.iconst 0, 1) := by decide +kernel
theorem d_F_product_9 : decode M_F_product.2.1 9 = .ok (.ireturn, 1) := by decide +kernel
theorem d_F_product_10 : decode M_F_product.2.1 10 = .ok (.aload_n 0, 1) := by decide +kernel
theorem d_F_product_11 : decode M_F_product.2.1 11 = .ok (.getfield 9, 3) := by decide +kernel
theorem d_F_product_14 : decode M_F_product.2.1 14 = .ok (.aload_n 0, 1) := by decide +kernel
theorem d_F_product_15 : decode M_F_product.2.1 15 = .ok (.getfield 15, 3) := by decide +kernel
theorem d_F_product_18 : decode M_F_product.2.1 18 = .ok (.iload_n 1, 1) := by decide +kernel
theorem d_F_product_19 : decode M_F_product.2.1 19 = .ok (.sipush 255, 3) := by decide +kernel
theorem d_F_product_22 : decode M_F_product.2.1 22 = .ok (.iand, 1) := by decide +kernel
theorem d_F_product_23 : decode M_F_product.2.1 23 = .ok (.iaload, 1) := by decide +kernel
theorem d_F_product_24 : decode M_F_product.2.1 24 = .ok (.aload_n 0, 1) := by decide +kernel
theorem d_F_product_25 : decode M_F_product.2.1 25 = .ok (.getfield 15, 3) := by decide +kernel
theorem d_F_product_28 : decode M_F_product.2.1 28 = .ok (.iload_n 2, 1) := by decide +kernel
theorem d_F_product_29 : decode M_F_product.2.1 29 = .ok (.sipush 255, 3) := by decide +kernel
theorem d_F_product_32 : decode M_F_product.2.1 32 = .ok (.iand, 1) := by decide +kernel
theorem d_F_product_33 : decode M_F_product.2.1 33 = .ok (.iaload, 1) := by decide +kernel
theorem d_F_product_34 : decode M_F_product.2.1 34 = .ok (.iadd, 1) := by decide +kernel
theorem d_F_product_35 : decode M_F_product.2.1 35 = .ok (.iaload, 1) := by decide +kernel
theorem d_F_product_36 : decode M_F_product.2.1 36 = .ok (.ireturn, 1) := by decide +kernel
theorem d_F_quotient_0 : decode M_F_quotient.2.1 0 = .ok (.iload_n 1, 1) := by decide +kernel
theorem d_F_quotient_1 : decode M_F_quotient.2.1 1 = .ok (.ifCond .eq 7, 3) := by decide +kernel
theorem d_F_quotient_4 : decode M_F_quotient.2.1 4 = .ok (.iload_n 2, 1) := by decide +kernel
theorem d_F_quotient_5 : decode M_F_quotient.2.1 5 = .ok (.ifCond .ne 5, 3) := by decide +kernel
theorem d_F_quotient_8 : decode M_F_quotient.2.1 8 = .ok (.iconst 0, 1) := by decide +kernel
theorem d_F_quotient_9 : decode M_F_quotient.2.1 9 = .ok (.ireturn, 1) := by decide +kernel
theorem d_F_quotient_10 : decode M_F_quotient.2.1 10 = .ok (.aload_n 0, 1) := by decide +kernel
theorem d_F_quotient_11 : decode M_F_quotient.2.1 11 = .ok (.getfield 9, 3) := by decide +kernel
theorem d_F_quotient_14 : decode M_F_quotient.2.1 14 = .ok (.aload_n 0, 1) := by decide +kernel
theorem d_F_quotient_15 : decode M_F_quotient.2.1 15 = .ok (.getfield 15, 3) := by decide +kernel
theorem d_F_quotient_18 : decode M_F_quotient.2.1 18 = .ok (.iload_n 1, 1) := by decide +kernel
theorem d_F_quotient_19 : decode M_F_quotient.2.1 19 = .ok (.sipush 255, 3) := by decide +kernel
theorem d_F_quotient_22 : decode M_F_quotient.2.1 22 = .ok (.iand, 1) := by decide +kernel
theorem d_F_quotient_23 : decode M_F_quotient.2.1 23 = .ok (.iaload, 1) := by decide +kernel
theorem d_F_quotient_24 : decode M_F_quotient.2.1 24 = .ok (.sipush 255, 3) := by decide +kernel
theorem d_F_quotient_27 : decode M_F_quotient.2.1 27 = .ok (.iadd, 1) := by decide +kernel
theorem d_F_quotient_28 : decode M_F_quotient.2.1 28 = .ok (.aload_n 0, 1) := by decide +kernel
theorem d_F_quotient_29 : decode M_F_quotient.2.1 29 = .ok (.getfield 15, 3) := by decide +kernel
theorem d_F_quotient_32 : decode M_F_quotient.2.1 32 = .ok (.iload_n 2, 1) := by decide +kernel
theorem d_F_quotient_33 : decode M_F_quotient.2.1 33 = .ok (.sipush 255, 3) := by decide +kernel
theorem d_F_quotient_36 : decode M_F_quotient.2.1 36 = .ok (.iand, 1) := by decide +kernel
theorem d_F_quotient_37 : decode M_F_quotient.2.1 37 = .ok (.iaload, 1) := by decide +kernel
theorem d_F_quotient_38 : decode M_F_quotient.2.1 38 = .ok (.isub, 1) := by decide +kernel
theorem d_F_quotient_39 : decode M_F_quotient.2.1 39 = .ok (.iaload, 1) := by decide +kernel
theorem d_F_quotient_40 : decode M_F_quotient.2.1 40 = .ok (.ireturn, 1) := by decide +kernel
theorem d_H_init_0 : decode M_H_init.2.1 0 = .ok (.aload_n 0, 1) := by decide +kernel
theorem d_H_init_1 : decode M_H_init.2.1 1 = .ok (.invokespecial 3, 3) := by decide +kernel
theorem d_H_init_4 : decode M_H_init.2.1 4 = .ok (.aload_n 0, 1) := by decide +kernel
theorem d_H_init_5 : decode M_H_init.2.1 5 = .ok (.bipush 8, 2) := by decide +kernel
theorem d_H_init_7 : decode M_H_init.2.1 7 = .ok (.newarray .int, 2) := by decide +kernel
theorem d_H_init_9 : decode M_H_init.2.1 9 = .ok (.putfield 9, 3) := by decide +kernel
theorem d_H_init_12 : decode M_H_init.2.1 12 = .ok (.aload_n 0, 1) := by decide +kernel
theorem d_H_init_13 : decode M_H_init.2.1 13 = .ok (.iconst 0, 1) := by decide +kernel
theorem d_H_init_14 : decode M_H_init.2.1 14 = .ok (.putfield 15, 3) := by decide +kernel
theorem d_H_init_17 : decode M_H_init.2.1 17 = .ok (.aload_n 0, 1) := by decide +kernel
theorem d_H_init_18 : decode M_H_init.2.1 18 = .ok (.iconst 0, 1) := by decide +kernel
theorem d_H_init_19 : decode M_H_init.2.1 19 = .ok (.putfield 19, 3) := by decide +kernel
theorem d_H_init_22 : decode M_H_init.2.1 22 = .ok (.aload_n 0, 1) := by decide +kernel
theorem d_H_init_23 : decode M_H_init.2.1 23 = .ok (.iconst 0, 1) := by decide +kernel
theorem d_H_init_24 : decode M_H_init.2.1 24 = .ok (.putfield 22, 3) := by decide +kernel
theorem d_H_init_27 : decode M_H_init.2.1 27 = .ok (.return_, 1) := by decide +kernel
theorem d_H_placeOf_0 : decode M_H_placeOf.2.1 0 = .ok (.iload_n 1, 1) := by decide +kernel
theorem d_H_placeOf_1 : decode M_H_placeOf.2.1 1 = .ok (.ifCond .lt 26, 3) := by decide +kernel
theorem d_H_placeOf_4 : decode M_H_placeOf.2.1 4 = .ok (.iload_n 1, 1) := by decide +kernel
theorem d_H_placeOf_5 : decode M_H_placeOf.2.1 5 = .ok (.aload_n 0, 1) := by decide +kernel
theorem d_H_placeOf_6 : decode M_H_placeOf.2.1 6 = .ok (.getfield 22, 3) := by decide +kernel
theorem d_H_placeOf_9 : decode M_H_placeOf.2.1 9 = .ok (.if_icmp .ge 18, 3) := by decide +kernel
theorem d_H_placeOf_12 : decode M_H_placeOf.2.1 12 = .ok (.iload_n 1, 1) := by decide +kernel
theorem d_H_placeOf_13 : decode M_H_placeOf.2.1 13 = .ok (.bipush 8, 2) := by decide +kernel
theorem d_H_placeOf_15 : decode M_H_placeOf.2.1 15 = .ok (.if_icmp .ge 12, 3) := by decide +kernel
theorem d_H_placeOf_18 : decode M_H_placeOf.2.1 18 = .ok (.aload_n 0, 1) := by decide +kernel
theorem d_H_placeOf_19 : decode M_H_placeOf.2.1 19 = .ok (.getfield 9, 3) := by decide +kernel
theorem d_H_placeOf_22 : decode M_H_placeOf.2.1 22 = .ok (.iload_n 1, 1) := by decide +kernel
theorem d_H_placeOf_23 : decode M_H_placeOf.2.1 23 = .ok (.iaload, 1) := by decide +kernel
theorem d_H_placeOf_24 : decode M_H_placeOf.2.1 24 = .ok (.goto 4, 3) := by decide +kernel
theorem d_H_placeOf_27 : decode M_H_placeOf.2.1 27 = .ok (.iconst (-1), 1) := by decide +kernel
theorem d_H_placeOf_28 : decode M_H_placeOf.2.1 28 = .ok (.ireturn, 1) := by decide +kernel
theorem d_L_law_0 : decode code 0 = .ok (.new 7, 3) := by decide +kernel
theorem d_L_law_3 : decode code 3 = .ok (.dup, 1) := by decide +kernel
theorem d_L_law_4 : decode code 4 = .ok (.invokespecial 9, 3) := by decide +kernel
theorem d_L_law_7 : decode code 7 = .ok (.astore_n 1, 1) := by decide +kernel
theorem d_L_law_8 : decode code 8 = .ok (.new 10, 3) := by decide +kernel
theorem d_L_law_11 : decode code 11 = .ok (.dup, 1) := by decide +kernel
theorem d_L_law_12 : decode code 12 = .ok (.invokespecial 12, 3) := by decide +kernel
theorem d_L_law_15 : decode code 15 = .ok (.astore_n 2, 1) := by decide +kernel
theorem d_L_law_16 : decode code 16 = .ok (.iconst 0, 1) := by decide +kernel
theorem d_L_law_17 : decode code 17 = .ok (.istore_n 3, 1) := by decide +kernel
theorem d_L_law_18 : decode code 18 = .ok (.iload_n 3, 1) := by decide +kernel
theorem d_L_law_19 : decode code 19 = .ok (.aload_n 0, 1) := by decide +kernel
theorem d_L_law_20 : decode code 20 = .ok (.arraylength, 1) := by decide +kernel
theorem d_L_law_21 : decode code 21 = .ok (.iconst 5, 1) := by decide +kernel
theorem d_L_law_22 : decode code 22 = .ok (.isub, 1) := by decide +kernel
theorem d_L_law_23 : decode code 23 = .ok (.if_icmp .gt 930, 3) := by decide +kernel
theorem d_L_law_26 : decode code 26 = .ok (.aload_n 0, 1) := by decide +kernel
theorem d_L_law_27 : decode code 27 = .ok (.iload_n 3, 1) := by decide +kernel
theorem d_L_law_28 : decode code 28 = .ok (.iaload, 1) := by decide +kernel
theorem d_L_law_29 : decode code 29 = .ok (.bipush 31, 2) := by decide +kernel
theorem d_L_law_31 : decode code 31 = .ok (.iand, 1) := by decide +kernel
theorem d_L_law_32 : decode code 32 = .ok (.tableswitch 915 0 25 #[120, 153, 186, 219, 282, 305, 328, 351, 374, 407, 430, 453, 476, 499, 522, 545, 578, 611, 634, 657, 700, 769, 812, 865, 888, 902], 120) := by decide +kernel
theorem d_L_law_152 : decode code 152 = .ok (.aload_n 1, 1) := by decide +kernel
theorem d_L_law_153 : decode code 153 = .ok (.aload_n 0, 1) := by decide +kernel
theorem d_L_law_154 : decode code 154 = .ok (.iload_n 3, 1) := by decide +kernel
theorem d_L_law_155 : decode code 155 = .ok (.iconst 1, 1) := by decide +kernel
theorem d_L_law_156 : decode code 156 = .ok (.iadd, 1) := by decide +kernel
theorem d_L_law_157 : decode code 157 = .ok (.iaload, 1) := by decide +kernel
theorem d_L_law_158 : decode code 158 = .ok (.aload_n 0, 1) := by decide +kernel
theorem d_L_law_159 : decode code 159 = .ok (.iload_n 3, 1) := by decide +kernel
theorem d_L_law_160 : decode code 160 = .ok (.iconst 2, 1) := by decide +kernel
theorem d_L_law_161 : decode code 161 = .ok (.iadd, 1) := by decide +kernel
theorem d_L_law_162 : decode code 162 = .ok (.iaload, 1) := by decide +kernel
theorem d_L_law_163 : decode code 163 = .ok (.invokevirtual 13, 3) := by decide +kernel
theorem d_L_law_166 : decode code 166 = .ok (.aload_n 2, 1) := by decide +kernel
theorem d_L_law_167 : decode code 167 = .ok (.aload_n 0, 1) := by decide +kernel
theorem d_L_law_168 : decode code 168 = .ok (.iload_n 3, 1) := by decide +kernel
theorem d_L_law_169 : decode code 169 = .ok (.iconst 1, 1) := by decide +kernel
theorem d_L_law_170 : decode code 170 = .ok (.iadd, 1) := by decide +kernel
theorem d_L_law_171 : decode code 171 = .ok (.iaload, 1) := by decide +kernel
theorem d_L_law_172 : decode code 172 = .ok (.aload_n 0, 1) := by decide +kernel
theorem d_L_law_173 : decode code 173 = .ok (.iload_n 3, 1) := by decide +kernel
theorem d_L_law_174 : decode code 174 = .ok (.iconst 2, 1) := by decide +kernel
theorem d_L_law_175 : decode code 175 = .ok (.iadd, 1) := by decide +kernel
theorem d_L_law_176 : decode code 176 = .ok (.iaload, 1) := by decide +kernel
theorem d_L_law_177 : decode code 177 = .ok (.invokevirtual 17, 3) := by decide +kernel
theorem d_L_law_180 : decode code 180 = .ok (.if_icmp .eq 767, 3) := by decide +kernel
theorem d_L_law_183 : decode code 183 = .ok (.iconst 0, 1) := by decide +kernel
theorem d_L_law_184 : decode code 184 = .ok (.ireturn, 1) := by decide +kernel
theorem d_L_law_185 : decode code 185 = .ok (.aload_n 1, 1) := by decide +kernel
theorem d_L_law_186 : decode code 186 = .ok (.aload_n 0, 1) := by decide +kernel
theorem d_L_law_187 : decode code 187 = .ok (.iload_n 3, 1) := by decide +kernel
theorem d_L_law_188 : decode code 188 = .ok (.iconst 1, 1) := by decide +kernel
theorem d_L_law_189 : decode code 189 = .ok (.iadd, 1) := by decide +kernel
theorem d_L_law_190 : decode code 190 = .ok (.iaload, 1) := by decide +kernel
theorem d_L_law_191 : decode code 191 = .ok (.aload_n 0, 1) := by decide +kernel
theorem d_L_law_192 : decode code 192 = .ok (.iload_n 3, 1) := by decide +kernel
theorem d_L_law_193 : decode code 193 = .ok (.iconst 2, 1) := by decide +kernel
theorem d_L_law_194 : decode code 194 = .ok (.iadd, 1) := by decide +kernel
theorem d_L_law_195 : decode code 195 = .ok (.iaload, 1) := by decide +kernel
theorem d_L_law_196 : decode code 196 = .ok (.invokevirtual 18, 3) := by decide +kernel
theorem d_L_law_199 : decode code 199 = .ok (.aload_n 2, 1) := by decide +kernel
theorem d_L_law_200 : decode code 200 = .ok (.aload_n 0, 1) := by decide +kernel
theorem d_L_law_201 : decode code 201 = .ok (.iload_n 3, 1) := by decide +kernel
theorem d_L_law_202 : decode code 202 = .ok (.iconst 1, 1) := by decide +kernel
theorem d_L_law_203 : decode code 203 = .ok (.iadd, 1) := by decide +kernel
theorem d_L_law_204 : decode code 204 = .ok (.iaload, 1) := by decide +kernel
theorem d_L_law_205 : decode code 205 = .ok (.aload_n 0, 1) := by decide +kernel
theorem d_L_law_206 : decode code 206 = .ok (.iload_n 3, 1) := by decide +kernel
theorem d_L_law_207 : decode code 207 = .ok (.iconst 2, 1) := by decide +kernel
theorem d_L_law_208 : decode code 208 = .ok (.iadd, 1) := by decide +kernel
theorem d_L_law_209 : decode code 209 = .ok (.iaload, 1) := by decide +kernel
theorem d_L_law_210 : decode code 210 = .ok (.invokevirtual 21, 3) := by decide +kernel
theorem d_L_law_213 : decode code 213 = .ok (.if_icmp .eq 734, 3) := by decide +kernel
theorem d_L_law_216 : decode code 216 = .ok (.iconst 0, 1) := by decide +kernel
theorem d_L_law_217 : decode code 217 = .ok (.ireturn, 1) := by decide +kernel
theorem d_L_law_218 : decode code 218 = .ok (.aload_n 1, 1) := by decide +kernel
theorem d_L_law_219 : decode code 219 = .ok (.aload_n 0, 1) := by decide +kernel
theorem d_L_law_220 : decode code 220 = .ok (.iload_n 3, 1) := by decide +kernel
theorem d_L_law_221 : decode code 221 = .ok (.iconst 1, 1) := by decide +kernel
theorem d_L_law_222 : decode code 222 = .ok (.iadd, 1) := by decide +kernel
theorem d_L_law_223 : decode code 223 = .ok (.iaload, 1) := by decide +kernel
theorem d_L_law_224 : decode code 224 = .ok (.aload_n 0, 1) := by decide +kernel
theorem d_L_law_225 : decode code 225 = .ok (.iload_n 3, 1) := by decide +kernel
theorem d_L_law_226 : decode code 226 = .ok (.iconst 2, 1) := by decide +kernel
theorem d_L_law_227 : decode code 227 = .ok (.iadd, 1) := by decide +kernel
theorem d_L_law_228 : decode code 228 = .ok (.iaload, 1) := by decide +kernel
theorem d_L_law_229 : decode code 229 = .ok (.invokevirtual 22, 3) := by decide +kernel
theorem d_L_law_232 : decode code 232 = .ok (.aload_n 2, 1) := by decide +kernel
theorem d_L_law_233 : decode code 233 = .ok (.aload_n 0, 1) := by decide +kernel
theorem d_L_law_234 : decode code 234 = .ok (.iload_n 3, 1) := by decide +kernel
theorem d_L_law_235 : decode code 235 = .ok (.iconst 1, 1) := by decide +kernel
theorem d_L_law_236 : decode code 236 = .ok (.iadd, 1) := by decide +kernel
theorem d_L_law_237 : decode code 237 = .ok (.iaload, 1) := by decide +kernel
theorem d_L_law_238 : decode code 238 = .ok (.aload_n 0, 1) := by decide +kernel
theorem d_L_law_239 : decode code 239 = .ok (.iload_n 3, 1) := by decide +kernel
theorem d_L_law_240 : decode code 240 = .ok (.iconst 2, 1) := by decide +kernel
theorem d_L_law_241 : decode code 241 = .ok (.iadd, 1) := by decide +kernel
theorem d_L_law_242 : decode code 242 = .ok (.iaload, 1) := by decide +kernel
theorem d_L_law_243 : decode code 243 = .ok (.invokevirtual 25, 3) := by decide +kernel
theorem d_L_law_246 : decode code 246 = .ok (.if_icmp .eq 701, 3) := by decide +kernel
theorem d_L_law_249 : decode code 249 = .ok (.iconst 0, 1) := by decide +kernel
theorem d_L_law_250 : decode code 250 = .ok (.ireturn, 1) := by decide +kernel
theorem d_L_law_251 : decode code 251 = .ok (.aload_n 1, 1) := by decide +kernel
theorem d_L_law_252 : decode code 252 = .ok (.aload_n 0, 1) := by decide +kernel
theorem d_L_law_253 : decode code 253 = .ok (.iload_n 3, 1) := by decide +kernel
theorem d_L_law_254 : decode code 254 = .ok (.iconst 1, 1) := by decide +kernel
theorem d_L_law_255 : decode code 255 = .ok (.iadd, 1) := by decide +kernel
theorem d_L_law_256 : decode code 256 = .ok (.iaload, 1) := by decide +kernel
theorem d_L_law_257 : decode code 257 = .ok (.i2l, 1) := by decide +kernel
theorem d_L_law_258 : decode code 258 = .ok (.bipush 32, 2) := by decide +kernel
theorem d_L_law_260 : decode code 260 = .ok (.lshl, 1) := by decide +kernel
theorem d_L_law_261 : decode code 261 = .ok (.aload_n 0, 1) := by decide +kernel
theorem d_L_law_262 : decode code 262 = .ok (.iload_n 3, 1) := by decide +kernel
theorem d_L_law_263 : decode code 263 = .ok (.iconst 2, 1) := by decide +kernel
theorem d_L_law_264 : decode code 264 = .ok (.iadd, 1) := by decide +kernel
theorem d_L_law_265 : decode code 265 = .ok (.iaload, 1) := by decide +kernel
theorem d_L_law_266 : decode code 266 = .ok (.i2l, 1) := by decide +kernel
theorem d_L_law_267 : decode code 267 = .ok (.ldc2_w 26, 3) := by decide +kernel
theorem d_L_law_270 : decode code 270 = .ok (.land, 1) := by decide +kernel
theorem d_L_law_271 : decode code 271 = .ok (.lor, 1) := by decide +kernel
theorem d_L_law_272 : decode code 272 = .ok (.aload_n 0, 1) := by decide +kernel
theorem d_L_law_273 : decode code 273 = .ok (.iload_n 3, 1) := by decide +kernel
theorem d_L_law_274 : decode code 274 = .ok (.iconst 3, 1) := by decide +kernel
theorem d_L_law_275 : decode code 275 = .ok (.iadd, 1) := by decide +kernel
theorem d_L_law_276 : decode code 276 = .ok (.iaload, 1) := by decide +kernel
theorem d_L_law_277 : decode code 277 = .ok (.invokevirtual 28, 3) := by decide +kernel
theorem d_L_law_280 : decode code 280 = .ok (.aload_n 2, 1) := by decide +kernel
theorem d_L_law_281 : decode code 281 = .ok (.aload_n 0, 1) := by decide +kernel
theorem d_L_law_282 : decode code 282 = .ok (.iload_n 3, 1) := by decide +kernel
theorem d_L_law_283 : decode code 283 = .ok (.iconst 1, 1) := by decide +kernel
theorem d_L_law_284 : decode code 284 = .ok (.iadd, 1) := by decide +kernel
theorem d_L_law_285 : decode code 285 = .ok (.iaload, 1) := by decide +kernel
theorem d_L_law_286 : decode code 286 = .ok (.i2l, 1) := by decide +kernel
theorem d_L_law_287 : decode code 287 = .ok (.bipush 32, 2) := by decide +kernel
theorem d_L_law_289 : decode code 289 = .ok (.lshl, 1) := by decide +kernel
theorem d_L_law_290 : decode code 290 = .ok (.aload_n 0, 1) := by decide +kernel
theorem d_L_law_291 : decode code 291 = .ok (.iload_n 3, 1) := by decide +kernel
theorem d_L_law_292 : decode code 292 = .ok (.iconst 2, 1) := by decide +kernel
theorem d_L_law_293 : decode code 293 = .ok (.iadd, 1) := by decide +kernel
theorem d_L_law_294 : decode code 294 = .ok (.iaload, 1) := by decide +kernel
theorem d_L_law_295 : decode code 295 = .ok (.i2l, 1) := by decide +kernel
theorem d_L_law_296 : decode code 296 = .ok (.ldc2_w 26, 3) := by decide +kernel
theorem d_L_law_299 : decode code 299 = .ok (.land, 1) := by decide +kernel
theorem d_L_law_300 : decode code 300 = .ok (.lor, 1) := by decide +kernel
theorem d_L_law_301 : decode code 301 = .ok (.aload_n 0, 1) := by decide +kernel
theorem d_L_law_302 : decode code 302 = .ok (.iload_n 3, 1) := by decide +kernel
theorem d_L_law_303 : decode code 303 = .ok (.iconst 3, 1) := by decide +kernel
theorem d_L_law_304 : decode code 304 = .ok (.iadd, 1) := by decide +kernel
theorem d_L_law_305 : decode code 305 = .ok (.iaload, 1) := by decide +kernel
theorem d_L_law_306 : decode code 306 = .ok (.invokevirtual 32, 3) := by decide +kernel
theorem d_L_law_309 : decode code 309 = .ok (.if_icmp .eq 638, 3) := by decide +kernel
theorem d_L_law_312 : decode code 312 = .ok (.iconst 0, 1) := by decide +kernel
theorem d_L_law_313 : decode code 313 = .ok (.ireturn, 1) := by decide +kernel
theorem d_L_law_314 : decode code 314 = .ok (.aload_n 1, 1) := by decide +kernel
theorem d_L_law_315 : decode code 315 = .ok (.aload_n 0, 1) := by decide +kernel
theorem d_L_law_316 : decode code 316 = .ok (.iload_n 3, 1) := by decide +kernel
theorem d_L_law_317 : decode code 317 = .ok (.iconst 1, 1) := by decide +kernel
theorem d_L_law_318 : decode code 318 = .ok (.iadd, 1) := by decide +kernel
theorem d_L_law_319 : decode code 319 = .ok (.iaload, 1) := by decide +kernel
theorem d_L_law_320 : decode code 320 = .ok (.invokevirtual 33, 3) := by decide +kernel
theorem d_L_law_323 : decode code 323 = .ok (.aload_n 2, 1) := by decide +kernel
theorem d_L_law_324 : decode code 324 = .ok (.aload_n 0, 1) := by decide +kernel
theorem d_L_law_325 : decode code 325 = .ok (.iload_n 3, 1) := by decide +kernel
theorem d_L_law_326 : decode code 326 = .ok (.iconst 1, 1) := by decide +kernel
theorem d_L_law_327 : decode code 327 = .ok (.iadd, 1) := by decide +kernel
theorem d_L_law_328 : decode code 328 = .ok (.iaload, 1) := by decide +kernel
theorem d_L_law_329 : decode code 329 = .ok (.invokevirtual 37, 3) := by decide +kernel
theorem d_L_law_332 : decode code 332 = .ok (.if_icmp .eq 615, 3) := by decide +kernel
theorem d_L_law_335 : decode code 335 = .ok (.iconst 0, 1) := by decide +kernel
theorem d_L_law_336 : decode code 336 = .ok (.ireturn, 1) := by decide +kernel
theorem d_L_law_337 : decode code 337 = .ok (.aload_n 1, 1) := by decide +kernel
theorem d_L_law_338 : decode code 338 = .ok (.aload_n 0, 1) := by decide +kernel
theorem d_L_law_339 : decode code 339 = .ok (.iload_n 3, 1) := by decide +kernel
theorem d_L_law_340 : decode code 340 = .ok (.iconst 1, 1) := by decide +kernel
theorem d_L_law_341 : decode code 341 = .ok (.iadd, 1) := by decide +kernel
theorem d_L_law_342 : decode code 342 = .ok (.iaload, 1) := by decide +kernel
theorem d_L_law_343 : decode code 343 = .ok (.invokevirtual 38, 3) := by decide +kernel
theorem d_L_law_346 : decode code 346 = .ok (.aload_n 2, 1) := by decide +kernel
theorem d_L_law_347 : decode code 347 = .ok (.aload_n 0, 1) := by decide +kernel
theorem d_L_law_348 : decode code 348 = .ok (.iload_n 3, 1) := by decide +kernel
theorem d_L_law_349 : decode code 349 = .ok (.iconst 1, 1) := by decide +kernel
theorem d_L_law_350 : decode code 350 = .ok (.iadd, 1) := by decide +kernel
theorem d_L_law_351 : decode code 351 = .ok (.iaload, 1) := by decide +kernel
theorem d_L_law_352 : decode code 352 = .ok (.invokevirtual 41, 3) := by decide +kernel
theorem d_L_law_355 : decode code 355 = .ok (.if_icmp .eq 592, 3) := by decide +kernel
theorem d_L_law_358 : decode code 358 = .ok (.iconst 0, 1) := by decide +kernel
theorem d_L_law_359 : decode code 359 = .ok (.ireturn, 1) := by decide +kernel
theorem d_L_law_360 : decode code 360 = .ok (.aload_n 1, 1) := by decide +kernel
theorem d_L_law_361 : decode code 361 = .ok (.aload_n 0, 1) := by decide +kernel
theorem d_L_law_362 : decode code 362 = .ok (.iload_n 3, 1) := by decide +kernel
theorem d_L_law_363 : decode code 363 = .ok (.iconst 1, 1) := by decide +kernel
theorem d_L_law_364 : decode code 364 = .ok (.iadd, 1) := by decide +kernel
theorem d_L_law_365 : decode code 365 = .ok (.iaload, 1) := by decide +kernel
theorem d_L_law_366 : decode code 366 = .ok (.invokevirtual 42, 3) := by decide +kernel
theorem d_L_law_369 : decode code 369 = .ok (.aload_n 2, 1) := by decide +kernel
theorem d_L_law_370 : decode code 370 = .ok (.aload_n 0, 1) := by decide +kernel
theorem d_L_law_371 : decode code 371 = .ok (.iload_n 3, 1) := by decide +kernel
theorem d_L_law_372 : decode code 372 = .ok (.iconst 1, 1) := by decide +kernel
theorem d_L_law_373 : decode code 373 = .ok (.iadd, 1) := by decide +kernel
theorem d_L_law_374 : decode code 374 = .ok (.iaload, 1) := by decide +kernel
theorem d_L_law_375 : decode code 375 = .ok (.invokevirtual 45, 3) := by decide +kernel
theorem d_L_law_378 : decode code 378 = .ok (.if_icmp .eq 569, 3) := by decide +kernel
theorem d_L_law_381 : decode code 381 = .ok (.iconst 0, 1) := by decide +kernel
theorem d_L_law_382 : decode code 382 = .ok (.ireturn, 1) := by decide +kernel
theorem d_L_law_383 : decode code 383 = .ok (.aload_n 1, 1) := by decide +kernel
theorem d_L_law_384 : decode code 384 = .ok (.aload_n 0, 1) := by decide +kernel
theorem d_L_law_385 : decode code 385 = .ok (.iload_n 3, 1) := by decide +kernel
theorem d_L_law_386 : decode code 386 = .ok (.iconst 1, 1) := by decide +kernel
theorem d_L_law_387 : decode code 387 = .ok (.iadd, 1) := by decide +kernel
theorem d_L_law_388 : decode code 388 = .ok (.iaload, 1) := by decide +kernel
theorem d_L_law_389 : decode code 389 = .ok (.invokevirtual 46, 3) := by decide +kernel
theorem d_L_law_392 : decode code 392 = .ok (.aload_n 2, 1) := by decide +kernel
theorem d_L_law_393 : decode code 393 = .ok (.aload_n 0, 1) := by decide +kernel
theorem d_L_law_394 : decode code 394 = .ok (.iload_n 3, 1) := by decide +kernel
theorem d_L_law_395 : decode code 395 = .ok (.iconst 1, 1) := by decide +kernel
theorem d_L_law_396 : decode code 396 = .ok (.iadd, 1) := by decide +kernel
theorem d_L_law_397 : decode code 397 = .ok (.iaload, 1) := by decide +kernel
theorem d_L_law_398 : decode code 398 = .ok (.invokevirtual 49, 3) := by decide +kernel
theorem d_L_law_401 : decode code 401 = .ok (.if_icmp .eq 546, 3) := by decide +kernel
theorem d_L_law_404 : decode code 404 = .ok (.iconst 0, 1) := by decide +kernel
theorem d_L_law_405 : decode code 405 = .ok (.ireturn, 1) := by decide +kernel
theorem d_L_law_406 : decode code 406 = .ok (.aload_n 1, 1) := by decide +kernel
theorem d_L_law_407 : decode code 407 = .ok (.aload_n 0, 1) := by decide +kernel
theorem d_L_law_408 : decode code 408 = .ok (.iload_n 3, 1) := by decide +kernel
theorem d_L_law_409 : decode code 409 = .ok (.iconst 1, 1) := by decide +kernel
theorem d_L_law_410 : decode code 410 = .ok (.iadd, 1) := by decide +kernel
theorem d_L_law_411 : decode code 411 = .ok (.iaload, 1) := by decide +kernel
theorem d_L_law_412 : decode code 412 = .ok (.aload_n 0, 1) := by decide +kernel
theorem d_L_law_413 : decode code 413 = .ok (.iload_n 3, 1) := by decide +kernel
theorem d_L_law_414 : decode code 414 = .ok (.iconst 2, 1) := by decide +kernel
theorem d_L_law_415 : decode code 415 = .ok (.iadd, 1) := by decide +kernel
theorem d_L_law_416 : decode code 416 = .ok (.iaload, 1) := by decide +kernel
theorem d_L_law_417 : decode code 417 = .ok (.invokevirtual 50, 3) := by decide +kernel
theorem d_L_law_420 : decode code 420 = .ok (.aload_n 2, 1) := by decide +kernel
theorem d_L_law_421 : decode code 421 = .ok (.aload_n 0, 1) := by decide +kernel
theorem d_L_law_422 : decode code 422 = .ok (.iload_n 3, 1) := by decide +kernel
theorem d_L_law_423 : decode code 423 = .ok (.iconst 1, 1) := by decide +kernel
theorem d_L_law_424 : decode code 424 = .ok (.iadd, 1) := by decide +kernel
theorem d_L_law_425 : decode code 425 = .ok (.iaload, 1) := by decide +kernel
theorem d_L_law_426 : decode code 426 = .ok (.aload_n 0, 1) := by decide +kernel
theorem d_L_law_427 : decode code 427 = .ok (.iload_n 3, 1) := by decide +kernel
theorem d_L_law_428 : decode code 428 = .ok (.iconst 2, 1) := by decide +kernel
theorem d_L_law_429 : decode code 429 = .ok (.iadd, 1) := by decide +kernel
theorem d_L_law_430 : decode code 430 = .ok (.iaload, 1) := by decide +kernel
theorem d_L_law_431 : decode code 431 = .ok (.invokevirtual 53, 3) := by decide +kernel
theorem d_L_law_434 : decode code 434 = .ok (.if_icmp .eq 513, 3) := by decide +kernel
theorem d_L_law_437 : decode code 437 = .ok (.iconst 0, 1) := by decide +kernel
theorem d_L_law_438 : decode code 438 = .ok (.ireturn, 1) := by decide +kernel
theorem d_L_law_439 : decode code 439 = .ok (.aload_n 1, 1) := by decide +kernel
theorem d_L_law_440 : decode code 440 = .ok (.aload_n 0, 1) := by decide +kernel
theorem d_L_law_441 : decode code 441 = .ok (.iload_n 3, 1) := by decide +kernel
theorem d_L_law_442 : decode code 442 = .ok (.iconst 1, 1) := by decide +kernel
theorem d_L_law_443 : decode code 443 = .ok (.iadd, 1) := by decide +kernel
theorem d_L_law_444 : decode code 444 = .ok (.iaload, 1) := by decide +kernel
theorem d_L_law_445 : decode code 445 = .ok (.invokevirtual 54, 3) := by decide +kernel
theorem d_L_law_448 : decode code 448 = .ok (.aload_n 2, 1) := by decide +kernel
theorem d_L_law_449 : decode code 449 = .ok (.aload_n 0, 1) := by decide +kernel
theorem d_L_law_450 : decode code 450 = .ok (.iload_n 3, 1) := by decide +kernel
theorem d_L_law_451 : decode code 451 = .ok (.iconst 1, 1) := by decide +kernel
theorem d_L_law_452 : decode code 452 = .ok (.iadd, 1) := by decide +kernel
theorem d_L_law_453 : decode code 453 = .ok (.iaload, 1) := by decide +kernel
theorem d_L_law_454 : decode code 454 = .ok (.invokevirtual 57, 3) := by decide +kernel
theorem d_L_law_457 : decode code 457 = .ok (.if_icmp .eq 490, 3) := by decide +kernel
theorem d_L_law_460 : decode code 460 = .ok (.iconst 0, 1) := by decide +kernel
theorem d_L_law_461 : decode code 461 = .ok (.ireturn, 1) := by decide +kernel
theorem d_L_law_462 : decode code 462 = .ok (.aload_n 1, 1) := by decide +kernel
theorem d_L_law_463 : decode code 463 = .ok (.aload_n 0, 1) := by decide +kernel
theorem d_L_law_464 : decode code 464 = .ok (.iload_n 3, 1) := by decide +kernel
theorem d_L_law_465 : decode code 465 = .ok (.iconst 1, 1) := by decide +kernel
theorem d_L_law_466 : decode code 466 = .ok (.iadd, 1) := by decide +kernel
theorem d_L_law_467 : decode code 467 = .ok (.iaload, 1) := by decide +kernel
theorem d_L_law_468 : decode code 468 = .ok (.invokevirtual 58, 3) := by decide +kernel
theorem d_L_law_471 : decode code 471 = .ok (.aload_n 2, 1) := by decide +kernel
theorem d_L_law_472 : decode code 472 = .ok (.aload_n 0, 1) := by decide +kernel
theorem d_L_law_473 : decode code 473 = .ok (.iload_n 3, 1) := by decide +kernel
theorem d_L_law_474 : decode code 474 = .ok (.iconst 1, 1) := by decide +kernel
theorem d_L_law_475 : decode code 475 = .ok (.iadd, 1) := by decide +kernel
theorem d_L_law_476 : decode code 476 = .ok (.iaload, 1) := by decide +kernel
theorem d_L_law_477 : decode code 477 = .ok (.invokevirtual 61, 3) := by decide +kernel
theorem d_L_law_480 : decode code 480 = .ok (.if_icmp .eq 467, 3) := by decide +kernel
theorem d_L_law_483 : decode code 483 = .ok (.iconst 0, 1) := by decide +kernel
theorem d_L_law_484 : decode code 484 = .ok (.ireturn, 1) := by decide +kernel
theorem d_L_law_485 : decode code 485 = .ok (.aload_n 1, 1) := by decide +kernel
theorem d_L_law_486 : decode code 486 = .ok (.aload_n 0, 1) := by decide +kernel
theorem d_L_law_487 : decode code 487 = .ok (.iload_n 3, 1) := by decide +kernel
theorem d_L_law_488 : decode code 488 = .ok (.iconst 1, 1) := by decide +kernel
theorem d_L_law_489 : decode code 489 = .ok (.iadd, 1) := by decide +kernel
theorem d_L_law_490 : decode code 490 = .ok (.iaload, 1) := by decide +kernel
theorem d_L_law_491 : decode code 491 = .ok (.invokevirtual 62, 3) := by decide +kernel
theorem d_L_law_494 : decode code 494 = .ok (.aload_n 2, 1) := by decide +kernel
theorem d_L_law_495 : decode code 495 = .ok (.aload_n 0, 1) := by decide +kernel
theorem d_L_law_496 : decode code 496 = .ok (.iload_n 3, 1) := by decide +kernel
theorem d_L_law_497 : decode code 497 = .ok (.iconst 1, 1) := by decide +kernel
theorem d_L_law_498 : decode code 498 = .ok (.iadd, 1) := by decide +kernel
theorem d_L_law_499 : decode code 499 = .ok (.iaload, 1) := by decide +kernel
theorem d_L_law_500 : decode code 500 = .ok (.invokevirtual 65, 3) := by decide +kernel
theorem d_L_law_503 : decode code 503 = .ok (.if_icmp .eq 444, 3) := by decide +kernel
theorem d_L_law_506 : decode code 506 = .ok (.iconst 0, 1) := by decide +kernel
theorem d_L_law_507 : decode code 507 = .ok (.ireturn, 1) := by decide +kernel
theorem d_L_law_508 : decode code 508 = .ok (.aload_n 1, 1) := by decide +kernel
theorem d_L_law_509 : decode code 509 = .ok (.aload_n 0, 1) := by decide +kernel
theorem d_L_law_510 : decode code 510 = .ok (.iload_n 3, 1) := by decide +kernel
theorem d_L_law_511 : decode code 511 = .ok (.iconst 1, 1) := by decide +kernel
theorem d_L_law_512 : decode code 512 = .ok (.iadd, 1) := by decide +kernel
theorem d_L_law_513 : decode code 513 = .ok (.iaload, 1) := by decide +kernel
theorem d_L_law_514 : decode code 514 = .ok (.invokevirtual 66, 3) := by decide +kernel
theorem d_L_law_517 : decode code 517 = .ok (.aload_n 2, 1) := by decide +kernel
theorem d_L_law_518 : decode code 518 = .ok (.aload_n 0, 1) := by decide +kernel
theorem d_L_law_519 : decode code 519 = .ok (.iload_n 3, 1) := by decide +kernel
theorem d_L_law_520 : decode code 520 = .ok (.iconst 1, 1) := by decide +kernel
theorem d_L_law_521 : decode code 521 = .ok (.iadd, 1) := by decide +kernel
theorem d_L_law_522 : decode code 522 = .ok (.iaload, 1) := by decide +kernel
theorem d_L_law_523 : decode code 523 = .ok (.invokevirtual 69, 3) := by decide +kernel
theorem d_L_law_526 : decode code 526 = .ok (.if_icmp .eq 421, 3) := by decide +kernel
theorem d_L_law_529 : decode code 529 = .ok (.iconst 0, 1) := by decide +kernel
theorem d_L_law_530 : decode code 530 = .ok (.ireturn, 1) := by decide +kernel
theorem d_L_law_531 : decode code 531 = .ok (.aload_n 1, 1) := by decide +kernel
theorem d_L_law_532 : decode code 532 = .ok (.aload_n 0, 1) := by decide +kernel
theorem d_L_law_533 : decode code 533 = .ok (.iload_n 3, 1) := by decide +kernel
theorem d_L_law_534 : decode code 534 = .ok (.iconst 1, 1) := by decide +kernel
theorem d_L_law_535 : decode code 535 = .ok (.iadd, 1) := by decide +kernel
theorem d_L_law_536 : decode code 536 = .ok (.iaload, 1) := by decide +kernel
theorem d_L_law_537 : decode code 537 = .ok (.invokevirtual 70, 3) := by decide +kernel
theorem d_L_law_540 : decode code 540 = .ok (.aload_n 2, 1) := by decide +kernel
theorem d_L_law_541 : decode code 541 = .ok (.aload_n 0, 1) := by decide +kernel
theorem d_L_law_542 : decode code 542 = .ok (.iload_n 3, 1) := by decide +kernel
theorem d_L_law_543 : decode code 543 = .ok (.iconst 1, 1) := by decide +kernel
theorem d_L_law_544 : decode code 544 = .ok (.iadd, 1) := by decide +kernel
theorem d_L_law_545 : decode code 545 = .ok (.iaload, 1) := by decide +kernel
theorem d_L_law_546 : decode code 546 = .ok (.invokevirtual 73, 3) := by decide +kernel
theorem d_L_law_549 : decode code 549 = .ok (.if_icmp .eq 398, 3) := by decide +kernel
theorem d_L_law_552 : decode code 552 = .ok (.iconst 0, 1) := by decide +kernel
theorem d_L_law_553 : decode code 553 = .ok (.ireturn, 1) := by decide +kernel
theorem d_L_law_554 : decode code 554 = .ok (.aload_n 1, 1) := by decide +kernel
theorem d_L_law_555 : decode code 555 = .ok (.aload_n 0, 1) := by decide +kernel
theorem d_L_law_556 : decode code 556 = .ok (.iload_n 3, 1) := by decide +kernel
theorem d_L_law_557 : decode code 557 = .ok (.iconst 1, 1) := by decide +kernel
theorem d_L_law_558 : decode code 558 = .ok (.iadd, 1) := by decide +kernel
theorem d_L_law_559 : decode code 559 = .ok (.iaload, 1) := by decide +kernel
theorem d_L_law_560 : decode code 560 = .ok (.invokevirtual 74, 3) := by decide +kernel
theorem d_L_law_563 : decode code 563 = .ok (.aload_n 2, 1) := by decide +kernel
theorem d_L_law_564 : decode code 564 = .ok (.aload_n 0, 1) := by decide +kernel
theorem d_L_law_565 : decode code 565 = .ok (.iload_n 3, 1) := by decide +kernel
theorem d_L_law_566 : decode code 566 = .ok (.iconst 1, 1) := by decide +kernel
theorem d_L_law_567 : decode code 567 = .ok (.iadd, 1) := by decide +kernel
theorem d_L_law_568 : decode code 568 = .ok (.iaload, 1) := by decide +kernel
theorem d_L_law_569 : decode code 569 = .ok (.invokevirtual 77, 3) := by decide +kernel
theorem d_L_law_572 : decode code 572 = .ok (.if_icmp .eq 375, 3) := by decide +kernel
theorem d_L_law_575 : decode code 575 = .ok (.iconst 0, 1) := by decide +kernel
theorem d_L_law_576 : decode code 576 = .ok (.ireturn, 1) := by decide +kernel
theorem d_L_law_577 : decode code 577 = .ok (.aload_n 1, 1) := by decide +kernel
theorem d_L_law_578 : decode code 578 = .ok (.aload_n 0, 1) := by decide +kernel
theorem d_L_law_579 : decode code 579 = .ok (.iload_n 3, 1) := by decide +kernel
theorem d_L_law_580 : decode code 580 = .ok (.iconst 1, 1) := by decide +kernel
theorem d_L_law_581 : decode code 581 = .ok (.iadd, 1) := by decide +kernel
theorem d_L_law_582 : decode code 582 = .ok (.iaload, 1) := by decide +kernel
theorem d_L_law_583 : decode code 583 = .ok (.aload_n 0, 1) := by decide +kernel
theorem d_L_law_584 : decode code 584 = .ok (.iload_n 3, 1) := by decide +kernel
theorem d_L_law_585 : decode code 585 = .ok (.iconst 2, 1) := by decide +kernel
theorem d_L_law_586 : decode code 586 = .ok (.iadd, 1) := by decide +kernel
theorem d_L_law_587 : decode code 587 = .ok (.iaload, 1) := by decide +kernel
theorem d_L_law_588 : decode code 588 = .ok (.invokevirtual 78, 3) := by decide +kernel
theorem d_L_law_591 : decode code 591 = .ok (.aload_n 2, 1) := by decide +kernel
theorem d_L_law_592 : decode code 592 = .ok (.aload_n 0, 1) := by decide +kernel
theorem d_L_law_593 : decode code 593 = .ok (.iload_n 3, 1) := by decide +kernel
theorem d_L_law_594 : decode code 594 = .ok (.iconst 1, 1) := by decide +kernel
theorem d_L_law_595 : decode code 595 = .ok (.iadd, 1) := by decide +kernel
theorem d_L_law_596 : decode code 596 = .ok (.iaload, 1) := by decide +kernel
theorem d_L_law_597 : decode code 597 = .ok (.aload_n 0, 1) := by decide +kernel
theorem d_L_law_598 : decode code 598 = .ok (.iload_n 3, 1) := by decide +kernel
theorem d_L_law_599 : decode code 599 = .ok (.iconst 2, 1) := by decide +kernel
theorem d_L_law_600 : decode code 600 = .ok (.iadd, 1) := by decide +kernel
theorem d_L_law_601 : decode code 601 = .ok (.iaload, 1) := by decide +kernel
theorem d_L_law_602 : decode code 602 = .ok (.invokevirtual 81, 3) := by decide +kernel
theorem d_L_law_605 : decode code 605 = .ok (.if_icmp .eq 342, 3) := by decide +kernel
theorem d_L_law_608 : decode code 608 = .ok (.iconst 0, 1) := by decide +kernel
theorem d_L_law_609 : decode code 609 = .ok (.ireturn, 1) := by decide +kernel
theorem d_L_law_610 : decode code 610 = .ok (.aload_n 1, 1) := by decide +kernel
theorem d_L_law_611 : decode code 611 = .ok (.aload_n 0, 1) := by decide +kernel
theorem d_L_law_612 : decode code 612 = .ok (.iload_n 3, 1) := by decide +kernel
theorem d_L_law_613 : decode code 613 = .ok (.iconst 1, 1) := by decide +kernel
theorem d_L_law_614 : decode code 614 = .ok (.iadd, 1) := by decide +kernel
theorem d_L_law_615 : decode code 615 = .ok (.iaload, 1) := by decide +kernel
theorem d_L_law_616 : decode code 616 = .ok (.aload_n 0, 1) := by decide +kernel
theorem d_L_law_617 : decode code 617 = .ok (.iload_n 3, 1) := by decide +kernel
theorem d_L_law_618 : decode code 618 = .ok (.iconst 2, 1) := by decide +kernel
theorem d_L_law_619 : decode code 619 = .ok (.iadd, 1) := by decide +kernel
theorem d_L_law_620 : decode code 620 = .ok (.iaload, 1) := by decide +kernel
theorem d_L_law_621 : decode code 621 = .ok (.invokevirtual 82, 3) := by decide +kernel
theorem d_L_law_624 : decode code 624 = .ok (.aload_n 2, 1) := by decide +kernel
theorem d_L_law_625 : decode code 625 = .ok (.aload_n 0, 1) := by decide +kernel
theorem d_L_law_626 : decode code 626 = .ok (.iload_n 3, 1) := by decide +kernel
theorem d_L_law_627 : decode code 627 = .ok (.iconst 1, 1) := by decide +kernel
theorem d_L_law_628 : decode code 628 = .ok (.iadd, 1) := by decide +kernel
theorem d_L_law_629 : decode code 629 = .ok (.iaload, 1) := by decide +kernel
theorem d_L_law_630 : decode code 630 = .ok (.aload_n 0, 1) := by decide +kernel
theorem d_L_law_631 : decode code 631 = .ok (.iload_n 3, 1) := by decide +kernel
theorem d_L_law_632 : decode code 632 = .ok (.iconst 2, 1) := by decide +kernel
theorem d_L_law_633 : decode code 633 = .ok (.iadd, 1) := by decide +kernel
theorem d_L_law_634 : decode code 634 = .ok (.iaload, 1) := by decide +kernel
theorem d_L_law_635 : decode code 635 = .ok (.invokevirtual 85, 3) := by decide +kernel
theorem d_L_law_638 : decode code 638 = .ok (.if_icmp .eq 309, 3) := by decide +kernel
theorem d_L_law_641 : decode code 641 = .ok (.iconst 0, 1) := by decide +kernel
theorem d_L_law_642 : decode code 642 = .ok (.ireturn, 1) := by decide +kernel
theorem d_L_law_643 : decode code 643 = .ok (.aload_n 1, 1) := by decide +kernel
theorem d_L_law_644 : decode code 644 = .ok (.aload_n 0, 1) := by decide +kernel
theorem d_L_law_645 : decode code 645 = .ok (.iload_n 3, 1) := by decide +kernel
theorem d_L_law_646 : decode code 646 = .ok (.iconst 1, 1) := by decide +kernel
theorem d_L_law_647 : decode code 647 = .ok (.iadd, 1) := by decide +kernel
theorem d_L_law_648 : decode code 648 = .ok (.iaload, 1) := by decide +kernel
theorem d_L_law_649 : decode code 649 = .ok (.invokevirtual 86, 3) := by decide +kernel
theorem d_L_law_652 : decode code 652 = .ok (.aload_n 2, 1) := by decide +kernel
theorem d_L_law_653 : decode code 653 = .ok (.aload_n 0, 1) := by decide +kernel
theorem d_L_law_654 : decode code 654 = .ok (.iload_n 3, 1) := by decide +kernel
theorem d_L_law_655 : decode code 655 = .ok (.iconst 1, 1) := by decide +kernel
theorem d_L_law_656 : decode code 656 = .ok (.iadd, 1) := by decide +kernel
theorem d_L_law_657 : decode code 657 = .ok (.iaload, 1) := by decide +kernel
theorem d_L_law_658 : decode code 658 = .ok (.invokevirtual 89, 3) := by decide +kernel
theorem d_L_law_661 : decode code 661 = .ok (.if_icmp .eq 286, 3) := by decide +kernel
theorem d_L_law_664 : decode code 664 = .ok (.iconst 0, 1) := by decide +kernel
theorem d_L_law_665 : decode code 665 = .ok (.ireturn, 1) := by decide +kernel
theorem d_L_law_666 : decode code 666 = .ok (.aload_n 1, 1) := by decide +kernel
theorem d_L_law_667 : decode code 667 = .ok (.aload_n 0, 1) := by decide +kernel
theorem d_L_law_668 : decode code 668 = .ok (.iload_n 3, 1) := by decide +kernel
theorem d_L_law_669 : decode code 669 = .ok (.iconst 1, 1) := by decide +kernel
theorem d_L_law_670 : decode code 670 = .ok (.iadd, 1) := by decide +kernel
theorem d_L_law_671 : decode code 671 = .ok (.iaload, 1) := by decide +kernel
theorem d_L_law_672 : decode code 672 = .ok (.invokevirtual 90, 3) := by decide +kernel
theorem d_L_law_675 : decode code 675 = .ok (.aload_n 2, 1) := by decide +kernel
theorem d_L_law_676 : decode code 676 = .ok (.aload_n 0, 1) := by decide +kernel
theorem d_L_law_677 : decode code 677 = .ok (.iload_n 3, 1) := by decide +kernel
theorem d_L_law_678 : decode code 678 = .ok (.iconst 1, 1) := by decide +kernel
theorem d_L_law_679 : decode code 679 = .ok (.iadd, 1) := by decide +kernel
theorem d_L_law_680 : decode code 680 = .ok (.iaload, 1) := by decide +kernel
theorem d_L_law_681 : decode code 681 = .ok (.invokevirtual 93, 3) := by decide +kernel
theorem d_L_law_684 : decode code 684 = .ok (.if_icmp .eq 263, 3) := by decide +kernel
theorem d_L_law_687 : decode code 687 = .ok (.iconst 0, 1) := by decide +kernel
theorem d_L_law_688 : decode code 688 = .ok (.ireturn, 1) := by decide +kernel
theorem d_L_law_689 : decode code 689 = .ok (.aload_n 1, 1) := by decide +kernel
theorem d_L_law_690 : decode code 690 = .ok (.aload_n 0, 1) := by decide +kernel
theorem d_L_law_691 : decode code 691 = .ok (.iload_n 3, 1) := by decide +kernel
theorem d_L_law_692 : decode code 692 = .ok (.iconst 1, 1) := by decide +kernel
theorem d_L_law_693 : decode code 693 = .ok (.iadd, 1) := by decide +kernel
theorem d_L_law_694 : decode code 694 = .ok (.iaload, 1) := by decide +kernel
theorem d_L_law_695 : decode code 695 = .ok (.aload_n 0, 1) := by decide +kernel
theorem d_L_law_696 : decode code 696 = .ok (.iload_n 3, 1) := by decide +kernel
theorem d_L_law_697 : decode code 697 = .ok (.iconst 2, 1) := by decide +kernel
theorem d_L_law_698 : decode code 698 = .ok (.iadd, 1) := by decide +kernel
theorem d_L_law_699 : decode code 699 = .ok (.iaload, 1) := by decide +kernel
theorem d_L_law_700 : decode code 700 = .ok (.aload_n 0, 1) := by decide +kernel
theorem d_L_law_701 : decode code 701 = .ok (.iload_n 3, 1) := by decide +kernel
theorem d_L_law_702 : decode code 702 = .ok (.iconst 3, 1) := by decide +kernel
theorem d_L_law_703 : decode code 703 = .ok (.iadd, 1) := by decide +kernel
theorem d_L_law_704 : decode code 704 = .ok (.iaload, 1) := by decide +kernel
theorem d_L_law_705 : decode code 705 = .ok (.invokevirtual 94, 3) := by decide +kernel
theorem d_L_law_708 : decode code 708 = .ok (.aload_n 2, 1) := by decide +kernel
theorem d_L_law_709 : decode code 709 = .ok (.aload_n 0, 1) := by decide +kernel
theorem d_L_law_710 : decode code 710 = .ok (.iload_n 3, 1) := by decide +kernel
theorem d_L_law_711 : decode code 711 = .ok (.iconst 1, 1) := by decide +kernel
theorem d_L_law_712 : decode code 712 = .ok (.iadd, 1) := by decide +kernel
theorem d_L_law_713 : decode code 713 = .ok (.iaload, 1) := by decide +kernel
theorem d_L_law_714 : decode code 714 = .ok (.aload_n 0, 1) := by decide +kernel
theorem d_L_law_715 : decode code 715 = .ok (.iload_n 3, 1) := by decide +kernel
theorem d_L_law_716 : decode code 716 = .ok (.iconst 2, 1) := by decide +kernel
theorem d_L_law_717 : decode code 717 = .ok (.iadd, 1) := by decide +kernel
theorem d_L_law_718 : decode code 718 = .ok (.iaload, 1) := by decide +kernel
theorem d_L_law_719 : decode code 719 = .ok (.aload_n 0, 1) := by decide +kernel
theorem d_L_law_720 : decode code 720 = .ok (.iload_n 3, 1) := by decide +kernel
theorem d_L_law_721 : decode code 721 = .ok (.iconst 3, 1) := by decide +kernel
theorem d_L_law_722 : decode code 722 = .ok (.iadd, 1) := by decide +kernel
theorem d_L_law_723 : decode code 723 = .ok (.iaload, 1) := by decide +kernel
theorem d_L_law_724 : decode code 724 = .ok (.invokevirtual 98, 3) := by decide +kernel
theorem d_L_law_727 : decode code 727 = .ok (.if_icmp .eq 220, 3) := by decide +kernel
theorem d_L_law_730 : decode code 730 = .ok (.iconst 0, 1) := by decide +kernel
theorem d_L_law_731 : decode code 731 = .ok (.ireturn, 1) := by decide +kernel
theorem d_L_law_732 : decode code 732 = .ok (.aload_n 1, 1) := by decide +kernel
theorem d_L_law_733 : decode code 733 = .ok (.aload_n 0, 1) := by decide +kernel
theorem d_L_law_734 : decode code 734 = .ok (.iload_n 3, 1) := by decide +kernel
theorem d_L_law_735 : decode code 735 = .ok (.iconst 1, 1) := by decide +kernel
theorem d_L_law_736 : decode code 736 = .ok (.iadd, 1) := by decide +kernel
theorem d_L_law_737 : decode code 737 = .ok (.iaload, 1) := by decide +kernel
theorem d_L_law_738 : decode code 738 = .ok (.aload_n 0, 1) := by decide +kernel
theorem d_L_law_739 : decode code 739 = .ok (.iload_n 3, 1) := by decide +kernel
theorem d_L_law_740 : decode code 740 = .ok (.iconst 2, 1) := by decide +kernel
theorem d_L_law_741 : decode code 741 = .ok (.iadd, 1) := by decide +kernel
theorem d_L_law_742 : decode code 742 = .ok (.iaload, 1) := by decide +kernel
theorem d_L_law_743 : decode code 743 = .ok (.aload_n 0, 1) := by decide +kernel
theorem d_L_law_744 : decode code 744 = .ok (.iload_n 3, 1) := by decide +kernel
theorem d_L_law_745 : decode code 745 = .ok (.iconst 3, 1) := by decide +kernel
theorem d_L_law_746 : decode code 746 = .ok (.iadd, 1) := by decide +kernel
theorem d_L_law_747 : decode code 747 = .ok (.iaload, 1) := by decide +kernel
theorem d_L_law_748 : decode code 748 = .ok (.aload_n 0, 1) := by decide +kernel
theorem d_L_law_749 : decode code 749 = .ok (.iload_n 3, 1) := by decide +kernel
theorem d_L_law_750 : decode code 750 = .ok (.iconst 4, 1) := by decide +kernel
theorem d_L_law_751 : decode code 751 = .ok (.iadd, 1) := by decide +kernel
theorem d_L_law_752 : decode code 752 = .ok (.iaload, 1) := by decide +kernel
theorem d_L_law_753 : decode code 753 = .ok (.ifCond .eq 7, 3) := by decide +kernel
theorem d_L_law_756 : decode code 756 = .ok (.iconst 1, 1) := by decide +kernel
theorem d_L_law_757 : decode code 757 = .ok (.goto 4, 3) := by decide +kernel
theorem d_L_law_760 : decode code 760 = .ok (.iconst 0, 1) := by decide +kernel
theorem d_L_law_761 : decode code 761 = .ok (.invokevirtual 99, 3) := by decide +kernel
theorem d_L_law_764 : decode code 764 = .ok (.aload_n 2, 1) := by decide +kernel
theorem d_L_law_765 : decode code 765 = .ok (.aload_n 0, 1) := by decide +kernel
theorem d_L_law_766 : decode code 766 = .ok (.iload_n 3, 1) := by decide +kernel
theorem d_L_law_767 : decode code 767 = .ok (.iconst 1, 1) := by decide +kernel
theorem d_L_law_768 : decode code 768 = .ok (.iadd, 1) := by decide +kernel
theorem d_L_law_769 : decode code 769 = .ok (.iaload, 1) := by decide +kernel
theorem d_L_law_770 : decode code 770 = .ok (.aload_n 0, 1) := by decide +kernel
theorem d_L_law_771 : decode code 771 = .ok (.iload_n 3, 1) := by decide +kernel
theorem d_L_law_772 : decode code 772 = .ok (.iconst 2, 1) := by decide +kernel
theorem d_L_law_773 : decode code 773 = .ok (.iadd, 1) := by decide +kernel
theorem d_L_law_774 : decode code 774 = .ok (.iaload, 1) := by decide +kernel
theorem d_L_law_775 : decode code 775 = .ok (.aload_n 0, 1) := by decide +kernel
theorem d_L_law_776 : decode code 776 = .ok (.iload_n 3, 1) := by decide +kernel
theorem d_L_law_777 : decode code 777 = .ok (.iconst 3, 1) := by decide +kernel
theorem d_L_law_778 : decode code 778 = .ok (.iadd, 1) := by decide +kernel
theorem d_L_law_779 : decode code 779 = .ok (.iaload, 1) := by decide +kernel
theorem d_L_law_780 : decode code 780 = .ok (.aload_n 0, 1) := by decide +kernel
theorem d_L_law_781 : decode code 781 = .ok (.iload_n 3, 1) := by decide +kernel
theorem d_L_law_782 : decode code 782 = .ok (.iconst 4, 1) := by decide +kernel
theorem d_L_law_783 : decode code 783 = .ok (.iadd, 1) := by decide +kernel
theorem d_L_law_784 : decode code 784 = .ok (.iaload, 1) := by decide +kernel
theorem d_L_law_785 : decode code 785 = .ok (.ifCond .eq 7, 3) := by decide +kernel
theorem d_L_law_788 : decode code 788 = .ok (.iconst 1, 1) := by decide +kernel
theorem d_L_law_789 : decode code 789 = .ok (.goto 4, 3) := by decide +kernel
theorem d_L_law_792 : decode code 792 = .ok (.iconst 0, 1) := by decide +kernel
theorem d_L_law_793 : decode code 793 = .ok (.invokevirtual 103, 3) := by decide +kernel
theorem d_L_law_796 : decode code 796 = .ok (.if_icmp .eq 151, 3) := by decide +kernel
theorem d_L_law_799 : decode code 799 = .ok (.iconst 0, 1) := by decide +kernel
theorem d_L_law_800 : decode code 800 = .ok (.ireturn, 1) := by decide +kernel
theorem d_L_law_801 : decode code 801 = .ok (.aload_n 1, 1) := by decide +kernel
theorem d_L_law_802 : decode code 802 = .ok (.aload_n 0, 1) := by decide +kernel
theorem d_L_law_803 : decode code 803 = .ok (.iload_n 3, 1) := by decide +kernel
theorem d_L_law_804 : decode code 804 = .ok (.iconst 1, 1) := by decide +kernel
theorem d_L_law_805 : decode code 805 = .ok (.iadd, 1) := by decide +kernel
theorem d_L_law_806 : decode code 806 = .ok (.iaload, 1) := by decide +kernel
theorem d_L_law_807 : decode code 807 = .ok (.aload_n 0, 1) := by decide +kernel
theorem d_L_law_808 : decode code 808 = .ok (.iload_n 3, 1) := by decide +kernel
theorem d_L_law_809 : decode code 809 = .ok (.iconst 2, 1) := by decide +kernel
theorem d_L_law_810 : decode code 810 = .ok (.iadd, 1) := by decide +kernel
theorem d_L_law_811 : decode code 811 = .ok (.iaload, 1) := by decide +kernel
theorem d_L_law_812 : decode code 812 = .ok (.aload_n 0, 1) := by decide +kernel
theorem d_L_law_813 : decode code 813 = .ok (.iload_n 3, 1) := by decide +kernel
theorem d_L_law_814 : decode code 814 = .ok (.iconst 3, 1) := by decide +kernel
theorem d_L_law_815 : decode code 815 = .ok (.iadd, 1) := by decide +kernel
theorem d_L_law_816 : decode code 816 = .ok (.iaload, 1) := by decide +kernel
theorem d_L_law_817 : decode code 817 = .ok (.invokevirtual 104, 3) := by decide +kernel
theorem d_L_law_820 : decode code 820 = .ok (.aload_n 2, 1) := by decide +kernel
theorem d_L_law_821 : decode code 821 = .ok (.aload_n 0, 1) := by decide +kernel
theorem d_L_law_822 : decode code 822 = .ok (.iload_n 3, 1) := by decide +kernel
theorem d_L_law_823 : decode code 823 = .ok (.iconst 1, 1) := by decide +kernel
theorem d_L_law_824 : decode code 824 = .ok (.iadd, 1) := by decide +kernel
theorem d_L_law_825 : decode code 825 = .ok (.iaload, 1) := by decide +kernel
theorem d_L_law_826 : decode code 826 = .ok (.aload_n 0, 1) := by decide +kernel
theorem d_L_law_827 : decode code 827 = .ok (.iload_n 3, 1) := by decide +kernel
theorem d_L_law_828 : decode code 828 = .ok (.iconst 2, 1) := by decide +kernel
theorem d_L_law_829 : decode code 829 = .ok (.iadd, 1) := by decide +kernel
theorem d_L_law_830 : decode code 830 = .ok (.iaload, 1) := by decide +kernel
theorem d_L_law_831 : decode code 831 = .ok (.aload_n 0, 1) := by decide +kernel
theorem d_L_law_832 : decode code 832 = .ok (.iload_n 3, 1) := by decide +kernel
theorem d_L_law_833 : decode code 833 = .ok (.iconst 3, 1) := by decide +kernel
theorem d_L_law_834 : decode code 834 = .ok (.iadd, 1) := by decide +kernel
theorem d_L_law_835 : decode code 835 = .ok (.iaload, 1) := by decide +kernel
theorem d_L_law_836 : decode code 836 = .ok (.invokevirtual 107, 3) := by decide +kernel
theorem d_L_law_839 : decode code 839 = .ok (.if_icmp .eq 108, 3) := by decide +kernel
theorem d_L_law_842 : decode code 842 = .ok (.iconst 0, 1) := by decide +kernel
theorem d_L_law_843 : decode code 843 = .ok (.ireturn, 1) := by decide +kernel
theorem d_L_law_844 : decode code 844 = .ok (.aload_n 1, 1) := by decide +kernel
theorem d_L_law_845 : decode code 845 = .ok (.aload_n 0, 1) := by decide +kernel
theorem d_L_law_846 : decode code 846 = .ok (.iload_n 3, 1) := by decide +kernel
theorem d_L_law_847 : decode code 847 = .ok (.iconst 1, 1) := by decide +kernel
theorem d_L_law_848 : decode code 848 = .ok (.iadd, 1) := by decide +kernel
theorem d_L_law_849 : decode code 849 = .ok (.iaload, 1) := by decide +kernel
theorem d_L_law_850 : decode code 850 = .ok (.aload_n 0, 1) := by decide +kernel
theorem d_L_law_851 : decode code 851 = .ok (.iload_n 3, 1) := by decide +kernel
theorem d_L_law_852 : decode code 852 = .ok (.iconst 2, 1) := by decide +kernel
theorem d_L_law_853 : decode code 853 = .ok (.iadd, 1) := by decide +kernel
theorem d_L_law_854 : decode code 854 = .ok (.iaload, 1) := by decide +kernel
theorem d_L_law_855 : decode code 855 = .ok (.aload_n 0, 1) := by decide +kernel
theorem d_L_law_856 : decode code 856 = .ok (.iload_n 3, 1) := by decide +kernel
theorem d_L_law_857 : decode code 857 = .ok (.iconst 3, 1) := by decide +kernel
theorem d_L_law_858 : decode code 858 = .ok (.iadd, 1) := by decide +kernel
theorem d_L_law_859 : decode code 859 = .ok (.iaload, 1) := by decide +kernel
theorem d_L_law_860 : decode code 860 = .ok (.aload_n 0, 1) := by decide +kernel
theorem d_L_law_861 : decode code 861 = .ok (.iload_n 3, 1) := by decide +kernel
theorem d_L_law_862 : decode code 862 = .ok (.iconst 4, 1) := by decide +kernel
theorem d_L_law_863 : decode code 863 = .ok (.iadd, 1) := by decide +kernel
theorem d_L_law_864 : decode code 864 = .ok (.iaload, 1) := by decide +kernel
theorem d_L_law_865 : decode code 865 = .ok (.invokevirtual 108, 3) := by decide +kernel
theorem d_L_law_868 : decode code 868 = .ok (.aload_n 2, 1) := by decide +kernel
theorem d_L_law_869 : decode code 869 = .ok (.aload_n 0, 1) := by decide +kernel
theorem d_L_law_870 : decode code 870 = .ok (.iload_n 3, 1) := by decide +kernel
theorem d_L_law_871 : decode code 871 = .ok (.iconst 1, 1) := by decide +kernel
theorem d_L_law_872 : decode code 872 = .ok (.iadd, 1) := by decide +kernel
theorem d_L_law_873 : decode code 873 = .ok (.iaload, 1) := by decide +kernel
theorem d_L_law_874 : decode code 874 = .ok (.aload_n 0, 1) := by decide +kernel
theorem d_L_law_875 : decode code 875 = .ok (.iload_n 3, 1) := by decide +kernel
theorem d_L_law_876 : decode code 876 = .ok (.iconst 2, 1) := by decide +kernel
theorem d_L_law_877 : decode code 877 = .ok (.iadd, 1) := by decide +kernel
theorem d_L_law_878 : decode code 878 = .ok (.iaload, 1) := by decide +kernel
theorem d_L_law_879 : decode code 879 = .ok (.aload_n 0, 1) := by decide +kernel
theorem d_L_law_880 : decode code 880 = .ok (.iload_n 3, 1) := by decide +kernel
theorem d_L_law_881 : decode code 881 = .ok (.iconst 3, 1) := by decide +kernel
theorem d_L_law_882 : decode code 882 = .ok (.iadd, 1) := by decide +kernel
theorem d_L_law_883 : decode code 883 = .ok (.iaload, 1) := by decide +kernel
theorem d_L_law_884 : decode code 884 = .ok (.aload_n 0, 1) := by decide +kernel
theorem d_L_law_885 : decode code 885 = .ok (.iload_n 3, 1) := by decide +kernel
theorem d_L_law_886 : decode code 886 = .ok (.iconst 4, 1) := by decide +kernel
theorem d_L_law_887 : decode code 887 = .ok (.iadd, 1) := by decide +kernel
theorem d_L_law_888 : decode code 888 = .ok (.iaload, 1) := by decide +kernel
theorem d_L_law_889 : decode code 889 = .ok (.invokevirtual 112, 3) := by decide +kernel
theorem d_L_law_892 : decode code 892 = .ok (.if_icmp .eq 55, 3) := by decide +kernel
theorem d_L_law_895 : decode code 895 = .ok (.iconst 0, 1) := by decide +kernel
theorem d_L_law_896 : decode code 896 = .ok (.ireturn, 1) := by decide +kernel
theorem d_L_law_897 : decode code 897 = .ok (.aload_n 1, 1) := by decide +kernel
theorem d_L_law_898 : decode code 898 = .ok (.aload_n 0, 1) := by decide +kernel
theorem d_L_law_899 : decode code 899 = .ok (.iload_n 3, 1) := by decide +kernel
theorem d_L_law_900 : decode code 900 = .ok (.iconst 1, 1) := by decide +kernel
theorem d_L_law_901 : decode code 901 = .ok (.iadd, 1) := by decide +kernel
theorem d_L_law_902 : decode code 902 = .ok (.iaload, 1) := by decide +kernel
theorem d_L_law_903 : decode code 903 = .ok (.invokevirtual 113, 3) := by decide +kernel
theorem d_L_law_906 : decode code 906 = .ok (.aload_n 2, 1) := by decide +kernel
theorem d_L_law_907 : decode code 907 = .ok (.aload_n 0, 1) := by decide +kernel
theorem d_L_law_908 : decode code 908 = .ok (.iload_n 3, 1) := by decide +kernel
theorem d_L_law_909 : decode code 909 = .ok (.iconst 1, 1) := by decide +kernel
theorem d_L_law_910 : decode code 910 = .ok (.iadd, 1) := by decide +kernel
theorem d_L_law_911 : decode code 911 = .ok (.iaload, 1) := by decide +kernel
theorem d_L_law_912 : decode code 912 = .ok (.invokevirtual 116, 3) := by decide +kernel
theorem d_L_law_915 : decode code 915 = .ok (.if_icmp .eq 32, 3) := by decide +kernel
theorem d_L_law_918 : decode code 918 = .ok (.iconst 0, 1) := by decide +kernel
theorem d_L_law_919 : decode code 919 = .ok (.ireturn, 1) := by decide +kernel
theorem d_L_law_920 : decode code 920 = .ok (.aload_n 1, 1) := by decide +kernel
theorem d_L_law_921 : decode code 921 = .ok (.invokevirtual 117, 3) := by decide +kernel
theorem d_L_law_924 : decode code 924 = .ok (.aload_n 2, 1) := by decide +kernel
theorem d_L_law_925 : decode code 925 = .ok (.invokevirtual 121, 3) := by decide +kernel
theorem d_L_law_928 : decode code 928 = .ok (.lcmp, 1) := by decide +kernel
theorem d_L_law_929 : decode code 929 = .ok (.ifCond .eq 18, 3) := by decide +kernel
theorem d_L_law_932 : decode code 932 = .ok (.iconst 0, 1) := by decide +kernel
theorem d_L_law_933 : decode code 933 = .ok (.ireturn, 1) := by decide +kernel
theorem d_L_law_934 : decode code 934 = .ok (.aload_n 1, 1) := by decide +kernel
theorem d_L_law_935 : decode code 935 = .ok (.invokevirtual 122, 3) := by decide +kernel
theorem d_L_law_938 : decode code 938 = .ok (.aload_n 2, 1) := by decide +kernel
theorem d_L_law_939 : decode code 939 = .ok (.invokevirtual 126, 3) := by decide +kernel
theorem d_L_law_942 : decode code 942 = .ok (.if_icmp .eq 5, 3) := by decide +kernel
theorem d_L_law_945 : decode code 945 = .ok (.iconst 0, 1) := by decide +kernel
theorem d_L_law_946 : decode code 946 = .ok (.ireturn, 1) := by decide +kernel
theorem d_L_law_947 : decode code 947 = .ok (.iinc 3 5, 3) := by decide +kernel
theorem d_L_law_950 : decode code 950 = .ok (.goto (-932), 3) := by decide +kernel
theorem d_L_law_953 : decode code 953 = .ok (.iconst 1, 1) := by decide +kernel
theorem d_L_law_954 : decode code 954 = .ok (.ireturn, 1) := by decide +kernel
theorem d_M_at_0 : decode M_M_at.2.1 0 = .ok (.iconst 2, 1) := by decide +kernel
theorem d_M_at_1 : decode M_M_at.2.1 1 = .ok (.bipush 6, 2) := by decide +kernel
theorem d_M_at_3 : decode M_M_at.2.1 3 = .ok (.iload_n 0, 1) := by decide +kernel
theorem d_M_at_4 : decode M_M_at.2.1 4 = .ok (.imul, 1) := by decide +kernel
theorem d_M_at_5 : decode M_M_at.2.1 5 = .ok (.iload_n 1, 1) := by decide +kernel
theorem d_M_at_6 : decode M_M_at.2.1 6 = .ok (.iadd, 1) := by decide +kernel
theorem d_M_at_7 : decode M_M_at.2.1 7 = .ok (.imul, 1) := by decide +kernel
theorem d_M_at_8 : decode M_M_at.2.1 8 = .ok (.iload_n 2, 1) := by decide +kernel
theorem d_M_at_9 : decode M_M_at.2.1 9 = .ok (.ifCond .eq 7, 3) := by decide +kernel
theorem d_M_at_12 : decode M_M_at.2.1 12 = .ok (.iconst 1, 1) := by decide +kernel
theorem d_M_at_13 : decode M_M_at.2.1 13 = .ok (.goto 4, 3) := by decide +kernel
theorem d_M_at_16 : decode M_M_at.2.1 16 = .ok (.iconst 0, 1) := by decide +kernel
theorem d_M_at_17 : decode M_M_at.2.1 17 = .ok (.iadd, 1) := by decide +kernel
theorem d_M_at_18 : decode M_M_at.2.1 18 = .ok (.ireturn, 1) := by decide +kernel
theorem d_M_back_0 : decode M_M_back.2.1 0 = .ok (.iload_n 1, 1) := by decide +kernel
theorem d_M_back_1 : decode M_M_back.2.1 1 = .ok (.invokestatic 72, 3) := by decide +kernel
theorem d_M_back_4 : decode M_M_back.2.1 4 = .ok (.ifCond .ne 6, 3) := by decide +kernel
theorem d_M_back_7 : decode M_M_back.2.1 7 = .ok (.bipush (-2), 2) := by decide +kernel
theorem d_M_back_9 : decode M_M_back.2.1 9 = .ok (.ireturn, 1) := by decide +kernel
theorem d_M_back_10 : decode M_M_back.2.1 10 = .ok (.aload_n 0, 1) := by decide +kernel
theorem d_M_back_11 : decode M_M_back.2.1 11 = .ok (.getfield 17, 3) := by decide +kernel
theorem d_M_back_14 : decode M_M_back.2.1 14 = .ok (.iload_n 1, 1) := by decide +kernel
theorem d_M_back_15 : decode M_M_back.2.1 15 = .ok (.baload, 1) := by decide +kernel
theorem d_M_back_16 : decode M_M_back.2.1 16 = .ok (.ifCond .ne 6, 3) := by decide +kernel
theorem d_M_back_19 : decode M_M_back.2.1 19 = .ok (.bipush (-3), 2) := by decide +kernel
theorem d_M_back_21 : decode M_M_back.2.1 21 = .ok (.ireturn, 1) := by decide +kernel
theorem d_M_back_22 : decode M_M_back.2.1 22 = .ok (.aload_n 0, 1) := by decide +kernel
theorem d_M_back_23 : decode M_M_back.2.1 23 = .ok (.getfield 17, 3) := by decide +kernel
theorem d_M_back_26 : decode M_M_back.2.1 26 = .ok (.iload_n 1, 1) := by decide +kernel
theorem d_M_back_27 : decode M_M_back.2.1 27 = .ok (.iconst 0, 1) := by decide +kernel
theorem d_M_back_28 : decode M_M_back.2.1 28 = .ok (.bastore, 1) := by decide +kernel
theorem d_M_back_29 : decode M_M_back.2.1 29 = .ok (.iconst 0, 1) := by decide +kernel
theorem d_M_back_30 : decode M_M_back.2.1 30 = .ok (.istore_n 2, 1) := by decide +kernel
theorem d_M_back_31 : decode M_M_back.2.1 31 = .ok (.iconst 0, 1) := by decide +kernel
theorem d_M_back_32 : decode M_M_back.2.1 32 = .ok (.istore_n 3, 1) := by decide +kernel
theorem d_M_back_33 : decode M_M_back.2.1 33 = .ok (.iload_n 3, 1) := by decide +kernel
theorem d_M_back_34 : decode M_M_back.2.1 34 = .ok (.bipush 6, 2) := by decide +kernel
theorem d_M_back_36 : decode M_M_back.2.1 36 = .ok (.if_icmp .ge 38, 3) := by decide +kernel
theorem d_M_back_39 : decode M_M_back.2.1 39 = .ok (.iload_n 2, 1) := by decide +kernel
theorem d_M_back_40 : decode M_M_back.2.1 40 = .ok (.aload_n 0, 1) := by decide +kernel
theorem d_M_back_41 : decode M_M_back.2.1 41 = .ok (.getfield 30, 3) := by decide +kernel
theorem d_M_back_44 : decode M_M_back.2.1 44 = .ok (.iload_n 1, 1) := by decide +kernel
theorem d_M_back_45 : decode M_M_back.2.1 45 = .ok (.iload_n 3, 1) := by decide +kernel
theorem d_M_back_46 : decode M_M_back.2.1 46 = .ok (.iconst 1, 1) := by decide +kernel
theorem d_M_back_47 : decode M_M_back.2.1 47 = .ok (.invokestatic 79, 3) := by decide +kernel
theorem d_M_back_50 : decode M_M_back.2.1 50 = .ok (.baload, 1) := by decide +kernel
theorem d_M_back_51 : decode M_M_back.2.1 51 = .ok (.ifCond .eq 7, 3) := by decide +kernel
theorem d_M_back_54 : decode M_M_back.2.1 54 = .ok (.iconst 1, 1) := by decide +kernel
theorem d_M_back_55 : decode M_M_back.2.1 55 = .ok (.goto 4, 3) := by decide +kernel
theorem d_M_back_58 : decode M_M_back.2.1 58 = .ok (.iconst 0, 1) := by decide +kernel
theorem d_M_back_59 : decode M_M_back.2.1 59 = .ok (.iadd, 1) := by decide +kernel
theorem d_M_back_60 : decode M_M_back.2.1 60 = .ok (.istore_n 2, 1) := by decide +kernel
theorem d_M_back_61 : decode M_M_back.2.1 61 = .ok (.aload_n 0, 1) := by decide +kernel
theorem d_M_back_62 : decode M_M_back.2.1 62 = .ok (.iload_n 1, 1) := by decide +kernel
theorem d_M_back_63 : decode M_M_back.2.1 63 = .ok (.iload_n 3, 1) := by decide +kernel
theorem d_M_back_64 : decode M_M_back.2.1 64 = .ok (.iconst 1, 1) := by decide +kernel
theorem d_M_back_65 : decode M_M_back.2.1 65 = .ok (.invokevirtual 89, 3) := by decide +kernel
theorem d_M_back_68 : decode M_M_back.2.1 68 = .ok (.iinc 3 1, 3) := by decide +kernel
theorem d_M_back_71 : decode M_M_back.2.1 71 = .ok (.goto (-38), 3) := by decide +kernel
theorem d_M_back_74 : decode M_M_back.2.1 74 = .ok (.iload_n 2, 1) := by decide +kernel
theorem d_M_back_75 : decode M_M_back.2.1 75 = .ok (.ireturn, 1) := by decide +kernel
theorem d_M_block_0 : decode M_M_block.2.1 0 = .ok (.iload_n 1, 1) := by decide +kernel
theorem d_M_block_1 : decode M_M_block.2.1 1 = .ok (.invokestatic 72, 3) := by decide +kernel
theorem d_M_block_4 : decode M_M_block.2.1 4 = .ok (.ifCond .eq 10, 3) := by decide +kernel
theorem d_M_block_7 : decode M_M_block.2.1 7 = .ok (.iload_n 2, 1) := by decide +kernel
theorem d_M_block_8 : decode M_M_block.2.1 8 = .ok (.invokestatic 125, 3) := by decide +kernel
theorem d_M_block_11 : decode M_M_block.2.1 11 = .ok (.ifCond .ne 6, 3) := by decide +kernel
theorem d_M_block_14 : decode M_M_block.2.1 14 = .ok (.bipush (-2), 2) := by decide +kernel
theorem d_M_block_16 : decode M_M_block.2.1 16 = .ok (.ireturn, 1) := by decide +kernel
theorem d_M_block_17 : decode M_M_block.2.1 17 = .ok (.iload_n 1, 1) := by decide +kernel
theorem d_M_block_18 : decode M_M_block.2.1 18 = .ok (.iload_n 2, 1) := by decide +kernel
theorem d_M_block_19 : decode M_M_block.2.1 19 = .ok (.iload 4, 2) := by decide +kernel
theorem d_M_block_21 : decode M_M_block.2.1 21 = .ok (.invokestatic 79, 3) := by decide +kernel
theorem d_M_block_24 : decode M_M_block.2.1 24 = .ok (.istore 5, 2) := by decide +kernel
theorem d_M_block_26 : decode M_M_block.2.1 26 = .ok (.aload_n 0, 1) := by decide +kernel
theorem d_M_block_27 : decode M_M_block.2.1 27 = .ok (.getfield 30, 3) := by decide +kernel
theorem d_M_block_30 : decode M_M_block.2.1 30 = .ok (.iload 5, 2) := by decide +kernel
theorem d_M_block_32 : decode M_M_block.2.1 32 = .ok (.baload, 1) := by decide +kernel
theorem d_M_block_33 : decode M_M_block.2.1 33 = .ok (.ifCond .eq 38, 3) := by decide +kernel
theorem d_M_block_36 : decode M_M_block.2.1 36 = .ok (.iload_n 3, 1) := by decide +kernel
theorem d_M_block_37 : decode M_M_block.2.1 37 = .ok (.iconst 0, 1) := by decide +kernel
theorem d_M_block_38 : decode M_M_block.2.1 38 = .ok (.aload_n 0, 1) := by decide +kernel
theorem d_M_block_39 : decode M_M_block.2.1 39 = .ok (.getfield 36, 3) := by decide +kernel
theorem d_M_block_42 : decode M_M_block.2.1 42 = .ok (.iload 5, 2) := by decide +kernel
theorem d_M_block_44 : decode M_M_block.2.1 44 = .ok (.iaload, 1) := by decide +kernel
theorem d_M_block_45 : decode M_M_block.2.1 45 = .ok (.invokestatic 83, 3) := by decide +kernel
theorem d_M_block_48 : decode M_M_block.2.1 48 = .ok (.iconst 1, 1) := by decide +kernel
theorem d_M_block_49 : decode M_M_block.2.1 49 = .ok (.isub, 1) := by decide +kernel
theorem d_M_block_50 : decode M_M_block.2.1 50 = .ok (.invokestatic 60, 3) := by decide +kernel
theorem d_M_block_53 : decode M_M_block.2.1 53 = .ok (.ifCond .eq 18, 3) := by decide +kernel
theorem d_M_block_56 : decode M_M_block.2.1 56 = .ok (.aload_n 0, 1) := by decide +kernel
theorem d_M_block_57 : decode M_M_block.2.1 57 = .ok (.getfield 39, 3) := by decide +kernel
theorem d_M_block_60 : decode M_M_block.2.1 60 = .ok (.bipush 8, 2) := by decide +kernel
theorem d_M_block_62 : decode M_M_block.2.1 62 = .ok (.iload 5, 2) := by decide +kernel
theorem d_M_block_64 : decode M_M_block.2.1 64 = .ok (.imul, 1) := by decide +kernel
theorem d_M_block_65 : decode M_M_block.2.1 65 = .ok (.iload_n 3, 1) := by decide +kernel
theorem d_M_block_66 : decode M_M_block.2.1 66 = .ok (.iadd, 1) := by decide +kernel
theorem d_M_block_67 : decode M_M_block.2.1 67 = .ok (.iaload, 1) := by decide +kernel
theorem d_M_block_68 : decode M_M_block.2.1 68 = .ok (.goto 4, 3) := by decide +kernel
theorem d_M_block_71 : decode M_M_block.2.1 71 = .ok (.iconst (-1), 1) := by decide +kernel
theorem d_M_block_72 : decode M_M_block.2.1 72 = .ok (.ireturn, 1) := by decide +kernel
theorem d_M_byteAt_0 : decode M_M_byteAt.2.1 0 = .ok (.bipush 8, 2) := by decide +kernel
theorem d_M_byteAt_2 : decode M_M_byteAt.2.1 2 = .ok (.bipush 40, 2) := by decide +kernel
theorem d_M_byteAt_4 : decode M_M_byteAt.2.1 4 = .ok (.iload_n 1, 1) := by decide +kernel
theorem d_M_byteAt_5 : decode M_M_byteAt.2.1 5 = .ok (.imul, 1) := by decide +kernel
theorem d_M_byteAt_6 : decode M_M_byteAt.2.1 6 = .ok (.aload_n 0, 1) := by decide +kernel
theorem d_M_byteAt_7 : decode M_M_byteAt.2.1 7 = .ok (.getfield 39, 3) := by decide +kernel
theorem d_M_byteAt_10 : decode M_M_byteAt.2.1 10 = .ok (.bipush 8, 2) := by decide +kernel
theorem d_M_byteAt_12 : decode M_M_byteAt.2.1 12 = .ok (.iload_n 2, 1) := by decide +kernel
theorem d_M_byteAt_13 : decode M_M_byteAt.2.1 13 = .ok (.imul, 1) := by decide +kernel
theorem d_M_byteAt_14 : decode M_M_byteAt.2.1 14 = .ok (.iload_n 3, 1) := by decide +kernel
theorem d_M_byteAt_15 : decode M_M_byteAt.2.1 15 = .ok (.iadd, 1) := by decide +kernel
theorem d_M_byteAt_16 : decode M_M_byteAt.2.1 16 = .ok (.iaload, 1) := by decide +kernel
theorem d_M_byteAt_17 : decode M_M_byteAt.2.1 17 = .ok (.iadd, 1) := by decide +kernel
theorem d_M_byteAt_18 : decode M_M_byteAt.2.1 18 = .ok (.imul, 1) := by decide +kernel
theorem d_M_byteAt_19 : decode M_M_byteAt.2.1 19 = .ok (.iload 4, 2) := by decide +kernel
theorem d_M_byteAt_21 : decode M_M_byteAt.2.1 21 = .ok (.iadd, 1) := by decide +kernel
theorem d_M_byteAt_22 : decode M_M_byteAt.2.1 22 = .ok (.ireturn, 1) := by decide +kernel
theorem d_M_byteOf_0 : decode M_M_byteOf.2.1 0 = .ok (.iload_n 1, 1) := by decide +kernel
theorem d_M_byteOf_1 : decode M_M_byteOf.2.1 1 = .ok (.invokestatic 72, 3) := by decide +kernel
theorem d_M_byteOf_4 : decode M_M_byteOf.2.1 4 = .ok (.ifCond .eq 23, 3) := by decide +kernel
theorem d_M_byteOf_7 : decode M_M_byteOf.2.1 7 = .ok (.iload_n 2, 1) := by decide +kernel
theorem d_M_byteOf_8 : decode M_M_byteOf.2.1 8 = .ok (.iconst 0, 1) := by decide +kernel
theorem d_M_byteOf_9 : decode M_M_byteOf.2.1 9 = .ok (.bipush 39, 2) := by decide +kernel
theorem d_M_byteOf_11 : decode M_M_byteOf.2.1 11 = .ok (.invokestatic 60, 3) := by decide +kernel
theorem d_M_byteOf_14 : decode M_M_byteOf.2.1 14 = .ok (.ifCond .eq 13, 3) := by decide +kernel
theorem d_M_byteOf_17 : decode M_M_byteOf.2.1 17 = .ok (.iload_n 3, 1) := by decide +kernel
theorem d_M_byteOf_18 : decode M_M_byteOf.2.1 18 = .ok (.iconst 0, 1) := by decide +kernel
theorem d_M_byteOf_19 : decode M_M_byteOf.2.1 19 = .ok (.bipush 7, 2) := by decide +kernel
theorem d_M_byteOf_21 : decode M_M_byteOf.2.1 21 = .ok (.invokestatic 60, 3) := by decide +kernel
theorem d_M_byteOf_24 : decode M_M_byteOf.2.1 24 = .ok (.ifCond .ne 6, 3) := by decide +kernel
theorem d_M_byteOf_27 : decode M_M_byteOf.2.1 27 = .ok (.bipush (-2), 2) := by decide +kernel
theorem d_M_byteOf_29 : decode M_M_byteOf.2.1 29 = .ok (.ireturn, 1) := by decide +kernel
theorem d_M_byteOf_30 : decode M_M_byteOf.2.1 30 = .ok (.aload_n 0, 1) := by decide +kernel
theorem d_M_byteOf_31 : decode M_M_byteOf.2.1 31 = .ok (.getfield 24, 3) := by decide +kernel
theorem d_M_byteOf_34 : decode M_M_byteOf.2.1 34 = .ok (.bipush 40, 2) := by decide +kernel
theorem d_M_byteOf_36 : decode M_M_byteOf.2.1 36 = .ok (.iload_n 1, 1) := by decide +kernel
theorem d_M_byteOf_37 : decode M_M_byteOf.2.1 37 = .ok (.imul, 1) := by decide +kernel
theorem d_M_byteOf_38 : decode M_M_byteOf.2.1 38 = .ok (.iload_n 2, 1) := by decide +kernel
theorem d_M_byteOf_39 : decode M_M_byteOf.2.1 39 = .ok (.iadd, 1) := by decide +kernel
theorem d_M_byteOf_40 : decode M_M_byteOf.2.1 40 = .ok (.baload, 1) := by decide +kernel
theorem d_M_byteOf_41 : decode M_M_byteOf.2.1 41 = .ok (.ifCond .eq 22, 3) := by decide +kernel
theorem d_M_byteOf_44 : decode M_M_byteOf.2.1 44 = .ok (.aload_n 0, 1) := by decide +kernel
theorem d_M_byteOf_45 : decode M_M_byteOf.2.1 45 = .ok (.getfield 27, 3) := by decide +kernel
theorem d_M_byteOf_48 : decode M_M_byteOf.2.1 48 = .ok (.bipush 8, 2) := by decide +kernel
theorem d_M_byteOf_50 : decode M_M_byteOf.2.1 50 = .ok (.bipush 40, 2) := by decide +kernel
theorem d_M_byteOf_52 : decode M_M_byteOf.2.1 52 = .ok (.iload_n 1, 1) := by decide +kernel
theorem d_M_byteOf_53 : decode M_M_byteOf.2.1 53 = .ok (.imul, 1) := by decide +kernel
theorem d_M_byteOf_54 : decode M_M_byteOf.2.1 54 = .ok (.iload_n 2, 1) := by decide +kernel
theorem d_M_byteOf_55 : decode M_M_byteOf.2.1 55 = .ok (.iadd, 1) := by decide +kernel
theorem d_M_byteOf_56 : decode M_M_byteOf.2.1 56 = .ok (.imul, 1) := by decide +kernel
theorem d_M_byteOf_57 : decode M_M_byteOf.2.1 57 = .ok (.iload_n 3, 1) := by decide +kernel
theorem d_M_byteOf_58 : decode M_M_byteOf.2.1 58 = .ok (.iadd, 1) := by decide +kernel
theorem d_M_byteOf_59 : decode M_M_byteOf.2.1 59 = .ok (.iaload, 1) := by decide +kernel
theorem d_M_byteOf_60 : decode M_M_byteOf.2.1 60 = .ok (.goto 4, 3) := by decide +kernel
theorem d_M_byteOf_63 : decode M_M_byteOf.2.1 63 = .ok (.iconst (-1), 1) := by decide +kernel
theorem d_M_byteOf_64 : decode M_M_byteOf.2.1 64 = .ok (.ireturn, 1) := by decide +kernel
theorem d_M_choose_0 : decode M_M_choose.2.1 0 = .ok (.iconst 0, 1) := by decide +kernel
theorem d_M_choose_1 : decode M_M_choose.2.1 1 = .ok (.istore 5, 2) := by decide +kernel
theorem d_M_choose_3 : decode M_M_choose.2.1 3 = .ok (.iconst 0, 1) := by decide +kernel
theorem d_M_choose_4 : decode M_M_choose.2.1 4 = .ok (.istore 6, 2) := by decide +kernel
theorem d_M_choose_6 : decode M_M_choose.2.1 6 = .ok (.iload 6, 2) := by decide +kernel
theorem d_M_choose_8 : decode M_M_choose.2.1 8 = .ok (.bipush 12, 2) := by decide +kernel
theorem d_M_choose_10 : decode M_M_choose.2.1 10 = .ok (.if_icmp .ge 49, 3) := by decide +kernel
theorem d_M_choose_13 : decode M_M_choose.2.1 13 = .ok (.iload_n 3, 1) := by decide +kernel
theorem d_M_choose_14 : decode M_M_choose.2.1 14 = .ok (.iload 6, 2) := by decide +kernel
theorem d_M_choose_16 : decode M_M_choose.2.1 16 = .ok (.ishr, 1) := by decide +kernel
theorem d_M_choose_17 : decode M_M_choose.2.1 17 = .ok (.iconst 1, 1) := by decide +kernel
theorem d_M_choose_18 : decode M_M_choose.2.1 18 = .ok (.iand, 1) := by decide +kernel
theorem d_M_choose_19 : decode M_M_choose.2.1 19 = .ok (.iconst 1, 1) := by decide +kernel
theorem d_M_choose_20 : decode M_M_choose.2.1 20 = .ok (.if_icmp .ne 33, 3) := by decide +kernel
theorem d_M_choose_23 : decode M_M_choose.2.1 23 = .ok (.aload_n 0, 1) := by decide +kernel
theorem d_M_choose_24 : decode M_M_choose.2.1 24 = .ok (.iload 6, 2) := by decide +kernel
theorem d_M_choose_26 : decode M_M_choose.2.1 26 = .ok (.iload_n 1, 1) := by decide +kernel
theorem d_M_choose_27 : decode M_M_choose.2.1 27 = .ok (.iload_n 2, 1) := by decide +kernel
theorem d_M_choose_28 : decode M_M_choose.2.1 28 = .ok (.invokevirtual 93, 3) := by decide +kernel
theorem d_M_choose_31 : decode M_M_choose.2.1 31 = .ok (.ifCond .eq 22, 3) := by decide +kernel
theorem d_M_choose_34 : decode M_M_choose.2.1 34 = .ok (.iload 5, 2) := by decide +kernel
theorem d_M_choose_36 : decode M_M_choose.2.1 36 = .ok (.iload 4, 2) := by decide +kernel
theorem d_M_choose_38 : decode M_M_choose.2.1 38 = .ok (.if_icmp .ge 12, 3) := by decide +kernel
theorem d_M_choose_41 : decode M_M_choose.2.1 41 = .ok (.aload_n 0, 1) := by decide +kernel
theorem d_M_choose_42 : decode M_M_choose.2.1 42 = .ok (.getfield 54, 3) := by decide +kernel
theorem d_M_choose_45 : decode M_M_choose.2.1 45 = .ok (.iload 5, 2) := by decide +kernel
theorem d_M_choose_47 : decode M_M_choose.2.1 47 = .ok (.iload 6, 2) := by decide +kernel
theorem d_M_choose_49 : decode M_M_choose.2.1 49 = .ok (.iastore, 1) := by decide +kernel
theorem d_M_choose_50 : decode M_M_choose.2.1 50 = .ok (.iinc 5 1, 3) := by decide +kernel
theorem d_M_choose_53 : decode M_M_choose.2.1 53 = .ok (.iinc 6 1, 3) := by decide +kernel
theorem d_M_choose_56 : decode M_M_choose.2.1 56 = .ok (.goto (-50), 3) := by decide +kernel
theorem d_M_choose_59 : decode M_M_choose.2.1 59 = .ok (.iload 5, 2) := by decide +kernel
theorem d_M_choose_61 : decode M_M_choose.2.1 61 = .ok (.ireturn, 1) := by decide +kernel
theorem d_M_chooseLeast_0 : decode M_M_chooseLeast.2.1 0 = .ok (.iload_n 3, 1) := by decide +kernel
theorem d_M_chooseLeast_1 : decode M_M_chooseLeast.2.1 1 = .ok (.istore 4, 2) := by decide +kernel
theorem d_M_chooseLeast_3 : decode M_M_chooseLeast.2.1 3 = .ok (.iconst 0, 1) := by decide +kernel
theorem d_M_chooseLeast_4 : decode M_M_chooseLeast.2.1 4 = .ok (.istore 5, 2) := by decide +kernel
theorem d_M_chooseLeast_6 : decode M_M_chooseLeast.2.1 6 = .ok (.iload 5, 2) := by decide +kernel
theorem d_M_chooseLeast_8 : decode M_M_chooseLeast.2.1 8 = .ok (.bipush 8, 2) := by decide +kernel
theorem d_M_chooseLeast_10 : decode M_M_chooseLeast.2.1 10 = .ok (.if_icmp .ge 97, 3) := by decide +kernel
theorem d_M_chooseLeast_13 : decode M_M_chooseLeast.2.1 13 = .ok (.iconst (-1), 1) := by decide +kernel
theorem d_M_chooseLeast_14 : decode M_M_chooseLeast.2.1 14 = .ok (.istore 6, 2) := by decide +kernel
theorem d_M_chooseLeast_16 : decode M_M_chooseLeast.2.1 16 = .ok (.iconst 0, 1) := by decide +kernel
theorem d_M_chooseLeast_17 : decode M_M_chooseLeast.2.1 17 = .ok (.istore 7, 2) := by decide +kernel
theorem d_M_chooseLeast_19 : decode M_M_chooseLeast.2.1 19 = .ok (.iload 7, 2) := by decide +kernel
theorem d_M_chooseLeast_21 : decode M_M_chooseLeast.2.1 21 = .ok (.bipush 12, 2) := by decide +kernel
theorem d_M_chooseLeast_23 : decode M_M_chooseLeast.2.1 23 = .ok (.if_icmp .ge 58, 3) := by decide +kernel
theorem d_M_chooseLeast_26 : decode M_M_chooseLeast.2.1 26 = .ok (.iload 4, 2) := by decide +kernel
theorem d_M_chooseLeast_28 : decode M_M_chooseLeast.2.1 28 = .ok (.iload 7, 2) := by decide +kernel
theorem d_M_chooseLeast_30 : decode M_M_chooseLeast.2.1 30 = .ok (.ishr, 1) := by decide +kernel
theorem d_M_chooseLeast_31 : decode M_M_chooseLeast.2.1 31 = .ok (.iconst 1, 1) := by decide +kernel
theorem d_M_chooseLeast_32 : decode M_M_chooseLeast.2.1 32 = .ok (.iand, 1) := by decide +kernel
theorem d_M_chooseLeast_33 : decode M_M_chooseLeast.2.1 33 = .ok (.iconst 1, 1) := by decide +kernel
theorem d_M_chooseLeast_34 : decode M_M_chooseLeast.2.1 34 = .ok (.if_icmp .ne 41, 3) := by decide +kernel
theorem d_M_chooseLeast_37 : decode M_M_chooseLeast.2.1 37 = .ok (.aload_n 0, 1) := by decide +kernel
theorem d_M_chooseLeast_38 : decode M_M_chooseLeast.2.1 38 = .ok (.iload 7, 2) := by decide +kernel
theorem d_M_chooseLeast_40 : decode M_M_chooseLeast.2.1 40 = .ok (.iload_n 1, 1) := by decide +kernel
theorem d_M_chooseLeast_41 : decode M_M_chooseLeast.2.1 41 = .ok (.iload_n 2, 1) := by decide +kernel
theorem d_M_chooseLeast_42 : decode M_M_chooseLeast.2.1 42 = .ok (.invokevirtual 93, 3) := by decide +kernel
theorem d_M_chooseLeast_45 : decode M_M_chooseLeast.2.1 45 = .ok (.ifCond .eq 30, 3) := by decide +kernel
theorem d_M_chooseLeast_48 : decode M_M_chooseLeast.2.1 48 = .ok (.iload 6, 2) := by decide +kernel
theorem d_M_chooseLeast_50 : decode M_M_chooseLeast.2.1 50 = .ok (.iconst (-1), 1) := by decide +kernel
theorem d_M_chooseLeast_51 : decode M_M_chooseLeast.2.1 51 = .ok (.if_icmp .eq 20, 3) := by decide +kernel
theorem d_M_chooseLeast_54 : decode M_M_chooseLeast.2.1 54 = .ok (.aload_n 0, 1) := by decide +kernel
theorem d_M_chooseLeast_55 : decode M_M_chooseLeast.2.1 55 = .ok (.getfield 21, 3) := by decide +kernel
theorem d_M_chooseLeast_58 : decode M_M_chooseLeast.2.1 58 = .ok (.iload 7, 2) := by decide +kernel
theorem d_M_chooseLeast_60 : decode M_M_chooseLeast.2.1 60 = .ok (.iaload, 1) := by decide +kernel
theorem d_M_chooseLeast_61 : decode M_M_chooseLeast.2.1 61 = .ok (.aload_n 0, 1) := by decide +kernel
theorem d_M_chooseLeast_62 : decode M_M_chooseLeast.2.1 62 = .ok (.getfield 21, 3) := by decide +kernel
theorem d_M_chooseLeast_65 : decode M_M_chooseLeast.2.1 65 = .ok (.iload 6, 2) := by decide +kernel
theorem d_M_chooseLeast_67 : decode M_M_chooseLeast.2.1 67 = .ok (.iaload, 1) := by decide +kernel
theorem d_M_chooseLeast_68 : decode M_M_chooseLeast.2.1 68 = .ok (.if_icmp .ge 7, 3) := by decide +kernel
theorem d_M_chooseLeast_71 : decode M_M_chooseLeast.2.1 71 = .ok (.iload 7, 2) := by decide +kernel
theorem d_M_chooseLeast_73 : decode M_M_chooseLeast.2.1 73 = .ok (.istore 6, 2) := by decide +kernel
theorem d_M_chooseLeast_75 : decode M_M_chooseLeast.2.1 75 = .ok (.iinc 7 1, 3) := by decide +kernel
theorem d_M_chooseLeast_78 : decode M_M_chooseLeast.2.1 78 = .ok (.goto (-59), 3) := by decide +kernel
theorem d_M_chooseLeast_81 : decode M_M_chooseLeast.2.1 81 = .ok (.aload_n 0, 1) := by decide +kernel
theorem d_M_chooseLeast_82 : decode M_M_chooseLeast.2.1 82 = .ok (.getfield 54, 3) := by decide +kernel
theorem d_M_chooseLeast_85 : decode M_M_chooseLeast.2.1 85 = .ok (.iload 5, 2) := by decide +kernel
theorem d_M_chooseLeast_87 : decode M_M_chooseLeast.2.1 87 = .ok (.iload 6, 2) := by decide +kernel
theorem d_M_chooseLeast_89 : decode M_M_chooseLeast.2.1 89 = .ok (.iastore, 1) := by decide +kernel
theorem d_M_chooseLeast_90 : decode M_M_chooseLeast.2.1 90 = .ok (.iload 4, 2) := by decide +kernel
theorem d_M_chooseLeast_92 : decode M_M_chooseLeast.2.1 92 = .ok (.iconst 1, 1) := by decide +kernel
theorem d_M_chooseLeast_93 : decode M_M_chooseLeast.2.1 93 = .ok (.iload 6, 2) := by decide +kernel
theorem d_M_chooseLeast_95 : decode M_M_chooseLeast.2.1 95 = .ok (.ishl, 1) := by decide +kernel
theorem d_M_chooseLeast_96 : decode M_M_chooseLeast.2.1 96 = .ok (.iconst (-1), 1) := by decide +kernel
theorem d_M_chooseLeast_97 : decode M_M_chooseLeast.2.1 97 = .ok (.ixor, 1) := by decide +kernel
theorem d_M_chooseLeast_98 : decode M_M_chooseLeast.2.1 98 = .ok (.iand, 1) := by decide +kernel
theorem d_M_chooseLeast_99 : decode M_M_chooseLeast.2.1 99 = .ok (.istore 4, 2) := by decide +kernel
theorem d_M_chooseLeast_101 : decode M_M_chooseLeast.2.1 101 = .ok (.iinc 5 1, 3) := by decide +kernel
theorem d_M_chooseLeast_104 : decode M_M_chooseLeast.2.1 104 = .ok (.goto (-98), 3) := by decide +kernel
theorem d_M_chooseLeast_107 : decode M_M_chooseLeast.2.1 107 = .ok (.return_, 1) := by decide +kernel
theorem d_M_clear_0 : decode M_M_clear.2.1 0 = .ok (.iconst 0, 1) := by decide +kernel
theorem d_M_clear_1 : decode M_M_clear.2.1 1 = .ok (.istore_n 1, 1) := by decide +kernel
theorem d_M_clear_2 : decode M_M_clear.2.1 2 = .ok (.iconst 0, 1) := by decide +kernel
theorem d_M_clear_3 : decode M_M_clear.2.1 3 = .ok (.istore_n 2, 1) := by decide +kernel
theorem d_M_clear_4 : decode M_M_clear.2.1 4 = .ok (.iload_n 2, 1) := by decide +kernel
theorem d_M_clear_5 : decode M_M_clear.2.1 5 = .ok (.bipush 6, 2) := by decide +kernel
theorem d_M_clear_7 : decode M_M_clear.2.1 7 = .ok (.if_icmp .ge 25, 3) := by decide +kernel
theorem d_M_clear_10 : decode M_M_clear.2.1 10 = .ok (.iload_n 1, 1) := by decide +kernel
theorem d_M_clear_11 : decode M_M_clear.2.1 11 = .ok (.aload_n 0, 1) := by decide +kernel
theorem d_M_clear_12 : decode M_M_clear.2.1 12 = .ok (.iload_n 2, 1) := by decide +kernel
theorem d_M_clear_13 : decode M_M_clear.2.1 13 = .ok (.invokevirtual 140, 3) := by decide +kernel
theorem d_M_clear_16 : decode M_M_clear.2.1 16 = .ok (.ifCond .le 7, 3) := by decide +kernel
theorem d_M_clear_19 : decode M_M_clear.2.1 19 = .ok (.iconst 1, 1) := by decide +kernel
theorem d_M_clear_20 : decode M_M_clear.2.1 20 = .ok (.goto 4, 3) := by decide +kernel
theorem d_M_clear_23 : decode M_M_clear.2.1 23 = .ok (.iconst 0, 1) := by decide +kernel
theorem d_M_clear_24 : decode M_M_clear.2.1 24 = .ok (.iadd, 1) := by decide +kernel
theorem d_M_clear_25 : decode M_M_clear.2.1 25 = .ok (.istore_n 1, 1) := by decide +kernel
theorem d_M_clear_26 : decode M_M_clear.2.1 26 = .ok (.iinc 2 1, 3) := by decide +kernel
theorem d_M_clear_29 : decode M_M_clear.2.1 29 = .ok (.goto (-25), 3) := by decide +kernel
theorem d_M_clear_32 : decode M_M_clear.2.1 32 = .ok (.iconst 0, 1) := by decide +kernel
theorem d_M_clear_33 : decode M_M_clear.2.1 33 = .ok (.istore_n 2, 1) := by decide +kernel
theorem d_M_clear_34 : decode M_M_clear.2.1 34 = .ok (.iload_n 2, 1) := by decide +kernel
theorem d_M_clear_35 : decode M_M_clear.2.1 35 = .ok (.bipush 12, 2) := by decide +kernel
theorem d_M_clear_37 : decode M_M_clear.2.1 37 = .ok (.if_icmp .ge 22, 3) := by decide +kernel
theorem d_M_clear_40 : decode M_M_clear.2.1 40 = .ok (.aload_n 0, 1) := by decide +kernel
theorem d_M_clear_41 : decode M_M_clear.2.1 41 = .ok (.iload_n 2, 1) := by decide +kernel
theorem d_M_clear_42 : decode M_M_clear.2.1 42 = .ok (.invokevirtual 181, 3) := by decide +kernel
theorem d_M_clear_45 : decode M_M_clear.2.1 45 = .ok (.pop, 1) := by decide +kernel
theorem d_M_clear_46 : decode M_M_clear.2.1 46 = .ok (.aload_n 0, 1) := by decide +kernel
theorem d_M_clear_47 : decode M_M_clear.2.1 47 = .ok (.getfield 21, 3) := by decide +kernel
theorem d_M_clear_50 : decode M_M_clear.2.1 50 = .ok (.iload_n 2, 1) := by decide +kernel
theorem d_M_clear_51 : decode M_M_clear.2.1 51 = .ok (.iconst 0, 1) := by decide +kernel
theorem d_M_clear_52 : decode M_M_clear.2.1 52 = .ok (.iastore, 1) := by decide +kernel
theorem d_M_clear_53 : decode M_M_clear.2.1 53 = .ok (.iinc 2 1, 3) := by decide +kernel
theorem d_M_clear_56 : decode M_M_clear.2.1 56 = .ok (.goto (-22), 3) := by decide +kernel
theorem d_M_clear_59 : decode M_M_clear.2.1 59 = .ok (.iconst 0, 1) := by decide +kernel
theorem d_M_clear_60 : decode M_M_clear.2.1 60 = .ok (.istore_n 2, 1) := by decide +kernel
theorem d_M_clear_61 : decode M_M_clear.2.1 61 = .ok (.iload_n 2, 1) := by decide +kernel
theorem d_M_clear_62 : decode M_M_clear.2.1 62 = .ok (.bipush 6, 2) := by decide +kernel
theorem d_M_clear_64 : decode M_M_clear.2.1 64 = .ok (.if_icmp .ge 23, 3) := by decide +kernel
theorem d_M_clear_67 : decode M_M_clear.2.1 67 = .ok (.aload_n 0, 1) := by decide +kernel
theorem d_M_clear_68 : decode M_M_clear.2.1 68 = .ok (.getfield 42, 3) := by decide +kernel
theorem d_M_clear_71 : decode M_M_clear.2.1 71 = .ok (.iload_n 2, 1) := by decide +kernel
theorem d_M_clear_72 : decode M_M_clear.2.1 72 = .ok (.iconst 0, 1) := by decide +kernel
theorem d_M_clear_73 : decode M_M_clear.2.1 73 = .ok (.iastore, 1) := by decide +kernel
theorem d_M_clear_74 : decode M_M_clear.2.1 74 = .ok (.aload_n 0, 1) := by decide +kernel
theorem d_M_clear_75 : decode M_M_clear.2.1 75 = .ok (.getfield 45, 3) := by decide +kernel
theorem d_M_clear_78 : decode M_M_clear.2.1 78 = .ok (.iload_n 2, 1) := by decide +kernel
theorem d_M_clear_79 : decode M_M_clear.2.1 79 = .ok (.iconst 0, 1) := by decide +kernel
theorem d_M_clear_80 : decode M_M_clear.2.1 80 = .ok (.bastore, 1) := by decide +kernel
theorem d_M_clear_81 : decode M_M_clear.2.1 81 = .ok (.iinc 2 1, 3) := by decide +kernel
theorem d_M_clear_84 : decode M_M_clear.2.1 84 = .ok (.goto (-23), 3) := by decide +kernel
theorem d_M_clear_87 : decode M_M_clear.2.1 87 = .ok (.aload_n 0, 1) := by decide +kernel
theorem d_M_clear_88 : decode M_M_clear.2.1 88 = .ok (.iconst 0, 1) := by decide +kernel
theorem d_M_clear_89 : decode M_M_clear.2.1 89 = .ok (.putfield 96, 3) := by decide +kernel
theorem d_M_clear_92 : decode M_M_clear.2.1 92 = .ok (.aload_n 0, 1) := by decide +kernel
theorem d_M_clear_93 : decode M_M_clear.2.1 93 = .ok (.iconst (-1), 1) := by decide +kernel
theorem d_M_clear_94 : decode M_M_clear.2.1 94 = .ok (.putfield 13, 3) := by decide +kernel
theorem d_M_clear_97 : decode M_M_clear.2.1 97 = .ok (.iload_n 1, 1) := by decide +kernel
theorem d_M_clear_98 : decode M_M_clear.2.1 98 = .ok (.ireturn, 1) := by decide +kernel
theorem d_M_count_0 : decode M_M_count.2.1 0 = .ok (.iconst 0, 1) := by decide +kernel
theorem d_M_count_1 : decode M_M_count.2.1 1 = .ok (.istore_n 2, 1) := by decide +kernel
theorem d_M_count_2 : decode M_M_count.2.1 2 = .ok (.iload_n 1, 1) := by decide +kernel
theorem d_M_count_3 : decode M_M_count.2.1 3 = .ok (.tableswitch 95 0 5 #[37, 42, 47, 52, 57, 90], 37) := by decide +kernel
theorem d_M_count_40 : decode M_M_count.2.1 40 = .ok (.aload_n 0, 1) := by decide +kernel
theorem d_M_count_41 : decode M_M_count.2.1 41 = .ok (.invokevirtual 107, 3) := by decide +kernel
theorem d_M_count_44 : decode M_M_count.2.1 44 = .ok (.ireturn, 1) := by decide +kernel
theorem d_M_count_45 : decode M_M_count.2.1 45 = .ok (.aload_n 0, 1) := by decide +kernel
theorem d_M_count_46 : decode M_M_count.2.1 46 = .ok (.getfield 96, 3) := by decide +kernel
theorem d_M_count_49 : decode M_M_count.2.1 49 = .ok (.ireturn, 1) := by decide +kernel
theorem d_M_count_50 : decode M_M_count.2.1 50 = .ok (.aload_n 0, 1) := by decide +kernel
theorem d_M_count_51 : decode M_M_count.2.1 51 = .ok (.getfield 122, 3) := by decide +kernel
theorem d_M_count_54 : decode M_M_count.2.1 54 = .ok (.ireturn, 1) := by decide +kernel
theorem d_M_count_55 : decode M_M_count.2.1 55 = .ok (.aload_n 0, 1) := by decide +kernel
theorem d_M_count_56 : decode M_M_count.2.1 56 = .ok (.getfield 169, 3) := by decide +kernel
theorem d_M_count_59 : decode M_M_count.2.1 59 = .ok (.ireturn, 1) := by decide +kernel
theorem d_M_count_60 : decode M_M_count.2.1 60 = .ok (.iconst 0, 1) := by decide +kernel
theorem d_M_count_61 : decode M_M_count.2.1 61 = .ok (.istore_n 3, 1) := by decide +kernel
theorem d_M_count_62 : decode M_M_count.2.1 62 = .ok (.iload_n 3, 1) := by decide +kernel
theorem d_M_count_63 : decode M_M_count.2.1 63 = .ok (.bipush 6, 2) := by decide +kernel
theorem d_M_count_65 : decode M_M_count.2.1 65 = .ok (.if_icmp .ge 26, 3) := by decide +kernel
theorem d_M_count_68 : decode M_M_count.2.1 68 = .ok (.iload_n 2, 1) := by decide +kernel
theorem d_M_count_69 : decode M_M_count.2.1 69 = .ok (.aload_n 0, 1) := by decide +kernel
theorem d_M_count_70 : decode M_M_count.2.1 70 = .ok (.getfield 45, 3) := by decide +kernel
theorem d_M_count_73 : decode M_M_count.2.1 73 = .ok (.iload_n 3, 1) := by decide +kernel
theorem d_M_count_74 : decode M_M_count.2.1 74 = .ok (.baload, 1) := by decide +kernel
theorem d_M_count_75 : decode M_M_count.2.1 75 = .ok (.ifCond .eq 7, 3) := by decide +kernel
theorem d_M_count_78 : decode M_M_count.2.1 78 = .ok (.iconst 1, 1) := by decide +kernel
theorem d_M_count_79 : decode M_M_count.2.1 79 = .ok (.goto 4, 3) := by decide +kernel
theorem d_M_count_82 : decode M_M_count.2.1 82 = .ok (.iconst 0, 1) := by decide +kernel
theorem d_M_count_83 : decode M_M_count.2.1 83 = .ok (.iadd, 1) := by decide +kernel
theorem d_M_count_84 : decode M_M_count.2.1 84 = .ok (.istore_n 2, 1) := by decide +kernel
theorem d_M_count_85 : decode M_M_count.2.1 85 = .ok (.iinc 3 1, 3) := by decide +kernel
theorem d_M_count_88 : decode M_M_count.2.1 88 = .ok (.goto (-26), 3) := by decide +kernel
theorem d_M_count_91 : decode M_M_count.2.1 91 = .ok (.iload_n 2, 1) := by decide +kernel
theorem d_M_count_92 : decode M_M_count.2.1 92 = .ok (.ireturn, 1) := by decide +kernel
theorem d_M_count_93 : decode M_M_count.2.1 93 = .ok (.aload_n 0, 1) := by decide +kernel
theorem d_M_count_94 : decode M_M_count.2.1 94 = .ok (.getfield 13, 3) := by decide +kernel
theorem d_M_count_97 : decode M_M_count.2.1 97 = .ok (.ireturn, 1) := by decide +kernel
theorem d_M_count_98 : decode M_M_count.2.1 98 = .ok (.bipush (-2), 2) := by decide +kernel
theorem d_M_count_100 : decode M_M_count.2.1 100 = .ok (.ireturn, 1) := by decide +kernel
theorem d_M_cut_0 : decode M_M_cut.2.1 0 = .ok (.iload_n 1, 1) := by decide +kernel
theorem d_M_cut_1 : decode M_M_cut.2.1 1 = .ok (.iconst 0, 1) := by decide +kernel
theorem d_M_cut_2 : decode M_M_cut.2.1 2 = .ok (.bipush 23, 2) := by decide +kernel
theorem d_M_cut_4 : decode M_M_cut.2.1 4 = .ok (.invokestatic 60, 3) := by decide +kernel
theorem d_M_cut_7 : decode M_M_cut.2.1 7 = .ok (.ifCond .ne 6, 3) := by decide +kernel
theorem d_M_cut_10 : decode M_M_cut.2.1 10 = .ok (.bipush (-2), 2) := by decide +kernel
theorem d_M_cut_12 : decode M_M_cut.2.1 12 = .ok (.ireturn, 1) := by decide +kernel
theorem d_M_cut_13 : decode M_M_cut.2.1 13 = .ok (.aload_n 0, 1) := by decide +kernel
theorem d_M_cut_14 : decode M_M_cut.2.1 14 = .ok (.iload_n 1, 1) := by decide +kernel
theorem d_M_cut_15 : decode M_M_cut.2.1 15 = .ok (.putfield 13, 3) := by decide +kernel
theorem d_M_cut_18 : decode M_M_cut.2.1 18 = .ok (.iconst 1, 1) := by decide +kernel
theorem d_M_cut_19 : decode M_M_cut.2.1 19 = .ok (.ireturn, 1) := by decide +kernel
theorem d_M_digest_0 : decode M_M_digest.2.1 0 = .ok (.ldc2_w 172, 3) := by decide +kernel
theorem d_M_digest_3 : decode M_M_digest.2.1 3 = .ok (.lstore_n 1, 1) := by decide +kernel
theorem d_M_digest_4 : decode M_M_digest.2.1 4 = .ok (.iconst 0, 1) := by decide +kernel
theorem d_M_digest_5 : decode M_M_digest.2.1 5 = .ok (.istore_n 3, 1) := by decide +kernel
theorem d_M_digest_6 : decode M_M_digest.2.1 6 = .ok (.iload_n 3, 1) := by decide +kernel
theorem d_M_digest_7 : decode M_M_digest.2.1 7 = .ok (.bipush 12, 2) := by decide +kernel
theorem d_M_digest_9 : decode M_M_digest.2.1 9 = .ok (.if_icmp .ge 190, 3) := by decide +kernel
theorem d_M_digest_12 : decode M_M_digest.2.1 12 = .ok (.ldc2_w 174, 3) := by decide +kernel
theorem d_M_digest_15 : decode M_M_digest.2.1 15 = .ok (.ldc2_w 174, 3) := by decide +kernel
theorem d_M_digest_18 : decode M_M_digest.2.1 18 = .ok (.ldc2_w 174, 3) := by decide +kernel
theorem d_M_digest_21 : decode M_M_digest.2.1 21 = .ok (.lload_n 1, 1) := by decide +kernel
theorem d_M_digest_22 : decode M_M_digest.2.1 22 = .ok (.lmul, 1) := by decide +kernel
theorem d_M_digest_23 : decode M_M_digest.2.1 23 = .ok (.aload_n 0, 1) := by decide +kernel
theorem d_M_digest_24 : decode M_M_digest.2.1 24 = .ok (.getfield 17, 3) := by decide +kernel
theorem d_M_digest_27 : decode M_M_digest.2.1 27 = .ok (.iload_n 3, 1) := by decide +kernel
theorem d_M_digest_28 : decode M_M_digest.2.1 28 = .ok (.baload, 1) := by decide +kernel
theorem d_M_digest_29 : decode M_M_digest.2.1 29 = .ok (.ifCond .eq 7, 3) := by decide +kernel
theorem d_M_digest_32 : decode M_M_digest.2.1 32 = .ok (.iconst 0, 1) := by decide +kernel
theorem d_M_digest_33 : decode M_M_digest.2.1 33 = .ok (.goto 4, 3) := by decide +kernel
theorem d_M_digest_36 : decode M_M_digest.2.1 36 = .ok (.iconst 1, 1) := by decide +kernel
theorem d_M_digest_37 : decode M_M_digest.2.1 37 = .ok (.i2l, 1) := by decide +kernel
theorem d_M_digest_38 : decode M_M_digest.2.1 38 = .ok (.ladd, 1) := by decide +kernel
theorem d_M_digest_39 : decode M_M_digest.2.1 39 = .ok (.lmul, 1) := by decide +kernel
theorem d_M_digest_40 : decode M_M_digest.2.1 40 = .ok (.aload_n 0, 1) := by decide +kernel
theorem d_M_digest_41 : decode M_M_digest.2.1 41 = .ok (.getfield 21, 3) := by decide +kernel
theorem d_M_digest_44 : decode M_M_digest.2.1 44 = .ok (.iload_n 3, 1) := by decide +kernel
theorem d_M_digest_45 : decode M_M_digest.2.1 45 = .ok (.iaload, 1) := by decide +kernel
theorem d_M_digest_46 : decode M_M_digest.2.1 46 = .ok (.i2l, 1) := by decide +kernel
theorem d_M_digest_47 : decode M_M_digest.2.1 47 = .ok (.ladd, 1) := by decide +kernel
theorem d_M_digest_48 : decode M_M_digest.2.1 48 = .ok (.lmul, 1) := by decide +kernel
theorem d_M_digest_49 : decode M_M_digest.2.1 49 = .ok (.ldc2_w 176, 3) := by decide +kernel
theorem d_M_digest_52 : decode M_M_digest.2.1 52 = .ok (.ladd, 1) := by decide +kernel
theorem d_M_digest_53 : decode M_M_digest.2.1 53 = .ok (.aload_n 0, 1) := by decide +kernel
theorem d_M_digest_54 : decode M_M_digest.2.1 54 = .ok (.iload_n 3, 1) := by decide +kernel
theorem d_M_digest_55 : decode M_M_digest.2.1 55 = .ok (.invokevirtual 131, 3) := by decide +kernel
theorem d_M_digest_58 : decode M_M_digest.2.1 58 = .ok (.i2l, 1) := by decide +kernel
theorem d_M_digest_59 : decode M_M_digest.2.1 59 = .ok (.lsub, 1) := by decide +kernel
theorem d_M_digest_60 : decode M_M_digest.2.1 60 = .ok (.lstore_n 1, 1) := by decide +kernel
theorem d_M_digest_61 : decode M_M_digest.2.1 61 = .ok (.iconst 0, 1) := by decide +kernel
theorem d_M_digest_62 : decode M_M_digest.2.1 62 = .ok (.istore 4, 2) := by decide +kernel
theorem d_M_digest_64 : decode M_M_digest.2.1 64 = .ok (.iload 4, 2) := by decide +kernel
theorem d_M_digest_66 : decode M_M_digest.2.1 66 = .ok (.bipush 6, 2) := by decide +kernel
theorem d_M_digest_68 : decode M_M_digest.2.1 68 = .ok (.if_icmp .ge 125, 3) := by decide +kernel
theorem d_M_digest_71 : decode M_M_digest.2.1 71 = .ok (.iconst 0, 1) := by decide +kernel
theorem d_M_digest_72 : decode M_M_digest.2.1 72 = .ok (.istore 5, 2) := by decide +kernel
theorem d_M_digest_74 : decode M_M_digest.2.1 74 = .ok (.iload 5, 2) := by decide +kernel
theorem d_M_digest_76 : decode M_M_digest.2.1 76 = .ok (.bipush 6, 2) := by decide +kernel
theorem d_M_digest_78 : decode M_M_digest.2.1 78 = .ok (.if_icmp .ge 26, 3) := by decide +kernel
theorem d_M_digest_81 : decode M_M_digest.2.1 81 = .ok (.ldc2_w 174, 3) := by decide +kernel
theorem d_M_digest_84 : decode M_M_digest.2.1 84 = .ok (.lload_n 1, 1) := by decide +kernel
theorem d_M_digest_85 : decode M_M_digest.2.1 85 = .ok (.lmul, 1) := by decide +kernel
theorem d_M_digest_86 : decode M_M_digest.2.1 86 = .ok (.aload_n 0, 1) := by decide +kernel
theorem d_M_digest_87 : decode M_M_digest.2.1 87 = .ok (.iload_n 3, 1) := by decide +kernel
theorem d_M_digest_88 : decode M_M_digest.2.1 88 = .ok (.iload 4, 2) := by decide +kernel
theorem d_M_digest_90 : decode M_M_digest.2.1 90 = .ok (.iload 5, 2) := by decide +kernel
theorem d_M_digest_92 : decode M_M_digest.2.1 92 = .ok (.invokevirtual 178, 3) := by decide +kernel
theorem d_M_digest_95 : decode M_M_digest.2.1 95 = .ok (.i2l, 1) := by decide +kernel
theorem d_M_digest_96 : decode M_M_digest.2.1 96 = .ok (.ladd, 1) := by decide +kernel
theorem d_M_digest_97 : decode M_M_digest.2.1 97 = .ok (.lstore_n 1, 1) := by decide +kernel
theorem d_M_digest_98 : decode M_M_digest.2.1 98 = .ok (.iinc 5 1, 3) := by decide +kernel
theorem d_M_digest_101 : decode M_M_digest.2.1 101 = .ok (.goto (-27), 3) := by decide +kernel
theorem d_M_digest_104 : decode M_M_digest.2.1 104 = .ok (.iload_n 3, 1) := by decide +kernel
theorem d_M_digest_105 : decode M_M_digest.2.1 105 = .ok (.iload 4, 2) := by decide +kernel
theorem d_M_digest_107 : decode M_M_digest.2.1 107 = .ok (.iconst 0, 1) := by decide +kernel
theorem d_M_digest_108 : decode M_M_digest.2.1 108 = .ok (.invokestatic 79, 3) := by decide +kernel
theorem d_M_digest_111 : decode M_M_digest.2.1 111 = .ok (.istore 5, 2) := by decide +kernel
theorem d_M_digest_113 : decode M_M_digest.2.1 113 = .ok (.iconst 0, 1) := by decide +kernel
theorem d_M_digest_114 : decode M_M_digest.2.1 114 = .ok (.istore 6, 2) := by decide +kernel
theorem d_M_digest_116 : decode M_M_digest.2.1 116 = .ok (.iload 6, 2) := by decide +kernel
theorem d_M_digest_118 : decode M_M_digest.2.1 118 = .ok (.aload_n 0, 1) := by decide +kernel
theorem d_M_digest_119 : decode M_M_digest.2.1 119 = .ok (.getfield 36, 3) := by decide +kernel
theorem d_M_digest_122 : decode M_M_digest.2.1 122 = .ok (.iload 5, 2) := by decide +kernel
theorem d_M_digest_124 : decode M_M_digest.2.1 124 = .ok (.iaload, 1) := by decide +kernel
theorem d_M_digest_125 : decode M_M_digest.2.1 125 = .ok (.invokestatic 83, 3) := by decide +kernel
theorem d_M_digest_128 : decode M_M_digest.2.1 128 = .ok (.if_icmp .ge 59, 3) := by decide +kernel
theorem d_M_digest_131 : decode M_M_digest.2.1 131 = .ok (.aload_n 0, 1) := by decide +kernel
theorem d_M_digest_132 : decode M_M_digest.2.1 132 = .ok (.getfield 30, 3) := by decide +kernel
theorem d_M_digest_135 : decode M_M_digest.2.1 135 = .ok (.iload 5, 2) := by decide +kernel
theorem d_M_digest_137 : decode M_M_digest.2.1 137 = .ok (.baload, 1) := by decide +kernel
theorem d_M_digest_138 : decode M_M_digest.2.1 138 = .ok (.ifCond .eq 49, 3) := by decide +kernel
theorem d_M_digest_141 : decode M_M_digest.2.1 141 = .ok (.iconst 0, 1) := by decide +kernel
theorem d_M_digest_142 : decode M_M_digest.2.1 142 = .ok (.istore 7, 2) := by decide +kernel
theorem d_M_digest_144 : decode M_M_digest.2.1 144 = .ok (.iload 7, 2) := by decide +kernel
theorem d_M_digest_146 : decode M_M_digest.2.1 146 = .ok (.bipush 8, 2) := by decide +kernel
theorem d_M_digest_148 : decode M_M_digest.2.1 148 = .ok (.if_icmp .ge 33, 3) := by decide +kernel
theorem d_M_digest_151 : decode M_M_digest.2.1 151 = .ok (.ldc2_w 174, 3) := by decide +kernel
theorem d_M_digest_154 : decode M_M_digest.2.1 154 = .ok (.lload_n 1, 1) := by decide +kernel
theorem d_M_digest_155 : decode M_M_digest.2.1 155 = .ok (.lmul, 1) := by decide +kernel
theorem d_M_digest_156 : decode M_M_digest.2.1 156 = .ok (.aload_n 0, 1) := by decide +kernel
theorem d_M_digest_157 : decode M_M_digest.2.1 157 = .ok (.getfield 27, 3) := by decide +kernel
theorem d_M_digest_160 : decode M_M_digest.2.1 160 = .ok (.aload_n 0, 1) := by decide +kernel
theorem d_M_digest_161 : decode M_M_digest.2.1 161 = .ok (.iload_n 3, 1) := by decide +kernel
theorem d_M_digest_162 : decode M_M_digest.2.1 162 = .ok (.iload 5, 2) := by decide +kernel
theorem d_M_digest_164 : decode M_M_digest.2.1 164 = .ok (.iload 6, 2) := by decide +kernel
theorem d_M_digest_166 : decode M_M_digest.2.1 166 = .ok (.iload 7, 2) := by decide +kernel
theorem d_M_digest_168 : decode M_M_digest.2.1 168 = .ok (.invokevirtual 103, 3) := by decide +kernel
theorem d_M_digest_171 : decode M_M_digest.2.1 171 = .ok (.iaload, 1) := by decide +kernel
theorem d_M_digest_172 : decode M_M_digest.2.1 172 = .ok (.i2l, 1) := by decide +kernel
theorem d_M_digest_173 : decode M_M_digest.2.1 173 = .ok (.ladd, 1) := by decide +kernel
theorem d_M_digest_174 : decode M_M_digest.2.1 174 = .ok (.lstore_n 1, 1) := by decide +kernel
theorem d_M_digest_175 : decode M_M_digest.2.1 175 = .ok (.iinc 7 1, 3) := by decide +kernel
theorem d_M_digest_178 : decode M_M_digest.2.1 178 = .ok (.goto (-34), 3) := by decide +kernel
theorem d_M_digest_181 : decode M_M_digest.2.1 181 = .ok (.iinc 6 1, 3) := by decide +kernel
theorem d_M_digest_184 : decode M_M_digest.2.1 184 = .ok (.goto (-68), 3) := by decide +kernel
theorem d_M_digest_187 : decode M_M_digest.2.1 187 = .ok (.iinc 4 1, 3) := by decide +kernel
theorem d_M_digest_190 : decode M_M_digest.2.1 190 = .ok (.goto (-126), 3) := by decide +kernel
theorem d_M_digest_193 : decode M_M_digest.2.1 193 = .ok (.iinc 3 1, 3) := by decide +kernel
theorem d_M_digest_196 : decode M_M_digest.2.1 196 = .ok (.goto (-190), 3) := by decide +kernel
theorem d_M_digest_199 : decode M_M_digest.2.1 199 = .ok (.lload_n 1, 1) := by decide +kernel
theorem d_M_digest_200 : decode M_M_digest.2.1 200 = .ok (.lreturn, 1) := by decide +kernel
theorem d_M_fail_0 : decode M_M_fail.2.1 0 = .ok (.iload_n 1, 1) := by decide +kernel
theorem d_M_fail_1 : decode M_M_fail.2.1 1 = .ok (.invokestatic 72, 3) := by decide +kernel
theorem d_M_fail_4 : decode M_M_fail.2.1 4 = .ok (.ifCond .ne 6, 3) := by decide +kernel
theorem d_M_fail_7 : decode M_M_fail.2.1 7 = .ok (.bipush (-2), 2) := by decide +kernel
theorem d_M_fail_9 : decode M_M_fail.2.1 9 = .ok (.ireturn, 1) := by decide +kernel
theorem d_M_fail_10 : decode M_M_fail.2.1 10 = .ok (.aload_n 0, 1) := by decide +kernel
theorem d_M_fail_11 : decode M_M_fail.2.1 11 = .ok (.getfield 17, 3) := by decide +kernel
theorem d_M_fail_14 : decode M_M_fail.2.1 14 = .ok (.iload_n 1, 1) := by decide +kernel
theorem d_M_fail_15 : decode M_M_fail.2.1 15 = .ok (.baload, 1) := by decide +kernel
theorem d_M_fail_16 : decode M_M_fail.2.1 16 = .ok (.ifCond .eq 6, 3) := by decide +kernel
theorem d_M_fail_19 : decode M_M_fail.2.1 19 = .ok (.bipush (-3), 2) := by decide +kernel
theorem d_M_fail_21 : decode M_M_fail.2.1 21 = .ok (.ireturn, 1) := by decide +kernel
theorem d_M_fail_22 : decode M_M_fail.2.1 22 = .ok (.aload_n 0, 1) := by decide +kernel
theorem d_M_fail_23 : decode M_M_fail.2.1 23 = .ok (.getfield 17, 3) := by decide +kernel
theorem d_M_fail_26 : decode M_M_fail.2.1 26 = .ok (.iload_n 1, 1) := by decide +kernel
theorem d_M_fail_27 : decode M_M_fail.2.1 27 = .ok (.iconst 1, 1) := by decide +kernel
theorem d_M_fail_28 : decode M_M_fail.2.1 28 = .ok (.bastore, 1) := by decide +kernel
theorem d_M_fail_29 : decode M_M_fail.2.1 29 = .ok (.iconst 1, 1) := by decide +kernel
theorem d_M_fail_30 : decode M_M_fail.2.1 30 = .ok (.ireturn, 1) := by decide +kernel
theorem d_M_feed_0 : decode M_M_feed.2.1 0 = .ok (.iload_n 3, 1) := by decide +kernel
theorem d_M_feed_1 : decode M_M_feed.2.1 1 = .ok (.iconst 1, 1) := by decide +kernel
theorem d_M_feed_2 : decode M_M_feed.2.1 2 = .ok (.bipush 8, 2) := by decide +kernel
theorem d_M_feed_4 : decode M_M_feed.2.1 4 = .ok (.invokestatic 60, 3) := by decide +kernel
theorem d_M_feed_7 : decode M_M_feed.2.1 7 = .ok (.ifCond .ne 6, 3) := by decide +kernel
theorem d_M_feed_10 : decode M_M_feed.2.1 10 = .ok (.bipush (-2), 2) := by decide +kernel
theorem d_M_feed_12 : decode M_M_feed.2.1 12 = .ok (.ireturn, 1) := by decide +kernel
theorem d_M_feed_13 : decode M_M_feed.2.1 13 = .ok (.aload_n 0, 1) := by decide +kernel
theorem d_M_feed_14 : decode M_M_feed.2.1 14 = .ok (.getfield 96, 3) := by decide +kernel
theorem d_M_feed_17 : decode M_M_feed.2.1 17 = .ok (.iload_n 3, 1) := by decide +kernel
theorem d_M_feed_18 : decode M_M_feed.2.1 18 = .ok (.iadd, 1) := by decide +kernel
theorem d_M_feed_19 : decode M_M_feed.2.1 19 = .ok (.sipush 240, 3) := by decide +kernel
theorem d_M_feed_22 : decode M_M_feed.2.1 22 = .ok (.if_icmp .le 6, 3) := by decide +kernel
theorem d_M_feed_25 : decode M_M_feed.2.1 25 = .ok (.bipush (-5), 2) := by decide +kernel
theorem d_M_feed_27 : decode M_M_feed.2.1 27 = .ok (.ireturn, 1) := by decide +kernel
theorem d_M_feed_28 : decode M_M_feed.2.1 28 = .ok (.iload_n 3, 1) := by decide +kernel
theorem d_M_feed_29 : decode M_M_feed.2.1 29 = .ok (.iconst 1, 1) := by decide +kernel
theorem d_M_feed_30 : decode M_M_feed.2.1 30 = .ok (.isub, 1) := by decide +kernel
theorem d_M_feed_31 : decode M_M_feed.2.1 31 = .ok (.istore 4, 2) := by decide +kernel
theorem d_M_feed_33 : decode M_M_feed.2.1 33 = .ok (.iload 4, 2) := by decide +kernel
theorem d_M_feed_35 : decode M_M_feed.2.1 35 = .ok (.ifCond .lt 40, 3) := by decide +kernel
theorem d_M_feed_38 : decode M_M_feed.2.1 38 = .ok (.aload_n 0, 1) := by decide +kernel
theorem d_M_feed_39 : decode M_M_feed.2.1 39 = .ok (.getfield 7, 3) := by decide +kernel
theorem d_M_feed_42 : decode M_M_feed.2.1 42 = .ok (.aload_n 0, 1) := by decide +kernel
theorem d_M_feed_43 : decode M_M_feed.2.1 43 = .ok (.getfield 96, 3) := by decide +kernel
theorem d_M_feed_46 : decode M_M_feed.2.1 46 = .ok (.lload_n 1, 1) := by decide +kernel
theorem d_M_feed_47 : decode M_M_feed.2.1 47 = .ok (.bipush 8, 2) := by decide +kernel
theorem d_M_feed_49 : decode M_M_feed.2.1 49 = .ok (.iload 4, 2) := by decide +kernel
theorem d_M_feed_51 : decode M_M_feed.2.1 51 = .ok (.imul, 1) := by decide +kernel
theorem d_M_feed_52 : decode M_M_feed.2.1 52 = .ok (.lshr, 1) := by decide +kernel
theorem d_M_feed_53 : decode M_M_feed.2.1 53 = .ok (.l2i, 1) := by decide +kernel
theorem d_M_feed_54 : decode M_M_feed.2.1 54 = .ok (.sipush 255, 3) := by decide +kernel
theorem d_M_feed_57 : decode M_M_feed.2.1 57 = .ok (.iand, 1) := by decide +kernel
theorem d_M_feed_58 : decode M_M_feed.2.1 58 = .ok (.iastore, 1) := by decide +kernel
theorem d_M_feed_59 : decode M_M_feed.2.1 59 = .ok (.aload_n 0, 1) := by decide +kernel
theorem d_M_feed_60 : decode M_M_feed.2.1 60 = .ok (.dup, 1) := by decide +kernel
theorem d_M_feed_61 : decode M_M_feed.2.1 61 = .ok (.getfield 96, 3) := by decide +kernel
theorem d_M_feed_64 : decode M_M_feed.2.1 64 = .ok (.iconst 1, 1) := by decide +kernel
theorem d_M_feed_65 : decode M_M_feed.2.1 65 = .ok (.iadd, 1) := by decide +kernel
theorem d_M_feed_66 : decode M_M_feed.2.1 66 = .ok (.putfield 96, 3) := by decide +kernel
theorem d_M_feed_69 : decode M_M_feed.2.1 69 = .ok (.iinc 4 (-1), 3) := by decide +kernel
theorem d_M_feed_72 : decode M_M_feed.2.1 72 = .ok (.goto (-39), 3) := by decide +kernel
theorem d_M_feed_75 : decode M_M_feed.2.1 75 = .ok (.aload_n 0, 1) := by decide +kernel
theorem d_M_feed_76 : decode M_M_feed.2.1 76 = .ok (.getfield 96, 3) := by decide +kernel
theorem d_M_feed_79 : decode M_M_feed.2.1 79 = .ok (.ireturn, 1) := by decide +kernel
theorem d_M_flips_0 : decode M_M_flips.2.1 0 = .ok (.aload_n 0, 1) := by decide +kernel
theorem d_M_flips_1 : decode M_M_flips.2.1 1 = .ok (.iload_n 1, 1) := by decide +kernel
theorem d_M_flips_2 : decode M_M_flips.2.1 2 = .ok (.iload_n 2, 1) := by decide +kernel
theorem d_M_flips_3 : decode M_M_flips.2.1 3 = .ok (.iconst 0, 1) := by decide +kernel
theorem d_M_flips_4 : decode M_M_flips.2.1 4 = .ok (.invokevirtual 89, 3) := by decide +kernel
theorem d_M_flips_7 : decode M_M_flips.2.1 7 = .ok (.iload_n 1, 1) := by decide +kernel
theorem d_M_flips_8 : decode M_M_flips.2.1 8 = .ok (.iload_n 2, 1) := by decide +kernel
theorem d_M_flips_9 : decode M_M_flips.2.1 9 = .ok (.iconst 0, 1) := by decide +kernel
theorem d_M_flips_10 : decode M_M_flips.2.1 10 = .ok (.invokestatic 79, 3) := by decide +kernel
theorem d_M_flips_13 : decode M_M_flips.2.1 13 = .ok (.istore_n 3, 1) := by decide +kernel
theorem d_M_flips_14 : decode M_M_flips.2.1 14 = .ok (.iload_n 1, 1) := by decide +kernel
theorem d_M_flips_15 : decode M_M_flips.2.1 15 = .ok (.iload_n 2, 1) := by decide +kernel
theorem d_M_flips_16 : decode M_M_flips.2.1 16 = .ok (.iconst 1, 1) := by decide +kernel
theorem d_M_flips_17 : decode M_M_flips.2.1 17 = .ok (.invokestatic 79, 3) := by decide +kernel
theorem d_M_flips_20 : decode M_M_flips.2.1 20 = .ok (.istore 4, 2) := by decide +kernel
theorem d_M_flips_22 : decode M_M_flips.2.1 22 = .ok (.aload_n 0, 1) := by decide +kernel
theorem d_M_flips_23 : decode M_M_flips.2.1 23 = .ok (.getfield 30, 3) := by decide +kernel
theorem d_M_flips_26 : decode M_M_flips.2.1 26 = .ok (.iload_n 3, 1) := by decide +kernel
theorem d_M_flips_27 : decode M_M_flips.2.1 27 = .ok (.iconst 1, 1) := by decide +kernel
theorem d_M_flips_28 : decode M_M_flips.2.1 28 = .ok (.bastore, 1) := by decide +kernel
theorem d_M_flips_29 : decode M_M_flips.2.1 29 = .ok (.aload_n 0, 1) := by decide +kernel
theorem d_M_flips_30 : decode M_M_flips.2.1 30 = .ok (.getfield 33, 3) := by decide +kernel
theorem d_M_flips_33 : decode M_M_flips.2.1 33 = .ok (.iload_n 3, 1) := by decide +kernel
theorem d_M_flips_34 : decode M_M_flips.2.1 34 = .ok (.aload_n 0, 1) := by decide +kernel
theorem d_M_flips_35 : decode M_M_flips.2.1 35 = .ok (.getfield 33, 3) := by decide +kernel
theorem d_M_flips_38 : decode M_M_flips.2.1 38 = .ok (.iload 4, 2) := by decide +kernel
theorem d_M_flips_40 : decode M_M_flips.2.1 40 = .ok (.iaload, 1) := by decide +kernel
theorem d_M_flips_41 : decode M_M_flips.2.1 41 = .ok (.iastore, 1) := by decide +kernel
theorem d_M_flips_42 : decode M_M_flips.2.1 42 = .ok (.aload_n 0, 1) := by decide +kernel
theorem d_M_flips_43 : decode M_M_flips.2.1 43 = .ok (.getfield 36, 3) := by decide +kernel
theorem d_M_flips_46 : decode M_M_flips.2.1 46 = .ok (.iload_n 3, 1) := by decide +kernel
theorem d_M_flips_47 : decode M_M_flips.2.1 47 = .ok (.aload_n 0, 1) := by decide +kernel
theorem d_M_flips_48 : decode M_M_flips.2.1 48 = .ok (.getfield 36, 3) := by decide +kernel
theorem d_M_flips_51 : decode M_M_flips.2.1 51 = .ok (.iload 4, 2) := by decide +kernel
theorem d_M_flips_53 : decode M_M_flips.2.1 53 = .ok (.iaload, 1) := by decide +kernel
theorem d_M_flips_54 : decode M_M_flips.2.1 54 = .ok (.iastore, 1) := by decide +kernel
theorem d_M_flips_55 : decode M_M_flips.2.1 55 = .ok (.iconst 0, 1) := by decide +kernel
theorem d_M_flips_56 : decode M_M_flips.2.1 56 = .ok (.istore 5, 2) := by decide +kernel
theorem d_M_flips_58 : decode M_M_flips.2.1 58 = .ok (.iload 5, 2) := by decide +kernel
theorem d_M_flips_60 : decode M_M_flips.2.1 60 = .ok (.bipush 8, 2) := by decide +kernel
theorem d_M_flips_62 : decode M_M_flips.2.1 62 = .ok (.if_icmp .ge 34, 3) := by decide +kernel
theorem d_M_flips_65 : decode M_M_flips.2.1 65 = .ok (.aload_n 0, 1) := by decide +kernel
theorem d_M_flips_66 : decode M_M_flips.2.1 66 = .ok (.getfield 39, 3) := by decide +kernel
theorem d_M_flips_69 : decode M_M_flips.2.1 69 = .ok (.bipush 8, 2) := by decide +kernel
theorem d_M_flips_71 : decode M_M_flips.2.1 71 = .ok (.iload_n 3, 1) := by decide +kernel
theorem d_M_flips_72 : decode M_M_flips.2.1 72 = .ok (.imul, 1) := by decide +kernel
theorem d_M_flips_73 : decode M_M_flips.2.1 73 = .ok (.iload 5, 2) := by decide +kernel
theorem d_M_flips_75 : decode M_M_flips.2.1 75 = .ok (.iadd, 1) := by decide +kernel
theorem d_M_flips_76 : decode M_M_flips.2.1 76 = .ok (.aload_n 0, 1) := by decide +kernel
theorem d_M_flips_77 : decode M_M_flips.2.1 77 = .ok (.getfield 39, 3) := by decide +kernel
theorem d_M_flips_80 : decode M_M_flips.2.1 80 = .ok (.bipush 8, 2) := by decide +kernel
theorem d_M_flips_82 : decode M_M_flips.2.1 82 = .ok (.iload 4, 2) := by decide +kernel
theorem d_M_flips_84 : decode M_M_flips.2.1 84 = .ok (.imul, 1) := by decide +kernel
theorem d_M_flips_85 : decode M_M_flips.2.1 85 = .ok (.iload 5, 2) := by decide +kernel
theorem d_M_flips_87 : decode M_M_flips.2.1 87 = .ok (.iadd, 1) := by decide +kernel
theorem d_M_flips_88 : decode M_M_flips.2.1 88 = .ok (.iaload, 1) := by decide +kernel
theorem d_M_flips_89 : decode M_M_flips.2.1 89 = .ok (.iastore, 1) := by decide +kernel
theorem d_M_flips_90 : decode M_M_flips.2.1 90 = .ok (.iinc 5 1, 3) := by decide +kernel
theorem d_M_flips_93 : decode M_M_flips.2.1 93 = .ok (.goto (-35), 3) := by decide +kernel
theorem d_M_flips_96 : decode M_M_flips.2.1 96 = .ok (.aload_n 0, 1) := by decide +kernel
theorem d_M_flips_97 : decode M_M_flips.2.1 97 = .ok (.getfield 30, 3) := by decide +kernel
theorem d_M_flips_100 : decode M_M_flips.2.1 100 = .ok (.iload 4, 2) := by decide +kernel
theorem d_M_flips_102 : decode M_M_flips.2.1 102 = .ok (.iconst 0, 1) := by decide +kernel
theorem d_M_flips_103 : decode M_M_flips.2.1 103 = .ok (.bastore, 1) := by decide +kernel
theorem d_M_flips_104 : decode M_M_flips.2.1 104 = .ok (.return_, 1) := by decide +kernel
theorem d_M_free_0 : decode M_M_free.2.1 0 = .ok (.iload_n 1, 1) := by decide +kernel
theorem d_M_free_1 : decode M_M_free.2.1 1 = .ok (.invokestatic 72, 3) := by decide +kernel
theorem d_M_free_4 : decode M_M_free.2.1 4 = .ok (.ifCond .eq 14, 3) := by decide +kernel
theorem d_M_free_7 : decode M_M_free.2.1 7 = .ok (.bipush 40, 2) := by decide +kernel
theorem d_M_free_9 : decode M_M_free.2.1 9 = .ok (.aload_n 0, 1) := by decide +kernel
theorem d_M_free_10 : decode M_M_free.2.1 10 = .ok (.iload_n 1, 1) := by decide +kernel
theorem d_M_free_11 : decode M_M_free.2.1 11 = .ok (.invokevirtual 131, 3) := by decide +kernel
theorem d_M_free_14 : decode M_M_free.2.1 14 = .ok (.isub, 1) := by decide +kernel
theorem d_M_free_15 : decode M_M_free.2.1 15 = .ok (.goto 5, 3) := by decide +kernel
theorem d_M_free_18 : decode M_M_free.2.1 18 = .ok (.bipush (-2), 2) := by decide +kernel
theorem d_M_free_20 : decode M_M_free.2.1 20 = .ok (.ireturn, 1) := by decide +kernel
theorem d_M_fresh_0 : decode M_M_fresh.2.1 0 = .ok (.iload_n 1, 1) := by decide +kernel
theorem d_M_fresh_1 : decode M_M_fresh.2.1 1 = .ok (.invokestatic 72, 3) := by decide +kernel
theorem d_M_fresh_4 : decode M_M_fresh.2.1 4 = .ok (.ifCond .eq 10, 3) := by decide +kernel
theorem d_M_fresh_7 : decode M_M_fresh.2.1 7 = .ok (.iload_n 2, 1) := by decide +kernel
theorem d_M_fresh_8 : decode M_M_fresh.2.1 8 = .ok (.invokestatic 125, 3) := by decide +kernel
theorem d_M_fresh_11 : decode M_M_fresh.2.1 11 = .ok (.ifCond .ne 8, 3) := by decide +kernel
theorem d_M_fresh_14 : decode M_M_fresh.2.1 14 = .ok (.bipush (-2), 2) := by decide +kernel
theorem d_M_fresh_16 : decode M_M_fresh.2.1 16 = .ok (.goto 22, 3) := by decide +kernel
theorem d_M_fresh_19 : decode M_M_fresh.2.1 19 = .ok (.aload_n 0, 1) := by decide +kernel
theorem d_M_fresh_20 : decode M_M_fresh.2.1 20 = .ok (.iload_n 1, 1) := by decide +kernel
theorem d_M_fresh_21 : decode M_M_fresh.2.1 21 = .ok (.iload_n 2, 1) := by decide +kernel
theorem d_M_fresh_22 : decode M_M_fresh.2.1 22 = .ok (.aload_n 0, 1) := by decide +kernel
theorem d_M_fresh_23 : decode M_M_fresh.2.1 23 = .ok (.iload_n 2, 1) := by decide +kernel
theorem d_M_fresh_24 : decode M_M_fresh.2.1 24 = .ok (.invokevirtual 140, 3) := by decide +kernel
theorem d_M_fresh_27 : decode M_M_fresh.2.1 27 = .ok (.invokevirtual 93, 3) := by decide +kernel
theorem d_M_fresh_30 : decode M_M_fresh.2.1 30 = .ok (.ifCond .eq 7, 3) := by decide +kernel
theorem d_M_fresh_33 : decode M_M_fresh.2.1 33 = .ok (.iconst 1, 1) := by decide +kernel
theorem d_M_fresh_34 : decode M_M_fresh.2.1 34 = .ok (.goto 4, 3) := by decide +kernel
theorem d_M_fresh_37 : decode M_M_fresh.2.1 37 = .ok (.iconst 0, 1) := by decide +kernel
theorem d_M_fresh_38 : decode M_M_fresh.2.1 38 = .ok (.ireturn, 1) := by decide +kernel
theorem d_M_get_0 : decode M_M_get.2.1 0 = .ok (.iload_n 1, 1) := by decide +kernel
theorem d_M_get_1 : decode M_M_get.2.1 1 = .ok (.invokestatic 125, 3) := by decide +kernel
theorem d_M_get_4 : decode M_M_get.2.1 4 = .ok (.ifCond .ne 6, 3) := by decide +kernel
theorem d_M_get_7 : decode M_M_get.2.1 7 = .ok (.bipush (-2), 2) := by decide +kernel
theorem d_M_get_9 : decode M_M_get.2.1 9 = .ok (.ireturn, 1) := by decide +kernel
theorem d_M_get_10 : decode M_M_get.2.1 10 = .ok (.aload_n 0, 1) := by decide +kernel
theorem d_M_get_11 : decode M_M_get.2.1 11 = .ok (.getfield 45, 3) := by decide +kernel
theorem d_M_get_14 : decode M_M_get.2.1 14 = .ok (.iload_n 1, 1) := by decide +kernel
theorem d_M_get_15 : decode M_M_get.2.1 15 = .ok (.baload, 1) := by decide +kernel
theorem d_M_get_16 : decode M_M_get.2.1 16 = .ok (.ifCond .eq 6, 3) := by decide +kernel
theorem d_M_get_19 : decode M_M_get.2.1 19 = .ok (.bipush (-3), 2) := by decide +kernel
theorem d_M_get_21 : decode M_M_get.2.1 21 = .ok (.ireturn, 1) := by decide +kernel
theorem d_M_get_22 : decode M_M_get.2.1 22 = .ok (.aload_n 0, 1) := by decide +kernel
theorem d_M_get_23 : decode M_M_get.2.1 23 = .ok (.iload_n 1, 1) := by decide +kernel
theorem d_M_get_24 : decode M_M_get.2.1 24 = .ok (.invokevirtual 140, 3) := by decide +kernel
theorem d_M_get_27 : decode M_M_get.2.1 27 = .ok (.istore_n 3, 1) := by decide +kernel
theorem d_M_get_28 : decode M_M_get.2.1 28 = .ok (.aload_n 0, 1) := by decide +kernel
theorem d_M_get_29 : decode M_M_get.2.1 29 = .ok (.iload_n 1, 1) := by decide +kernel
theorem d_M_get_30 : decode M_M_get.2.1 30 = .ok (.iload_n 3, 1) := by decide +kernel
theorem d_M_get_31 : decode M_M_get.2.1 31 = .ok (.iload_n 2, 1) := by decide +kernel
theorem d_M_get_32 : decode M_M_get.2.1 32 = .ok (.iconst 5, 1) := by decide +kernel
theorem d_M_get_33 : decode M_M_get.2.1 33 = .ok (.invokevirtual 143, 3) := by decide +kernel
theorem d_M_get_36 : decode M_M_get.2.1 36 = .ok (.iconst 5, 1) := by decide +kernel
theorem d_M_get_37 : decode M_M_get.2.1 37 = .ok (.if_icmp .ge 6, 3) := by decide +kernel
theorem d_M_get_40 : decode M_M_get.2.1 40 = .ok (.bipush (-4), 2) := by decide +kernel
theorem d_M_get_42 : decode M_M_get.2.1 42 = .ok (.ireturn, 1) := by decide +kernel
theorem d_M_get_43 : decode M_M_get.2.1 43 = .ok (.aload_n 0, 1) := by decide +kernel
theorem d_M_get_44 : decode M_M_get.2.1 44 = .ok (.iload_n 1, 1) := by decide +kernel
theorem d_M_get_45 : decode M_M_get.2.1 45 = .ok (.iload_n 3, 1) := by decide +kernel
theorem d_M_get_46 : decode M_M_get.2.1 46 = .ok (.invokevirtual 146, 3) := by decide +kernel
theorem d_M_get_49 : decode M_M_get.2.1 49 = .ok (.istore 4, 2) := by decide +kernel
theorem d_M_get_51 : decode M_M_get.2.1 51 = .ok (.iload 4, 2) := by decide +kernel
theorem d_M_get_53 : decode M_M_get.2.1 53 = .ok (.ifCond .ne 6, 3) := by decide +kernel
theorem d_M_get_56 : decode M_M_get.2.1 56 = .ok (.bipush (-6), 2) := by decide +kernel
theorem d_M_get_58 : decode M_M_get.2.1 58 = .ok (.ireturn, 1) := by decide +kernel
theorem d_M_get_59 : decode M_M_get.2.1 59 = .ok (.iconst 0, 1) := by decide +kernel
theorem d_M_get_60 : decode M_M_get.2.1 60 = .ok (.istore 5, 2) := by decide +kernel
theorem d_M_get_62 : decode M_M_get.2.1 62 = .ok (.iload 5, 2) := by decide +kernel
theorem d_M_get_64 : decode M_M_get.2.1 64 = .ok (.iload 4, 2) := by decide +kernel
theorem d_M_get_66 : decode M_M_get.2.1 66 = .ok (.invokestatic 83, 3) := by decide +kernel
theorem d_M_get_69 : decode M_M_get.2.1 69 = .ok (.if_icmp .ge 16, 3) := by decide +kernel
theorem d_M_get_72 : decode M_M_get.2.1 72 = .ok (.aload_n 0, 1) := by decide +kernel
theorem d_M_get_73 : decode M_M_get.2.1 73 = .ok (.iload_n 1, 1) := by decide +kernel
theorem d_M_get_74 : decode M_M_get.2.1 74 = .ok (.iload 5, 2) := by decide +kernel
theorem d_M_get_76 : decode M_M_get.2.1 76 = .ok (.invokevirtual 149, 3) := by decide +kernel
theorem d_M_get_79 : decode M_M_get.2.1 79 = .ok (.iinc 5 1, 3) := by decide +kernel
theorem d_M_get_82 : decode M_M_get.2.1 82 = .ok (.goto (-20), 3) := by decide +kernel
theorem d_M_get_85 : decode M_M_get.2.1 85 = .ok (.aload_n 0, 1) := by decide +kernel
theorem d_M_get_86 : decode M_M_get.2.1 86 = .ok (.iload 4, 2) := by decide +kernel
theorem d_M_get_88 : decode M_M_get.2.1 88 = .ok (.putfield 152, 3) := by decide +kernel
theorem d_M_get_91 : decode M_M_get.2.1 91 = .ok (.iload 4, 2) := by decide +kernel
theorem d_M_get_93 : decode M_M_get.2.1 93 = .ok (.ireturn, 1) := by decide +kernel
theorem d_M_getStripe_0 : decode M_M_getStripe.2.1 0 = .ok (.iconst 0, 1) := by decide +kernel
theorem d_M_getStripe_1 : decode M_M_getStripe.2.1 1 = .ok (.istore_n 3, 1) := by decide +kernel
theorem d_M_getStripe_2 : decode M_M_getStripe.2.1 2 = .ok (.iload_n 3, 1) := by decide +kernel
theorem d_M_getStripe_3 : decode M_M_getStripe.2.1 3 = .ok (.iconst 5, 1) := by decide +kernel
theorem d_M_getStripe_4 : decode M_M_getStripe.2.1 4 = .ok (.if_icmp .ge 111, 3) := by decide +kernel
theorem d_M_getStripe_7 : decode M_M_getStripe.2.1 7 = .ok (.aload_n 0, 1) := by decide +kernel
theorem d_M_getStripe_8 : decode M_M_getStripe.2.1 8 = .ok (.getfield 54, 3) := by decide +kernel
theorem d_M_getStripe_11 : decode M_M_getStripe.2.1 11 = .ok (.iload_n 3, 1) := by decide +kernel
theorem d_M_getStripe_12 : decode M_M_getStripe.2.1 12 = .ok (.iaload, 1) := by decide +kernel
theorem d_M_getStripe_13 : decode M_M_getStripe.2.1 13 = .ok (.iload_n 1, 1) := by decide +kernel
theorem d_M_getStripe_14 : decode M_M_getStripe.2.1 14 = .ok (.iconst 0, 1) := by decide +kernel
theorem d_M_getStripe_15 : decode M_M_getStripe.2.1 15 = .ok (.invokestatic 79, 3) := by decide +kernel
theorem d_M_getStripe_18 : decode M_M_getStripe.2.1 18 = .ok (.istore 4, 2) := by decide +kernel
theorem d_M_getStripe_20 : decode M_M_getStripe.2.1 20 = .ok (.iconst 0, 1) := by decide +kernel
theorem d_M_getStripe_21 : decode M_M_getStripe.2.1 21 = .ok (.istore 5, 2) := by decide +kernel
theorem d_M_getStripe_23 : decode M_M_getStripe.2.1 23 = .ok (.iload 5, 2) := by decide +kernel
theorem d_M_getStripe_25 : decode M_M_getStripe.2.1 25 = .ok (.iconst 5, 1) := by decide +kernel
theorem d_M_getStripe_26 : decode M_M_getStripe.2.1 26 = .ok (.if_icmp .ge 32, 3) := by decide +kernel
theorem d_M_getStripe_29 : decode M_M_getStripe.2.1 29 = .ok (.aload_n 0, 1) := by decide +kernel
theorem d_M_getStripe_30 : decode M_M_getStripe.2.1 30 = .ok (.getfield 51, 3) := by decide +kernel
theorem d_M_getStripe_33 : decode M_M_getStripe.2.1 33 = .ok (.bipush 16, 2) := by decide +kernel
theorem d_M_getStripe_35 : decode M_M_getStripe.2.1 35 = .ok (.iload_n 3, 1) := by decide +kernel
theorem d_M_getStripe_36 : decode M_M_getStripe.2.1 36 = .ok (.imul, 1) := by decide +kernel
theorem d_M_getStripe_37 : decode M_M_getStripe.2.1 37 = .ok (.iload 5, 2) := by decide +kernel
theorem d_M_getStripe_39 : decode M_M_getStripe.2.1 39 = .ok (.iadd, 1) := by decide +kernel
theorem d_M_getStripe_40 : decode M_M_getStripe.2.1 40 = .ok (.aload_n 0, 1) := by decide +kernel
theorem d_M_getStripe_41 : decode M_M_getStripe.2.1 41 = .ok (.getfield 54, 3) := by decide +kernel
theorem d_M_getStripe_44 : decode M_M_getStripe.2.1 44 = .ok (.iload_n 3, 1) := by decide +kernel
theorem d_M_getStripe_45 : decode M_M_getStripe.2.1 45 = .ok (.iaload, 1) := by decide +kernel
theorem d_M_getStripe_46 : decode M_M_getStripe.2.1 46 = .ok (.iload 5, 2) := by decide +kernel
theorem d_M_getStripe_48 : decode M_M_getStripe.2.1 48 = .ok (.invokestatic 76, 3) := by decide +kernel
theorem d_M_getStripe_51 : decode M_M_getStripe.2.1 51 = .ok (.iastore, 1) := by decide +kernel
theorem d_M_getStripe_52 : decode M_M_getStripe.2.1 52 = .ok (.iinc 5 1, 3) := by decide +kernel
theorem d_M_getStripe_55 : decode M_M_getStripe.2.1 55 = .ok (.goto (-32), 3) := by decide +kernel
theorem d_M_getStripe_58 : decode M_M_getStripe.2.1 58 = .ok (.iconst 0, 1) := by decide +kernel
theorem d_M_getStripe_59 : decode M_M_getStripe.2.1 59 = .ok (.istore 5, 2) := by decide +kernel
theorem d_M_getStripe_61 : decode M_M_getStripe.2.1 61 = .ok (.iload 5, 2) := by decide +kernel
theorem d_M_getStripe_63 : decode M_M_getStripe.2.1 63 = .ok (.iconst 3, 1) := by decide +kernel
theorem d_M_getStripe_64 : decode M_M_getStripe.2.1 64 = .ok (.if_icmp .ge 45, 3) := by decide +kernel
theorem d_M_getStripe_67 : decode M_M_getStripe.2.1 67 = .ok (.aload_n 0, 1) := by decide +kernel
theorem d_M_getStripe_68 : decode M_M_getStripe.2.1 68 = .ok (.getfield 51, 3) := by decide +kernel
theorem d_M_getStripe_71 : decode M_M_getStripe.2.1 71 = .ok (.bipush 16, 2) := by decide +kernel
theorem d_M_getStripe_73 : decode M_M_getStripe.2.1 73 = .ok (.iload_n 3, 1) := by decide +kernel
theorem d_M_getStripe_74 : decode M_M_getStripe.2.1 74 = .ok (.imul, 1) := by decide +kernel
theorem d_M_getStripe_75 : decode M_M_getStripe.2.1 75 = .ok (.iconst 5, 1) := by decide +kernel
theorem d_M_getStripe_76 : decode M_M_getStripe.2.1 76 = .ok (.iadd, 1) := by decide +kernel
theorem d_M_getStripe_77 : decode M_M_getStripe.2.1 77 = .ok (.iload 5, 2) := by decide +kernel
theorem d_M_getStripe_79 : decode M_M_getStripe.2.1 79 = .ok (.iadd, 1) := by decide +kernel
theorem d_M_getStripe_80 : decode M_M_getStripe.2.1 80 = .ok (.aload_n 0, 1) := by decide +kernel
theorem d_M_getStripe_81 : decode M_M_getStripe.2.1 81 = .ok (.getfield 27, 3) := by decide +kernel
theorem d_M_getStripe_84 : decode M_M_getStripe.2.1 84 = .ok (.aload_n 0, 1) := by decide +kernel
theorem d_M_getStripe_85 : decode M_M_getStripe.2.1 85 = .ok (.aload_n 0, 1) := by decide +kernel
theorem d_M_getStripe_86 : decode M_M_getStripe.2.1 86 = .ok (.getfield 54, 3) := by decide +kernel
theorem d_M_getStripe_89 : decode M_M_getStripe.2.1 89 = .ok (.iload_n 3, 1) := by decide +kernel
theorem d_M_getStripe_90 : decode M_M_getStripe.2.1 90 = .ok (.iaload, 1) := by decide +kernel
theorem d_M_getStripe_91 : decode M_M_getStripe.2.1 91 = .ok (.iload 4, 2) := by decide +kernel
theorem d_M_getStripe_93 : decode M_M_getStripe.2.1 93 = .ok (.iload_n 2, 1) := by decide +kernel
theorem d_M_getStripe_94 : decode M_M_getStripe.2.1 94 = .ok (.iconst 5, 1) := by decide +kernel
theorem d_M_getStripe_95 : decode M_M_getStripe.2.1 95 = .ok (.iload 5, 2) := by decide +kernel
theorem d_M_getStripe_97 : decode M_M_getStripe.2.1 97 = .ok (.iadd, 1) := by decide +kernel
theorem d_M_getStripe_98 : decode M_M_getStripe.2.1 98 = .ok (.invokevirtual 103, 3) := by decide +kernel
theorem d_M_getStripe_101 : decode M_M_getStripe.2.1 101 = .ok (.iaload, 1) := by decide +kernel
theorem d_M_getStripe_102 : decode M_M_getStripe.2.1 102 = .ok (.iastore, 1) := by decide +kernel
theorem d_M_getStripe_103 : decode M_M_getStripe.2.1 103 = .ok (.iinc 5 1, 3) := by decide +kernel
theorem d_M_getStripe_106 : decode M_M_getStripe.2.1 106 = .ok (.goto (-45), 3) := by decide +kernel
theorem d_M_getStripe_109 : decode M_M_getStripe.2.1 109 = .ok (.iinc 3 1, 3) := by decide +kernel
theorem d_M_getStripe_112 : decode M_M_getStripe.2.1 112 = .ok (.goto (-110), 3) := by decide +kernel
theorem d_M_getStripe_115 : decode M_M_getStripe.2.1 115 = .ok (.aload_n 0, 1) := by decide +kernel
theorem d_M_getStripe_116 : decode M_M_getStripe.2.1 116 = .ok (.iconst 5, 1) := by decide +kernel
theorem d_M_getStripe_117 : decode M_M_getStripe.2.1 117 = .ok (.iconst 3, 1) := by decide +kernel
theorem d_M_getStripe_118 : decode M_M_getStripe.2.1 118 = .ok (.invokevirtual 137, 3) := by decide +kernel
theorem d_M_getStripe_121 : decode M_M_getStripe.2.1 121 = .ok (.iconst 0, 1) := by decide +kernel
theorem d_M_getStripe_122 : decode M_M_getStripe.2.1 122 = .ok (.istore_n 3, 1) := by decide +kernel
theorem d_M_getStripe_123 : decode M_M_getStripe.2.1 123 = .ok (.iload_n 3, 1) := by decide +kernel
theorem d_M_getStripe_124 : decode M_M_getStripe.2.1 124 = .ok (.iconst 5, 1) := by decide +kernel
theorem d_M_getStripe_125 : decode M_M_getStripe.2.1 125 = .ok (.if_icmp .ge 49, 3) := by decide +kernel
theorem d_M_getStripe_128 : decode M_M_getStripe.2.1 128 = .ok (.iconst 0, 1) := by decide +kernel
theorem d_M_getStripe_129 : decode M_M_getStripe.2.1 129 = .ok (.istore 4, 2) := by decide +kernel
theorem d_M_getStripe_131 : decode M_M_getStripe.2.1 131 = .ok (.iload 4, 2) := by decide +kernel
theorem d_M_getStripe_133 : decode M_M_getStripe.2.1 133 = .ok (.iconst 3, 1) := by decide +kernel
theorem d_M_getStripe_134 : decode M_M_getStripe.2.1 134 = .ok (.if_icmp .ge 34, 3) := by decide +kernel
theorem d_M_getStripe_137 : decode M_M_getStripe.2.1 137 = .ok (.aload_n 0, 1) := by decide +kernel
theorem d_M_getStripe_138 : decode M_M_getStripe.2.1 138 = .ok (.getfield 57, 3) := by decide +kernel
theorem d_M_getStripe_141 : decode M_M_getStripe.2.1 141 = .ok (.iconst 3, 1) := by decide +kernel
theorem d_M_getStripe_142 : decode M_M_getStripe.2.1 142 = .ok (.iload_n 3, 1) := by decide +kernel
theorem d_M_getStripe_143 : decode M_M_getStripe.2.1 143 = .ok (.imul, 1) := by decide +kernel
theorem d_M_getStripe_144 : decode M_M_getStripe.2.1 144 = .ok (.iload 4, 2) := by decide +kernel
theorem d_M_getStripe_146 : decode M_M_getStripe.2.1 146 = .ok (.iadd, 1) := by decide +kernel
theorem d_M_getStripe_147 : decode M_M_getStripe.2.1 147 = .ok (.aload_n 0, 1) := by decide +kernel
theorem d_M_getStripe_148 : decode M_M_getStripe.2.1 148 = .ok (.getfield 51, 3) := by decide +kernel
theorem d_M_getStripe_151 : decode M_M_getStripe.2.1 151 = .ok (.bipush 16, 2) := by decide +kernel
theorem d_M_getStripe_153 : decode M_M_getStripe.2.1 153 = .ok (.iload_n 3, 1) := by decide +kernel
theorem d_M_getStripe_154 : decode M_M_getStripe.2.1 154 = .ok (.imul, 1) := by decide +kernel
theorem d_M_getStripe_155 : decode M_M_getStripe.2.1 155 = .ok (.iconst 5, 1) := by decide +kernel
theorem d_M_getStripe_156 : decode M_M_getStripe.2.1 156 = .ok (.iadd, 1) := by decide +kernel
theorem d_M_getStripe_157 : decode M_M_getStripe.2.1 157 = .ok (.iload 4, 2) := by decide +kernel
theorem d_M_getStripe_159 : decode M_M_getStripe.2.1 159 = .ok (.iadd, 1) := by decide +kernel
theorem d_M_getStripe_160 : decode M_M_getStripe.2.1 160 = .ok (.iaload, 1) := by decide +kernel
theorem d_M_getStripe_161 : decode M_M_getStripe.2.1 161 = .ok (.iastore, 1) := by decide +kernel
theorem d_M_getStripe_162 : decode M_M_getStripe.2.1 162 = .ok (.iinc 4 1, 3) := by decide +kernel
theorem d_M_getStripe_165 : decode M_M_getStripe.2.1 165 = .ok (.goto (-34), 3) := by decide +kernel
theorem d_M_getStripe_168 : decode M_M_getStripe.2.1 168 = .ok (.iinc 3 1, 3) := by decide +kernel
theorem d_M_getStripe_171 : decode M_M_getStripe.2.1 171 = .ok (.goto (-48), 3) := by decide +kernel
theorem d_M_getStripe_174 : decode M_M_getStripe.2.1 174 = .ok (.iconst 0, 1) := by decide +kernel
theorem d_M_getStripe_175 : decode M_M_getStripe.2.1 175 = .ok (.istore_n 3, 1) := by decide +kernel
theorem d_M_getStripe_176 : decode M_M_getStripe.2.1 176 = .ok (.iload_n 3, 1) := by decide +kernel
theorem d_M_getStripe_177 : decode M_M_getStripe.2.1 177 = .ok (.iconst 5, 1) := by decide +kernel
theorem d_M_getStripe_178 : decode M_M_getStripe.2.1 178 = .ok (.if_icmp .ge 161, 3) := by decide +kernel
theorem d_M_getStripe_181 : decode M_M_getStripe.2.1 181 = .ok (.aload_n 0, 1) := by decide +kernel
theorem d_M_getStripe_182 : decode M_M_getStripe.2.1 182 = .ok (.getfield 54, 3) := by decide +kernel
theorem d_M_getStripe_185 : decode M_M_getStripe.2.1 185 = .ok (.iload_n 3, 1) := by decide +kernel
theorem d_M_getStripe_186 : decode M_M_getStripe.2.1 186 = .ok (.iaload, 1) := by decide +kernel
theorem d_M_getStripe_187 : decode M_M_getStripe.2.1 187 = .ok (.iload_n 1, 1) := by decide +kernel
theorem d_M_getStripe_188 : decode M_M_getStripe.2.1 188 = .ok (.iconst 0, 1) := by decide +kernel
theorem d_M_getStripe_189 : decode M_M_getStripe.2.1 189 = .ok (.invokestatic 79, 3) := by decide +kernel
theorem d_M_getStripe_192 : decode M_M_getStripe.2.1 192 = .ok (.istore 4, 2) := by decide +kernel
theorem d_M_getStripe_194 : decode M_M_getStripe.2.1 194 = .ok (.iconst 0, 1) := by decide +kernel
theorem d_M_getStripe_195 : decode M_M_getStripe.2.1 195 = .ok (.istore 5, 2) := by decide +kernel
theorem d_M_getStripe_197 : decode M_M_getStripe.2.1 197 = .ok (.iload 5, 2) := by decide +kernel
theorem d_M_getStripe_199 : decode M_M_getStripe.2.1 199 = .ok (.iconst 5, 1) := by decide +kernel
theorem d_M_getStripe_200 : decode M_M_getStripe.2.1 200 = .ok (.if_icmp .ge 32, 3) := by decide +kernel
theorem d_M_getStripe_203 : decode M_M_getStripe.2.1 203 = .ok (.aload_n 0, 1) := by decide +kernel
theorem d_M_getStripe_204 : decode M_M_getStripe.2.1 204 = .ok (.getfield 51, 3) := by decide +kernel
theorem d_M_getStripe_207 : decode M_M_getStripe.2.1 207 = .ok (.bipush 16, 2) := by decide +kernel
theorem d_M_getStripe_209 : decode M_M_getStripe.2.1 209 = .ok (.iload_n 3, 1) := by decide +kernel
theorem d_M_getStripe_210 : decode M_M_getStripe.2.1 210 = .ok (.imul, 1) := by decide +kernel
theorem d_M_getStripe_211 : decode M_M_getStripe.2.1 211 = .ok (.iload 5, 2) := by decide +kernel
theorem d_M_getStripe_213 : decode M_M_getStripe.2.1 213 = .ok (.iadd, 1) := by decide +kernel
theorem d_M_getStripe_214 : decode M_M_getStripe.2.1 214 = .ok (.aload_n 0, 1) := by decide +kernel
theorem d_M_getStripe_215 : decode M_M_getStripe.2.1 215 = .ok (.getfield 54, 3) := by decide +kernel
theorem d_M_getStripe_218 : decode M_M_getStripe.2.1 218 = .ok (.iload_n 3, 1) := by decide +kernel
theorem d_M_getStripe_219 : decode M_M_getStripe.2.1 219 = .ok (.iaload, 1) := by decide +kernel
theorem d_M_getStripe_220 : decode M_M_getStripe.2.1 220 = .ok (.iload 5, 2) := by decide +kernel
theorem d_M_getStripe_222 : decode M_M_getStripe.2.1 222 = .ok (.invokestatic 76, 3) := by decide +kernel
theorem d_M_getStripe_225 : decode M_M_getStripe.2.1 225 = .ok (.iastore, 1) := by decide +kernel
theorem d_M_getStripe_226 : decode M_M_getStripe.2.1 226 = .ok (.iinc 5 1, 3) := by decide +kernel
theorem d_M_getStripe_229 : decode M_M_getStripe.2.1 229 = .ok (.goto (-32), 3) := by decide +kernel
theorem d_M_getStripe_232 : decode M_M_getStripe.2.1 232 = .ok (.iconst 0, 1) := by decide +kernel
theorem d_M_getStripe_233 : decode M_M_getStripe.2.1 233 = .ok (.istore 5, 2) := by decide +kernel
theorem d_M_getStripe_235 : decode M_M_getStripe.2.1 235 = .ok (.iload 5, 2) := by decide +kernel
theorem d_M_getStripe_237 : decode M_M_getStripe.2.1 237 = .ok (.iconst 5, 1) := by decide +kernel
theorem d_M_getStripe_238 : decode M_M_getStripe.2.1 238 = .ok (.if_icmp .ge 95, 3) := by decide +kernel
theorem d_M_getStripe_241 : decode M_M_getStripe.2.1 241 = .ok (.aload_n 0, 1) := by decide +kernel
theorem d_M_getStripe_242 : decode M_M_getStripe.2.1 242 = .ok (.getfield 27, 3) := by decide +kernel
theorem d_M_getStripe_245 : decode M_M_getStripe.2.1 245 = .ok (.aload_n 0, 1) := by decide +kernel
theorem d_M_getStripe_246 : decode M_M_getStripe.2.1 246 = .ok (.aload_n 0, 1) := by decide +kernel
theorem d_M_getStripe_247 : decode M_M_getStripe.2.1 247 = .ok (.getfield 54, 3) := by decide +kernel
theorem d_M_getStripe_250 : decode M_M_getStripe.2.1 250 = .ok (.iload_n 3, 1) := by decide +kernel
theorem d_M_getStripe_251 : decode M_M_getStripe.2.1 251 = .ok (.iaload, 1) := by decide +kernel
theorem d_M_getStripe_252 : decode M_M_getStripe.2.1 252 = .ok (.iload 4, 2) := by decide +kernel
theorem d_M_getStripe_254 : decode M_M_getStripe.2.1 254 = .ok (.iload_n 2, 1) := by decide +kernel
theorem d_M_getStripe_255 : decode M_M_getStripe.2.1 255 = .ok (.iload 5, 2) := by decide +kernel
theorem d_M_getStripe_257 : decode M_M_getStripe.2.1 257 = .ok (.invokevirtual 103, 3) := by decide +kernel
theorem d_M_getStripe_260 : decode M_M_getStripe.2.1 260 = .ok (.iaload, 1) := by decide +kernel
theorem d_M_getStripe_261 : decode M_M_getStripe.2.1 261 = .ok (.istore 6, 2) := by decide +kernel
theorem d_M_getStripe_263 : decode M_M_getStripe.2.1 263 = .ok (.iconst 0, 1) := by decide +kernel
theorem d_M_getStripe_264 : decode M_M_getStripe.2.1 264 = .ok (.istore 7, 2) := by decide +kernel
theorem d_M_getStripe_266 : decode M_M_getStripe.2.1 266 = .ok (.iload 7, 2) := by decide +kernel
theorem d_M_getStripe_268 : decode M_M_getStripe.2.1 268 = .ok (.iconst 3, 1) := by decide +kernel
theorem d_M_getStripe_269 : decode M_M_getStripe.2.1 269 = .ok (.if_icmp .ge 42, 3) := by decide +kernel
theorem d_M_getStripe_272 : decode M_M_getStripe.2.1 272 = .ok (.iload 6, 2) := by decide +kernel
theorem d_M_getStripe_274 : decode M_M_getStripe.2.1 274 = .ok (.aload_n 0, 1) := by decide +kernel
theorem d_M_getStripe_275 : decode M_M_getStripe.2.1 275 = .ok (.getfield 54, 3) := by decide +kernel
theorem d_M_getStripe_278 : decode M_M_getStripe.2.1 278 = .ok (.iload_n 3, 1) := by decide +kernel
theorem d_M_getStripe_279 : decode M_M_getStripe.2.1 279 = .ok (.iaload, 1) := by decide +kernel
theorem d_M_getStripe_280 : decode M_M_getStripe.2.1 280 = .ok (.iconst 5, 1) := by decide +kernel
theorem d_M_getStripe_281 : decode M_M_getStripe.2.1 281 = .ok (.iload 7, 2) := by decide +kernel
theorem d_M_getStripe_283 : decode M_M_getStripe.2.1 283 = .ok (.iadd, 1) := by decide +kernel
theorem d_M_getStripe_284 : decode M_M_getStripe.2.1 284 = .ok (.invokestatic 76, 3) := by decide +kernel
theorem d_M_getStripe_287 : decode M_M_getStripe.2.1 287 = .ok (.aload_n 0, 1) := by decide +kernel
theorem d_M_getStripe_288 : decode M_M_getStripe.2.1 288 = .ok (.getfield 57, 3) := by decide +kernel
theorem d_M_getStripe_291 : decode M_M_getStripe.2.1 291 = .ok (.iconst 3, 1) := by decide +kernel
theorem d_M_getStripe_292 : decode M_M_getStripe.2.1 292 = .ok (.iload 5, 2) := by decide +kernel
theorem d_M_getStripe_294 : decode M_M_getStripe.2.1 294 = .ok (.imul, 1) := by decide +kernel
theorem d_M_getStripe_295 : decode M_M_getStripe.2.1 295 = .ok (.iload 7, 2) := by decide +kernel
theorem d_M_getStripe_297 : decode M_M_getStripe.2.1 297 = .ok (.iadd, 1) := by decide +kernel
theorem d_M_getStripe_298 : decode M_M_getStripe.2.1 298 = .ok (.iaload, 1) := by decide +kernel
theorem d_M_getStripe_299 : decode M_M_getStripe.2.1 299 = .ok (.invokestatic 64, 3) := by decide +kernel
theorem d_M_getStripe_302 : decode M_M_getStripe.2.1 302 = .ok (.ixor, 1) := by decide +kernel
theorem d_M_getStripe_303 : decode M_M_getStripe.2.1 303 = .ok (.istore 6, 2) := by decide +kernel
theorem d_M_getStripe_305 : decode M_M_getStripe.2.1 305 = .ok (.iinc 7 1, 3) := by decide +kernel
theorem d_M_getStripe_308 : decode M_M_getStripe.2.1 308 = .ok (.goto (-42), 3) := by decide +kernel
theorem d_M_getStripe_311 : decode M_M_getStripe.2.1 311 = .ok (.aload_n 0, 1) := by decide +kernel
theorem d_M_getStripe_312 : decode M_M_getStripe.2.1 312 = .ok (.getfield 51, 3) := by decide +kernel
theorem d_M_getStripe_315 : decode M_M_getStripe.2.1 315 = .ok (.bipush 16, 2) := by decide +kernel
theorem d_M_getStripe_317 : decode M_M_getStripe.2.1 317 = .ok (.iload_n 3, 1) := by decide +kernel
theorem d_M_getStripe_318 : decode M_M_getStripe.2.1 318 = .ok (.imul, 1) := by decide +kernel
theorem d_M_getStripe_319 : decode M_M_getStripe.2.1 319 = .ok (.iconst 5, 1) := by decide +kernel
theorem d_M_getStripe_320 : decode M_M_getStripe.2.1 320 = .ok (.iadd, 1) := by decide +kernel
theorem d_M_getStripe_321 : decode M_M_getStripe.2.1 321 = .ok (.iload 5, 2) := by decide +kernel
theorem d_M_getStripe_323 : decode M_M_getStripe.2.1 323 = .ok (.iadd, 1) := by decide +kernel
theorem d_M_getStripe_324 : decode M_M_getStripe.2.1 324 = .ok (.iload 6, 2) := by decide +kernel
theorem d_M_getStripe_326 : decode M_M_getStripe.2.1 326 = .ok (.iastore, 1) := by decide +kernel
theorem d_M_getStripe_327 : decode M_M_getStripe.2.1 327 = .ok (.iinc 5 1, 3) := by decide +kernel
theorem d_M_getStripe_330 : decode M_M_getStripe.2.1 330 = .ok (.goto (-95), 3) := by decide +kernel
theorem d_M_getStripe_333 : decode M_M_getStripe.2.1 333 = .ok (.iinc 3 1, 3) := by decide +kernel
theorem d_M_getStripe_336 : decode M_M_getStripe.2.1 336 = .ok (.goto (-160), 3) := by decide +kernel
theorem d_M_getStripe_339 : decode M_M_getStripe.2.1 339 = .ok (.aload_n 0, 1) := by decide +kernel
theorem d_M_getStripe_340 : decode M_M_getStripe.2.1 340 = .ok (.iconst 5, 1) := by decide +kernel
theorem d_M_getStripe_341 : decode M_M_getStripe.2.1 341 = .ok (.iconst 5, 1) := by decide +kernel
theorem d_M_getStripe_342 : decode M_M_getStripe.2.1 342 = .ok (.invokevirtual 137, 3) := by decide +kernel
theorem d_M_getStripe_345 : decode M_M_getStripe.2.1 345 = .ok (.bipush 30, 2) := by decide +kernel
theorem d_M_getStripe_347 : decode M_M_getStripe.2.1 347 = .ok (.iload_n 2, 1) := by decide +kernel
theorem d_M_getStripe_348 : decode M_M_getStripe.2.1 348 = .ok (.imul, 1) := by decide +kernel
theorem d_M_getStripe_349 : decode M_M_getStripe.2.1 349 = .ok (.istore_n 3, 1) := by decide +kernel
theorem d_M_getStripe_350 : decode M_M_getStripe.2.1 350 = .ok (.iconst 0, 1) := by decide +kernel
theorem d_M_getStripe_351 : decode M_M_getStripe.2.1 351 = .ok (.istore 4, 2) := by decide +kernel
theorem d_M_getStripe_353 : decode M_M_getStripe.2.1 353 = .ok (.iload 4, 2) := by decide +kernel
theorem d_M_getStripe_355 : decode M_M_getStripe.2.1 355 = .ok (.iconst 5, 1) := by decide +kernel
theorem d_M_getStripe_356 : decode M_M_getStripe.2.1 356 = .ok (.if_icmp .ge 49, 3) := by decide +kernel
theorem d_M_getStripe_359 : decode M_M_getStripe.2.1 359 = .ok (.iload 4, 2) := by decide +kernel
theorem d_M_getStripe_361 : decode M_M_getStripe.2.1 361 = .ok (.istore 5, 2) := by decide +kernel
theorem d_M_getStripe_363 : decode M_M_getStripe.2.1 363 = .ok (.iload 5, 2) := by decide +kernel
theorem d_M_getStripe_365 : decode M_M_getStripe.2.1 365 = .ok (.iconst 5, 1) := by decide +kernel
theorem d_M_getStripe_366 : decode M_M_getStripe.2.1 366 = .ok (.if_icmp .ge 33, 3) := by decide +kernel
theorem d_M_getStripe_369 : decode M_M_getStripe.2.1 369 = .ok (.aload_n 0, 1) := by decide +kernel
theorem d_M_getStripe_370 : decode M_M_getStripe.2.1 370 = .ok (.getfield 48, 3) := by decide +kernel
theorem d_M_getStripe_373 : decode M_M_getStripe.2.1 373 = .ok (.iload_n 3, 1) := by decide +kernel
theorem d_M_getStripe_374 : decode M_M_getStripe.2.1 374 = .ok (.aload_n 0, 1) := by decide +kernel
theorem d_M_getStripe_375 : decode M_M_getStripe.2.1 375 = .ok (.getfield 51, 3) := by decide +kernel
theorem d_M_getStripe_378 : decode M_M_getStripe.2.1 378 = .ok (.bipush 16, 2) := by decide +kernel
theorem d_M_getStripe_380 : decode M_M_getStripe.2.1 380 = .ok (.iload 4, 2) := by decide +kernel
theorem d_M_getStripe_382 : decode M_M_getStripe.2.1 382 = .ok (.imul, 1) := by decide +kernel
theorem d_M_getStripe_383 : decode M_M_getStripe.2.1 383 = .ok (.iconst 5, 1) := by decide +kernel
theorem d_M_getStripe_384 : decode M_M_getStripe.2.1 384 = .ok (.iadd, 1) := by decide +kernel
theorem d_M_getStripe_385 : decode M_M_getStripe.2.1 385 = .ok (.iload 5, 2) := by decide +kernel
theorem d_M_getStripe_387 : decode M_M_getStripe.2.1 387 = .ok (.iadd, 1) := by decide +kernel
theorem d_M_getStripe_388 : decode M_M_getStripe.2.1 388 = .ok (.iaload, 1) := by decide +kernel
theorem d_M_getStripe_389 : decode M_M_getStripe.2.1 389 = .ok (.iastore, 1) := by decide +kernel
theorem d_M_getStripe_390 : decode M_M_getStripe.2.1 390 = .ok (.iinc 3 1, 3) := by decide +kernel
theorem d_M_getStripe_393 : decode M_M_getStripe.2.1 393 = .ok (.iinc 5 1, 3) := by decide +kernel
theorem d_M_getStripe_396 : decode M_M_getStripe.2.1 396 = .ok (.goto (-33), 3) := by decide +kernel
theorem d_M_getStripe_399 : decode M_M_getStripe.2.1 399 = .ok (.iinc 4 1, 3) := by decide +kernel
theorem d_M_getStripe_402 : decode M_M_getStripe.2.1 402 = .ok (.goto (-49), 3) := by decide +kernel
theorem d_M_getStripe_405 : decode M_M_getStripe.2.1 405 = .ok (.iconst 0, 1) := by decide +kernel
theorem d_M_getStripe_406 : decode M_M_getStripe.2.1 406 = .ok (.istore 4, 2) := by decide +kernel
theorem d_M_getStripe_408 : decode M_M_getStripe.2.1 408 = .ok (.iload 4, 2) := by decide +kernel
theorem d_M_getStripe_410 : decode M_M_getStripe.2.1 410 = .ok (.bipush 15, 2) := by decide +kernel
theorem d_M_getStripe_412 : decode M_M_getStripe.2.1 412 = .ok (.if_icmp .ge 25, 3) := by decide +kernel
theorem d_M_getStripe_415 : decode M_M_getStripe.2.1 415 = .ok (.aload_n 0, 1) := by decide +kernel
theorem d_M_getStripe_416 : decode M_M_getStripe.2.1 416 = .ok (.getfield 48, 3) := by decide +kernel
theorem d_M_getStripe_419 : decode M_M_getStripe.2.1 419 = .ok (.iload_n 3, 1) := by decide +kernel
theorem d_M_getStripe_420 : decode M_M_getStripe.2.1 420 = .ok (.aload_n 0, 1) := by decide +kernel
theorem d_M_getStripe_421 : decode M_M_getStripe.2.1 421 = .ok (.getfield 57, 3) := by decide +kernel
theorem d_M_getStripe_424 : decode M_M_getStripe.2.1 424 = .ok (.iload 4, 2) := by decide +kernel
theorem d_M_getStripe_426 : decode M_M_getStripe.2.1 426 = .ok (.iaload, 1) := by decide +kernel
theorem d_M_getStripe_427 : decode M_M_getStripe.2.1 427 = .ok (.iastore, 1) := by decide +kernel
theorem d_M_getStripe_428 : decode M_M_getStripe.2.1 428 = .ok (.iinc 3 1, 3) := by decide +kernel
theorem d_M_getStripe_431 : decode M_M_getStripe.2.1 431 = .ok (.iinc 4 1, 3) := by decide +kernel
theorem d_M_getStripe_434 : decode M_M_getStripe.2.1 434 = .ok (.goto (-26), 3) := by decide +kernel
theorem d_M_getStripe_437 : decode M_M_getStripe.2.1 437 = .ok (.return_, 1) := by decide +kernel
theorem d_M_givesUp_0 : decode M_M_givesUp.2.1 0 = .ok (.iload_n 1, 1) := by decide +kernel
theorem d_M_givesUp_1 : decode M_M_givesUp.2.1 1 = .ok (.iload_n 2, 1) := by decide +kernel
theorem d_M_givesUp_2 : decode M_M_givesUp.2.1 2 = .ok (.iload_n 3, 1) := by decide +kernel
theorem d_M_givesUp_3 : decode M_M_givesUp.2.1 3 = .ok (.invokestatic 79, 3) := by decide +kernel
theorem d_M_givesUp_6 : decode M_M_givesUp.2.1 6 = .ok (.istore 4, 2) := by decide +kernel
theorem d_M_givesUp_8 : decode M_M_givesUp.2.1 8 = .ok (.iconst 0, 1) := by decide +kernel
theorem d_M_givesUp_9 : decode M_M_givesUp.2.1 9 = .ok (.istore 5, 2) := by decide +kernel
theorem d_M_givesUp_11 : decode M_M_givesUp.2.1 11 = .ok (.iload 5, 2) := by decide +kernel
theorem d_M_givesUp_13 : decode M_M_givesUp.2.1 13 = .ok (.aload_n 0, 1) := by decide +kernel
theorem d_M_givesUp_14 : decode M_M_givesUp.2.1 14 = .ok (.getfield 36, 3) := by decide +kernel
theorem d_M_givesUp_17 : decode M_M_givesUp.2.1 17 = .ok (.iload 4, 2) := by decide +kernel
theorem d_M_givesUp_19 : decode M_M_givesUp.2.1 19 = .ok (.iaload, 1) := by decide +kernel
theorem d_M_givesUp_20 : decode M_M_givesUp.2.1 20 = .ok (.invokestatic 83, 3) := by decide +kernel
theorem d_M_givesUp_23 : decode M_M_givesUp.2.1 23 = .ok (.if_icmp .ge 43, 3) := by decide +kernel
theorem d_M_givesUp_26 : decode M_M_givesUp.2.1 26 = .ok (.aload_n 0, 1) := by decide +kernel
theorem d_M_givesUp_27 : decode M_M_givesUp.2.1 27 = .ok (.getfield 30, 3) := by decide +kernel
theorem d_M_givesUp_30 : decode M_M_givesUp.2.1 30 = .ok (.iload 4, 2) := by decide +kernel
theorem d_M_givesUp_32 : decode M_M_givesUp.2.1 32 = .ok (.baload, 1) := by decide +kernel
theorem d_M_givesUp_33 : decode M_M_givesUp.2.1 33 = .ok (.ifCond .eq 33, 3) := by decide +kernel
theorem d_M_givesUp_36 : decode M_M_givesUp.2.1 36 = .ok (.aload_n 0, 1) := by decide +kernel
theorem d_M_givesUp_37 : decode M_M_givesUp.2.1 37 = .ok (.getfield 24, 3) := by decide +kernel
theorem d_M_givesUp_40 : decode M_M_givesUp.2.1 40 = .ok (.bipush 40, 2) := by decide +kernel
theorem d_M_givesUp_42 : decode M_M_givesUp.2.1 42 = .ok (.iload_n 1, 1) := by decide +kernel
theorem d_M_givesUp_43 : decode M_M_givesUp.2.1 43 = .ok (.imul, 1) := by decide +kernel
theorem d_M_givesUp_44 : decode M_M_givesUp.2.1 44 = .ok (.aload_n 0, 1) := by decide +kernel
theorem d_M_givesUp_45 : decode M_M_givesUp.2.1 45 = .ok (.getfield 39, 3) := by decide +kernel
theorem d_M_givesUp_48 : decode M_M_givesUp.2.1 48 = .ok (.bipush 8, 2) := by decide +kernel
theorem d_M_givesUp_50 : decode M_M_givesUp.2.1 50 = .ok (.iload 4, 2) := by decide +kernel
theorem d_M_givesUp_52 : decode M_M_givesUp.2.1 52 = .ok (.imul, 1) := by decide +kernel
theorem d_M_givesUp_53 : decode M_M_givesUp.2.1 53 = .ok (.iload 5, 2) := by decide +kernel
theorem d_M_givesUp_55 : decode M_M_givesUp.2.1 55 = .ok (.iadd, 1) := by decide +kernel
theorem d_M_givesUp_56 : decode M_M_givesUp.2.1 56 = .ok (.iaload, 1) := by decide +kernel
theorem d_M_givesUp_57 : decode M_M_givesUp.2.1 57 = .ok (.iadd, 1) := by decide +kernel
theorem d_M_givesUp_58 : decode M_M_givesUp.2.1 58 = .ok (.iconst 0, 1) := by decide +kernel
theorem d_M_givesUp_59 : decode M_M_givesUp.2.1 59 = .ok (.bastore, 1) := by decide +kernel
theorem d_M_givesUp_60 : decode M_M_givesUp.2.1 60 = .ok (.iinc 5 1, 3) := by decide +kernel
theorem d_M_givesUp_63 : decode M_M_givesUp.2.1 63 = .ok (.goto (-52), 3) := by decide +kernel
theorem d_M_givesUp_66 : decode M_M_givesUp.2.1 66 = .ok (.aload_n 0, 1) := by decide +kernel
theorem d_M_givesUp_67 : decode M_M_givesUp.2.1 67 = .ok (.getfield 30, 3) := by decide +kernel
theorem d_M_givesUp_70 : decode M_M_givesUp.2.1 70 = .ok (.iload 4, 2) := by decide +kernel
theorem d_M_givesUp_72 : decode M_M_givesUp.2.1 72 = .ok (.iconst 0, 1) := by decide +kernel
theorem d_M_givesUp_73 : decode M_M_givesUp.2.1 73 = .ok (.bastore, 1) := by decide +kernel
theorem d_M_givesUp_74 : decode M_M_givesUp.2.1 74 = .ok (.return_, 1) := by decide +kernel
theorem d_M_goes_0 : decode M_M_goes.2.1 0 = .ok (.aload_n 0, 1) := by decide +kernel
theorem d_M_goes_1 : decode M_M_goes.2.1 1 = .ok (.getfield 42, 3) := by decide +kernel
theorem d_M_goes_4 : decode M_M_goes.2.1 4 = .ok (.iload_n 1, 1) := by decide +kernel
theorem d_M_goes_5 : decode M_M_goes.2.1 5 = .ok (.dup2, 1) := by decide +kernel
theorem d_M_goes_6 : decode M_M_goes.2.1 6 = .ok (.iaload, 1) := by decide +kernel
theorem d_M_goes_7 : decode M_M_goes.2.1 7 = .ok (.iconst 1, 1) := by decide +kernel
theorem d_M_goes_8 : decode M_M_goes.2.1 8 = .ok (.iadd, 1) := by decide +kernel
theorem d_M_goes_9 : decode M_M_goes.2.1 9 = .ok (.iastore, 1) := by decide +kernel
theorem d_M_goes_10 : decode M_M_goes.2.1 10 = .ok (.iconst 2, 1) := by decide +kernel
theorem d_M_goes_11 : decode M_M_goes.2.1 11 = .ok (.aload_n 0, 1) := by decide +kernel
theorem d_M_goes_12 : decode M_M_goes.2.1 12 = .ok (.invokevirtual 107, 3) := by decide +kernel
theorem d_M_goes_15 : decode M_M_goes.2.1 15 = .ok (.imul, 1) := by decide +kernel
theorem d_M_goes_16 : decode M_M_goes.2.1 16 = .ok (.istore_n 2, 1) := by decide +kernel
theorem d_M_goes_17 : decode M_M_goes.2.1 17 = .ok (.aload_n 0, 1) := by decide +kernel
theorem d_M_goes_18 : decode M_M_goes.2.1 18 = .ok (.getfield 13, 3) := by decide +kernel
theorem d_M_goes_21 : decode M_M_goes.2.1 21 = .ok (.iconst (-1), 1) := by decide +kernel
theorem d_M_goes_22 : decode M_M_goes.2.1 22 = .ok (.if_icmp .eq 11, 3) := by decide +kernel
theorem d_M_goes_25 : decode M_M_goes.2.1 25 = .ok (.aload_n 0, 1) := by decide +kernel
theorem d_M_goes_26 : decode M_M_goes.2.1 26 = .ok (.getfield 13, 3) := by decide +kernel
theorem d_M_goes_29 : decode M_M_goes.2.1 29 = .ok (.iload_n 2, 1) := by decide +kernel
theorem d_M_goes_30 : decode M_M_goes.2.1 30 = .ok (.if_icmp .le 7, 3) := by decide +kernel
theorem d_M_goes_33 : decode M_M_goes.2.1 33 = .ok (.iload_n 2, 1) := by decide +kernel
theorem d_M_goes_34 : decode M_M_goes.2.1 34 = .ok (.goto 7, 3) := by decide +kernel
theorem d_M_goes_37 : decode M_M_goes.2.1 37 = .ok (.aload_n 0, 1) := by decide +kernel
theorem d_M_goes_38 : decode M_M_goes.2.1 38 = .ok (.getfield 13, 3) := by decide +kernel
theorem d_M_goes_41 : decode M_M_goes.2.1 41 = .ok (.istore_n 3, 1) := by decide +kernel
theorem d_M_goes_42 : decode M_M_goes.2.1 42 = .ok (.aload_n 0, 1) := by decide +kernel
theorem d_M_goes_43 : decode M_M_goes.2.1 43 = .ok (.iconst (-1), 1) := by decide +kernel
theorem d_M_goes_44 : decode M_M_goes.2.1 44 = .ok (.putfield 13, 3) := by decide +kernel
theorem d_M_goes_47 : decode M_M_goes.2.1 47 = .ok (.iconst 0, 1) := by decide +kernel
theorem d_M_goes_48 : decode M_M_goes.2.1 48 = .ok (.istore 4, 2) := by decide +kernel
theorem d_M_goes_50 : decode M_M_goes.2.1 50 = .ok (.iconst 0, 1) := by decide +kernel
theorem d_M_goes_51 : decode M_M_goes.2.1 51 = .ok (.istore 5, 2) := by decide +kernel
theorem d_M_goes_53 : decode M_M_goes.2.1 53 = .ok (.iload 5, 2) := by decide +kernel
theorem d_M_goes_55 : decode M_M_goes.2.1 55 = .ok (.bipush 12, 2) := by decide +kernel
theorem d_M_goes_57 : decode M_M_goes.2.1 57 = .ok (.if_icmp .ge 61, 3) := by decide +kernel
theorem d_M_goes_60 : decode M_M_goes.2.1 60 = .ok (.iload 4, 2) := by decide +kernel
theorem d_M_goes_62 : decode M_M_goes.2.1 62 = .ok (.iload_n 3, 1) := by decide +kernel
theorem d_M_goes_63 : decode M_M_goes.2.1 63 = .ok (.if_icmp .ge 55, 3) := by decide +kernel
theorem d_M_goes_66 : decode M_M_goes.2.1 66 = .ok (.aload_n 0, 1) := by decide +kernel
theorem d_M_goes_67 : decode M_M_goes.2.1 67 = .ok (.getfield 17, 3) := by decide +kernel
theorem d_M_goes_70 : decode M_M_goes.2.1 70 = .ok (.iload 5, 2) := by decide +kernel
theorem d_M_goes_72 : decode M_M_goes.2.1 72 = .ok (.baload, 1) := by decide +kernel
theorem d_M_goes_73 : decode M_M_goes.2.1 73 = .ok (.ifCond .ne 39, 3) := by decide +kernel
theorem d_M_goes_76 : decode M_M_goes.2.1 76 = .ok (.aload_n 0, 1) := by decide +kernel
theorem d_M_goes_77 : decode M_M_goes.2.1 77 = .ok (.iload 5, 2) := by decide +kernel
theorem d_M_goes_79 : decode M_M_goes.2.1 79 = .ok (.iload_n 1, 1) := by decide +kernel
theorem d_M_goes_80 : decode M_M_goes.2.1 80 = .ok (.iconst 1, 1) := by decide +kernel
theorem d_M_goes_81 : decode M_M_goes.2.1 81 = .ok (.invokevirtual 89, 3) := by decide +kernel
theorem d_M_goes_84 : decode M_M_goes.2.1 84 = .ok (.aload_n 0, 1) := by decide +kernel
theorem d_M_goes_85 : decode M_M_goes.2.1 85 = .ok (.iload 5, 2) := by decide +kernel
theorem d_M_goes_87 : decode M_M_goes.2.1 87 = .ok (.iload_n 1, 1) := by decide +kernel
theorem d_M_goes_88 : decode M_M_goes.2.1 88 = .ok (.iconst 1, 1) := by decide +kernel
theorem d_M_goes_89 : decode M_M_goes.2.1 89 = .ok (.aload_n 0, 1) := by decide +kernel
theorem d_M_goes_90 : decode M_M_goes.2.1 90 = .ok (.getfield 42, 3) := by decide +kernel
theorem d_M_goes_93 : decode M_M_goes.2.1 93 = .ok (.iload_n 1, 1) := by decide +kernel
theorem d_M_goes_94 : decode M_M_goes.2.1 94 = .ok (.iaload, 1) := by decide +kernel
theorem d_M_goes_95 : decode M_M_goes.2.1 95 = .ok (.aload_n 0, 1) := by decide +kernel
theorem d_M_goes_96 : decode M_M_goes.2.1 96 = .ok (.getfield 96, 3) := by decide +kernel
theorem d_M_goes_99 : decode M_M_goes.2.1 99 = .ok (.invokevirtual 111, 3) := by decide +kernel
theorem d_M_goes_102 : decode M_M_goes.2.1 102 = .ok (.aload_n 0, 1) := by decide +kernel
theorem d_M_goes_103 : decode M_M_goes.2.1 103 = .ok (.iload 5, 2) := by decide +kernel
theorem d_M_goes_105 : decode M_M_goes.2.1 105 = .ok (.iload_n 1, 1) := by decide +kernel
theorem d_M_goes_106 : decode M_M_goes.2.1 106 = .ok (.invokevirtual 115, 3) := by decide +kernel
theorem d_M_goes_109 : decode M_M_goes.2.1 109 = .ok (.iinc 4 1, 3) := by decide +kernel
theorem d_M_goes_112 : decode M_M_goes.2.1 112 = .ok (.iinc 5 1, 3) := by decide +kernel
theorem d_M_goes_115 : decode M_M_goes.2.1 115 = .ok (.goto (-62), 3) := by decide +kernel
theorem d_M_goes_118 : decode M_M_goes.2.1 118 = .ok (.iconst 0, 1) := by decide +kernel
theorem d_M_goes_119 : decode M_M_goes.2.1 119 = .ok (.istore 5, 2) := by decide +kernel
theorem d_M_goes_121 : decode M_M_goes.2.1 121 = .ok (.iload 5, 2) := by decide +kernel
theorem d_M_goes_123 : decode M_M_goes.2.1 123 = .ok (.bipush 12, 2) := by decide +kernel
theorem d_M_goes_125 : decode M_M_goes.2.1 125 = .ok (.if_icmp .ge 35, 3) := by decide +kernel
theorem d_M_goes_128 : decode M_M_goes.2.1 128 = .ok (.iload 4, 2) := by decide +kernel
theorem d_M_goes_130 : decode M_M_goes.2.1 130 = .ok (.iload_n 3, 1) := by decide +kernel
theorem d_M_goes_131 : decode M_M_goes.2.1 131 = .ok (.if_icmp .ge 29, 3) := by decide +kernel
theorem d_M_goes_134 : decode M_M_goes.2.1 134 = .ok (.aload_n 0, 1) := by decide +kernel
theorem d_M_goes_135 : decode M_M_goes.2.1 135 = .ok (.getfield 17, 3) := by decide +kernel
theorem d_M_goes_138 : decode M_M_goes.2.1 138 = .ok (.iload 5, 2) := by decide +kernel
theorem d_M_goes_140 : decode M_M_goes.2.1 140 = .ok (.baload, 1) := by decide +kernel
theorem d_M_goes_141 : decode M_M_goes.2.1 141 = .ok (.ifCond .ne 13, 3) := by decide +kernel
theorem d_M_goes_144 : decode M_M_goes.2.1 144 = .ok (.aload_n 0, 1) := by decide +kernel
theorem d_M_goes_145 : decode M_M_goes.2.1 145 = .ok (.iload 5, 2) := by decide +kernel
theorem d_M_goes_147 : decode M_M_goes.2.1 147 = .ok (.iload_n 1, 1) := by decide +kernel
theorem d_M_goes_148 : decode M_M_goes.2.1 148 = .ok (.invokevirtual 119, 3) := by decide +kernel
theorem d_M_goes_151 : decode M_M_goes.2.1 151 = .ok (.iinc 4 1, 3) := by decide +kernel
theorem d_M_goes_154 : decode M_M_goes.2.1 154 = .ok (.iinc 5 1, 3) := by decide +kernel
theorem d_M_goes_157 : decode M_M_goes.2.1 157 = .ok (.goto (-36), 3) := by decide +kernel
theorem d_M_goes_160 : decode M_M_goes.2.1 160 = .ok (.aload_n 0, 1) := by decide +kernel
theorem d_M_goes_161 : decode M_M_goes.2.1 161 = .ok (.dup, 1) := by decide +kernel
theorem d_M_goes_162 : decode M_M_goes.2.1 162 = .ok (.getfield 122, 3) := by decide +kernel
theorem d_M_goes_165 : decode M_M_goes.2.1 165 = .ok (.iload 4, 2) := by decide +kernel
theorem d_M_goes_167 : decode M_M_goes.2.1 167 = .ok (.iadd, 1) := by decide +kernel
theorem d_M_goes_168 : decode M_M_goes.2.1 168 = .ok (.putfield 122, 3) := by decide +kernel
theorem d_M_goes_171 : decode M_M_goes.2.1 171 = .ok (.aload_n 0, 1) := by decide +kernel
theorem d_M_goes_172 : decode M_M_goes.2.1 172 = .ok (.getfield 45, 3) := by decide +kernel
theorem d_M_goes_175 : decode M_M_goes.2.1 175 = .ok (.iload_n 1, 1) := by decide +kernel
theorem d_M_goes_176 : decode M_M_goes.2.1 176 = .ok (.iload 4, 2) := by decide +kernel
theorem d_M_goes_178 : decode M_M_goes.2.1 178 = .ok (.iload_n 2, 1) := by decide +kernel
theorem d_M_goes_179 : decode M_M_goes.2.1 179 = .ok (.if_icmp .ge 7, 3) := by decide +kernel
theorem d_M_goes_182 : decode M_M_goes.2.1 182 = .ok (.iconst 1, 1) := by decide +kernel
theorem d_M_goes_183 : decode M_M_goes.2.1 183 = .ok (.goto 4, 3) := by decide +kernel
theorem d_M_goes_186 : decode M_M_goes.2.1 186 = .ok (.iconst 0, 1) := by decide +kernel
theorem d_M_goes_187 : decode M_M_goes.2.1 187 = .ok (.bastore, 1) := by decide +kernel
theorem d_M_goes_188 : decode M_M_goes.2.1 188 = .ok (.aload_n 0, 1) := by decide +kernel
theorem d_M_goes_189 : decode M_M_goes.2.1 189 = .ok (.getfield 45, 3) := by decide +kernel
theorem d_M_goes_192 : decode M_M_goes.2.1 192 = .ok (.iload_n 1, 1) := by decide +kernel
theorem d_M_goes_193 : decode M_M_goes.2.1 193 = .ok (.baload, 1) := by decide +kernel
theorem d_M_goes_194 : decode M_M_goes.2.1 194 = .ok (.ifCond .eq 7, 3) := by decide +kernel
theorem d_M_goes_197 : decode M_M_goes.2.1 197 = .ok (.iconst 0, 1) := by decide +kernel
theorem d_M_goes_198 : decode M_M_goes.2.1 198 = .ok (.goto 9, 3) := by decide +kernel
theorem d_M_goes_201 : decode M_M_goes.2.1 201 = .ok (.aload_n 0, 1) := by decide +kernel
theorem d_M_goes_202 : decode M_M_goes.2.1 202 = .ok (.getfield 42, 3) := by decide +kernel
theorem d_M_goes_205 : decode M_M_goes.2.1 205 = .ok (.iload_n 1, 1) := by decide +kernel
theorem d_M_goes_206 : decode M_M_goes.2.1 206 = .ok (.iaload, 1) := by decide +kernel
theorem d_M_goes_207 : decode M_M_goes.2.1 207 = .ok (.ireturn, 1) := by decide +kernel
theorem d_M_got_0 : decode M_M_got.2.1 0 = .ok (.iload_n 1, 1) := by decide +kernel
theorem d_M_got_1 : decode M_M_got.2.1 1 = .ok (.iconst 0, 1) := by decide +kernel
theorem d_M_got_2 : decode M_M_got.2.1 2 = .ok (.aload_n 0, 1) := by decide +kernel
theorem d_M_got_3 : decode M_M_got.2.1 3 = .ok (.getfield 152, 3) := by decide +kernel
theorem d_M_got_6 : decode M_M_got.2.1 6 = .ok (.iconst 1, 1) := by decide +kernel
theorem d_M_got_7 : decode M_M_got.2.1 7 = .ok (.isub, 1) := by decide +kernel
theorem d_M_got_8 : decode M_M_got.2.1 8 = .ok (.invokestatic 60, 3) := by decide +kernel
theorem d_M_got_11 : decode M_M_got.2.1 11 = .ok (.ifCond .eq 12, 3) := by decide +kernel
theorem d_M_got_14 : decode M_M_got.2.1 14 = .ok (.aload_n 0, 1) := by decide +kernel
theorem d_M_got_15 : decode M_M_got.2.1 15 = .ok (.getfield 48, 3) := by decide +kernel
theorem d_M_got_18 : decode M_M_got.2.1 18 = .ok (.iload_n 1, 1) := by decide +kernel
theorem d_M_got_19 : decode M_M_got.2.1 19 = .ok (.iaload, 1) := by decide +kernel
theorem d_M_got_20 : decode M_M_got.2.1 20 = .ok (.goto 4, 3) := by decide +kernel
theorem d_M_got_23 : decode M_M_got.2.1 23 = .ok (.iconst (-1), 1) := by decide +kernel
theorem d_M_got_24 : decode M_M_got.2.1 24 = .ok (.ireturn, 1) := by decide +kernel
theorem d_M_in_0 : decode M_M_in.2.1 0 = .ok (.iload_n 0, 1) := by decide +kernel
theorem d_M_in_1 : decode M_M_in.2.1 1 = .ok (.iload_n 1, 1) := by decide +kernel
theorem d_M_in_2 : decode M_M_in.2.1 2 = .ok (.if_icmp .lt 12, 3) := by decide +kernel
theorem d_M_in_5 : decode M_M_in.2.1 5 = .ok (.iload_n 0, 1) := by decide +kernel
theorem d_M_in_6 : decode M_M_in.2.1 6 = .ok (.iload_n 2, 1) := by decide +kernel
theorem d_M_in_7 : decode M_M_in.2.1 7 = .ok (.if_icmp .gt 7, 3) := by decide +kernel
theorem d_M_in_10 : decode M_M_in.2.1 10 = .ok (.iconst 1, 1) := by decide +kernel
theorem d_M_in_11 : decode M_M_in.2.1 11 = .ok (.goto 4, 3) := by decide +kernel
theorem d_M_in_14 : decode M_M_in.2.1 14 = .ok (.iconst 0, 1) := by decide +kernel
theorem d_M_in_15 : decode M_M_in.2.1 15 = .ok (.ireturn, 1) := by decide +kernel
theorem d_M_init_0 : decode M_M_init.2.1 0 = .ok (.aload_n 0, 1) := by decide +kernel
theorem d_M_init_1 : decode M_M_init.2.1 1 = .ok (.invokespecial 1, 3) := by decide +kernel
theorem d_M_init_4 : decode M_M_init.2.1 4 = .ok (.aload_n 0, 1) := by decide +kernel
theorem d_M_init_5 : decode M_M_init.2.1 5 = .ok (.sipush 240, 3) := by decide +kernel
theorem d_M_init_8 : decode M_M_init.2.1 8 = .ok (.newarray .int, 2) := by decide +kernel
theorem d_M_init_10 : decode M_M_init.2.1 10 = .ok (.putfield 7, 3) := by decide +kernel
theorem d_M_init_13 : decode M_M_init.2.1 13 = .ok (.aload_n 0, 1) := by decide +kernel
theorem d_M_init_14 : decode M_M_init.2.1 14 = .ok (.iconst (-1), 1) := by decide +kernel
theorem d_M_init_15 : decode M_M_init.2.1 15 = .ok (.putfield 13, 3) := by decide +kernel
theorem d_M_init_18 : decode M_M_init.2.1 18 = .ok (.aload_n 0, 1) := by decide +kernel
theorem d_M_init_19 : decode M_M_init.2.1 19 = .ok (.bipush 12, 2) := by decide +kernel
theorem d_M_init_21 : decode M_M_init.2.1 21 = .ok (.newarray .boolean, 2) := by decide +kernel
theorem d_M_init_23 : decode M_M_init.2.1 23 = .ok (.putfield 17, 3) := by decide +kernel
theorem d_M_init_26 : decode M_M_init.2.1 26 = .ok (.aload_n 0, 1) := by decide +kernel
theorem d_M_init_27 : decode M_M_init.2.1 27 = .ok (.bipush 12, 2) := by decide +kernel
theorem d_M_init_29 : decode M_M_init.2.1 29 = .ok (.newarray .int, 2) := by decide +kernel
theorem d_M_init_31 : decode M_M_init.2.1 31 = .ok (.putfield 21, 3) := by decide +kernel
theorem d_M_init_34 : decode M_M_init.2.1 34 = .ok (.aload_n 0, 1) := by decide +kernel
theorem d_M_init_35 : decode M_M_init.2.1 35 = .ok (.sipush 480, 3) := by decide +kernel
theorem d_M_init_38 : decode M_M_init.2.1 38 = .ok (.newarray .boolean, 2) := by decide +kernel
theorem d_M_init_40 : decode M_M_init.2.1 40 = .ok (.putfield 24, 3) := by decide +kernel
theorem d_M_init_43 : decode M_M_init.2.1 43 = .ok (.aload_n 0, 1) := by decide +kernel
theorem d_M_init_44 : decode M_M_init.2.1 44 = .ok (.sipush 3840, 3) := by decide +kernel
theorem d_M_init_47 : decode M_M_init.2.1 47 = .ok (.newarray .int, 2) := by decide +kernel
theorem d_M_init_49 : decode M_M_init.2.1 49 = .ok (.putfield 27, 3) := by decide +kernel
theorem d_M_init_52 : decode M_M_init.2.1 52 = .ok (.aload_n 0, 1) := by decide +kernel
theorem d_M_init_53 : decode M_M_init.2.1 53 = .ok (.sipush 144, 3) := by decide +kernel
theorem d_M_init_56 : decode M_M_init.2.1 56 = .ok (.newarray .boolean, 2) := by decide +kernel
theorem d_M_init_58 : decode M_M_init.2.1 58 = .ok (.putfield 30, 3) := by decide +kernel
theorem d_M_init_61 : decode M_M_init.2.1 61 = .ok (.aload_n 0, 1) := by decide +kernel
theorem d_M_init_62 : decode M_M_init.2.1 62 = .ok (.sipush 144, 3) := by decide +kernel
theorem d_M_init_65 : decode M_M_init.2.1 65 = .ok (.newarray .int, 2) := by decide +kernel
theorem d_M_init_67 : decode M_M_init.2.1 67 = .ok (.putfield 33, 3) := by decide +kernel
theorem d_M_init_70 : decode M_M_init.2.1 70 = .ok (.aload_n 0, 1) := by decide +kernel
theorem d_M_init_71 : decode M_M_init.2.1 71 = .ok (.sipush 144, 3) := by decide +kernel
theorem d_M_init_74 : decode M_M_init.2.1 74 = .ok (.newarray .int, 2) := by decide +kernel
theorem d_M_init_76 : decode M_M_init.2.1 76 = .ok (.putfield 36, 3) := by decide +kernel
theorem d_M_init_79 : decode M_M_init.2.1 79 = .ok (.aload_n 0, 1) := by decide +kernel
theorem d_M_init_80 : decode M_M_init.2.1 80 = .ok (.sipush 1152, 3) := by decide +kernel
theorem d_M_init_83 : decode M_M_init.2.1 83 = .ok (.newarray .int, 2) := by decide +kernel
theorem d_M_init_85 : decode M_M_init.2.1 85 = .ok (.putfield 39, 3) := by decide +kernel
theorem d_M_init_88 : decode M_M_init.2.1 88 = .ok (.aload_n 0, 1) := by decide +kernel
theorem d_M_init_89 : decode M_M_init.2.1 89 = .ok (.bipush 6, 2) := by decide +kernel
theorem d_M_init_91 : decode M_M_init.2.1 91 = .ok (.newarray .int, 2) := by decide +kernel
theorem d_M_init_93 : decode M_M_init.2.1 93 = .ok (.putfield 42, 3) := by decide +kernel
theorem d_M_init_96 : decode M_M_init.2.1 96 = .ok (.aload_n 0, 1) := by decide +kernel
theorem d_M_init_97 : decode M_M_init.2.1 97 = .ok (.bipush 6, 2) := by decide +kernel
theorem d_M_init_99 : decode M_M_init.2.1 99 = .ok (.newarray .boolean, 2) := by decide +kernel
theorem d_M_init_101 : decode M_M_init.2.1 101 = .ok (.putfield 45, 3) := by decide +kernel
theorem d_M_init_104 : decode M_M_init.2.1 104 = .ok (.aload_n 0, 1) := by decide +kernel
theorem d_M_init_105 : decode M_M_init.2.1 105 = .ok (.sipush 240, 3) := by decide +kernel
theorem d_M_init_108 : decode M_M_init.2.1 108 = .ok (.newarray .int, 2) := by decide +kernel
theorem d_M_init_110 : decode M_M_init.2.1 110 = .ok (.putfield 48, 3) := by decide +kernel
theorem d_M_init_113 : decode M_M_init.2.1 113 = .ok (.aload_n 0, 1) := by decide +kernel
theorem d_M_init_114 : decode M_M_init.2.1 114 = .ok (.sipush 128, 3) := by decide +kernel
theorem d_M_init_117 : decode M_M_init.2.1 117 = .ok (.newarray .int, 2) := by decide +kernel
theorem d_M_init_119 : decode M_M_init.2.1 119 = .ok (.putfield 51, 3) := by decide +kernel
theorem d_M_init_122 : decode M_M_init.2.1 122 = .ok (.aload_n 0, 1) := by decide +kernel
theorem d_M_init_123 : decode M_M_init.2.1 123 = .ok (.bipush 8, 2) := by decide +kernel
theorem d_M_init_125 : decode M_M_init.2.1 125 = .ok (.newarray .int, 2) := by decide +kernel
theorem d_M_init_127 : decode M_M_init.2.1 127 = .ok (.putfield 54, 3) := by decide +kernel
theorem d_M_init_130 : decode M_M_init.2.1 130 = .ok (.aload_n 0, 1) := by decide +kernel
theorem d_M_init_131 : decode M_M_init.2.1 131 = .ok (.bipush 15, 2) := by decide +kernel
theorem d_M_init_133 : decode M_M_init.2.1 133 = .ok (.newarray .int, 2) := by decide +kernel
theorem d_M_init_135 : decode M_M_init.2.1 135 = .ok (.putfield 57, 3) := by decide +kernel
theorem d_M_init_138 : decode M_M_init.2.1 138 = .ok (.return_, 1) := by decide +kernel
theorem d_M_inverse_0 : decode M_M_inverse.2.1 0 = .ok (.iconst 1, 1) := by decide +kernel
theorem d_M_inverse_1 : decode M_M_inverse.2.1 1 = .ok (.istore_n 1, 1) := by decide +kernel
theorem d_M_inverse_2 : decode M_M_inverse.2.1 2 = .ok (.iconst 0, 1) := by decide +kernel
theorem d_M_inverse_3 : decode M_M_inverse.2.1 3 = .ok (.istore_n 2, 1) := by decide +kernel
theorem d_M_inverse_4 : decode M_M_inverse.2.1 4 = .ok (.iload_n 2, 1) := by decide +kernel
theorem d_M_inverse_5 : decode M_M_inverse.2.1 5 = .ok (.sipush 254, 3) := by decide +kernel
theorem d_M_inverse_8 : decode M_M_inverse.2.1 8 = .ok (.if_icmp .ge 15, 3) := by decide +kernel
theorem d_M_inverse_11 : decode M_M_inverse.2.1 11 = .ok (.iload_n 1, 1) := by decide +kernel
theorem d_M_inverse_12 : decode M_M_inverse.2.1 12 = .ok (.iload_n 0, 1) := by decide +kernel
theorem d_M_inverse_13 : decode M_M_inverse.2.1 13 = .ok (.invokestatic 64, 3) := by decide +kernel
theorem d_M_inverse_16 : decode M_M_inverse.2.1 16 = .ok (.istore_n 1, 1) := by decide +kernel
theorem d_M_inverse_17 : decode M_M_inverse.2.1 17 = .ok (.iinc 2 1, 3) := by decide +kernel
theorem d_M_inverse_20 : decode M_M_inverse.2.1 20 = .ok (.goto (-16), 3) := by decide +kernel
theorem d_M_inverse_23 : decode M_M_inverse.2.1 23 = .ok (.iload_n 1, 1) := by decide +kernel
theorem d_M_inverse_24 : decode M_M_inverse.2.1 24 = .ok (.ireturn, 1) := by decide +kernel
theorem d_M_isFresh_0 : decode M_M_isFresh.2.1 0 = .ok (.iload_n 1, 1) := by decide +kernel
theorem d_M_isFresh_1 : decode M_M_isFresh.2.1 1 = .ok (.iload_n 2, 1) := by decide +kernel
theorem d_M_isFresh_2 : decode M_M_isFresh.2.1 2 = .ok (.iconst 0, 1) := by decide +kernel
theorem d_M_isFresh_3 : decode M_M_isFresh.2.1 3 = .ok (.invokestatic 79, 3) := by decide +kernel
theorem d_M_isFresh_6 : decode M_M_isFresh.2.1 6 = .ok (.istore 4, 2) := by decide +kernel
theorem d_M_isFresh_8 : decode M_M_isFresh.2.1 8 = .ok (.iload_n 3, 1) := by decide +kernel
theorem d_M_isFresh_9 : decode M_M_isFresh.2.1 9 = .ok (.ifCond .le 37, 3) := by decide +kernel
theorem d_M_isFresh_12 : decode M_M_isFresh.2.1 12 = .ok (.aload_n 0, 1) := by decide +kernel
theorem d_M_isFresh_13 : decode M_M_isFresh.2.1 13 = .ok (.getfield 17, 3) := by decide +kernel
theorem d_M_isFresh_16 : decode M_M_isFresh.2.1 16 = .ok (.iload_n 1, 1) := by decide +kernel
theorem d_M_isFresh_17 : decode M_M_isFresh.2.1 17 = .ok (.baload, 1) := by decide +kernel
theorem d_M_isFresh_18 : decode M_M_isFresh.2.1 18 = .ok (.ifCond .ne 28, 3) := by decide +kernel
theorem d_M_isFresh_21 : decode M_M_isFresh.2.1 21 = .ok (.aload_n 0, 1) := by decide +kernel
theorem d_M_isFresh_22 : decode M_M_isFresh.2.1 22 = .ok (.getfield 30, 3) := by decide +kernel
theorem d_M_isFresh_25 : decode M_M_isFresh.2.1 25 = .ok (.iload 4, 2) := by decide +kernel
theorem d_M_isFresh_27 : decode M_M_isFresh.2.1 27 = .ok (.baload, 1) := by decide +kernel
theorem d_M_isFresh_28 : decode M_M_isFresh.2.1 28 = .ok (.ifCond .eq 18, 3) := by decide +kernel
theorem d_M_isFresh_31 : decode M_M_isFresh.2.1 31 = .ok (.aload_n 0, 1) := by decide +kernel
theorem d_M_isFresh_32 : decode M_M_isFresh.2.1 32 = .ok (.getfield 33, 3) := by decide +kernel
theorem d_M_isFresh_35 : decode M_M_isFresh.2.1 35 = .ok (.iload 4, 2) := by decide +kernel
theorem d_M_isFresh_37 : decode M_M_isFresh.2.1 37 = .ok (.iaload, 1) := by decide +kernel
theorem d_M_isFresh_38 : decode M_M_isFresh.2.1 38 = .ok (.iload_n 3, 1) := by decide +kernel
theorem d_M_isFresh_39 : decode M_M_isFresh.2.1 39 = .ok (.if_icmp .ne 7, 3) := by decide +kernel
theorem d_M_isFresh_42 : decode M_M_isFresh.2.1 42 = .ok (.iconst 1, 1) := by decide +kernel
theorem d_M_isFresh_43 : decode M_M_isFresh.2.1 43 = .ok (.goto 4, 3) := by decide +kernel
theorem d_M_isFresh_46 : decode M_M_isFresh.2.1 46 = .ok (.iconst 0, 1) := by decide +kernel
theorem d_M_isFresh_47 : decode M_M_isFresh.2.1 47 = .ok (.ireturn, 1) := by decide +kernel
theorem d_M_isNode_0 : decode M_M_isNode.2.1 0 = .ok (.iload_n 0, 1) := by decide +kernel
theorem d_M_isNode_1 : decode M_M_isNode.2.1 1 = .ok (.iconst 0, 1) := by decide +kernel
theorem d_M_isNode_2 : decode M_M_isNode.2.1 2 = .ok (.bipush 11, 2) := by decide +kernel
theorem d_M_isNode_4 : decode M_M_isNode.2.1 4 = .ok (.invokestatic 60, 3) := by decide +kernel
theorem d_M_isNode_7 : decode M_M_isNode.2.1 7 = .ok (.ireturn, 1) := by decide +kernel
theorem d_M_isObject_0 : decode M_M_isObject.2.1 0 = .ok (.iload_n 0, 1) := by decide +kernel
theorem d_M_isObject_1 : decode M_M_isObject.2.1 1 = .ok (.iconst 0, 1) := by decide +kernel
theorem d_M_isObject_2 : decode M_M_isObject.2.1 2 = .ok (.iconst 5, 1) := by decide +kernel
theorem d_M_isObject_3 : decode M_M_isObject.2.1 3 = .ok (.invokestatic 60, 3) := by decide +kernel
theorem d_M_isObject_6 : decode M_M_isObject.2.1 6 = .ok (.ireturn, 1) := by decide +kernel
theorem d_M_leastFree_0 : decode M_M_leastFree.2.1 0 = .ok (.iconst 0, 1) := by decide +kernel
theorem d_M_leastFree_1 : decode M_M_leastFree.2.1 1 = .ok (.istore_n 2, 1) := by decide +kernel
theorem d_M_leastFree_2 : decode M_M_leastFree.2.1 2 = .ok (.aload_n 0, 1) := by decide +kernel
theorem d_M_leastFree_3 : decode M_M_leastFree.2.1 3 = .ok (.getfield 24, 3) := by decide +kernel
theorem d_M_leastFree_6 : decode M_M_leastFree.2.1 6 = .ok (.bipush 40, 2) := by decide +kernel
theorem d_M_leastFree_8 : decode M_M_leastFree.2.1 8 = .ok (.iload_n 1, 1) := by decide +kernel
theorem d_M_leastFree_9 : decode M_M_leastFree.2.1 9 = .ok (.imul, 1) := by decide +kernel
theorem d_M_leastFree_10 : decode M_M_leastFree.2.1 10 = .ok (.iload_n 2, 1) := by decide +kernel
theorem d_M_leastFree_11 : decode M_M_leastFree.2.1 11 = .ok (.iadd, 1) := by decide +kernel
theorem d_M_leastFree_12 : decode M_M_leastFree.2.1 12 = .ok (.baload, 1) := by decide +kernel
theorem d_M_leastFree_13 : decode M_M_leastFree.2.1 13 = .ok (.ifCond .eq 9, 3) := by decide +kernel
theorem d_M_leastFree_16 : decode M_M_leastFree.2.1 16 = .ok (.iinc 2 1, 3) := by decide +kernel
theorem d_M_leastFree_19 : decode M_M_leastFree.2.1 19 = .ok (.goto (-17), 3) := by decide +kernel
theorem d_M_leastFree_22 : decode M_M_leastFree.2.1 22 = .ok (.iload_n 2, 1) := by decide +kernel
theorem d_M_leastFree_23 : decode M_M_leastFree.2.1 23 = .ok (.ireturn, 1) := by decide +kernel
theorem d_M_live_0 : decode M_M_live.2.1 0 = .ok (.iconst 0, 1) := by decide +kernel
theorem d_M_live_1 : decode M_M_live.2.1 1 = .ok (.istore_n 1, 1) := by decide +kernel
theorem d_M_live_2 : decode M_M_live.2.1 2 = .ok (.iconst 0, 1) := by decide +kernel
theorem d_M_live_3 : decode M_M_live.2.1 3 = .ok (.istore_n 2, 1) := by decide +kernel
theorem d_M_live_4 : decode M_M_live.2.1 4 = .ok (.iload_n 2, 1) := by decide +kernel
theorem d_M_live_5 : decode M_M_live.2.1 5 = .ok (.bipush 12, 2) := by decide +kernel
theorem d_M_live_7 : decode M_M_live.2.1 7 = .ok (.if_icmp .ge 26, 3) := by decide +kernel
theorem d_M_live_10 : decode M_M_live.2.1 10 = .ok (.iload_n 1, 1) := by decide +kernel
theorem d_M_live_11 : decode M_M_live.2.1 11 = .ok (.aload_n 0, 1) := by decide +kernel
theorem d_M_live_12 : decode M_M_live.2.1 12 = .ok (.getfield 17, 3) := by decide +kernel
theorem d_M_live_15 : decode M_M_live.2.1 15 = .ok (.iload_n 2, 1) := by decide +kernel
theorem d_M_live_16 : decode M_M_live.2.1 16 = .ok (.baload, 1) := by decide +kernel
theorem d_M_live_17 : decode M_M_live.2.1 17 = .ok (.ifCond .eq 7, 3) := by decide +kernel
theorem d_M_live_20 : decode M_M_live.2.1 20 = .ok (.iconst 0, 1) := by decide +kernel
theorem d_M_live_21 : decode M_M_live.2.1 21 = .ok (.goto 4, 3) := by decide +kernel
theorem d_M_live_24 : decode M_M_live.2.1 24 = .ok (.iconst 1, 1) := by decide +kernel
theorem d_M_live_25 : decode M_M_live.2.1 25 = .ok (.iadd, 1) := by decide +kernel
theorem d_M_live_26 : decode M_M_live.2.1 26 = .ok (.istore_n 1, 1) := by decide +kernel
theorem d_M_live_27 : decode M_M_live.2.1 27 = .ok (.iinc 2 1, 3) := by decide +kernel
theorem d_M_live_30 : decode M_M_live.2.1 30 = .ok (.goto (-26), 3) := by decide +kernel
theorem d_M_live_33 : decode M_M_live.2.1 33 = .ok (.iload_n 1, 1) := by decide +kernel
theorem d_M_live_34 : decode M_M_live.2.1 34 = .ok (.ireturn, 1) := by decide +kernel
theorem d_M_matrix_0 : decode M_M_matrix.2.1 0 = .ok (.iload_n 2, 1) := by decide +kernel
theorem d_M_matrix_1 : decode M_M_matrix.2.1 1 = .ok (.iload_n 3, 1) := by decide +kernel
theorem d_M_matrix_2 : decode M_M_matrix.2.1 2 = .ok (.if_icmp .ge 7, 3) := by decide +kernel
theorem d_M_matrix_5 : decode M_M_matrix.2.1 5 = .ok (.iload_n 2, 1) := by decide +kernel
theorem d_M_matrix_6 : decode M_M_matrix.2.1 6 = .ok (.goto 4, 3) := by decide +kernel
theorem d_M_matrix_9 : decode M_M_matrix.2.1 9 = .ok (.iload_n 3, 1) := by decide +kernel
theorem d_M_matrix_10 : decode M_M_matrix.2.1 10 = .ok (.istore 4, 2) := by decide +kernel
theorem d_M_matrix_12 : decode M_M_matrix.2.1 12 = .ok (.iload_n 2, 1) := by decide +kernel
theorem d_M_matrix_13 : decode M_M_matrix.2.1 13 = .ok (.iload_n 3, 1) := by decide +kernel
theorem d_M_matrix_14 : decode M_M_matrix.2.1 14 = .ok (.if_icmp .ge 7, 3) := by decide +kernel
theorem d_M_matrix_17 : decode M_M_matrix.2.1 17 = .ok (.iload_n 3, 1) := by decide +kernel
theorem d_M_matrix_18 : decode M_M_matrix.2.1 18 = .ok (.goto 4, 3) := by decide +kernel
theorem d_M_matrix_21 : decode M_M_matrix.2.1 21 = .ok (.iload_n 2, 1) := by decide +kernel
theorem d_M_matrix_22 : decode M_M_matrix.2.1 22 = .ok (.istore 5, 2) := by decide +kernel
theorem d_M_matrix_24 : decode M_M_matrix.2.1 24 = .ok (.iload 4, 2) := by decide +kernel
theorem d_M_matrix_26 : decode M_M_matrix.2.1 26 = .ok (.iconst 4, 1) := by decide +kernel
theorem d_M_matrix_27 : decode M_M_matrix.2.1 27 = .ok (.if_icmp .le 5, 3) := by decide +kernel
theorem d_M_matrix_30 : decode M_M_matrix.2.1 30 = .ok (.iconst 0, 1) := by decide +kernel
theorem d_M_matrix_31 : decode M_M_matrix.2.1 31 = .ok (.ireturn, 1) := by decide +kernel
theorem d_M_matrix_32 : decode M_M_matrix.2.1 32 = .ok (.iload 5, 2) := by decide +kernel
theorem d_M_matrix_34 : decode M_M_matrix.2.1 34 = .ok (.iconst 5, 1) := by decide +kernel
theorem d_M_matrix_35 : decode M_M_matrix.2.1 35 = .ok (.if_icmp .ge 26, 3) := by decide +kernel
theorem d_M_matrix_38 : decode M_M_matrix.2.1 38 = .ok (.iconst 5, 1) := by decide +kernel
theorem d_M_matrix_39 : decode M_M_matrix.2.1 39 = .ok (.iload 4, 2) := by decide +kernel
theorem d_M_matrix_41 : decode M_M_matrix.2.1 41 = .ok (.imul, 1) := by decide +kernel
theorem d_M_matrix_42 : decode M_M_matrix.2.1 42 = .ok (.iload 4, 2) := by decide +kernel
theorem d_M_matrix_44 : decode M_M_matrix.2.1 44 = .ok (.iload 4, 2) := by decide +kernel
theorem d_M_matrix_46 : decode M_M_matrix.2.1 46 = .ok (.iconst 1, 1) := by decide +kernel
theorem d_M_matrix_47 : decode M_M_matrix.2.1 47 = .ok (.isub, 1) := by decide +kernel
theorem d_M_matrix_48 : decode M_M_matrix.2.1 48 = .ok (.imul, 1) := by decide +kernel
theorem d_M_matrix_49 : decode M_M_matrix.2.1 49 = .ok (.iconst 2, 1) := by decide +kernel
theorem d_M_matrix_50 : decode M_M_matrix.2.1 50 = .ok (.idiv, 1) := by decide +kernel
theorem d_M_matrix_51 : decode M_M_matrix.2.1 51 = .ok (.isub, 1) := by decide +kernel
theorem d_M_matrix_52 : decode M_M_matrix.2.1 52 = .ok (.iload 5, 2) := by decide +kernel
theorem d_M_matrix_54 : decode M_M_matrix.2.1 54 = .ok (.iadd, 1) := by decide +kernel
theorem d_M_matrix_55 : decode M_M_matrix.2.1 55 = .ok (.iload 4, 2) := by decide +kernel
theorem d_M_matrix_57 : decode M_M_matrix.2.1 57 = .ok (.isub, 1) := by decide +kernel
theorem d_M_matrix_58 : decode M_M_matrix.2.1 58 = .ok (.goto 15, 3) := by decide +kernel
theorem d_M_matrix_61 : decode M_M_matrix.2.1 61 = .ok (.bipush 15, 2) := by decide +kernel
theorem d_M_matrix_63 : decode M_M_matrix.2.1 63 = .ok (.iconst 3, 1) := by decide +kernel
theorem d_M_matrix_64 : decode M_M_matrix.2.1 64 = .ok (.iload 4, 2) := by decide +kernel
theorem d_M_matrix_66 : decode M_M_matrix.2.1 66 = .ok (.imul, 1) := by decide +kernel
theorem d_M_matrix_67 : decode M_M_matrix.2.1 67 = .ok (.iadd, 1) := by decide +kernel
theorem d_M_matrix_68 : decode M_M_matrix.2.1 68 = .ok (.iload 5, 2) := by decide +kernel
theorem d_M_matrix_70 : decode M_M_matrix.2.1 70 = .ok (.iadd, 1) := by decide +kernel
theorem d_M_matrix_71 : decode M_M_matrix.2.1 71 = .ok (.iconst 5, 1) := by decide +kernel
theorem d_M_matrix_72 : decode M_M_matrix.2.1 72 = .ok (.isub, 1) := by decide +kernel
theorem d_M_matrix_73 : decode M_M_matrix.2.1 73 = .ok (.istore 6, 2) := by decide +kernel
theorem d_M_matrix_75 : decode M_M_matrix.2.1 75 = .ok (.bipush 30, 2) := by decide +kernel
theorem d_M_matrix_77 : decode M_M_matrix.2.1 77 = .ok (.iload_n 1, 1) := by decide +kernel
theorem d_M_matrix_78 : decode M_M_matrix.2.1 78 = .ok (.imul, 1) := by decide +kernel
theorem d_M_matrix_79 : decode M_M_matrix.2.1 79 = .ok (.iload 6, 2) := by decide +kernel
theorem d_M_matrix_81 : decode M_M_matrix.2.1 81 = .ok (.iadd, 1) := by decide +kernel
theorem d_M_matrix_82 : decode M_M_matrix.2.1 82 = .ok (.istore 7, 2) := by decide +kernel
theorem d_M_matrix_84 : decode M_M_matrix.2.1 84 = .ok (.iload 7, 2) := by decide +kernel
theorem d_M_matrix_86 : decode M_M_matrix.2.1 86 = .ok (.aload_n 0, 1) := by decide +kernel
theorem d_M_matrix_87 : decode M_M_matrix.2.1 87 = .ok (.getfield 96, 3) := by decide +kernel
theorem d_M_matrix_90 : decode M_M_matrix.2.1 90 = .ok (.if_icmp .ge 13, 3) := by decide +kernel
theorem d_M_matrix_93 : decode M_M_matrix.2.1 93 = .ok (.aload_n 0, 1) := by decide +kernel
theorem d_M_matrix_94 : decode M_M_matrix.2.1 94 = .ok (.getfield 7, 3) := by decide +kernel
theorem d_M_matrix_97 : decode M_M_matrix.2.1 97 = .ok (.iload 7, 2) := by decide +kernel
theorem d_M_matrix_99 : decode M_M_matrix.2.1 99 = .ok (.iaload, 1) := by decide +kernel
theorem d_M_matrix_100 : decode M_M_matrix.2.1 100 = .ok (.goto 4, 3) := by decide +kernel
theorem d_M_matrix_103 : decode M_M_matrix.2.1 103 = .ok (.iconst 0, 1) := by decide +kernel
theorem d_M_matrix_104 : decode M_M_matrix.2.1 104 = .ok (.ireturn, 1) := by decide +kernel
theorem d_M_newest_0 : decode M_M_newest.2.1 0 = .ok (.iconst 0, 1) := by decide +kernel
theorem d_M_newest_1 : decode M_M_newest.2.1 1 = .ok (.istore_n 2, 1) := by decide +kernel
theorem d_M_newest_2 : decode M_M_newest.2.1 2 = .ok (.iconst 0, 1) := by decide +kernel
theorem d_M_newest_3 : decode M_M_newest.2.1 3 = .ok (.istore_n 3, 1) := by decide +kernel
theorem d_M_newest_4 : decode M_M_newest.2.1 4 = .ok (.iload_n 3, 1) := by decide +kernel
theorem d_M_newest_5 : decode M_M_newest.2.1 5 = .ok (.bipush 12, 2) := by decide +kernel
theorem d_M_newest_7 : decode M_M_newest.2.1 7 = .ok (.if_icmp .ge 140, 3) := by decide +kernel
theorem d_M_newest_10 : decode M_M_newest.2.1 10 = .ok (.iload_n 3, 1) := by decide +kernel
theorem d_M_newest_11 : decode M_M_newest.2.1 11 = .ok (.iload_n 1, 1) := by decide +kernel
theorem d_M_newest_12 : decode M_M_newest.2.1 12 = .ok (.iconst 0, 1) := by decide +kernel
theorem d_M_newest_13 : decode M_M_newest.2.1 13 = .ok (.invokestatic 79, 3) := by decide +kernel
theorem d_M_newest_16 : decode M_M_newest.2.1 16 = .ok (.istore 4, 2) := by decide +kernel
theorem d_M_newest_18 : decode M_M_newest.2.1 18 = .ok (.aload_n 0, 1) := by decide +kernel
theorem d_M_newest_19 : decode M_M_newest.2.1 19 = .ok (.getfield 17, 3) := by decide +kernel
theorem d_M_newest_22 : decode M_M_newest.2.1 22 = .ok (.iload_n 3, 1) := by decide +kernel
theorem d_M_newest_23 : decode M_M_newest.2.1 23 = .ok (.baload, 1) := by decide +kernel
theorem d_M_newest_24 : decode M_M_newest.2.1 24 = .ok (.ifCond .ne 117, 3) := by decide +kernel
theorem d_M_newest_27 : decode M_M_newest.2.1 27 = .ok (.aload_n 0, 1) := by decide +kernel
theorem d_M_newest_28 : decode M_M_newest.2.1 28 = .ok (.getfield 30, 3) := by decide +kernel
theorem d_M_newest_31 : decode M_M_newest.2.1 31 = .ok (.iload 4, 2) := by decide +kernel
theorem d_M_newest_33 : decode M_M_newest.2.1 33 = .ok (.baload, 1) := by decide +kernel
theorem d_M_newest_34 : decode M_M_newest.2.1 34 = .ok (.ifCond .eq 107, 3) := by decide +kernel
theorem d_M_newest_37 : decode M_M_newest.2.1 37 = .ok (.aload_n 0, 1) := by decide +kernel
theorem d_M_newest_38 : decode M_M_newest.2.1 38 = .ok (.getfield 33, 3) := by decide +kernel
theorem d_M_newest_41 : decode M_M_newest.2.1 41 = .ok (.iload 4, 2) := by decide +kernel
theorem d_M_newest_43 : decode M_M_newest.2.1 43 = .ok (.iaload, 1) := by decide +kernel
theorem d_M_newest_44 : decode M_M_newest.2.1 44 = .ok (.iload_n 2, 1) := by decide +kernel
theorem d_M_newest_45 : decode M_M_newest.2.1 45 = .ok (.if_icmp .le 96, 3) := by decide +kernel
theorem d_M_newest_48 : decode M_M_newest.2.1 48 = .ok (.iconst 0, 1) := by decide +kernel
theorem d_M_newest_49 : decode M_M_newest.2.1 49 = .ok (.istore 5, 2) := by decide +kernel
theorem d_M_newest_51 : decode M_M_newest.2.1 51 = .ok (.iconst 0, 1) := by decide +kernel
theorem d_M_newest_52 : decode M_M_newest.2.1 52 = .ok (.istore 6, 2) := by decide +kernel
theorem d_M_newest_54 : decode M_M_newest.2.1 54 = .ok (.iload 6, 2) := by decide +kernel
theorem d_M_newest_56 : decode M_M_newest.2.1 56 = .ok (.bipush 12, 2) := by decide +kernel
theorem d_M_newest_58 : decode M_M_newest.2.1 58 = .ok (.if_icmp .ge 65, 3) := by decide +kernel
theorem d_M_newest_61 : decode M_M_newest.2.1 61 = .ok (.iload 6, 2) := by decide +kernel
theorem d_M_newest_63 : decode M_M_newest.2.1 63 = .ok (.iload_n 1, 1) := by decide +kernel
theorem d_M_newest_64 : decode M_M_newest.2.1 64 = .ok (.iconst 0, 1) := by decide +kernel
theorem d_M_newest_65 : decode M_M_newest.2.1 65 = .ok (.invokestatic 79, 3) := by decide +kernel
theorem d_M_newest_68 : decode M_M_newest.2.1 68 = .ok (.istore 7, 2) := by decide +kernel
theorem d_M_newest_70 : decode M_M_newest.2.1 70 = .ok (.iload 5, 2) := by decide +kernel
theorem d_M_newest_72 : decode M_M_newest.2.1 72 = .ok (.aload_n 0, 1) := by decide +kernel
theorem d_M_newest_73 : decode M_M_newest.2.1 73 = .ok (.getfield 17, 3) := by decide +kernel
theorem d_M_newest_76 : decode M_M_newest.2.1 76 = .ok (.iload 6, 2) := by decide +kernel
theorem d_M_newest_78 : decode M_M_newest.2.1 78 = .ok (.baload, 1) := by decide +kernel
theorem d_M_newest_79 : decode M_M_newest.2.1 79 = .ok (.ifCond .ne 34, 3) := by decide +kernel
theorem d_M_newest_82 : decode M_M_newest.2.1 82 = .ok (.aload_n 0, 1) := by decide +kernel
theorem d_M_newest_83 : decode M_M_newest.2.1 83 = .ok (.getfield 30, 3) := by decide +kernel
theorem d_M_newest_86 : decode M_M_newest.2.1 86 = .ok (.iload 7, 2) := by decide +kernel
theorem d_M_newest_88 : decode M_M_newest.2.1 88 = .ok (.baload, 1) := by decide +kernel
theorem d_M_newest_89 : decode M_M_newest.2.1 89 = .ok (.ifCond .eq 24, 3) := by decide +kernel
theorem d_M_newest_92 : decode M_M_newest.2.1 92 = .ok (.aload_n 0, 1) := by decide +kernel
theorem d_M_newest_93 : decode M_M_newest.2.1 93 = .ok (.getfield 33, 3) := by decide +kernel
theorem d_M_newest_96 : decode M_M_newest.2.1 96 = .ok (.iload 7, 2) := by decide +kernel
theorem d_M_newest_98 : decode M_M_newest.2.1 98 = .ok (.iaload, 1) := by decide +kernel
theorem d_M_newest_99 : decode M_M_newest.2.1 99 = .ok (.aload_n 0, 1) := by decide +kernel
theorem d_M_newest_100 : decode M_M_newest.2.1 100 = .ok (.getfield 33, 3) := by decide +kernel
theorem d_M_newest_103 : decode M_M_newest.2.1 103 = .ok (.iload 4, 2) := by decide +kernel
theorem d_M_newest_105 : decode M_M_newest.2.1 105 = .ok (.iaload, 1) := by decide +kernel
theorem d_M_newest_106 : decode M_M_newest.2.1 106 = .ok (.if_icmp .ne 7, 3) := by decide +kernel
theorem d_M_newest_109 : decode M_M_newest.2.1 109 = .ok (.iconst 1, 1) := by decide +kernel
theorem d_M_newest_110 : decode M_M_newest.2.1 110 = .ok (.goto 4, 3) := by decide +kernel
theorem d_M_newest_113 : decode M_M_newest.2.1 113 = .ok (.iconst 0, 1) := by decide +kernel
theorem d_M_newest_114 : decode M_M_newest.2.1 114 = .ok (.iadd, 1) := by decide +kernel
theorem d_M_newest_115 : decode M_M_newest.2.1 115 = .ok (.istore 5, 2) := by decide +kernel
theorem d_M_newest_117 : decode M_M_newest.2.1 117 = .ok (.iinc 6 1, 3) := by decide +kernel
theorem d_M_newest_120 : decode M_M_newest.2.1 120 = .ok (.goto (-66), 3) := by decide +kernel
theorem d_M_newest_123 : decode M_M_newest.2.1 123 = .ok (.iload 5, 2) := by decide +kernel
theorem d_M_newest_125 : decode M_M_newest.2.1 125 = .ok (.iconst 5, 1) := by decide +kernel
theorem d_M_newest_126 : decode M_M_newest.2.1 126 = .ok (.if_icmp .lt 13, 3) := by decide +kernel
theorem d_M_newest_129 : decode M_M_newest.2.1 129 = .ok (.aload_n 0, 1) := by decide +kernel
theorem d_M_newest_130 : decode M_M_newest.2.1 130 = .ok (.getfield 33, 3) := by decide +kernel
theorem d_M_newest_133 : decode M_M_newest.2.1 133 = .ok (.iload 4, 2) := by decide +kernel
theorem d_M_newest_135 : decode M_M_newest.2.1 135 = .ok (.iaload, 1) := by decide +kernel
theorem d_M_newest_136 : decode M_M_newest.2.1 136 = .ok (.goto 4, 3) := by decide +kernel
theorem d_M_newest_139 : decode M_M_newest.2.1 139 = .ok (.iload_n 2, 1) := by decide +kernel
theorem d_M_newest_140 : decode M_M_newest.2.1 140 = .ok (.istore_n 2, 1) := by decide +kernel
theorem d_M_newest_141 : decode M_M_newest.2.1 141 = .ok (.iinc 3 1, 3) := by decide +kernel
theorem d_M_newest_144 : decode M_M_newest.2.1 144 = .ok (.goto (-140), 3) := by decide +kernel
theorem d_M_newest_147 : decode M_M_newest.2.1 147 = .ok (.iload_n 2, 1) := by decide +kernel
theorem d_M_newest_148 : decode M_M_newest.2.1 148 = .ok (.ireturn, 1) := by decide +kernel
theorem d_M_open_0 : decode M_M_open.2.1 0 = .ok (.iload_n 1, 1) := by decide +kernel
theorem d_M_open_1 : decode M_M_open.2.1 1 = .ok (.invokestatic 125, 3) := by decide +kernel
theorem d_M_open_4 : decode M_M_open.2.1 4 = .ok (.ifCond .ne 8, 3) := by decide +kernel
theorem d_M_open_7 : decode M_M_open.2.1 7 = .ok (.bipush (-2), 2) := by decide +kernel
theorem d_M_open_9 : decode M_M_open.2.1 9 = .ok (.goto 17, 3) := by decide +kernel
theorem d_M_open_12 : decode M_M_open.2.1 12 = .ok (.aload_n 0, 1) := by decide +kernel
theorem d_M_open_13 : decode M_M_open.2.1 13 = .ok (.getfield 45, 3) := by decide +kernel
theorem d_M_open_16 : decode M_M_open.2.1 16 = .ok (.iload_n 1, 1) := by decide +kernel
theorem d_M_open_17 : decode M_M_open.2.1 17 = .ok (.baload, 1) := by decide +kernel
theorem d_M_open_18 : decode M_M_open.2.1 18 = .ok (.ifCond .eq 7, 3) := by decide +kernel
theorem d_M_open_21 : decode M_M_open.2.1 21 = .ok (.iconst 1, 1) := by decide +kernel
theorem d_M_open_22 : decode M_M_open.2.1 22 = .ok (.goto 4, 3) := by decide +kernel
theorem d_M_open_25 : decode M_M_open.2.1 25 = .ok (.iconst 0, 1) := by decide +kernel
theorem d_M_open_26 : decode M_M_open.2.1 26 = .ok (.ireturn, 1) := by decide +kernel
theorem d_M_over_0 : decode M_M_over.2.1 0 = .ok (.iload_n 1, 1) := by decide +kernel
theorem d_M_over_1 : decode M_M_over.2.1 1 = .ok (.iconst 0, 1) := by decide +kernel
theorem d_M_over_2 : decode M_M_over.2.1 2 = .ok (.sipush 255, 3) := by decide +kernel
theorem d_M_over_5 : decode M_M_over.2.1 5 = .ok (.invokestatic 60, 3) := by decide +kernel
theorem d_M_over_8 : decode M_M_over.2.1 8 = .ok (.ifCond .eq 14, 3) := by decide +kernel
theorem d_M_over_11 : decode M_M_over.2.1 11 = .ok (.iload_n 2, 1) := by decide +kernel
theorem d_M_over_12 : decode M_M_over.2.1 12 = .ok (.iconst 0, 1) := by decide +kernel
theorem d_M_over_13 : decode M_M_over.2.1 13 = .ok (.sipush 255, 3) := by decide +kernel
theorem d_M_over_16 : decode M_M_over.2.1 16 = .ok (.invokestatic 60, 3) := by decide +kernel
theorem d_M_over_19 : decode M_M_over.2.1 19 = .ok (.ifCond .ne 8, 3) := by decide +kernel
theorem d_M_over_22 : decode M_M_over.2.1 22 = .ok (.bipush (-2), 2) := by decide +kernel
theorem d_M_over_24 : decode M_M_over.2.1 24 = .ok (.goto 20, 3) := by decide +kernel
theorem d_M_over_27 : decode M_M_over.2.1 27 = .ok (.iload_n 2, 1) := by decide +kernel
theorem d_M_over_28 : decode M_M_over.2.1 28 = .ok (.ifCond .ne 8, 3) := by decide +kernel
theorem d_M_over_31 : decode M_M_over.2.1 31 = .ok (.bipush (-7), 2) := by decide +kernel
theorem d_M_over_33 : decode M_M_over.2.1 33 = .ok (.goto 11, 3) := by decide +kernel
theorem d_M_over_36 : decode M_M_over.2.1 36 = .ok (.iload_n 1, 1) := by decide +kernel
theorem d_M_over_37 : decode M_M_over.2.1 37 = .ok (.iload_n 2, 1) := by decide +kernel
theorem d_M_over_38 : decode M_M_over.2.1 38 = .ok (.invokestatic 68, 3) := by decide +kernel
theorem d_M_over_41 : decode M_M_over.2.1 41 = .ok (.invokestatic 64, 3) := by decide +kernel
theorem d_M_over_44 : decode M_M_over.2.1 44 = .ok (.ireturn, 1) := by decide +kernel
theorem d_M_product_0 : decode M_M_product.2.1 0 = .ok (.iconst 0, 1) := by decide +kernel
theorem d_M_product_1 : decode M_M_product.2.1 1 = .ok (.istore_n 2, 1) := by decide +kernel
theorem d_M_product_2 : decode M_M_product.2.1 2 = .ok (.iload_n 0, 1) := by decide +kernel
theorem d_M_product_3 : decode M_M_product.2.1 3 = .ok (.istore_n 3, 1) := by decide +kernel
theorem d_M_product_4 : decode M_M_product.2.1 4 = .ok (.iconst 0, 1) := by decide +kernel
theorem d_M_product_5 : decode M_M_product.2.1 5 = .ok (.istore 4, 2) := by decide +kernel
theorem d_M_product_7 : decode M_M_product.2.1 7 = .ok (.iload 4, 2) := by decide +kernel
theorem d_M_product_9 : decode M_M_product.2.1 9 = .ok (.bipush 8, 2) := by decide +kernel
theorem d_M_product_11 : decode M_M_product.2.1 11 = .ok (.if_icmp .ge 45, 3) := by decide +kernel
theorem d_M_product_14 : decode M_M_product.2.1 14 = .ok (.iload_n 2, 1) := by decide +kernel
theorem d_M_product_15 : decode M_M_product.2.1 15 = .ok (.iload_n 1, 1) := by decide +kernel
theorem d_M_product_16 : decode M_M_product.2.1 16 = .ok (.iload 4, 2) := by decide +kernel
theorem d_M_product_18 : decode M_M_product.2.1 18 = .ok (.ishr, 1) := by decide +kernel
theorem d_M_product_19 : decode M_M_product.2.1 19 = .ok (.iconst 1, 1) := by decide +kernel
theorem d_M_product_20 : decode M_M_product.2.1 20 = .ok (.iand, 1) := by decide +kernel
theorem d_M_product_21 : decode M_M_product.2.1 21 = .ok (.iconst 1, 1) := by decide +kernel
theorem d_M_product_22 : decode M_M_product.2.1 22 = .ok (.if_icmp .ne 7, 3) := by decide +kernel
theorem d_M_product_25 : decode M_M_product.2.1 25 = .ok (.iload_n 3, 1) := by decide +kernel
theorem d_M_product_26 : decode M_M_product.2.1 26 = .ok (.goto 4, 3) := by decide +kernel
theorem d_M_product_29 : decode M_M_product.2.1 29 = .ok (.iconst 0, 1) := by decide +kernel
theorem d_M_product_30 : decode M_M_product.2.1 30 = .ok (.ixor, 1) := by decide +kernel
theorem d_M_product_31 : decode M_M_product.2.1 31 = .ok (.istore_n 2, 1) := by decide +kernel
theorem d_M_product_32 : decode M_M_product.2.1 32 = .ok (.iload_n 3, 1) := by decide +kernel
theorem d_M_product_33 : decode M_M_product.2.1 33 = .ok (.iconst 1, 1) := by decide +kernel
theorem d_M_product_34 : decode M_M_product.2.1 34 = .ok (.ishl, 1) := by decide +kernel
theorem d_M_product_35 : decode M_M_product.2.1 35 = .ok (.iload_n 3, 1) := by decide +kernel
theorem d_M_product_36 : decode M_M_product.2.1 36 = .ok (.bipush 127, 2) := by decide +kernel
theorem d_M_product_38 : decode M_M_product.2.1 38 = .ok (.if_icmp .le 9, 3) := by decide +kernel
theorem d_M_product_41 : decode M_M_product.2.1 41 = .ok (.sipush 285, 3) := by decide +kernel
theorem d_M_product_44 : decode M_M_product.2.1 44 = .ok (.goto 4, 3) := by decide +kernel
theorem d_M_product_47 : decode M_M_product.2.1 47 = .ok (.iconst 0, 1) := by decide +kernel
theorem d_M_product_48 : decode M_M_product.2.1 48 = .ok (.ixor, 1) := by decide +kernel
theorem d_M_product_49 : decode M_M_product.2.1 49 = .ok (.istore_n 3, 1) := by decide +kernel
theorem d_M_product_50 : decode M_M_product.2.1 50 = .ok (.iinc 4 1, 3) := by decide +kernel
theorem d_M_product_53 : decode M_M_product.2.1 53 = .ok (.goto (-46), 3) := by decide +kernel
theorem d_M_product_56 : decode M_M_product.2.1 56 = .ok (.iload_n 2, 1) := by decide +kernel
theorem d_M_product_57 : decode M_M_product.2.1 57 = .ok (.ireturn, 1) := by decide +kernel
theorem d_M_put_0 : decode M_M_put.2.1 0 = .ok (.aload_n 0, 1) := by decide +kernel
theorem d_M_put_1 : decode M_M_put.2.1 1 = .ok (.iload_n 1, 1) := by decide +kernel
theorem d_M_put_2 : decode M_M_put.2.1 2 = .ok (.invokevirtual 128, 3) := by decide +kernel
theorem d_M_put_5 : decode M_M_put.2.1 5 = .ok (.istore_n 2, 1) := by decide +kernel
theorem d_M_put_6 : decode M_M_put.2.1 6 = .ok (.iload_n 2, 1) := by decide +kernel
theorem d_M_put_7 : decode M_M_put.2.1 7 = .ok (.ifCond .eq 5, 3) := by decide +kernel
theorem d_M_put_10 : decode M_M_put.2.1 10 = .ok (.iload_n 2, 1) := by decide +kernel
theorem d_M_put_11 : decode M_M_put.2.1 11 = .ok (.ireturn, 1) := by decide +kernel
theorem d_M_put_12 : decode M_M_put.2.1 12 = .ok (.iconst 0, 1) := by decide +kernel
theorem d_M_put_13 : decode M_M_put.2.1 13 = .ok (.istore_n 3, 1) := by decide +kernel
theorem d_M_put_14 : decode M_M_put.2.1 14 = .ok (.iload_n 3, 1) := by decide +kernel
theorem d_M_put_15 : decode M_M_put.2.1 15 = .ok (.bipush 12, 2) := by decide +kernel
theorem d_M_put_17 : decode M_M_put.2.1 17 = .ok (.if_icmp .ge 39, 3) := by decide +kernel
theorem d_M_put_20 : decode M_M_put.2.1 20 = .ok (.aload_n 0, 1) := by decide +kernel
theorem d_M_put_21 : decode M_M_put.2.1 21 = .ok (.getfield 17, 3) := by decide +kernel
theorem d_M_put_24 : decode M_M_put.2.1 24 = .ok (.iload_n 3, 1) := by decide +kernel
theorem d_M_put_25 : decode M_M_put.2.1 25 = .ok (.baload, 1) := by decide +kernel
theorem d_M_put_26 : decode M_M_put.2.1 26 = .ok (.ifCond .ne 24, 3) := by decide +kernel
theorem d_M_put_29 : decode M_M_put.2.1 29 = .ok (.bipush 40, 2) := by decide +kernel
theorem d_M_put_31 : decode M_M_put.2.1 31 = .ok (.aload_n 0, 1) := by decide +kernel
theorem d_M_put_32 : decode M_M_put.2.1 32 = .ok (.iload_n 3, 1) := by decide +kernel
theorem d_M_put_33 : decode M_M_put.2.1 33 = .ok (.invokevirtual 131, 3) := by decide +kernel
theorem d_M_put_36 : decode M_M_put.2.1 36 = .ok (.isub, 1) := by decide +kernel
theorem d_M_put_37 : decode M_M_put.2.1 37 = .ok (.aload_n 0, 1) := by decide +kernel
theorem d_M_put_38 : decode M_M_put.2.1 38 = .ok (.getfield 96, 3) := by decide +kernel
theorem d_M_put_41 : decode M_M_put.2.1 41 = .ok (.invokestatic 83, 3) := by decide +kernel
theorem d_M_put_44 : decode M_M_put.2.1 44 = .ok (.if_icmp .ge 6, 3) := by decide +kernel
theorem d_M_put_47 : decode M_M_put.2.1 47 = .ok (.bipush (-5), 2) := by decide +kernel
theorem d_M_put_49 : decode M_M_put.2.1 49 = .ok (.ireturn, 1) := by decide +kernel
theorem d_M_put_50 : decode M_M_put.2.1 50 = .ok (.iinc 3 1, 3) := by decide +kernel
theorem d_M_put_53 : decode M_M_put.2.1 53 = .ok (.goto (-39), 3) := by decide +kernel
theorem d_M_put_56 : decode M_M_put.2.1 56 = .ok (.aload_n 0, 1) := by decide +kernel
theorem d_M_put_57 : decode M_M_put.2.1 57 = .ok (.getfield 96, 3) := by decide +kernel
theorem d_M_put_60 : decode M_M_put.2.1 60 = .ok (.ifCond .ne 6, 3) := by decide +kernel
theorem d_M_put_63 : decode M_M_put.2.1 63 = .ok (.bipush (-6), 2) := by decide +kernel
theorem d_M_put_65 : decode M_M_put.2.1 65 = .ok (.ireturn, 1) := by decide +kernel
theorem d_M_put_66 : decode M_M_put.2.1 66 = .ok (.aload_n 0, 1) := by decide +kernel
theorem d_M_put_67 : decode M_M_put.2.1 67 = .ok (.iload_n 1, 1) := by decide +kernel
theorem d_M_put_68 : decode M_M_put.2.1 68 = .ok (.invokevirtual 134, 3) := by decide +kernel
theorem d_M_put_71 : decode M_M_put.2.1 71 = .ok (.istore_n 3, 1) := by decide +kernel
theorem d_M_put_72 : decode M_M_put.2.1 72 = .ok (.aload_n 0, 1) := by decide +kernel
theorem d_M_put_73 : decode M_M_put.2.1 73 = .ok (.iconst 0, 1) := by decide +kernel
end
section
theorem d_M_put_74 : decode M_M_put.2.1 74 = .ok (.putfield 96, 3) := by decide +kernel
theorem d_M_put_77 : decode M_M_put.2.1 77 = .ok (.iload_n 3, 1) := by decide +kernel
theorem d_M_put_78 : decode M_M_put.2.1 78 = .ok (.ireturn, 1) := by decide +kernel
theorem d_M_rebuild_0 : decode M_M_rebuild.2.1 0 = .ok (.iload_n 1, 1) := by decide +kernel
theorem d_M_rebuild_1 : decode M_M_rebuild.2.1 1 = .ok (.invokestatic 72, 3) := by decide +kernel
theorem d_M_rebuild_4 : decode M_M_rebuild.2.1 4 = .ok (.ifCond .ne 6, 3) := by decide +kernel
theorem d_M_rebuild_7 : decode M_M_rebuild.2.1 7 = .ok (.bipush (-2), 2) := by decide +kernel
theorem d_M_rebuild_9 : decode M_M_rebuild.2.1 9 = .ok (.ireturn, 1) := by decide +kernel
theorem d_M_rebuild_10 : decode M_M_rebuild.2.1 10 = .ok (.aload_n 0, 1) := by decide +kernel
theorem d_M_rebuild_11 : decode M_M_rebuild.2.1 11 = .ok (.getfield 17, 3) := by decide +kernel
theorem d_M_rebuild_14 : decode M_M_rebuild.2.1 14 = .ok (.iload_n 1, 1) := by decide +kernel
theorem d_M_rebuild_15 : decode M_M_rebuild.2.1 15 = .ok (.baload, 1) := by decide +kernel
theorem d_M_rebuild_16 : decode M_M_rebuild.2.1 16 = .ok (.ifCond .eq 6, 3) := by decide +kernel
theorem d_M_rebuild_19 : decode M_M_rebuild.2.1 19 = .ok (.bipush (-3), 2) := by decide +kernel
theorem d_M_rebuild_21 : decode M_M_rebuild.2.1 21 = .ok (.ireturn, 1) := by decide +kernel
theorem d_M_rebuild_22 : decode M_M_rebuild.2.1 22 = .ok (.iload_n 2, 1) := by decide +kernel
theorem d_M_rebuild_23 : decode M_M_rebuild.2.1 23 = .ok (.iconst 1, 1) := by decide +kernel
theorem d_M_rebuild_24 : decode M_M_rebuild.2.1 24 = .ok (.iload_n 1, 1) := by decide +kernel
theorem d_M_rebuild_25 : decode M_M_rebuild.2.1 25 = .ok (.ishl, 1) := by decide +kernel
theorem d_M_rebuild_26 : decode M_M_rebuild.2.1 26 = .ok (.iconst (-1), 1) := by decide +kernel
theorem d_M_rebuild_27 : decode M_M_rebuild.2.1 27 = .ok (.ixor, 1) := by decide +kernel
theorem d_M_rebuild_28 : decode M_M_rebuild.2.1 28 = .ok (.iand, 1) := by decide +kernel
theorem d_M_rebuild_29 : decode M_M_rebuild.2.1 29 = .ok (.istore_n 3, 1) := by decide +kernel
theorem d_M_rebuild_30 : decode M_M_rebuild.2.1 30 = .ok (.aload_n 0, 1) := by decide +kernel
theorem d_M_rebuild_31 : decode M_M_rebuild.2.1 31 = .ok (.iload_n 1, 1) := by decide +kernel
theorem d_M_rebuild_32 : decode M_M_rebuild.2.1 32 = .ok (.invokevirtual 131, 3) := by decide +kernel
theorem d_M_rebuild_35 : decode M_M_rebuild.2.1 35 = .ok (.istore 4, 2) := by decide +kernel
theorem d_M_rebuild_37 : decode M_M_rebuild.2.1 37 = .ok (.iconst 0, 1) := by decide +kernel
theorem d_M_rebuild_38 : decode M_M_rebuild.2.1 38 = .ok (.istore 5, 2) := by decide +kernel
theorem d_M_rebuild_40 : decode M_M_rebuild.2.1 40 = .ok (.iconst 0, 1) := by decide +kernel
theorem d_M_rebuild_41 : decode M_M_rebuild.2.1 41 = .ok (.istore 6, 2) := by decide +kernel
theorem d_M_rebuild_43 : decode M_M_rebuild.2.1 43 = .ok (.iload 6, 2) := by decide +kernel
theorem d_M_rebuild_45 : decode M_M_rebuild.2.1 45 = .ok (.bipush 6, 2) := by decide +kernel
theorem d_M_rebuild_47 : decode M_M_rebuild.2.1 47 = .ok (.if_icmp .ge 124, 3) := by decide +kernel
theorem d_M_rebuild_50 : decode M_M_rebuild.2.1 50 = .ok (.aload_n 0, 1) := by decide +kernel
theorem d_M_rebuild_51 : decode M_M_rebuild.2.1 51 = .ok (.iload_n 1, 1) := by decide +kernel
theorem d_M_rebuild_52 : decode M_M_rebuild.2.1 52 = .ok (.iload 6, 2) := by decide +kernel
theorem d_M_rebuild_54 : decode M_M_rebuild.2.1 54 = .ok (.invokevirtual 162, 3) := by decide +kernel
theorem d_M_rebuild_57 : decode M_M_rebuild.2.1 57 = .ok (.ifCond .eq 108, 3) := by decide +kernel
theorem d_M_rebuild_60 : decode M_M_rebuild.2.1 60 = .ok (.aload_n 0, 1) := by decide +kernel
theorem d_M_rebuild_61 : decode M_M_rebuild.2.1 61 = .ok (.iload 6, 2) := by decide +kernel
theorem d_M_rebuild_63 : decode M_M_rebuild.2.1 63 = .ok (.invokevirtual 140, 3) := by decide +kernel
theorem d_M_rebuild_66 : decode M_M_rebuild.2.1 66 = .ok (.istore 7, 2) := by decide +kernel
theorem d_M_rebuild_68 : decode M_M_rebuild.2.1 68 = .ok (.aload_n 0, 1) := by decide +kernel
theorem d_M_rebuild_69 : decode M_M_rebuild.2.1 69 = .ok (.iload 6, 2) := by decide +kernel
theorem d_M_rebuild_71 : decode M_M_rebuild.2.1 71 = .ok (.iload 7, 2) := by decide +kernel
theorem d_M_rebuild_73 : decode M_M_rebuild.2.1 73 = .ok (.invokevirtual 146, 3) := by decide +kernel
theorem d_M_rebuild_76 : decode M_M_rebuild.2.1 76 = .ok (.istore 8, 2) := by decide +kernel
theorem d_M_rebuild_78 : decode M_M_rebuild.2.1 78 = .ok (.iload 8, 2) := by decide +kernel
theorem d_M_rebuild_80 : decode M_M_rebuild.2.1 80 = .ok (.ifCond .le 22, 3) := by decide +kernel
theorem d_M_rebuild_83 : decode M_M_rebuild.2.1 83 = .ok (.aload_n 0, 1) := by decide +kernel
theorem d_M_rebuild_84 : decode M_M_rebuild.2.1 84 = .ok (.iload 6, 2) := by decide +kernel
theorem d_M_rebuild_86 : decode M_M_rebuild.2.1 86 = .ok (.iload 7, 2) := by decide +kernel
theorem d_M_rebuild_88 : decode M_M_rebuild.2.1 88 = .ok (.iload_n 3, 1) := by decide +kernel
theorem d_M_rebuild_89 : decode M_M_rebuild.2.1 89 = .ok (.bipush 8, 2) := by decide +kernel
theorem d_M_rebuild_91 : decode M_M_rebuild.2.1 91 = .ok (.invokevirtual 143, 3) := by decide +kernel
theorem d_M_rebuild_94 : decode M_M_rebuild.2.1 94 = .ok (.bipush 8, 2) := by decide +kernel
theorem d_M_rebuild_96 : decode M_M_rebuild.2.1 96 = .ok (.if_icmp .ge 6, 3) := by decide +kernel
theorem d_M_rebuild_99 : decode M_M_rebuild.2.1 99 = .ok (.bipush (-4), 2) := by decide +kernel
theorem d_M_rebuild_101 : decode M_M_rebuild.2.1 101 = .ok (.ireturn, 1) := by decide +kernel
theorem d_M_rebuild_102 : decode M_M_rebuild.2.1 102 = .ok (.iload_n 1, 1) := by decide +kernel
theorem d_M_rebuild_103 : decode M_M_rebuild.2.1 103 = .ok (.iload 6, 2) := by decide +kernel
theorem d_M_rebuild_105 : decode M_M_rebuild.2.1 105 = .ok (.iconst 0, 1) := by decide +kernel
theorem d_M_rebuild_106 : decode M_M_rebuild.2.1 106 = .ok (.invokestatic 79, 3) := by decide +kernel
theorem d_M_rebuild_109 : decode M_M_rebuild.2.1 109 = .ok (.istore 9, 2) := by decide +kernel
theorem d_M_rebuild_111 : decode M_M_rebuild.2.1 111 = .ok (.iload 4, 2) := by decide +kernel
theorem d_M_rebuild_113 : decode M_M_rebuild.2.1 113 = .ok (.iload 8, 2) := by decide +kernel
theorem d_M_rebuild_115 : decode M_M_rebuild.2.1 115 = .ok (.invokestatic 83, 3) := by decide +kernel
theorem d_M_rebuild_118 : decode M_M_rebuild.2.1 118 = .ok (.aload_n 0, 1) := by decide +kernel
theorem d_M_rebuild_119 : decode M_M_rebuild.2.1 119 = .ok (.getfield 30, 3) := by decide +kernel
theorem d_M_rebuild_122 : decode M_M_rebuild.2.1 122 = .ok (.iload 9, 2) := by decide +kernel
theorem d_M_rebuild_124 : decode M_M_rebuild.2.1 124 = .ok (.baload, 1) := by decide +kernel
theorem d_M_rebuild_125 : decode M_M_rebuild.2.1 125 = .ok (.ifCond .eq 16, 3) := by decide +kernel
theorem d_M_rebuild_128 : decode M_M_rebuild.2.1 128 = .ok (.aload_n 0, 1) := by decide +kernel
theorem d_M_rebuild_129 : decode M_M_rebuild.2.1 129 = .ok (.getfield 36, 3) := by decide +kernel
theorem d_M_rebuild_132 : decode M_M_rebuild.2.1 132 = .ok (.iload 9, 2) := by decide +kernel
theorem d_M_rebuild_134 : decode M_M_rebuild.2.1 134 = .ok (.iaload, 1) := by decide +kernel
theorem d_M_rebuild_135 : decode M_M_rebuild.2.1 135 = .ok (.invokestatic 83, 3) := by decide +kernel
theorem d_M_rebuild_138 : decode M_M_rebuild.2.1 138 = .ok (.goto 4, 3) := by decide +kernel
theorem d_M_rebuild_141 : decode M_M_rebuild.2.1 141 = .ok (.iconst 0, 1) := by decide +kernel
theorem d_M_rebuild_142 : decode M_M_rebuild.2.1 142 = .ok (.isub, 1) := by decide +kernel
theorem d_M_rebuild_143 : decode M_M_rebuild.2.1 143 = .ok (.iadd, 1) := by decide +kernel
theorem d_M_rebuild_144 : decode M_M_rebuild.2.1 144 = .ok (.istore 4, 2) := by decide +kernel
theorem d_M_rebuild_146 : decode M_M_rebuild.2.1 146 = .ok (.iload 5, 2) := by decide +kernel
theorem d_M_rebuild_148 : decode M_M_rebuild.2.1 148 = .ok (.ifCond .ne 10, 3) := by decide +kernel
theorem d_M_rebuild_151 : decode M_M_rebuild.2.1 151 = .ok (.iload 4, 2) := by decide +kernel
theorem d_M_rebuild_153 : decode M_M_rebuild.2.1 153 = .ok (.bipush 40, 2) := by decide +kernel
theorem d_M_rebuild_155 : decode M_M_rebuild.2.1 155 = .ok (.if_icmp .le 7, 3) := by decide +kernel
theorem d_M_rebuild_158 : decode M_M_rebuild.2.1 158 = .ok (.iconst 1, 1) := by decide +kernel
theorem d_M_rebuild_159 : decode M_M_rebuild.2.1 159 = .ok (.goto 4, 3) := by decide +kernel
theorem d_M_rebuild_162 : decode M_M_rebuild.2.1 162 = .ok (.iconst 0, 1) := by decide +kernel
theorem d_M_rebuild_163 : decode M_M_rebuild.2.1 163 = .ok (.istore 5, 2) := by decide +kernel
theorem d_M_rebuild_165 : decode M_M_rebuild.2.1 165 = .ok (.iinc 6 1, 3) := by decide +kernel
theorem d_M_rebuild_168 : decode M_M_rebuild.2.1 168 = .ok (.goto (-125), 3) := by decide +kernel
theorem d_M_rebuild_171 : decode M_M_rebuild.2.1 171 = .ok (.iload 5, 2) := by decide +kernel
theorem d_M_rebuild_173 : decode M_M_rebuild.2.1 173 = .ok (.ifCond .eq 6, 3) := by decide +kernel
theorem d_M_rebuild_176 : decode M_M_rebuild.2.1 176 = .ok (.bipush (-5), 2) := by decide +kernel
theorem d_M_rebuild_178 : decode M_M_rebuild.2.1 178 = .ok (.ireturn, 1) := by decide +kernel
theorem d_M_rebuild_179 : decode M_M_rebuild.2.1 179 = .ok (.iconst 0, 1) := by decide +kernel
theorem d_M_rebuild_180 : decode M_M_rebuild.2.1 180 = .ok (.istore 6, 2) := by decide +kernel
theorem d_M_rebuild_182 : decode M_M_rebuild.2.1 182 = .ok (.iconst 0, 1) := by decide +kernel
theorem d_M_rebuild_183 : decode M_M_rebuild.2.1 183 = .ok (.istore 7, 2) := by decide +kernel
theorem d_M_rebuild_185 : decode M_M_rebuild.2.1 185 = .ok (.iload 7, 2) := by decide +kernel
theorem d_M_rebuild_187 : decode M_M_rebuild.2.1 187 = .ok (.bipush 6, 2) := by decide +kernel
theorem d_M_rebuild_189 : decode M_M_rebuild.2.1 189 = .ok (.if_icmp .ge 32, 3) := by decide +kernel
theorem d_M_rebuild_192 : decode M_M_rebuild.2.1 192 = .ok (.aload_n 0, 1) := by decide +kernel
theorem d_M_rebuild_193 : decode M_M_rebuild.2.1 193 = .ok (.iload_n 1, 1) := by decide +kernel
theorem d_M_rebuild_194 : decode M_M_rebuild.2.1 194 = .ok (.iload 7, 2) := by decide +kernel
theorem d_M_rebuild_196 : decode M_M_rebuild.2.1 196 = .ok (.invokevirtual 162, 3) := by decide +kernel
theorem d_M_rebuild_199 : decode M_M_rebuild.2.1 199 = .ok (.ifCond .eq 16, 3) := by decide +kernel
theorem d_M_rebuild_202 : decode M_M_rebuild.2.1 202 = .ok (.iload 6, 2) := by decide +kernel
theorem d_M_rebuild_204 : decode M_M_rebuild.2.1 204 = .ok (.aload_n 0, 1) := by decide +kernel
theorem d_M_rebuild_205 : decode M_M_rebuild.2.1 205 = .ok (.iload_n 1, 1) := by decide +kernel
theorem d_M_rebuild_206 : decode M_M_rebuild.2.1 206 = .ok (.iload 7, 2) := by decide +kernel
theorem d_M_rebuild_208 : decode M_M_rebuild.2.1 208 = .ok (.iload_n 3, 1) := by decide +kernel
theorem d_M_rebuild_209 : decode M_M_rebuild.2.1 209 = .ok (.invokevirtual 166, 3) := by decide +kernel
theorem d_M_rebuild_212 : decode M_M_rebuild.2.1 212 = .ok (.iadd, 1) := by decide +kernel
theorem d_M_rebuild_213 : decode M_M_rebuild.2.1 213 = .ok (.istore 6, 2) := by decide +kernel
theorem d_M_rebuild_215 : decode M_M_rebuild.2.1 215 = .ok (.iinc 7 1, 3) := by decide +kernel
theorem d_M_rebuild_218 : decode M_M_rebuild.2.1 218 = .ok (.goto (-33), 3) := by decide +kernel
theorem d_M_rebuild_221 : decode M_M_rebuild.2.1 221 = .ok (.aload_n 0, 1) := by decide +kernel
theorem d_M_rebuild_222 : decode M_M_rebuild.2.1 222 = .ok (.dup, 1) := by decide +kernel
theorem d_M_rebuild_223 : decode M_M_rebuild.2.1 223 = .ok (.getfield 169, 3) := by decide +kernel
theorem d_M_rebuild_226 : decode M_M_rebuild.2.1 226 = .ok (.iload 6, 2) := by decide +kernel
theorem d_M_rebuild_228 : decode M_M_rebuild.2.1 228 = .ok (.iadd, 1) := by decide +kernel
theorem d_M_rebuild_229 : decode M_M_rebuild.2.1 229 = .ok (.putfield 169, 3) := by decide +kernel
theorem d_M_rebuild_232 : decode M_M_rebuild.2.1 232 = .ok (.iload 6, 2) := by decide +kernel
theorem d_M_rebuild_234 : decode M_M_rebuild.2.1 234 = .ok (.ireturn, 1) := by decide +kernel
theorem d_M_rebuilds_0 : decode M_M_rebuilds.2.1 0 = .ok (.aload_n 0, 1) := by decide +kernel
theorem d_M_rebuilds_1 : decode M_M_rebuilds.2.1 1 = .ok (.iload_n 2, 1) := by decide +kernel
theorem d_M_rebuilds_2 : decode M_M_rebuilds.2.1 2 = .ok (.invokevirtual 140, 3) := by decide +kernel
theorem d_M_rebuilds_5 : decode M_M_rebuilds.2.1 5 = .ok (.istore 4, 2) := by decide +kernel
theorem d_M_rebuilds_7 : decode M_M_rebuilds.2.1 7 = .ok (.aload_n 0, 1) := by decide +kernel
theorem d_M_rebuilds_8 : decode M_M_rebuilds.2.1 8 = .ok (.iload_n 2, 1) := by decide +kernel
theorem d_M_rebuilds_9 : decode M_M_rebuilds.2.1 9 = .ok (.iload 4, 2) := by decide +kernel
theorem d_M_rebuilds_11 : decode M_M_rebuilds.2.1 11 = .ok (.invokevirtual 146, 3) := by decide +kernel
theorem d_M_rebuilds_14 : decode M_M_rebuilds.2.1 14 = .ok (.istore 5, 2) := by decide +kernel
theorem d_M_rebuilds_16 : decode M_M_rebuilds.2.1 16 = .ok (.aload_n 0, 1) := by decide +kernel
theorem d_M_rebuilds_17 : decode M_M_rebuilds.2.1 17 = .ok (.iload_n 1, 1) := by decide +kernel
theorem d_M_rebuilds_18 : decode M_M_rebuilds.2.1 18 = .ok (.iload_n 2, 1) := by decide +kernel
theorem d_M_rebuilds_19 : decode M_M_rebuilds.2.1 19 = .ok (.iconst 0, 1) := by decide +kernel
theorem d_M_rebuilds_20 : decode M_M_rebuilds.2.1 20 = .ok (.invokevirtual 89, 3) := by decide +kernel
theorem d_M_rebuilds_23 : decode M_M_rebuilds.2.1 23 = .ok (.aload_n 0, 1) := by decide +kernel
theorem d_M_rebuilds_24 : decode M_M_rebuilds.2.1 24 = .ok (.iload_n 1, 1) := by decide +kernel
theorem d_M_rebuilds_25 : decode M_M_rebuilds.2.1 25 = .ok (.iload_n 2, 1) := by decide +kernel
theorem d_M_rebuilds_26 : decode M_M_rebuilds.2.1 26 = .ok (.iconst 0, 1) := by decide +kernel
theorem d_M_rebuilds_27 : decode M_M_rebuilds.2.1 27 = .ok (.iload 4, 2) := by decide +kernel
theorem d_M_rebuilds_29 : decode M_M_rebuilds.2.1 29 = .ok (.iload 5, 2) := by decide +kernel
theorem d_M_rebuilds_31 : decode M_M_rebuilds.2.1 31 = .ok (.invokevirtual 111, 3) := by decide +kernel
theorem d_M_rebuilds_34 : decode M_M_rebuilds.2.1 34 = .ok (.iload 5, 2) := by decide +kernel
theorem d_M_rebuilds_36 : decode M_M_rebuilds.2.1 36 = .ok (.ifCond .ne 5, 3) := by decide +kernel
theorem d_M_rebuilds_39 : decode M_M_rebuilds.2.1 39 = .ok (.iconst 0, 1) := by decide +kernel
theorem d_M_rebuilds_40 : decode M_M_rebuilds.2.1 40 = .ok (.ireturn, 1) := by decide +kernel
theorem d_M_rebuilds_41 : decode M_M_rebuilds.2.1 41 = .ok (.aload_n 0, 1) := by decide +kernel
theorem d_M_rebuilds_42 : decode M_M_rebuilds.2.1 42 = .ok (.iload_n 2, 1) := by decide +kernel
theorem d_M_rebuilds_43 : decode M_M_rebuilds.2.1 43 = .ok (.iload 4, 2) := by decide +kernel
theorem d_M_rebuilds_45 : decode M_M_rebuilds.2.1 45 = .ok (.iload_n 3, 1) := by decide +kernel
theorem d_M_rebuilds_46 : decode M_M_rebuilds.2.1 46 = .ok (.invokevirtual 155, 3) := by decide +kernel
theorem d_M_rebuilds_49 : decode M_M_rebuilds.2.1 49 = .ok (.iload_n 1, 1) := by decide +kernel
theorem d_M_rebuilds_50 : decode M_M_rebuilds.2.1 50 = .ok (.iload_n 2, 1) := by decide +kernel
theorem d_M_rebuilds_51 : decode M_M_rebuilds.2.1 51 = .ok (.iconst 0, 1) := by decide +kernel
theorem d_M_rebuilds_52 : decode M_M_rebuilds.2.1 52 = .ok (.invokestatic 79, 3) := by decide +kernel
theorem d_M_rebuilds_55 : decode M_M_rebuilds.2.1 55 = .ok (.istore 6, 2) := by decide +kernel
theorem d_M_rebuilds_57 : decode M_M_rebuilds.2.1 57 = .ok (.iconst 0, 1) := by decide +kernel
theorem d_M_rebuilds_58 : decode M_M_rebuilds.2.1 58 = .ok (.istore 7, 2) := by decide +kernel
theorem d_M_rebuilds_60 : decode M_M_rebuilds.2.1 60 = .ok (.iload 7, 2) := by decide +kernel
theorem d_M_rebuilds_62 : decode M_M_rebuilds.2.1 62 = .ok (.iload 5, 2) := by decide +kernel
theorem d_M_rebuilds_64 : decode M_M_rebuilds.2.1 64 = .ok (.invokestatic 83, 3) := by decide +kernel
theorem d_M_rebuilds_67 : decode M_M_rebuilds.2.1 67 = .ok (.if_icmp .ge 173, 3) := by decide +kernel
theorem d_M_rebuilds_70 : decode M_M_rebuilds.2.1 70 = .ok (.iconst 0, 1) := by decide +kernel
theorem d_M_rebuilds_71 : decode M_M_rebuilds.2.1 71 = .ok (.istore 8, 2) := by decide +kernel
theorem d_M_rebuilds_73 : decode M_M_rebuilds.2.1 73 = .ok (.iload 8, 2) := by decide +kernel
theorem d_M_rebuilds_75 : decode M_M_rebuilds.2.1 75 = .ok (.bipush 8, 2) := by decide +kernel
theorem d_M_rebuilds_77 : decode M_M_rebuilds.2.1 77 = .ok (.if_icmp .ge 105, 3) := by decide +kernel
theorem d_M_rebuilds_80 : decode M_M_rebuilds.2.1 80 = .ok (.iconst 0, 1) := by decide +kernel
theorem d_M_rebuilds_81 : decode M_M_rebuilds.2.1 81 = .ok (.istore 9, 2) := by decide +kernel
theorem d_M_rebuilds_83 : decode M_M_rebuilds.2.1 83 = .ok (.iload 9, 2) := by decide +kernel
theorem d_M_rebuilds_85 : decode M_M_rebuilds.2.1 85 = .ok (.bipush 8, 2) := by decide +kernel
theorem d_M_rebuilds_87 : decode M_M_rebuilds.2.1 87 = .ok (.if_icmp .ge 34, 3) := by decide +kernel
theorem d_M_rebuilds_90 : decode M_M_rebuilds.2.1 90 = .ok (.aload_n 0, 1) := by decide +kernel
theorem d_M_rebuilds_91 : decode M_M_rebuilds.2.1 91 = .ok (.getfield 51, 3) := by decide +kernel
theorem d_M_rebuilds_94 : decode M_M_rebuilds.2.1 94 = .ok (.bipush 16, 2) := by decide +kernel
theorem d_M_rebuilds_96 : decode M_M_rebuilds.2.1 96 = .ok (.iload 8, 2) := by decide +kernel
theorem d_M_rebuilds_98 : decode M_M_rebuilds.2.1 98 = .ok (.imul, 1) := by decide +kernel
theorem d_M_rebuilds_99 : decode M_M_rebuilds.2.1 99 = .ok (.iload 9, 2) := by decide +kernel
theorem d_M_rebuilds_101 : decode M_M_rebuilds.2.1 101 = .ok (.iadd, 1) := by decide +kernel
theorem d_M_rebuilds_102 : decode M_M_rebuilds.2.1 102 = .ok (.aload_n 0, 1) := by decide +kernel
theorem d_M_rebuilds_103 : decode M_M_rebuilds.2.1 103 = .ok (.getfield 54, 3) := by decide +kernel
theorem d_M_rebuilds_106 : decode M_M_rebuilds.2.1 106 = .ok (.iload 8, 2) := by decide +kernel
theorem d_M_rebuilds_108 : decode M_M_rebuilds.2.1 108 = .ok (.iaload, 1) := by decide +kernel
theorem d_M_rebuilds_109 : decode M_M_rebuilds.2.1 109 = .ok (.iload 9, 2) := by decide +kernel
theorem d_M_rebuilds_111 : decode M_M_rebuilds.2.1 111 = .ok (.invokestatic 76, 3) := by decide +kernel
theorem d_M_rebuilds_114 : decode M_M_rebuilds.2.1 114 = .ok (.iastore, 1) := by decide +kernel
theorem d_M_rebuilds_115 : decode M_M_rebuilds.2.1 115 = .ok (.iinc 9 1, 3) := by decide +kernel
theorem d_M_rebuilds_118 : decode M_M_rebuilds.2.1 118 = .ok (.goto (-35), 3) := by decide +kernel
theorem d_M_rebuilds_121 : decode M_M_rebuilds.2.1 121 = .ok (.aload_n 0, 1) := by decide +kernel
theorem d_M_rebuilds_122 : decode M_M_rebuilds.2.1 122 = .ok (.getfield 51, 3) := by decide +kernel
theorem d_M_rebuilds_125 : decode M_M_rebuilds.2.1 125 = .ok (.bipush 16, 2) := by decide +kernel
theorem d_M_rebuilds_127 : decode M_M_rebuilds.2.1 127 = .ok (.iload 8, 2) := by decide +kernel
theorem d_M_rebuilds_129 : decode M_M_rebuilds.2.1 129 = .ok (.imul, 1) := by decide +kernel
theorem d_M_rebuilds_130 : decode M_M_rebuilds.2.1 130 = .ok (.bipush 8, 2) := by decide +kernel
theorem d_M_rebuilds_132 : decode M_M_rebuilds.2.1 132 = .ok (.iadd, 1) := by decide +kernel
theorem d_M_rebuilds_133 : decode M_M_rebuilds.2.1 133 = .ok (.aload_n 0, 1) := by decide +kernel
theorem d_M_rebuilds_134 : decode M_M_rebuilds.2.1 134 = .ok (.aload_n 0, 1) := by decide +kernel
theorem d_M_rebuilds_135 : decode M_M_rebuilds.2.1 135 = .ok (.getfield 54, 3) := by decide +kernel
theorem d_M_rebuilds_138 : decode M_M_rebuilds.2.1 138 = .ok (.iload 8, 2) := by decide +kernel
theorem d_M_rebuilds_140 : decode M_M_rebuilds.2.1 140 = .ok (.iaload, 1) := by decide +kernel
theorem d_M_rebuilds_141 : decode M_M_rebuilds.2.1 141 = .ok (.iload_n 1, 1) := by decide +kernel
theorem d_M_rebuilds_142 : decode M_M_rebuilds.2.1 142 = .ok (.aload_n 0, 1) := by decide +kernel
theorem d_M_rebuilds_143 : decode M_M_rebuilds.2.1 143 = .ok (.getfield 54, 3) := by decide +kernel
theorem d_M_rebuilds_146 : decode M_M_rebuilds.2.1 146 = .ok (.iload 8, 2) := by decide +kernel
theorem d_M_rebuilds_148 : decode M_M_rebuilds.2.1 148 = .ok (.iaload, 1) := by decide +kernel
theorem d_M_rebuilds_149 : decode M_M_rebuilds.2.1 149 = .ok (.iload_n 2, 1) := by decide +kernel
theorem d_M_rebuilds_150 : decode M_M_rebuilds.2.1 150 = .ok (.iconst 0, 1) := by decide +kernel
theorem d_M_rebuilds_151 : decode M_M_rebuilds.2.1 151 = .ok (.invokestatic 79, 3) := by decide +kernel
theorem d_M_rebuilds_154 : decode M_M_rebuilds.2.1 154 = .ok (.iload 7, 2) := by decide +kernel
theorem d_M_rebuilds_156 : decode M_M_rebuilds.2.1 156 = .ok (.invokevirtual 159, 3) := by decide +kernel
theorem d_M_rebuilds_159 : decode M_M_rebuilds.2.1 159 = .ok (.iastore, 1) := by decide +kernel
theorem d_M_rebuilds_160 : decode M_M_rebuilds.2.1 160 = .ok (.aload_n 0, 1) := by decide +kernel
theorem d_M_rebuilds_161 : decode M_M_rebuilds.2.1 161 = .ok (.getfield 21, 3) := by decide +kernel
theorem d_M_rebuilds_164 : decode M_M_rebuilds.2.1 164 = .ok (.aload_n 0, 1) := by decide +kernel
theorem d_M_rebuilds_165 : decode M_M_rebuilds.2.1 165 = .ok (.getfield 54, 3) := by decide +kernel
theorem d_M_rebuilds_168 : decode M_M_rebuilds.2.1 168 = .ok (.iload 8, 2) := by decide +kernel
theorem d_M_rebuilds_170 : decode M_M_rebuilds.2.1 170 = .ok (.iaload, 1) := by decide +kernel
theorem d_M_rebuilds_171 : decode M_M_rebuilds.2.1 171 = .ok (.dup2, 1) := by decide +kernel
theorem d_M_rebuilds_172 : decode M_M_rebuilds.2.1 172 = .ok (.iaload, 1) := by decide +kernel
theorem d_M_rebuilds_173 : decode M_M_rebuilds.2.1 173 = .ok (.iconst 1, 1) := by decide +kernel
theorem d_M_rebuilds_174 : decode M_M_rebuilds.2.1 174 = .ok (.iadd, 1) := by decide +kernel
theorem d_M_rebuilds_175 : decode M_M_rebuilds.2.1 175 = .ok (.iastore, 1) := by decide +kernel
theorem d_M_rebuilds_176 : decode M_M_rebuilds.2.1 176 = .ok (.iinc 8 1, 3) := by decide +kernel
theorem d_M_rebuilds_179 : decode M_M_rebuilds.2.1 179 = .ok (.goto (-106), 3) := by decide +kernel
theorem d_M_rebuilds_182 : decode M_M_rebuilds.2.1 182 = .ok (.aload_n 0, 1) := by decide +kernel
theorem d_M_rebuilds_183 : decode M_M_rebuilds.2.1 183 = .ok (.bipush 8, 2) := by decide +kernel
theorem d_M_rebuilds_185 : decode M_M_rebuilds.2.1 185 = .ok (.iconst 1, 1) := by decide +kernel
theorem d_M_rebuilds_186 : decode M_M_rebuilds.2.1 186 = .ok (.invokevirtual 137, 3) := by decide +kernel
theorem d_M_rebuilds_189 : decode M_M_rebuilds.2.1 189 = .ok (.iconst 0, 1) := by decide +kernel
theorem d_M_rebuilds_190 : decode M_M_rebuilds.2.1 190 = .ok (.istore 8, 2) := by decide +kernel
theorem d_M_rebuilds_192 : decode M_M_rebuilds.2.1 192 = .ok (.iload 8, 2) := by decide +kernel
theorem d_M_rebuilds_194 : decode M_M_rebuilds.2.1 194 = .ok (.bipush 8, 2) := by decide +kernel
theorem d_M_rebuilds_196 : decode M_M_rebuilds.2.1 196 = .ok (.if_icmp .ge 38, 3) := by decide +kernel
theorem d_M_rebuilds_199 : decode M_M_rebuilds.2.1 199 = .ok (.aload_n 0, 1) := by decide +kernel
theorem d_M_rebuilds_200 : decode M_M_rebuilds.2.1 200 = .ok (.getfield 27, 3) := by decide +kernel
theorem d_M_rebuilds_203 : decode M_M_rebuilds.2.1 203 = .ok (.aload_n 0, 1) := by decide +kernel
theorem d_M_rebuilds_204 : decode M_M_rebuilds.2.1 204 = .ok (.iload_n 1, 1) := by decide +kernel
theorem d_M_rebuilds_205 : decode M_M_rebuilds.2.1 205 = .ok (.iload 6, 2) := by decide +kernel
theorem d_M_rebuilds_207 : decode M_M_rebuilds.2.1 207 = .ok (.iload 7, 2) := by decide +kernel
theorem d_M_rebuilds_209 : decode M_M_rebuilds.2.1 209 = .ok (.iload 8, 2) := by decide +kernel
theorem d_M_rebuilds_211 : decode M_M_rebuilds.2.1 211 = .ok (.invokevirtual 103, 3) := by decide +kernel
theorem d_M_rebuilds_214 : decode M_M_rebuilds.2.1 214 = .ok (.aload_n 0, 1) := by decide +kernel
theorem d_M_rebuilds_215 : decode M_M_rebuilds.2.1 215 = .ok (.getfield 51, 3) := by decide +kernel
theorem d_M_rebuilds_218 : decode M_M_rebuilds.2.1 218 = .ok (.bipush 16, 2) := by decide +kernel
theorem d_M_rebuilds_220 : decode M_M_rebuilds.2.1 220 = .ok (.iload 8, 2) := by decide +kernel
theorem d_M_rebuilds_222 : decode M_M_rebuilds.2.1 222 = .ok (.imul, 1) := by decide +kernel
theorem d_M_rebuilds_223 : decode M_M_rebuilds.2.1 223 = .ok (.bipush 8, 2) := by decide +kernel
theorem d_M_rebuilds_225 : decode M_M_rebuilds.2.1 225 = .ok (.iadd, 1) := by decide +kernel
theorem d_M_rebuilds_226 : decode M_M_rebuilds.2.1 226 = .ok (.iaload, 1) := by decide +kernel
theorem d_M_rebuilds_227 : decode M_M_rebuilds.2.1 227 = .ok (.iastore, 1) := by decide +kernel
theorem d_M_rebuilds_228 : decode M_M_rebuilds.2.1 228 = .ok (.iinc 8 1, 3) := by decide +kernel
theorem d_M_rebuilds_231 : decode M_M_rebuilds.2.1 231 = .ok (.goto (-39), 3) := by decide +kernel
theorem d_M_rebuilds_234 : decode M_M_rebuilds.2.1 234 = .ok (.iinc 7 1, 3) := by decide +kernel
theorem d_M_rebuilds_237 : decode M_M_rebuilds.2.1 237 = .ok (.goto (-177), 3) := by decide +kernel
theorem d_M_rebuilds_240 : decode M_M_rebuilds.2.1 240 = .ok (.bipush 8, 2) := by decide +kernel
theorem d_M_rebuilds_242 : decode M_M_rebuilds.2.1 242 = .ok (.iload 5, 2) := by decide +kernel
theorem d_M_rebuilds_244 : decode M_M_rebuilds.2.1 244 = .ok (.invokestatic 83, 3) := by decide +kernel
theorem d_M_rebuilds_247 : decode M_M_rebuilds.2.1 247 = .ok (.imul, 1) := by decide +kernel
theorem d_M_rebuilds_248 : decode M_M_rebuilds.2.1 248 = .ok (.ireturn, 1) := by decide +kernel
theorem d_M_record_0 : decode M_M_record.2.1 0 = .ok (.iload_n 1, 1) := by decide +kernel
theorem d_M_record_1 : decode M_M_record.2.1 1 = .ok (.invokestatic 72, 3) := by decide +kernel
theorem d_M_record_4 : decode M_M_record.2.1 4 = .ok (.ifCond .eq 19, 3) := by decide +kernel
theorem d_M_record_7 : decode M_M_record.2.1 7 = .ok (.iload_n 2, 1) := by decide +kernel
theorem d_M_record_8 : decode M_M_record.2.1 8 = .ok (.invokestatic 125, 3) := by decide +kernel
theorem d_M_record_11 : decode M_M_record.2.1 11 = .ok (.ifCond .eq 12, 3) := by decide +kernel
theorem d_M_record_14 : decode M_M_record.2.1 14 = .ok (.iload_n 3, 1) := by decide +kernel
theorem d_M_record_15 : decode M_M_record.2.1 15 = .ok (.iconst 0, 1) := by decide +kernel
theorem d_M_record_16 : decode M_M_record.2.1 16 = .ok (.iconst 5, 1) := by decide +kernel
theorem d_M_record_17 : decode M_M_record.2.1 17 = .ok (.invokestatic 60, 3) := by decide +kernel
theorem d_M_record_20 : decode M_M_record.2.1 20 = .ok (.ifCond .ne 6, 3) := by decide +kernel
theorem d_M_record_23 : decode M_M_record.2.1 23 = .ok (.bipush (-2), 2) := by decide +kernel
theorem d_M_record_25 : decode M_M_record.2.1 25 = .ok (.ireturn, 1) := by decide +kernel
theorem d_M_record_26 : decode M_M_record.2.1 26 = .ok (.iload_n 1, 1) := by decide +kernel
theorem d_M_record_27 : decode M_M_record.2.1 27 = .ok (.iload_n 2, 1) := by decide +kernel
theorem d_M_record_28 : decode M_M_record.2.1 28 = .ok (.iload_n 3, 1) := by decide +kernel
theorem d_M_record_29 : decode M_M_record.2.1 29 = .ok (.iconst 2, 1) := by decide +kernel
theorem d_M_record_30 : decode M_M_record.2.1 30 = .ok (.if_icmp .le 7, 3) := by decide +kernel
theorem d_M_record_33 : decode M_M_record.2.1 33 = .ok (.iconst 1, 1) := by decide +kernel
theorem d_M_record_34 : decode M_M_record.2.1 34 = .ok (.goto 4, 3) := by decide +kernel
theorem d_M_record_37 : decode M_M_record.2.1 37 = .ok (.iconst 0, 1) := by decide +kernel
theorem d_M_record_38 : decode M_M_record.2.1 38 = .ok (.invokestatic 79, 3) := by decide +kernel
theorem d_M_record_41 : decode M_M_record.2.1 41 = .ok (.istore 4, 2) := by decide +kernel
theorem d_M_record_43 : decode M_M_record.2.1 43 = .ok (.iload_n 3, 1) := by decide +kernel
theorem d_M_record_44 : decode M_M_record.2.1 44 = .ok (.iconst 3, 1) := by decide +kernel
theorem d_M_record_45 : decode M_M_record.2.1 45 = .ok (.irem, 1) := by decide +kernel
theorem d_M_record_46 : decode M_M_record.2.1 46 = .ok (.istore 5, 2) := by decide +kernel
theorem d_M_record_48 : decode M_M_record.2.1 48 = .ok (.aload_n 0, 1) := by decide +kernel
theorem d_M_record_49 : decode M_M_record.2.1 49 = .ok (.getfield 30, 3) := by decide +kernel
theorem d_M_record_52 : decode M_M_record.2.1 52 = .ok (.iload 4, 2) := by decide +kernel
theorem d_M_record_54 : decode M_M_record.2.1 54 = .ok (.baload, 1) := by decide +kernel
theorem d_M_record_55 : decode M_M_record.2.1 55 = .ok (.ifCond .ne 7, 3) := by decide +kernel
theorem d_M_record_58 : decode M_M_record.2.1 58 = .ok (.iconst (-1), 1) := by decide +kernel
theorem d_M_record_59 : decode M_M_record.2.1 59 = .ok (.goto 44, 3) := by decide +kernel
theorem d_M_record_62 : decode M_M_record.2.1 62 = .ok (.iload 5, 2) := by decide +kernel
theorem d_M_record_64 : decode M_M_record.2.1 64 = .ok (.ifCond .ne 13, 3) := by decide +kernel
theorem d_M_record_67 : decode M_M_record.2.1 67 = .ok (.aload_n 0, 1) := by decide +kernel
theorem d_M_record_68 : decode M_M_record.2.1 68 = .ok (.getfield 33, 3) := by decide +kernel
theorem d_M_record_71 : decode M_M_record.2.1 71 = .ok (.iload 4, 2) := by decide +kernel
theorem d_M_record_73 : decode M_M_record.2.1 73 = .ok (.iaload, 1) := by decide +kernel
theorem d_M_record_74 : decode M_M_record.2.1 74 = .ok (.goto 29, 3) := by decide +kernel
theorem d_M_record_77 : decode M_M_record.2.1 77 = .ok (.iload 5, 2) := by decide +kernel
theorem d_M_record_79 : decode M_M_record.2.1 79 = .ok (.iconst 1, 1) := by decide +kernel
theorem d_M_record_80 : decode M_M_record.2.1 80 = .ok (.if_icmp .ne 13, 3) := by decide +kernel
theorem d_M_record_83 : decode M_M_record.2.1 83 = .ok (.aload_n 0, 1) := by decide +kernel
theorem d_M_record_84 : decode M_M_record.2.1 84 = .ok (.getfield 36, 3) := by decide +kernel
theorem d_M_record_87 : decode M_M_record.2.1 87 = .ok (.iload 4, 2) := by decide +kernel
theorem d_M_record_89 : decode M_M_record.2.1 89 = .ok (.iaload, 1) := by decide +kernel
theorem d_M_record_90 : decode M_M_record.2.1 90 = .ok (.goto 13, 3) := by decide +kernel
theorem d_M_record_93 : decode M_M_record.2.1 93 = .ok (.aload_n 0, 1) := by decide +kernel
theorem d_M_record_94 : decode M_M_record.2.1 94 = .ok (.getfield 36, 3) := by decide +kernel
theorem d_M_record_97 : decode M_M_record.2.1 97 = .ok (.iload 4, 2) := by decide +kernel
theorem d_M_record_99 : decode M_M_record.2.1 99 = .ok (.iaload, 1) := by decide +kernel
theorem d_M_record_100 : decode M_M_record.2.1 100 = .ok (.invokestatic 83, 3) := by decide +kernel
theorem d_M_record_103 : decode M_M_record.2.1 103 = .ok (.ireturn, 1) := by decide +kernel
theorem d_M_refused_0 : decode M_M_refused.2.1 0 = .ok (.iload_n 1, 1) := by decide +kernel
theorem d_M_refused_1 : decode M_M_refused.2.1 1 = .ok (.invokestatic 125, 3) := by decide +kernel
theorem d_M_refused_4 : decode M_M_refused.2.1 4 = .ok (.ifCond .ne 8, 3) := by decide +kernel
theorem d_M_refused_7 : decode M_M_refused.2.1 7 = .ok (.bipush (-2), 2) := by decide +kernel
theorem d_M_refused_9 : decode M_M_refused.2.1 9 = .ok (.goto 32, 3) := by decide +kernel
theorem d_M_refused_12 : decode M_M_refused.2.1 12 = .ok (.aload_n 0, 1) := by decide +kernel
theorem d_M_refused_13 : decode M_M_refused.2.1 13 = .ok (.getfield 45, 3) := by decide +kernel
theorem d_M_refused_16 : decode M_M_refused.2.1 16 = .ok (.iload_n 1, 1) := by decide +kernel
theorem d_M_refused_17 : decode M_M_refused.2.1 17 = .ok (.baload, 1) := by decide +kernel
theorem d_M_refused_18 : decode M_M_refused.2.1 18 = .ok (.ifCond .eq 8, 3) := by decide +kernel
theorem d_M_refused_21 : decode M_M_refused.2.1 21 = .ok (.bipush (-3), 2) := by decide +kernel
theorem d_M_refused_23 : decode M_M_refused.2.1 23 = .ok (.goto 18, 3) := by decide +kernel
theorem d_M_refused_26 : decode M_M_refused.2.1 26 = .ok (.aload_n 0, 1) := by decide +kernel
theorem d_M_refused_27 : decode M_M_refused.2.1 27 = .ok (.invokevirtual 107, 3) := by decide +kernel
theorem d_M_refused_30 : decode M_M_refused.2.1 30 = .ok (.bipush 9, 2) := by decide +kernel
theorem d_M_refused_32 : decode M_M_refused.2.1 32 = .ok (.if_icmp .ge 8, 3) := by decide +kernel
theorem d_M_refused_35 : decode M_M_refused.2.1 35 = .ok (.bipush (-4), 2) := by decide +kernel
theorem d_M_refused_37 : decode M_M_refused.2.1 37 = .ok (.goto 4, 3) := by decide +kernel
theorem d_M_refused_40 : decode M_M_refused.2.1 40 = .ok (.iconst 0, 1) := by decide +kernel
theorem d_M_refused_41 : decode M_M_refused.2.1 41 = .ok (.ireturn, 1) := by decide +kernel
theorem d_M_remove_0 : decode M_M_remove.2.1 0 = .ok (.aload_n 0, 1) := by decide +kernel
theorem d_M_remove_1 : decode M_M_remove.2.1 1 = .ok (.iload_n 1, 1) := by decide +kernel
theorem d_M_remove_2 : decode M_M_remove.2.1 2 = .ok (.invokevirtual 128, 3) := by decide +kernel
theorem d_M_remove_5 : decode M_M_remove.2.1 5 = .ok (.istore_n 2, 1) := by decide +kernel
theorem d_M_remove_6 : decode M_M_remove.2.1 6 = .ok (.iload_n 2, 1) := by decide +kernel
theorem d_M_remove_7 : decode M_M_remove.2.1 7 = .ok (.ifCond .eq 5, 3) := by decide +kernel
theorem d_M_remove_10 : decode M_M_remove.2.1 10 = .ok (.iload_n 2, 1) := by decide +kernel
theorem d_M_remove_11 : decode M_M_remove.2.1 11 = .ok (.ireturn, 1) := by decide +kernel
theorem d_M_remove_12 : decode M_M_remove.2.1 12 = .ok (.aload_n 0, 1) := by decide +kernel
theorem d_M_remove_13 : decode M_M_remove.2.1 13 = .ok (.getfield 96, 3) := by decide +kernel
theorem d_M_remove_16 : decode M_M_remove.2.1 16 = .ok (.istore_n 3, 1) := by decide +kernel
theorem d_M_remove_17 : decode M_M_remove.2.1 17 = .ok (.aload_n 0, 1) := by decide +kernel
theorem d_M_remove_18 : decode M_M_remove.2.1 18 = .ok (.iconst 0, 1) := by decide +kernel
theorem d_M_remove_19 : decode M_M_remove.2.1 19 = .ok (.putfield 96, 3) := by decide +kernel
theorem d_M_remove_22 : decode M_M_remove.2.1 22 = .ok (.aload_n 0, 1) := by decide +kernel
theorem d_M_remove_23 : decode M_M_remove.2.1 23 = .ok (.iload_n 1, 1) := by decide +kernel
theorem d_M_remove_24 : decode M_M_remove.2.1 24 = .ok (.invokevirtual 134, 3) := by decide +kernel
theorem d_M_remove_27 : decode M_M_remove.2.1 27 = .ok (.istore 4, 2) := by decide +kernel
theorem d_M_remove_29 : decode M_M_remove.2.1 29 = .ok (.aload_n 0, 1) := by decide +kernel
theorem d_M_remove_30 : decode M_M_remove.2.1 30 = .ok (.iload_n 3, 1) := by decide +kernel
theorem d_M_remove_31 : decode M_M_remove.2.1 31 = .ok (.putfield 96, 3) := by decide +kernel
theorem d_M_remove_34 : decode M_M_remove.2.1 34 = .ok (.iload 4, 2) := by decide +kernel
theorem d_M_remove_36 : decode M_M_remove.2.1 36 = .ok (.ireturn, 1) := by decide +kernel
theorem d_M_row_0 : decode M_M_row.2.1 0 = .ok (.iconst 1, 1) := by decide +kernel
theorem d_M_row_1 : decode M_M_row.2.1 1 = .ok (.istore_n 2, 1) := by decide +kernel
theorem d_M_row_2 : decode M_M_row.2.1 2 = .ok (.iconst 0, 1) := by decide +kernel
theorem d_M_row_3 : decode M_M_row.2.1 3 = .ok (.istore_n 3, 1) := by decide +kernel
theorem d_M_row_4 : decode M_M_row.2.1 4 = .ok (.iload_n 3, 1) := by decide +kernel
theorem d_M_row_5 : decode M_M_row.2.1 5 = .ok (.iload_n 1, 1) := by decide +kernel
theorem d_M_row_6 : decode M_M_row.2.1 6 = .ok (.if_icmp .ge 17, 3) := by decide +kernel
theorem d_M_row_9 : decode M_M_row.2.1 9 = .ok (.iload_n 2, 1) := by decide +kernel
theorem d_M_row_10 : decode M_M_row.2.1 10 = .ok (.iload_n 0, 1) := by decide +kernel
theorem d_M_row_11 : decode M_M_row.2.1 11 = .ok (.iconst 1, 1) := by decide +kernel
theorem d_M_row_12 : decode M_M_row.2.1 12 = .ok (.iadd, 1) := by decide +kernel
theorem d_M_row_13 : decode M_M_row.2.1 13 = .ok (.invokestatic 64, 3) := by decide +kernel
theorem d_M_row_16 : decode M_M_row.2.1 16 = .ok (.istore_n 2, 1) := by decide +kernel
theorem d_M_row_17 : decode M_M_row.2.1 17 = .ok (.iinc 3 1, 3) := by decide +kernel
theorem d_M_row_20 : decode M_M_row.2.1 20 = .ok (.goto (-16), 3) := by decide +kernel
theorem d_M_row_23 : decode M_M_row.2.1 23 = .ok (.iload_n 2, 1) := by decide +kernel
theorem d_M_row_24 : decode M_M_row.2.1 24 = .ok (.ireturn, 1) := by decide +kernel
theorem d_M_rowAt_0 : decode M_M_rowAt.2.1 0 = .ok (.iload_n 1, 1) := by decide +kernel
theorem d_M_rowAt_1 : decode M_M_rowAt.2.1 1 = .ok (.invokestatic 72, 3) := by decide +kernel
theorem d_M_rowAt_4 : decode M_M_rowAt.2.1 4 = .ok (.ifCond .eq 21, 3) := by decide +kernel
theorem d_M_rowAt_7 : decode M_M_rowAt.2.1 7 = .ok (.iload_n 2, 1) := by decide +kernel
theorem d_M_rowAt_8 : decode M_M_rowAt.2.1 8 = .ok (.iconst 0, 1) := by decide +kernel
theorem d_M_rowAt_9 : decode M_M_rowAt.2.1 9 = .ok (.bipush 7, 2) := by decide +kernel
theorem d_M_rowAt_11 : decode M_M_rowAt.2.1 11 = .ok (.invokestatic 60, 3) := by decide +kernel
theorem d_M_rowAt_14 : decode M_M_rowAt.2.1 14 = .ok (.ifCond .eq 11, 3) := by decide +kernel
theorem d_M_rowAt_17 : decode M_M_rowAt.2.1 17 = .ok (.iload_n 1, 1) := by decide +kernel
theorem d_M_rowAt_18 : decode M_M_rowAt.2.1 18 = .ok (.iload_n 2, 1) := by decide +kernel
theorem d_M_rowAt_19 : decode M_M_rowAt.2.1 19 = .ok (.invokestatic 76, 3) := by decide +kernel
theorem d_M_rowAt_22 : decode M_M_rowAt.2.1 22 = .ok (.goto 5, 3) := by decide +kernel
theorem d_M_rowAt_25 : decode M_M_rowAt.2.1 25 = .ok (.bipush (-2), 2) := by decide +kernel
theorem d_M_rowAt_27 : decode M_M_rowAt.2.1 27 = .ok (.ireturn, 1) := by decide +kernel
theorem d_M_sent_0 : decode M_M_sent.2.1 0 = .ok (.iload_n 1, 1) := by decide +kernel
theorem d_M_sent_1 : decode M_M_sent.2.1 1 = .ok (.invokestatic 72, 3) := by decide +kernel
theorem d_M_sent_4 : decode M_M_sent.2.1 4 = .ok (.ifCond .eq 12, 3) := by decide +kernel
theorem d_M_sent_7 : decode M_M_sent.2.1 7 = .ok (.aload_n 0, 1) := by decide +kernel
theorem d_M_sent_8 : decode M_M_sent.2.1 8 = .ok (.getfield 21, 3) := by decide +kernel
theorem d_M_sent_11 : decode M_M_sent.2.1 11 = .ok (.iload_n 1, 1) := by decide +kernel
theorem d_M_sent_12 : decode M_M_sent.2.1 12 = .ok (.iaload, 1) := by decide +kernel
theorem d_M_sent_13 : decode M_M_sent.2.1 13 = .ok (.goto 5, 3) := by decide +kernel
theorem d_M_sent_16 : decode M_M_sent.2.1 16 = .ok (.bipush (-2), 2) := by decide +kernel
theorem d_M_sent_18 : decode M_M_sent.2.1 18 = .ok (.ireturn, 1) := by decide +kernel
theorem d_M_settle_0 : decode M_M_settle.2.1 0 = .ok (.iload_n 1, 1) := by decide +kernel
theorem d_M_settle_1 : decode M_M_settle.2.1 1 = .ok (.invokestatic 125, 3) := by decide +kernel
theorem d_M_settle_4 : decode M_M_settle.2.1 4 = .ok (.ifCond .ne 6, 3) := by decide +kernel
theorem d_M_settle_7 : decode M_M_settle.2.1 7 = .ok (.bipush (-2), 2) := by decide +kernel
theorem d_M_settle_9 : decode M_M_settle.2.1 9 = .ok (.ireturn, 1) := by decide +kernel
theorem d_M_settle_10 : decode M_M_settle.2.1 10 = .ok (.aload_n 0, 1) := by decide +kernel
theorem d_M_settle_11 : decode M_M_settle.2.1 11 = .ok (.getfield 45, 3) := by decide +kernel
theorem d_M_settle_14 : decode M_M_settle.2.1 14 = .ok (.iload_n 1, 1) := by decide +kernel
theorem d_M_settle_15 : decode M_M_settle.2.1 15 = .ok (.baload, 1) := by decide +kernel
theorem d_M_settle_16 : decode M_M_settle.2.1 16 = .ok (.ifCond .ne 6, 3) := by decide +kernel
theorem d_M_settle_19 : decode M_M_settle.2.1 19 = .ok (.bipush (-3), 2) := by decide +kernel
theorem d_M_settle_21 : decode M_M_settle.2.1 21 = .ok (.ireturn, 1) := by decide +kernel
theorem d_M_settle_22 : decode M_M_settle.2.1 22 = .ok (.aload_n 0, 1) := by decide +kernel
theorem d_M_settle_23 : decode M_M_settle.2.1 23 = .ok (.getfield 45, 3) := by decide +kernel
theorem d_M_settle_26 : decode M_M_settle.2.1 26 = .ok (.iload_n 1, 1) := by decide +kernel
theorem d_M_settle_27 : decode M_M_settle.2.1 27 = .ok (.iconst 0, 1) := by decide +kernel
theorem d_M_settle_28 : decode M_M_settle.2.1 28 = .ok (.bastore, 1) := by decide +kernel
theorem d_M_settle_29 : decode M_M_settle.2.1 29 = .ok (.iconst 0, 1) := by decide +kernel
theorem d_M_settle_30 : decode M_M_settle.2.1 30 = .ok (.istore_n 2, 1) := by decide +kernel
theorem d_M_settle_31 : decode M_M_settle.2.1 31 = .ok (.iconst 0, 1) := by decide +kernel
theorem d_M_settle_32 : decode M_M_settle.2.1 32 = .ok (.istore_n 3, 1) := by decide +kernel
theorem d_M_settle_33 : decode M_M_settle.2.1 33 = .ok (.iload_n 3, 1) := by decide +kernel
theorem d_M_settle_34 : decode M_M_settle.2.1 34 = .ok (.bipush 12, 2) := by decide +kernel
theorem d_M_settle_36 : decode M_M_settle.2.1 36 = .ok (.if_icmp .ge 53, 3) := by decide +kernel
theorem d_M_settle_39 : decode M_M_settle.2.1 39 = .ok (.iload_n 3, 1) := by decide +kernel
theorem d_M_settle_40 : decode M_M_settle.2.1 40 = .ok (.iload_n 1, 1) := by decide +kernel
theorem d_M_settle_41 : decode M_M_settle.2.1 41 = .ok (.iconst 0, 1) := by decide +kernel
theorem d_M_settle_42 : decode M_M_settle.2.1 42 = .ok (.invokestatic 79, 3) := by decide +kernel
theorem d_M_settle_45 : decode M_M_settle.2.1 45 = .ok (.istore 4, 2) := by decide +kernel
theorem d_M_settle_47 : decode M_M_settle.2.1 47 = .ok (.iload_n 2, 1) := by decide +kernel
theorem d_M_settle_48 : decode M_M_settle.2.1 48 = .ok (.ifCond .ne 29, 3) := by decide +kernel
theorem d_M_settle_51 : decode M_M_settle.2.1 51 = .ok (.aload_n 0, 1) := by decide +kernel
theorem d_M_settle_52 : decode M_M_settle.2.1 52 = .ok (.getfield 30, 3) := by decide +kernel
theorem d_M_settle_55 : decode M_M_settle.2.1 55 = .ok (.iload 4, 2) := by decide +kernel
theorem d_M_settle_57 : decode M_M_settle.2.1 57 = .ok (.baload, 1) := by decide +kernel
theorem d_M_settle_58 : decode M_M_settle.2.1 58 = .ok (.ifCond .eq 23, 3) := by decide +kernel
theorem d_M_settle_61 : decode M_M_settle.2.1 61 = .ok (.aload_n 0, 1) := by decide +kernel
theorem d_M_settle_62 : decode M_M_settle.2.1 62 = .ok (.getfield 33, 3) := by decide +kernel
theorem d_M_settle_65 : decode M_M_settle.2.1 65 = .ok (.iload 4, 2) := by decide +kernel
theorem d_M_settle_67 : decode M_M_settle.2.1 67 = .ok (.iaload, 1) := by decide +kernel
theorem d_M_settle_68 : decode M_M_settle.2.1 68 = .ok (.aload_n 0, 1) := by decide +kernel
theorem d_M_settle_69 : decode M_M_settle.2.1 69 = .ok (.getfield 42, 3) := by decide +kernel
theorem d_M_settle_72 : decode M_M_settle.2.1 72 = .ok (.iload_n 1, 1) := by decide +kernel
theorem d_M_settle_73 : decode M_M_settle.2.1 73 = .ok (.iaload, 1) := by decide +kernel
theorem d_M_settle_74 : decode M_M_settle.2.1 74 = .ok (.if_icmp .ne 7, 3) := by decide +kernel
theorem d_M_settle_77 : decode M_M_settle.2.1 77 = .ok (.iconst 1, 1) := by decide +kernel
theorem d_M_settle_78 : decode M_M_settle.2.1 78 = .ok (.goto 4, 3) := by decide +kernel
theorem d_M_settle_81 : decode M_M_settle.2.1 81 = .ok (.iconst 0, 1) := by decide +kernel
theorem d_M_settle_82 : decode M_M_settle.2.1 82 = .ok (.istore_n 2, 1) := by decide +kernel
theorem d_M_settle_83 : decode M_M_settle.2.1 83 = .ok (.iinc 3 1, 3) := by decide +kernel
theorem d_M_settle_86 : decode M_M_settle.2.1 86 = .ok (.goto (-53), 3) := by decide +kernel
theorem d_M_settle_89 : decode M_M_settle.2.1 89 = .ok (.iconst 0, 1) := by decide +kernel
theorem d_M_settle_90 : decode M_M_settle.2.1 90 = .ok (.istore_n 3, 1) := by decide +kernel
theorem d_M_settle_91 : decode M_M_settle.2.1 91 = .ok (.iload_n 3, 1) := by decide +kernel
theorem d_M_settle_92 : decode M_M_settle.2.1 92 = .ok (.bipush 12, 2) := by decide +kernel
theorem d_M_settle_94 : decode M_M_settle.2.1 94 = .ok (.if_icmp .ge 72, 3) := by decide +kernel
theorem d_M_settle_97 : decode M_M_settle.2.1 97 = .ok (.iload_n 3, 1) := by decide +kernel
theorem d_M_settle_98 : decode M_M_settle.2.1 98 = .ok (.iload_n 1, 1) := by decide +kernel
theorem d_M_settle_99 : decode M_M_settle.2.1 99 = .ok (.iconst 1, 1) := by decide +kernel
theorem d_M_settle_100 : decode M_M_settle.2.1 100 = .ok (.invokestatic 79, 3) := by decide +kernel
theorem d_M_settle_103 : decode M_M_settle.2.1 103 = .ok (.istore 4, 2) := by decide +kernel
theorem d_M_settle_105 : decode M_M_settle.2.1 105 = .ok (.aload_n 0, 1) := by decide +kernel
theorem d_M_settle_106 : decode M_M_settle.2.1 106 = .ok (.getfield 17, 3) := by decide +kernel
theorem d_M_settle_109 : decode M_M_settle.2.1 109 = .ok (.iload_n 3, 1) := by decide +kernel
theorem d_M_settle_110 : decode M_M_settle.2.1 110 = .ok (.baload, 1) := by decide +kernel
theorem d_M_settle_111 : decode M_M_settle.2.1 111 = .ok (.ifCond .ne 49, 3) := by decide +kernel
theorem d_M_settle_114 : decode M_M_settle.2.1 114 = .ok (.aload_n 0, 1) := by decide +kernel
theorem d_M_settle_115 : decode M_M_settle.2.1 115 = .ok (.getfield 30, 3) := by decide +kernel
theorem d_M_settle_118 : decode M_M_settle.2.1 118 = .ok (.iload 4, 2) := by decide +kernel
theorem d_M_settle_120 : decode M_M_settle.2.1 120 = .ok (.baload, 1) := by decide +kernel
theorem d_M_settle_121 : decode M_M_settle.2.1 121 = .ok (.ifCond .eq 39, 3) := by decide +kernel
theorem d_M_settle_124 : decode M_M_settle.2.1 124 = .ok (.aload_n 0, 1) := by decide +kernel
theorem d_M_settle_125 : decode M_M_settle.2.1 125 = .ok (.getfield 33, 3) := by decide +kernel
theorem d_M_settle_128 : decode M_M_settle.2.1 128 = .ok (.iload 4, 2) := by decide +kernel
theorem d_M_settle_130 : decode M_M_settle.2.1 130 = .ok (.iaload, 1) := by decide +kernel
theorem d_M_settle_131 : decode M_M_settle.2.1 131 = .ok (.aload_n 0, 1) := by decide +kernel
theorem d_M_settle_132 : decode M_M_settle.2.1 132 = .ok (.getfield 42, 3) := by decide +kernel
theorem d_M_settle_135 : decode M_M_settle.2.1 135 = .ok (.iload_n 1, 1) := by decide +kernel
theorem d_M_settle_136 : decode M_M_settle.2.1 136 = .ok (.iaload, 1) := by decide +kernel
theorem d_M_settle_137 : decode M_M_settle.2.1 137 = .ok (.if_icmp .ne 23, 3) := by decide +kernel
theorem d_M_settle_140 : decode M_M_settle.2.1 140 = .ok (.iload_n 2, 1) := by decide +kernel
theorem d_M_settle_141 : decode M_M_settle.2.1 141 = .ok (.ifCond .eq 12, 3) := by decide +kernel
theorem d_M_settle_144 : decode M_M_settle.2.1 144 = .ok (.aload_n 0, 1) := by decide +kernel
theorem d_M_settle_145 : decode M_M_settle.2.1 145 = .ok (.iload_n 3, 1) := by decide +kernel
theorem d_M_settle_146 : decode M_M_settle.2.1 146 = .ok (.iload_n 1, 1) := by decide +kernel
theorem d_M_settle_147 : decode M_M_settle.2.1 147 = .ok (.invokevirtual 119, 3) := by decide +kernel
theorem d_M_settle_150 : decode M_M_settle.2.1 150 = .ok (.goto 10, 3) := by decide +kernel
theorem d_M_settle_153 : decode M_M_settle.2.1 153 = .ok (.aload_n 0, 1) := by decide +kernel
theorem d_M_settle_154 : decode M_M_settle.2.1 154 = .ok (.iload_n 3, 1) := by decide +kernel
theorem d_M_settle_155 : decode M_M_settle.2.1 155 = .ok (.iload_n 1, 1) := by decide +kernel
theorem d_M_settle_156 : decode M_M_settle.2.1 156 = .ok (.iconst 1, 1) := by decide +kernel
theorem d_M_settle_157 : decode M_M_settle.2.1 157 = .ok (.invokevirtual 89, 3) := by decide +kernel
theorem d_M_settle_160 : decode M_M_settle.2.1 160 = .ok (.iinc 3 1, 3) := by decide +kernel
theorem d_M_settle_163 : decode M_M_settle.2.1 163 = .ok (.goto (-72), 3) := by decide +kernel
theorem d_M_settle_166 : decode M_M_settle.2.1 166 = .ok (.iload_n 2, 1) := by decide +kernel
theorem d_M_settle_167 : decode M_M_settle.2.1 167 = .ok (.ifCond .eq 7, 3) := by decide +kernel
theorem d_M_settle_170 : decode M_M_settle.2.1 170 = .ok (.iconst 1, 1) := by decide +kernel
theorem d_M_settle_171 : decode M_M_settle.2.1 171 = .ok (.goto 4, 3) := by decide +kernel
theorem d_M_settle_174 : decode M_M_settle.2.1 174 = .ok (.iconst 0, 1) := by decide +kernel
theorem d_M_settle_175 : decode M_M_settle.2.1 175 = .ok (.ireturn, 1) := by decide +kernel
theorem d_M_shares_0 : decode M_M_shares.2.1 0 = .ok (.iload_n 1, 1) := by decide +kernel
theorem d_M_shares_1 : decode M_M_shares.2.1 1 = .ok (.iload_n 2, 1) := by decide +kernel
theorem d_M_shares_2 : decode M_M_shares.2.1 2 = .ok (.iconst 1, 1) := by decide +kernel
theorem d_M_shares_3 : decode M_M_shares.2.1 3 = .ok (.invokestatic 79, 3) := by decide +kernel
theorem d_M_shares_6 : decode M_M_shares.2.1 6 = .ok (.istore_n 3, 1) := by decide +kernel
theorem d_M_shares_7 : decode M_M_shares.2.1 7 = .ok (.iconst 0, 1) := by decide +kernel
theorem d_M_shares_8 : decode M_M_shares.2.1 8 = .ok (.istore 4, 2) := by decide +kernel
theorem d_M_shares_10 : decode M_M_shares.2.1 10 = .ok (.iload 4, 2) := by decide +kernel
theorem d_M_shares_12 : decode M_M_shares.2.1 12 = .ok (.aload_n 0, 1) := by decide +kernel
theorem d_M_shares_13 : decode M_M_shares.2.1 13 = .ok (.getfield 36, 3) := by decide +kernel
theorem d_M_shares_16 : decode M_M_shares.2.1 16 = .ok (.iload_n 3, 1) := by decide +kernel
theorem d_M_shares_17 : decode M_M_shares.2.1 17 = .ok (.iaload, 1) := by decide +kernel
theorem d_M_shares_18 : decode M_M_shares.2.1 18 = .ok (.invokestatic 83, 3) := by decide +kernel
theorem d_M_shares_21 : decode M_M_shares.2.1 21 = .ok (.if_icmp .ge 85, 3) := by decide +kernel
theorem d_M_shares_24 : decode M_M_shares.2.1 24 = .ok (.iconst 0, 1) := by decide +kernel
theorem d_M_shares_25 : decode M_M_shares.2.1 25 = .ok (.istore 5, 2) := by decide +kernel
theorem d_M_shares_27 : decode M_M_shares.2.1 27 = .ok (.iload 5, 2) := by decide +kernel
theorem d_M_shares_29 : decode M_M_shares.2.1 29 = .ok (.bipush 8, 2) := by decide +kernel
theorem d_M_shares_31 : decode M_M_shares.2.1 31 = .ok (.if_icmp .ge 69, 3) := by decide +kernel
theorem d_M_shares_34 : decode M_M_shares.2.1 34 = .ok (.iconst 0, 1) := by decide +kernel
theorem d_M_shares_35 : decode M_M_shares.2.1 35 = .ok (.istore 6, 2) := by decide +kernel
theorem d_M_shares_37 : decode M_M_shares.2.1 37 = .ok (.iconst 0, 1) := by decide +kernel
theorem d_M_shares_38 : decode M_M_shares.2.1 38 = .ok (.istore 7, 2) := by decide +kernel
theorem d_M_shares_40 : decode M_M_shares.2.1 40 = .ok (.iload 7, 2) := by decide +kernel
theorem d_M_shares_42 : decode M_M_shares.2.1 42 = .ok (.bipush 8, 2) := by decide +kernel
theorem d_M_shares_44 : decode M_M_shares.2.1 44 = .ok (.if_icmp .ge 33, 3) := by decide +kernel
theorem d_M_shares_47 : decode M_M_shares.2.1 47 = .ok (.iload 6, 2) := by decide +kernel
theorem d_M_shares_49 : decode M_M_shares.2.1 49 = .ok (.iload_n 1, 1) := by decide +kernel
theorem d_M_shares_50 : decode M_M_shares.2.1 50 = .ok (.iload 7, 2) := by decide +kernel
theorem d_M_shares_52 : decode M_M_shares.2.1 52 = .ok (.invokestatic 76, 3) := by decide +kernel
theorem d_M_shares_55 : decode M_M_shares.2.1 55 = .ok (.aload_n 0, 1) := by decide +kernel
theorem d_M_shares_56 : decode M_M_shares.2.1 56 = .ok (.iload 4, 2) := by decide +kernel
theorem d_M_shares_58 : decode M_M_shares.2.1 58 = .ok (.iload 7, 2) := by decide +kernel
theorem d_M_shares_60 : decode M_M_shares.2.1 60 = .ok (.iload 5, 2) := by decide +kernel
theorem d_M_shares_62 : decode M_M_shares.2.1 62 = .ok (.invokevirtual 99, 3) := by decide +kernel
theorem d_M_shares_65 : decode M_M_shares.2.1 65 = .ok (.invokestatic 64, 3) := by decide +kernel
theorem d_M_shares_68 : decode M_M_shares.2.1 68 = .ok (.ixor, 1) := by decide +kernel
theorem d_M_shares_69 : decode M_M_shares.2.1 69 = .ok (.istore 6, 2) := by decide +kernel
theorem d_M_shares_71 : decode M_M_shares.2.1 71 = .ok (.iinc 7 1, 3) := by decide +kernel
theorem d_M_shares_74 : decode M_M_shares.2.1 74 = .ok (.goto (-34), 3) := by decide +kernel
theorem d_M_shares_77 : decode M_M_shares.2.1 77 = .ok (.aload_n 0, 1) := by decide +kernel
theorem d_M_shares_78 : decode M_M_shares.2.1 78 = .ok (.getfield 27, 3) := by decide +kernel
theorem d_M_shares_81 : decode M_M_shares.2.1 81 = .ok (.aload_n 0, 1) := by decide +kernel
theorem d_M_shares_82 : decode M_M_shares.2.1 82 = .ok (.iload_n 1, 1) := by decide +kernel
theorem d_M_shares_83 : decode M_M_shares.2.1 83 = .ok (.iload_n 3, 1) := by decide +kernel
theorem d_M_shares_84 : decode M_M_shares.2.1 84 = .ok (.iload 4, 2) := by decide +kernel
theorem d_M_shares_86 : decode M_M_shares.2.1 86 = .ok (.iload 5, 2) := by decide +kernel
theorem d_M_shares_88 : decode M_M_shares.2.1 88 = .ok (.invokevirtual 103, 3) := by decide +kernel
theorem d_M_shares_91 : decode M_M_shares.2.1 91 = .ok (.iload 6, 2) := by decide +kernel
theorem d_M_shares_93 : decode M_M_shares.2.1 93 = .ok (.iastore, 1) := by decide +kernel
theorem d_M_shares_94 : decode M_M_shares.2.1 94 = .ok (.iinc 5 1, 3) := by decide +kernel
theorem d_M_shares_97 : decode M_M_shares.2.1 97 = .ok (.goto (-70), 3) := by decide +kernel
theorem d_M_shares_100 : decode M_M_shares.2.1 100 = .ok (.iinc 4 1, 3) := by decide +kernel
theorem d_M_shares_103 : decode M_M_shares.2.1 103 = .ok (.goto (-93), 3) := by decide +kernel
theorem d_M_shares_106 : decode M_M_shares.2.1 106 = .ok (.return_, 1) := by decide +kernel
theorem d_M_sizeOf_0 : decode M_M_sizeOf.2.1 0 = .ok (.iconst 0, 1) := by decide +kernel
theorem d_M_sizeOf_1 : decode M_M_sizeOf.2.1 1 = .ok (.istore_n 3, 1) := by decide +kernel
theorem d_M_sizeOf_2 : decode M_M_sizeOf.2.1 2 = .ok (.aload_n 0, 1) := by decide +kernel
theorem d_M_sizeOf_3 : decode M_M_sizeOf.2.1 3 = .ok (.iload_n 3, 1) := by decide +kernel
theorem d_M_sizeOf_4 : decode M_M_sizeOf.2.1 4 = .ok (.iload_n 1, 1) := by decide +kernel
theorem d_M_sizeOf_5 : decode M_M_sizeOf.2.1 5 = .ok (.iload_n 2, 1) := by decide +kernel
theorem d_M_sizeOf_6 : decode M_M_sizeOf.2.1 6 = .ok (.invokevirtual 93, 3) := by decide +kernel
theorem d_M_sizeOf_9 : decode M_M_sizeOf.2.1 9 = .ok (.ifCond .ne 9, 3) := by decide +kernel
theorem d_M_sizeOf_12 : decode M_M_sizeOf.2.1 12 = .ok (.iinc 3 1, 3) := by decide +kernel
theorem d_M_sizeOf_15 : decode M_M_sizeOf.2.1 15 = .ok (.goto (-13), 3) := by decide +kernel
theorem d_M_sizeOf_18 : decode M_M_sizeOf.2.1 18 = .ok (.aload_n 0, 1) := by decide +kernel
theorem d_M_sizeOf_19 : decode M_M_sizeOf.2.1 19 = .ok (.getfield 36, 3) := by decide +kernel
theorem d_M_sizeOf_22 : decode M_M_sizeOf.2.1 22 = .ok (.iload_n 3, 1) := by decide +kernel
theorem d_M_sizeOf_23 : decode M_M_sizeOf.2.1 23 = .ok (.iload_n 1, 1) := by decide +kernel
theorem d_M_sizeOf_24 : decode M_M_sizeOf.2.1 24 = .ok (.iconst 0, 1) := by decide +kernel
theorem d_M_sizeOf_25 : decode M_M_sizeOf.2.1 25 = .ok (.invokestatic 79, 3) := by decide +kernel
theorem d_M_sizeOf_28 : decode M_M_sizeOf.2.1 28 = .ok (.iaload, 1) := by decide +kernel
theorem d_M_sizeOf_29 : decode M_M_sizeOf.2.1 29 = .ok (.ireturn, 1) := by decide +kernel
theorem d_M_solve_0 : decode M_M_solve.2.1 0 = .ok (.iconst 0, 1) := by decide +kernel
theorem d_M_solve_1 : decode M_M_solve.2.1 1 = .ok (.istore_n 3, 1) := by decide +kernel
theorem d_M_solve_2 : decode M_M_solve.2.1 2 = .ok (.iload_n 3, 1) := by decide +kernel
theorem d_M_solve_3 : decode M_M_solve.2.1 3 = .ok (.iload_n 1, 1) := by decide +kernel
theorem d_M_solve_4 : decode M_M_solve.2.1 4 = .ok (.if_icmp .ge 220, 3) := by decide +kernel
theorem d_M_solve_7 : decode M_M_solve.2.1 7 = .ok (.iload_n 3, 1) := by decide +kernel
theorem d_M_solve_8 : decode M_M_solve.2.1 8 = .ok (.istore 4, 2) := by decide +kernel
theorem d_M_solve_10 : decode M_M_solve.2.1 10 = .ok (.aload_n 0, 1) := by decide +kernel
theorem d_M_solve_11 : decode M_M_solve.2.1 11 = .ok (.getfield 51, 3) := by decide +kernel
theorem d_M_solve_14 : decode M_M_solve.2.1 14 = .ok (.bipush 16, 2) := by decide +kernel
theorem d_M_solve_16 : decode M_M_solve.2.1 16 = .ok (.iload 4, 2) := by decide +kernel
theorem d_M_solve_18 : decode M_M_solve.2.1 18 = .ok (.imul, 1) := by decide +kernel
theorem d_M_solve_19 : decode M_M_solve.2.1 19 = .ok (.iload_n 3, 1) := by decide +kernel
theorem d_M_solve_20 : decode M_M_solve.2.1 20 = .ok (.iadd, 1) := by decide +kernel
theorem d_M_solve_21 : decode M_M_solve.2.1 21 = .ok (.iaload, 1) := by decide +kernel
theorem d_M_solve_22 : decode M_M_solve.2.1 22 = .ok (.ifCond .ne 9, 3) := by decide +kernel
theorem d_M_solve_25 : decode M_M_solve.2.1 25 = .ok (.iinc 4 1, 3) := by decide +kernel
theorem d_M_solve_28 : decode M_M_solve.2.1 28 = .ok (.goto (-18), 3) := by decide +kernel
theorem d_M_solve_31 : decode M_M_solve.2.1 31 = .ok (.aload_n 0, 1) := by decide +kernel
theorem d_M_solve_32 : decode M_M_solve.2.1 32 = .ok (.getfield 51, 3) := by decide +kernel
theorem d_M_solve_35 : decode M_M_solve.2.1 35 = .ok (.bipush 16, 2) := by decide +kernel
theorem d_M_solve_37 : decode M_M_solve.2.1 37 = .ok (.iload 4, 2) := by decide +kernel
theorem d_M_solve_39 : decode M_M_solve.2.1 39 = .ok (.imul, 1) := by decide +kernel
theorem d_M_solve_40 : decode M_M_solve.2.1 40 = .ok (.iload_n 3, 1) := by decide +kernel
theorem d_M_solve_41 : decode M_M_solve.2.1 41 = .ok (.iadd, 1) := by decide +kernel
theorem d_M_solve_42 : decode M_M_solve.2.1 42 = .ok (.iaload, 1) := by decide +kernel
theorem d_M_solve_43 : decode M_M_solve.2.1 43 = .ok (.invokestatic 68, 3) := by decide +kernel
theorem d_M_solve_46 : decode M_M_solve.2.1 46 = .ok (.istore 5, 2) := by decide +kernel
theorem d_M_solve_48 : decode M_M_solve.2.1 48 = .ok (.iconst 0, 1) := by decide +kernel
theorem d_M_solve_49 : decode M_M_solve.2.1 49 = .ok (.istore 6, 2) := by decide +kernel
theorem d_M_solve_51 : decode M_M_solve.2.1 51 = .ok (.iload 6, 2) := by decide +kernel
theorem d_M_solve_53 : decode M_M_solve.2.1 53 = .ok (.iload_n 1, 1) := by decide +kernel
theorem d_M_solve_54 : decode M_M_solve.2.1 54 = .ok (.iload_n 2, 1) := by decide +kernel
theorem d_M_solve_55 : decode M_M_solve.2.1 55 = .ok (.iadd, 1) := by decide +kernel
theorem d_M_solve_56 : decode M_M_solve.2.1 56 = .ok (.if_icmp .ge 68, 3) := by decide +kernel
theorem d_M_solve_59 : decode M_M_solve.2.1 59 = .ok (.aload_n 0, 1) := by decide +kernel
theorem d_M_solve_60 : decode M_M_solve.2.1 60 = .ok (.getfield 51, 3) := by decide +kernel
theorem d_M_solve_63 : decode M_M_solve.2.1 63 = .ok (.bipush 16, 2) := by decide +kernel
theorem d_M_solve_65 : decode M_M_solve.2.1 65 = .ok (.iload 4, 2) := by decide +kernel
theorem d_M_solve_67 : decode M_M_solve.2.1 67 = .ok (.imul, 1) := by decide +kernel
theorem d_M_solve_68 : decode M_M_solve.2.1 68 = .ok (.iload 6, 2) := by decide +kernel
theorem d_M_solve_70 : decode M_M_solve.2.1 70 = .ok (.iadd, 1) := by decide +kernel
theorem d_M_solve_71 : decode M_M_solve.2.1 71 = .ok (.iaload, 1) := by decide +kernel
theorem d_M_solve_72 : decode M_M_solve.2.1 72 = .ok (.iload 5, 2) := by decide +kernel
theorem d_M_solve_74 : decode M_M_solve.2.1 74 = .ok (.invokestatic 64, 3) := by decide +kernel
theorem d_M_solve_77 : decode M_M_solve.2.1 77 = .ok (.istore 7, 2) := by decide +kernel
theorem d_M_solve_79 : decode M_M_solve.2.1 79 = .ok (.aload_n 0, 1) := by decide +kernel
theorem d_M_solve_80 : decode M_M_solve.2.1 80 = .ok (.getfield 51, 3) := by decide +kernel
theorem d_M_solve_83 : decode M_M_solve.2.1 83 = .ok (.bipush 16, 2) := by decide +kernel
theorem d_M_solve_85 : decode M_M_solve.2.1 85 = .ok (.iload 4, 2) := by decide +kernel
theorem d_M_solve_87 : decode M_M_solve.2.1 87 = .ok (.imul, 1) := by decide +kernel
theorem d_M_solve_88 : decode M_M_solve.2.1 88 = .ok (.iload 6, 2) := by decide +kernel
theorem d_M_solve_90 : decode M_M_solve.2.1 90 = .ok (.iadd, 1) := by decide +kernel
theorem d_M_solve_91 : decode M_M_solve.2.1 91 = .ok (.aload_n 0, 1) := by decide +kernel
theorem d_M_solve_92 : decode M_M_solve.2.1 92 = .ok (.getfield 51, 3) := by decide +kernel
theorem d_M_solve_95 : decode M_M_solve.2.1 95 = .ok (.bipush 16, 2) := by decide +kernel
theorem d_M_solve_97 : decode M_M_solve.2.1 97 = .ok (.iload_n 3, 1) := by decide +kernel
theorem d_M_solve_98 : decode M_M_solve.2.1 98 = .ok (.imul, 1) := by decide +kernel
theorem d_M_solve_99 : decode M_M_solve.2.1 99 = .ok (.iload 6, 2) := by decide +kernel
theorem d_M_solve_101 : decode M_M_solve.2.1 101 = .ok (.iadd, 1) := by decide +kernel
theorem d_M_solve_102 : decode M_M_solve.2.1 102 = .ok (.iaload, 1) := by decide +kernel
theorem d_M_solve_103 : decode M_M_solve.2.1 103 = .ok (.iastore, 1) := by decide +kernel
theorem d_M_solve_104 : decode M_M_solve.2.1 104 = .ok (.aload_n 0, 1) := by decide +kernel
theorem d_M_solve_105 : decode M_M_solve.2.1 105 = .ok (.getfield 51, 3) := by decide +kernel
theorem d_M_solve_108 : decode M_M_solve.2.1 108 = .ok (.bipush 16, 2) := by decide +kernel
theorem d_M_solve_110 : decode M_M_solve.2.1 110 = .ok (.iload_n 3, 1) := by decide +kernel
theorem d_M_solve_111 : decode M_M_solve.2.1 111 = .ok (.imul, 1) := by decide +kernel
theorem d_M_solve_112 : decode M_M_solve.2.1 112 = .ok (.iload 6, 2) := by decide +kernel
theorem d_M_solve_114 : decode M_M_solve.2.1 114 = .ok (.iadd, 1) := by decide +kernel
theorem d_M_solve_115 : decode M_M_solve.2.1 115 = .ok (.iload 7, 2) := by decide +kernel
theorem d_M_solve_117 : decode M_M_solve.2.1 117 = .ok (.iastore, 1) := by decide +kernel
theorem d_M_solve_118 : decode M_M_solve.2.1 118 = .ok (.iinc 6 1, 3) := by decide +kernel
theorem d_M_solve_121 : decode M_M_solve.2.1 121 = .ok (.goto (-70), 3) := by decide +kernel
theorem d_M_solve_124 : decode M_M_solve.2.1 124 = .ok (.iconst 0, 1) := by decide +kernel
theorem d_M_solve_125 : decode M_M_solve.2.1 125 = .ok (.istore 6, 2) := by decide +kernel
theorem d_M_solve_127 : decode M_M_solve.2.1 127 = .ok (.iload 6, 2) := by decide +kernel
theorem d_M_solve_129 : decode M_M_solve.2.1 129 = .ok (.iload_n 1, 1) := by decide +kernel
theorem d_M_solve_130 : decode M_M_solve.2.1 130 = .ok (.if_icmp .ge 88, 3) := by decide +kernel
theorem d_M_solve_133 : decode M_M_solve.2.1 133 = .ok (.iload 6, 2) := by decide +kernel
theorem d_M_solve_135 : decode M_M_solve.2.1 135 = .ok (.iload_n 3, 1) := by decide +kernel
theorem d_M_solve_136 : decode M_M_solve.2.1 136 = .ok (.if_icmp .ne 7, 3) := by decide +kernel
theorem d_M_solve_139 : decode M_M_solve.2.1 139 = .ok (.iconst 0, 1) := by decide +kernel
theorem d_M_solve_140 : decode M_M_solve.2.1 140 = .ok (.goto 15, 3) := by decide +kernel
theorem d_M_solve_143 : decode M_M_solve.2.1 143 = .ok (.aload_n 0, 1) := by decide +kernel
theorem d_M_solve_144 : decode M_M_solve.2.1 144 = .ok (.getfield 51, 3) := by decide +kernel
theorem d_M_solve_147 : decode M_M_solve.2.1 147 = .ok (.bipush 16, 2) := by decide +kernel
theorem d_M_solve_149 : decode M_M_solve.2.1 149 = .ok (.iload 6, 2) := by decide +kernel
theorem d_M_solve_151 : decode M_M_solve.2.1 151 = .ok (.imul, 1) := by decide +kernel
theorem d_M_solve_152 : decode M_M_solve.2.1 152 = .ok (.iload_n 3, 1) := by decide +kernel
theorem d_M_solve_153 : decode M_M_solve.2.1 153 = .ok (.iadd, 1) := by decide +kernel
theorem d_M_solve_154 : decode M_M_solve.2.1 154 = .ok (.iaload, 1) := by decide +kernel
theorem d_M_solve_155 : decode M_M_solve.2.1 155 = .ok (.istore 7, 2) := by decide +kernel
theorem d_M_solve_157 : decode M_M_solve.2.1 157 = .ok (.iconst 0, 1) := by decide +kernel
theorem d_M_solve_158 : decode M_M_solve.2.1 158 = .ok (.istore 8, 2) := by decide +kernel
theorem d_M_solve_160 : decode M_M_solve.2.1 160 = .ok (.iload 8, 2) := by decide +kernel
theorem d_M_solve_162 : decode M_M_solve.2.1 162 = .ok (.iload_n 1, 1) := by decide +kernel
theorem d_M_solve_163 : decode M_M_solve.2.1 163 = .ok (.iload_n 2, 1) := by decide +kernel
theorem d_M_solve_164 : decode M_M_solve.2.1 164 = .ok (.iadd, 1) := by decide +kernel
theorem d_M_solve_165 : decode M_M_solve.2.1 165 = .ok (.if_icmp .ge 47, 3) := by decide +kernel
theorem d_M_solve_168 : decode M_M_solve.2.1 168 = .ok (.iload 7, 2) := by decide +kernel
theorem d_M_solve_170 : decode M_M_solve.2.1 170 = .ok (.ifCond .eq 42, 3) := by decide +kernel
theorem d_M_solve_173 : decode M_M_solve.2.1 173 = .ok (.aload_n 0, 1) := by decide +kernel
theorem d_M_solve_174 : decode M_M_solve.2.1 174 = .ok (.getfield 51, 3) := by decide +kernel
theorem d_M_solve_177 : decode M_M_solve.2.1 177 = .ok (.bipush 16, 2) := by decide +kernel
theorem d_M_solve_179 : decode M_M_solve.2.1 179 = .ok (.iload 6, 2) := by decide +kernel
theorem d_M_solve_181 : decode M_M_solve.2.1 181 = .ok (.imul, 1) := by decide +kernel
theorem d_M_solve_182 : decode M_M_solve.2.1 182 = .ok (.iload 8, 2) := by decide +kernel
theorem d_M_solve_184 : decode M_M_solve.2.1 184 = .ok (.iadd, 1) := by decide +kernel
theorem d_M_solve_185 : decode M_M_solve.2.1 185 = .ok (.dup2, 1) := by decide +kernel
theorem d_M_solve_186 : decode M_M_solve.2.1 186 = .ok (.iaload, 1) := by decide +kernel
theorem d_M_solve_187 : decode M_M_solve.2.1 187 = .ok (.iload 7, 2) := by decide +kernel
theorem d_M_solve_189 : decode M_M_solve.2.1 189 = .ok (.aload_n 0, 1) := by decide +kernel
theorem d_M_solve_190 : decode M_M_solve.2.1 190 = .ok (.getfield 51, 3) := by decide +kernel
theorem d_M_solve_193 : decode M_M_solve.2.1 193 = .ok (.bipush 16, 2) := by decide +kernel
theorem d_M_solve_195 : decode M_M_solve.2.1 195 = .ok (.iload_n 3, 1) := by decide +kernel
theorem d_M_solve_196 : decode M_M_solve.2.1 196 = .ok (.imul, 1) := by decide +kernel
theorem d_M_solve_197 : decode M_M_solve.2.1 197 = .ok (.iload 8, 2) := by decide +kernel
theorem d_M_solve_199 : decode M_M_solve.2.1 199 = .ok (.iadd, 1) := by decide +kernel
theorem d_M_solve_200 : decode M_M_solve.2.1 200 = .ok (.iaload, 1) := by decide +kernel
theorem d_M_solve_201 : decode M_M_solve.2.1 201 = .ok (.invokestatic 64, 3) := by decide +kernel
theorem d_M_solve_204 : decode M_M_solve.2.1 204 = .ok (.ixor, 1) := by decide +kernel
theorem d_M_solve_205 : decode M_M_solve.2.1 205 = .ok (.iastore, 1) := by decide +kernel
theorem d_M_solve_206 : decode M_M_solve.2.1 206 = .ok (.iinc 8 1, 3) := by decide +kernel
theorem d_M_solve_209 : decode M_M_solve.2.1 209 = .ok (.goto (-49), 3) := by decide +kernel
theorem d_M_solve_212 : decode M_M_solve.2.1 212 = .ok (.iinc 6 1, 3) := by decide +kernel
theorem d_M_solve_215 : decode M_M_solve.2.1 215 = .ok (.goto (-88), 3) := by decide +kernel
theorem d_M_solve_218 : decode M_M_solve.2.1 218 = .ok (.iinc 3 1, 3) := by decide +kernel
theorem d_M_solve_221 : decode M_M_solve.2.1 221 = .ok (.goto (-219), 3) := by decide +kernel
theorem d_M_solve_224 : decode M_M_solve.2.1 224 = .ok (.return_, 1) := by decide +kernel
theorem d_M_stripes_0 : decode M_M_stripes.2.1 0 = .ok (.iload_n 0, 1) := by decide +kernel
theorem d_M_stripes_1 : decode M_M_stripes.2.1 1 = .ok (.bipush 30, 2) := by decide +kernel
theorem d_M_stripes_3 : decode M_M_stripes.2.1 3 = .ok (.iadd, 1) := by decide +kernel
theorem d_M_stripes_4 : decode M_M_stripes.2.1 4 = .ok (.iconst 1, 1) := by decide +kernel
theorem d_M_stripes_5 : decode M_M_stripes.2.1 5 = .ok (.isub, 1) := by decide +kernel
theorem d_M_stripes_6 : decode M_M_stripes.2.1 6 = .ok (.bipush 30, 2) := by decide +kernel
theorem d_M_stripes_8 : decode M_M_stripes.2.1 8 = .ok (.idiv, 1) := by decide +kernel
theorem d_M_stripes_9 : decode M_M_stripes.2.1 9 = .ok (.ireturn, 1) := by decide +kernel
theorem d_M_symbol_0 : decode M_M_symbol.2.1 0 = .ok (.iload_n 1, 1) := by decide +kernel
theorem d_M_symbol_1 : decode M_M_symbol.2.1 1 = .ok (.invokestatic 72, 3) := by decide +kernel
theorem d_M_symbol_4 : decode M_M_symbol.2.1 4 = .ok (.ifCond .eq 17, 3) := by decide +kernel
theorem d_M_symbol_7 : decode M_M_symbol.2.1 7 = .ok (.iload_n 2, 1) := by decide +kernel
theorem d_M_symbol_8 : decode M_M_symbol.2.1 8 = .ok (.invokestatic 72, 3) := by decide +kernel
theorem d_M_symbol_11 : decode M_M_symbol.2.1 11 = .ok (.ifCond .eq 10, 3) := by decide +kernel
theorem d_M_symbol_14 : decode M_M_symbol.2.1 14 = .ok (.iload_n 3, 1) := by decide +kernel
theorem d_M_symbol_15 : decode M_M_symbol.2.1 15 = .ok (.invokestatic 125, 3) := by decide +kernel
theorem d_M_symbol_18 : decode M_M_symbol.2.1 18 = .ok (.ifCond .ne 6, 3) := by decide +kernel
theorem d_M_symbol_21 : decode M_M_symbol.2.1 21 = .ok (.bipush (-2), 2) := by decide +kernel
theorem d_M_symbol_23 : decode M_M_symbol.2.1 23 = .ok (.ireturn, 1) := by decide +kernel
theorem d_M_symbol_24 : decode M_M_symbol.2.1 24 = .ok (.iload_n 1, 1) := by decide +kernel
theorem d_M_symbol_25 : decode M_M_symbol.2.1 25 = .ok (.iload_n 3, 1) := by decide +kernel
theorem d_M_symbol_26 : decode M_M_symbol.2.1 26 = .ok (.iconst 0, 1) := by decide +kernel
theorem d_M_symbol_27 : decode M_M_symbol.2.1 27 = .ok (.invokestatic 79, 3) := by decide +kernel
theorem d_M_symbol_30 : decode M_M_symbol.2.1 30 = .ok (.istore 5, 2) := by decide +kernel
theorem d_M_symbol_32 : decode M_M_symbol.2.1 32 = .ok (.aload_n 0, 1) := by decide +kernel
theorem d_M_symbol_33 : decode M_M_symbol.2.1 33 = .ok (.getfield 30, 3) := by decide +kernel
theorem d_M_symbol_36 : decode M_M_symbol.2.1 36 = .ok (.iload 5, 2) := by decide +kernel
theorem d_M_symbol_38 : decode M_M_symbol.2.1 38 = .ok (.baload, 1) := by decide +kernel
theorem d_M_symbol_39 : decode M_M_symbol.2.1 39 = .ok (.ifCond .eq 37, 3) := by decide +kernel
theorem d_M_symbol_42 : decode M_M_symbol.2.1 42 = .ok (.iload 4, 2) := by decide +kernel
theorem d_M_symbol_44 : decode M_M_symbol.2.1 44 = .ok (.iconst 0, 1) := by decide +kernel
theorem d_M_symbol_45 : decode M_M_symbol.2.1 45 = .ok (.aload_n 0, 1) := by decide +kernel
theorem d_M_symbol_46 : decode M_M_symbol.2.1 46 = .ok (.getfield 36, 3) := by decide +kernel
theorem d_M_symbol_49 : decode M_M_symbol.2.1 49 = .ok (.iload 5, 2) := by decide +kernel
theorem d_M_symbol_51 : decode M_M_symbol.2.1 51 = .ok (.iaload, 1) := by decide +kernel
theorem d_M_symbol_52 : decode M_M_symbol.2.1 52 = .ok (.invokestatic 83, 3) := by decide +kernel
theorem d_M_symbol_55 : decode M_M_symbol.2.1 55 = .ok (.iconst 1, 1) := by decide +kernel
theorem d_M_symbol_56 : decode M_M_symbol.2.1 56 = .ok (.isub, 1) := by decide +kernel
theorem d_M_symbol_57 : decode M_M_symbol.2.1 57 = .ok (.invokestatic 60, 3) := by decide +kernel
theorem d_M_symbol_60 : decode M_M_symbol.2.1 60 = .ok (.ifCond .eq 16, 3) := by decide +kernel
theorem d_M_symbol_63 : decode M_M_symbol.2.1 63 = .ok (.aload_n 0, 1) := by decide +kernel
theorem d_M_symbol_64 : decode M_M_symbol.2.1 64 = .ok (.iload_n 1, 1) := by decide +kernel
theorem d_M_symbol_65 : decode M_M_symbol.2.1 65 = .ok (.iload_n 2, 1) := by decide +kernel
theorem d_M_symbol_66 : decode M_M_symbol.2.1 66 = .ok (.iload 5, 2) := by decide +kernel
theorem d_M_symbol_68 : decode M_M_symbol.2.1 68 = .ok (.iload 4, 2) := by decide +kernel
theorem d_M_symbol_70 : decode M_M_symbol.2.1 70 = .ok (.invokevirtual 159, 3) := by decide +kernel
theorem d_M_symbol_73 : decode M_M_symbol.2.1 73 = .ok (.goto 4, 3) := by decide +kernel
theorem d_M_symbol_76 : decode M_M_symbol.2.1 76 = .ok (.iconst (-1), 1) := by decide +kernel
theorem d_M_symbol_77 : decode M_M_symbol.2.1 77 = .ok (.ireturn, 1) := by decide +kernel
theorem d_M_symbolOf_0 : decode M_M_symbolOf.2.1 0 = .ok (.iconst 0, 1) := by decide +kernel
theorem d_M_symbolOf_1 : decode M_M_symbolOf.2.1 1 = .ok (.istore 5, 2) := by decide +kernel
theorem d_M_symbolOf_3 : decode M_M_symbolOf.2.1 3 = .ok (.iconst 0, 1) := by decide +kernel
theorem d_M_symbolOf_4 : decode M_M_symbolOf.2.1 4 = .ok (.istore 6, 2) := by decide +kernel
theorem d_M_symbolOf_6 : decode M_M_symbolOf.2.1 6 = .ok (.iload 6, 2) := by decide +kernel
theorem d_M_symbolOf_8 : decode M_M_symbolOf.2.1 8 = .ok (.bipush 8, 2) := by decide +kernel
theorem d_M_symbolOf_10 : decode M_M_symbolOf.2.1 10 = .ok (.if_icmp .ge 38, 3) := by decide +kernel
theorem d_M_symbolOf_13 : decode M_M_symbolOf.2.1 13 = .ok (.iload 5, 2) := by decide +kernel
theorem d_M_symbolOf_15 : decode M_M_symbolOf.2.1 15 = .ok (.aload_n 0, 1) := by decide +kernel
theorem d_M_symbolOf_16 : decode M_M_symbolOf.2.1 16 = .ok (.getfield 27, 3) := by decide +kernel
theorem d_M_symbolOf_19 : decode M_M_symbolOf.2.1 19 = .ok (.aload_n 0, 1) := by decide +kernel
theorem d_M_symbolOf_20 : decode M_M_symbolOf.2.1 20 = .ok (.iload_n 1, 1) := by decide +kernel
theorem d_M_symbolOf_21 : decode M_M_symbolOf.2.1 21 = .ok (.iload_n 3, 1) := by decide +kernel
theorem d_M_symbolOf_22 : decode M_M_symbolOf.2.1 22 = .ok (.iload 4, 2) := by decide +kernel
theorem d_M_symbolOf_24 : decode M_M_symbolOf.2.1 24 = .ok (.iload 6, 2) := by decide +kernel
theorem d_M_symbolOf_26 : decode M_M_symbolOf.2.1 26 = .ok (.invokevirtual 103, 3) := by decide +kernel
theorem d_M_symbolOf_29 : decode M_M_symbolOf.2.1 29 = .ok (.iaload, 1) := by decide +kernel
theorem d_M_symbolOf_30 : decode M_M_symbolOf.2.1 30 = .ok (.iload_n 2, 1) := by decide +kernel
theorem d_M_symbolOf_31 : decode M_M_symbolOf.2.1 31 = .ok (.iload 6, 2) := by decide +kernel
theorem d_M_symbolOf_33 : decode M_M_symbolOf.2.1 33 = .ok (.invokestatic 76, 3) := by decide +kernel
theorem d_M_symbolOf_36 : decode M_M_symbolOf.2.1 36 = .ok (.invokestatic 64, 3) := by decide +kernel
theorem d_M_symbolOf_39 : decode M_M_symbolOf.2.1 39 = .ok (.ixor, 1) := by decide +kernel
theorem d_M_symbolOf_40 : decode M_M_symbolOf.2.1 40 = .ok (.istore 5, 2) := by decide +kernel
theorem d_M_symbolOf_42 : decode M_M_symbolOf.2.1 42 = .ok (.iinc 6 1, 3) := by decide +kernel
theorem d_M_symbolOf_45 : decode M_M_symbolOf.2.1 45 = .ok (.goto (-39), 3) := by decide +kernel
theorem d_M_symbolOf_48 : decode M_M_symbolOf.2.1 48 = .ok (.iload 5, 2) := by decide +kernel
theorem d_M_symbolOf_50 : decode M_M_symbolOf.2.1 50 = .ok (.ireturn, 1) := by decide +kernel
theorem d_M_takes_0 : decode M_M_takes.2.1 0 = .ok (.iload_n 1, 1) := by decide +kernel
theorem d_M_takes_1 : decode M_M_takes.2.1 1 = .ok (.iload_n 2, 1) := by decide +kernel
theorem d_M_takes_2 : decode M_M_takes.2.1 2 = .ok (.iload_n 3, 1) := by decide +kernel
theorem d_M_takes_3 : decode M_M_takes.2.1 3 = .ok (.invokestatic 79, 3) := by decide +kernel
theorem d_M_takes_6 : decode M_M_takes.2.1 6 = .ok (.istore 6, 2) := by decide +kernel
theorem d_M_takes_8 : decode M_M_takes.2.1 8 = .ok (.aload_n 0, 1) := by decide +kernel
theorem d_M_takes_9 : decode M_M_takes.2.1 9 = .ok (.getfield 30, 3) := by decide +kernel
theorem d_M_takes_12 : decode M_M_takes.2.1 12 = .ok (.iload 6, 2) := by decide +kernel
theorem d_M_takes_14 : decode M_M_takes.2.1 14 = .ok (.iconst 1, 1) := by decide +kernel
theorem d_M_takes_15 : decode M_M_takes.2.1 15 = .ok (.bastore, 1) := by decide +kernel
theorem d_M_takes_16 : decode M_M_takes.2.1 16 = .ok (.aload_n 0, 1) := by decide +kernel
theorem d_M_takes_17 : decode M_M_takes.2.1 17 = .ok (.getfield 33, 3) := by decide +kernel
theorem d_M_takes_20 : decode M_M_takes.2.1 20 = .ok (.iload 6, 2) := by decide +kernel
theorem d_M_takes_22 : decode M_M_takes.2.1 22 = .ok (.iload 4, 2) := by decide +kernel
theorem d_M_takes_24 : decode M_M_takes.2.1 24 = .ok (.iastore, 1) := by decide +kernel
theorem d_M_takes_25 : decode M_M_takes.2.1 25 = .ok (.aload_n 0, 1) := by decide +kernel
theorem d_M_takes_26 : decode M_M_takes.2.1 26 = .ok (.getfield 36, 3) := by decide +kernel
theorem d_M_takes_29 : decode M_M_takes.2.1 29 = .ok (.iload 6, 2) := by decide +kernel
theorem d_M_takes_31 : decode M_M_takes.2.1 31 = .ok (.iload 5, 2) := by decide +kernel
theorem d_M_takes_33 : decode M_M_takes.2.1 33 = .ok (.iastore, 1) := by decide +kernel
theorem d_M_takes_34 : decode M_M_takes.2.1 34 = .ok (.iconst 0, 1) := by decide +kernel
theorem d_M_takes_35 : decode M_M_takes.2.1 35 = .ok (.istore 7, 2) := by decide +kernel
theorem d_M_takes_37 : decode M_M_takes.2.1 37 = .ok (.iload 7, 2) := by decide +kernel
theorem d_M_takes_39 : decode M_M_takes.2.1 39 = .ok (.iload 5, 2) := by decide +kernel
theorem d_M_takes_41 : decode M_M_takes.2.1 41 = .ok (.invokestatic 83, 3) := by decide +kernel
theorem d_M_takes_44 : decode M_M_takes.2.1 44 = .ok (.if_icmp .ge 44, 3) := by decide +kernel
theorem d_M_takes_47 : decode M_M_takes.2.1 47 = .ok (.aload_n 0, 1) := by decide +kernel
theorem d_M_takes_48 : decode M_M_takes.2.1 48 = .ok (.iload_n 1, 1) := by decide +kernel
theorem d_M_takes_49 : decode M_M_takes.2.1 49 = .ok (.invokevirtual 86, 3) := by decide +kernel
theorem d_M_takes_52 : decode M_M_takes.2.1 52 = .ok (.istore 8, 2) := by decide +kernel
theorem d_M_takes_54 : decode M_M_takes.2.1 54 = .ok (.aload_n 0, 1) := by decide +kernel
theorem d_M_takes_55 : decode M_M_takes.2.1 55 = .ok (.getfield 24, 3) := by decide +kernel
theorem d_M_takes_58 : decode M_M_takes.2.1 58 = .ok (.bipush 40, 2) := by decide +kernel
theorem d_M_takes_60 : decode M_M_takes.2.1 60 = .ok (.iload_n 1, 1) := by decide +kernel
theorem d_M_takes_61 : decode M_M_takes.2.1 61 = .ok (.imul, 1) := by decide +kernel
theorem d_M_takes_62 : decode M_M_takes.2.1 62 = .ok (.iload 8, 2) := by decide +kernel
theorem d_M_takes_64 : decode M_M_takes.2.1 64 = .ok (.iadd, 1) := by decide +kernel
theorem d_M_takes_65 : decode M_M_takes.2.1 65 = .ok (.iconst 1, 1) := by decide +kernel
theorem d_M_takes_66 : decode M_M_takes.2.1 66 = .ok (.bastore, 1) := by decide +kernel
theorem d_M_takes_67 : decode M_M_takes.2.1 67 = .ok (.aload_n 0, 1) := by decide +kernel
theorem d_M_takes_68 : decode M_M_takes.2.1 68 = .ok (.getfield 39, 3) := by decide +kernel
theorem d_M_takes_71 : decode M_M_takes.2.1 71 = .ok (.bipush 8, 2) := by decide +kernel
theorem d_M_takes_73 : decode M_M_takes.2.1 73 = .ok (.iload 6, 2) := by decide +kernel
theorem d_M_takes_75 : decode M_M_takes.2.1 75 = .ok (.imul, 1) := by decide +kernel
theorem d_M_takes_76 : decode M_M_takes.2.1 76 = .ok (.iload 7, 2) := by decide +kernel
theorem d_M_takes_78 : decode M_M_takes.2.1 78 = .ok (.iadd, 1) := by decide +kernel
theorem d_M_takes_79 : decode M_M_takes.2.1 79 = .ok (.iload 8, 2) := by decide +kernel
theorem d_M_takes_81 : decode M_M_takes.2.1 81 = .ok (.iastore, 1) := by decide +kernel
theorem d_M_takes_82 : decode M_M_takes.2.1 82 = .ok (.iinc 7 1, 3) := by decide +kernel
theorem d_M_takes_85 : decode M_M_takes.2.1 85 = .ok (.goto (-48), 3) := by decide +kernel
theorem d_M_takes_88 : decode M_M_takes.2.1 88 = .ok (.return_, 1) := by decide +kernel
theorem d_M_times_0 : decode M_M_times.2.1 0 = .ok (.iload_n 1, 1) := by decide +kernel
theorem d_M_times_1 : decode M_M_times.2.1 1 = .ok (.iconst 0, 1) := by decide +kernel
theorem d_M_times_2 : decode M_M_times.2.1 2 = .ok (.sipush 255, 3) := by decide +kernel
theorem d_M_times_5 : decode M_M_times.2.1 5 = .ok (.invokestatic 60, 3) := by decide +kernel
theorem d_M_times_8 : decode M_M_times.2.1 8 = .ok (.ifCond .eq 22, 3) := by decide +kernel
theorem d_M_times_11 : decode M_M_times.2.1 11 = .ok (.iload_n 2, 1) := by decide +kernel
theorem d_M_times_12 : decode M_M_times.2.1 12 = .ok (.iconst 0, 1) := by decide +kernel
theorem d_M_times_13 : decode M_M_times.2.1 13 = .ok (.sipush 255, 3) := by decide +kernel
theorem d_M_times_16 : decode M_M_times.2.1 16 = .ok (.invokestatic 60, 3) := by decide +kernel
theorem d_M_times_19 : decode M_M_times.2.1 19 = .ok (.ifCond .eq 11, 3) := by decide +kernel
theorem d_M_times_22 : decode M_M_times.2.1 22 = .ok (.iload_n 1, 1) := by decide +kernel
theorem d_M_times_23 : decode M_M_times.2.1 23 = .ok (.iload_n 2, 1) := by decide +kernel
theorem d_M_times_24 : decode M_M_times.2.1 24 = .ok (.invokestatic 64, 3) := by decide +kernel
theorem d_M_times_27 : decode M_M_times.2.1 27 = .ok (.goto 5, 3) := by decide +kernel
theorem d_M_times_30 : decode M_M_times.2.1 30 = .ok (.bipush (-2), 2) := by decide +kernel
theorem d_M_times_32 : decode M_M_times.2.1 32 = .ok (.ireturn, 1) := by decide +kernel
theorem d_M_usedBy_0 : decode M_M_usedBy.2.1 0 = .ok (.iconst 0, 1) := by decide +kernel
theorem d_M_usedBy_1 : decode M_M_usedBy.2.1 1 = .ok (.istore_n 2, 1) := by decide +kernel
theorem d_M_usedBy_2 : decode M_M_usedBy.2.1 2 = .ok (.iconst 0, 1) := by decide +kernel
theorem d_M_usedBy_3 : decode M_M_usedBy.2.1 3 = .ok (.istore_n 3, 1) := by decide +kernel
theorem d_M_usedBy_4 : decode M_M_usedBy.2.1 4 = .ok (.iload_n 3, 1) := by decide +kernel
theorem d_M_usedBy_5 : decode M_M_usedBy.2.1 5 = .ok (.bipush 40, 2) := by decide +kernel
theorem d_M_usedBy_7 : decode M_M_usedBy.2.1 7 = .ok (.if_icmp .ge 31, 3) := by decide +kernel
theorem d_M_usedBy_10 : decode M_M_usedBy.2.1 10 = .ok (.iload_n 2, 1) := by decide +kernel
theorem d_M_usedBy_11 : decode M_M_usedBy.2.1 11 = .ok (.aload_n 0, 1) := by decide +kernel
theorem d_M_usedBy_12 : decode M_M_usedBy.2.1 12 = .ok (.getfield 24, 3) := by decide +kernel
theorem d_M_usedBy_15 : decode M_M_usedBy.2.1 15 = .ok (.bipush 40, 2) := by decide +kernel
theorem d_M_usedBy_17 : decode M_M_usedBy.2.1 17 = .ok (.iload_n 1, 1) := by decide +kernel
theorem d_M_usedBy_18 : decode M_M_usedBy.2.1 18 = .ok (.imul, 1) := by decide +kernel
theorem d_M_usedBy_19 : decode M_M_usedBy.2.1 19 = .ok (.iload_n 3, 1) := by decide +kernel
theorem d_M_usedBy_20 : decode M_M_usedBy.2.1 20 = .ok (.iadd, 1) := by decide +kernel
theorem d_M_usedBy_21 : decode M_M_usedBy.2.1 21 = .ok (.baload, 1) := by decide +kernel
theorem d_M_usedBy_22 : decode M_M_usedBy.2.1 22 = .ok (.ifCond .eq 7, 3) := by decide +kernel
theorem d_M_usedBy_25 : decode M_M_usedBy.2.1 25 = .ok (.iconst 1, 1) := by decide +kernel
theorem d_M_usedBy_26 : decode M_M_usedBy.2.1 26 = .ok (.goto 4, 3) := by decide +kernel
theorem d_M_usedBy_29 : decode M_M_usedBy.2.1 29 = .ok (.iconst 0, 1) := by decide +kernel
theorem d_M_usedBy_30 : decode M_M_usedBy.2.1 30 = .ok (.iadd, 1) := by decide +kernel
theorem d_M_usedBy_31 : decode M_M_usedBy.2.1 31 = .ok (.istore_n 2, 1) := by decide +kernel
theorem d_M_usedBy_32 : decode M_M_usedBy.2.1 32 = .ok (.iinc 3 1, 3) := by decide +kernel
theorem d_M_usedBy_35 : decode M_M_usedBy.2.1 35 = .ok (.goto (-31), 3) := by decide +kernel
theorem d_M_usedBy_38 : decode M_M_usedBy.2.1 38 = .ok (.iload_n 2, 1) := by decide +kernel
theorem d_M_usedBy_39 : decode M_M_usedBy.2.1 39 = .ok (.ireturn, 1) := by decide +kernel
theorem d_M_version_0 : decode M_M_version.2.1 0 = .ok (.iload_n 1, 1) := by decide +kernel
theorem d_M_version_1 : decode M_M_version.2.1 1 = .ok (.invokestatic 125, 3) := by decide +kernel
theorem d_M_version_4 : decode M_M_version.2.1 4 = .ok (.ifCond .eq 11, 3) := by decide +kernel
theorem d_M_version_7 : decode M_M_version.2.1 7 = .ok (.aload_n 0, 1) := by decide +kernel
theorem d_M_version_8 : decode M_M_version.2.1 8 = .ok (.iload_n 1, 1) := by decide +kernel
theorem d_M_version_9 : decode M_M_version.2.1 9 = .ok (.invokevirtual 140, 3) := by decide +kernel
theorem d_M_version_12 : decode M_M_version.2.1 12 = .ok (.goto 5, 3) := by decide +kernel
theorem d_M_version_15 : decode M_M_version.2.1 15 = .ok (.bipush (-2), 2) := by decide +kernel
theorem d_M_version_17 : decode M_M_version.2.1 17 = .ok (.ireturn, 1) := by decide +kernel
theorem d_M_wants_0 : decode M_M_wants.2.1 0 = .ok (.aload_n 0, 1) := by decide +kernel
theorem d_M_wants_1 : decode M_M_wants.2.1 1 = .ok (.iload_n 2, 1) := by decide +kernel
theorem d_M_wants_2 : decode M_M_wants.2.1 2 = .ok (.invokevirtual 140, 3) := by decide +kernel
theorem d_M_wants_5 : decode M_M_wants.2.1 5 = .ok (.istore_n 3, 1) := by decide +kernel
theorem d_M_wants_6 : decode M_M_wants.2.1 6 = .ok (.aload_n 0, 1) := by decide +kernel
theorem d_M_wants_7 : decode M_M_wants.2.1 7 = .ok (.getfield 45, 3) := by decide +kernel
theorem d_M_wants_10 : decode M_M_wants.2.1 10 = .ok (.iload_n 2, 1) := by decide +kernel
theorem d_M_wants_11 : decode M_M_wants.2.1 11 = .ok (.baload, 1) := by decide +kernel
theorem d_M_wants_12 : decode M_M_wants.2.1 12 = .ok (.ifCond .ne 21, 3) := by decide +kernel
theorem d_M_wants_15 : decode M_M_wants.2.1 15 = .ok (.iload_n 3, 1) := by decide +kernel
theorem d_M_wants_16 : decode M_M_wants.2.1 16 = .ok (.ifCond .le 17, 3) := by decide +kernel
theorem d_M_wants_19 : decode M_M_wants.2.1 19 = .ok (.aload_n 0, 1) := by decide +kernel
theorem d_M_wants_20 : decode M_M_wants.2.1 20 = .ok (.iload_n 1, 1) := by decide +kernel
theorem d_M_wants_21 : decode M_M_wants.2.1 21 = .ok (.iload_n 2, 1) := by decide +kernel
theorem d_M_wants_22 : decode M_M_wants.2.1 22 = .ok (.iload_n 3, 1) := by decide +kernel
theorem d_M_wants_23 : decode M_M_wants.2.1 23 = .ok (.invokevirtual 93, 3) := by decide +kernel
theorem d_M_wants_26 : decode M_M_wants.2.1 26 = .ok (.ifCond .ne 7, 3) := by decide +kernel
theorem d_M_wants_29 : decode M_M_wants.2.1 29 = .ok (.iconst 1, 1) := by decide +kernel
theorem d_M_wants_30 : decode M_M_wants.2.1 30 = .ok (.goto 4, 3) := by decide +kernel
theorem d_M_wants_33 : decode M_M_wants.2.1 33 = .ok (.iconst 0, 1) := by decide +kernel
theorem d_M_wants_34 : decode M_M_wants.2.1 34 = .ok (.ireturn, 1) := by decide +kernel
theorem d_M_wipe_0 : decode M_M_wipe.2.1 0 = .ok (.iload_n 1, 1) := by decide +kernel
theorem d_M_wipe_1 : decode M_M_wipe.2.1 1 = .ok (.invokestatic 72, 3) := by decide +kernel
theorem d_M_wipe_4 : decode M_M_wipe.2.1 4 = .ok (.ifCond .ne 6, 3) := by decide +kernel
theorem d_M_wipe_7 : decode M_M_wipe.2.1 7 = .ok (.bipush (-2), 2) := by decide +kernel
theorem d_M_wipe_9 : decode M_M_wipe.2.1 9 = .ok (.ireturn, 1) := by decide +kernel
theorem d_M_wipe_10 : decode M_M_wipe.2.1 10 = .ok (.aload_n 0, 1) := by decide +kernel
theorem d_M_wipe_11 : decode M_M_wipe.2.1 11 = .ok (.iload_n 1, 1) := by decide +kernel
theorem d_M_wipe_12 : decode M_M_wipe.2.1 12 = .ok (.invokevirtual 131, 3) := by decide +kernel
theorem d_M_wipe_15 : decode M_M_wipe.2.1 15 = .ok (.istore_n 2, 1) := by decide +kernel
theorem d_M_wipe_16 : decode M_M_wipe.2.1 16 = .ok (.iconst 0, 1) := by decide +kernel
theorem d_M_wipe_17 : decode M_M_wipe.2.1 17 = .ok (.istore_n 3, 1) := by decide +kernel
theorem d_M_wipe_18 : decode M_M_wipe.2.1 18 = .ok (.iload_n 3, 1) := by decide +kernel
theorem d_M_wipe_19 : decode M_M_wipe.2.1 19 = .ok (.bipush 6, 2) := by decide +kernel
theorem d_M_wipe_21 : decode M_M_wipe.2.1 21 = .ok (.if_icmp .ge 23, 3) := by decide +kernel
theorem d_M_wipe_24 : decode M_M_wipe.2.1 24 = .ok (.aload_n 0, 1) := by decide +kernel
theorem d_M_wipe_25 : decode M_M_wipe.2.1 25 = .ok (.iload_n 1, 1) := by decide +kernel
theorem d_M_wipe_26 : decode M_M_wipe.2.1 26 = .ok (.iload_n 3, 1) := by decide +kernel
theorem d_M_wipe_27 : decode M_M_wipe.2.1 27 = .ok (.iconst 0, 1) := by decide +kernel
theorem d_M_wipe_28 : decode M_M_wipe.2.1 28 = .ok (.invokevirtual 89, 3) := by decide +kernel
theorem d_M_wipe_31 : decode M_M_wipe.2.1 31 = .ok (.aload_n 0, 1) := by decide +kernel
theorem d_M_wipe_32 : decode M_M_wipe.2.1 32 = .ok (.iload_n 1, 1) := by decide +kernel
theorem d_M_wipe_33 : decode M_M_wipe.2.1 33 = .ok (.iload_n 3, 1) := by decide +kernel
theorem d_M_wipe_34 : decode M_M_wipe.2.1 34 = .ok (.iconst 1, 1) := by decide +kernel
theorem d_M_wipe_35 : decode M_M_wipe.2.1 35 = .ok (.invokevirtual 89, 3) := by decide +kernel
theorem d_M_wipe_38 : decode M_M_wipe.2.1 38 = .ok (.iinc 3 1, 3) := by decide +kernel
theorem d_M_wipe_41 : decode M_M_wipe.2.1 41 = .ok (.goto (-23), 3) := by decide +kernel
theorem d_M_wipe_44 : decode M_M_wipe.2.1 44 = .ok (.aload_n 0, 1) := by decide +kernel
theorem d_M_wipe_45 : decode M_M_wipe.2.1 45 = .ok (.getfield 17, 3) := by decide +kernel
theorem d_M_wipe_48 : decode M_M_wipe.2.1 48 = .ok (.iload_n 1, 1) := by decide +kernel
theorem d_M_wipe_49 : decode M_M_wipe.2.1 49 = .ok (.iconst 0, 1) := by decide +kernel
theorem d_M_wipe_50 : decode M_M_wipe.2.1 50 = .ok (.bastore, 1) := by decide +kernel
theorem d_M_wipe_51 : decode M_M_wipe.2.1 51 = .ok (.iload_n 2, 1) := by decide +kernel
theorem d_M_wipe_52 : decode M_M_wipe.2.1 52 = .ok (.ireturn, 1) := by decide +kernel
theorem d_N_byteAt_0 : decode M_N_byteAt.2.1 0 = .ok (.iload_n 1, 1) := by decide +kernel
theorem d_N_byteAt_1 : decode M_N_byteAt.2.1 1 = .ok (.ifCond .lt 28, 3) := by decide +kernel
theorem d_N_byteAt_4 : decode M_N_byteAt.2.1 4 = .ok (.iload_n 1, 1) := by decide +kernel
theorem d_N_byteAt_5 : decode M_N_byteAt.2.1 5 = .ok (.bipush 40, 2) := by decide +kernel
theorem d_N_byteAt_7 : decode M_N_byteAt.2.1 7 = .ok (.if_icmp .ge 22, 3) := by decide +kernel
theorem d_N_byteAt_10 : decode M_N_byteAt.2.1 10 = .ok (.iload_n 2, 1) := by decide +kernel
theorem d_N_byteAt_11 : decode M_N_byteAt.2.1 11 = .ok (.ifCond .lt 18, 3) := by decide +kernel
theorem d_N_byteAt_14 : decode M_N_byteAt.2.1 14 = .ok (.iload_n 2, 1) := by decide +kernel
theorem d_N_byteAt_15 : decode M_N_byteAt.2.1 15 = .ok (.bipush 8, 2) := by decide +kernel
theorem d_N_byteAt_17 : decode M_N_byteAt.2.1 17 = .ok (.if_icmp .ge 12, 3) := by decide +kernel
theorem d_N_byteAt_20 : decode M_N_byteAt.2.1 20 = .ok (.aload_n 0, 1) := by decide +kernel
theorem d_N_byteAt_21 : decode M_N_byteAt.2.1 21 = .ok (.getfield 15, 3) := by decide +kernel
theorem d_N_byteAt_24 : decode M_N_byteAt.2.1 24 = .ok (.iload_n 1, 1) := by decide +kernel
theorem d_N_byteAt_25 : decode M_N_byteAt.2.1 25 = .ok (.baload, 1) := by decide +kernel
theorem d_N_byteAt_26 : decode M_N_byteAt.2.1 26 = .ok (.ifCond .ne 5, 3) := by decide +kernel
theorem d_N_byteAt_29 : decode M_N_byteAt.2.1 29 = .ok (.iconst (-1), 1) := by decide +kernel
theorem d_N_byteAt_30 : decode M_N_byteAt.2.1 30 = .ok (.ireturn, 1) := by decide +kernel
theorem d_N_byteAt_31 : decode M_N_byteAt.2.1 31 = .ok (.aload_n 0, 1) := by decide +kernel
theorem d_N_byteAt_32 : decode M_N_byteAt.2.1 32 = .ok (.getfield 9, 3) := by decide +kernel
theorem d_N_byteAt_35 : decode M_N_byteAt.2.1 35 = .ok (.iload_n 1, 1) := by decide +kernel
theorem d_N_byteAt_36 : decode M_N_byteAt.2.1 36 = .ok (.bipush 8, 2) := by decide +kernel
theorem d_N_byteAt_38 : decode M_N_byteAt.2.1 38 = .ok (.imul, 1) := by decide +kernel
theorem d_N_byteAt_39 : decode M_N_byteAt.2.1 39 = .ok (.iload_n 2, 1) := by decide +kernel
theorem d_N_byteAt_40 : decode M_N_byteAt.2.1 40 = .ok (.iadd, 1) := by decide +kernel
theorem d_N_byteAt_41 : decode M_N_byteAt.2.1 41 = .ok (.iaload, 1) := by decide +kernel
theorem d_N_byteAt_42 : decode M_N_byteAt.2.1 42 = .ok (.ireturn, 1) := by decide +kernel
theorem d_N_flip_0 : decode M_N_flip.2.1 0 = .ok (.aload_n 0, 1) := by decide +kernel
theorem d_N_flip_1 : decode M_N_flip.2.1 1 = .ok (.getfield 21, 3) := by decide +kernel
theorem d_N_flip_4 : decode M_N_flip.2.1 4 = .ok (.iload_n 1, 1) := by decide +kernel
theorem d_N_flip_5 : decode M_N_flip.2.1 5 = .ok (.aaload, 1) := by decide +kernel
theorem d_N_flip_6 : decode M_N_flip.2.1 6 = .ok (.astore_n 2, 1) := by decide +kernel
theorem d_N_flip_7 : decode M_N_flip.2.1 7 = .ok (.aload_n 0, 1) := by decide +kernel
theorem d_N_flip_8 : decode M_N_flip.2.1 8 = .ok (.aload_n 2, 1) := by decide +kernel
theorem d_N_flip_9 : decode M_N_flip.2.1 9 = .ok (.invokevirtual 66, 3) := by decide +kernel
theorem d_N_flip_12 : decode M_N_flip.2.1 12 = .ok (.aload_n 0, 1) := by decide +kernel
theorem d_N_flip_13 : decode M_N_flip.2.1 13 = .ok (.getfield 21, 3) := by decide +kernel
theorem d_N_flip_16 : decode M_N_flip.2.1 16 = .ok (.iload_n 1, 1) := by decide +kernel
theorem d_N_flip_17 : decode M_N_flip.2.1 17 = .ok (.aload_n 0, 1) := by decide +kernel
theorem d_N_flip_18 : decode M_N_flip.2.1 18 = .ok (.getfield 25, 3) := by decide +kernel
theorem d_N_flip_21 : decode M_N_flip.2.1 21 = .ok (.iload_n 1, 1) := by decide +kernel
theorem d_N_flip_22 : decode M_N_flip.2.1 22 = .ok (.aaload, 1) := by decide +kernel
theorem d_N_flip_23 : decode M_N_flip.2.1 23 = .ok (.aastore, 1) := by decide +kernel
theorem d_N_flip_24 : decode M_N_flip.2.1 24 = .ok (.aload_n 0, 1) := by decide +kernel
theorem d_N_flip_25 : decode M_N_flip.2.1 25 = .ok (.getfield 25, 3) := by decide +kernel
theorem d_N_flip_28 : decode M_N_flip.2.1 28 = .ok (.iload_n 1, 1) := by decide +kernel
theorem d_N_flip_29 : decode M_N_flip.2.1 29 = .ok (.aload_n 2, 1) := by decide +kernel
theorem d_N_flip_30 : decode M_N_flip.2.1 30 = .ok (.aastore, 1) := by decide +kernel
theorem d_N_flip_31 : decode M_N_flip.2.1 31 = .ok (.return_, 1) := by decide +kernel
theorem d_N_freeBlocks_0 : decode M_N_freeBlocks.2.1 0 = .ok (.iconst 0, 1) := by decide +kernel
theorem d_N_freeBlocks_1 : decode M_N_freeBlocks.2.1 1 = .ok (.istore_n 1, 1) := by decide +kernel
theorem d_N_freeBlocks_2 : decode M_N_freeBlocks.2.1 2 = .ok (.iconst 0, 1) := by decide +kernel
theorem d_N_freeBlocks_3 : decode M_N_freeBlocks.2.1 3 = .ok (.istore_n 2, 1) := by decide +kernel
theorem d_N_freeBlocks_4 : decode M_N_freeBlocks.2.1 4 = .ok (.iload_n 2, 1) := by decide +kernel
theorem d_N_freeBlocks_5 : decode M_N_freeBlocks.2.1 5 = .ok (.bipush 40, 2) := by decide +kernel
theorem d_N_freeBlocks_7 : decode M_N_freeBlocks.2.1 7 = .ok (.if_icmp .ge 21, 3) := by decide +kernel
theorem d_N_freeBlocks_10 : decode M_N_freeBlocks.2.1 10 = .ok (.aload_n 0, 1) := by decide +kernel
theorem d_N_freeBlocks_11 : decode M_N_freeBlocks.2.1 11 = .ok (.getfield 15, 3) := by decide +kernel
theorem d_N_freeBlocks_14 : decode M_N_freeBlocks.2.1 14 = .ok (.iload_n 2, 1) := by decide +kernel
theorem d_N_freeBlocks_15 : decode M_N_freeBlocks.2.1 15 = .ok (.baload, 1) := by decide +kernel
theorem d_N_freeBlocks_16 : decode M_N_freeBlocks.2.1 16 = .ok (.ifCond .ne 6, 3) := by decide +kernel
theorem d_N_freeBlocks_19 : decode M_N_freeBlocks.2.1 19 = .ok (.iinc 1 1, 3) := by decide +kernel
theorem d_N_freeBlocks_22 : decode M_N_freeBlocks.2.1 22 = .ok (.iinc 2 1, 3) := by decide +kernel
theorem d_N_freeBlocks_25 : decode M_N_freeBlocks.2.1 25 = .ok (.goto (-21), 3) := by decide +kernel
theorem d_N_freeBlocks_28 : decode M_N_freeBlocks.2.1 28 = .ok (.iload_n 1, 1) := by decide +kernel
theorem d_N_freeBlocks_29 : decode M_N_freeBlocks.2.1 29 = .ok (.ireturn, 1) := by decide +kernel
theorem d_N_giveUp_0 : decode M_N_giveUp.2.1 0 = .ok (.iconst 0, 1) := by decide +kernel
theorem d_N_giveUp_1 : decode M_N_giveUp.2.1 1 = .ok (.istore_n 2, 1) := by decide +kernel
theorem d_N_giveUp_2 : decode M_N_giveUp.2.1 2 = .ok (.iload_n 2, 1) := by decide +kernel
theorem d_N_giveUp_3 : decode M_N_giveUp.2.1 3 = .ok (.aload_n 1, 1) := by decide +kernel
theorem d_N_giveUp_4 : decode M_N_giveUp.2.1 4 = .ok (.getfield 53, 3) := by decide +kernel
theorem d_N_giveUp_7 : decode M_N_giveUp.2.1 7 = .ok (.if_icmp .ge 32, 3) := by decide +kernel
theorem d_N_giveUp_10 : decode M_N_giveUp.2.1 10 = .ok (.aload_n 1, 1) := by decide +kernel
theorem d_N_giveUp_11 : decode M_N_giveUp.2.1 11 = .ok (.iload_n 2, 1) := by decide +kernel
theorem d_N_giveUp_12 : decode M_N_giveUp.2.1 12 = .ok (.invokevirtual 63, 3) := by decide +kernel
theorem d_N_giveUp_15 : decode M_N_giveUp.2.1 15 = .ok (.istore_n 3, 1) := by decide +kernel
theorem d_N_giveUp_16 : decode M_N_giveUp.2.1 16 = .ok (.iload_n 3, 1) := by decide +kernel
theorem d_N_giveUp_17 : decode M_N_giveUp.2.1 17 = .ok (.ifCond .lt 16, 3) := by decide +kernel
theorem d_N_giveUp_20 : decode M_N_giveUp.2.1 20 = .ok (.iload_n 3, 1) := by decide +kernel
theorem d_N_giveUp_21 : decode M_N_giveUp.2.1 21 = .ok (.bipush 40, 2) := by decide +kernel
theorem d_N_giveUp_23 : decode M_N_giveUp.2.1 23 = .ok (.if_icmp .ge 10, 3) := by decide +kernel
theorem d_N_giveUp_26 : decode M_N_giveUp.2.1 26 = .ok (.aload_n 0, 1) := by decide +kernel
theorem d_N_giveUp_27 : decode M_N_giveUp.2.1 27 = .ok (.getfield 15, 3) := by decide +kernel
theorem d_N_giveUp_30 : decode M_N_giveUp.2.1 30 = .ok (.iload_n 3, 1) := by decide +kernel
theorem d_N_giveUp_31 : decode M_N_giveUp.2.1 31 = .ok (.iconst 0, 1) := by decide +kernel
theorem d_N_giveUp_32 : decode M_N_giveUp.2.1 32 = .ok (.bastore, 1) := by decide +kernel
theorem d_N_giveUp_33 : decode M_N_giveUp.2.1 33 = .ok (.iinc 2 1, 3) := by decide +kernel
theorem d_N_giveUp_36 : decode M_N_giveUp.2.1 36 = .ok (.goto (-34), 3) := by decide +kernel
theorem d_N_giveUp_39 : decode M_N_giveUp.2.1 39 = .ok (.aload_n 1, 1) := by decide +kernel
theorem d_N_giveUp_40 : decode M_N_giveUp.2.1 40 = .ok (.iconst 0, 1) := by decide +kernel
theorem d_N_giveUp_41 : decode M_N_giveUp.2.1 41 = .ok (.putfield 37, 3) := by decide +kernel
theorem d_N_giveUp_44 : decode M_N_giveUp.2.1 44 = .ok (.aload_n 1, 1) := by decide +kernel
theorem d_N_giveUp_45 : decode M_N_giveUp.2.1 45 = .ok (.iconst 0, 1) := by decide +kernel
theorem d_N_giveUp_46 : decode M_N_giveUp.2.1 46 = .ok (.putfield 40, 3) := by decide +kernel
theorem d_N_giveUp_49 : decode M_N_giveUp.2.1 49 = .ok (.aload_n 1, 1) := by decide +kernel
theorem d_N_giveUp_50 : decode M_N_giveUp.2.1 50 = .ok (.iconst 0, 1) := by decide +kernel
theorem d_N_giveUp_51 : decode M_N_giveUp.2.1 51 = .ok (.putfield 53, 3) := by decide +kernel
theorem d_N_giveUp_54 : decode M_N_giveUp.2.1 54 = .ok (.return_, 1) := by decide +kernel
theorem d_N_giveUpAll_0 : decode M_N_giveUpAll.2.1 0 = .ok (.aload_n 0, 1) := by decide +kernel
theorem d_N_giveUpAll_1 : decode M_N_giveUpAll.2.1 1 = .ok (.invokevirtual 70, 3) := by decide +kernel
theorem d_N_giveUpAll_4 : decode M_N_giveUpAll.2.1 4 = .ok (.pop, 1) := by decide +kernel
theorem d_N_giveUpAll_5 : decode M_N_giveUpAll.2.1 5 = .ok (.iconst 0, 1) := by decide +kernel
theorem d_N_giveUpAll_6 : decode M_N_giveUpAll.2.1 6 = .ok (.istore_n 1, 1) := by decide +kernel
theorem d_N_giveUpAll_7 : decode M_N_giveUpAll.2.1 7 = .ok (.iload_n 1, 1) := by decide +kernel
theorem d_N_giveUpAll_8 : decode M_N_giveUpAll.2.1 8 = .ok (.bipush 6, 2) := by decide +kernel
theorem d_N_giveUpAll_10 : decode M_N_giveUpAll.2.1 10 = .ok (.if_icmp .ge 19, 3) := by decide +kernel
theorem d_N_giveUpAll_13 : decode M_N_giveUpAll.2.1 13 = .ok (.aload_n 0, 1) := by decide +kernel
theorem d_N_giveUpAll_14 : decode M_N_giveUpAll.2.1 14 = .ok (.aload_n 0, 1) := by decide +kernel
theorem d_N_giveUpAll_15 : decode M_N_giveUpAll.2.1 15 = .ok (.getfield 21, 3) := by decide +kernel
theorem d_N_giveUpAll_18 : decode M_N_giveUpAll.2.1 18 = .ok (.iload_n 1, 1) := by decide +kernel
theorem d_N_giveUpAll_19 : decode M_N_giveUpAll.2.1 19 = .ok (.aaload, 1) := by decide +kernel
theorem d_N_giveUpAll_20 : decode M_N_giveUpAll.2.1 20 = .ok (.invokevirtual 66, 3) := by decide +kernel
theorem d_N_giveUpAll_23 : decode M_N_giveUpAll.2.1 23 = .ok (.iinc 1 1, 3) := by decide +kernel
theorem d_N_giveUpAll_26 : decode M_N_giveUpAll.2.1 26 = .ok (.goto (-19), 3) := by decide +kernel
theorem d_N_giveUpAll_29 : decode M_N_giveUpAll.2.1 29 = .ok (.return_, 1) := by decide +kernel
theorem d_N_giveUpShadows_0 : decode M_N_giveUpShadows.2.1 0 = .ok (.iconst 0, 1) := by decide +kernel
theorem d_N_giveUpShadows_1 : decode M_N_giveUpShadows.2.1 1 = .ok (.istore_n 1, 1) := by decide +kernel
theorem d_N_giveUpShadows_2 : decode M_N_giveUpShadows.2.1 2 = .ok (.iconst 0, 1) := by decide +kernel
theorem d_N_giveUpShadows_3 : decode M_N_giveUpShadows.2.1 3 = .ok (.istore_n 2, 1) := by decide +kernel
theorem d_N_giveUpShadows_4 : decode M_N_giveUpShadows.2.1 4 = .ok (.iload_n 2, 1) := by decide +kernel
theorem d_N_giveUpShadows_5 : decode M_N_giveUpShadows.2.1 5 = .ok (.bipush 6, 2) := by decide +kernel
theorem d_N_giveUpShadows_7 : decode M_N_giveUpShadows.2.1 7 = .ok (.if_icmp .ge 34, 3) := by decide +kernel
theorem d_N_giveUpShadows_10 : decode M_N_giveUpShadows.2.1 10 = .ok (.aload_n 0, 1) := by decide +kernel
theorem d_N_giveUpShadows_11 : decode M_N_giveUpShadows.2.1 11 = .ok (.getfield 25, 3) := by decide +kernel
theorem d_N_giveUpShadows_14 : decode M_N_giveUpShadows.2.1 14 = .ok (.iload_n 2, 1) := by decide +kernel
theorem d_N_giveUpShadows_15 : decode M_N_giveUpShadows.2.1 15 = .ok (.aaload, 1) := by decide +kernel
theorem d_N_giveUpShadows_16 : decode M_N_giveUpShadows.2.1 16 = .ok (.getfield 37, 3) := by decide +kernel
theorem d_N_giveUpShadows_19 : decode M_N_giveUpShadows.2.1 19 = .ok (.ifCond .le 6, 3) := by decide +kernel
theorem d_N_giveUpShadows_22 : decode M_N_giveUpShadows.2.1 22 = .ok (.iinc 1 1, 3) := by decide +kernel
theorem d_N_giveUpShadows_25 : decode M_N_giveUpShadows.2.1 25 = .ok (.aload_n 0, 1) := by decide +kernel
theorem d_N_giveUpShadows_26 : decode M_N_giveUpShadows.2.1 26 = .ok (.aload_n 0, 1) := by decide +kernel
theorem d_N_giveUpShadows_27 : decode M_N_giveUpShadows.2.1 27 = .ok (.getfield 25, 3) := by decide +kernel
theorem d_N_giveUpShadows_30 : decode M_N_giveUpShadows.2.1 30 = .ok (.iload_n 2, 1) := by decide +kernel
theorem d_N_giveUpShadows_31 : decode M_N_giveUpShadows.2.1 31 = .ok (.aaload, 1) := by decide +kernel
theorem d_N_giveUpShadows_32 : decode M_N_giveUpShadows.2.1 32 = .ok (.invokevirtual 66, 3) := by decide +kernel
theorem d_N_giveUpShadows_35 : decode M_N_giveUpShadows.2.1 35 = .ok (.iinc 2 1, 3) := by decide +kernel
theorem d_N_giveUpShadows_38 : decode M_N_giveUpShadows.2.1 38 = .ok (.goto (-34), 3) := by decide +kernel
theorem d_N_giveUpShadows_41 : decode M_N_giveUpShadows.2.1 41 = .ok (.iload_n 1, 1) := by decide +kernel
theorem d_N_giveUpShadows_42 : decode M_N_giveUpShadows.2.1 42 = .ok (.ireturn, 1) := by decide +kernel
theorem d_N_init_0 : decode M_N_init.2.1 0 = .ok (.aload_n 0, 1) := by decide +kernel
theorem d_N_init_1 : decode M_N_init.2.1 1 = .ok (.invokespecial 3, 3) := by decide +kernel
theorem d_N_init_4 : decode M_N_init.2.1 4 = .ok (.aload_n 0, 1) := by decide +kernel
theorem d_N_init_5 : decode M_N_init.2.1 5 = .ok (.sipush 320, 3) := by decide +kernel
theorem d_N_init_8 : decode M_N_init.2.1 8 = .ok (.newarray .int, 2) := by decide +kernel
theorem d_N_init_10 : decode M_N_init.2.1 10 = .ok (.putfield 9, 3) := by decide +kernel
theorem d_N_init_13 : decode M_N_init.2.1 13 = .ok (.aload_n 0, 1) := by decide +kernel
theorem d_N_init_14 : decode M_N_init.2.1 14 = .ok (.bipush 40, 2) := by decide +kernel
theorem d_N_init_16 : decode M_N_init.2.1 16 = .ok (.newarray .boolean, 2) := by decide +kernel
theorem d_N_init_18 : decode M_N_init.2.1 18 = .ok (.putfield 15, 3) := by decide +kernel
theorem d_N_init_21 : decode M_N_init.2.1 21 = .ok (.aload_n 0, 1) := by decide +kernel
theorem d_N_init_22 : decode M_N_init.2.1 22 = .ok (.bipush 6, 2) := by decide +kernel
theorem d_N_init_24 : decode M_N_init.2.1 24 = .ok (.anewarray 19, 3) := by decide +kernel
theorem d_N_init_27 : decode M_N_init.2.1 27 = .ok (.putfield 21, 3) := by decide +kernel
theorem d_N_init_30 : decode M_N_init.2.1 30 = .ok (.aload_n 0, 1) := by decide +kernel
theorem d_N_init_31 : decode M_N_init.2.1 31 = .ok (.bipush 6, 2) := by decide +kernel
theorem d_N_init_33 : decode M_N_init.2.1 33 = .ok (.anewarray 19, 3) := by decide +kernel
theorem d_N_init_36 : decode M_N_init.2.1 36 = .ok (.putfield 25, 3) := by decide +kernel
theorem d_N_init_39 : decode M_N_init.2.1 39 = .ok (.aload_n 0, 1) := by decide +kernel
theorem d_N_init_40 : decode M_N_init.2.1 40 = .ok (.iconst 1, 1) := by decide +kernel
theorem d_N_init_41 : decode M_N_init.2.1 41 = .ok (.putfield 28, 3) := by decide +kernel
theorem d_N_init_44 : decode M_N_init.2.1 44 = .ok (.aload_n 0, 1) := by decide +kernel
theorem d_N_init_45 : decode M_N_init.2.1 45 = .ok (.iconst 0, 1) := by decide +kernel
theorem d_N_init_46 : decode M_N_init.2.1 46 = .ok (.putfield 32, 3) := by decide +kernel
theorem d_N_init_49 : decode M_N_init.2.1 49 = .ok (.iconst 0, 1) := by decide +kernel
theorem d_N_init_50 : decode M_N_init.2.1 50 = .ok (.istore_n 1, 1) := by decide +kernel
theorem d_N_init_51 : decode M_N_init.2.1 51 = .ok (.iload_n 1, 1) := by decide +kernel
theorem d_N_init_52 : decode M_N_init.2.1 52 = .ok (.bipush 6, 2) := by decide +kernel
theorem d_N_init_54 : decode M_N_init.2.1 54 = .ok (.if_icmp .ge 35, 3) := by decide +kernel
theorem d_N_init_57 : decode M_N_init.2.1 57 = .ok (.aload_n 0, 1) := by decide +kernel
theorem d_N_init_58 : decode M_N_init.2.1 58 = .ok (.getfield 21, 3) := by decide +kernel
theorem d_N_init_61 : decode M_N_init.2.1 61 = .ok (.iload_n 1, 1) := by decide +kernel
theorem d_N_init_62 : decode M_N_init.2.1 62 = .ok (.new 19, 3) := by decide +kernel
theorem d_N_init_65 : decode M_N_init.2.1 65 = .ok (.dup, 1) := by decide +kernel
theorem d_N_init_66 : decode M_N_init.2.1 66 = .ok (.invokespecial 36, 3) := by decide +kernel
theorem d_N_init_69 : decode M_N_init.2.1 69 = .ok (.aastore, 1) := by decide +kernel
theorem d_N_init_70 : decode M_N_init.2.1 70 = .ok (.aload_n 0, 1) := by decide +kernel
theorem d_N_init_71 : decode M_N_init.2.1 71 = .ok (.getfield 25, 3) := by decide +kernel
theorem d_N_init_74 : decode M_N_init.2.1 74 = .ok (.iload_n 1, 1) := by decide +kernel
theorem d_N_init_75 : decode M_N_init.2.1 75 = .ok (.new 19, 3) := by decide +kernel
theorem d_N_init_78 : decode M_N_init.2.1 78 = .ok (.dup, 1) := by decide +kernel
theorem d_N_init_79 : decode M_N_init.2.1 79 = .ok (.invokespecial 36, 3) := by decide +kernel
theorem d_N_init_82 : decode M_N_init.2.1 82 = .ok (.aastore, 1) := by decide +kernel
theorem d_N_init_83 : decode M_N_init.2.1 83 = .ok (.iinc 1 1, 3) := by decide +kernel
theorem d_N_init_86 : decode M_N_init.2.1 86 = .ok (.goto (-35), 3) := by decide +kernel
theorem d_N_init_89 : decode M_N_init.2.1 89 = .ok (.return_, 1) := by decide +kernel
theorem d_N_read_0 : decode M_N_read.2.1 0 = .ok (.iconst 0, 1) := by decide +kernel
theorem d_N_read_1 : decode M_N_read.2.1 1 = .ok (.istore_n 3, 1) := by decide +kernel
theorem d_N_read_2 : decode M_N_read.2.1 2 = .ok (.iload_n 3, 1) := by decide +kernel
theorem d_N_read_3 : decode M_N_read.2.1 3 = .ok (.bipush 8, 2) := by decide +kernel
theorem d_N_read_5 : decode M_N_read.2.1 5 = .ok (.if_icmp .ge 24, 3) := by decide +kernel
theorem d_N_read_8 : decode M_N_read.2.1 8 = .ok (.iload_n 3, 1) := by decide +kernel
theorem d_N_read_9 : decode M_N_read.2.1 9 = .ok (.aload_n 2, 1) := by decide +kernel
theorem d_N_read_10 : decode M_N_read.2.1 10 = .ok (.arraylength, 1) := by decide +kernel
theorem d_N_read_11 : decode M_N_read.2.1 11 = .ok (.if_icmp .ge 18, 3) := by decide +kernel
theorem d_N_read_14 : decode M_N_read.2.1 14 = .ok (.aload_n 2, 1) := by decide +kernel
theorem d_N_read_15 : decode M_N_read.2.1 15 = .ok (.iload_n 3, 1) := by decide +kernel
theorem d_N_read_16 : decode M_N_read.2.1 16 = .ok (.aload_n 0, 1) := by decide +kernel
theorem d_N_read_17 : decode M_N_read.2.1 17 = .ok (.iload_n 1, 1) := by decide +kernel
theorem d_N_read_18 : decode M_N_read.2.1 18 = .ok (.iload_n 3, 1) := by decide +kernel
theorem d_N_read_19 : decode M_N_read.2.1 19 = .ok (.invokevirtual 73, 3) := by decide +kernel
theorem d_N_read_22 : decode M_N_read.2.1 22 = .ok (.iastore, 1) := by decide +kernel
theorem d_N_read_23 : decode M_N_read.2.1 23 = .ok (.iinc 3 1, 3) := by decide +kernel
theorem d_N_read_26 : decode M_N_read.2.1 26 = .ok (.goto (-24), 3) := by decide +kernel
theorem d_N_read_29 : decode M_N_read.2.1 29 = .ok (.return_, 1) := by decide +kernel
theorem d_N_take_0 : decode M_N_take.2.1 0 = .ok (.aload_n 1, 1) := by decide +kernel
theorem d_N_take_1 : decode M_N_take.2.1 1 = .ok (.iload_n 2, 1) := by decide +kernel
theorem d_N_take_2 : decode M_N_take.2.1 2 = .ok (.putfield 37, 3) := by decide +kernel
theorem d_N_take_5 : decode M_N_take.2.1 5 = .ok (.aload_n 1, 1) := by decide +kernel
theorem d_N_take_6 : decode M_N_take.2.1 6 = .ok (.iload_n 3, 1) := by decide +kernel
theorem d_N_take_7 : decode M_N_take.2.1 7 = .ok (.putfield 40, 3) := by decide +kernel
theorem d_N_take_10 : decode M_N_take.2.1 10 = .ok (.aload_n 1, 1) := by decide +kernel
theorem d_N_take_11 : decode M_N_take.2.1 11 = .ok (.iload_n 3, 1) := by decide +kernel
theorem d_N_take_12 : decode M_N_take.2.1 12 = .ok (.invokestatic 43, 3) := by decide +kernel
theorem d_N_take_15 : decode M_N_take.2.1 15 = .ok (.bipush 8, 2) := by decide +kernel
theorem d_N_take_17 : decode M_N_take.2.1 17 = .ok (.invokestatic 47, 3) := by decide +kernel
theorem d_N_take_20 : decode M_N_take.2.1 20 = .ok (.putfield 53, 3) := by decide +kernel
theorem d_N_take_23 : decode M_N_take.2.1 23 = .ok (.iconst 0, 1) := by decide +kernel
theorem d_N_take_24 : decode M_N_take.2.1 24 = .ok (.istore 4, 2) := by decide +kernel
theorem d_N_take_26 : decode M_N_take.2.1 26 = .ok (.iload 4, 2) := by decide +kernel
theorem d_N_take_28 : decode M_N_take.2.1 28 = .ok (.aload_n 1, 1) := by decide +kernel
theorem d_N_take_29 : decode M_N_take.2.1 29 = .ok (.getfield 53, 3) := by decide +kernel
theorem d_N_take_32 : decode M_N_take.2.1 32 = .ok (.if_icmp .ge 20, 3) := by decide +kernel
theorem d_N_take_35 : decode M_N_take.2.1 35 = .ok (.aload_n 1, 1) := by decide +kernel
theorem d_N_take_36 : decode M_N_take.2.1 36 = .ok (.getfield 56, 3) := by decide +kernel
theorem d_N_take_39 : decode M_N_take.2.1 39 = .ok (.iload 4, 2) := by decide +kernel
theorem d_N_take_41 : decode M_N_take.2.1 41 = .ok (.aload_n 0, 1) := by decide +kernel
theorem d_N_take_42 : decode M_N_take.2.1 42 = .ok (.invokevirtual 59, 3) := by decide +kernel
theorem d_N_take_45 : decode M_N_take.2.1 45 = .ok (.iastore, 1) := by decide +kernel
theorem d_N_take_46 : decode M_N_take.2.1 46 = .ok (.iinc 4 1, 3) := by decide +kernel
theorem d_N_take_49 : decode M_N_take.2.1 49 = .ok (.goto (-23), 3) := by decide +kernel
theorem d_N_take_52 : decode M_N_take.2.1 52 = .ok (.return_, 1) := by decide +kernel
theorem d_N_takeLeastFree_0 : decode M_N_takeLeastFree.2.1 0 = .ok (.iconst 0, 1) := by decide +kernel
theorem d_N_takeLeastFree_1 : decode M_N_takeLeastFree.2.1 1 = .ok (.istore_n 1, 1) := by decide +kernel
theorem d_N_takeLeastFree_2 : decode M_N_takeLeastFree.2.1 2 = .ok (.iload_n 1, 1) := by decide +kernel
theorem d_N_takeLeastFree_3 : decode M_N_takeLeastFree.2.1 3 = .ok (.bipush 40, 2) := by decide +kernel
theorem d_N_takeLeastFree_5 : decode M_N_takeLeastFree.2.1 5 = .ok (.if_icmp .ge 27, 3) := by decide +kernel
theorem d_N_takeLeastFree_8 : decode M_N_takeLeastFree.2.1 8 = .ok (.aload_n 0, 1) := by decide +kernel
theorem d_N_takeLeastFree_9 : decode M_N_takeLeastFree.2.1 9 = .ok (.getfield 15, 3) := by decide +kernel
theorem d_N_takeLeastFree_12 : decode M_N_takeLeastFree.2.1 12 = .ok (.iload_n 1, 1) := by decide +kernel
theorem d_N_takeLeastFree_13 : decode M_N_takeLeastFree.2.1 13 = .ok (.baload, 1) := by decide +kernel
theorem d_N_takeLeastFree_14 : decode M_N_takeLeastFree.2.1 14 = .ok (.ifCond .ne 12, 3) := by decide +kernel
theorem d_N_takeLeastFree_17 : decode M_N_takeLeastFree.2.1 17 = .ok (.aload_n 0, 1) := by decide +kernel
theorem d_N_takeLeastFree_18 : decode M_N_takeLeastFree.2.1 18 = .ok (.getfield 15, 3) := by decide +kernel
theorem d_N_takeLeastFree_21 : decode M_N_takeLeastFree.2.1 21 = .ok (.iload_n 1, 1) := by decide +kernel
theorem d_N_takeLeastFree_22 : decode M_N_takeLeastFree.2.1 22 = .ok (.iconst 1, 1) := by decide +kernel
theorem d_N_takeLeastFree_23 : decode M_N_takeLeastFree.2.1 23 = .ok (.bastore, 1) := by decide +kernel
theorem d_N_takeLeastFree_24 : decode M_N_takeLeastFree.2.1 24 = .ok (.iload_n 1, 1) := by decide +kernel
theorem d_N_takeLeastFree_25 : decode M_N_takeLeastFree.2.1 25 = .ok (.ireturn, 1) := by decide +kernel
theorem d_N_takeLeastFree_26 : decode M_N_takeLeastFree.2.1 26 = .ok (.iinc 1 1, 3) := by decide +kernel
theorem d_N_takeLeastFree_29 : decode M_N_takeLeastFree.2.1 29 = .ok (.goto (-27), 3) := by decide +kernel
theorem d_N_takeLeastFree_32 : decode M_N_takeLeastFree.2.1 32 = .ok (.iconst (-1), 1) := by decide +kernel
theorem d_N_takeLeastFree_33 : decode M_N_takeLeastFree.2.1 33 = .ok (.ireturn, 1) := by decide +kernel
theorem d_N_write_0 : decode M_N_write.2.1 0 = .ok (.iload_n 1, 1) := by decide +kernel
theorem d_N_write_1 : decode M_N_write.2.1 1 = .ok (.ifCond .lt 9, 3) := by decide +kernel
theorem d_N_write_4 : decode M_N_write.2.1 4 = .ok (.iload_n 1, 1) := by decide +kernel
theorem d_N_write_5 : decode M_N_write.2.1 5 = .ok (.bipush 40, 2) := by decide +kernel
theorem d_N_write_7 : decode M_N_write.2.1 7 = .ok (.if_icmp .lt 4, 3) := by decide +kernel
theorem d_N_write_10 : decode M_N_write.2.1 10 = .ok (.return_, 1) := by decide +kernel
theorem d_N_write_11 : decode M_N_write.2.1 11 = .ok (.iconst 0, 1) := by decide +kernel
theorem d_N_write_12 : decode M_N_write.2.1 12 = .ok (.istore_n 3, 1) := by decide +kernel
theorem d_N_write_13 : decode M_N_write.2.1 13 = .ok (.iload_n 3, 1) := by decide +kernel
theorem d_N_write_14 : decode M_N_write.2.1 14 = .ok (.bipush 8, 2) := by decide +kernel
theorem d_N_write_16 : decode M_N_write.2.1 16 = .ok (.if_icmp .ge 29, 3) := by decide +kernel
theorem d_N_write_19 : decode M_N_write.2.1 19 = .ok (.iload_n 3, 1) := by decide +kernel
theorem d_N_write_20 : decode M_N_write.2.1 20 = .ok (.aload_n 2, 1) := by decide +kernel
theorem d_N_write_21 : decode M_N_write.2.1 21 = .ok (.arraylength, 1) := by decide +kernel
theorem d_N_write_22 : decode M_N_write.2.1 22 = .ok (.if_icmp .ge 23, 3) := by decide +kernel
theorem d_N_write_25 : decode M_N_write.2.1 25 = .ok (.aload_n 0, 1) := by decide +kernel
theorem d_N_write_26 : decode M_N_write.2.1 26 = .ok (.getfield 9, 3) := by decide +kernel
theorem d_N_write_29 : decode M_N_write.2.1 29 = .ok (.iload_n 1, 1) := by decide +kernel
theorem d_N_write_30 : decode M_N_write.2.1 30 = .ok (.bipush 8, 2) := by decide +kernel
theorem d_N_write_32 : decode M_N_write.2.1 32 = .ok (.imul, 1) := by decide +kernel
theorem d_N_write_33 : decode M_N_write.2.1 33 = .ok (.iload_n 3, 1) := by decide +kernel
theorem d_N_write_34 : decode M_N_write.2.1 34 = .ok (.iadd, 1) := by decide +kernel
theorem d_N_write_35 : decode M_N_write.2.1 35 = .ok (.aload_n 2, 1) := by decide +kernel
theorem d_N_write_36 : decode M_N_write.2.1 36 = .ok (.iload_n 3, 1) := by decide +kernel
theorem d_N_write_37 : decode M_N_write.2.1 37 = .ok (.iaload, 1) := by decide +kernel
theorem d_N_write_38 : decode M_N_write.2.1 38 = .ok (.iastore, 1) := by decide +kernel
theorem d_N_write_39 : decode M_N_write.2.1 39 = .ok (.iinc 3 1, 3) := by decide +kernel
theorem d_N_write_42 : decode M_N_write.2.1 42 = .ok (.goto (-29), 3) := by decide +kernel
theorem d_N_write_45 : decode M_N_write.2.1 45 = .ok (.return_, 1) := by decide +kernel
theorem d_S_back_0 : decode M_S_back.2.1 0 = .ok (.iload_n 1, 1) := by decide +kernel
theorem d_S_back_1 : decode M_S_back.2.1 1 = .ok (.invokestatic 76, 3) := by decide +kernel
theorem d_S_back_4 : decode M_S_back.2.1 4 = .ok (.ifCond .ne 6, 3) := by decide +kernel
theorem d_S_back_7 : decode M_S_back.2.1 7 = .ok (.bipush (-2), 2) := by decide +kernel
theorem d_S_back_9 : decode M_S_back.2.1 9 = .ok (.ireturn, 1) := by decide +kernel
theorem d_S_back_10 : decode M_S_back.2.1 10 = .ok (.aload_n 0, 1) := by decide +kernel
theorem d_S_back_11 : decode M_S_back.2.1 11 = .ok (.getfield 18, 3) := by decide +kernel
theorem d_S_back_14 : decode M_S_back.2.1 14 = .ok (.iload_n 1, 1) := by decide +kernel
theorem d_S_back_15 : decode M_S_back.2.1 15 = .ok (.aaload, 1) := by decide +kernel
theorem d_S_back_16 : decode M_S_back.2.1 16 = .ok (.getfield 103, 3) := by decide +kernel
theorem d_S_back_19 : decode M_S_back.2.1 19 = .ok (.ifCond .eq 6, 3) := by decide +kernel
theorem d_S_back_22 : decode M_S_back.2.1 22 = .ok (.bipush (-3), 2) := by decide +kernel
theorem d_S_back_24 : decode M_S_back.2.1 24 = .ok (.ireturn, 1) := by decide +kernel
theorem d_S_back_25 : decode M_S_back.2.1 25 = .ok (.aload_n 0, 1) := by decide +kernel
theorem d_S_back_26 : decode M_S_back.2.1 26 = .ok (.getfield 18, 3) := by decide +kernel
theorem d_S_back_29 : decode M_S_back.2.1 29 = .ok (.iload_n 1, 1) := by decide +kernel
theorem d_S_back_30 : decode M_S_back.2.1 30 = .ok (.aaload, 1) := by decide +kernel
theorem d_S_back_31 : decode M_S_back.2.1 31 = .ok (.iconst 1, 1) := by decide +kernel
theorem d_S_back_32 : decode M_S_back.2.1 32 = .ok (.putfield 103, 3) := by decide +kernel
theorem d_S_back_35 : decode M_S_back.2.1 35 = .ok (.aload_n 0, 1) := by decide +kernel
theorem d_S_back_36 : decode M_S_back.2.1 36 = .ok (.getfield 18, 3) := by decide +kernel
theorem d_S_back_39 : decode M_S_back.2.1 39 = .ok (.iload_n 1, 1) := by decide +kernel
theorem d_S_back_40 : decode M_S_back.2.1 40 = .ok (.aaload, 1) := by decide +kernel
theorem d_S_back_41 : decode M_S_back.2.1 41 = .ok (.invokevirtual 137, 3) := by decide +kernel
theorem d_S_back_44 : decode M_S_back.2.1 44 = .ok (.ireturn, 1) := by decide +kernel
theorem d_S_begin_0 : decode M_S_begin.2.1 0 = .ok (.aload_n 0, 1) := by decide +kernel
theorem d_S_begin_1 : decode M_S_begin.2.1 1 = .ok (.getfield 22, 3) := by decide +kernel
theorem d_S_begin_4 : decode M_S_begin.2.1 4 = .ok (.iload_n 1, 1) := by decide +kernel
theorem d_S_begin_5 : decode M_S_begin.2.1 5 = .ok (.dup2, 1) := by decide +kernel
theorem d_S_begin_6 : decode M_S_begin.2.1 6 = .ok (.iaload, 1) := by decide +kernel
theorem d_S_begin_7 : decode M_S_begin.2.1 7 = .ok (.iconst 1, 1) := by decide +kernel
theorem d_S_begin_8 : decode M_S_begin.2.1 8 = .ok (.iadd, 1) := by decide +kernel
theorem d_S_begin_9 : decode M_S_begin.2.1 9 = .ok (.iastore, 1) := by decide +kernel
theorem d_S_begin_10 : decode M_S_begin.2.1 10 = .ok (.aload_n 0, 1) := by decide +kernel
theorem d_S_begin_11 : decode M_S_begin.2.1 11 = .ok (.invokevirtual 85, 3) := by decide +kernel
theorem d_S_begin_14 : decode M_S_begin.2.1 14 = .ok (.istore_n 3, 1) := by decide +kernel
theorem d_S_begin_15 : decode M_S_begin.2.1 15 = .ok (.iconst 2, 1) := by decide +kernel
theorem d_S_begin_16 : decode M_S_begin.2.1 16 = .ok (.iload_n 3, 1) := by decide +kernel
theorem d_S_begin_17 : decode M_S_begin.2.1 17 = .ok (.imul, 1) := by decide +kernel
theorem d_S_begin_18 : decode M_S_begin.2.1 18 = .ok (.istore 4, 2) := by decide +kernel
theorem d_S_begin_20 : decode M_S_begin.2.1 20 = .ok (.aload_n 0, 1) := by decide +kernel
theorem d_S_begin_21 : decode M_S_begin.2.1 21 = .ok (.getfield 43, 3) := by decide +kernel
theorem d_S_begin_24 : decode M_S_begin.2.1 24 = .ok (.iconst (-1), 1) := by decide +kernel
theorem d_S_begin_25 : decode M_S_begin.2.1 25 = .ok (.if_icmp .eq 16, 3) := by decide +kernel
theorem d_S_begin_28 : decode M_S_begin.2.1 28 = .ok (.aload_n 0, 1) := by decide +kernel
theorem d_S_begin_29 : decode M_S_begin.2.1 29 = .ok (.getfield 43, 3) := by decide +kernel
theorem d_S_begin_32 : decode M_S_begin.2.1 32 = .ok (.iload 4, 2) := by decide +kernel
theorem d_S_begin_34 : decode M_S_begin.2.1 34 = .ok (.if_icmp .ge 7, 3) := by decide +kernel
theorem d_S_begin_37 : decode M_S_begin.2.1 37 = .ok (.iconst 1, 1) := by decide +kernel
theorem d_S_begin_38 : decode M_S_begin.2.1 38 = .ok (.goto 4, 3) := by decide +kernel
theorem d_S_begin_41 : decode M_S_begin.2.1 41 = .ok (.iconst 0, 1) := by decide +kernel
theorem d_S_begin_42 : decode M_S_begin.2.1 42 = .ok (.istore 5, 2) := by decide +kernel
theorem d_S_begin_44 : decode M_S_begin.2.1 44 = .ok (.iload 5, 2) := by decide +kernel
theorem d_S_begin_46 : decode M_S_begin.2.1 46 = .ok (.ifCond .eq 10, 3) := by decide +kernel
theorem d_S_begin_49 : decode M_S_begin.2.1 49 = .ok (.aload_n 0, 1) := by decide +kernel
theorem d_S_begin_50 : decode M_S_begin.2.1 50 = .ok (.getfield 43, 3) := by decide +kernel
theorem d_S_begin_53 : decode M_S_begin.2.1 53 = .ok (.goto 5, 3) := by decide +kernel
theorem d_S_begin_56 : decode M_S_begin.2.1 56 = .ok (.iload 4, 2) := by decide +kernel
theorem d_S_begin_58 : decode M_S_begin.2.1 58 = .ok (.istore 6, 2) := by decide +kernel
theorem d_S_begin_60 : decode M_S_begin.2.1 60 = .ok (.aload_n 0, 1) := by decide +kernel
theorem d_S_begin_61 : decode M_S_begin.2.1 61 = .ok (.iconst (-1), 1) := by decide +kernel
theorem d_S_begin_62 : decode M_S_begin.2.1 62 = .ok (.putfield 43, 3) := by decide +kernel
theorem d_S_begin_65 : decode M_S_begin.2.1 65 = .ok (.aload_n 0, 1) := by decide +kernel
theorem d_S_begin_66 : decode M_S_begin.2.1 66 = .ok (.dup, 1) := by decide +kernel
theorem d_S_begin_67 : decode M_S_begin.2.1 67 = .ok (.getfield 46, 3) := by decide +kernel
theorem d_S_begin_70 : decode M_S_begin.2.1 70 = .ok (.iload 6, 2) := by decide +kernel
theorem d_S_begin_72 : decode M_S_begin.2.1 72 = .ok (.iadd, 1) := by decide +kernel
theorem d_S_begin_73 : decode M_S_begin.2.1 73 = .ok (.putfield 46, 3) := by decide +kernel
theorem d_S_begin_76 : decode M_S_begin.2.1 76 = .ok (.aload_n 0, 1) := by decide +kernel
theorem d_S_begin_77 : decode M_S_begin.2.1 77 = .ok (.iload_n 1, 1) := by decide +kernel
theorem d_S_begin_78 : decode M_S_begin.2.1 78 = .ok (.iload_n 2, 1) := by decide +kernel
theorem d_S_begin_79 : decode M_S_begin.2.1 79 = .ok (.iload 6, 2) := by decide +kernel
theorem d_S_begin_81 : decode M_S_begin.2.1 81 = .ok (.iload_n 3, 1) := by decide +kernel
theorem d_S_begin_82 : decode M_S_begin.2.1 82 = .ok (.invokestatic 193, 3) := by decide +kernel
theorem d_S_begin_85 : decode M_S_begin.2.1 85 = .ok (.invokevirtual 207, 3) := by decide +kernel
theorem d_S_begin_88 : decode M_S_begin.2.1 88 = .ok (.aload_n 0, 1) := by decide +kernel
theorem d_S_begin_89 : decode M_S_begin.2.1 89 = .ok (.iload_n 1, 1) := by decide +kernel
theorem d_S_begin_90 : decode M_S_begin.2.1 90 = .ok (.iload 6, 2) := by decide +kernel
theorem d_S_begin_92 : decode M_S_begin.2.1 92 = .ok (.iload_n 3, 1) := by decide +kernel
theorem d_S_begin_93 : decode M_S_begin.2.1 93 = .ok (.isub, 1) := by decide +kernel
theorem d_S_begin_94 : decode M_S_begin.2.1 94 = .ok (.invokevirtual 210, 3) := by decide +kernel
theorem d_S_begin_97 : decode M_S_begin.2.1 97 = .ok (.aload_n 0, 1) := by decide +kernel
theorem d_S_begin_98 : decode M_S_begin.2.1 98 = .ok (.getfield 26, 3) := by decide +kernel
theorem d_S_begin_101 : decode M_S_begin.2.1 101 = .ok (.iload_n 1, 1) := by decide +kernel
theorem d_S_begin_102 : decode M_S_begin.2.1 102 = .ok (.iload 5, 2) := by decide +kernel
theorem d_S_begin_104 : decode M_S_begin.2.1 104 = .ok (.bastore, 1) := by decide +kernel
theorem d_S_begin_105 : decode M_S_begin.2.1 105 = .ok (.iload 5, 2) := by decide +kernel
theorem d_S_begin_107 : decode M_S_begin.2.1 107 = .ok (.ifCond .eq 7, 3) := by decide +kernel
theorem d_S_begin_110 : decode M_S_begin.2.1 110 = .ok (.iconst 0, 1) := by decide +kernel
theorem d_S_begin_111 : decode M_S_begin.2.1 111 = .ok (.goto 9, 3) := by decide +kernel
theorem d_S_begin_114 : decode M_S_begin.2.1 114 = .ok (.aload_n 0, 1) := by decide +kernel
theorem d_S_begin_115 : decode M_S_begin.2.1 115 = .ok (.getfield 22, 3) := by decide +kernel
theorem d_S_begin_118 : decode M_S_begin.2.1 118 = .ok (.iload_n 1, 1) := by decide +kernel
theorem d_S_begin_119 : decode M_S_begin.2.1 119 = .ok (.iaload, 1) := by decide +kernel
theorem d_S_begin_120 : decode M_S_begin.2.1 120 = .ok (.ireturn, 1) := by decide +kernel
theorem d_S_block_0 : decode M_S_block.2.1 0 = .ok (.iload_n 1, 1) := by decide +kernel
theorem d_S_block_1 : decode M_S_block.2.1 1 = .ok (.invokestatic 76, 3) := by decide +kernel
theorem d_S_block_4 : decode M_S_block.2.1 4 = .ok (.ifCond .eq 10, 3) := by decide +kernel
theorem d_S_block_7 : decode M_S_block.2.1 7 = .ok (.iload_n 2, 1) := by decide +kernel
theorem d_S_block_8 : decode M_S_block.2.1 8 = .ok (.invokestatic 82, 3) := by decide +kernel
theorem d_S_block_11 : decode M_S_block.2.1 11 = .ok (.ifCond .ne 6, 3) := by decide +kernel
theorem d_S_block_14 : decode M_S_block.2.1 14 = .ok (.bipush (-2), 2) := by decide +kernel
theorem d_S_block_16 : decode M_S_block.2.1 16 = .ok (.ireturn, 1) := by decide +kernel
theorem d_S_block_17 : decode M_S_block.2.1 17 = .ok (.iload 4, 2) := by decide +kernel
theorem d_S_block_19 : decode M_S_block.2.1 19 = .ok (.ifCond .eq 21, 3) := by decide +kernel
theorem d_S_block_22 : decode M_S_block.2.1 22 = .ok (.aload_n 0, 1) := by decide +kernel
theorem d_S_block_23 : decode M_S_block.2.1 23 = .ok (.getfield 18, 3) := by decide +kernel
theorem d_S_block_26 : decode M_S_block.2.1 26 = .ok (.iload_n 1, 1) := by decide +kernel
theorem d_S_block_27 : decode M_S_block.2.1 27 = .ok (.aaload, 1) := by decide +kernel
theorem d_S_block_28 : decode M_S_block.2.1 28 = .ok (.getfield 107, 3) := by decide +kernel
theorem d_S_block_31 : decode M_S_block.2.1 31 = .ok (.iload_n 2, 1) := by decide +kernel
theorem d_S_block_32 : decode M_S_block.2.1 32 = .ok (.aaload, 1) := by decide +kernel
theorem d_S_block_33 : decode M_S_block.2.1 33 = .ok (.iload_n 3, 1) := by decide +kernel
theorem d_S_block_34 : decode M_S_block.2.1 34 = .ok (.invokevirtual 170, 3) := by decide +kernel
theorem d_S_block_37 : decode M_S_block.2.1 37 = .ok (.goto 18, 3) := by decide +kernel
theorem d_S_block_40 : decode M_S_block.2.1 40 = .ok (.aload_n 0, 1) := by decide +kernel
theorem d_S_block_41 : decode M_S_block.2.1 41 = .ok (.getfield 18, 3) := by decide +kernel
theorem d_S_block_44 : decode M_S_block.2.1 44 = .ok (.iload_n 1, 1) := by decide +kernel
theorem d_S_block_45 : decode M_S_block.2.1 45 = .ok (.aaload, 1) := by decide +kernel
theorem d_S_block_46 : decode M_S_block.2.1 46 = .ok (.getfield 173, 3) := by decide +kernel
theorem d_S_block_49 : decode M_S_block.2.1 49 = .ok (.iload_n 2, 1) := by decide +kernel
theorem d_S_block_50 : decode M_S_block.2.1 50 = .ok (.aaload, 1) := by decide +kernel
theorem d_S_block_51 : decode M_S_block.2.1 51 = .ok (.iload_n 3, 1) := by decide +kernel
theorem d_S_block_52 : decode M_S_block.2.1 52 = .ok (.invokevirtual 170, 3) := by decide +kernel
theorem d_S_block_55 : decode M_S_block.2.1 55 = .ok (.ireturn, 1) := by decide +kernel
theorem d_S_byteOf_0 : decode M_S_byteOf.2.1 0 = .ok (.iload_n 1, 1) := by decide +kernel
theorem d_S_byteOf_1 : decode M_S_byteOf.2.1 1 = .ok (.invokestatic 76, 3) := by decide +kernel
theorem d_S_byteOf_4 : decode M_S_byteOf.2.1 4 = .ok (.ifCond .eq 23, 3) := by decide +kernel
theorem d_S_byteOf_7 : decode M_S_byteOf.2.1 7 = .ok (.iload_n 2, 1) := by decide +kernel
theorem d_S_byteOf_8 : decode M_S_byteOf.2.1 8 = .ok (.ifCond .lt 19, 3) := by decide +kernel
theorem d_S_byteOf_11 : decode M_S_byteOf.2.1 11 = .ok (.iload_n 2, 1) := by decide +kernel
theorem d_S_byteOf_12 : decode M_S_byteOf.2.1 12 = .ok (.bipush 40, 2) := by decide +kernel
theorem d_S_byteOf_14 : decode M_S_byteOf.2.1 14 = .ok (.if_icmp .ge 13, 3) := by decide +kernel
theorem d_S_byteOf_17 : decode M_S_byteOf.2.1 17 = .ok (.iload_n 3, 1) := by decide +kernel
theorem d_S_byteOf_18 : decode M_S_byteOf.2.1 18 = .ok (.ifCond .lt 9, 3) := by decide +kernel
theorem d_S_byteOf_21 : decode M_S_byteOf.2.1 21 = .ok (.iload_n 3, 1) := by decide +kernel
theorem d_S_byteOf_22 : decode M_S_byteOf.2.1 22 = .ok (.bipush 8, 2) := by decide +kernel
theorem d_S_byteOf_24 : decode M_S_byteOf.2.1 24 = .ok (.if_icmp .lt 6, 3) := by decide +kernel
theorem d_S_byteOf_27 : decode M_S_byteOf.2.1 27 = .ok (.bipush (-2), 2) := by decide +kernel
theorem d_S_byteOf_29 : decode M_S_byteOf.2.1 29 = .ok (.ireturn, 1) := by decide +kernel
theorem d_S_byteOf_30 : decode M_S_byteOf.2.1 30 = .ok (.aload_n 0, 1) := by decide +kernel
theorem d_S_byteOf_31 : decode M_S_byteOf.2.1 31 = .ok (.getfield 18, 3) := by decide +kernel
theorem d_S_byteOf_34 : decode M_S_byteOf.2.1 34 = .ok (.iload_n 1, 1) := by decide +kernel
theorem d_S_byteOf_35 : decode M_S_byteOf.2.1 35 = .ok (.aaload, 1) := by decide +kernel
theorem d_S_byteOf_36 : decode M_S_byteOf.2.1 36 = .ok (.iload_n 2, 1) := by decide +kernel
theorem d_S_byteOf_37 : decode M_S_byteOf.2.1 37 = .ok (.iload_n 3, 1) := by decide +kernel
theorem d_S_byteOf_38 : decode M_S_byteOf.2.1 38 = .ok (.invokevirtual 176, 3) := by decide +kernel
theorem d_S_byteOf_41 : decode M_S_byteOf.2.1 41 = .ok (.ireturn, 1) := by decide +kernel
theorem d_S_chooseLeastNumbers_0 : decode M_S_chooseLeastNumbers.2.1 0 = .ok (.aload_n 0, 1) := by decide +kernel
theorem d_S_chooseLeastNumbers_1 : decode M_S_chooseLeastNumbers.2.1 1 = .ok (.iload_n 1, 1) := by decide +kernel
theorem d_S_chooseLeastNumbers_2 : decode M_S_chooseLeastNumbers.2.1 2 = .ok (.invokevirtual 134, 3) := by decide +kernel
theorem d_S_chooseLeastNumbers_5 : decode M_S_chooseLeastNumbers.2.1 5 = .ok (.istore_n 3, 1) := by decide +kernel
theorem d_S_chooseLeastNumbers_6 : decode M_S_chooseLeastNumbers.2.1 6 = .ok (.iconst 0, 1) := by decide +kernel
theorem d_S_chooseLeastNumbers_7 : decode M_S_chooseLeastNumbers.2.1 7 = .ok (.istore 4, 2) := by decide +kernel
theorem d_S_chooseLeastNumbers_9 : decode M_S_chooseLeastNumbers.2.1 9 = .ok (.iconst 0, 1) := by decide +kernel
theorem d_S_chooseLeastNumbers_10 : decode M_S_chooseLeastNumbers.2.1 10 = .ok (.istore 5, 2) := by decide +kernel
theorem d_S_chooseLeastNumbers_12 : decode M_S_chooseLeastNumbers.2.1 12 = .ok (.iload 5, 2) := by decide +kernel
theorem d_S_chooseLeastNumbers_14 : decode M_S_chooseLeastNumbers.2.1 14 = .ok (.bipush 12, 2) := by decide +kernel
theorem d_S_chooseLeastNumbers_16 : decode M_S_chooseLeastNumbers.2.1 16 = .ok (.if_icmp .ge 47, 3) := by decide +kernel
theorem d_S_chooseLeastNumbers_19 : decode M_S_chooseLeastNumbers.2.1 19 = .ok (.iload 4, 2) := by decide +kernel
theorem d_S_chooseLeastNumbers_21 : decode M_S_chooseLeastNumbers.2.1 21 = .ok (.iconst 5, 1) := by decide +kernel
theorem d_S_chooseLeastNumbers_22 : decode M_S_chooseLeastNumbers.2.1 22 = .ok (.if_icmp .ge 41, 3) := by decide +kernel
theorem d_S_chooseLeastNumbers_25 : decode M_S_chooseLeastNumbers.2.1 25 = .ok (.iload_n 2, 1) := by decide +kernel
theorem d_S_chooseLeastNumbers_26 : decode M_S_chooseLeastNumbers.2.1 26 = .ok (.iload 5, 2) := by decide +kernel
theorem d_S_chooseLeastNumbers_28 : decode M_S_chooseLeastNumbers.2.1 28 = .ok (.invokestatic 231, 3) := by decide +kernel
theorem d_S_chooseLeastNumbers_31 : decode M_S_chooseLeastNumbers.2.1 31 = .ok (.ifCond .eq 26, 3) := by decide +kernel
theorem d_S_chooseLeastNumbers_34 : decode M_S_chooseLeastNumbers.2.1 34 = .ok (.aload_n 0, 1) := by decide +kernel
theorem d_S_chooseLeastNumbers_35 : decode M_S_chooseLeastNumbers.2.1 35 = .ok (.iload 5, 2) := by decide +kernel
theorem d_S_chooseLeastNumbers_37 : decode M_S_chooseLeastNumbers.2.1 37 = .ok (.iload_n 1, 1) := by decide +kernel
theorem d_S_chooseLeastNumbers_38 : decode M_S_chooseLeastNumbers.2.1 38 = .ok (.iload_n 3, 1) := by decide +kernel
theorem d_S_chooseLeastNumbers_39 : decode M_S_chooseLeastNumbers.2.1 39 = .ok (.invokevirtual 159, 3) := by decide +kernel
theorem d_S_chooseLeastNumbers_42 : decode M_S_chooseLeastNumbers.2.1 42 = .ok (.ifCond .eq 15, 3) := by decide +kernel
theorem d_S_chooseLeastNumbers_45 : decode M_S_chooseLeastNumbers.2.1 45 = .ok (.aload_n 0, 1) := by decide +kernel
theorem d_S_chooseLeastNumbers_46 : decode M_S_chooseLeastNumbers.2.1 46 = .ok (.getfield 52, 3) := by decide +kernel
theorem d_S_chooseLeastNumbers_49 : decode M_S_chooseLeastNumbers.2.1 49 = .ok (.iload 4, 2) := by decide +kernel
theorem d_S_chooseLeastNumbers_51 : decode M_S_chooseLeastNumbers.2.1 51 = .ok (.iload 5, 2) := by decide +kernel
theorem d_S_chooseLeastNumbers_53 : decode M_S_chooseLeastNumbers.2.1 53 = .ok (.iastore, 1) := by decide +kernel
theorem d_S_chooseLeastNumbers_54 : decode M_S_chooseLeastNumbers.2.1 54 = .ok (.iinc 4 1, 3) := by decide +kernel
theorem d_S_chooseLeastNumbers_57 : decode M_S_chooseLeastNumbers.2.1 57 = .ok (.iinc 5 1, 3) := by decide +kernel
theorem d_S_chooseLeastNumbers_60 : decode M_S_chooseLeastNumbers.2.1 60 = .ok (.goto (-48), 3) := by decide +kernel
theorem d_S_chooseLeastNumbers_63 : decode M_S_chooseLeastNumbers.2.1 63 = .ok (.iload 4, 2) := by decide +kernel
theorem d_S_chooseLeastNumbers_65 : decode M_S_chooseLeastNumbers.2.1 65 = .ok (.ireturn, 1) := by decide +kernel
theorem d_S_chooseLeastSent_0 : decode M_S_chooseLeastSent.2.1 0 = .ok (.aload_n 0, 1) := by decide +kernel
theorem d_S_chooseLeastSent_1 : decode M_S_chooseLeastSent.2.1 1 = .ok (.iload_n 2, 1) := by decide +kernel
theorem d_S_chooseLeastSent_2 : decode M_S_chooseLeastSent.2.1 2 = .ok (.invokevirtual 134, 3) := by decide +kernel
theorem d_S_chooseLeastSent_5 : decode M_S_chooseLeastSent.2.1 5 = .ok (.istore 4, 2) := by decide +kernel
theorem d_S_chooseLeastSent_7 : decode M_S_chooseLeastSent.2.1 7 = .ok (.iload_n 3, 1) := by decide +kernel
theorem d_S_chooseLeastSent_8 : decode M_S_chooseLeastSent.2.1 8 = .ok (.istore 5, 2) := by decide +kernel
theorem d_S_chooseLeastSent_10 : decode M_S_chooseLeastSent.2.1 10 = .ok (.iconst 0, 1) := by decide +kernel
theorem d_S_chooseLeastSent_11 : decode M_S_chooseLeastSent.2.1 11 = .ok (.istore 6, 2) := by decide +kernel
theorem d_S_chooseLeastSent_13 : decode M_S_chooseLeastSent.2.1 13 = .ok (.iload 6, 2) := by decide +kernel
theorem d_S_chooseLeastSent_15 : decode M_S_chooseLeastSent.2.1 15 = .ok (.bipush 8, 2) := by decide +kernel
theorem d_S_chooseLeastSent_17 : decode M_S_chooseLeastSent.2.1 17 = .ok (.if_icmp .ge 118, 3) := by decide +kernel
theorem d_S_chooseLeastSent_20 : decode M_S_chooseLeastSent.2.1 20 = .ok (.iconst (-1), 1) := by decide +kernel
theorem d_S_chooseLeastSent_21 : decode M_S_chooseLeastSent.2.1 21 = .ok (.istore 7, 2) := by decide +kernel
theorem d_S_chooseLeastSent_23 : decode M_S_chooseLeastSent.2.1 23 = .ok (.iconst 0, 1) := by decide +kernel
theorem d_S_chooseLeastSent_24 : decode M_S_chooseLeastSent.2.1 24 = .ok (.istore 8, 2) := by decide +kernel
theorem d_S_chooseLeastSent_26 : decode M_S_chooseLeastSent.2.1 26 = .ok (.iload 8, 2) := by decide +kernel
theorem d_S_chooseLeastSent_28 : decode M_S_chooseLeastSent.2.1 28 = .ok (.bipush 12, 2) := by decide +kernel
theorem d_S_chooseLeastSent_30 : decode M_S_chooseLeastSent.2.1 30 = .ok (.if_icmp .ge 70, 3) := by decide +kernel
theorem d_S_chooseLeastSent_33 : decode M_S_chooseLeastSent.2.1 33 = .ok (.iload 8, 2) := by decide +kernel
theorem d_S_chooseLeastSent_35 : decode M_S_chooseLeastSent.2.1 35 = .ok (.iload_n 1, 1) := by decide +kernel
theorem d_S_chooseLeastSent_36 : decode M_S_chooseLeastSent.2.1 36 = .ok (.if_icmp .eq 58, 3) := by decide +kernel
theorem d_S_chooseLeastSent_39 : decode M_S_chooseLeastSent.2.1 39 = .ok (.iload 5, 2) := by decide +kernel
theorem d_S_chooseLeastSent_41 : decode M_S_chooseLeastSent.2.1 41 = .ok (.iload 8, 2) := by decide +kernel
theorem d_S_chooseLeastSent_43 : decode M_S_chooseLeastSent.2.1 43 = .ok (.invokestatic 231, 3) := by decide +kernel
theorem d_S_chooseLeastSent_46 : decode M_S_chooseLeastSent.2.1 46 = .ok (.ifCond .eq 48, 3) := by decide +kernel
theorem d_S_chooseLeastSent_49 : decode M_S_chooseLeastSent.2.1 49 = .ok (.aload_n 0, 1) := by decide +kernel
theorem d_S_chooseLeastSent_50 : decode M_S_chooseLeastSent.2.1 50 = .ok (.iload 8, 2) := by decide +kernel
theorem d_S_chooseLeastSent_52 : decode M_S_chooseLeastSent.2.1 52 = .ok (.iload_n 2, 1) := by decide +kernel
theorem d_S_chooseLeastSent_53 : decode M_S_chooseLeastSent.2.1 53 = .ok (.iload 4, 2) := by decide +kernel
theorem d_S_chooseLeastSent_55 : decode M_S_chooseLeastSent.2.1 55 = .ok (.invokevirtual 159, 3) := by decide +kernel
theorem d_S_chooseLeastSent_58 : decode M_S_chooseLeastSent.2.1 58 = .ok (.ifCond .eq 36, 3) := by decide +kernel
theorem d_S_chooseLeastSent_61 : decode M_S_chooseLeastSent.2.1 61 = .ok (.iload 7, 2) := by decide +kernel
theorem d_S_chooseLeastSent_63 : decode M_S_chooseLeastSent.2.1 63 = .ok (.iconst (-1), 1) := by decide +kernel
theorem d_S_chooseLeastSent_64 : decode M_S_chooseLeastSent.2.1 64 = .ok (.if_icmp .eq 26, 3) := by decide +kernel
theorem d_S_chooseLeastSent_67 : decode M_S_chooseLeastSent.2.1 67 = .ok (.aload_n 0, 1) := by decide +kernel
theorem d_S_chooseLeastSent_68 : decode M_S_chooseLeastSent.2.1 68 = .ok (.getfield 18, 3) := by decide +kernel
theorem d_S_chooseLeastSent_71 : decode M_S_chooseLeastSent.2.1 71 = .ok (.iload 8, 2) := by decide +kernel
theorem d_S_chooseLeastSent_73 : decode M_S_chooseLeastSent.2.1 73 = .ok (.aaload, 1) := by decide +kernel
theorem d_S_chooseLeastSent_74 : decode M_S_chooseLeastSent.2.1 74 = .ok (.getfield 163, 3) := by decide +kernel
theorem d_S_chooseLeastSent_77 : decode M_S_chooseLeastSent.2.1 77 = .ok (.aload_n 0, 1) := by decide +kernel
theorem d_S_chooseLeastSent_78 : decode M_S_chooseLeastSent.2.1 78 = .ok (.getfield 18, 3) := by decide +kernel
theorem d_S_chooseLeastSent_81 : decode M_S_chooseLeastSent.2.1 81 = .ok (.iload 7, 2) := by decide +kernel
theorem d_S_chooseLeastSent_83 : decode M_S_chooseLeastSent.2.1 83 = .ok (.aaload, 1) := by decide +kernel
theorem d_S_chooseLeastSent_84 : decode M_S_chooseLeastSent.2.1 84 = .ok (.getfield 163, 3) := by decide +kernel
theorem d_S_chooseLeastSent_87 : decode M_S_chooseLeastSent.2.1 87 = .ok (.if_icmp .ge 7, 3) := by decide +kernel
theorem d_S_chooseLeastSent_90 : decode M_S_chooseLeastSent.2.1 90 = .ok (.iload 8, 2) := by decide +kernel
theorem d_S_chooseLeastSent_92 : decode M_S_chooseLeastSent.2.1 92 = .ok (.istore 7, 2) := by decide +kernel
theorem d_S_chooseLeastSent_94 : decode M_S_chooseLeastSent.2.1 94 = .ok (.iinc 8 1, 3) := by decide +kernel
theorem d_S_chooseLeastSent_97 : decode M_S_chooseLeastSent.2.1 97 = .ok (.goto (-71), 3) := by decide +kernel
theorem d_S_chooseLeastSent_100 : decode M_S_chooseLeastSent.2.1 100 = .ok (.iload 7, 2) := by decide +kernel
theorem d_S_chooseLeastSent_102 : decode M_S_chooseLeastSent.2.1 102 = .ok (.iconst (-1), 1) := by decide +kernel
theorem d_S_chooseLeastSent_103 : decode M_S_chooseLeastSent.2.1 103 = .ok (.if_icmp .ne 6, 3) := by decide +kernel
theorem d_S_chooseLeastSent_106 : decode M_S_chooseLeastSent.2.1 106 = .ok (.iload 6, 2) := by decide +kernel
theorem d_S_chooseLeastSent_108 : decode M_S_chooseLeastSent.2.1 108 = .ok (.ireturn, 1) := by decide +kernel
theorem d_S_chooseLeastSent_109 : decode M_S_chooseLeastSent.2.1 109 = .ok (.aload_n 0, 1) := by decide +kernel
theorem d_S_chooseLeastSent_110 : decode M_S_chooseLeastSent.2.1 110 = .ok (.getfield 52, 3) := by decide +kernel
theorem d_S_chooseLeastSent_113 : decode M_S_chooseLeastSent.2.1 113 = .ok (.iload 6, 2) := by decide +kernel
theorem d_S_chooseLeastSent_115 : decode M_S_chooseLeastSent.2.1 115 = .ok (.iload 7, 2) := by decide +kernel
theorem d_S_chooseLeastSent_117 : decode M_S_chooseLeastSent.2.1 117 = .ok (.iastore, 1) := by decide +kernel
theorem d_S_chooseLeastSent_118 : decode M_S_chooseLeastSent.2.1 118 = .ok (.iload 5, 2) := by decide +kernel
theorem d_S_chooseLeastSent_120 : decode M_S_chooseLeastSent.2.1 120 = .ok (.iconst 1, 1) := by decide +kernel
theorem d_S_chooseLeastSent_121 : decode M_S_chooseLeastSent.2.1 121 = .ok (.iload 7, 2) := by decide +kernel
theorem d_S_chooseLeastSent_123 : decode M_S_chooseLeastSent.2.1 123 = .ok (.ishl, 1) := by decide +kernel
theorem d_S_chooseLeastSent_124 : decode M_S_chooseLeastSent.2.1 124 = .ok (.iconst (-1), 1) := by decide +kernel
theorem d_S_chooseLeastSent_125 : decode M_S_chooseLeastSent.2.1 125 = .ok (.ixor, 1) := by decide +kernel
theorem d_S_chooseLeastSent_126 : decode M_S_chooseLeastSent.2.1 126 = .ok (.iand, 1) := by decide +kernel
theorem d_S_chooseLeastSent_127 : decode M_S_chooseLeastSent.2.1 127 = .ok (.istore 5, 2) := by decide +kernel
theorem d_S_chooseLeastSent_129 : decode M_S_chooseLeastSent.2.1 129 = .ok (.iinc 6 1, 3) := by decide +kernel
theorem d_S_chooseLeastSent_132 : decode M_S_chooseLeastSent.2.1 132 = .ok (.goto (-119), 3) := by decide +kernel
theorem d_S_chooseLeastSent_135 : decode M_S_chooseLeastSent.2.1 135 = .ok (.iload 6, 2) := by decide +kernel
theorem d_S_chooseLeastSent_137 : decode M_S_chooseLeastSent.2.1 137 = .ok (.ireturn, 1) := by decide +kernel
theorem d_S_clear_0 : decode M_S_clear.2.1 0 = .ok (.iconst 0, 1) := by decide +kernel
theorem d_S_clear_1 : decode M_S_clear.2.1 1 = .ok (.istore_n 1, 1) := by decide +kernel
theorem d_S_clear_2 : decode M_S_clear.2.1 2 = .ok (.iconst 0, 1) := by decide +kernel
theorem d_S_clear_3 : decode M_S_clear.2.1 3 = .ok (.istore_n 2, 1) := by decide +kernel
theorem d_S_clear_4 : decode M_S_clear.2.1 4 = .ok (.iload_n 2, 1) := by decide +kernel
theorem d_S_clear_5 : decode M_S_clear.2.1 5 = .ok (.bipush 6, 2) := by decide +kernel
theorem d_S_clear_7 : decode M_S_clear.2.1 7 = .ok (.if_icmp .ge 20, 3) := by decide +kernel
theorem d_S_clear_10 : decode M_S_clear.2.1 10 = .ok (.aload_n 0, 1) := by decide +kernel
theorem d_S_clear_11 : decode M_S_clear.2.1 11 = .ok (.iload_n 2, 1) := by decide +kernel
theorem d_S_clear_12 : decode M_S_clear.2.1 12 = .ok (.invokevirtual 134, 3) := by decide +kernel
theorem d_S_clear_15 : decode M_S_clear.2.1 15 = .ok (.ifCond .le 6, 3) := by decide +kernel
theorem d_S_clear_18 : decode M_S_clear.2.1 18 = .ok (.iinc 1 1, 3) := by decide +kernel
theorem d_S_clear_21 : decode M_S_clear.2.1 21 = .ok (.iinc 2 1, 3) := by decide +kernel
theorem d_S_clear_24 : decode M_S_clear.2.1 24 = .ok (.goto (-20), 3) := by decide +kernel
theorem d_S_clear_27 : decode M_S_clear.2.1 27 = .ok (.iconst 0, 1) := by decide +kernel
theorem d_S_clear_28 : decode M_S_clear.2.1 28 = .ok (.istore_n 2, 1) := by decide +kernel
theorem d_S_clear_29 : decode M_S_clear.2.1 29 = .ok (.iload_n 2, 1) := by decide +kernel
theorem d_S_clear_30 : decode M_S_clear.2.1 30 = .ok (.bipush 12, 2) := by decide +kernel
theorem d_S_clear_32 : decode M_S_clear.2.1 32 = .ok (.if_icmp .ge 38, 3) := by decide +kernel
theorem d_S_clear_35 : decode M_S_clear.2.1 35 = .ok (.aload_n 0, 1) := by decide +kernel
theorem d_S_clear_36 : decode M_S_clear.2.1 36 = .ok (.getfield 18, 3) := by decide +kernel
theorem d_S_clear_39 : decode M_S_clear.2.1 39 = .ok (.iload_n 2, 1) := by decide +kernel
theorem d_S_clear_40 : decode M_S_clear.2.1 40 = .ok (.aaload, 1) := by decide +kernel
theorem d_S_clear_41 : decode M_S_clear.2.1 41 = .ok (.invokevirtual 143, 3) := by decide +kernel
theorem d_S_clear_44 : decode M_S_clear.2.1 44 = .ok (.aload_n 0, 1) := by decide +kernel
theorem d_S_clear_45 : decode M_S_clear.2.1 45 = .ok (.getfield 18, 3) := by decide +kernel
theorem d_S_clear_48 : decode M_S_clear.2.1 48 = .ok (.iload_n 2, 1) := by decide +kernel
theorem d_S_clear_49 : decode M_S_clear.2.1 49 = .ok (.aaload, 1) := by decide +kernel
theorem d_S_clear_50 : decode M_S_clear.2.1 50 = .ok (.iconst 1, 1) := by decide +kernel
theorem d_S_clear_51 : decode M_S_clear.2.1 51 = .ok (.putfield 103, 3) := by decide +kernel
theorem d_S_clear_54 : decode M_S_clear.2.1 54 = .ok (.aload_n 0, 1) := by decide +kernel
theorem d_S_clear_55 : decode M_S_clear.2.1 55 = .ok (.getfield 18, 3) := by decide +kernel
theorem d_S_clear_58 : decode M_S_clear.2.1 58 = .ok (.iload_n 2, 1) := by decide +kernel
theorem d_S_clear_59 : decode M_S_clear.2.1 59 = .ok (.aaload, 1) := by decide +kernel
theorem d_S_clear_60 : decode M_S_clear.2.1 60 = .ok (.iconst 0, 1) := by decide +kernel
theorem d_S_clear_61 : decode M_S_clear.2.1 61 = .ok (.putfield 163, 3) := by decide +kernel
theorem d_S_clear_64 : decode M_S_clear.2.1 64 = .ok (.iinc 2 1, 3) := by decide +kernel
theorem d_S_clear_67 : decode M_S_clear.2.1 67 = .ok (.goto (-38), 3) := by decide +kernel
theorem d_S_clear_70 : decode M_S_clear.2.1 70 = .ok (.iconst 0, 1) := by decide +kernel
theorem d_S_clear_71 : decode M_S_clear.2.1 71 = .ok (.istore_n 2, 1) := by decide +kernel
theorem d_S_clear_72 : decode M_S_clear.2.1 72 = .ok (.iload_n 2, 1) := by decide +kernel
theorem d_S_clear_73 : decode M_S_clear.2.1 73 = .ok (.bipush 6, 2) := by decide +kernel
theorem d_S_clear_75 : decode M_S_clear.2.1 75 = .ok (.if_icmp .ge 23, 3) := by decide +kernel
theorem d_S_clear_78 : decode M_S_clear.2.1 78 = .ok (.aload_n 0, 1) := by decide +kernel
theorem d_S_clear_79 : decode M_S_clear.2.1 79 = .ok (.getfield 22, 3) := by decide +kernel
theorem d_S_clear_82 : decode M_S_clear.2.1 82 = .ok (.iload_n 2, 1) := by decide +kernel
theorem d_S_clear_83 : decode M_S_clear.2.1 83 = .ok (.iconst 0, 1) := by decide +kernel
theorem d_S_clear_84 : decode M_S_clear.2.1 84 = .ok (.iastore, 1) := by decide +kernel
theorem d_S_clear_85 : decode M_S_clear.2.1 85 = .ok (.aload_n 0, 1) := by decide +kernel
theorem d_S_clear_86 : decode M_S_clear.2.1 86 = .ok (.getfield 26, 3) := by decide +kernel
theorem d_S_clear_89 : decode M_S_clear.2.1 89 = .ok (.iload_n 2, 1) := by decide +kernel
theorem d_S_clear_90 : decode M_S_clear.2.1 90 = .ok (.iconst 0, 1) := by decide +kernel
theorem d_S_clear_91 : decode M_S_clear.2.1 91 = .ok (.bastore, 1) := by decide +kernel
theorem d_S_clear_92 : decode M_S_clear.2.1 92 = .ok (.iinc 2 1, 3) := by decide +kernel
theorem d_S_clear_95 : decode M_S_clear.2.1 95 = .ok (.goto (-23), 3) := by decide +kernel
theorem d_S_clear_98 : decode M_S_clear.2.1 98 = .ok (.aload_n 0, 1) := by decide +kernel
theorem d_S_clear_99 : decode M_S_clear.2.1 99 = .ok (.iconst 0, 1) := by decide +kernel
theorem d_S_clear_100 : decode M_S_clear.2.1 100 = .ok (.putfield 33, 3) := by decide +kernel
theorem d_S_clear_103 : decode M_S_clear.2.1 103 = .ok (.aload_n 0, 1) := by decide +kernel
theorem d_S_clear_104 : decode M_S_clear.2.1 104 = .ok (.iconst (-1), 1) := by decide +kernel
theorem d_S_clear_105 : decode M_S_clear.2.1 105 = .ok (.putfield 43, 3) := by decide +kernel
theorem d_S_clear_108 : decode M_S_clear.2.1 108 = .ok (.iload_n 1, 1) := by decide +kernel
theorem d_S_clear_109 : decode M_S_clear.2.1 109 = .ok (.ireturn, 1) := by decide +kernel
theorem d_S_count_0 : decode M_S_count.2.1 0 = .ok (.iload_n 1, 1) := by decide +kernel
theorem d_S_count_1 : decode M_S_count.2.1 1 = .ok (.tableswitch 69 0 5 #[39, 44, 49, 54, 59, 64], 39) := by decide +kernel
theorem d_S_count_40 : decode M_S_count.2.1 40 = .ok (.aload_n 0, 1) := by decide +kernel
theorem d_S_count_41 : decode M_S_count.2.1 41 = .ok (.invokevirtual 85, 3) := by decide +kernel
theorem d_S_count_44 : decode M_S_count.2.1 44 = .ok (.ireturn, 1) := by decide +kernel
theorem d_S_count_45 : decode M_S_count.2.1 45 = .ok (.aload_n 0, 1) := by decide +kernel
theorem d_S_count_46 : decode M_S_count.2.1 46 = .ok (.getfield 33, 3) := by decide +kernel
theorem d_S_count_49 : decode M_S_count.2.1 49 = .ok (.ireturn, 1) := by decide +kernel
theorem d_S_count_50 : decode M_S_count.2.1 50 = .ok (.aload_n 0, 1) := by decide +kernel
theorem d_S_count_51 : decode M_S_count.2.1 51 = .ok (.getfield 46, 3) := by decide +kernel
theorem d_S_count_54 : decode M_S_count.2.1 54 = .ok (.ireturn, 1) := by decide +kernel
theorem d_S_count_55 : decode M_S_count.2.1 55 = .ok (.aload_n 0, 1) := by decide +kernel
theorem d_S_count_56 : decode M_S_count.2.1 56 = .ok (.getfield 49, 3) := by decide +kernel
theorem d_S_count_59 : decode M_S_count.2.1 59 = .ok (.ireturn, 1) := by decide +kernel
theorem d_S_count_60 : decode M_S_count.2.1 60 = .ok (.aload_n 0, 1) := by decide +kernel
theorem d_S_count_61 : decode M_S_count.2.1 61 = .ok (.invokevirtual 182, 3) := by decide +kernel
theorem d_S_count_64 : decode M_S_count.2.1 64 = .ok (.ireturn, 1) := by decide +kernel
theorem d_S_count_65 : decode M_S_count.2.1 65 = .ok (.aload_n 0, 1) := by decide +kernel
theorem d_S_count_66 : decode M_S_count.2.1 66 = .ok (.getfield 43, 3) := by decide +kernel
theorem d_S_count_69 : decode M_S_count.2.1 69 = .ok (.ireturn, 1) := by decide +kernel
theorem d_S_count_70 : decode M_S_count.2.1 70 = .ok (.bipush (-2), 2) := by decide +kernel
theorem d_S_count_72 : decode M_S_count.2.1 72 = .ok (.ireturn, 1) := by decide +kernel
theorem d_S_cut_0 : decode M_S_cut.2.1 0 = .ok (.iload_n 1, 1) := by decide +kernel
theorem d_S_cut_1 : decode M_S_cut.2.1 1 = .ok (.ifCond .lt 9, 3) := by decide +kernel
theorem d_S_cut_4 : decode M_S_cut.2.1 4 = .ok (.iload_n 1, 1) := by decide +kernel
theorem d_S_cut_5 : decode M_S_cut.2.1 5 = .ok (.bipush 24, 2) := by decide +kernel
theorem d_S_cut_7 : decode M_S_cut.2.1 7 = .ok (.if_icmp .lt 6, 3) := by decide +kernel
theorem d_S_cut_10 : decode M_S_cut.2.1 10 = .ok (.bipush (-2), 2) := by decide +kernel
theorem d_S_cut_12 : decode M_S_cut.2.1 12 = .ok (.ireturn, 1) := by decide +kernel
theorem d_S_cut_13 : decode M_S_cut.2.1 13 = .ok (.aload_n 0, 1) := by decide +kernel
theorem d_S_cut_14 : decode M_S_cut.2.1 14 = .ok (.iload_n 1, 1) := by decide +kernel
theorem d_S_cut_15 : decode M_S_cut.2.1 15 = .ok (.putfield 43, 3) := by decide +kernel
theorem d_S_cut_18 : decode M_S_cut.2.1 18 = .ok (.iconst 1, 1) := by decide +kernel
theorem d_S_cut_19 : decode M_S_cut.2.1 19 = .ok (.ireturn, 1) := by decide +kernel
theorem d_S_decode_0 : decode M_S_decode.2.1 0 = .ok (.aload_n 0, 1) := by decide +kernel
theorem d_S_decode_1 : decode M_S_decode.2.1 1 = .ok (.getfield 10, 3) := by decide +kernel
theorem d_S_decode_4 : decode M_S_decode.2.1 4 = .ok (.aload_n 0, 1) := by decide +kernel
theorem d_S_decode_5 : decode M_S_decode.2.1 5 = .ok (.getfield 52, 3) := by decide +kernel
theorem d_S_decode_8 : decode M_S_decode.2.1 8 = .ok (.iconst 5, 1) := by decide +kernel
theorem d_S_decode_9 : decode M_S_decode.2.1 9 = .ok (.invokevirtual 234, 3) := by decide +kernel
theorem d_S_decode_12 : decode M_S_decode.2.1 12 = .ok (.iconst 0, 1) := by decide +kernel
theorem d_S_decode_13 : decode M_S_decode.2.1 13 = .ok (.istore_n 3, 1) := by decide +kernel
theorem d_S_decode_14 : decode M_S_decode.2.1 14 = .ok (.iload_n 3, 1) := by decide +kernel
theorem d_S_decode_15 : decode M_S_decode.2.1 15 = .ok (.iload_n 2, 1) := by decide +kernel
theorem d_S_decode_16 : decode M_S_decode.2.1 16 = .ok (.invokestatic 92, 3) := by decide +kernel
theorem d_S_decode_19 : decode M_S_decode.2.1 19 = .ok (.if_icmp .ge 98, 3) := by decide +kernel
theorem d_S_decode_22 : decode M_S_decode.2.1 22 = .ok (.iconst 0, 1) := by decide +kernel
theorem d_S_decode_23 : decode M_S_decode.2.1 23 = .ok (.istore 4, 2) := by decide +kernel
theorem d_S_decode_25 : decode M_S_decode.2.1 25 = .ok (.iload 4, 2) := by decide +kernel
theorem d_S_decode_27 : decode M_S_decode.2.1 27 = .ok (.iconst 5, 1) := by decide +kernel
theorem d_S_decode_28 : decode M_S_decode.2.1 28 = .ok (.if_icmp .ge 56, 3) := by decide +kernel
theorem d_S_decode_31 : decode M_S_decode.2.1 31 = .ok (.aload_n 0, 1) := by decide +kernel
theorem d_S_decode_32 : decode M_S_decode.2.1 32 = .ok (.getfield 18, 3) := by decide +kernel
theorem d_S_decode_35 : decode M_S_decode.2.1 35 = .ok (.aload_n 0, 1) := by decide +kernel
theorem d_S_decode_36 : decode M_S_decode.2.1 36 = .ok (.getfield 52, 3) := by decide +kernel
theorem d_S_decode_39 : decode M_S_decode.2.1 39 = .ok (.iload 4, 2) := by decide +kernel
theorem d_S_decode_41 : decode M_S_decode.2.1 41 = .ok (.iaload, 1) := by decide +kernel
theorem d_S_decode_42 : decode M_S_decode.2.1 42 = .ok (.aaload, 1) := by decide +kernel
theorem d_S_decode_43 : decode M_S_decode.2.1 43 = .ok (.astore 5, 2) := by decide +kernel
theorem d_S_decode_45 : decode M_S_decode.2.1 45 = .ok (.aload 5, 2) := by decide +kernel
theorem d_S_decode_47 : decode M_S_decode.2.1 47 = .ok (.aload 5, 2) := by decide +kernel
theorem d_S_decode_49 : decode M_S_decode.2.1 49 = .ok (.getfield 173, 3) := by decide +kernel
theorem d_S_decode_52 : decode M_S_decode.2.1 52 = .ok (.iload_n 1, 1) := by decide +kernel
theorem d_S_decode_53 : decode M_S_decode.2.1 53 = .ok (.aaload, 1) := by decide +kernel
theorem d_S_decode_54 : decode M_S_decode.2.1 54 = .ok (.iload_n 3, 1) := by decide +kernel
theorem d_S_decode_55 : decode M_S_decode.2.1 55 = .ok (.invokevirtual 170, 3) := by decide +kernel
theorem d_S_decode_58 : decode M_S_decode.2.1 58 = .ok (.aload_n 0, 1) := by decide +kernel
theorem d_S_decode_59 : decode M_S_decode.2.1 59 = .ok (.getfield 55, 3) := by decide +kernel
theorem d_S_decode_62 : decode M_S_decode.2.1 62 = .ok (.invokevirtual 238, 3) := by decide +kernel
theorem d_S_decode_65 : decode M_S_decode.2.1 65 = .ok (.aload_n 0, 1) := by decide +kernel
theorem d_S_decode_66 : decode M_S_decode.2.1 66 = .ok (.getfield 10, 3) := by decide +kernel
theorem d_S_decode_69 : decode M_S_decode.2.1 69 = .ok (.iload 4, 2) := by decide +kernel
theorem d_S_decode_71 : decode M_S_decode.2.1 71 = .ok (.aload_n 0, 1) := by decide +kernel
theorem d_S_decode_72 : decode M_S_decode.2.1 72 = .ok (.getfield 55, 3) := by decide +kernel
theorem d_S_decode_75 : decode M_S_decode.2.1 75 = .ok (.invokevirtual 241, 3) := by decide +kernel
theorem d_S_decode_78 : decode M_S_decode.2.1 78 = .ok (.iinc 4 1, 3) := by decide +kernel
theorem d_S_decode_81 : decode M_S_decode.2.1 81 = .ok (.goto (-56), 3) := by decide +kernel
theorem d_S_decode_84 : decode M_S_decode.2.1 84 = .ok (.aload_n 0, 1) := by decide +kernel
theorem d_S_decode_85 : decode M_S_decode.2.1 85 = .ok (.getfield 10, 3) := by decide +kernel
theorem d_S_decode_88 : decode M_S_decode.2.1 88 = .ok (.aload_n 0, 1) := by decide +kernel
theorem d_S_decode_89 : decode M_S_decode.2.1 89 = .ok (.getfield 52, 3) := by decide +kernel
theorem d_S_decode_92 : decode M_S_decode.2.1 92 = .ok (.invokevirtual 244, 3) := by decide +kernel
theorem d_S_decode_95 : decode M_S_decode.2.1 95 = .ok (.aload_n 0, 1) := by decide +kernel
theorem d_S_decode_96 : decode M_S_decode.2.1 96 = .ok (.getfield 10, 3) := by decide +kernel
theorem d_S_decode_99 : decode M_S_decode.2.1 99 = .ok (.aload_n 0, 1) := by decide +kernel
theorem d_S_decode_100 : decode M_S_decode.2.1 100 = .ok (.getfield 37, 3) := by decide +kernel
theorem d_S_decode_103 : decode M_S_decode.2.1 103 = .ok (.iload_n 3, 1) := by decide +kernel
theorem d_S_decode_104 : decode M_S_decode.2.1 104 = .ok (.bipush 30, 2) := by decide +kernel
theorem d_S_decode_106 : decode M_S_decode.2.1 106 = .ok (.imul, 1) := by decide +kernel
theorem d_S_decode_107 : decode M_S_decode.2.1 107 = .ok (.iload_n 2, 1) := by decide +kernel
theorem d_S_decode_108 : decode M_S_decode.2.1 108 = .ok (.invokevirtual 248, 3) := by decide +kernel
theorem d_S_decode_111 : decode M_S_decode.2.1 111 = .ok (.iinc 3 1, 3) := by decide +kernel
theorem d_S_decode_114 : decode M_S_decode.2.1 114 = .ok (.goto (-100), 3) := by decide +kernel
theorem d_S_decode_117 : decode M_S_decode.2.1 117 = .ok (.return_, 1) := by decide +kernel
theorem d_S_digest_0 : decode M_S_digest.2.1 0 = .ok (.ldc2_w 185, 3) := by decide +kernel
theorem d_S_digest_3 : decode M_S_digest.2.1 3 = .ok (.lstore_n 1, 1) := by decide +kernel
theorem d_S_digest_4 : decode M_S_digest.2.1 4 = .ok (.iconst 0, 1) := by decide +kernel
theorem d_S_digest_5 : decode M_S_digest.2.1 5 = .ok (.istore_n 3, 1) := by decide +kernel
theorem d_S_digest_6 : decode M_S_digest.2.1 6 = .ok (.iload_n 3, 1) := by decide +kernel
theorem d_S_digest_7 : decode M_S_digest.2.1 7 = .ok (.bipush 12, 2) := by decide +kernel
theorem d_S_digest_9 : decode M_S_digest.2.1 9 = .ok (.if_icmp .ge 89, 3) := by decide +kernel
theorem d_S_digest_12 : decode M_S_digest.2.1 12 = .ok (.aload_n 0, 1) := by decide +kernel
theorem d_S_digest_13 : decode M_S_digest.2.1 13 = .ok (.getfield 18, 3) := by decide +kernel
theorem d_S_digest_16 : decode M_S_digest.2.1 16 = .ok (.iload_n 3, 1) := by decide +kernel
theorem d_S_digest_17 : decode M_S_digest.2.1 17 = .ok (.aaload, 1) := by decide +kernel
theorem d_S_digest_18 : decode M_S_digest.2.1 18 = .ok (.astore 4, 2) := by decide +kernel
theorem d_S_digest_20 : decode M_S_digest.2.1 20 = .ok (.ldc2_w 187, 3) := by decide +kernel
theorem d_S_digest_23 : decode M_S_digest.2.1 23 = .ok (.lload_n 1, 1) := by decide +kernel
theorem d_S_digest_24 : decode M_S_digest.2.1 24 = .ok (.lmul, 1) := by decide +kernel
theorem d_S_digest_25 : decode M_S_digest.2.1 25 = .ok (.aload 4, 2) := by decide +kernel
theorem d_S_digest_27 : decode M_S_digest.2.1 27 = .ok (.getfield 103, 3) := by decide +kernel
theorem d_S_digest_30 : decode M_S_digest.2.1 30 = .ok (.ifCond .eq 7, 3) := by decide +kernel
theorem d_S_digest_33 : decode M_S_digest.2.1 33 = .ok (.iconst 1, 1) := by decide +kernel
theorem d_S_digest_34 : decode M_S_digest.2.1 34 = .ok (.goto 4, 3) := by decide +kernel
theorem d_S_digest_37 : decode M_S_digest.2.1 37 = .ok (.iconst 0, 1) := by decide +kernel
theorem d_S_digest_38 : decode M_S_digest.2.1 38 = .ok (.i2l, 1) := by decide +kernel
theorem d_S_digest_39 : decode M_S_digest.2.1 39 = .ok (.ladd, 1) := by decide +kernel
theorem d_S_digest_40 : decode M_S_digest.2.1 40 = .ok (.lstore_n 1, 1) := by decide +kernel
theorem d_S_digest_41 : decode M_S_digest.2.1 41 = .ok (.ldc2_w 187, 3) := by decide +kernel
theorem d_S_digest_44 : decode M_S_digest.2.1 44 = .ok (.lload_n 1, 1) := by decide +kernel
theorem d_S_digest_45 : decode M_S_digest.2.1 45 = .ok (.lmul, 1) := by decide +kernel
theorem d_S_digest_46 : decode M_S_digest.2.1 46 = .ok (.aload 4, 2) := by decide +kernel
theorem d_S_digest_48 : decode M_S_digest.2.1 48 = .ok (.getfield 163, 3) := by decide +kernel
theorem d_S_digest_51 : decode M_S_digest.2.1 51 = .ok (.i2l, 1) := by decide +kernel
theorem d_S_digest_52 : decode M_S_digest.2.1 52 = .ok (.ladd, 1) := by decide +kernel
theorem d_S_digest_53 : decode M_S_digest.2.1 53 = .ok (.lstore_n 1, 1) := by decide +kernel
theorem d_S_digest_54 : decode M_S_digest.2.1 54 = .ok (.ldc2_w 187, 3) := by decide +kernel
theorem d_S_digest_57 : decode M_S_digest.2.1 57 = .ok (.lload_n 1, 1) := by decide +kernel
theorem d_S_digest_58 : decode M_S_digest.2.1 58 = .ok (.lmul, 1) := by decide +kernel
theorem d_S_digest_59 : decode M_S_digest.2.1 59 = .ok (.aload 4, 2) := by decide +kernel
theorem d_S_digest_61 : decode M_S_digest.2.1 61 = .ok (.invokevirtual 140, 3) := by decide +kernel
theorem d_S_digest_64 : decode M_S_digest.2.1 64 = .ok (.i2l, 1) := by decide +kernel
theorem d_S_digest_65 : decode M_S_digest.2.1 65 = .ok (.ladd, 1) := by decide +kernel
theorem d_S_digest_66 : decode M_S_digest.2.1 66 = .ok (.lstore_n 1, 1) := by decide +kernel
theorem d_S_digest_67 : decode M_S_digest.2.1 67 = .ok (.iconst 0, 1) := by decide +kernel
theorem d_S_digest_68 : decode M_S_digest.2.1 68 = .ok (.istore 5, 2) := by decide +kernel
theorem d_S_digest_70 : decode M_S_digest.2.1 70 = .ok (.iload 5, 2) := by decide +kernel
theorem d_S_digest_72 : decode M_S_digest.2.1 72 = .ok (.bipush 6, 2) := by decide +kernel
theorem d_S_digest_74 : decode M_S_digest.2.1 74 = .ok (.if_icmp .ge 18, 3) := by decide +kernel
theorem d_S_digest_77 : decode M_S_digest.2.1 77 = .ok (.lload_n 1, 1) := by decide +kernel
theorem d_S_digest_78 : decode M_S_digest.2.1 78 = .ok (.aload 4, 2) := by decide +kernel
theorem d_S_digest_80 : decode M_S_digest.2.1 80 = .ok (.iload 5, 2) := by decide +kernel
theorem d_S_digest_82 : decode M_S_digest.2.1 82 = .ok (.invokestatic 189, 3) := by decide +kernel
theorem d_S_digest_85 : decode M_S_digest.2.1 85 = .ok (.lstore_n 1, 1) := by decide +kernel
theorem d_S_digest_86 : decode M_S_digest.2.1 86 = .ok (.iinc 5 1, 3) := by decide +kernel
theorem d_S_digest_89 : decode M_S_digest.2.1 89 = .ok (.goto (-19), 3) := by decide +kernel
theorem d_S_digest_92 : decode M_S_digest.2.1 92 = .ok (.iinc 3 1, 3) := by decide +kernel
theorem d_S_digest_95 : decode M_S_digest.2.1 95 = .ok (.goto (-89), 3) := by decide +kernel
theorem d_S_digest_98 : decode M_S_digest.2.1 98 = .ok (.lload_n 1, 1) := by decide +kernel
theorem d_S_digest_99 : decode M_S_digest.2.1 99 = .ok (.lreturn, 1) := by decide +kernel
theorem d_S_digestOfRecord_0 : decode M_S_digestOfRecord.2.1 0 = .ok (.lload_n 0, 1) := by decide +kernel
theorem d_S_digestOfRecord_1 : decode M_S_digestOfRecord.2.1 1 = .ok (.lstore 4, 2) := by decide +kernel
theorem d_S_digestOfRecord_3 : decode M_S_digestOfRecord.2.1 3 = .ok (.iconst 0, 1) := by decide +kernel
theorem d_S_digestOfRecord_4 : decode M_S_digestOfRecord.2.1 4 = .ok (.istore 6, 2) := by decide +kernel
theorem d_S_digestOfRecord_6 : decode M_S_digestOfRecord.2.1 6 = .ok (.iload 6, 2) := by decide +kernel
theorem d_S_digestOfRecord_8 : decode M_S_digestOfRecord.2.1 8 = .ok (.bipush 6, 2) := by decide +kernel
theorem d_S_digestOfRecord_10 : decode M_S_digestOfRecord.2.1 10 = .ok (.if_icmp .ge 26, 3) := by decide +kernel
theorem d_S_digestOfRecord_13 : decode M_S_digestOfRecord.2.1 13 = .ok (.ldc2_w 187, 3) := by decide +kernel
theorem d_S_digestOfRecord_16 : decode M_S_digestOfRecord.2.1 16 = .ok (.lload 4, 2) := by decide +kernel
theorem d_S_digestOfRecord_18 : decode M_S_digestOfRecord.2.1 18 = .ok (.lmul, 1) := by decide +kernel
theorem d_S_digestOfRecord_19 : decode M_S_digestOfRecord.2.1 19 = .ok (.aload_n 2, 1) := by decide +kernel
theorem d_S_digestOfRecord_20 : decode M_S_digestOfRecord.2.1 20 = .ok (.iload_n 3, 1) := by decide +kernel
theorem d_S_digestOfRecord_21 : decode M_S_digestOfRecord.2.1 21 = .ok (.iload 6, 2) := by decide +kernel
theorem d_S_digestOfRecord_23 : decode M_S_digestOfRecord.2.1 23 = .ok (.invokestatic 166, 3) := by decide +kernel
theorem d_S_digestOfRecord_26 : decode M_S_digestOfRecord.2.1 26 = .ok (.i2l, 1) := by decide +kernel
theorem d_S_digestOfRecord_27 : decode M_S_digestOfRecord.2.1 27 = .ok (.ladd, 1) := by decide +kernel
theorem d_S_digestOfRecord_28 : decode M_S_digestOfRecord.2.1 28 = .ok (.lstore 4, 2) := by decide +kernel
theorem d_S_digestOfRecord_30 : decode M_S_digestOfRecord.2.1 30 = .ok (.iinc 6 1, 3) := by decide +kernel
theorem d_S_digestOfRecord_33 : decode M_S_digestOfRecord.2.1 33 = .ok (.goto (-27), 3) := by decide +kernel
theorem d_S_digestOfRecord_36 : decode M_S_digestOfRecord.2.1 36 = .ok (.aload_n 2, 1) := by decide +kernel
theorem d_S_digestOfRecord_37 : decode M_S_digestOfRecord.2.1 37 = .ok (.getfield 173, 3) := by decide +kernel
theorem d_S_digestOfRecord_40 : decode M_S_digestOfRecord.2.1 40 = .ok (.iload_n 3, 1) := by decide +kernel
theorem d_S_digestOfRecord_41 : decode M_S_digestOfRecord.2.1 41 = .ok (.aaload, 1) := by decide +kernel
theorem d_S_digestOfRecord_42 : decode M_S_digestOfRecord.2.1 42 = .ok (.astore 6, 2) := by decide +kernel
theorem d_S_digestOfRecord_44 : decode M_S_digestOfRecord.2.1 44 = .ok (.iconst 0, 1) := by decide +kernel
theorem d_S_digestOfRecord_45 : decode M_S_digestOfRecord.2.1 45 = .ok (.istore 7, 2) := by decide +kernel
theorem d_S_digestOfRecord_47 : decode M_S_digestOfRecord.2.1 47 = .ok (.iload 7, 2) := by decide +kernel
theorem d_S_digestOfRecord_49 : decode M_S_digestOfRecord.2.1 49 = .ok (.aload 6, 2) := by decide +kernel
theorem d_S_digestOfRecord_51 : decode M_S_digestOfRecord.2.1 51 = .ok (.getfield 204, 3) := by decide +kernel
theorem d_S_digestOfRecord_54 : decode M_S_digestOfRecord.2.1 54 = .ok (.if_icmp .ge 52, 3) := by decide +kernel
theorem d_S_digestOfRecord_57 : decode M_S_digestOfRecord.2.1 57 = .ok (.aload 6, 2) := by decide +kernel
theorem d_S_digestOfRecord_59 : decode M_S_digestOfRecord.2.1 59 = .ok (.iload 7, 2) := by decide +kernel
theorem d_S_digestOfRecord_61 : decode M_S_digestOfRecord.2.1 61 = .ok (.invokevirtual 170, 3) := by decide +kernel
theorem d_S_digestOfRecord_64 : decode M_S_digestOfRecord.2.1 64 = .ok (.istore 8, 2) := by decide +kernel
theorem d_S_digestOfRecord_66 : decode M_S_digestOfRecord.2.1 66 = .ok (.iconst 0, 1) := by decide +kernel
theorem d_S_digestOfRecord_67 : decode M_S_digestOfRecord.2.1 67 = .ok (.istore 9, 2) := by decide +kernel
theorem d_S_digestOfRecord_69 : decode M_S_digestOfRecord.2.1 69 = .ok (.iload 9, 2) := by decide +kernel
theorem d_S_digestOfRecord_71 : decode M_S_digestOfRecord.2.1 71 = .ok (.bipush 8, 2) := by decide +kernel
theorem d_S_digestOfRecord_73 : decode M_S_digestOfRecord.2.1 73 = .ok (.if_icmp .ge 27, 3) := by decide +kernel
theorem d_S_digestOfRecord_76 : decode M_S_digestOfRecord.2.1 76 = .ok (.ldc2_w 187, 3) := by decide +kernel
theorem d_S_digestOfRecord_79 : decode M_S_digestOfRecord.2.1 79 = .ok (.lload 4, 2) := by decide +kernel
theorem d_S_digestOfRecord_81 : decode M_S_digestOfRecord.2.1 81 = .ok (.lmul, 1) := by decide +kernel
theorem d_S_digestOfRecord_82 : decode M_S_digestOfRecord.2.1 82 = .ok (.aload_n 2, 1) := by decide +kernel
theorem d_S_digestOfRecord_83 : decode M_S_digestOfRecord.2.1 83 = .ok (.iload 8, 2) := by decide +kernel
theorem d_S_digestOfRecord_85 : decode M_S_digestOfRecord.2.1 85 = .ok (.iload 9, 2) := by decide +kernel
theorem d_S_digestOfRecord_87 : decode M_S_digestOfRecord.2.1 87 = .ok (.invokevirtual 176, 3) := by decide +kernel
theorem d_S_digestOfRecord_90 : decode M_S_digestOfRecord.2.1 90 = .ok (.i2l, 1) := by decide +kernel
theorem d_S_digestOfRecord_91 : decode M_S_digestOfRecord.2.1 91 = .ok (.ladd, 1) := by decide +kernel
theorem d_S_digestOfRecord_92 : decode M_S_digestOfRecord.2.1 92 = .ok (.lstore 4, 2) := by decide +kernel
theorem d_S_digestOfRecord_94 : decode M_S_digestOfRecord.2.1 94 = .ok (.iinc 9 1, 3) := by decide +kernel
theorem d_S_digestOfRecord_97 : decode M_S_digestOfRecord.2.1 97 = .ok (.goto (-28), 3) := by decide +kernel
theorem d_S_digestOfRecord_100 : decode M_S_digestOfRecord.2.1 100 = .ok (.iinc 7 1, 3) := by decide +kernel
theorem d_S_digestOfRecord_103 : decode M_S_digestOfRecord.2.1 103 = .ok (.goto (-56), 3) := by decide +kernel
theorem d_S_digestOfRecord_106 : decode M_S_digestOfRecord.2.1 106 = .ok (.lload 4, 2) := by decide +kernel
theorem d_S_digestOfRecord_108 : decode M_S_digestOfRecord.2.1 108 = .ok (.lreturn, 1) := by decide +kernel
theorem d_S_fail_0 : decode M_S_fail.2.1 0 = .ok (.iload_n 1, 1) := by decide +kernel
theorem d_S_fail_1 : decode M_S_fail.2.1 1 = .ok (.invokestatic 76, 3) := by decide +kernel
theorem d_S_fail_4 : decode M_S_fail.2.1 4 = .ok (.ifCond .ne 6, 3) := by decide +kernel
theorem d_S_fail_7 : decode M_S_fail.2.1 7 = .ok (.bipush (-2), 2) := by decide +kernel
theorem d_S_fail_9 : decode M_S_fail.2.1 9 = .ok (.ireturn, 1) := by decide +kernel
theorem d_S_fail_10 : decode M_S_fail.2.1 10 = .ok (.aload_n 0, 1) := by decide +kernel
theorem d_S_fail_11 : decode M_S_fail.2.1 11 = .ok (.getfield 18, 3) := by decide +kernel
theorem d_S_fail_14 : decode M_S_fail.2.1 14 = .ok (.iload_n 1, 1) := by decide +kernel
theorem d_S_fail_15 : decode M_S_fail.2.1 15 = .ok (.aaload, 1) := by decide +kernel
theorem d_S_fail_16 : decode M_S_fail.2.1 16 = .ok (.getfield 103, 3) := by decide +kernel
theorem d_S_fail_19 : decode M_S_fail.2.1 19 = .ok (.ifCond .ne 6, 3) := by decide +kernel
theorem d_S_fail_22 : decode M_S_fail.2.1 22 = .ok (.bipush (-3), 2) := by decide +kernel
theorem d_S_fail_24 : decode M_S_fail.2.1 24 = .ok (.ireturn, 1) := by decide +kernel
theorem d_S_fail_25 : decode M_S_fail.2.1 25 = .ok (.aload_n 0, 1) := by decide +kernel
theorem d_S_fail_26 : decode M_S_fail.2.1 26 = .ok (.getfield 18, 3) := by decide +kernel
theorem d_S_fail_29 : decode M_S_fail.2.1 29 = .ok (.iload_n 1, 1) := by decide +kernel
theorem d_S_fail_30 : decode M_S_fail.2.1 30 = .ok (.aaload, 1) := by decide +kernel
theorem d_S_fail_31 : decode M_S_fail.2.1 31 = .ok (.iconst 0, 1) := by decide +kernel
theorem d_S_fail_32 : decode M_S_fail.2.1 32 = .ok (.putfield 103, 3) := by decide +kernel
theorem d_S_fail_35 : decode M_S_fail.2.1 35 = .ok (.iconst 1, 1) := by decide +kernel
theorem d_S_fail_36 : decode M_S_fail.2.1 36 = .ok (.ireturn, 1) := by decide +kernel
theorem d_S_feed_0 : decode M_S_feed.2.1 0 = .ok (.iload_n 3, 1) := by decide +kernel
theorem d_S_feed_1 : decode M_S_feed.2.1 1 = .ok (.iconst 1, 1) := by decide +kernel
theorem d_S_feed_2 : decode M_S_feed.2.1 2 = .ok (.if_icmp .lt 9, 3) := by decide +kernel
theorem d_S_feed_5 : decode M_S_feed.2.1 5 = .ok (.iload_n 3, 1) := by decide +kernel
theorem d_S_feed_6 : decode M_S_feed.2.1 6 = .ok (.bipush 8, 2) := by decide +kernel
theorem d_S_feed_8 : decode M_S_feed.2.1 8 = .ok (.if_icmp .le 6, 3) := by decide +kernel
theorem d_S_feed_11 : decode M_S_feed.2.1 11 = .ok (.bipush (-2), 2) := by decide +kernel
theorem d_S_feed_13 : decode M_S_feed.2.1 13 = .ok (.ireturn, 1) := by decide +kernel
theorem d_S_feed_14 : decode M_S_feed.2.1 14 = .ok (.aload_n 0, 1) := by decide +kernel
theorem d_S_feed_15 : decode M_S_feed.2.1 15 = .ok (.getfield 33, 3) := by decide +kernel
theorem d_S_feed_18 : decode M_S_feed.2.1 18 = .ok (.iload_n 3, 1) := by decide +kernel
theorem d_S_feed_19 : decode M_S_feed.2.1 19 = .ok (.iadd, 1) := by decide +kernel
theorem d_S_feed_20 : decode M_S_feed.2.1 20 = .ok (.sipush 240, 3) := by decide +kernel
theorem d_S_feed_23 : decode M_S_feed.2.1 23 = .ok (.if_icmp .le 6, 3) := by decide +kernel
theorem d_S_feed_26 : decode M_S_feed.2.1 26 = .ok (.bipush (-5), 2) := by decide +kernel
theorem d_S_feed_28 : decode M_S_feed.2.1 28 = .ok (.ireturn, 1) := by decide +kernel
theorem d_S_feed_29 : decode M_S_feed.2.1 29 = .ok (.iload_n 3, 1) := by decide +kernel
theorem d_S_feed_30 : decode M_S_feed.2.1 30 = .ok (.iconst 1, 1) := by decide +kernel
theorem d_S_feed_31 : decode M_S_feed.2.1 31 = .ok (.isub, 1) := by decide +kernel
theorem d_S_feed_32 : decode M_S_feed.2.1 32 = .ok (.istore 4, 2) := by decide +kernel
theorem d_S_feed_34 : decode M_S_feed.2.1 34 = .ok (.iload 4, 2) := by decide +kernel
theorem d_S_feed_36 : decode M_S_feed.2.1 36 = .ok (.ifCond .lt 40, 3) := by decide +kernel
theorem d_S_feed_39 : decode M_S_feed.2.1 39 = .ok (.aload_n 0, 1) := by decide +kernel
theorem d_S_feed_40 : decode M_S_feed.2.1 40 = .ok (.getfield 30, 3) := by decide +kernel
theorem d_S_feed_43 : decode M_S_feed.2.1 43 = .ok (.aload_n 0, 1) := by decide +kernel
theorem d_S_feed_44 : decode M_S_feed.2.1 44 = .ok (.getfield 33, 3) := by decide +kernel
theorem d_S_feed_47 : decode M_S_feed.2.1 47 = .ok (.lload_n 1, 1) := by decide +kernel
theorem d_S_feed_48 : decode M_S_feed.2.1 48 = .ok (.bipush 8, 2) := by decide +kernel
theorem d_S_feed_50 : decode M_S_feed.2.1 50 = .ok (.iload 4, 2) := by decide +kernel
theorem d_S_feed_52 : decode M_S_feed.2.1 52 = .ok (.imul, 1) := by decide +kernel
theorem d_S_feed_53 : decode M_S_feed.2.1 53 = .ok (.lshr, 1) := by decide +kernel
theorem d_S_feed_54 : decode M_S_feed.2.1 54 = .ok (.l2i, 1) := by decide +kernel
theorem d_S_feed_55 : decode M_S_feed.2.1 55 = .ok (.sipush 255, 3) := by decide +kernel
theorem d_S_feed_58 : decode M_S_feed.2.1 58 = .ok (.iand, 1) := by decide +kernel
theorem d_S_feed_59 : decode M_S_feed.2.1 59 = .ok (.iastore, 1) := by decide +kernel
theorem d_S_feed_60 : decode M_S_feed.2.1 60 = .ok (.aload_n 0, 1) := by decide +kernel
theorem d_S_feed_61 : decode M_S_feed.2.1 61 = .ok (.dup, 1) := by decide +kernel
theorem d_S_feed_62 : decode M_S_feed.2.1 62 = .ok (.getfield 33, 3) := by decide +kernel
theorem d_S_feed_65 : decode M_S_feed.2.1 65 = .ok (.iconst 1, 1) := by decide +kernel
theorem d_S_feed_66 : decode M_S_feed.2.1 66 = .ok (.iadd, 1) := by decide +kernel
theorem d_S_feed_67 : decode M_S_feed.2.1 67 = .ok (.putfield 33, 3) := by decide +kernel
theorem d_S_feed_70 : decode M_S_feed.2.1 70 = .ok (.iinc 4 (-1), 3) := by decide +kernel
theorem d_S_feed_73 : decode M_S_feed.2.1 73 = .ok (.goto (-39), 3) := by decide +kernel
theorem d_S_feed_76 : decode M_S_feed.2.1 76 = .ok (.aload_n 0, 1) := by decide +kernel
theorem d_S_feed_77 : decode M_S_feed.2.1 77 = .ok (.getfield 33, 3) := by decide +kernel
theorem d_S_feed_80 : decode M_S_feed.2.1 80 = .ok (.ireturn, 1) := by decide +kernel
theorem d_S_fillShadows_0 : decode M_S_fillShadows.2.1 0 = .ok (.iload_n 3, 1) := by decide +kernel
theorem d_S_fillShadows_1 : decode M_S_fillShadows.2.1 1 = .ok (.istore 4, 2) := by decide +kernel
theorem d_S_fillShadows_3 : decode M_S_fillShadows.2.1 3 = .ok (.iconst 0, 1) := by decide +kernel
theorem d_S_fillShadows_4 : decode M_S_fillShadows.2.1 4 = .ok (.istore 5, 2) := by decide +kernel
theorem d_S_fillShadows_6 : decode M_S_fillShadows.2.1 6 = .ok (.iload 5, 2) := by decide +kernel
theorem d_S_fillShadows_8 : decode M_S_fillShadows.2.1 8 = .ok (.bipush 12, 2) := by decide +kernel
theorem d_S_fillShadows_10 : decode M_S_fillShadows.2.1 10 = .ok (.if_icmp .ge 73, 3) := by decide +kernel
theorem d_S_fillShadows_13 : decode M_S_fillShadows.2.1 13 = .ok (.iload 4, 2) := by decide +kernel
theorem d_S_fillShadows_15 : decode M_S_fillShadows.2.1 15 = .ok (.ifCond .le 68, 3) := by decide +kernel
theorem d_S_fillShadows_18 : decode M_S_fillShadows.2.1 18 = .ok (.aload_n 0, 1) := by decide +kernel
theorem d_S_fillShadows_19 : decode M_S_fillShadows.2.1 19 = .ok (.getfield 18, 3) := by decide +kernel
theorem d_S_fillShadows_22 : decode M_S_fillShadows.2.1 22 = .ok (.iload 5, 2) := by decide +kernel
theorem d_S_fillShadows_24 : decode M_S_fillShadows.2.1 24 = .ok (.aaload, 1) := by decide +kernel
theorem d_S_fillShadows_25 : decode M_S_fillShadows.2.1 25 = .ok (.getfield 103, 3) := by decide +kernel
theorem d_S_fillShadows_28 : decode M_S_fillShadows.2.1 28 = .ok (.ifCond .eq 49, 3) := by decide +kernel
theorem d_S_fillShadows_31 : decode M_S_fillShadows.2.1 31 = .ok (.aload_n 0, 1) := by decide +kernel
theorem d_S_fillShadows_32 : decode M_S_fillShadows.2.1 32 = .ok (.getfield 10, 3) := by decide +kernel
theorem d_S_fillShadows_35 : decode M_S_fillShadows.2.1 35 = .ok (.iload 5, 2) := by decide +kernel
theorem d_S_fillShadows_37 : decode M_S_fillShadows.2.1 37 = .ok (.aload_n 0, 1) := by decide +kernel
theorem d_S_fillShadows_38 : decode M_S_fillShadows.2.1 38 = .ok (.getfield 55, 3) := by decide +kernel
theorem d_S_fillShadows_41 : decode M_S_fillShadows.2.1 41 = .ok (.invokevirtual 224, 3) := by decide +kernel
theorem d_S_fillShadows_44 : decode M_S_fillShadows.2.1 44 = .ok (.aload_n 0, 1) := by decide +kernel
theorem d_S_fillShadows_45 : decode M_S_fillShadows.2.1 45 = .ok (.getfield 18, 3) := by decide +kernel
theorem d_S_fillShadows_48 : decode M_S_fillShadows.2.1 48 = .ok (.iload 5, 2) := by decide +kernel
theorem d_S_fillShadows_50 : decode M_S_fillShadows.2.1 50 = .ok (.aaload, 1) := by decide +kernel
theorem d_S_fillShadows_51 : decode M_S_fillShadows.2.1 51 = .ok (.aload_n 0, 1) := by decide +kernel
theorem d_S_fillShadows_52 : decode M_S_fillShadows.2.1 52 = .ok (.getfield 18, 3) := by decide +kernel
theorem d_S_fillShadows_55 : decode M_S_fillShadows.2.1 55 = .ok (.iload 5, 2) := by decide +kernel
theorem d_S_fillShadows_57 : decode M_S_fillShadows.2.1 57 = .ok (.aaload, 1) := by decide +kernel
theorem d_S_fillShadows_58 : decode M_S_fillShadows.2.1 58 = .ok (.getfield 107, 3) := by decide +kernel
theorem d_S_fillShadows_61 : decode M_S_fillShadows.2.1 61 = .ok (.iload_n 1, 1) := by decide +kernel
theorem d_S_fillShadows_62 : decode M_S_fillShadows.2.1 62 = .ok (.aaload, 1) := by decide +kernel
theorem d_S_fillShadows_63 : decode M_S_fillShadows.2.1 63 = .ok (.iload_n 2, 1) := by decide +kernel
theorem d_S_fillShadows_64 : decode M_S_fillShadows.2.1 64 = .ok (.invokevirtual 170, 3) := by decide +kernel
theorem d_S_fillShadows_67 : decode M_S_fillShadows.2.1 67 = .ok (.aload_n 0, 1) := by decide +kernel
theorem d_S_fillShadows_68 : decode M_S_fillShadows.2.1 68 = .ok (.getfield 55, 3) := by decide +kernel
theorem d_S_fillShadows_71 : decode M_S_fillShadows.2.1 71 = .ok (.invokevirtual 228, 3) := by decide +kernel
theorem d_S_fillShadows_74 : decode M_S_fillShadows.2.1 74 = .ok (.iinc 4 (-1), 3) := by decide +kernel
theorem d_S_fillShadows_77 : decode M_S_fillShadows.2.1 77 = .ok (.iinc 5 1, 3) := by decide +kernel
theorem d_S_fillShadows_80 : decode M_S_fillShadows.2.1 80 = .ok (.goto (-74), 3) := by decide +kernel
theorem d_S_fillShadows_83 : decode M_S_fillShadows.2.1 83 = .ok (.return_, 1) := by decide +kernel
theorem d_S_free_0 : decode M_S_free.2.1 0 = .ok (.iload_n 1, 1) := by decide +kernel
theorem d_S_free_1 : decode M_S_free.2.1 1 = .ok (.invokestatic 76, 3) := by decide +kernel
theorem d_S_free_4 : decode M_S_free.2.1 4 = .ok (.ifCond .eq 15, 3) := by decide +kernel
theorem d_S_free_7 : decode M_S_free.2.1 7 = .ok (.aload_n 0, 1) := by decide +kernel
theorem d_S_free_8 : decode M_S_free.2.1 8 = .ok (.getfield 18, 3) := by decide +kernel
theorem d_S_free_11 : decode M_S_free.2.1 11 = .ok (.iload_n 1, 1) := by decide +kernel
theorem d_S_free_12 : decode M_S_free.2.1 12 = .ok (.aaload, 1) := by decide +kernel
theorem d_S_free_13 : decode M_S_free.2.1 13 = .ok (.invokevirtual 140, 3) := by decide +kernel
theorem d_S_free_16 : decode M_S_free.2.1 16 = .ok (.goto 5, 3) := by decide +kernel
theorem d_S_free_19 : decode M_S_free.2.1 19 = .ok (.bipush (-2), 2) := by decide +kernel
theorem d_S_free_21 : decode M_S_free.2.1 21 = .ok (.ireturn, 1) := by decide +kernel
theorem d_S_fresh_0 : decode M_S_fresh.2.1 0 = .ok (.iload_n 1, 1) := by decide +kernel
theorem d_S_fresh_1 : decode M_S_fresh.2.1 1 = .ok (.invokestatic 76, 3) := by decide +kernel
theorem d_S_fresh_4 : decode M_S_fresh.2.1 4 = .ok (.ifCond .eq 10, 3) := by decide +kernel
theorem d_S_fresh_7 : decode M_S_fresh.2.1 7 = .ok (.iload_n 2, 1) := by decide +kernel
theorem d_S_fresh_8 : decode M_S_fresh.2.1 8 = .ok (.invokestatic 82, 3) := by decide +kernel
theorem d_S_fresh_11 : decode M_S_fresh.2.1 11 = .ok (.ifCond .ne 6, 3) := by decide +kernel
theorem d_S_fresh_14 : decode M_S_fresh.2.1 14 = .ok (.bipush (-2), 2) := by decide +kernel
theorem d_S_fresh_16 : decode M_S_fresh.2.1 16 = .ok (.ireturn, 1) := by decide +kernel
theorem d_S_fresh_17 : decode M_S_fresh.2.1 17 = .ok (.aload_n 0, 1) := by decide +kernel
theorem d_S_fresh_18 : decode M_S_fresh.2.1 18 = .ok (.iload_n 1, 1) := by decide +kernel
theorem d_S_fresh_19 : decode M_S_fresh.2.1 19 = .ok (.iload_n 2, 1) := by decide +kernel
theorem d_S_fresh_20 : decode M_S_fresh.2.1 20 = .ok (.aload_n 0, 1) := by decide +kernel
theorem d_S_fresh_21 : decode M_S_fresh.2.1 21 = .ok (.iload_n 2, 1) := by decide +kernel
theorem d_S_fresh_22 : decode M_S_fresh.2.1 22 = .ok (.invokevirtual 134, 3) := by decide +kernel
theorem d_S_fresh_25 : decode M_S_fresh.2.1 25 = .ok (.invokevirtual 159, 3) := by decide +kernel
theorem d_S_fresh_28 : decode M_S_fresh.2.1 28 = .ok (.ifCond .eq 7, 3) := by decide +kernel
theorem d_S_fresh_31 : decode M_S_fresh.2.1 31 = .ok (.iconst 1, 1) := by decide +kernel
theorem d_S_fresh_32 : decode M_S_fresh.2.1 32 = .ok (.goto 4, 3) := by decide +kernel
theorem d_S_fresh_35 : decode M_S_fresh.2.1 35 = .ok (.iconst 0, 1) := by decide +kernel
theorem d_S_fresh_36 : decode M_S_fresh.2.1 36 = .ok (.ireturn, 1) := by decide +kernel
theorem d_S_get_0 : decode M_S_get.2.1 0 = .ok (.iload_n 1, 1) := by decide +kernel
theorem d_S_get_1 : decode M_S_get.2.1 1 = .ok (.invokestatic 82, 3) := by decide +kernel
theorem d_S_get_4 : decode M_S_get.2.1 4 = .ok (.ifCond .ne 6, 3) := by decide +kernel
theorem d_S_get_7 : decode M_S_get.2.1 7 = .ok (.bipush (-2), 2) := by decide +kernel
theorem d_S_get_9 : decode M_S_get.2.1 9 = .ok (.ireturn, 1) := by decide +kernel
theorem d_S_get_10 : decode M_S_get.2.1 10 = .ok (.aload_n 0, 1) := by decide +kernel
theorem d_S_get_11 : decode M_S_get.2.1 11 = .ok (.getfield 26, 3) := by decide +kernel
theorem d_S_get_14 : decode M_S_get.2.1 14 = .ok (.iload_n 1, 1) := by decide +kernel
theorem d_S_get_15 : decode M_S_get.2.1 15 = .ok (.baload, 1) := by decide +kernel
theorem d_S_get_16 : decode M_S_get.2.1 16 = .ok (.ifCond .eq 6, 3) := by decide +kernel
theorem d_S_get_19 : decode M_S_get.2.1 19 = .ok (.bipush (-3), 2) := by decide +kernel
theorem d_S_get_21 : decode M_S_get.2.1 21 = .ok (.ireturn, 1) := by decide +kernel
theorem d_S_get_22 : decode M_S_get.2.1 22 = .ok (.aload_n 0, 1) := by decide +kernel
theorem d_S_get_23 : decode M_S_get.2.1 23 = .ok (.iload_n 1, 1) := by decide +kernel
theorem d_S_get_24 : decode M_S_get.2.1 24 = .ok (.iload_n 2, 1) := by decide +kernel
theorem d_S_get_25 : decode M_S_get.2.1 25 = .ok (.invokevirtual 124, 3) := by decide +kernel
theorem d_S_get_28 : decode M_S_get.2.1 28 = .ok (.iconst 5, 1) := by decide +kernel
theorem d_S_get_29 : decode M_S_get.2.1 29 = .ok (.if_icmp .ge 6, 3) := by decide +kernel
theorem d_S_get_32 : decode M_S_get.2.1 32 = .ok (.bipush (-4), 2) := by decide +kernel
theorem d_S_get_34 : decode M_S_get.2.1 34 = .ok (.ireturn, 1) := by decide +kernel
theorem d_S_get_35 : decode M_S_get.2.1 35 = .ok (.aload_n 0, 1) := by decide +kernel
theorem d_S_get_36 : decode M_S_get.2.1 36 = .ok (.iload_n 1, 1) := by decide +kernel
theorem d_S_get_37 : decode M_S_get.2.1 37 = .ok (.invokevirtual 127, 3) := by decide +kernel
theorem d_S_get_40 : decode M_S_get.2.1 40 = .ok (.istore_n 3, 1) := by decide +kernel
theorem d_S_get_41 : decode M_S_get.2.1 41 = .ok (.iload_n 3, 1) := by decide +kernel
theorem d_S_get_42 : decode M_S_get.2.1 42 = .ok (.ifCond .ne 6, 3) := by decide +kernel
theorem d_S_get_45 : decode M_S_get.2.1 45 = .ok (.bipush (-6), 2) := by decide +kernel
theorem d_S_get_47 : decode M_S_get.2.1 47 = .ok (.ireturn, 1) := by decide +kernel
theorem d_S_get_48 : decode M_S_get.2.1 48 = .ok (.aload_n 0, 1) := by decide +kernel
theorem d_S_get_49 : decode M_S_get.2.1 49 = .ok (.iload_n 1, 1) := by decide +kernel
theorem d_S_get_50 : decode M_S_get.2.1 50 = .ok (.iload_n 3, 1) := by decide +kernel
theorem d_S_get_51 : decode M_S_get.2.1 51 = .ok (.invokevirtual 130, 3) := by decide +kernel
theorem d_S_get_54 : decode M_S_get.2.1 54 = .ok (.aload_n 0, 1) := by decide +kernel
theorem d_S_get_55 : decode M_S_get.2.1 55 = .ok (.iload_n 3, 1) := by decide +kernel
theorem d_S_get_56 : decode M_S_get.2.1 56 = .ok (.putfield 40, 3) := by decide +kernel
theorem d_S_get_59 : decode M_S_get.2.1 59 = .ok (.iload_n 3, 1) := by decide +kernel
theorem d_S_get_60 : decode M_S_get.2.1 60 = .ok (.ireturn, 1) := by decide +kernel
theorem d_S_got_0 : decode M_S_got.2.1 0 = .ok (.iload_n 1, 1) := by decide +kernel
theorem d_S_got_1 : decode M_S_got.2.1 1 = .ok (.ifCond .lt 20, 3) := by decide +kernel
theorem d_S_got_4 : decode M_S_got.2.1 4 = .ok (.iload_n 1, 1) := by decide +kernel
theorem d_S_got_5 : decode M_S_got.2.1 5 = .ok (.aload_n 0, 1) := by decide +kernel
theorem d_S_got_6 : decode M_S_got.2.1 6 = .ok (.getfield 40, 3) := by decide +kernel
theorem d_S_got_9 : decode M_S_got.2.1 9 = .ok (.if_icmp .ge 12, 3) := by decide +kernel
theorem d_S_got_12 : decode M_S_got.2.1 12 = .ok (.aload_n 0, 1) := by decide +kernel
theorem d_S_got_13 : decode M_S_got.2.1 13 = .ok (.getfield 37, 3) := by decide +kernel
theorem d_S_got_16 : decode M_S_got.2.1 16 = .ok (.iload_n 1, 1) := by decide +kernel
theorem d_S_got_17 : decode M_S_got.2.1 17 = .ok (.iaload, 1) := by decide +kernel
theorem d_S_got_18 : decode M_S_got.2.1 18 = .ok (.goto 4, 3) := by decide +kernel
theorem d_S_got_21 : decode M_S_got.2.1 21 = .ok (.iconst (-1), 1) := by decide +kernel
theorem d_S_got_22 : decode M_S_got.2.1 22 = .ok (.ireturn, 1) := by decide +kernel
theorem d_S_init_0 : decode M_S_init.2.1 0 = .ok (.aload_n 0, 1) := by decide +kernel
theorem d_S_init_1 : decode M_S_init.2.1 1 = .ok (.invokespecial 1, 3) := by decide +kernel
theorem d_S_init_4 : decode M_S_init.2.1 4 = .ok (.aload_n 0, 1) := by decide +kernel
theorem d_S_init_5 : decode M_S_init.2.1 5 = .ok (.new 7, 3) := by decide +kernel
theorem d_S_init_8 : decode M_S_init.2.1 8 = .ok (.dup, 1) := by decide +kernel
theorem d_S_init_9 : decode M_S_init.2.1 9 = .ok (.invokespecial 9, 3) := by decide +kernel
theorem d_S_init_12 : decode M_S_init.2.1 12 = .ok (.putfield 10, 3) := by decide +kernel
theorem d_S_init_15 : decode M_S_init.2.1 15 = .ok (.aload_n 0, 1) := by decide +kernel
theorem d_S_init_16 : decode M_S_init.2.1 16 = .ok (.bipush 12, 2) := by decide +kernel
theorem d_S_init_18 : decode M_S_init.2.1 18 = .ok (.anewarray 16, 3) := by decide +kernel
theorem d_S_init_21 : decode M_S_init.2.1 21 = .ok (.putfield 18, 3) := by decide +kernel
theorem d_S_init_24 : decode M_S_init.2.1 24 = .ok (.aload_n 0, 1) := by decide +kernel
theorem d_S_init_25 : decode M_S_init.2.1 25 = .ok (.bipush 6, 2) := by decide +kernel
theorem d_S_init_27 : decode M_S_init.2.1 27 = .ok (.newarray .int, 2) := by decide +kernel
theorem d_S_init_29 : decode M_S_init.2.1 29 = .ok (.putfield 22, 3) := by decide +kernel
theorem d_S_init_32 : decode M_S_init.2.1 32 = .ok (.aload_n 0, 1) := by decide +kernel
theorem d_S_init_33 : decode M_S_init.2.1 33 = .ok (.bipush 6, 2) := by decide +kernel
theorem d_S_init_35 : decode M_S_init.2.1 35 = .ok (.newarray .boolean, 2) := by decide +kernel
theorem d_S_init_37 : decode M_S_init.2.1 37 = .ok (.putfield 26, 3) := by decide +kernel
theorem d_S_init_40 : decode M_S_init.2.1 40 = .ok (.aload_n 0, 1) := by decide +kernel
theorem d_S_init_41 : decode M_S_init.2.1 41 = .ok (.sipush 240, 3) := by decide +kernel
theorem d_S_init_44 : decode M_S_init.2.1 44 = .ok (.newarray .int, 2) := by decide +kernel
theorem d_S_init_46 : decode M_S_init.2.1 46 = .ok (.putfield 30, 3) := by decide +kernel
theorem d_S_init_49 : decode M_S_init.2.1 49 = .ok (.aload_n 0, 1) := by decide +kernel
theorem d_S_init_50 : decode M_S_init.2.1 50 = .ok (.iconst 0, 1) := by decide +kernel
theorem d_S_init_51 : decode M_S_init.2.1 51 = .ok (.putfield 33, 3) := by decide +kernel
theorem d_S_init_54 : decode M_S_init.2.1 54 = .ok (.aload_n 0, 1) := by decide +kernel
theorem d_S_init_55 : decode M_S_init.2.1 55 = .ok (.sipush 240, 3) := by decide +kernel
theorem d_S_init_58 : decode M_S_init.2.1 58 = .ok (.newarray .int, 2) := by decide +kernel
theorem d_S_init_60 : decode M_S_init.2.1 60 = .ok (.putfield 37, 3) := by decide +kernel
theorem d_S_init_63 : decode M_S_init.2.1 63 = .ok (.aload_n 0, 1) := by decide +kernel
theorem d_S_init_64 : decode M_S_init.2.1 64 = .ok (.iconst 0, 1) := by decide +kernel
theorem d_S_init_65 : decode M_S_init.2.1 65 = .ok (.putfield 40, 3) := by decide +kernel
theorem d_S_init_68 : decode M_S_init.2.1 68 = .ok (.aload_n 0, 1) := by decide +kernel
theorem d_S_init_69 : decode M_S_init.2.1 69 = .ok (.iconst (-1), 1) := by decide +kernel
theorem d_S_init_70 : decode M_S_init.2.1 70 = .ok (.putfield 43, 3) := by decide +kernel
theorem d_S_init_73 : decode M_S_init.2.1 73 = .ok (.aload_n 0, 1) := by decide +kernel
theorem d_S_init_74 : decode M_S_init.2.1 74 = .ok (.iconst 0, 1) := by decide +kernel
theorem d_S_init_75 : decode M_S_init.2.1 75 = .ok (.putfield 46, 3) := by decide +kernel
theorem d_S_init_78 : decode M_S_init.2.1 78 = .ok (.aload_n 0, 1) := by decide +kernel
theorem d_S_init_79 : decode M_S_init.2.1 79 = .ok (.iconst 0, 1) := by decide +kernel
theorem d_S_init_80 : decode M_S_init.2.1 80 = .ok (.putfield 49, 3) := by decide +kernel
theorem d_S_init_83 : decode M_S_init.2.1 83 = .ok (.aload_n 0, 1) := by decide +kernel
theorem d_S_init_84 : decode M_S_init.2.1 84 = .ok (.bipush 8, 2) := by decide +kernel
theorem d_S_init_86 : decode M_S_init.2.1 86 = .ok (.newarray .int, 2) := by decide +kernel
theorem d_S_init_88 : decode M_S_init.2.1 88 = .ok (.putfield 52, 3) := by decide +kernel
theorem d_S_init_91 : decode M_S_init.2.1 91 = .ok (.aload_n 0, 1) := by decide +kernel
theorem d_S_init_92 : decode M_S_init.2.1 92 = .ok (.bipush 8, 2) := by decide +kernel
theorem d_S_init_94 : decode M_S_init.2.1 94 = .ok (.newarray .int, 2) := by decide +kernel
theorem d_S_init_96 : decode M_S_init.2.1 96 = .ok (.putfield 55, 3) := by decide +kernel
theorem d_S_init_99 : decode M_S_init.2.1 99 = .ok (.iconst 0, 1) := by decide +kernel
theorem d_S_init_100 : decode M_S_init.2.1 100 = .ok (.istore_n 1, 1) := by decide +kernel
theorem d_S_init_101 : decode M_S_init.2.1 101 = .ok (.iload_n 1, 1) := by decide +kernel
theorem d_S_init_102 : decode M_S_init.2.1 102 = .ok (.bipush 12, 2) := by decide +kernel
theorem d_S_init_104 : decode M_S_init.2.1 104 = .ok (.if_icmp .ge 22, 3) := by decide +kernel
theorem d_S_init_107 : decode M_S_init.2.1 107 = .ok (.aload_n 0, 1) := by decide +kernel
theorem d_S_init_108 : decode M_S_init.2.1 108 = .ok (.getfield 18, 3) := by decide +kernel
theorem d_S_init_111 : decode M_S_init.2.1 111 = .ok (.iload_n 1, 1) := by decide +kernel
theorem d_S_init_112 : decode M_S_init.2.1 112 = .ok (.new 16, 3) := by decide +kernel
theorem d_S_init_115 : decode M_S_init.2.1 115 = .ok (.dup, 1) := by decide +kernel
theorem d_S_init_116 : decode M_S_init.2.1 116 = .ok (.invokespecial 58, 3) := by decide +kernel
theorem d_S_init_119 : decode M_S_init.2.1 119 = .ok (.aastore, 1) := by decide +kernel
theorem d_S_init_120 : decode M_S_init.2.1 120 = .ok (.iinc 1 1, 3) := by decide +kernel
theorem d_S_init_123 : decode M_S_init.2.1 123 = .ok (.goto (-22), 3) := by decide +kernel
theorem d_S_init_126 : decode M_S_init.2.1 126 = .ok (.return_, 1) := by decide +kernel
theorem d_S_isElement_0 : decode M_S_isElement.2.1 0 = .ok (.iload_n 0, 1) := by decide +kernel
theorem d_S_isElement_1 : decode M_S_isElement.2.1 1 = .ok (.ifCond .lt 14, 3) := by decide +kernel
theorem d_S_isElement_4 : decode M_S_isElement.2.1 4 = .ok (.iload_n 0, 1) := by decide +kernel
theorem d_S_isElement_5 : decode M_S_isElement.2.1 5 = .ok (.sipush 256, 3) := by decide +kernel
theorem d_S_isElement_8 : decode M_S_isElement.2.1 8 = .ok (.if_icmp .ge 7, 3) := by decide +kernel
theorem d_S_isElement_11 : decode M_S_isElement.2.1 11 = .ok (.iconst 1, 1) := by decide +kernel
theorem d_S_isElement_12 : decode M_S_isElement.2.1 12 = .ok (.goto 4, 3) := by decide +kernel
theorem d_S_isElement_15 : decode M_S_isElement.2.1 15 = .ok (.iconst 0, 1) := by decide +kernel
theorem d_S_isElement_16 : decode M_S_isElement.2.1 16 = .ok (.ireturn, 1) := by decide +kernel
theorem d_S_isFresh_0 : decode M_S_isFresh.2.1 0 = .ok (.iload_n 3, 1) := by decide +kernel
theorem d_S_isFresh_1 : decode M_S_isFresh.2.1 1 = .ok (.ifCond .le 37, 3) := by decide +kernel
theorem d_S_isFresh_4 : decode M_S_isFresh.2.1 4 = .ok (.aload_n 0, 1) := by decide +kernel
theorem d_S_isFresh_5 : decode M_S_isFresh.2.1 5 = .ok (.getfield 18, 3) := by decide +kernel
theorem d_S_isFresh_8 : decode M_S_isFresh.2.1 8 = .ok (.iload_n 1, 1) := by decide +kernel
theorem d_S_isFresh_9 : decode M_S_isFresh.2.1 9 = .ok (.aaload, 1) := by decide +kernel
theorem d_S_isFresh_10 : decode M_S_isFresh.2.1 10 = .ok (.getfield 103, 3) := by decide +kernel
theorem d_S_isFresh_13 : decode M_S_isFresh.2.1 13 = .ok (.ifCond .eq 25, 3) := by decide +kernel
theorem d_S_isFresh_16 : decode M_S_isFresh.2.1 16 = .ok (.aload_n 0, 1) := by decide +kernel
theorem d_S_isFresh_17 : decode M_S_isFresh.2.1 17 = .ok (.getfield 18, 3) := by decide +kernel
theorem d_S_isFresh_20 : decode M_S_isFresh.2.1 20 = .ok (.iload_n 1, 1) := by decide +kernel
theorem d_S_isFresh_21 : decode M_S_isFresh.2.1 21 = .ok (.aaload, 1) := by decide +kernel
theorem d_S_isFresh_22 : decode M_S_isFresh.2.1 22 = .ok (.getfield 173, 3) := by decide +kernel
theorem d_S_isFresh_25 : decode M_S_isFresh.2.1 25 = .ok (.iload_n 2, 1) := by decide +kernel
theorem d_S_isFresh_26 : decode M_S_isFresh.2.1 26 = .ok (.aaload, 1) := by decide +kernel
theorem d_S_isFresh_27 : decode M_S_isFresh.2.1 27 = .ok (.getfield 111, 3) := by decide +kernel
theorem d_S_isFresh_30 : decode M_S_isFresh.2.1 30 = .ok (.iload_n 3, 1) := by decide +kernel
theorem d_S_isFresh_31 : decode M_S_isFresh.2.1 31 = .ok (.if_icmp .ne 7, 3) := by decide +kernel
theorem d_S_isFresh_34 : decode M_S_isFresh.2.1 34 = .ok (.iconst 1, 1) := by decide +kernel
theorem d_S_isFresh_35 : decode M_S_isFresh.2.1 35 = .ok (.goto 4, 3) := by decide +kernel
theorem d_S_isFresh_38 : decode M_S_isFresh.2.1 38 = .ok (.iconst 0, 1) := by decide +kernel
theorem d_S_isFresh_39 : decode M_S_isFresh.2.1 39 = .ok (.ireturn, 1) := by decide +kernel
theorem d_S_isNode_0 : decode M_S_isNode.2.1 0 = .ok (.iload_n 0, 1) := by decide +kernel
theorem d_S_isNode_1 : decode M_S_isNode.2.1 1 = .ok (.ifCond .lt 13, 3) := by decide +kernel
theorem d_S_isNode_4 : decode M_S_isNode.2.1 4 = .ok (.iload_n 0, 1) := by decide +kernel
theorem d_S_isNode_5 : decode M_S_isNode.2.1 5 = .ok (.bipush 12, 2) := by decide +kernel
theorem d_S_isNode_7 : decode M_S_isNode.2.1 7 = .ok (.if_icmp .ge 7, 3) := by decide +kernel
theorem d_S_isNode_10 : decode M_S_isNode.2.1 10 = .ok (.iconst 1, 1) := by decide +kernel
theorem d_S_isNode_11 : decode M_S_isNode.2.1 11 = .ok (.goto 4, 3) := by decide +kernel
theorem d_S_isNode_14 : decode M_S_isNode.2.1 14 = .ok (.iconst 0, 1) := by decide +kernel
theorem d_S_isNode_15 : decode M_S_isNode.2.1 15 = .ok (.ireturn, 1) := by decide +kernel
theorem d_S_isObject_0 : decode M_S_isObject.2.1 0 = .ok (.iload_n 0, 1) := by decide +kernel
theorem d_S_isObject_1 : decode M_S_isObject.2.1 1 = .ok (.ifCond .lt 13, 3) := by decide +kernel
theorem d_S_isObject_4 : decode M_S_isObject.2.1 4 = .ok (.iload_n 0, 1) := by decide +kernel
theorem d_S_isObject_5 : decode M_S_isObject.2.1 5 = .ok (.bipush 6, 2) := by decide +kernel
theorem d_S_isObject_7 : decode M_S_isObject.2.1 7 = .ok (.if_icmp .ge 7, 3) := by decide +kernel
theorem d_S_isObject_10 : decode M_S_isObject.2.1 10 = .ok (.iconst 1, 1) := by decide +kernel
theorem d_S_isObject_11 : decode M_S_isObject.2.1 11 = .ok (.goto 4, 3) := by decide +kernel
theorem d_S_isObject_14 : decode M_S_isObject.2.1 14 = .ok (.iconst 0, 1) := by decide +kernel
theorem d_S_isObject_15 : decode M_S_isObject.2.1 15 = .ok (.ireturn, 1) := by decide +kernel
theorem d_S_isStale_0 : decode M_S_isStale.2.1 0 = .ok (.aload_n 0, 1) := by decide +kernel
theorem d_S_isStale_1 : decode M_S_isStale.2.1 1 = .ok (.iload_n 2, 1) := by decide +kernel
theorem d_S_isStale_2 : decode M_S_isStale.2.1 2 = .ok (.invokevirtual 134, 3) := by decide +kernel
theorem d_S_isStale_5 : decode M_S_isStale.2.1 5 = .ok (.istore_n 3, 1) := by decide +kernel
theorem d_S_isStale_6 : decode M_S_isStale.2.1 6 = .ok (.aload_n 0, 1) := by decide +kernel
theorem d_S_isStale_7 : decode M_S_isStale.2.1 7 = .ok (.getfield 26, 3) := by decide +kernel
theorem d_S_isStale_10 : decode M_S_isStale.2.1 10 = .ok (.iload_n 2, 1) := by decide +kernel
theorem d_S_isStale_11 : decode M_S_isStale.2.1 11 = .ok (.baload, 1) := by decide +kernel
theorem d_S_isStale_12 : decode M_S_isStale.2.1 12 = .ok (.ifCond .ne 21, 3) := by decide +kernel
theorem d_S_isStale_15 : decode M_S_isStale.2.1 15 = .ok (.iload_n 3, 1) := by decide +kernel
theorem d_S_isStale_16 : decode M_S_isStale.2.1 16 = .ok (.ifCond .le 17, 3) := by decide +kernel
theorem d_S_isStale_19 : decode M_S_isStale.2.1 19 = .ok (.aload_n 0, 1) := by decide +kernel
theorem d_S_isStale_20 : decode M_S_isStale.2.1 20 = .ok (.iload_n 1, 1) := by decide +kernel
theorem d_S_isStale_21 : decode M_S_isStale.2.1 21 = .ok (.iload_n 2, 1) := by decide +kernel
theorem d_S_isStale_22 : decode M_S_isStale.2.1 22 = .ok (.iload_n 3, 1) := by decide +kernel
theorem d_S_isStale_23 : decode M_S_isStale.2.1 23 = .ok (.invokevirtual 159, 3) := by decide +kernel
theorem d_S_isStale_26 : decode M_S_isStale.2.1 26 = .ok (.ifCond .ne 7, 3) := by decide +kernel
theorem d_S_isStale_29 : decode M_S_isStale.2.1 29 = .ok (.iconst 1, 1) := by decide +kernel
theorem d_S_isStale_30 : decode M_S_isStale.2.1 30 = .ok (.goto 4, 3) := by decide +kernel
theorem d_S_isStale_33 : decode M_S_isStale.2.1 33 = .ok (.iconst 0, 1) := by decide +kernel
theorem d_S_isStale_34 : decode M_S_isStale.2.1 34 = .ok (.ireturn, 1) := by decide +kernel
theorem d_S_isTold_0 : decode M_S_isTold.2.1 0 = .ok (.iload_n 0, 1) := by decide +kernel
theorem d_S_isTold_1 : decode M_S_isTold.2.1 1 = .ok (.iload_n 1, 1) := by decide +kernel
theorem d_S_isTold_2 : decode M_S_isTold.2.1 2 = .ok (.ishr, 1) := by decide +kernel
theorem d_S_isTold_3 : decode M_S_isTold.2.1 3 = .ok (.iconst 1, 1) := by decide +kernel
theorem d_S_isTold_4 : decode M_S_isTold.2.1 4 = .ok (.iand, 1) := by decide +kernel
theorem d_S_isTold_5 : decode M_S_isTold.2.1 5 = .ok (.iconst 1, 1) := by decide +kernel
theorem d_S_isTold_6 : decode M_S_isTold.2.1 6 = .ok (.if_icmp .ne 7, 3) := by decide +kernel
theorem d_S_isTold_9 : decode M_S_isTold.2.1 9 = .ok (.iconst 1, 1) := by decide +kernel
theorem d_S_isTold_10 : decode M_S_isTold.2.1 10 = .ok (.goto 4, 3) := by decide +kernel
theorem d_S_isTold_13 : decode M_S_isTold.2.1 13 = .ok (.iconst 0, 1) := by decide +kernel
theorem d_S_isTold_14 : decode M_S_isTold.2.1 14 = .ok (.ireturn, 1) := by decide +kernel
theorem d_S_lacksHelpers_0 : decode M_S_lacksHelpers.2.1 0 = .ok (.iconst 0, 1) := by decide +kernel
theorem d_S_lacksHelpers_1 : decode M_S_lacksHelpers.2.1 1 = .ok (.istore_n 3, 1) := by decide +kernel
theorem d_S_lacksHelpers_2 : decode M_S_lacksHelpers.2.1 2 = .ok (.iload_n 3, 1) := by decide +kernel
theorem d_S_lacksHelpers_3 : decode M_S_lacksHelpers.2.1 3 = .ok (.bipush 6, 2) := by decide +kernel
theorem d_S_lacksHelpers_5 : decode M_S_lacksHelpers.2.1 5 = .ok (.if_icmp .ge 40, 3) := by decide +kernel
theorem d_S_lacksHelpers_8 : decode M_S_lacksHelpers.2.1 8 = .ok (.aload_n 0, 1) := by decide +kernel
theorem d_S_lacksHelpers_9 : decode M_S_lacksHelpers.2.1 9 = .ok (.iload_n 1, 1) := by decide +kernel
theorem d_S_lacksHelpers_10 : decode M_S_lacksHelpers.2.1 10 = .ok (.iload_n 3, 1) := by decide +kernel
theorem d_S_lacksHelpers_11 : decode M_S_lacksHelpers.2.1 11 = .ok (.invokevirtual 152, 3) := by decide +kernel
theorem d_S_lacksHelpers_14 : decode M_S_lacksHelpers.2.1 14 = .ok (.ifCond .eq 25, 3) := by decide +kernel
theorem d_S_lacksHelpers_17 : decode M_S_lacksHelpers.2.1 17 = .ok (.aload_n 0, 1) := by decide +kernel
theorem d_S_lacksHelpers_18 : decode M_S_lacksHelpers.2.1 18 = .ok (.iload_n 3, 1) := by decide +kernel
theorem d_S_lacksHelpers_19 : decode M_S_lacksHelpers.2.1 19 = .ok (.invokevirtual 127, 3) := by decide +kernel
theorem d_S_lacksHelpers_22 : decode M_S_lacksHelpers.2.1 22 = .ok (.ifCond .le 17, 3) := by decide +kernel
theorem d_S_lacksHelpers_25 : decode M_S_lacksHelpers.2.1 25 = .ok (.aload_n 0, 1) := by decide +kernel
theorem d_S_lacksHelpers_26 : decode M_S_lacksHelpers.2.1 26 = .ok (.iload_n 1, 1) := by decide +kernel
theorem d_S_lacksHelpers_27 : decode M_S_lacksHelpers.2.1 27 = .ok (.iload_n 3, 1) := by decide +kernel
theorem d_S_lacksHelpers_28 : decode M_S_lacksHelpers.2.1 28 = .ok (.iload_n 2, 1) := by decide +kernel
theorem d_S_lacksHelpers_29 : decode M_S_lacksHelpers.2.1 29 = .ok (.invokevirtual 251, 3) := by decide +kernel
theorem d_S_lacksHelpers_32 : decode M_S_lacksHelpers.2.1 32 = .ok (.bipush 8, 2) := by decide +kernel
theorem d_S_lacksHelpers_34 : decode M_S_lacksHelpers.2.1 34 = .ok (.if_icmp .ge 5, 3) := by decide +kernel
theorem d_S_lacksHelpers_37 : decode M_S_lacksHelpers.2.1 37 = .ok (.iconst 1, 1) := by decide +kernel
theorem d_S_lacksHelpers_38 : decode M_S_lacksHelpers.2.1 38 = .ok (.ireturn, 1) := by decide +kernel
theorem d_S_lacksHelpers_39 : decode M_S_lacksHelpers.2.1 39 = .ok (.iinc 3 1, 3) := by decide +kernel
theorem d_S_lacksHelpers_42 : decode M_S_lacksHelpers.2.1 42 = .ok (.goto (-40), 3) := by decide +kernel
theorem d_S_lacksHelpers_45 : decode M_S_lacksHelpers.2.1 45 = .ok (.iconst 0, 1) := by decide +kernel
theorem d_S_lacksHelpers_46 : decode M_S_lacksHelpers.2.1 46 = .ok (.ireturn, 1) := by decide +kernel
theorem d_S_lacksRoom_0 : decode M_S_lacksRoom.2.1 0 = .ok (.bipush 40, 2) := by decide +kernel
theorem d_S_lacksRoom_2 : decode M_S_lacksRoom.2.1 2 = .ok (.aload_n 0, 1) := by decide +kernel
theorem d_S_lacksRoom_3 : decode M_S_lacksRoom.2.1 3 = .ok (.getfield 18, 3) := by decide +kernel
theorem d_S_lacksRoom_6 : decode M_S_lacksRoom.2.1 6 = .ok (.iload_n 1, 1) := by decide +kernel
theorem d_S_lacksRoom_7 : decode M_S_lacksRoom.2.1 7 = .ok (.aaload, 1) := by decide +kernel
theorem d_S_lacksRoom_8 : decode M_S_lacksRoom.2.1 8 = .ok (.invokevirtual 140, 3) := by decide +kernel
theorem d_S_lacksRoom_11 : decode M_S_lacksRoom.2.1 11 = .ok (.isub, 1) := by decide +kernel
theorem d_S_lacksRoom_12 : decode M_S_lacksRoom.2.1 12 = .ok (.istore_n 2, 1) := by decide +kernel
theorem d_S_lacksRoom_13 : decode M_S_lacksRoom.2.1 13 = .ok (.iconst 0, 1) := by decide +kernel
theorem d_S_lacksRoom_14 : decode M_S_lacksRoom.2.1 14 = .ok (.istore_n 3, 1) := by decide +kernel
theorem d_S_lacksRoom_15 : decode M_S_lacksRoom.2.1 15 = .ok (.iload_n 3, 1) := by decide +kernel
theorem d_S_lacksRoom_16 : decode M_S_lacksRoom.2.1 16 = .ok (.bipush 6, 2) := by decide +kernel
theorem d_S_lacksRoom_18 : decode M_S_lacksRoom.2.1 18 = .ok (.if_icmp .ge 52, 3) := by decide +kernel
theorem d_S_lacksRoom_21 : decode M_S_lacksRoom.2.1 21 = .ok (.aload_n 0, 1) := by decide +kernel
theorem d_S_lacksRoom_22 : decode M_S_lacksRoom.2.1 22 = .ok (.iload_n 1, 1) := by decide +kernel
theorem d_S_lacksRoom_23 : decode M_S_lacksRoom.2.1 23 = .ok (.iload_n 3, 1) := by decide +kernel
theorem d_S_lacksRoom_24 : decode M_S_lacksRoom.2.1 24 = .ok (.invokevirtual 152, 3) := by decide +kernel
theorem d_S_lacksRoom_27 : decode M_S_lacksRoom.2.1 27 = .ok (.ifCond .eq 29, 3) := by decide +kernel
theorem d_S_lacksRoom_30 : decode M_S_lacksRoom.2.1 30 = .ok (.iload_n 2, 1) := by decide +kernel
theorem d_S_lacksRoom_31 : decode M_S_lacksRoom.2.1 31 = .ok (.aload_n 0, 1) := by decide +kernel
theorem d_S_lacksRoom_32 : decode M_S_lacksRoom.2.1 32 = .ok (.iload_n 3, 1) := by decide +kernel
theorem d_S_lacksRoom_33 : decode M_S_lacksRoom.2.1 33 = .ok (.invokevirtual 127, 3) := by decide +kernel
theorem d_S_lacksRoom_36 : decode M_S_lacksRoom.2.1 36 = .ok (.invokestatic 92, 3) := by decide +kernel
theorem d_S_lacksRoom_39 : decode M_S_lacksRoom.2.1 39 = .ok (.aload_n 0, 1) := by decide +kernel
theorem d_S_lacksRoom_40 : decode M_S_lacksRoom.2.1 40 = .ok (.getfield 18, 3) := by decide +kernel
theorem d_S_lacksRoom_43 : decode M_S_lacksRoom.2.1 43 = .ok (.iload_n 1, 1) := by decide +kernel
theorem d_S_lacksRoom_44 : decode M_S_lacksRoom.2.1 44 = .ok (.aaload, 1) := by decide +kernel
theorem d_S_lacksRoom_45 : decode M_S_lacksRoom.2.1 45 = .ok (.getfield 173, 3) := by decide +kernel
theorem d_S_lacksRoom_48 : decode M_S_lacksRoom.2.1 48 = .ok (.iload_n 3, 1) := by decide +kernel
theorem d_S_lacksRoom_49 : decode M_S_lacksRoom.2.1 49 = .ok (.aaload, 1) := by decide +kernel
theorem d_S_lacksRoom_50 : decode M_S_lacksRoom.2.1 50 = .ok (.getfield 204, 3) := by decide +kernel
theorem d_S_lacksRoom_53 : decode M_S_lacksRoom.2.1 53 = .ok (.isub, 1) := by decide +kernel
theorem d_S_lacksRoom_54 : decode M_S_lacksRoom.2.1 54 = .ok (.iadd, 1) := by decide +kernel
theorem d_S_lacksRoom_55 : decode M_S_lacksRoom.2.1 55 = .ok (.istore_n 2, 1) := by decide +kernel
theorem d_S_lacksRoom_56 : decode M_S_lacksRoom.2.1 56 = .ok (.iload_n 2, 1) := by decide +kernel
theorem d_S_lacksRoom_57 : decode M_S_lacksRoom.2.1 57 = .ok (.bipush 40, 2) := by decide +kernel
theorem d_S_lacksRoom_59 : decode M_S_lacksRoom.2.1 59 = .ok (.if_icmp .le 5, 3) := by decide +kernel
theorem d_S_lacksRoom_62 : decode M_S_lacksRoom.2.1 62 = .ok (.iconst 1, 1) := by decide +kernel
theorem d_S_lacksRoom_63 : decode M_S_lacksRoom.2.1 63 = .ok (.ireturn, 1) := by decide +kernel
theorem d_S_lacksRoom_64 : decode M_S_lacksRoom.2.1 64 = .ok (.iinc 3 1, 3) := by decide +kernel
theorem d_S_lacksRoom_67 : decode M_S_lacksRoom.2.1 67 = .ok (.goto (-52), 3) := by decide +kernel
theorem d_S_lacksRoom_70 : decode M_S_lacksRoom.2.1 70 = .ok (.iconst 0, 1) := by decide +kernel
theorem d_S_lacksRoom_71 : decode M_S_lacksRoom.2.1 71 = .ok (.ireturn, 1) := by decide +kernel
theorem d_S_leastFreeOfLive_0 : decode M_S_leastFreeOfLive.2.1 0 = .ok (.bipush 40, 2) := by decide +kernel
theorem d_S_leastFreeOfLive_2 : decode M_S_leastFreeOfLive.2.1 2 = .ok (.istore_n 1, 1) := by decide +kernel
theorem d_S_leastFreeOfLive_3 : decode M_S_leastFreeOfLive.2.1 3 = .ok (.iconst 0, 1) := by decide +kernel
theorem d_S_leastFreeOfLive_4 : decode M_S_leastFreeOfLive.2.1 4 = .ok (.istore_n 2, 1) := by decide +kernel
theorem d_S_leastFreeOfLive_5 : decode M_S_leastFreeOfLive.2.1 5 = .ok (.iload_n 2, 1) := by decide +kernel
theorem d_S_leastFreeOfLive_6 : decode M_S_leastFreeOfLive.2.1 6 = .ok (.bipush 12, 2) := by decide +kernel
theorem d_S_leastFreeOfLive_8 : decode M_S_leastFreeOfLive.2.1 8 = .ok (.if_icmp .ge 35, 3) := by decide +kernel
theorem d_S_leastFreeOfLive_11 : decode M_S_leastFreeOfLive.2.1 11 = .ok (.aload_n 0, 1) := by decide +kernel
theorem d_S_leastFreeOfLive_12 : decode M_S_leastFreeOfLive.2.1 12 = .ok (.getfield 18, 3) := by decide +kernel
theorem d_S_leastFreeOfLive_15 : decode M_S_leastFreeOfLive.2.1 15 = .ok (.iload_n 2, 1) := by decide +kernel
theorem d_S_leastFreeOfLive_16 : decode M_S_leastFreeOfLive.2.1 16 = .ok (.aaload, 1) := by decide +kernel
theorem d_S_leastFreeOfLive_17 : decode M_S_leastFreeOfLive.2.1 17 = .ok (.getfield 103, 3) := by decide +kernel
theorem d_S_leastFreeOfLive_20 : decode M_S_leastFreeOfLive.2.1 20 = .ok (.ifCond .eq 17, 3) := by decide +kernel
theorem d_S_leastFreeOfLive_23 : decode M_S_leastFreeOfLive.2.1 23 = .ok (.iload_n 1, 1) := by decide +kernel
theorem d_S_leastFreeOfLive_24 : decode M_S_leastFreeOfLive.2.1 24 = .ok (.aload_n 0, 1) := by decide +kernel
theorem d_S_leastFreeOfLive_25 : decode M_S_leastFreeOfLive.2.1 25 = .ok (.getfield 18, 3) := by decide +kernel
theorem d_S_leastFreeOfLive_28 : decode M_S_leastFreeOfLive.2.1 28 = .ok (.iload_n 2, 1) := by decide +kernel
theorem d_S_leastFreeOfLive_29 : decode M_S_leastFreeOfLive.2.1 29 = .ok (.aaload, 1) := by decide +kernel
theorem d_S_leastFreeOfLive_30 : decode M_S_leastFreeOfLive.2.1 30 = .ok (.invokevirtual 140, 3) := by decide +kernel
theorem d_S_leastFreeOfLive_33 : decode M_S_leastFreeOfLive.2.1 33 = .ok (.invokestatic 193, 3) := by decide +kernel
theorem d_S_leastFreeOfLive_36 : decode M_S_leastFreeOfLive.2.1 36 = .ok (.istore_n 1, 1) := by decide +kernel
theorem d_S_leastFreeOfLive_37 : decode M_S_leastFreeOfLive.2.1 37 = .ok (.iinc 2 1, 3) := by decide +kernel
theorem d_S_leastFreeOfLive_40 : decode M_S_leastFreeOfLive.2.1 40 = .ok (.goto (-35), 3) := by decide +kernel
theorem d_S_leastFreeOfLive_43 : decode M_S_leastFreeOfLive.2.1 43 = .ok (.iload_n 1, 1) := by decide +kernel
theorem d_S_leastFreeOfLive_44 : decode M_S_leastFreeOfLive.2.1 44 = .ok (.ireturn, 1) := by decide +kernel
theorem d_S_liveHolders_0 : decode M_S_liveHolders.2.1 0 = .ok (.iconst 0, 1) := by decide +kernel
theorem d_S_liveHolders_1 : decode M_S_liveHolders.2.1 1 = .ok (.istore_n 3, 1) := by decide +kernel
theorem d_S_liveHolders_2 : decode M_S_liveHolders.2.1 2 = .ok (.iconst 0, 1) := by decide +kernel
theorem d_S_liveHolders_3 : decode M_S_liveHolders.2.1 3 = .ok (.istore 4, 2) := by decide +kernel
theorem d_S_liveHolders_5 : decode M_S_liveHolders.2.1 5 = .ok (.iload 4, 2) := by decide +kernel
theorem d_S_liveHolders_7 : decode M_S_liveHolders.2.1 7 = .ok (.bipush 12, 2) := by decide +kernel
theorem d_S_liveHolders_9 : decode M_S_liveHolders.2.1 9 = .ok (.if_icmp .ge 23, 3) := by decide +kernel
theorem d_S_liveHolders_12 : decode M_S_liveHolders.2.1 12 = .ok (.aload_n 0, 1) := by decide +kernel
theorem d_S_liveHolders_13 : decode M_S_liveHolders.2.1 13 = .ok (.iload 4, 2) := by decide +kernel
theorem d_S_liveHolders_15 : decode M_S_liveHolders.2.1 15 = .ok (.iload_n 1, 1) := by decide +kernel
theorem d_S_liveHolders_16 : decode M_S_liveHolders.2.1 16 = .ok (.iload_n 2, 1) := by decide +kernel
theorem d_S_liveHolders_17 : decode M_S_liveHolders.2.1 17 = .ok (.invokevirtual 159, 3) := by decide +kernel
theorem d_S_liveHolders_20 : decode M_S_liveHolders.2.1 20 = .ok (.ifCond .eq 6, 3) := by decide +kernel
theorem d_S_liveHolders_23 : decode M_S_liveHolders.2.1 23 = .ok (.iinc 3 1, 3) := by decide +kernel
theorem d_S_liveHolders_26 : decode M_S_liveHolders.2.1 26 = .ok (.iinc 4 1, 3) := by decide +kernel
theorem d_S_liveHolders_29 : decode M_S_liveHolders.2.1 29 = .ok (.goto (-24), 3) := by decide +kernel
theorem d_S_liveHolders_32 : decode M_S_liveHolders.2.1 32 = .ok (.iload_n 3, 1) := by decide +kernel
theorem d_S_liveHolders_33 : decode M_S_liveHolders.2.1 33 = .ok (.ireturn, 1) := by decide +kernel
theorem d_S_liveNodes_0 : decode M_S_liveNodes.2.1 0 = .ok (.iconst 0, 1) := by decide +kernel
theorem d_S_liveNodes_1 : decode M_S_liveNodes.2.1 1 = .ok (.istore_n 1, 1) := by decide +kernel
theorem d_S_liveNodes_2 : decode M_S_liveNodes.2.1 2 = .ok (.iconst 0, 1) := by decide +kernel
theorem d_S_liveNodes_3 : decode M_S_liveNodes.2.1 3 = .ok (.istore_n 2, 1) := by decide +kernel
theorem d_S_liveNodes_4 : decode M_S_liveNodes.2.1 4 = .ok (.iload_n 2, 1) := by decide +kernel
theorem d_S_liveNodes_5 : decode M_S_liveNodes.2.1 5 = .ok (.bipush 12, 2) := by decide +kernel
theorem d_S_liveNodes_7 : decode M_S_liveNodes.2.1 7 = .ok (.if_icmp .ge 24, 3) := by decide +kernel
theorem d_S_liveNodes_10 : decode M_S_liveNodes.2.1 10 = .ok (.aload_n 0, 1) := by decide +kernel
theorem d_S_liveNodes_11 : decode M_S_liveNodes.2.1 11 = .ok (.getfield 18, 3) := by decide +kernel
theorem d_S_liveNodes_14 : decode M_S_liveNodes.2.1 14 = .ok (.iload_n 2, 1) := by decide +kernel
theorem d_S_liveNodes_15 : decode M_S_liveNodes.2.1 15 = .ok (.aaload, 1) := by decide +kernel
theorem d_S_liveNodes_16 : decode M_S_liveNodes.2.1 16 = .ok (.getfield 103, 3) := by decide +kernel
theorem d_S_liveNodes_19 : decode M_S_liveNodes.2.1 19 = .ok (.ifCond .eq 6, 3) := by decide +kernel
theorem d_S_liveNodes_22 : decode M_S_liveNodes.2.1 22 = .ok (.iinc 1 1, 3) := by decide +kernel
theorem d_S_liveNodes_25 : decode M_S_liveNodes.2.1 25 = .ok (.iinc 2 1, 3) := by decide +kernel
theorem d_S_liveNodes_28 : decode M_S_liveNodes.2.1 28 = .ok (.goto (-24), 3) := by decide +kernel
theorem d_S_liveNodes_31 : decode M_S_liveNodes.2.1 31 = .ok (.iload_n 1, 1) := by decide +kernel
theorem d_S_liveNodes_32 : decode M_S_liveNodes.2.1 32 = .ok (.ireturn, 1) := by decide +kernel
theorem d_S_newestBytes_0 : decode M_S_newestBytes.2.1 0 = .ok (.aload_n 0, 1) := by decide +kernel
theorem d_S_newestBytes_1 : decode M_S_newestBytes.2.1 1 = .ok (.iload_n 1, 1) := by decide +kernel
theorem d_S_newestBytes_2 : decode M_S_newestBytes.2.1 2 = .ok (.invokevirtual 134, 3) := by decide +kernel
theorem d_S_newestBytes_5 : decode M_S_newestBytes.2.1 5 = .ok (.istore_n 2, 1) := by decide +kernel
theorem d_S_newestBytes_6 : decode M_S_newestBytes.2.1 6 = .ok (.iconst 0, 1) := by decide +kernel
theorem d_S_newestBytes_7 : decode M_S_newestBytes.2.1 7 = .ok (.istore_n 3, 1) := by decide +kernel
theorem d_S_newestBytes_8 : decode M_S_newestBytes.2.1 8 = .ok (.iload_n 3, 1) := by decide +kernel
theorem d_S_newestBytes_9 : decode M_S_newestBytes.2.1 9 = .ok (.bipush 12, 2) := by decide +kernel
theorem d_S_newestBytes_11 : decode M_S_newestBytes.2.1 11 = .ok (.if_icmp .ge 34, 3) := by decide +kernel
theorem d_S_newestBytes_14 : decode M_S_newestBytes.2.1 14 = .ok (.aload_n 0, 1) := by decide +kernel
theorem d_S_newestBytes_15 : decode M_S_newestBytes.2.1 15 = .ok (.iload_n 3, 1) := by decide +kernel
theorem d_S_newestBytes_16 : decode M_S_newestBytes.2.1 16 = .ok (.iload_n 1, 1) := by decide +kernel
theorem d_S_newestBytes_17 : decode M_S_newestBytes.2.1 17 = .ok (.iload_n 2, 1) := by decide +kernel
theorem d_S_newestBytes_18 : decode M_S_newestBytes.2.1 18 = .ok (.invokevirtual 159, 3) := by decide +kernel
theorem d_S_newestBytes_21 : decode M_S_newestBytes.2.1 21 = .ok (.ifCond .eq 18, 3) := by decide +kernel
theorem d_S_newestBytes_24 : decode M_S_newestBytes.2.1 24 = .ok (.aload_n 0, 1) := by decide +kernel
theorem d_S_newestBytes_25 : decode M_S_newestBytes.2.1 25 = .ok (.getfield 18, 3) := by decide +kernel
theorem d_S_newestBytes_28 : decode M_S_newestBytes.2.1 28 = .ok (.iload_n 3, 1) := by decide +kernel
theorem d_S_newestBytes_29 : decode M_S_newestBytes.2.1 29 = .ok (.aaload, 1) := by decide +kernel
theorem d_S_newestBytes_30 : decode M_S_newestBytes.2.1 30 = .ok (.getfield 173, 3) := by decide +kernel
theorem d_S_newestBytes_33 : decode M_S_newestBytes.2.1 33 = .ok (.iload_n 1, 1) := by decide +kernel
theorem d_S_newestBytes_34 : decode M_S_newestBytes.2.1 34 = .ok (.aaload, 1) := by decide +kernel
theorem d_S_newestBytes_35 : decode M_S_newestBytes.2.1 35 = .ok (.getfield 201, 3) := by decide +kernel
theorem d_S_newestBytes_38 : decode M_S_newestBytes.2.1 38 = .ok (.ireturn, 1) := by decide +kernel
theorem d_S_newestBytes_39 : decode M_S_newestBytes.2.1 39 = .ok (.iinc 3 1, 3) := by decide +kernel
theorem d_S_newestBytes_42 : decode M_S_newestBytes.2.1 42 = .ok (.goto (-34), 3) := by decide +kernel
theorem d_S_newestBytes_45 : decode M_S_newestBytes.2.1 45 = .ok (.iconst 0, 1) := by decide +kernel
theorem d_S_newestBytes_46 : decode M_S_newestBytes.2.1 46 = .ok (.ireturn, 1) := by decide +kernel
theorem d_S_newestOf_0 : decode M_S_newestOf.2.1 0 = .ok (.iconst 0, 1) := by decide +kernel
theorem d_S_newestOf_1 : decode M_S_newestOf.2.1 1 = .ok (.istore_n 2, 1) := by decide +kernel
theorem d_S_newestOf_2 : decode M_S_newestOf.2.1 2 = .ok (.iconst 0, 1) := by decide +kernel
theorem d_S_newestOf_3 : decode M_S_newestOf.2.1 3 = .ok (.istore_n 3, 1) := by decide +kernel
theorem d_S_newestOf_4 : decode M_S_newestOf.2.1 4 = .ok (.iload_n 3, 1) := by decide +kernel
theorem d_S_newestOf_5 : decode M_S_newestOf.2.1 5 = .ok (.bipush 12, 2) := by decide +kernel
theorem d_S_newestOf_7 : decode M_S_newestOf.2.1 7 = .ok (.if_icmp .ge 45, 3) := by decide +kernel
theorem d_S_newestOf_10 : decode M_S_newestOf.2.1 10 = .ok (.aload_n 0, 1) := by decide +kernel
theorem d_S_newestOf_11 : decode M_S_newestOf.2.1 11 = .ok (.getfield 18, 3) := by decide +kernel
theorem d_S_newestOf_14 : decode M_S_newestOf.2.1 14 = .ok (.iload_n 3, 1) := by decide +kernel
theorem d_S_newestOf_15 : decode M_S_newestOf.2.1 15 = .ok (.aaload, 1) := by decide +kernel
theorem d_S_newestOf_16 : decode M_S_newestOf.2.1 16 = .ok (.getfield 173, 3) := by decide +kernel
theorem d_S_newestOf_19 : decode M_S_newestOf.2.1 19 = .ok (.iload_n 1, 1) := by decide +kernel
theorem d_S_newestOf_20 : decode M_S_newestOf.2.1 20 = .ok (.aaload, 1) := by decide +kernel
theorem d_S_newestOf_21 : decode M_S_newestOf.2.1 21 = .ok (.getfield 111, 3) := by decide +kernel
theorem d_S_newestOf_24 : decode M_S_newestOf.2.1 24 = .ok (.istore 4, 2) := by decide +kernel
theorem d_S_newestOf_26 : decode M_S_newestOf.2.1 26 = .ok (.iload 4, 2) := by decide +kernel
theorem d_S_newestOf_28 : decode M_S_newestOf.2.1 28 = .ok (.iload_n 2, 1) := by decide +kernel
theorem d_S_newestOf_29 : decode M_S_newestOf.2.1 29 = .ok (.if_icmp .le 17, 3) := by decide +kernel
theorem d_S_newestOf_32 : decode M_S_newestOf.2.1 32 = .ok (.aload_n 0, 1) := by decide +kernel
theorem d_S_newestOf_33 : decode M_S_newestOf.2.1 33 = .ok (.iload_n 1, 1) := by decide +kernel
theorem d_S_newestOf_34 : decode M_S_newestOf.2.1 34 = .ok (.iload 4, 2) := by decide +kernel
theorem d_S_newestOf_36 : decode M_S_newestOf.2.1 36 = .ok (.invokevirtual 198, 3) := by decide +kernel
theorem d_S_newestOf_39 : decode M_S_newestOf.2.1 39 = .ok (.iconst 5, 1) := by decide +kernel
theorem d_S_newestOf_40 : decode M_S_newestOf.2.1 40 = .ok (.if_icmp .lt 6, 3) := by decide +kernel
theorem d_S_newestOf_43 : decode M_S_newestOf.2.1 43 = .ok (.iload 4, 2) := by decide +kernel
theorem d_S_newestOf_45 : decode M_S_newestOf.2.1 45 = .ok (.istore_n 2, 1) := by decide +kernel
theorem d_S_newestOf_46 : decode M_S_newestOf.2.1 46 = .ok (.iinc 3 1, 3) := by decide +kernel
theorem d_S_newestOf_49 : decode M_S_newestOf.2.1 49 = .ok (.goto (-45), 3) := by decide +kernel
theorem d_S_newestOf_52 : decode M_S_newestOf.2.1 52 = .ok (.iload_n 2, 1) := by decide +kernel
theorem d_S_newestOf_53 : decode M_S_newestOf.2.1 53 = .ok (.ireturn, 1) := by decide +kernel
theorem d_S_open_0 : decode M_S_open.2.1 0 = .ok (.iload_n 1, 1) := by decide +kernel
theorem d_S_open_1 : decode M_S_open.2.1 1 = .ok (.invokestatic 82, 3) := by decide +kernel
theorem d_S_open_4 : decode M_S_open.2.1 4 = .ok (.ifCond .ne 6, 3) := by decide +kernel
theorem d_S_open_7 : decode M_S_open.2.1 7 = .ok (.bipush (-2), 2) := by decide +kernel
theorem d_S_open_9 : decode M_S_open.2.1 9 = .ok (.ireturn, 1) := by decide +kernel
theorem d_S_open_10 : decode M_S_open.2.1 10 = .ok (.aload_n 0, 1) := by decide +kernel
theorem d_S_open_11 : decode M_S_open.2.1 11 = .ok (.getfield 26, 3) := by decide +kernel
theorem d_S_open_14 : decode M_S_open.2.1 14 = .ok (.iload_n 1, 1) := by decide +kernel
theorem d_S_open_15 : decode M_S_open.2.1 15 = .ok (.baload, 1) := by decide +kernel
theorem d_S_open_16 : decode M_S_open.2.1 16 = .ok (.ifCond .eq 7, 3) := by decide +kernel
theorem d_S_open_19 : decode M_S_open.2.1 19 = .ok (.iconst 1, 1) := by decide +kernel
theorem d_S_open_20 : decode M_S_open.2.1 20 = .ok (.goto 4, 3) := by decide +kernel
theorem d_S_open_23 : decode M_S_open.2.1 23 = .ok (.iconst 0, 1) := by decide +kernel
theorem d_S_open_24 : decode M_S_open.2.1 24 = .ok (.ireturn, 1) := by decide +kernel
theorem d_S_openObjects_0 : decode M_S_openObjects.2.1 0 = .ok (.iconst 0, 1) := by decide +kernel
theorem d_S_openObjects_1 : decode M_S_openObjects.2.1 1 = .ok (.istore_n 1, 1) := by decide +kernel
theorem d_S_openObjects_2 : decode M_S_openObjects.2.1 2 = .ok (.iconst 0, 1) := by decide +kernel
theorem d_S_openObjects_3 : decode M_S_openObjects.2.1 3 = .ok (.istore_n 2, 1) := by decide +kernel
theorem d_S_openObjects_4 : decode M_S_openObjects.2.1 4 = .ok (.iload_n 2, 1) := by decide +kernel
theorem d_S_openObjects_5 : decode M_S_openObjects.2.1 5 = .ok (.bipush 6, 2) := by decide +kernel
theorem d_S_openObjects_7 : decode M_S_openObjects.2.1 7 = .ok (.if_icmp .ge 21, 3) := by decide +kernel
theorem d_S_openObjects_10 : decode M_S_openObjects.2.1 10 = .ok (.aload_n 0, 1) := by decide +kernel
theorem d_S_openObjects_11 : decode M_S_openObjects.2.1 11 = .ok (.getfield 26, 3) := by decide +kernel
theorem d_S_openObjects_14 : decode M_S_openObjects.2.1 14 = .ok (.iload_n 2, 1) := by decide +kernel
theorem d_S_openObjects_15 : decode M_S_openObjects.2.1 15 = .ok (.baload, 1) := by decide +kernel
theorem d_S_openObjects_16 : decode M_S_openObjects.2.1 16 = .ok (.ifCond .eq 6, 3) := by decide +kernel
theorem d_S_openObjects_19 : decode M_S_openObjects.2.1 19 = .ok (.iinc 1 1, 3) := by decide +kernel
theorem d_S_openObjects_22 : decode M_S_openObjects.2.1 22 = .ok (.iinc 2 1, 3) := by decide +kernel
theorem d_S_openObjects_25 : decode M_S_openObjects.2.1 25 = .ok (.goto (-21), 3) := by decide +kernel
theorem d_S_openObjects_28 : decode M_S_openObjects.2.1 28 = .ok (.iload_n 1, 1) := by decide +kernel
theorem d_S_openObjects_29 : decode M_S_openObjects.2.1 29 = .ok (.ireturn, 1) := by decide +kernel
theorem d_S_over_0 : decode M_S_over.2.1 0 = .ok (.iload_n 1, 1) := by decide +kernel
theorem d_S_over_1 : decode M_S_over.2.1 1 = .ok (.invokestatic 59, 3) := by decide +kernel
theorem d_S_over_4 : decode M_S_over.2.1 4 = .ok (.ifCond .eq 10, 3) := by decide +kernel
theorem d_S_over_7 : decode M_S_over.2.1 7 = .ok (.iload_n 2, 1) := by decide +kernel
theorem d_S_over_8 : decode M_S_over.2.1 8 = .ok (.invokestatic 59, 3) := by decide +kernel
theorem d_S_over_11 : decode M_S_over.2.1 11 = .ok (.ifCond .ne 6, 3) := by decide +kernel
theorem d_S_over_14 : decode M_S_over.2.1 14 = .ok (.bipush (-2), 2) := by decide +kernel
theorem d_S_over_16 : decode M_S_over.2.1 16 = .ok (.ireturn, 1) := by decide +kernel
theorem d_S_over_17 : decode M_S_over.2.1 17 = .ok (.iload_n 2, 1) := by decide +kernel
theorem d_S_over_18 : decode M_S_over.2.1 18 = .ok (.ifCond .ne 8, 3) := by decide +kernel
theorem d_S_over_21 : decode M_S_over.2.1 21 = .ok (.bipush (-7), 2) := by decide +kernel
theorem d_S_over_23 : decode M_S_over.2.1 23 = .ok (.goto 15, 3) := by decide +kernel
theorem d_S_over_26 : decode M_S_over.2.1 26 = .ok (.aload_n 0, 1) := by decide +kernel
theorem d_S_over_27 : decode M_S_over.2.1 27 = .ok (.getfield 10, 3) := by decide +kernel
theorem d_S_over_30 : decode M_S_over.2.1 30 = .ok (.getfield 63, 3) := by decide +kernel
theorem d_S_over_33 : decode M_S_over.2.1 33 = .ok (.iload_n 1, 1) := by decide +kernel
theorem d_S_over_34 : decode M_S_over.2.1 34 = .ok (.iload_n 2, 1) := by decide +kernel
theorem d_S_over_35 : decode M_S_over.2.1 35 = .ok (.invokevirtual 73, 3) := by decide +kernel
theorem d_S_over_38 : decode M_S_over.2.1 38 = .ok (.ireturn, 1) := by decide +kernel
theorem d_S_put_0 : decode M_S_put.2.1 0 = .ok (.iload_n 1, 1) := by decide +kernel
theorem d_S_put_1 : decode M_S_put.2.1 1 = .ok (.invokestatic 82, 3) := by decide +kernel
theorem d_S_put_4 : decode M_S_put.2.1 4 = .ok (.ifCond .ne 6, 3) := by decide +kernel
theorem d_S_put_7 : decode M_S_put.2.1 7 = .ok (.bipush (-2), 2) := by decide +kernel
theorem d_S_put_9 : decode M_S_put.2.1 9 = .ok (.ireturn, 1) := by decide +kernel
theorem d_S_put_10 : decode M_S_put.2.1 10 = .ok (.aload_n 0, 1) := by decide +kernel
theorem d_S_put_11 : decode M_S_put.2.1 11 = .ok (.getfield 26, 3) := by decide +kernel
theorem d_S_put_14 : decode M_S_put.2.1 14 = .ok (.iload_n 1, 1) := by decide +kernel
theorem d_S_put_15 : decode M_S_put.2.1 15 = .ok (.baload, 1) := by decide +kernel
theorem d_S_put_16 : decode M_S_put.2.1 16 = .ok (.ifCond .eq 6, 3) := by decide +kernel
theorem d_S_put_19 : decode M_S_put.2.1 19 = .ok (.bipush (-3), 2) := by decide +kernel
theorem d_S_put_21 : decode M_S_put.2.1 21 = .ok (.ireturn, 1) := by decide +kernel
theorem d_S_put_22 : decode M_S_put.2.1 22 = .ok (.aload_n 0, 1) := by decide +kernel
theorem d_S_put_23 : decode M_S_put.2.1 23 = .ok (.invokevirtual 85, 3) := by decide +kernel
theorem d_S_put_26 : decode M_S_put.2.1 26 = .ok (.bipush 9, 2) := by decide +kernel
theorem d_S_put_28 : decode M_S_put.2.1 28 = .ok (.if_icmp .ge 6, 3) := by decide +kernel
theorem d_S_put_31 : decode M_S_put.2.1 31 = .ok (.bipush (-4), 2) := by decide +kernel
theorem d_S_put_33 : decode M_S_put.2.1 33 = .ok (.ireturn, 1) := by decide +kernel
theorem d_S_put_34 : decode M_S_put.2.1 34 = .ok (.aload_n 0, 1) := by decide +kernel
theorem d_S_put_35 : decode M_S_put.2.1 35 = .ok (.invokevirtual 89, 3) := by decide +kernel
theorem d_S_put_38 : decode M_S_put.2.1 38 = .ok (.aload_n 0, 1) := by decide +kernel
theorem d_S_put_39 : decode M_S_put.2.1 39 = .ok (.getfield 33, 3) := by decide +kernel
theorem d_S_put_42 : decode M_S_put.2.1 42 = .ok (.invokestatic 92, 3) := by decide +kernel
theorem d_S_put_45 : decode M_S_put.2.1 45 = .ok (.if_icmp .ge 6, 3) := by decide +kernel
theorem d_S_put_48 : decode M_S_put.2.1 48 = .ok (.bipush (-5), 2) := by decide +kernel
theorem d_S_put_50 : decode M_S_put.2.1 50 = .ok (.ireturn, 1) := by decide +kernel
theorem d_S_put_51 : decode M_S_put.2.1 51 = .ok (.aload_n 0, 1) := by decide +kernel
theorem d_S_put_52 : decode M_S_put.2.1 52 = .ok (.getfield 33, 3) := by decide +kernel
theorem d_S_put_55 : decode M_S_put.2.1 55 = .ok (.ifCond .ne 6, 3) := by decide +kernel
theorem d_S_put_58 : decode M_S_put.2.1 58 = .ok (.bipush (-6), 2) := by decide +kernel
theorem d_S_put_60 : decode M_S_put.2.1 60 = .ok (.ireturn, 1) := by decide +kernel
theorem d_S_put_61 : decode M_S_put.2.1 61 = .ok (.aload_n 0, 1) := by decide +kernel
theorem d_S_put_62 : decode M_S_put.2.1 62 = .ok (.iload_n 1, 1) := by decide +kernel
theorem d_S_put_63 : decode M_S_put.2.1 63 = .ok (.aload_n 0, 1) := by decide +kernel
theorem d_S_put_64 : decode M_S_put.2.1 64 = .ok (.getfield 33, 3) := by decide +kernel
theorem d_S_put_67 : decode M_S_put.2.1 67 = .ok (.invokevirtual 96, 3) := by decide +kernel
theorem d_S_put_70 : decode M_S_put.2.1 70 = .ok (.istore_n 2, 1) := by decide +kernel
theorem d_S_put_71 : decode M_S_put.2.1 71 = .ok (.aload_n 0, 1) := by decide +kernel
theorem d_S_put_72 : decode M_S_put.2.1 72 = .ok (.iconst 0, 1) := by decide +kernel
theorem d_S_put_73 : decode M_S_put.2.1 73 = .ok (.putfield 33, 3) := by decide +kernel
theorem d_S_put_76 : decode M_S_put.2.1 76 = .ok (.iload_n 2, 1) := by decide +kernel
theorem d_S_put_77 : decode M_S_put.2.1 77 = .ok (.ireturn, 1) := by decide +kernel
theorem d_S_rebuild_0 : decode M_S_rebuild.2.1 0 = .ok (.iload_n 1, 1) := by decide +kernel
theorem d_S_rebuild_1 : decode M_S_rebuild.2.1 1 = .ok (.invokestatic 76, 3) := by decide +kernel
theorem d_S_rebuild_4 : decode M_S_rebuild.2.1 4 = .ok (.ifCond .ne 6, 3) := by decide +kernel
theorem d_S_rebuild_7 : decode M_S_rebuild.2.1 7 = .ok (.bipush (-2), 2) := by decide +kernel
theorem d_S_rebuild_9 : decode M_S_rebuild.2.1 9 = .ok (.ireturn, 1) := by decide +kernel
theorem d_S_rebuild_10 : decode M_S_rebuild.2.1 10 = .ok (.aload_n 0, 1) := by decide +kernel
theorem d_S_rebuild_11 : decode M_S_rebuild.2.1 11 = .ok (.getfield 18, 3) := by decide +kernel
theorem d_S_rebuild_14 : decode M_S_rebuild.2.1 14 = .ok (.iload_n 1, 1) := by decide +kernel
theorem d_S_rebuild_15 : decode M_S_rebuild.2.1 15 = .ok (.aaload, 1) := by decide +kernel
theorem d_S_rebuild_16 : decode M_S_rebuild.2.1 16 = .ok (.getfield 103, 3) := by decide +kernel
theorem d_S_rebuild_19 : decode M_S_rebuild.2.1 19 = .ok (.ifCond .ne 6, 3) := by decide +kernel
theorem d_S_rebuild_22 : decode M_S_rebuild.2.1 22 = .ok (.bipush (-3), 2) := by decide +kernel
theorem d_S_rebuild_24 : decode M_S_rebuild.2.1 24 = .ok (.ireturn, 1) := by decide +kernel
theorem d_S_rebuild_25 : decode M_S_rebuild.2.1 25 = .ok (.aload_n 0, 1) := by decide +kernel
theorem d_S_rebuild_26 : decode M_S_rebuild.2.1 26 = .ok (.iload_n 1, 1) := by decide +kernel
theorem d_S_rebuild_27 : decode M_S_rebuild.2.1 27 = .ok (.iload_n 2, 1) := by decide +kernel
theorem d_S_rebuild_28 : decode M_S_rebuild.2.1 28 = .ok (.invokevirtual 146, 3) := by decide +kernel
theorem d_S_rebuild_31 : decode M_S_rebuild.2.1 31 = .ok (.ifCond .eq 6, 3) := by decide +kernel
theorem d_S_rebuild_34 : decode M_S_rebuild.2.1 34 = .ok (.bipush (-4), 2) := by decide +kernel
theorem d_S_rebuild_36 : decode M_S_rebuild.2.1 36 = .ok (.ireturn, 1) := by decide +kernel
theorem d_S_rebuild_37 : decode M_S_rebuild.2.1 37 = .ok (.aload_n 0, 1) := by decide +kernel
theorem d_S_rebuild_38 : decode M_S_rebuild.2.1 38 = .ok (.iload_n 1, 1) := by decide +kernel
theorem d_S_rebuild_39 : decode M_S_rebuild.2.1 39 = .ok (.invokevirtual 149, 3) := by decide +kernel
theorem d_S_rebuild_42 : decode M_S_rebuild.2.1 42 = .ok (.ifCond .eq 6, 3) := by decide +kernel
theorem d_S_rebuild_45 : decode M_S_rebuild.2.1 45 = .ok (.bipush (-5), 2) := by decide +kernel
theorem d_S_rebuild_47 : decode M_S_rebuild.2.1 47 = .ok (.ireturn, 1) := by decide +kernel
theorem d_S_rebuild_48 : decode M_S_rebuild.2.1 48 = .ok (.aload_n 0, 1) := by decide +kernel
theorem d_S_rebuild_49 : decode M_S_rebuild.2.1 49 = .ok (.getfield 49, 3) := by decide +kernel
theorem d_S_rebuild_52 : decode M_S_rebuild.2.1 52 = .ok (.istore_n 3, 1) := by decide +kernel
theorem d_S_rebuild_53 : decode M_S_rebuild.2.1 53 = .ok (.iconst 0, 1) := by decide +kernel
theorem d_S_rebuild_54 : decode M_S_rebuild.2.1 54 = .ok (.istore 4, 2) := by decide +kernel
theorem d_S_rebuild_56 : decode M_S_rebuild.2.1 56 = .ok (.iload 4, 2) := by decide +kernel
theorem d_S_rebuild_58 : decode M_S_rebuild.2.1 58 = .ok (.bipush 6, 2) := by decide +kernel
theorem d_S_rebuild_60 : decode M_S_rebuild.2.1 60 = .ok (.if_icmp .ge 27, 3) := by decide +kernel
theorem d_S_rebuild_63 : decode M_S_rebuild.2.1 63 = .ok (.aload_n 0, 1) := by decide +kernel
theorem d_S_rebuild_64 : decode M_S_rebuild.2.1 64 = .ok (.iload_n 1, 1) := by decide +kernel
theorem d_S_rebuild_65 : decode M_S_rebuild.2.1 65 = .ok (.iload 4, 2) := by decide +kernel
theorem d_S_rebuild_67 : decode M_S_rebuild.2.1 67 = .ok (.invokevirtual 152, 3) := by decide +kernel
theorem d_S_rebuild_70 : decode M_S_rebuild.2.1 70 = .ok (.ifCond .eq 11, 3) := by decide +kernel
theorem d_S_rebuild_73 : decode M_S_rebuild.2.1 73 = .ok (.aload_n 0, 1) := by decide +kernel
theorem d_S_rebuild_74 : decode M_S_rebuild.2.1 74 = .ok (.iload_n 1, 1) := by decide +kernel
theorem d_S_rebuild_75 : decode M_S_rebuild.2.1 75 = .ok (.iload 4, 2) := by decide +kernel
theorem d_S_rebuild_77 : decode M_S_rebuild.2.1 77 = .ok (.iload_n 2, 1) := by decide +kernel
theorem d_S_rebuild_78 : decode M_S_rebuild.2.1 78 = .ok (.invokevirtual 155, 3) := by decide +kernel
theorem d_S_rebuild_81 : decode M_S_rebuild.2.1 81 = .ok (.iinc 4 1, 3) := by decide +kernel
theorem d_S_rebuild_84 : decode M_S_rebuild.2.1 84 = .ok (.goto (-28), 3) := by decide +kernel
theorem d_S_rebuild_87 : decode M_S_rebuild.2.1 87 = .ok (.aload_n 0, 1) := by decide +kernel
theorem d_S_rebuild_88 : decode M_S_rebuild.2.1 88 = .ok (.getfield 49, 3) := by decide +kernel
theorem d_S_rebuild_91 : decode M_S_rebuild.2.1 91 = .ok (.iload_n 3, 1) := by decide +kernel
theorem d_S_rebuild_92 : decode M_S_rebuild.2.1 92 = .ok (.isub, 1) := by decide +kernel
theorem d_S_rebuild_93 : decode M_S_rebuild.2.1 93 = .ok (.ireturn, 1) := by decide +kernel
theorem d_S_record_0 : decode M_S_record.2.1 0 = .ok (.iload_n 1, 1) := by decide +kernel
theorem d_S_record_1 : decode M_S_record.2.1 1 = .ok (.invokestatic 76, 3) := by decide +kernel
theorem d_S_record_4 : decode M_S_record.2.1 4 = .ok (.ifCond .eq 20, 3) := by decide +kernel
theorem d_S_record_7 : decode M_S_record.2.1 7 = .ok (.iload_n 2, 1) := by decide +kernel
theorem d_S_record_8 : decode M_S_record.2.1 8 = .ok (.invokestatic 82, 3) := by decide +kernel
theorem d_S_record_11 : decode M_S_record.2.1 11 = .ok (.ifCond .eq 13, 3) := by decide +kernel
theorem d_S_record_14 : decode M_S_record.2.1 14 = .ok (.iload_n 3, 1) := by decide +kernel
theorem d_S_record_15 : decode M_S_record.2.1 15 = .ok (.ifCond .lt 9, 3) := by decide +kernel
theorem d_S_record_18 : decode M_S_record.2.1 18 = .ok (.iload_n 3, 1) := by decide +kernel
theorem d_S_record_19 : decode M_S_record.2.1 19 = .ok (.bipush 6, 2) := by decide +kernel
theorem d_S_record_21 : decode M_S_record.2.1 21 = .ok (.if_icmp .lt 6, 3) := by decide +kernel
theorem d_S_record_24 : decode M_S_record.2.1 24 = .ok (.bipush (-2), 2) := by decide +kernel
theorem d_S_record_26 : decode M_S_record.2.1 26 = .ok (.ireturn, 1) := by decide +kernel
theorem d_S_record_27 : decode M_S_record.2.1 27 = .ok (.aload_n 0, 1) := by decide +kernel
theorem d_S_record_28 : decode M_S_record.2.1 28 = .ok (.getfield 18, 3) := by decide +kernel
theorem d_S_record_31 : decode M_S_record.2.1 31 = .ok (.iload_n 1, 1) := by decide +kernel
theorem d_S_record_32 : decode M_S_record.2.1 32 = .ok (.aaload, 1) := by decide +kernel
theorem d_S_record_33 : decode M_S_record.2.1 33 = .ok (.iload_n 2, 1) := by decide +kernel
theorem d_S_record_34 : decode M_S_record.2.1 34 = .ok (.iload_n 3, 1) := by decide +kernel
theorem d_S_record_35 : decode M_S_record.2.1 35 = .ok (.invokestatic 166, 3) := by decide +kernel
theorem d_S_record_38 : decode M_S_record.2.1 38 = .ok (.ireturn, 1) := by decide +kernel
theorem d_S_recordNumber_0 : decode M_S_recordNumber.2.1 0 = .ok (.iload_n 2, 1) := by decide +kernel
theorem d_S_recordNumber_1 : decode M_S_recordNumber.2.1 1 = .ok (.iconst 3, 1) := by decide +kernel
theorem d_S_recordNumber_2 : decode M_S_recordNumber.2.1 2 = .ok (.if_icmp .lt 7, 3) := by decide +kernel
theorem d_S_recordNumber_5 : decode M_S_recordNumber.2.1 5 = .ok (.iconst 1, 1) := by decide +kernel
theorem d_S_recordNumber_6 : decode M_S_recordNumber.2.1 6 = .ok (.goto 4, 3) := by decide +kernel
theorem d_S_recordNumber_9 : decode M_S_recordNumber.2.1 9 = .ok (.iconst 0, 1) := by decide +kernel
theorem d_S_recordNumber_10 : decode M_S_recordNumber.2.1 10 = .ok (.istore_n 3, 1) := by decide +kernel
theorem d_S_recordNumber_11 : decode M_S_recordNumber.2.1 11 = .ok (.iload_n 3, 1) := by decide +kernel
theorem d_S_recordNumber_12 : decode M_S_recordNumber.2.1 12 = .ok (.ifCond .eq 12, 3) := by decide +kernel
theorem d_S_recordNumber_15 : decode M_S_recordNumber.2.1 15 = .ok (.aload_n 0, 1) := by decide +kernel
theorem d_S_recordNumber_16 : decode M_S_recordNumber.2.1 16 = .ok (.getfield 107, 3) := by decide +kernel
theorem d_S_recordNumber_19 : decode M_S_recordNumber.2.1 19 = .ok (.iload_n 1, 1) := by decide +kernel
theorem d_S_recordNumber_20 : decode M_S_recordNumber.2.1 20 = .ok (.aaload, 1) := by decide +kernel
theorem d_S_recordNumber_21 : decode M_S_recordNumber.2.1 21 = .ok (.goto 9, 3) := by decide +kernel
theorem d_S_recordNumber_24 : decode M_S_recordNumber.2.1 24 = .ok (.aload_n 0, 1) := by decide +kernel
theorem d_S_recordNumber_25 : decode M_S_recordNumber.2.1 25 = .ok (.getfield 173, 3) := by decide +kernel
theorem d_S_recordNumber_28 : decode M_S_recordNumber.2.1 28 = .ok (.iload_n 1, 1) := by decide +kernel
theorem d_S_recordNumber_29 : decode M_S_recordNumber.2.1 29 = .ok (.aaload, 1) := by decide +kernel
theorem d_S_recordNumber_30 : decode M_S_recordNumber.2.1 30 = .ok (.astore 4, 2) := by decide +kernel
theorem d_S_recordNumber_32 : decode M_S_recordNumber.2.1 32 = .ok (.aload 4, 2) := by decide +kernel
theorem d_S_recordNumber_34 : decode M_S_recordNumber.2.1 34 = .ok (.getfield 111, 3) := by decide +kernel
theorem d_S_recordNumber_37 : decode M_S_recordNumber.2.1 37 = .ok (.ifCond .ne 5, 3) := by decide +kernel
theorem d_S_recordNumber_40 : decode M_S_recordNumber.2.1 40 = .ok (.iconst (-1), 1) := by decide +kernel
theorem d_S_recordNumber_41 : decode M_S_recordNumber.2.1 41 = .ok (.ireturn, 1) := by decide +kernel
theorem d_S_recordNumber_42 : decode M_S_recordNumber.2.1 42 = .ok (.iload_n 3, 1) := by decide +kernel
theorem d_S_recordNumber_43 : decode M_S_recordNumber.2.1 43 = .ok (.ifCond .eq 9, 3) := by decide +kernel
theorem d_S_recordNumber_46 : decode M_S_recordNumber.2.1 46 = .ok (.iload_n 2, 1) := by decide +kernel
theorem d_S_recordNumber_47 : decode M_S_recordNumber.2.1 47 = .ok (.iconst 3, 1) := by decide +kernel
theorem d_S_recordNumber_48 : decode M_S_recordNumber.2.1 48 = .ok (.isub, 1) := by decide +kernel
theorem d_S_recordNumber_49 : decode M_S_recordNumber.2.1 49 = .ok (.goto 4, 3) := by decide +kernel
theorem d_S_recordNumber_52 : decode M_S_recordNumber.2.1 52 = .ok (.iload_n 2, 1) := by decide +kernel
theorem d_S_recordNumber_53 : decode M_S_recordNumber.2.1 53 = .ok (.istore 5, 2) := by decide +kernel
theorem d_S_recordNumber_55 : decode M_S_recordNumber.2.1 55 = .ok (.iload 5, 2) := by decide +kernel
theorem d_S_recordNumber_57 : decode M_S_recordNumber.2.1 57 = .ok (.ifCond .ne 9, 3) := by decide +kernel
theorem d_S_recordNumber_60 : decode M_S_recordNumber.2.1 60 = .ok (.aload 4, 2) := by decide +kernel
theorem d_S_recordNumber_62 : decode M_S_recordNumber.2.1 62 = .ok (.getfield 111, 3) := by decide +kernel
theorem d_S_recordNumber_65 : decode M_S_recordNumber.2.1 65 = .ok (.ireturn, 1) := by decide +kernel
theorem d_S_recordNumber_66 : decode M_S_recordNumber.2.1 66 = .ok (.iload 5, 2) := by decide +kernel
theorem d_S_recordNumber_68 : decode M_S_recordNumber.2.1 68 = .ok (.iconst 1, 1) := by decide +kernel
theorem d_S_recordNumber_69 : decode M_S_recordNumber.2.1 69 = .ok (.if_icmp .ne 11, 3) := by decide +kernel
theorem d_S_recordNumber_72 : decode M_S_recordNumber.2.1 72 = .ok (.aload 4, 2) := by decide +kernel
theorem d_S_recordNumber_74 : decode M_S_recordNumber.2.1 74 = .ok (.getfield 201, 3) := by decide +kernel
theorem d_S_recordNumber_77 : decode M_S_recordNumber.2.1 77 = .ok (.goto 8, 3) := by decide +kernel
theorem d_S_recordNumber_80 : decode M_S_recordNumber.2.1 80 = .ok (.aload 4, 2) := by decide +kernel
theorem d_S_recordNumber_82 : decode M_S_recordNumber.2.1 82 = .ok (.getfield 204, 3) := by decide +kernel
theorem d_S_recordNumber_85 : decode M_S_recordNumber.2.1 85 = .ok (.ireturn, 1) := by decide +kernel
theorem d_S_remove_0 : decode M_S_remove.2.1 0 = .ok (.iload_n 1, 1) := by decide +kernel
theorem d_S_remove_1 : decode M_S_remove.2.1 1 = .ok (.invokestatic 82, 3) := by decide +kernel
theorem d_S_remove_4 : decode M_S_remove.2.1 4 = .ok (.ifCond .ne 6, 3) := by decide +kernel
theorem d_S_remove_7 : decode M_S_remove.2.1 7 = .ok (.bipush (-2), 2) := by decide +kernel
theorem d_S_remove_9 : decode M_S_remove.2.1 9 = .ok (.ireturn, 1) := by decide +kernel
theorem d_S_remove_10 : decode M_S_remove.2.1 10 = .ok (.aload_n 0, 1) := by decide +kernel
theorem d_S_remove_11 : decode M_S_remove.2.1 11 = .ok (.getfield 26, 3) := by decide +kernel
theorem d_S_remove_14 : decode M_S_remove.2.1 14 = .ok (.iload_n 1, 1) := by decide +kernel
theorem d_S_remove_15 : decode M_S_remove.2.1 15 = .ok (.baload, 1) := by decide +kernel
theorem d_S_remove_16 : decode M_S_remove.2.1 16 = .ok (.ifCond .eq 6, 3) := by decide +kernel
theorem d_S_remove_19 : decode M_S_remove.2.1 19 = .ok (.bipush (-3), 2) := by decide +kernel
theorem d_S_remove_21 : decode M_S_remove.2.1 21 = .ok (.ireturn, 1) := by decide +kernel
theorem d_S_remove_22 : decode M_S_remove.2.1 22 = .ok (.aload_n 0, 1) := by decide +kernel
theorem d_S_remove_23 : decode M_S_remove.2.1 23 = .ok (.invokevirtual 85, 3) := by decide +kernel
theorem d_S_remove_26 : decode M_S_remove.2.1 26 = .ok (.bipush 9, 2) := by decide +kernel
theorem d_S_remove_28 : decode M_S_remove.2.1 28 = .ok (.if_icmp .ge 8, 3) := by decide +kernel
theorem d_S_remove_31 : decode M_S_remove.2.1 31 = .ok (.bipush (-4), 2) := by decide +kernel
theorem d_S_remove_33 : decode M_S_remove.2.1 33 = .ok (.goto 9, 3) := by decide +kernel
theorem d_S_remove_36 : decode M_S_remove.2.1 36 = .ok (.aload_n 0, 1) := by decide +kernel
theorem d_S_remove_37 : decode M_S_remove.2.1 37 = .ok (.iload_n 1, 1) := by decide +kernel
theorem d_S_remove_38 : decode M_S_remove.2.1 38 = .ok (.iconst 0, 1) := by decide +kernel
theorem d_S_remove_39 : decode M_S_remove.2.1 39 = .ok (.invokevirtual 96, 3) := by decide +kernel
theorem d_S_remove_42 : decode M_S_remove.2.1 42 = .ok (.ireturn, 1) := by decide +kernel
theorem d_S_renew_0 : decode M_S_renew.2.1 0 = .ok (.aload_n 0, 1) := by decide +kernel
theorem d_S_renew_1 : decode M_S_renew.2.1 1 = .ok (.iload_n 2, 1) := by decide +kernel
theorem d_S_renew_2 : decode M_S_renew.2.1 2 = .ok (.invokevirtual 134, 3) := by decide +kernel
theorem d_S_renew_5 : decode M_S_renew.2.1 5 = .ok (.istore 4, 2) := by decide +kernel
theorem d_S_renew_7 : decode M_S_renew.2.1 7 = .ok (.aload_n 0, 1) := by decide +kernel
theorem d_S_renew_8 : decode M_S_renew.2.1 8 = .ok (.iload_n 2, 1) := by decide +kernel
theorem d_S_renew_9 : decode M_S_renew.2.1 9 = .ok (.invokevirtual 127, 3) := by decide +kernel
theorem d_S_renew_12 : decode M_S_renew.2.1 12 = .ok (.istore 5, 2) := by decide +kernel
theorem d_S_renew_14 : decode M_S_renew.2.1 14 = .ok (.aload_n 0, 1) := by decide +kernel
theorem d_S_renew_15 : decode M_S_renew.2.1 15 = .ok (.getfield 18, 3) := by decide +kernel
theorem d_S_renew_18 : decode M_S_renew.2.1 18 = .ok (.iload_n 1, 1) := by decide +kernel
theorem d_S_renew_19 : decode M_S_renew.2.1 19 = .ok (.aaload, 1) := by decide +kernel
theorem d_S_renew_20 : decode M_S_renew.2.1 20 = .ok (.astore 6, 2) := by decide +kernel
theorem d_S_renew_22 : decode M_S_renew.2.1 22 = .ok (.aload 6, 2) := by decide +kernel
theorem d_S_renew_24 : decode M_S_renew.2.1 24 = .ok (.aload 6, 2) := by decide +kernel
theorem d_S_renew_26 : decode M_S_renew.2.1 26 = .ok (.getfield 173, 3) := by decide +kernel
theorem d_S_renew_29 : decode M_S_renew.2.1 29 = .ok (.iload_n 2, 1) := by decide +kernel
theorem d_S_renew_30 : decode M_S_renew.2.1 30 = .ok (.aaload, 1) := by decide +kernel
theorem d_S_renew_31 : decode M_S_renew.2.1 31 = .ok (.invokevirtual 120, 3) := by decide +kernel
theorem d_S_renew_34 : decode M_S_renew.2.1 34 = .ok (.aload 6, 2) := by decide +kernel
theorem d_S_renew_36 : decode M_S_renew.2.1 36 = .ok (.aload 6, 2) := by decide +kernel
theorem d_S_renew_38 : decode M_S_renew.2.1 38 = .ok (.getfield 173, 3) := by decide +kernel
theorem d_S_renew_41 : decode M_S_renew.2.1 41 = .ok (.iload_n 2, 1) := by decide +kernel
theorem d_S_renew_42 : decode M_S_renew.2.1 42 = .ok (.aaload, 1) := by decide +kernel
theorem d_S_renew_43 : decode M_S_renew.2.1 43 = .ok (.iload 4, 2) := by decide +kernel
theorem d_S_renew_45 : decode M_S_renew.2.1 45 = .ok (.iload 5, 2) := by decide +kernel
theorem d_S_renew_47 : decode M_S_renew.2.1 47 = .ok (.invokevirtual 213, 3) := by decide +kernel
theorem d_S_renew_50 : decode M_S_renew.2.1 50 = .ok (.iload 5, 2) := by decide +kernel
theorem d_S_renew_52 : decode M_S_renew.2.1 52 = .ok (.ifCond .le 26, 3) := by decide +kernel
theorem d_S_renew_55 : decode M_S_renew.2.1 55 = .ok (.aload_n 0, 1) := by decide +kernel
theorem d_S_renew_56 : decode M_S_renew.2.1 56 = .ok (.iload_n 1, 1) := by decide +kernel
theorem d_S_renew_57 : decode M_S_renew.2.1 57 = .ok (.iload_n 2, 1) := by decide +kernel
theorem d_S_renew_58 : decode M_S_renew.2.1 58 = .ok (.iload_n 3, 1) := by decide +kernel
theorem d_S_renew_59 : decode M_S_renew.2.1 59 = .ok (.invokevirtual 251, 3) := by decide +kernel
theorem d_S_renew_62 : decode M_S_renew.2.1 62 = .ok (.bipush 8, 2) := by decide +kernel
theorem d_S_renew_64 : decode M_S_renew.2.1 64 = .ok (.if_icmp .ne 14, 3) := by decide +kernel
theorem d_S_renew_67 : decode M_S_renew.2.1 67 = .ok (.aload_n 0, 1) := by decide +kernel
theorem d_S_renew_68 : decode M_S_renew.2.1 68 = .ok (.iload_n 1, 1) := by decide +kernel
theorem d_S_renew_69 : decode M_S_renew.2.1 69 = .ok (.iload_n 2, 1) := by decide +kernel
theorem d_S_renew_70 : decode M_S_renew.2.1 70 = .ok (.iload 5, 2) := by decide +kernel
theorem d_S_renew_72 : decode M_S_renew.2.1 72 = .ok (.invokestatic 92, 3) := by decide +kernel
theorem d_S_renew_75 : decode M_S_renew.2.1 75 = .ok (.invokevirtual 255, 3) := by decide +kernel
theorem d_S_renew_78 : decode M_S_renew.2.1 78 = .ok (.return_, 1) := by decide +kernel
theorem d_S_repair_0 : decode M_S_repair.2.1 0 = .ok (.aload_n 0, 1) := by decide +kernel
theorem d_S_repair_1 : decode M_S_repair.2.1 1 = .ok (.getfield 10, 3) := by decide +kernel
theorem d_S_repair_4 : decode M_S_repair.2.1 4 = .ok (.aload_n 0, 1) := by decide +kernel
theorem d_S_repair_5 : decode M_S_repair.2.1 5 = .ok (.getfield 52, 3) := by decide +kernel
theorem d_S_repair_8 : decode M_S_repair.2.1 8 = .ok (.bipush 8, 2) := by decide +kernel
theorem d_S_repair_10 : decode M_S_repair.2.1 10 = .ok (.invokevirtual 234, 3) := by decide +kernel
theorem d_S_repair_13 : decode M_S_repair.2.1 13 = .ok (.iconst 0, 1) := by decide +kernel
theorem d_S_repair_14 : decode M_S_repair.2.1 14 = .ok (.istore 4, 2) := by decide +kernel
theorem d_S_repair_16 : decode M_S_repair.2.1 16 = .ok (.iload 4, 2) := by decide +kernel
theorem d_S_repair_18 : decode M_S_repair.2.1 18 = .ok (.iload_n 3, 1) := by decide +kernel
theorem d_S_repair_19 : decode M_S_repair.2.1 19 = .ok (.if_icmp .ge 126, 3) := by decide +kernel
theorem d_S_repair_22 : decode M_S_repair.2.1 22 = .ok (.iconst 0, 1) := by decide +kernel
theorem d_S_repair_23 : decode M_S_repair.2.1 23 = .ok (.istore 5, 2) := by decide +kernel
theorem d_S_repair_25 : decode M_S_repair.2.1 25 = .ok (.iload 5, 2) := by decide +kernel
theorem d_S_repair_27 : decode M_S_repair.2.1 27 = .ok (.bipush 8, 2) := by decide +kernel
theorem d_S_repair_29 : decode M_S_repair.2.1 29 = .ok (.if_icmp .ge 70, 3) := by decide +kernel
theorem d_S_repair_32 : decode M_S_repair.2.1 32 = .ok (.aload_n 0, 1) := by decide +kernel
theorem d_S_repair_33 : decode M_S_repair.2.1 33 = .ok (.getfield 18, 3) := by decide +kernel
theorem d_S_repair_36 : decode M_S_repair.2.1 36 = .ok (.aload_n 0, 1) := by decide +kernel
theorem d_S_repair_37 : decode M_S_repair.2.1 37 = .ok (.getfield 52, 3) := by decide +kernel
theorem d_S_repair_40 : decode M_S_repair.2.1 40 = .ok (.iload 5, 2) := by decide +kernel
theorem d_S_repair_42 : decode M_S_repair.2.1 42 = .ok (.iaload, 1) := by decide +kernel
theorem d_S_repair_43 : decode M_S_repair.2.1 43 = .ok (.aaload, 1) := by decide +kernel
theorem d_S_repair_44 : decode M_S_repair.2.1 44 = .ok (.astore 6, 2) := by decide +kernel
theorem d_S_repair_46 : decode M_S_repair.2.1 46 = .ok (.aload_n 0, 1) := by decide +kernel
theorem d_S_repair_47 : decode M_S_repair.2.1 47 = .ok (.getfield 55, 3) := by decide +kernel
theorem d_S_repair_50 : decode M_S_repair.2.1 50 = .ok (.iload 5, 2) := by decide +kernel
theorem d_S_repair_52 : decode M_S_repair.2.1 52 = .ok (.aload_n 0, 1) := by decide +kernel
theorem d_S_repair_53 : decode M_S_repair.2.1 53 = .ok (.aload 6, 2) := by decide +kernel
theorem d_S_repair_55 : decode M_S_repair.2.1 55 = .ok (.aload 6, 2) := by decide +kernel
theorem d_S_repair_57 : decode M_S_repair.2.1 57 = .ok (.getfield 173, 3) := by decide +kernel
theorem d_S_repair_60 : decode M_S_repair.2.1 60 = .ok (.iload_n 2, 1) := by decide +kernel
theorem d_S_repair_61 : decode M_S_repair.2.1 61 = .ok (.aaload, 1) := by decide +kernel
theorem d_S_repair_62 : decode M_S_repair.2.1 62 = .ok (.iload 4, 2) := by decide +kernel
theorem d_S_repair_64 : decode M_S_repair.2.1 64 = .ok (.invokevirtual 170, 3) := by decide +kernel
theorem d_S_repair_67 : decode M_S_repair.2.1 67 = .ok (.iload_n 1, 1) := by decide +kernel
theorem d_S_repair_68 : decode M_S_repair.2.1 68 = .ok (.invokevirtual 179, 3) := by decide +kernel
theorem d_S_repair_71 : decode M_S_repair.2.1 71 = .ok (.iastore, 1) := by decide +kernel
theorem d_S_repair_72 : decode M_S_repair.2.1 72 = .ok (.aload 6, 2) := by decide +kernel
theorem d_S_repair_74 : decode M_S_repair.2.1 74 = .ok (.dup, 1) := by decide +kernel
theorem d_S_repair_75 : decode M_S_repair.2.1 75 = .ok (.getfield 163, 3) := by decide +kernel
theorem d_S_repair_78 : decode M_S_repair.2.1 78 = .ok (.iconst 1, 1) := by decide +kernel
theorem d_S_repair_79 : decode M_S_repair.2.1 79 = .ok (.iadd, 1) := by decide +kernel
theorem d_S_repair_80 : decode M_S_repair.2.1 80 = .ok (.putfield 163, 3) := by decide +kernel
theorem d_S_repair_83 : decode M_S_repair.2.1 83 = .ok (.aload_n 0, 1) := by decide +kernel
theorem d_S_repair_84 : decode M_S_repair.2.1 84 = .ok (.dup, 1) := by decide +kernel
theorem d_S_repair_85 : decode M_S_repair.2.1 85 = .ok (.getfield 49, 3) := by decide +kernel
theorem d_S_repair_88 : decode M_S_repair.2.1 88 = .ok (.iconst 1, 1) := by decide +kernel
theorem d_S_repair_89 : decode M_S_repair.2.1 89 = .ok (.iadd, 1) := by decide +kernel
theorem d_S_repair_90 : decode M_S_repair.2.1 90 = .ok (.putfield 49, 3) := by decide +kernel
theorem d_S_repair_93 : decode M_S_repair.2.1 93 = .ok (.iinc 5 1, 3) := by decide +kernel
theorem d_S_repair_96 : decode M_S_repair.2.1 96 = .ok (.goto (-71), 3) := by decide +kernel
theorem d_S_repair_99 : decode M_S_repair.2.1 99 = .ok (.aload_n 0, 1) := by decide +kernel
theorem d_S_repair_100 : decode M_S_repair.2.1 100 = .ok (.getfield 10, 3) := by decide +kernel
theorem d_S_repair_103 : decode M_S_repair.2.1 103 = .ok (.aload_n 0, 1) := by decide +kernel
theorem d_S_repair_104 : decode M_S_repair.2.1 104 = .ok (.getfield 55, 3) := by decide +kernel
theorem d_S_repair_107 : decode M_S_repair.2.1 107 = .ok (.invokevirtual 258, 3) := by decide +kernel
theorem d_S_repair_110 : decode M_S_repair.2.1 110 = .ok (.aload_n 0, 1) := by decide +kernel
theorem d_S_repair_111 : decode M_S_repair.2.1 111 = .ok (.getfield 18, 3) := by decide +kernel
theorem d_S_repair_114 : decode M_S_repair.2.1 114 = .ok (.iload_n 1, 1) := by decide +kernel
theorem d_S_repair_115 : decode M_S_repair.2.1 115 = .ok (.aaload, 1) := by decide +kernel
theorem d_S_repair_116 : decode M_S_repair.2.1 116 = .ok (.aload_n 0, 1) := by decide +kernel
theorem d_S_repair_117 : decode M_S_repair.2.1 117 = .ok (.getfield 18, 3) := by decide +kernel
theorem d_S_repair_120 : decode M_S_repair.2.1 120 = .ok (.iload_n 1, 1) := by decide +kernel
theorem d_S_repair_121 : decode M_S_repair.2.1 121 = .ok (.aaload, 1) := by decide +kernel
theorem d_S_repair_122 : decode M_S_repair.2.1 122 = .ok (.getfield 173, 3) := by decide +kernel
theorem d_S_repair_125 : decode M_S_repair.2.1 125 = .ok (.iload_n 2, 1) := by decide +kernel
theorem d_S_repair_126 : decode M_S_repair.2.1 126 = .ok (.aaload, 1) := by decide +kernel
theorem d_S_repair_127 : decode M_S_repair.2.1 127 = .ok (.iload 4, 2) := by decide +kernel
theorem d_S_repair_129 : decode M_S_repair.2.1 129 = .ok (.invokevirtual 170, 3) := by decide +kernel
theorem d_S_repair_132 : decode M_S_repair.2.1 132 = .ok (.aload_n 0, 1) := by decide +kernel
theorem d_S_repair_133 : decode M_S_repair.2.1 133 = .ok (.getfield 55, 3) := by decide +kernel
theorem d_S_repair_136 : decode M_S_repair.2.1 136 = .ok (.invokevirtual 228, 3) := by decide +kernel
theorem d_S_repair_139 : decode M_S_repair.2.1 139 = .ok (.iinc 4 1, 3) := by decide +kernel
theorem d_S_repair_142 : decode M_S_repair.2.1 142 = .ok (.goto (-126), 3) := by decide +kernel
theorem d_S_repair_145 : decode M_S_repair.2.1 145 = .ok (.return_, 1) := by decide +kernel
theorem d_S_rowAt_0 : decode M_S_rowAt.2.1 0 = .ok (.iload_n 1, 1) := by decide +kernel
theorem d_S_rowAt_1 : decode M_S_rowAt.2.1 1 = .ok (.invokestatic 76, 3) := by decide +kernel
theorem d_S_rowAt_4 : decode M_S_rowAt.2.1 4 = .ok (.ifCond .eq 25, 3) := by decide +kernel
theorem d_S_rowAt_7 : decode M_S_rowAt.2.1 7 = .ok (.iload_n 2, 1) := by decide +kernel
theorem d_S_rowAt_8 : decode M_S_rowAt.2.1 8 = .ok (.ifCond .lt 21, 3) := by decide +kernel
theorem d_S_rowAt_11 : decode M_S_rowAt.2.1 11 = .ok (.iload_n 2, 1) := by decide +kernel
theorem d_S_rowAt_12 : decode M_S_rowAt.2.1 12 = .ok (.bipush 8, 2) := by decide +kernel
theorem d_S_rowAt_14 : decode M_S_rowAt.2.1 14 = .ok (.if_icmp .ge 15, 3) := by decide +kernel
theorem d_S_rowAt_17 : decode M_S_rowAt.2.1 17 = .ok (.aload_n 0, 1) := by decide +kernel
theorem d_S_rowAt_18 : decode M_S_rowAt.2.1 18 = .ok (.getfield 10, 3) := by decide +kernel
theorem d_S_rowAt_21 : decode M_S_rowAt.2.1 21 = .ok (.iload_n 1, 1) := by decide +kernel
theorem d_S_rowAt_22 : decode M_S_rowAt.2.1 22 = .ok (.iload_n 2, 1) := by decide +kernel
theorem d_S_rowAt_23 : decode M_S_rowAt.2.1 23 = .ok (.invokevirtual 79, 3) := by decide +kernel
theorem d_S_rowAt_26 : decode M_S_rowAt.2.1 26 = .ok (.goto 5, 3) := by decide +kernel
theorem d_S_rowAt_29 : decode M_S_rowAt.2.1 29 = .ok (.bipush (-2), 2) := by decide +kernel
theorem d_S_rowAt_31 : decode M_S_rowAt.2.1 31 = .ok (.ireturn, 1) := by decide +kernel
theorem d_S_sendFlips_0 : decode M_S_sendFlips.2.1 0 = .ok (.iload_n 2, 1) := by decide +kernel
theorem d_S_sendFlips_1 : decode M_S_sendFlips.2.1 1 = .ok (.istore_n 3, 1) := by decide +kernel
theorem d_S_sendFlips_2 : decode M_S_sendFlips.2.1 2 = .ok (.iconst 0, 1) := by decide +kernel
theorem d_S_sendFlips_3 : decode M_S_sendFlips.2.1 3 = .ok (.istore 4, 2) := by decide +kernel
theorem d_S_sendFlips_5 : decode M_S_sendFlips.2.1 5 = .ok (.iload 4, 2) := by decide +kernel
theorem d_S_sendFlips_7 : decode M_S_sendFlips.2.1 7 = .ok (.bipush 12, 2) := by decide +kernel
theorem d_S_sendFlips_9 : decode M_S_sendFlips.2.1 9 = .ok (.if_icmp .ge 40, 3) := by decide +kernel
theorem d_S_sendFlips_12 : decode M_S_sendFlips.2.1 12 = .ok (.iload_n 3, 1) := by decide +kernel
theorem d_S_sendFlips_13 : decode M_S_sendFlips.2.1 13 = .ok (.ifCond .le 36, 3) := by decide +kernel
theorem d_S_sendFlips_16 : decode M_S_sendFlips.2.1 16 = .ok (.aload_n 0, 1) := by decide +kernel
theorem d_S_sendFlips_17 : decode M_S_sendFlips.2.1 17 = .ok (.getfield 18, 3) := by decide +kernel
theorem d_S_sendFlips_20 : decode M_S_sendFlips.2.1 20 = .ok (.iload 4, 2) := by decide +kernel
theorem d_S_sendFlips_22 : decode M_S_sendFlips.2.1 22 = .ok (.aaload, 1) := by decide +kernel
theorem d_S_sendFlips_23 : decode M_S_sendFlips.2.1 23 = .ok (.getfield 103, 3) := by decide +kernel
theorem d_S_sendFlips_26 : decode M_S_sendFlips.2.1 26 = .ok (.ifCond .eq 17, 3) := by decide +kernel
theorem d_S_sendFlips_29 : decode M_S_sendFlips.2.1 29 = .ok (.aload_n 0, 1) := by decide +kernel
theorem d_S_sendFlips_30 : decode M_S_sendFlips.2.1 30 = .ok (.getfield 18, 3) := by decide +kernel
theorem d_S_sendFlips_33 : decode M_S_sendFlips.2.1 33 = .ok (.iload 4, 2) := by decide +kernel
theorem d_S_sendFlips_35 : decode M_S_sendFlips.2.1 35 = .ok (.aaload, 1) := by decide +kernel
theorem d_S_sendFlips_36 : decode M_S_sendFlips.2.1 36 = .ok (.iload_n 1, 1) := by decide +kernel
theorem d_S_sendFlips_37 : decode M_S_sendFlips.2.1 37 = .ok (.invokevirtual 116, 3) := by decide +kernel
theorem d_S_sendFlips_40 : decode M_S_sendFlips.2.1 40 = .ok (.iinc 3 (-1), 3) := by decide +kernel
theorem d_S_sendFlips_43 : decode M_S_sendFlips.2.1 43 = .ok (.iinc 4 1, 3) := by decide +kernel
theorem d_S_sendFlips_46 : decode M_S_sendFlips.2.1 46 = .ok (.goto (-41), 3) := by decide +kernel
theorem d_S_sendFlips_49 : decode M_S_sendFlips.2.1 49 = .ok (.return_, 1) := by decide +kernel
theorem d_S_sendShadows_0 : decode M_S_sendShadows.2.1 0 = .ok (.iload_n 3, 1) := by decide +kernel
theorem d_S_sendShadows_1 : decode M_S_sendShadows.2.1 1 = .ok (.istore 4, 2) := by decide +kernel
theorem d_S_sendShadows_3 : decode M_S_sendShadows.2.1 3 = .ok (.iconst 0, 1) := by decide +kernel
theorem d_S_sendShadows_4 : decode M_S_sendShadows.2.1 4 = .ok (.istore 5, 2) := by decide +kernel
theorem d_S_sendShadows_6 : decode M_S_sendShadows.2.1 6 = .ok (.iload 5, 2) := by decide +kernel
theorem d_S_sendShadows_8 : decode M_S_sendShadows.2.1 8 = .ok (.bipush 12, 2) := by decide +kernel
theorem d_S_sendShadows_10 : decode M_S_sendShadows.2.1 10 = .ok (.if_icmp .ge 59, 3) := by decide +kernel
theorem d_S_sendShadows_13 : decode M_S_sendShadows.2.1 13 = .ok (.iload 4, 2) := by decide +kernel
theorem d_S_sendShadows_15 : decode M_S_sendShadows.2.1 15 = .ok (.ifCond .le 54, 3) := by decide +kernel
theorem d_S_sendShadows_18 : decode M_S_sendShadows.2.1 18 = .ok (.aload_n 0, 1) := by decide +kernel
theorem d_S_sendShadows_19 : decode M_S_sendShadows.2.1 19 = .ok (.getfield 18, 3) := by decide +kernel
theorem d_S_sendShadows_22 : decode M_S_sendShadows.2.1 22 = .ok (.iload 5, 2) := by decide +kernel
theorem d_S_sendShadows_24 : decode M_S_sendShadows.2.1 24 = .ok (.aaload, 1) := by decide +kernel
theorem d_S_sendShadows_25 : decode M_S_sendShadows.2.1 25 = .ok (.getfield 103, 3) := by decide +kernel
theorem d_S_sendShadows_28 : decode M_S_sendShadows.2.1 28 = .ok (.ifCond .eq 35, 3) := by decide +kernel
theorem d_S_sendShadows_31 : decode M_S_sendShadows.2.1 31 = .ok (.aload_n 0, 1) := by decide +kernel
theorem d_S_sendShadows_32 : decode M_S_sendShadows.2.1 32 = .ok (.getfield 18, 3) := by decide +kernel
theorem d_S_sendShadows_35 : decode M_S_sendShadows.2.1 35 = .ok (.iload 5, 2) := by decide +kernel
theorem d_S_sendShadows_37 : decode M_S_sendShadows.2.1 37 = .ok (.aaload, 1) := by decide +kernel
theorem d_S_sendShadows_38 : decode M_S_sendShadows.2.1 38 = .ok (.aload_n 0, 1) := by decide +kernel
theorem d_S_sendShadows_39 : decode M_S_sendShadows.2.1 39 = .ok (.getfield 18, 3) := by decide +kernel
theorem d_S_sendShadows_42 : decode M_S_sendShadows.2.1 42 = .ok (.iload 5, 2) := by decide +kernel
theorem d_S_sendShadows_44 : decode M_S_sendShadows.2.1 44 = .ok (.aaload, 1) := by decide +kernel
theorem d_S_sendShadows_45 : decode M_S_sendShadows.2.1 45 = .ok (.getfield 107, 3) := by decide +kernel
theorem d_S_sendShadows_48 : decode M_S_sendShadows.2.1 48 = .ok (.iload_n 1, 1) := by decide +kernel
theorem d_S_sendShadows_49 : decode M_S_sendShadows.2.1 49 = .ok (.aaload, 1) := by decide +kernel
theorem d_S_sendShadows_50 : decode M_S_sendShadows.2.1 50 = .ok (.aload_n 0, 1) := by decide +kernel
theorem d_S_sendShadows_51 : decode M_S_sendShadows.2.1 51 = .ok (.getfield 22, 3) := by decide +kernel
theorem d_S_sendShadows_54 : decode M_S_sendShadows.2.1 54 = .ok (.iload_n 1, 1) := by decide +kernel
theorem d_S_sendShadows_55 : decode M_S_sendShadows.2.1 55 = .ok (.iaload, 1) := by decide +kernel
theorem d_S_sendShadows_56 : decode M_S_sendShadows.2.1 56 = .ok (.iload_n 2, 1) := by decide +kernel
theorem d_S_sendShadows_57 : decode M_S_sendShadows.2.1 57 = .ok (.invokevirtual 213, 3) := by decide +kernel
theorem d_S_sendShadows_60 : decode M_S_sendShadows.2.1 60 = .ok (.iinc 4 (-1), 3) := by decide +kernel
theorem d_S_sendShadows_63 : decode M_S_sendShadows.2.1 63 = .ok (.iinc 5 1, 3) := by decide +kernel
theorem d_S_sendShadows_66 : decode M_S_sendShadows.2.1 66 = .ok (.goto (-60), 3) := by decide +kernel
theorem d_S_sendShadows_69 : decode M_S_sendShadows.2.1 69 = .ok (.iconst 0, 1) := by decide +kernel
theorem d_S_sendShadows_70 : decode M_S_sendShadows.2.1 70 = .ok (.istore 5, 2) := by decide +kernel
theorem d_S_sendShadows_72 : decode M_S_sendShadows.2.1 72 = .ok (.iload 5, 2) := by decide +kernel
theorem d_S_sendShadows_74 : decode M_S_sendShadows.2.1 74 = .ok (.iload_n 2, 1) := by decide +kernel
theorem d_S_sendShadows_75 : decode M_S_sendShadows.2.1 75 = .ok (.invokestatic 92, 3) := by decide +kernel
theorem d_S_sendShadows_78 : decode M_S_sendShadows.2.1 78 = .ok (.if_icmp .ge 34, 3) := by decide +kernel
theorem d_S_sendShadows_81 : decode M_S_sendShadows.2.1 81 = .ok (.aload_n 0, 1) := by decide +kernel
theorem d_S_sendShadows_82 : decode M_S_sendShadows.2.1 82 = .ok (.getfield 10, 3) := by decide +kernel
theorem d_S_sendShadows_85 : decode M_S_sendShadows.2.1 85 = .ok (.aload_n 0, 1) := by decide +kernel
theorem d_S_sendShadows_86 : decode M_S_sendShadows.2.1 86 = .ok (.getfield 30, 3) := by decide +kernel
theorem d_S_sendShadows_89 : decode M_S_sendShadows.2.1 89 = .ok (.iload 5, 2) := by decide +kernel
theorem d_S_sendShadows_91 : decode M_S_sendShadows.2.1 91 = .ok (.bipush 30, 2) := by decide +kernel
theorem d_S_sendShadows_93 : decode M_S_sendShadows.2.1 93 = .ok (.imul, 1) := by decide +kernel
theorem d_S_sendShadows_94 : decode M_S_sendShadows.2.1 94 = .ok (.iload_n 2, 1) := by decide +kernel
theorem d_S_sendShadows_95 : decode M_S_sendShadows.2.1 95 = .ok (.invokevirtual 217, 3) := by decide +kernel
theorem d_S_sendShadows_98 : decode M_S_sendShadows.2.1 98 = .ok (.aload_n 0, 1) := by decide +kernel
theorem d_S_sendShadows_99 : decode M_S_sendShadows.2.1 99 = .ok (.iload_n 1, 1) := by decide +kernel
theorem d_S_sendShadows_100 : decode M_S_sendShadows.2.1 100 = .ok (.iload 5, 2) := by decide +kernel
theorem d_S_sendShadows_102 : decode M_S_sendShadows.2.1 102 = .ok (.iload_n 3, 1) := by decide +kernel
theorem d_S_sendShadows_103 : decode M_S_sendShadows.2.1 103 = .ok (.invokevirtual 221, 3) := by decide +kernel
theorem d_S_sendShadows_106 : decode M_S_sendShadows.2.1 106 = .ok (.iinc 5 1, 3) := by decide +kernel
theorem d_S_sendShadows_109 : decode M_S_sendShadows.2.1 109 = .ok (.goto (-37), 3) := by decide +kernel
theorem d_S_sendShadows_112 : decode M_S_sendShadows.2.1 112 = .ok (.return_, 1) := by decide +kernel
theorem d_S_sent_0 : decode M_S_sent.2.1 0 = .ok (.iload_n 1, 1) := by decide +kernel
theorem d_S_sent_1 : decode M_S_sent.2.1 1 = .ok (.invokestatic 76, 3) := by decide +kernel
theorem d_S_sent_4 : decode M_S_sent.2.1 4 = .ok (.ifCond .eq 15, 3) := by decide +kernel
theorem d_S_sent_7 : decode M_S_sent.2.1 7 = .ok (.aload_n 0, 1) := by decide +kernel
theorem d_S_sent_8 : decode M_S_sent.2.1 8 = .ok (.getfield 18, 3) := by decide +kernel
theorem d_S_sent_11 : decode M_S_sent.2.1 11 = .ok (.iload_n 1, 1) := by decide +kernel
theorem d_S_sent_12 : decode M_S_sent.2.1 12 = .ok (.aaload, 1) := by decide +kernel
theorem d_S_sent_13 : decode M_S_sent.2.1 13 = .ok (.getfield 163, 3) := by decide +kernel
theorem d_S_sent_16 : decode M_S_sent.2.1 16 = .ok (.goto 5, 3) := by decide +kernel
theorem d_S_sent_19 : decode M_S_sent.2.1 19 = .ok (.bipush (-2), 2) := by decide +kernel
theorem d_S_sent_21 : decode M_S_sent.2.1 21 = .ok (.ireturn, 1) := by decide +kernel
theorem d_S_settle_0 : decode M_S_settle.2.1 0 = .ok (.iload_n 1, 1) := by decide +kernel
theorem d_S_settle_1 : decode M_S_settle.2.1 1 = .ok (.invokestatic 82, 3) := by decide +kernel
theorem d_S_settle_4 : decode M_S_settle.2.1 4 = .ok (.ifCond .ne 6, 3) := by decide +kernel
theorem d_S_settle_7 : decode M_S_settle.2.1 7 = .ok (.bipush (-2), 2) := by decide +kernel
theorem d_S_settle_9 : decode M_S_settle.2.1 9 = .ok (.ireturn, 1) := by decide +kernel
theorem d_S_settle_10 : decode M_S_settle.2.1 10 = .ok (.aload_n 0, 1) := by decide +kernel
theorem d_S_settle_11 : decode M_S_settle.2.1 11 = .ok (.getfield 26, 3) := by decide +kernel
theorem d_S_settle_14 : decode M_S_settle.2.1 14 = .ok (.iload_n 1, 1) := by decide +kernel
theorem d_S_settle_15 : decode M_S_settle.2.1 15 = .ok (.baload, 1) := by decide +kernel
theorem d_S_settle_16 : decode M_S_settle.2.1 16 = .ok (.ifCond .ne 6, 3) := by decide +kernel
theorem d_S_settle_19 : decode M_S_settle.2.1 19 = .ok (.bipush (-3), 2) := by decide +kernel
theorem d_S_settle_21 : decode M_S_settle.2.1 21 = .ok (.ireturn, 1) := by decide +kernel
theorem d_S_settle_22 : decode M_S_settle.2.1 22 = .ok (.aload_n 0, 1) := by decide +kernel
theorem d_S_settle_23 : decode M_S_settle.2.1 23 = .ok (.iload_n 1, 1) := by decide +kernel
theorem d_S_settle_24 : decode M_S_settle.2.1 24 = .ok (.aload_n 0, 1) := by decide +kernel
theorem d_S_settle_25 : decode M_S_settle.2.1 25 = .ok (.getfield 22, 3) := by decide +kernel
theorem d_S_settle_28 : decode M_S_settle.2.1 28 = .ok (.iload_n 1, 1) := by decide +kernel
theorem d_S_settle_29 : decode M_S_settle.2.1 29 = .ok (.iaload, 1) := by decide +kernel
theorem d_S_settle_30 : decode M_S_settle.2.1 30 = .ok (.invokevirtual 99, 3) := by decide +kernel
theorem d_S_settle_33 : decode M_S_settle.2.1 33 = .ok (.istore_n 2, 1) := by decide +kernel
theorem d_S_settle_34 : decode M_S_settle.2.1 34 = .ok (.iconst 0, 1) := by decide +kernel
theorem d_S_settle_35 : decode M_S_settle.2.1 35 = .ok (.istore_n 3, 1) := by decide +kernel
theorem d_S_settle_36 : decode M_S_settle.2.1 36 = .ok (.iload_n 3, 1) := by decide +kernel
theorem d_S_settle_37 : decode M_S_settle.2.1 37 = .ok (.bipush 12, 2) := by decide +kernel
theorem d_S_settle_39 : decode M_S_settle.2.1 39 = .ok (.if_icmp .ge 69, 3) := by decide +kernel
theorem d_S_settle_42 : decode M_S_settle.2.1 42 = .ok (.aload_n 0, 1) := by decide +kernel
theorem d_S_settle_43 : decode M_S_settle.2.1 43 = .ok (.getfield 18, 3) := by decide +kernel
theorem d_S_settle_46 : decode M_S_settle.2.1 46 = .ok (.iload_n 3, 1) := by decide +kernel
theorem d_S_settle_47 : decode M_S_settle.2.1 47 = .ok (.aaload, 1) := by decide +kernel
theorem d_S_settle_48 : decode M_S_settle.2.1 48 = .ok (.astore 4, 2) := by decide +kernel
theorem d_S_settle_50 : decode M_S_settle.2.1 50 = .ok (.aload 4, 2) := by decide +kernel
theorem d_S_settle_52 : decode M_S_settle.2.1 52 = .ok (.getfield 103, 3) := by decide +kernel
theorem d_S_settle_55 : decode M_S_settle.2.1 55 = .ok (.ifCond .eq 47, 3) := by decide +kernel
theorem d_S_settle_58 : decode M_S_settle.2.1 58 = .ok (.aload 4, 2) := by decide +kernel
theorem d_S_settle_60 : decode M_S_settle.2.1 60 = .ok (.getfield 107, 3) := by decide +kernel
theorem d_S_settle_63 : decode M_S_settle.2.1 63 = .ok (.iload_n 1, 1) := by decide +kernel
theorem d_S_settle_64 : decode M_S_settle.2.1 64 = .ok (.aaload, 1) := by decide +kernel
theorem d_S_settle_65 : decode M_S_settle.2.1 65 = .ok (.getfield 111, 3) := by decide +kernel
theorem d_S_settle_68 : decode M_S_settle.2.1 68 = .ok (.aload_n 0, 1) := by decide +kernel
theorem d_S_settle_69 : decode M_S_settle.2.1 69 = .ok (.getfield 22, 3) := by decide +kernel
theorem d_S_settle_72 : decode M_S_settle.2.1 72 = .ok (.iload_n 1, 1) := by decide +kernel
theorem d_S_settle_73 : decode M_S_settle.2.1 73 = .ok (.iaload, 1) := by decide +kernel
theorem d_S_settle_74 : decode M_S_settle.2.1 74 = .ok (.if_icmp .ne 28, 3) := by decide +kernel
theorem d_S_settle_77 : decode M_S_settle.2.1 77 = .ok (.iload_n 2, 1) := by decide +kernel
theorem d_S_settle_78 : decode M_S_settle.2.1 78 = .ok (.ifCond .eq 12, 3) := by decide +kernel
theorem d_S_settle_81 : decode M_S_settle.2.1 81 = .ok (.aload 4, 2) := by decide +kernel
theorem d_S_settle_83 : decode M_S_settle.2.1 83 = .ok (.iload_n 1, 1) := by decide +kernel
theorem d_S_settle_84 : decode M_S_settle.2.1 84 = .ok (.invokevirtual 116, 3) := by decide +kernel
theorem d_S_settle_87 : decode M_S_settle.2.1 87 = .ok (.goto 15, 3) := by decide +kernel
theorem d_S_settle_90 : decode M_S_settle.2.1 90 = .ok (.aload 4, 2) := by decide +kernel
theorem d_S_settle_92 : decode M_S_settle.2.1 92 = .ok (.aload 4, 2) := by decide +kernel
theorem d_S_settle_94 : decode M_S_settle.2.1 94 = .ok (.getfield 107, 3) := by decide +kernel
theorem d_S_settle_97 : decode M_S_settle.2.1 97 = .ok (.iload_n 1, 1) := by decide +kernel
theorem d_S_settle_98 : decode M_S_settle.2.1 98 = .ok (.aaload, 1) := by decide +kernel
theorem d_S_settle_99 : decode M_S_settle.2.1 99 = .ok (.invokevirtual 120, 3) := by decide +kernel
theorem d_S_settle_102 : decode M_S_settle.2.1 102 = .ok (.iinc 3 1, 3) := by decide +kernel
theorem d_S_settle_105 : decode M_S_settle.2.1 105 = .ok (.goto (-69), 3) := by decide +kernel
theorem d_S_settle_108 : decode M_S_settle.2.1 108 = .ok (.aload_n 0, 1) := by decide +kernel
theorem d_S_settle_109 : decode M_S_settle.2.1 109 = .ok (.getfield 26, 3) := by decide +kernel
theorem d_S_settle_112 : decode M_S_settle.2.1 112 = .ok (.iload_n 1, 1) := by decide +kernel
theorem d_S_settle_113 : decode M_S_settle.2.1 113 = .ok (.iconst 0, 1) := by decide +kernel
theorem d_S_settle_114 : decode M_S_settle.2.1 114 = .ok (.bastore, 1) := by decide +kernel
theorem d_S_settle_115 : decode M_S_settle.2.1 115 = .ok (.iload_n 2, 1) := by decide +kernel
theorem d_S_settle_116 : decode M_S_settle.2.1 116 = .ok (.ifCond .eq 7, 3) := by decide +kernel
theorem d_S_settle_119 : decode M_S_settle.2.1 119 = .ok (.iconst 1, 1) := by decide +kernel
theorem d_S_settle_120 : decode M_S_settle.2.1 120 = .ok (.goto 4, 3) := by decide +kernel
theorem d_S_settle_123 : decode M_S_settle.2.1 123 = .ok (.iconst 0, 1) := by decide +kernel
theorem d_S_settle_124 : decode M_S_settle.2.1 124 = .ok (.ireturn, 1) := by decide +kernel
theorem d_S_someNodeRecords_0 : decode M_S_someNodeRecords.2.1 0 = .ok (.iconst 0, 1) := by decide +kernel
theorem d_S_someNodeRecords_1 : decode M_S_someNodeRecords.2.1 1 = .ok (.istore_n 3, 1) := by decide +kernel
theorem d_S_someNodeRecords_2 : decode M_S_someNodeRecords.2.1 2 = .ok (.iload_n 3, 1) := by decide +kernel
theorem d_S_someNodeRecords_3 : decode M_S_someNodeRecords.2.1 3 = .ok (.bipush 12, 2) := by decide +kernel
theorem d_S_someNodeRecords_5 : decode M_S_someNodeRecords.2.1 5 = .ok (.if_icmp .ge 29, 3) := by decide +kernel
theorem d_S_someNodeRecords_8 : decode M_S_someNodeRecords.2.1 8 = .ok (.aload_n 0, 1) := by decide +kernel
theorem d_S_someNodeRecords_9 : decode M_S_someNodeRecords.2.1 9 = .ok (.getfield 18, 3) := by decide +kernel
theorem d_S_someNodeRecords_12 : decode M_S_someNodeRecords.2.1 12 = .ok (.iload_n 3, 1) := by decide +kernel
theorem d_S_someNodeRecords_13 : decode M_S_someNodeRecords.2.1 13 = .ok (.aaload, 1) := by decide +kernel
theorem d_S_someNodeRecords_14 : decode M_S_someNodeRecords.2.1 14 = .ok (.getfield 173, 3) := by decide +kernel
theorem d_S_someNodeRecords_17 : decode M_S_someNodeRecords.2.1 17 = .ok (.iload_n 1, 1) := by decide +kernel
theorem d_S_someNodeRecords_18 : decode M_S_someNodeRecords.2.1 18 = .ok (.aaload, 1) := by decide +kernel
theorem d_S_someNodeRecords_19 : decode M_S_someNodeRecords.2.1 19 = .ok (.getfield 111, 3) := by decide +kernel
theorem d_S_someNodeRecords_22 : decode M_S_someNodeRecords.2.1 22 = .ok (.iload_n 2, 1) := by decide +kernel
theorem d_S_someNodeRecords_23 : decode M_S_someNodeRecords.2.1 23 = .ok (.if_icmp .ne 5, 3) := by decide +kernel
theorem d_S_someNodeRecords_26 : decode M_S_someNodeRecords.2.1 26 = .ok (.iconst 1, 1) := by decide +kernel
theorem d_S_someNodeRecords_27 : decode M_S_someNodeRecords.2.1 27 = .ok (.ireturn, 1) := by decide +kernel
theorem d_S_someNodeRecords_28 : decode M_S_someNodeRecords.2.1 28 = .ok (.iinc 3 1, 3) := by decide +kernel
theorem d_S_someNodeRecords_31 : decode M_S_someNodeRecords.2.1 31 = .ok (.goto (-29), 3) := by decide +kernel
theorem d_S_someNodeRecords_34 : decode M_S_someNodeRecords.2.1 34 = .ok (.iconst 0, 1) := by decide +kernel
theorem d_S_someNodeRecords_35 : decode M_S_someNodeRecords.2.1 35 = .ok (.ireturn, 1) := by decide +kernel
theorem d_S_stripesOf_0 : decode M_S_stripesOf.2.1 0 = .ok (.iload_n 0, 1) := by decide +kernel
theorem d_S_stripesOf_1 : decode M_S_stripesOf.2.1 1 = .ok (.bipush 30, 2) := by decide +kernel
theorem d_S_stripesOf_3 : decode M_S_stripesOf.2.1 3 = .ok (.iadd, 1) := by decide +kernel
theorem d_S_stripesOf_4 : decode M_S_stripesOf.2.1 4 = .ok (.iconst 1, 1) := by decide +kernel
theorem d_S_stripesOf_5 : decode M_S_stripesOf.2.1 5 = .ok (.isub, 1) := by decide +kernel
theorem d_S_stripesOf_6 : decode M_S_stripesOf.2.1 6 = .ok (.bipush 30, 2) := by decide +kernel
theorem d_S_stripesOf_8 : decode M_S_stripesOf.2.1 8 = .ok (.idiv, 1) := by decide +kernel
theorem d_S_stripesOf_9 : decode M_S_stripesOf.2.1 9 = .ok (.ireturn, 1) := by decide +kernel
theorem d_S_symbol_0 : decode M_S_symbol.2.1 0 = .ok (.iload_n 1, 1) := by decide +kernel
theorem d_S_symbol_1 : decode M_S_symbol.2.1 1 = .ok (.invokestatic 76, 3) := by decide +kernel
theorem d_S_symbol_4 : decode M_S_symbol.2.1 4 = .ok (.ifCond .eq 17, 3) := by decide +kernel
theorem d_S_symbol_7 : decode M_S_symbol.2.1 7 = .ok (.iload_n 2, 1) := by decide +kernel
theorem d_S_symbol_8 : decode M_S_symbol.2.1 8 = .ok (.invokestatic 76, 3) := by decide +kernel
theorem d_S_symbol_11 : decode M_S_symbol.2.1 11 = .ok (.ifCond .eq 10, 3) := by decide +kernel
theorem d_S_symbol_14 : decode M_S_symbol.2.1 14 = .ok (.iload_n 3, 1) := by decide +kernel
theorem d_S_symbol_15 : decode M_S_symbol.2.1 15 = .ok (.invokestatic 82, 3) := by decide +kernel
theorem d_S_symbol_18 : decode M_S_symbol.2.1 18 = .ok (.ifCond .ne 6, 3) := by decide +kernel
theorem d_S_symbol_21 : decode M_S_symbol.2.1 21 = .ok (.bipush (-2), 2) := by decide +kernel
theorem d_S_symbol_23 : decode M_S_symbol.2.1 23 = .ok (.ireturn, 1) := by decide +kernel
theorem d_S_symbol_24 : decode M_S_symbol.2.1 24 = .ok (.aload_n 0, 1) := by decide +kernel
theorem d_S_symbol_25 : decode M_S_symbol.2.1 25 = .ok (.getfield 18, 3) := by decide +kernel
theorem d_S_symbol_28 : decode M_S_symbol.2.1 28 = .ok (.iload_n 1, 1) := by decide +kernel
theorem d_S_symbol_29 : decode M_S_symbol.2.1 29 = .ok (.aaload, 1) := by decide +kernel
theorem d_S_symbol_30 : decode M_S_symbol.2.1 30 = .ok (.getfield 173, 3) := by decide +kernel
theorem d_S_symbol_33 : decode M_S_symbol.2.1 33 = .ok (.iload_n 3, 1) := by decide +kernel
theorem d_S_symbol_34 : decode M_S_symbol.2.1 34 = .ok (.aaload, 1) := by decide +kernel
theorem d_S_symbol_35 : decode M_S_symbol.2.1 35 = .ok (.iload 4, 2) := by decide +kernel
theorem d_S_symbol_37 : decode M_S_symbol.2.1 37 = .ok (.invokevirtual 170, 3) := by decide +kernel
theorem d_S_symbol_40 : decode M_S_symbol.2.1 40 = .ok (.istore 5, 2) := by decide +kernel
theorem d_S_symbol_42 : decode M_S_symbol.2.1 42 = .ok (.iload 5, 2) := by decide +kernel
theorem d_S_symbol_44 : decode M_S_symbol.2.1 44 = .ok (.iconst (-1), 1) := by decide +kernel
theorem d_S_symbol_45 : decode M_S_symbol.2.1 45 = .ok (.if_icmp .ne 7, 3) := by decide +kernel
theorem d_S_symbol_48 : decode M_S_symbol.2.1 48 = .ok (.iconst (-1), 1) := by decide +kernel
theorem d_S_symbol_49 : decode M_S_symbol.2.1 49 = .ok (.goto 16, 3) := by decide +kernel
theorem d_S_symbol_52 : decode M_S_symbol.2.1 52 = .ok (.aload_n 0, 1) := by decide +kernel
theorem d_S_symbol_53 : decode M_S_symbol.2.1 53 = .ok (.aload_n 0, 1) := by decide +kernel
theorem d_S_symbol_54 : decode M_S_symbol.2.1 54 = .ok (.getfield 18, 3) := by decide +kernel
theorem d_S_symbol_57 : decode M_S_symbol.2.1 57 = .ok (.iload_n 1, 1) := by decide +kernel
theorem d_S_symbol_58 : decode M_S_symbol.2.1 58 = .ok (.aaload, 1) := by decide +kernel
theorem d_S_symbol_59 : decode M_S_symbol.2.1 59 = .ok (.iload 5, 2) := by decide +kernel
theorem d_S_symbol_61 : decode M_S_symbol.2.1 61 = .ok (.iload_n 2, 1) := by decide +kernel
theorem d_S_symbol_62 : decode M_S_symbol.2.1 62 = .ok (.invokevirtual 179, 3) := by decide +kernel
theorem d_S_symbol_65 : decode M_S_symbol.2.1 65 = .ok (.ireturn, 1) := by decide +kernel
theorem d_S_symbolFrom_0 : decode M_S_symbolFrom.2.1 0 = .ok (.iconst 0, 1) := by decide +kernel
theorem d_S_symbolFrom_1 : decode M_S_symbolFrom.2.1 1 = .ok (.istore 4, 2) := by decide +kernel
theorem d_S_symbolFrom_3 : decode M_S_symbolFrom.2.1 3 = .ok (.iconst 0, 1) := by decide +kernel
theorem d_S_symbolFrom_4 : decode M_S_symbolFrom.2.1 4 = .ok (.istore 5, 2) := by decide +kernel
theorem d_S_symbolFrom_6 : decode M_S_symbolFrom.2.1 6 = .ok (.iload 5, 2) := by decide +kernel
theorem d_S_symbolFrom_8 : decode M_S_symbolFrom.2.1 8 = .ok (.bipush 8, 2) := by decide +kernel
theorem d_S_symbolFrom_10 : decode M_S_symbolFrom.2.1 10 = .ok (.if_icmp .ge 41, 3) := by decide +kernel
theorem d_S_symbolFrom_13 : decode M_S_symbolFrom.2.1 13 = .ok (.iload 4, 2) := by decide +kernel
theorem d_S_symbolFrom_15 : decode M_S_symbolFrom.2.1 15 = .ok (.aload_n 0, 1) := by decide +kernel
theorem d_S_symbolFrom_16 : decode M_S_symbolFrom.2.1 16 = .ok (.getfield 10, 3) := by decide +kernel
theorem d_S_symbolFrom_19 : decode M_S_symbolFrom.2.1 19 = .ok (.getfield 63, 3) := by decide +kernel
theorem d_S_symbolFrom_22 : decode M_S_symbolFrom.2.1 22 = .ok (.aload_n 1, 1) := by decide +kernel
theorem d_S_symbolFrom_23 : decode M_S_symbolFrom.2.1 23 = .ok (.iload_n 2, 1) := by decide +kernel
theorem d_S_symbolFrom_24 : decode M_S_symbolFrom.2.1 24 = .ok (.iload 5, 2) := by decide +kernel
theorem d_S_symbolFrom_26 : decode M_S_symbolFrom.2.1 26 = .ok (.invokevirtual 176, 3) := by decide +kernel
theorem d_S_symbolFrom_29 : decode M_S_symbolFrom.2.1 29 = .ok (.aload_n 0, 1) := by decide +kernel
theorem d_S_symbolFrom_30 : decode M_S_symbolFrom.2.1 30 = .ok (.getfield 10, 3) := by decide +kernel
theorem d_S_symbolFrom_33 : decode M_S_symbolFrom.2.1 33 = .ok (.iload_n 3, 1) := by decide +kernel
theorem d_S_symbolFrom_34 : decode M_S_symbolFrom.2.1 34 = .ok (.iload 5, 2) := by decide +kernel
theorem d_S_symbolFrom_36 : decode M_S_symbolFrom.2.1 36 = .ok (.invokevirtual 79, 3) := by decide +kernel
theorem d_S_symbolFrom_39 : decode M_S_symbolFrom.2.1 39 = .ok (.invokevirtual 67, 3) := by decide +kernel
theorem d_S_symbolFrom_42 : decode M_S_symbolFrom.2.1 42 = .ok (.ixor, 1) := by decide +kernel
theorem d_S_symbolFrom_43 : decode M_S_symbolFrom.2.1 43 = .ok (.istore 4, 2) := by decide +kernel
theorem d_S_symbolFrom_45 : decode M_S_symbolFrom.2.1 45 = .ok (.iinc 5 1, 3) := by decide +kernel
theorem d_S_symbolFrom_48 : decode M_S_symbolFrom.2.1 48 = .ok (.goto (-42), 3) := by decide +kernel
theorem d_S_symbolFrom_51 : decode M_S_symbolFrom.2.1 51 = .ok (.iload 4, 2) := by decide +kernel
theorem d_S_symbolFrom_53 : decode M_S_symbolFrom.2.1 53 = .ok (.ireturn, 1) := by decide +kernel
theorem d_S_times_0 : decode M_S_times.2.1 0 = .ok (.iload_n 1, 1) := by decide +kernel
theorem d_S_times_1 : decode M_S_times.2.1 1 = .ok (.invokestatic 59, 3) := by decide +kernel
theorem d_S_times_4 : decode M_S_times.2.1 4 = .ok (.ifCond .eq 25, 3) := by decide +kernel
theorem d_S_times_7 : decode M_S_times.2.1 7 = .ok (.iload_n 2, 1) := by decide +kernel
theorem d_S_times_8 : decode M_S_times.2.1 8 = .ok (.invokestatic 59, 3) := by decide +kernel
theorem d_S_times_11 : decode M_S_times.2.1 11 = .ok (.ifCond .eq 18, 3) := by decide +kernel
theorem d_S_times_14 : decode M_S_times.2.1 14 = .ok (.aload_n 0, 1) := by decide +kernel
theorem d_S_times_15 : decode M_S_times.2.1 15 = .ok (.getfield 10, 3) := by decide +kernel
theorem d_S_times_18 : decode M_S_times.2.1 18 = .ok (.getfield 63, 3) := by decide +kernel
theorem d_S_times_21 : decode M_S_times.2.1 21 = .ok (.iload_n 1, 1) := by decide +kernel
theorem d_S_times_22 : decode M_S_times.2.1 22 = .ok (.iload_n 2, 1) := by decide +kernel
theorem d_S_times_23 : decode M_S_times.2.1 23 = .ok (.invokevirtual 67, 3) := by decide +kernel
theorem d_S_times_26 : decode M_S_times.2.1 26 = .ok (.goto 5, 3) := by decide +kernel
theorem d_S_times_29 : decode M_S_times.2.1 29 = .ok (.bipush (-2), 2) := by decide +kernel
theorem d_S_times_31 : decode M_S_times.2.1 31 = .ok (.ireturn, 1) := by decide +kernel
theorem d_S_version_0 : decode M_S_version.2.1 0 = .ok (.iload_n 1, 1) := by decide +kernel
theorem d_S_version_1 : decode M_S_version.2.1 1 = .ok (.invokestatic 82, 3) := by decide +kernel
theorem d_S_version_4 : decode M_S_version.2.1 4 = .ok (.ifCond .eq 11, 3) := by decide +kernel
theorem d_S_version_7 : decode M_S_version.2.1 7 = .ok (.aload_n 0, 1) := by decide +kernel
theorem d_S_version_8 : decode M_S_version.2.1 8 = .ok (.iload_n 1, 1) := by decide +kernel
theorem d_S_version_9 : decode M_S_version.2.1 9 = .ok (.invokevirtual 134, 3) := by decide +kernel
theorem d_S_version_12 : decode M_S_version.2.1 12 = .ok (.goto 5, 3) := by decide +kernel
theorem d_S_version_15 : decode M_S_version.2.1 15 = .ok (.bipush (-2), 2) := by decide +kernel
theorem d_S_version_17 : decode M_S_version.2.1 17 = .ok (.ireturn, 1) := by decide +kernel
theorem d_S_wipe_0 : decode M_S_wipe.2.1 0 = .ok (.iload_n 1, 1) := by decide +kernel
theorem d_S_wipe_1 : decode M_S_wipe.2.1 1 = .ok (.invokestatic 76, 3) := by decide +kernel
theorem d_S_wipe_4 : decode M_S_wipe.2.1 4 = .ok (.ifCond .ne 6, 3) := by decide +kernel
theorem d_S_wipe_7 : decode M_S_wipe.2.1 7 = .ok (.bipush (-2), 2) := by decide +kernel
theorem d_S_wipe_9 : decode M_S_wipe.2.1 9 = .ok (.ireturn, 1) := by decide +kernel
theorem d_S_wipe_10 : decode M_S_wipe.2.1 10 = .ok (.bipush 40, 2) := by decide +kernel
theorem d_S_wipe_12 : decode M_S_wipe.2.1 12 = .ok (.aload_n 0, 1) := by decide +kernel
theorem d_S_wipe_13 : decode M_S_wipe.2.1 13 = .ok (.getfield 18, 3) := by decide +kernel
theorem d_S_wipe_16 : decode M_S_wipe.2.1 16 = .ok (.iload_n 1, 1) := by decide +kernel
theorem d_S_wipe_17 : decode M_S_wipe.2.1 17 = .ok (.aaload, 1) := by decide +kernel
theorem d_S_wipe_18 : decode M_S_wipe.2.1 18 = .ok (.invokevirtual 140, 3) := by decide +kernel
theorem d_S_wipe_21 : decode M_S_wipe.2.1 21 = .ok (.isub, 1) := by decide +kernel
theorem d_S_wipe_22 : decode M_S_wipe.2.1 22 = .ok (.istore_n 2, 1) := by decide +kernel
theorem d_S_wipe_23 : decode M_S_wipe.2.1 23 = .ok (.aload_n 0, 1) := by decide +kernel
theorem d_S_wipe_24 : decode M_S_wipe.2.1 24 = .ok (.getfield 18, 3) := by decide +kernel
theorem d_S_wipe_27 : decode M_S_wipe.2.1 27 = .ok (.iload_n 1, 1) := by decide +kernel
theorem d_S_wipe_28 : decode M_S_wipe.2.1 28 = .ok (.aaload, 1) := by decide +kernel
theorem d_S_wipe_29 : decode M_S_wipe.2.1 29 = .ok (.invokevirtual 143, 3) := by decide +kernel
theorem d_S_wipe_32 : decode M_S_wipe.2.1 32 = .ok (.aload_n 0, 1) := by decide +kernel
theorem d_S_wipe_33 : decode M_S_wipe.2.1 33 = .ok (.getfield 18, 3) := by decide +kernel
theorem d_S_wipe_36 : decode M_S_wipe.2.1 36 = .ok (.iload_n 1, 1) := by decide +kernel
theorem d_S_wipe_37 : decode M_S_wipe.2.1 37 = .ok (.aaload, 1) := by decide +kernel
theorem d_S_wipe_38 : decode M_S_wipe.2.1 38 = .ok (.iconst 1, 1) := by decide +kernel
theorem d_S_wipe_39 : decode M_S_wipe.2.1 39 = .ok (.putfield 103, 3) := by decide +kernel
theorem d_S_wipe_42 : decode M_S_wipe.2.1 42 = .ok (.iload_n 2, 1) := by decide +kernel
theorem d_S_wipe_43 : decode M_S_wipe.2.1 43 = .ok (.ireturn, 1) := by decide +kernel
end
section
abbrev CS : Type := (Nat → Nat) × (Nat → Bool) × (Nat → Nat) × Nat × (Nat → Nat) × Nat × Int32 × Int32 × Int32 × (Nat → Nat) × (Nat → Nat) × (Nat → Nat → Nat) × (Nat → Nat → Nat) × (Nat → Nat → Nat) × (Nat → Nat → Nat) × (Nat → Nat) × (Nat → Bool) × (Nat → Int32) × (Nat → Nat → Nat) × (Nat → Nat → Bool) × (Nat → Nat → Bool) × (Nat → Nat → Nat) × (Nat → Nat → Nat) × (Nat → Nat → Nat) × (Nat → Nat → Nat → Nat)
def CS.begun (c : CS) : Nat → Nat := c.1
def CS.unst (c : CS) : Nat → Bool := c.2.1
def CS.tape (c : CS) : Nat → Nat := c.2.2.1
def CS.tapeN (c : CS) : Nat := c.2.2.2.1
def CS.gott (c : CS) : Nat → Nat := c.2.2.2.2.1
def CS.gotN (c : CS) : Nat := c.2.2.2.2.2.1
def CS.cut (c : CS) : Int32 := c.2.2.2.2.2.2.1
def CS.msgs (c : CS) : Int32 := c.2.2.2.2.2.2.2.1
def CS.syms (c : CS) : Int32 := c.2.2.2.2.2.2.2.2.1
def CS.chos (c : CS) : Nat → Nat := c.2.2.2.2.2.2.2.2.2.1
def CS.wire (c : CS) : Nat → Nat := c.2.2.2.2.2.2.2.2.2.2.1
def CS.mat (c : CS) : Nat → Nat → Nat := c.2.2.2.2.2.2.2.2.2.2.2.1
def CS.giv (c : CS) : Nat → Nat → Nat := c.2.2.2.2.2.2.2.2.2.2.2.2.1
def CS.squ (c : CS) : Nat → Nat → Nat := c.2.2.2.2.2.2.2.2.2.2.2.2.2.1
def CS.inv (c : CS) : Nat → Nat → Nat := c.2.2.2.2.2.2.2.2.2.2.2.2.2.2.1
def CS.resu (c : CS) : Nat → Nat := c.2.2.2.2.2.2.2.2.2.2.2.2.2.2.2.1
def CS.live (c : CS) : Nat → Bool := c.2.2.2.2.2.2.2.2.2.2.2.2.2.2.2.2.1
def CS.sent (c : CS) : Nat → Int32 := c.2.2.2.2.2.2.2.2.2.2.2.2.2.2.2.2.2.1
def CS.data (c : CS) : Nat → Nat → Nat := c.2.2.2.2.2.2.2.2.2.2.2.2.2.2.2.2.2.2.1
def CS.takn (c : CS) : Nat → Nat → Bool := c.2.2.2.2.2.2.2.2.2.2.2.2.2.2.2.2.2.2.2.1
def CS.sw (c : CS) : Nat → Nat → Bool := c.2.2.2.2.2.2.2.2.2.2.2.2.2.2.2.2.2.2.2.2.1
def CS.hver (c : CS) : Nat → Nat → Nat := c.2.2.2.2.2.2.2.2.2.2.2.2.2.2.2.2.2.2.2.2.2.1
def CS.hbyt (c : CS) : Nat → Nat → Nat := c.2.2.2.2.2.2.2.2.2.2.2.2.2.2.2.2.2.2.2.2.2.2.1
def CS.hstr (c : CS) : Nat → Nat → Nat := c.2.2.2.2.2.2.2.2.2.2.2.2.2.2.2.2.2.2.2.2.2.2.2.1
def CS.hpl (c : CS) : Nat → Nat → Nat → Nat := c.2.2.2.2.2.2.2.2.2.2.2.2.2.2.2.2.2.2.2.2.2.2.2.2
def CS.s_begun (c : CS) (v : Nat → Nat) : CS := (v, c.2)
def CS.s_unst (c : CS) (v : Nat → Bool) : CS := (c.1, v, c.2.2)
def CS.s_tape (c : CS) (v : Nat → Nat) : CS := (c.1, c.2.1, v, c.2.2.2)
def CS.s_tapeN (c : CS) (v : Nat) : CS := (c.1, c.2.1, c.2.2.1, v, c.2.2.2.2)
def CS.s_gott (c : CS) (v : Nat → Nat) : CS := (c.1, c.2.1, c.2.2.1, c.2.2.2.1, v, c.2.2.2.2.2)
def CS.s_gotN (c : CS) (v : Nat) : CS := (c.1, c.2.1, c.2.2.1, c.2.2.2.1, c.2.2.2.2.1, v, c.2.2.2.2.2.2)
def CS.s_cut (c : CS) (v : Int32) : CS := (c.1, c.2.1, c.2.2.1, c.2.2.2.1, c.2.2.2.2.1, c.2.2.2.2.2.1, v, c.2.2.2.2.2.2.2)
def CS.s_msgs (c : CS) (v : Int32) : CS := (c.1, c.2.1, c.2.2.1, c.2.2.2.1, c.2.2.2.2.1, c.2.2.2.2.2.1, c.2.2.2.2.2.2.1, v, c.2.2.2.2.2.2.2.2)
def CS.s_syms (c : CS) (v : Int32) : CS := (c.1, c.2.1, c.2.2.1, c.2.2.2.1, c.2.2.2.2.1, c.2.2.2.2.2.1, c.2.2.2.2.2.2.1, c.2.2.2.2.2.2.2.1, v, c.2.2.2.2.2.2.2.2.2)
def CS.s_chos (c : CS) (v : Nat → Nat) : CS := (c.1, c.2.1, c.2.2.1, c.2.2.2.1, c.2.2.2.2.1, c.2.2.2.2.2.1, c.2.2.2.2.2.2.1, c.2.2.2.2.2.2.2.1, c.2.2.2.2.2.2.2.2.1, v, c.2.2.2.2.2.2.2.2.2.2)
def CS.s_wire (c : CS) (v : Nat → Nat) : CS := (c.1, c.2.1, c.2.2.1, c.2.2.2.1, c.2.2.2.2.1, c.2.2.2.2.2.1, c.2.2.2.2.2.2.1, c.2.2.2.2.2.2.2.1, c.2.2.2.2.2.2.2.2.1, c.2.2.2.2.2.2.2.2.2.1, v, c.2.2.2.2.2.2.2.2.2.2.2)
def CS.s_mat (c : CS) (v : Nat → Nat → Nat) : CS := (c.1, c.2.1, c.2.2.1, c.2.2.2.1, c.2.2.2.2.1, c.2.2.2.2.2.1, c.2.2.2.2.2.2.1, c.2.2.2.2.2.2.2.1, c.2.2.2.2.2.2.2.2.1, c.2.2.2.2.2.2.2.2.2.1, c.2.2.2.2.2.2.2.2.2.2.1, v, c.2.2.2.2.2.2.2.2.2.2.2.2)
def CS.s_giv (c : CS) (v : Nat → Nat → Nat) : CS := (c.1, c.2.1, c.2.2.1, c.2.2.2.1, c.2.2.2.2.1, c.2.2.2.2.2.1, c.2.2.2.2.2.2.1, c.2.2.2.2.2.2.2.1, c.2.2.2.2.2.2.2.2.1, c.2.2.2.2.2.2.2.2.2.1, c.2.2.2.2.2.2.2.2.2.2.1, c.2.2.2.2.2.2.2.2.2.2.2.1, v, c.2.2.2.2.2.2.2.2.2.2.2.2.2)
def CS.s_squ (c : CS) (v : Nat → Nat → Nat) : CS := (c.1, c.2.1, c.2.2.1, c.2.2.2.1, c.2.2.2.2.1, c.2.2.2.2.2.1, c.2.2.2.2.2.2.1, c.2.2.2.2.2.2.2.1, c.2.2.2.2.2.2.2.2.1, c.2.2.2.2.2.2.2.2.2.1, c.2.2.2.2.2.2.2.2.2.2.1, c.2.2.2.2.2.2.2.2.2.2.2.1, c.2.2.2.2.2.2.2.2.2.2.2.2.1, v, c.2.2.2.2.2.2.2.2.2.2.2.2.2.2)
def CS.s_inv (c : CS) (v : Nat → Nat → Nat) : CS := (c.1, c.2.1, c.2.2.1, c.2.2.2.1, c.2.2.2.2.1, c.2.2.2.2.2.1, c.2.2.2.2.2.2.1, c.2.2.2.2.2.2.2.1, c.2.2.2.2.2.2.2.2.1, c.2.2.2.2.2.2.2.2.2.1, c.2.2.2.2.2.2.2.2.2.2.1, c.2.2.2.2.2.2.2.2.2.2.2.1, c.2.2.2.2.2.2.2.2.2.2.2.2.1, c.2.2.2.2.2.2.2.2.2.2.2.2.2.1, v, c.2.2.2.2.2.2.2.2.2.2.2.2.2.2.2)
def CS.s_resu (c : CS) (v : Nat → Nat) : CS := (c.1, c.2.1, c.2.2.1, c.2.2.2.1, c.2.2.2.2.1, c.2.2.2.2.2.1, c.2.2.2.2.2.2.1, c.2.2.2.2.2.2.2.1, c.2.2.2.2.2.2.2.2.1, c.2.2.2.2.2.2.2.2.2.1, c.2.2.2.2.2.2.2.2.2.2.1, c.2.2.2.2.2.2.2.2.2.2.2.1, c.2.2.2.2.2.2.2.2.2.2.2.2.1, c.2.2.2.2.2.2.2.2.2.2.2.2.2.1, c.2.2.2.2.2.2.2.2.2.2.2.2.2.2.1, v, c.2.2.2.2.2.2.2.2.2.2.2.2.2.2.2.2)
def CS.s_live (c : CS) (v : Nat → Bool) : CS := (c.1, c.2.1, c.2.2.1, c.2.2.2.1, c.2.2.2.2.1, c.2.2.2.2.2.1, c.2.2.2.2.2.2.1, c.2.2.2.2.2.2.2.1, c.2.2.2.2.2.2.2.2.1, c.2.2.2.2.2.2.2.2.2.1, c.2.2.2.2.2.2.2.2.2.2.1, c.2.2.2.2.2.2.2.2.2.2.2.1, c.2.2.2.2.2.2.2.2.2.2.2.2.1, c.2.2.2.2.2.2.2.2.2.2.2.2.2.1, c.2.2.2.2.2.2.2.2.2.2.2.2.2.2.1, c.2.2.2.2.2.2.2.2.2.2.2.2.2.2.2.1, v, c.2.2.2.2.2.2.2.2.2.2.2.2.2.2.2.2.2)
def CS.s_sent (c : CS) (v : Nat → Int32) : CS := (c.1, c.2.1, c.2.2.1, c.2.2.2.1, c.2.2.2.2.1, c.2.2.2.2.2.1, c.2.2.2.2.2.2.1, c.2.2.2.2.2.2.2.1, c.2.2.2.2.2.2.2.2.1, c.2.2.2.2.2.2.2.2.2.1, c.2.2.2.2.2.2.2.2.2.2.1, c.2.2.2.2.2.2.2.2.2.2.2.1, c.2.2.2.2.2.2.2.2.2.2.2.2.1, c.2.2.2.2.2.2.2.2.2.2.2.2.2.1, c.2.2.2.2.2.2.2.2.2.2.2.2.2.2.1, c.2.2.2.2.2.2.2.2.2.2.2.2.2.2.2.1, c.2.2.2.2.2.2.2.2.2.2.2.2.2.2.2.2.1, v, c.2.2.2.2.2.2.2.2.2.2.2.2.2.2.2.2.2.2)
def CS.s_data (c : CS) (v : Nat → Nat → Nat) : CS := (c.1, c.2.1, c.2.2.1, c.2.2.2.1, c.2.2.2.2.1, c.2.2.2.2.2.1, c.2.2.2.2.2.2.1, c.2.2.2.2.2.2.2.1, c.2.2.2.2.2.2.2.2.1, c.2.2.2.2.2.2.2.2.2.1, c.2.2.2.2.2.2.2.2.2.2.1, c.2.2.2.2.2.2.2.2.2.2.2.1, c.2.2.2.2.2.2.2.2.2.2.2.2.1, c.2.2.2.2.2.2.2.2.2.2.2.2.2.1, c.2.2.2.2.2.2.2.2.2.2.2.2.2.2.1, c.2.2.2.2.2.2.2.2.2.2.2.2.2.2.2.1, c.2.2.2.2.2.2.2.2.2.2.2.2.2.2.2.2.1, c.2.2.2.2.2.2.2.2.2.2.2.2.2.2.2.2.2.1, v, c.2.2.2.2.2.2.2.2.2.2.2.2.2.2.2.2.2.2.2)
def CS.s_takn (c : CS) (v : Nat → Nat → Bool) : CS := (c.1, c.2.1, c.2.2.1, c.2.2.2.1, c.2.2.2.2.1, c.2.2.2.2.2.1, c.2.2.2.2.2.2.1, c.2.2.2.2.2.2.2.1, c.2.2.2.2.2.2.2.2.1, c.2.2.2.2.2.2.2.2.2.1, c.2.2.2.2.2.2.2.2.2.2.1, c.2.2.2.2.2.2.2.2.2.2.2.1, c.2.2.2.2.2.2.2.2.2.2.2.2.1, c.2.2.2.2.2.2.2.2.2.2.2.2.2.1, c.2.2.2.2.2.2.2.2.2.2.2.2.2.2.1, c.2.2.2.2.2.2.2.2.2.2.2.2.2.2.2.1, c.2.2.2.2.2.2.2.2.2.2.2.2.2.2.2.2.1, c.2.2.2.2.2.2.2.2.2.2.2.2.2.2.2.2.2.1, c.2.2.2.2.2.2.2.2.2.2.2.2.2.2.2.2.2.2.1, v, c.2.2.2.2.2.2.2.2.2.2.2.2.2.2.2.2.2.2.2.2)
def CS.s_sw (c : CS) (v : Nat → Nat → Bool) : CS := (c.1, c.2.1, c.2.2.1, c.2.2.2.1, c.2.2.2.2.1, c.2.2.2.2.2.1, c.2.2.2.2.2.2.1, c.2.2.2.2.2.2.2.1, c.2.2.2.2.2.2.2.2.1, c.2.2.2.2.2.2.2.2.2.1, c.2.2.2.2.2.2.2.2.2.2.1, c.2.2.2.2.2.2.2.2.2.2.2.1, c.2.2.2.2.2.2.2.2.2.2.2.2.1, c.2.2.2.2.2.2.2.2.2.2.2.2.2.1, c.2.2.2.2.2.2.2.2.2.2.2.2.2.2.1, c.2.2.2.2.2.2.2.2.2.2.2.2.2.2.2.1, c.2.2.2.2.2.2.2.2.2.2.2.2.2.2.2.2.1, c.2.2.2.2.2.2.2.2.2.2.2.2.2.2.2.2.2.1, c.2.2.2.2.2.2.2.2.2.2.2.2.2.2.2.2.2.2.1, c.2.2.2.2.2.2.2.2.2.2.2.2.2.2.2.2.2.2.2.1, v, c.2.2.2.2.2.2.2.2.2.2.2.2.2.2.2.2.2.2.2.2.2)
def CS.s_hver (c : CS) (v : Nat → Nat → Nat) : CS := (c.1, c.2.1, c.2.2.1, c.2.2.2.1, c.2.2.2.2.1, c.2.2.2.2.2.1, c.2.2.2.2.2.2.1, c.2.2.2.2.2.2.2.1, c.2.2.2.2.2.2.2.2.1, c.2.2.2.2.2.2.2.2.2.1, c.2.2.2.2.2.2.2.2.2.2.1, c.2.2.2.2.2.2.2.2.2.2.2.1, c.2.2.2.2.2.2.2.2.2.2.2.2.1, c.2.2.2.2.2.2.2.2.2.2.2.2.2.1, c.2.2.2.2.2.2.2.2.2.2.2.2.2.2.1, c.2.2.2.2.2.2.2.2.2.2.2.2.2.2.2.1, c.2.2.2.2.2.2.2.2.2.2.2.2.2.2.2.2.1, c.2.2.2.2.2.2.2.2.2.2.2.2.2.2.2.2.2.1, c.2.2.2.2.2.2.2.2.2.2.2.2.2.2.2.2.2.2.1, c.2.2.2.2.2.2.2.2.2.2.2.2.2.2.2.2.2.2.2.1, c.2.2.2.2.2.2.2.2.2.2.2.2.2.2.2.2.2.2.2.2.1, v, c.2.2.2.2.2.2.2.2.2.2.2.2.2.2.2.2.2.2.2.2.2.2)
def CS.s_hbyt (c : CS) (v : Nat → Nat → Nat) : CS := (c.1, c.2.1, c.2.2.1, c.2.2.2.1, c.2.2.2.2.1, c.2.2.2.2.2.1, c.2.2.2.2.2.2.1, c.2.2.2.2.2.2.2.1, c.2.2.2.2.2.2.2.2.1, c.2.2.2.2.2.2.2.2.2.1, c.2.2.2.2.2.2.2.2.2.2.1, c.2.2.2.2.2.2.2.2.2.2.2.1, c.2.2.2.2.2.2.2.2.2.2.2.2.1, c.2.2.2.2.2.2.2.2.2.2.2.2.2.1, c.2.2.2.2.2.2.2.2.2.2.2.2.2.2.1, c.2.2.2.2.2.2.2.2.2.2.2.2.2.2.2.1, c.2.2.2.2.2.2.2.2.2.2.2.2.2.2.2.2.1, c.2.2.2.2.2.2.2.2.2.2.2.2.2.2.2.2.2.1, c.2.2.2.2.2.2.2.2.2.2.2.2.2.2.2.2.2.2.1, c.2.2.2.2.2.2.2.2.2.2.2.2.2.2.2.2.2.2.2.1, c.2.2.2.2.2.2.2.2.2.2.2.2.2.2.2.2.2.2.2.2.1, c.2.2.2.2.2.2.2.2.2.2.2.2.2.2.2.2.2.2.2.2.2.1, v, c.2.2.2.2.2.2.2.2.2.2.2.2.2.2.2.2.2.2.2.2.2.2.2)
def CS.s_hstr (c : CS) (v : Nat → Nat → Nat) : CS := (c.1, c.2.1, c.2.2.1, c.2.2.2.1, c.2.2.2.2.1, c.2.2.2.2.2.1, c.2.2.2.2.2.2.1, c.2.2.2.2.2.2.2.1, c.2.2.2.2.2.2.2.2.1, c.2.2.2.2.2.2.2.2.2.1, c.2.2.2.2.2.2.2.2.2.2.1, c.2.2.2.2.2.2.2.2.2.2.2.1, c.2.2.2.2.2.2.2.2.2.2.2.2.1, c.2.2.2.2.2.2.2.2.2.2.2.2.2.1, c.2.2.2.2.2.2.2.2.2.2.2.2.2.2.1, c.2.2.2.2.2.2.2.2.2.2.2.2.2.2.2.1, c.2.2.2.2.2.2.2.2.2.2.2.2.2.2.2.2.1, c.2.2.2.2.2.2.2.2.2.2.2.2.2.2.2.2.2.1, c.2.2.2.2.2.2.2.2.2.2.2.2.2.2.2.2.2.2.1, c.2.2.2.2.2.2.2.2.2.2.2.2.2.2.2.2.2.2.2.1, c.2.2.2.2.2.2.2.2.2.2.2.2.2.2.2.2.2.2.2.2.1, c.2.2.2.2.2.2.2.2.2.2.2.2.2.2.2.2.2.2.2.2.2.1, c.2.2.2.2.2.2.2.2.2.2.2.2.2.2.2.2.2.2.2.2.2.2.1, v, c.2.2.2.2.2.2.2.2.2.2.2.2.2.2.2.2.2.2.2.2.2.2.2.2)
def CS.s_hpl (c : CS) (v : Nat → Nat → Nat → Nat) : CS := (c.1, c.2.1, c.2.2.1, c.2.2.2.1, c.2.2.2.2.1, c.2.2.2.2.2.1, c.2.2.2.2.2.2.1, c.2.2.2.2.2.2.2.1, c.2.2.2.2.2.2.2.2.1, c.2.2.2.2.2.2.2.2.2.1, c.2.2.2.2.2.2.2.2.2.2.1, c.2.2.2.2.2.2.2.2.2.2.2.1, c.2.2.2.2.2.2.2.2.2.2.2.2.1, c.2.2.2.2.2.2.2.2.2.2.2.2.2.1, c.2.2.2.2.2.2.2.2.2.2.2.2.2.2.1, c.2.2.2.2.2.2.2.2.2.2.2.2.2.2.2.1, c.2.2.2.2.2.2.2.2.2.2.2.2.2.2.2.2.1, c.2.2.2.2.2.2.2.2.2.2.2.2.2.2.2.2.2.1, c.2.2.2.2.2.2.2.2.2.2.2.2.2.2.2.2.2.2.1, c.2.2.2.2.2.2.2.2.2.2.2.2.2.2.2.2.2.2.2.1, c.2.2.2.2.2.2.2.2.2.2.2.2.2.2.2.2.2.2.2.2.1, c.2.2.2.2.2.2.2.2.2.2.2.2.2.2.2.2.2.2.2.2.2.1, c.2.2.2.2.2.2.2.2.2.2.2.2.2.2.2.2.2.2.2.2.2.2.1, c.2.2.2.2.2.2.2.2.2.2.2.2.2.2.2.2.2.2.2.2.2.2.2.1, v)
abbrev MS : Type := (Nat → Nat) × Nat × Int32 × (Nat → Bool) × (Nat → Int32) × (Nat → Bool) × (Nat → Nat) × (Nat → Bool) × (Nat → Nat) × (Nat → Nat) × (Nat → Nat) × (Nat → Nat) × (Nat → Bool) × (Nat → Nat) × Nat × Int32 × Int32 × (Nat → Nat) × (Nat → Nat) × (Nat → Nat)
def MS.tape (c : MS) : Nat → Nat := c.1
def MS.taped (c : MS) : Nat := c.2.1
def MS.cutA (c : MS) : Int32 := c.2.2.1
def MS.fail (c : MS) : Nat → Bool := c.2.2.2.1
def MS.sent (c : MS) : Nat → Int32 := c.2.2.2.2.1
def MS.used (c : MS) : Nat → Bool := c.2.2.2.2.2.1
def MS.byts (c : MS) : Nat → Nat := c.2.2.2.2.2.2.1
def MS.has (c : MS) : Nat → Bool := c.2.2.2.2.2.2.2.1
def MS.ver (c : MS) : Nat → Nat := c.2.2.2.2.2.2.2.2.1
def MS.size (c : MS) : Nat → Nat := c.2.2.2.2.2.2.2.2.2.1
def MS.blk (c : MS) : Nat → Nat := c.2.2.2.2.2.2.2.2.2.2.1
def MS.latest (c : MS) : Nat → Nat := c.2.2.2.2.2.2.2.2.2.2.2.1
def MS.opn (c : MS) : Nat → Bool := c.2.2.2.2.2.2.2.2.2.2.2.2.1
def MS.got (c : MS) : Nat → Nat := c.2.2.2.2.2.2.2.2.2.2.2.2.2.1
def MS.gotN (c : MS) : Nat := c.2.2.2.2.2.2.2.2.2.2.2.2.2.2.1
def MS.msgs (c : MS) : Int32 := c.2.2.2.2.2.2.2.2.2.2.2.2.2.2.2.1
def MS.syms (c : MS) : Int32 := c.2.2.2.2.2.2.2.2.2.2.2.2.2.2.2.2.1
def MS.eqs (c : MS) : Nat → Nat := c.2.2.2.2.2.2.2.2.2.2.2.2.2.2.2.2.2.1
def MS.chos (c : MS) : Nat → Nat := c.2.2.2.2.2.2.2.2.2.2.2.2.2.2.2.2.2.2.1
def MS.right (c : MS) : Nat → Nat := c.2.2.2.2.2.2.2.2.2.2.2.2.2.2.2.2.2.2.2
def MS.s_tape (c : MS) (v : Nat → Nat) : MS := (v, c.2)
def MS.s_taped (c : MS) (v : Nat) : MS := (c.1, v, c.2.2)
def MS.s_cutA (c : MS) (v : Int32) : MS := (c.1, c.2.1, v, c.2.2.2)
def MS.s_fail (c : MS) (v : Nat → Bool) : MS := (c.1, c.2.1, c.2.2.1, v, c.2.2.2.2)
def MS.s_sent (c : MS) (v : Nat → Int32) : MS := (c.1, c.2.1, c.2.2.1, c.2.2.2.1, v, c.2.2.2.2.2)
def MS.s_used (c : MS) (v : Nat → Bool) : MS := (c.1, c.2.1, c.2.2.1, c.2.2.2.1, c.2.2.2.2.1, v, c.2.2.2.2.2.2)
def MS.s_byts (c : MS) (v : Nat → Nat) : MS := (c.1, c.2.1, c.2.2.1, c.2.2.2.1, c.2.2.2.2.1, c.2.2.2.2.2.1, v, c.2.2.2.2.2.2.2)
def MS.s_has (c : MS) (v : Nat → Bool) : MS := (c.1, c.2.1, c.2.2.1, c.2.2.2.1, c.2.2.2.2.1, c.2.2.2.2.2.1, c.2.2.2.2.2.2.1, v, c.2.2.2.2.2.2.2.2)
def MS.s_ver (c : MS) (v : Nat → Nat) : MS := (c.1, c.2.1, c.2.2.1, c.2.2.2.1, c.2.2.2.2.1, c.2.2.2.2.2.1, c.2.2.2.2.2.2.1, c.2.2.2.2.2.2.2.1, v, c.2.2.2.2.2.2.2.2.2)
def MS.s_size (c : MS) (v : Nat → Nat) : MS := (c.1, c.2.1, c.2.2.1, c.2.2.2.1, c.2.2.2.2.1, c.2.2.2.2.2.1, c.2.2.2.2.2.2.1, c.2.2.2.2.2.2.2.1, c.2.2.2.2.2.2.2.2.1, v, c.2.2.2.2.2.2.2.2.2.2)
def MS.s_blk (c : MS) (v : Nat → Nat) : MS := (c.1, c.2.1, c.2.2.1, c.2.2.2.1, c.2.2.2.2.1, c.2.2.2.2.2.1, c.2.2.2.2.2.2.1, c.2.2.2.2.2.2.2.1, c.2.2.2.2.2.2.2.2.1, c.2.2.2.2.2.2.2.2.2.1, v, c.2.2.2.2.2.2.2.2.2.2.2)
def MS.s_latest (c : MS) (v : Nat → Nat) : MS := (c.1, c.2.1, c.2.2.1, c.2.2.2.1, c.2.2.2.2.1, c.2.2.2.2.2.1, c.2.2.2.2.2.2.1, c.2.2.2.2.2.2.2.1, c.2.2.2.2.2.2.2.2.1, c.2.2.2.2.2.2.2.2.2.1, c.2.2.2.2.2.2.2.2.2.2.1, v, c.2.2.2.2.2.2.2.2.2.2.2.2)
def MS.s_opn (c : MS) (v : Nat → Bool) : MS := (c.1, c.2.1, c.2.2.1, c.2.2.2.1, c.2.2.2.2.1, c.2.2.2.2.2.1, c.2.2.2.2.2.2.1, c.2.2.2.2.2.2.2.1, c.2.2.2.2.2.2.2.2.1, c.2.2.2.2.2.2.2.2.2.1, c.2.2.2.2.2.2.2.2.2.2.1, c.2.2.2.2.2.2.2.2.2.2.2.1, v, c.2.2.2.2.2.2.2.2.2.2.2.2.2)
def MS.s_got (c : MS) (v : Nat → Nat) : MS := (c.1, c.2.1, c.2.2.1, c.2.2.2.1, c.2.2.2.2.1, c.2.2.2.2.2.1, c.2.2.2.2.2.2.1, c.2.2.2.2.2.2.2.1, c.2.2.2.2.2.2.2.2.1, c.2.2.2.2.2.2.2.2.2.1, c.2.2.2.2.2.2.2.2.2.2.1, c.2.2.2.2.2.2.2.2.2.2.2.1, c.2.2.2.2.2.2.2.2.2.2.2.2.1, v, c.2.2.2.2.2.2.2.2.2.2.2.2.2.2)
def MS.s_gotN (c : MS) (v : Nat) : MS := (c.1, c.2.1, c.2.2.1, c.2.2.2.1, c.2.2.2.2.1, c.2.2.2.2.2.1, c.2.2.2.2.2.2.1, c.2.2.2.2.2.2.2.1, c.2.2.2.2.2.2.2.2.1, c.2.2.2.2.2.2.2.2.2.1, c.2.2.2.2.2.2.2.2.2.2.1, c.2.2.2.2.2.2.2.2.2.2.2.1, c.2.2.2.2.2.2.2.2.2.2.2.2.1, c.2.2.2.2.2.2.2.2.2.2.2.2.2.1, v, c.2.2.2.2.2.2.2.2.2.2.2.2.2.2.2)
def MS.s_msgs (c : MS) (v : Int32) : MS := (c.1, c.2.1, c.2.2.1, c.2.2.2.1, c.2.2.2.2.1, c.2.2.2.2.2.1, c.2.2.2.2.2.2.1, c.2.2.2.2.2.2.2.1, c.2.2.2.2.2.2.2.2.1, c.2.2.2.2.2.2.2.2.2.1, c.2.2.2.2.2.2.2.2.2.2.1, c.2.2.2.2.2.2.2.2.2.2.2.1, c.2.2.2.2.2.2.2.2.2.2.2.2.1, c.2.2.2.2.2.2.2.2.2.2.2.2.2.1, c.2.2.2.2.2.2.2.2.2.2.2.2.2.2.1, v, c.2.2.2.2.2.2.2.2.2.2.2.2.2.2.2.2)
def MS.s_syms (c : MS) (v : Int32) : MS := (c.1, c.2.1, c.2.2.1, c.2.2.2.1, c.2.2.2.2.1, c.2.2.2.2.2.1, c.2.2.2.2.2.2.1, c.2.2.2.2.2.2.2.1, c.2.2.2.2.2.2.2.2.1, c.2.2.2.2.2.2.2.2.2.1, c.2.2.2.2.2.2.2.2.2.2.1, c.2.2.2.2.2.2.2.2.2.2.2.1, c.2.2.2.2.2.2.2.2.2.2.2.2.1, c.2.2.2.2.2.2.2.2.2.2.2.2.2.1, c.2.2.2.2.2.2.2.2.2.2.2.2.2.2.1, c.2.2.2.2.2.2.2.2.2.2.2.2.2.2.2.1, v, c.2.2.2.2.2.2.2.2.2.2.2.2.2.2.2.2.2)
def MS.s_eqs (c : MS) (v : Nat → Nat) : MS := (c.1, c.2.1, c.2.2.1, c.2.2.2.1, c.2.2.2.2.1, c.2.2.2.2.2.1, c.2.2.2.2.2.2.1, c.2.2.2.2.2.2.2.1, c.2.2.2.2.2.2.2.2.1, c.2.2.2.2.2.2.2.2.2.1, c.2.2.2.2.2.2.2.2.2.2.1, c.2.2.2.2.2.2.2.2.2.2.2.1, c.2.2.2.2.2.2.2.2.2.2.2.2.1, c.2.2.2.2.2.2.2.2.2.2.2.2.2.1, c.2.2.2.2.2.2.2.2.2.2.2.2.2.2.1, c.2.2.2.2.2.2.2.2.2.2.2.2.2.2.2.1, c.2.2.2.2.2.2.2.2.2.2.2.2.2.2.2.2.1, v, c.2.2.2.2.2.2.2.2.2.2.2.2.2.2.2.2.2.2)
def MS.s_chos (c : MS) (v : Nat → Nat) : MS := (c.1, c.2.1, c.2.2.1, c.2.2.2.1, c.2.2.2.2.1, c.2.2.2.2.2.1, c.2.2.2.2.2.2.1, c.2.2.2.2.2.2.2.1, c.2.2.2.2.2.2.2.2.1, c.2.2.2.2.2.2.2.2.2.1, c.2.2.2.2.2.2.2.2.2.2.1, c.2.2.2.2.2.2.2.2.2.2.2.1, c.2.2.2.2.2.2.2.2.2.2.2.2.1, c.2.2.2.2.2.2.2.2.2.2.2.2.2.1, c.2.2.2.2.2.2.2.2.2.2.2.2.2.2.1, c.2.2.2.2.2.2.2.2.2.2.2.2.2.2.2.1, c.2.2.2.2.2.2.2.2.2.2.2.2.2.2.2.2.1, c.2.2.2.2.2.2.2.2.2.2.2.2.2.2.2.2.2.1, v, c.2.2.2.2.2.2.2.2.2.2.2.2.2.2.2.2.2.2.2)
def MS.s_right (c : MS) (v : Nat → Nat) : MS := (c.1, c.2.1, c.2.2.1, c.2.2.2.1, c.2.2.2.2.1, c.2.2.2.2.2.1, c.2.2.2.2.2.2.1, c.2.2.2.2.2.2.2.1, c.2.2.2.2.2.2.2.2.1, c.2.2.2.2.2.2.2.2.2.1, c.2.2.2.2.2.2.2.2.2.2.1, c.2.2.2.2.2.2.2.2.2.2.2.1, c.2.2.2.2.2.2.2.2.2.2.2.2.1, c.2.2.2.2.2.2.2.2.2.2.2.2.2.1, c.2.2.2.2.2.2.2.2.2.2.2.2.2.2.1, c.2.2.2.2.2.2.2.2.2.2.2.2.2.2.2.1, c.2.2.2.2.2.2.2.2.2.2.2.2.2.2.2.2.1, c.2.2.2.2.2.2.2.2.2.2.2.2.2.2.2.2.2.1, c.2.2.2.2.2.2.2.2.2.2.2.2.2.2.2.2.2.2.1, v)
def up2 {α : Type} (f : Nat → Nat → α) (i j : Nat) (v : α) : Nat → Nat → α := upN f i (upN (f i) j v)
theorem upN_s {α : Type} {f : Nat → α} {i : Nat} {v : α} : upN f i v i = v := if_pos rfl
theorem upN_n {α : Type} {f : Nat → α} {i j : Nat} {v : α} (h : j ≠ i) : upN f i v j = f j := if_neg h
def rp (c : CS) (i o : Nat) : Nat := 2 * o + (if c.sw i o then 1 else 0)
def sp (c : CS) (i o : Nat) : Nat := 2 * o + (if c.sw i o then 0 else 1)
-- the field's tables, as its constructor makes them
def xt (x : Nat) : Nat := if 2 * x < 256 then 2 * x else (2 * x) ^^^ 285
def pwN : Nat → Nat
  | 0 => 1
  | e + 1 => xt (pwN e)
def pwT (e : Nat) : Nat := if e < 255 then pwN e else if e < 510 then pwN (e - 255) else 0
def lgN : Nat → Nat → Nat
  | 0 => fun _ => 0
  | e + 1 => upN (lgN e) (pwN e % 256) e
def exT : Nat → Nat := lgN 255
def mulT (a b : Nat) : Nat := if a = 0 ∨ b = 0 then 0 else pwT (exT a + exT b)
def quoT (a b : Nat) : Nat := if a = 0 ∨ b = 0 then 0 else pwT (exT a + 255 - exT b)
def rowT (i : Nat) : Nat → Nat
  | 0 => 1
  | c + 1 => mulT (rowT i c) (i + 1)
def aS (g : GX) : Nat := g.1 + (0)
def aC (g : GX) : Nat := g.1 + (1)
def aF (g : GX) : Nat := g.1 + (2)
def aPw (g : GX) : Nat := g.1 + (3)
def aEx (g : GX) : Nat := g.1 + (4)
def aRows (g : GX) : Nat := g.1 + (5)
def aRow (g : GX) (i : Nat) : Nat := g.1 + (6 + i)
def aMat (g : GX) : Nat := g.1 + (18)
def aMatR (g : GX) (i : Nat) : Nat := g.1 + (19 + i)
def aGiv (g : GX) : Nat := g.1 + (27)
def aGivR (g : GX) (i : Nat) : Nat := g.1 + (28 + i)
def aSqu (g : GX) : Nat := g.1 + (33)
def aSquR (g : GX) (i : Nat) : Nat := g.1 + (34 + i)
def aInv (g : GX) : Nat := g.1 + (42)
def aInvR (g : GX) (i : Nat) : Nat := g.1 + (43 + i)
def aRes (g : GX) : Nat := g.1 + (51)
def aNodes (g : GX) : Nat := g.1 + (52)
def aBeg (g : GX) : Nat := g.1 + (53)
def aUns (g : GX) : Nat := g.1 + (54)
def aTap (g : GX) : Nat := g.1 + (55)
def aGot (g : GX) : Nat := g.1 + (56)
def aCho (g : GX) : Nat := g.1 + (57)
def aWir (g : GX) : Nat := g.1 + (58)
def aN (g : GX) (i : Nat) : Nat := g.1 + (59 + 29 * i)
def aD (g : GX) (i : Nat) : Nat := g.1 + (60 + 29 * i)
def aT (g : GX) (i : Nat) : Nat := g.1 + (61 + 29 * i)
def aR (g : GX) (i : Nat) : Nat := g.1 + (62 + 29 * i)
def aSh (g : GX) (i : Nat) : Nat := g.1 + (63 + 29 * i)
def aH (g : GX) (i p : Nat) : Nat := g.1 + (64 + 29 * i + 2 * p)
def aPl (g : GX) (i p : Nat) : Nat := g.1 + (65 + 29 * i + 2 * p)
def aM (g : GX) : Nat := g.1 + (407)
def amTape (g : GX) : Nat := g.1 + (408)
def amFail (g : GX) : Nat := g.1 + (409)
def amSent (g : GX) : Nat := g.1 + (410)
def amUsed (g : GX) : Nat := g.1 + (411)
def amByts (g : GX) : Nat := g.1 + (412)
def amHas (g : GX) : Nat := g.1 + (413)
def amVer (g : GX) : Nat := g.1 + (414)
def amSize (g : GX) : Nat := g.1 + (415)
def amBlk (g : GX) : Nat := g.1 + (416)
def amLat (g : GX) : Nat := g.1 + (417)
def amOpn (g : GX) : Nat := g.1 + (418)
def amGot (g : GX) : Nat := g.1 + (419)
def amEqs (g : GX) : Nat := g.1 + (420)
def amCho (g : GX) : Nat := g.1 + (421)
def amRig (g : GX) : Nat := g.1 + (422)
def fS (g : GX) (c : CS) : List Value := [.ref (aC g), .ref (aNodes g), .ref (aBeg g), .ref (aUns g), .ref (aTap g), .int (nI c.tapeN), .ref (aGot g), .int (nI c.gotN), .int c.cut, .int c.msgs, .int c.syms, .ref (aCho g), .ref (aWir g)]
def fC (g : GX) : List Value := [.ref (aF g), .ref (aRows g), .ref (aMat g), .ref (aGiv g), .ref (aSqu g), .ref (aInv g), .ref (aRes g)]
def fF (g : GX) : List Value := [.ref (aPw g), .ref (aEx g)]
def fN (g : GX) (c : CS) (i : Nat) : List Value := [.ref (aD g i), .ref (aT g i), .ref (aR g i), .ref (aSh g i), .int (b2 (c.live i)), .int (c.sent i)]
def fH (g : GX) (c : CS) (i p : Nat) : List Value := [.ref (aPl g i p), .int (nI (c.hver i p)), .int (nI (c.hbyt i p)), .int (nI (c.hstr i p))]
def fM (g : GX) (m : MS) : List Value := [.ref (amTape g), .int (nI m.taped), .int m.cutA, .ref (amFail g), .ref (amSent g), .ref (amUsed g), .ref (amByts g), .ref (amHas g), .ref (amVer g), .ref (amSize g), .ref (amBlk g), .ref (amLat g), .ref (amOpn g), .ref (amGot g), .int (nI m.gotN), .int m.msgs, .int m.syms, .ref (amEqs g), .ref (amCho g), .ref (amRig g)]
def qR (g : GX) (c : CS) (i : Nat) : Nat → Option Nat := fun o => some (aH g i (rp c i o))
def qS (g : GX) (c : CS) (i : Nat) : Nat → Option Nat := fun o => some (aH g i (sp c i o))
def qA (t N : Nat) (f : Nat → Option Nat) : AC := .inl (t, N, .inr (.inr (.inr (.inr f))))
def iA (N : Nat) (f : Nat → Nat) : AC := .inl (0, N, .inl (nF f))
def zA (N : Nat) (f : Nat → Bool) : AC := .inl (1, N, .inl (bF f))
def jA (N : Nat) (f : Nat → Int32) : AC := .inl (0, N, .inl f)
def cellK (g : GX) (c : CS) (m : MS) (t i j : Nat) : AC := match t with
  | 0 => .inr (4, fS g c)
  | 1 => .inr (0, fC g)
  | 2 => .inr (1, fF g)
  | 3 => iA 512 pwT
  | 4 => iA 256 exT
  | 5 => qA 4 12 (fun r => some (aRow g r))
  | 6 => iA 8 (rowT i)
  | 7 => qA 4 8 (fun r => some (aMatR g r))
  | 8 => iA 8 (c.mat i)
  | 9 => qA 4 5 (fun r => some (aGivR g r))
  | 10 => iA 8 (c.giv i)
  | 11 => qA 4 8 (fun r => some (aSquR g r))
  | 12 => iA 8 (c.squ i)
  | 13 => qA 4 8 (fun r => some (aInvR g r))
  | 14 => iA 8 (c.inv i)
  | 15 => iA 8 c.resu
  | 16 => qA 2 12 (fun r => some (aN g r))
  | 17 => iA 6 c.begun
  | 18 => zA 6 c.unst
  | 19 => iA 240 c.tape
  | 20 => iA 240 c.gott
  | 21 => iA 8 c.chos
  | 22 => iA 8 c.wire
  | 23 => .inr (3, fN g c i)
  | 24 => iA 320 (c.data i)
  | 25 => zA 40 (c.takn i)
  | 26 => qA 3 6 (qR g c i)
  | 27 => qA 3 6 (qS g c i)
  | 28 => .inr (2, fH g c i j)
  | 29 => iA 8 (c.hpl i j)
  | 30 => .inr (5, fM g m)
  | 31 => iA 240 m.tape
  | 32 => zA 12 m.fail
  | 33 => jA 12 m.sent
  | 34 => zA 480 m.used
  | 35 => iA 3840 m.byts
  | 36 => zA 144 m.has
  | 37 => iA 144 m.ver
  | 38 => iA 144 m.size
  | 39 => iA 1152 m.blk
  | 40 => iA 6 m.latest
  | 41 => zA 6 m.opn
  | 42 => iA 240 m.got
  | 43 => iA 128 m.eqs
  | 44 => iA 8 m.chos
  | _ => iA 15 m.right
def kd (r : Nat) : Nat × Nat × Nat :=
  if r < 6 then (r, 0, 0) else if r < 18 then (6, r - 6, 0) else if r < 19 then (7, 0, 0) else if r < 27 then (8, r - 19, 0) else if r < 28 then (9, 0, 0) else if r < 33 then (10, r - 28, 0) else if r < 34 then (11, 0, 0) else if r < 42 then (12, r - 34, 0) else if r < 43 then (13, 0, 0) else if r < 51 then (14, r - 43, 0)
  else if r < 59 then (r - 36, 0, 0) else if r < 407 then (if (r - 59) % 29 < 5 then (23 + (r - 59) % 29, (r - 59) / 29, 0) else if ((r - 59) % 29 - 5) % 2 = 0 then (28, (r - 59) / 29, ((r - 59) % 29 - 5) / 2) else (29, (r - 59) / 29, ((r - 59) % 29 - 5) / 2)) else (r - 377, 0, 0)
def adK (q : Nat × Nat × Nat) : Nat :=
  if q.1 < 6 then q.1 else if q.1 = 6 then 6 + q.2.1 else if q.1 = 7 then 18 else if q.1 = 8 then 19 + q.2.1 else if q.1 = 9 then 27 else if q.1 = 10 then 28 + q.2.1 else if q.1 = 11 then 33 else if q.1 = 12 then 34 + q.2.1 else if q.1 = 13 then 42 else if q.1 = 14 then 43 + q.2.1
  else if q.1 < 23 then q.1 + 36 else if q.1 < 28 then 59 + 29 * q.2.1 + (q.1 - 23) else if q.1 = 28 then 64 + 29 * q.2.1 + 2 * q.2.2 else if q.1 = 29 then 65 + 29 * q.2.1 + 2 * q.2.2 else q.1 + 377
theorem adK_kd (r : Nat) : adK (kd r) = r := by
  by_cases c0 : r < 6
  · have e : kd r = (r, 0, 0) := by
      unfold kd
      rw [if_pos c0]
    rw [e]
    unfold adK
    dsimp only
    repeat (first | rw [if_pos (by omega)] | rw [if_neg (by omega)])
    all_goals omega
  by_cases c1 : r < 18
  · have e : kd r = (6, r - 6, 0) := by
      unfold kd
      rw [if_neg c0, if_pos c1]
    rw [e]
    show 6 + (r - 6) = r
    omega
  by_cases c2 : r < 19
  · have e : kd r = (7, 0, 0) := by
      unfold kd
      rw [if_neg c0, if_neg c1, if_pos c2]
    rw [e]
    show 18 = r
    omega
  by_cases c3 : r < 27
  · have e : kd r = (8, r - 19, 0) := by
      unfold kd
      rw [if_neg c0, if_neg c1, if_neg c2, if_pos c3]
    rw [e]
    show 19 + (r - 19) = r
    omega
  by_cases c4 : r < 28
  · have e : kd r = (9, 0, 0) := by
      unfold kd
      rw [if_neg c0, if_neg c1, if_neg c2, if_neg c3, if_pos c4]
    rw [e]
    show 27 = r
    omega
  by_cases c5 : r < 33
  · have e : kd r = (10, r - 28, 0) := by
      unfold kd
      rw [if_neg c0, if_neg c1, if_neg c2, if_neg c3, if_neg c4, if_pos c5]
    rw [e]
    show 28 + (r - 28) = r
    omega
  by_cases c6 : r < 34
  · have e : kd r = (11, 0, 0) := by
      unfold kd
      rw [if_neg c0, if_neg c1, if_neg c2, if_neg c3, if_neg c4, if_neg c5, if_pos c6]
    rw [e]
    show 33 = r
    omega
  by_cases c7 : r < 42
  · have e : kd r = (12, r - 34, 0) := by
      unfold kd
      rw [if_neg c0, if_neg c1, if_neg c2, if_neg c3, if_neg c4, if_neg c5, if_neg c6, if_pos c7]
    rw [e]
    show 34 + (r - 34) = r
    omega
  by_cases c8 : r < 43
  · have e : kd r = (13, 0, 0) := by
      unfold kd
      rw [if_neg c0, if_neg c1, if_neg c2, if_neg c3, if_neg c4, if_neg c5, if_neg c6, if_neg c7, if_pos c8]
    rw [e]
    show 42 = r
    omega
  by_cases c9 : r < 51
  · have e : kd r = (14, r - 43, 0) := by
      unfold kd
      rw [if_neg c0, if_neg c1, if_neg c2, if_neg c3, if_neg c4, if_neg c5, if_neg c6, if_neg c7, if_neg c8, if_pos c9]
    rw [e]
    show 43 + (r - 43) = r
    omega
  by_cases c10 : r < 59
  · have e : kd r = (r - 36, 0, 0) := by
      unfold kd
      rw [if_neg c0, if_neg c1, if_neg c2, if_neg c3, if_neg c4, if_neg c5, if_neg c6, if_neg c7, if_neg c8, if_neg c9, if_pos c10]
    rw [e]
    unfold adK
    dsimp only
    repeat (first | rw [if_pos (by omega)] | rw [if_neg (by omega)])
    all_goals omega
  by_cases ca : r < 407
  · by_cases cb : (r - 59) % 29 < 5
    · have e : kd r = (23 + (r - 59) % 29, (r - 59) / 29, 0) := by
        unfold kd
        rw [if_neg c0, if_neg c1, if_neg c2, if_neg c3, if_neg c4, if_neg c5, if_neg c6, if_neg c7, if_neg c8, if_neg c9, if_neg c10, if_pos ca, if_pos cb]
      rw [e]
      unfold adK
      dsimp only
      repeat (first | rw [if_pos (by omega)] | rw [if_neg (by omega)])
      all_goals omega
    · by_cases cc : ((r - 59) % 29 - 5) % 2 = 0
      · have e : kd r = (28, (r - 59) / 29, ((r - 59) % 29 - 5) / 2) := by
          unfold kd
          rw [if_neg c0, if_neg c1, if_neg c2, if_neg c3, if_neg c4, if_neg c5, if_neg c6, if_neg c7, if_neg c8, if_neg c9, if_neg c10, if_pos ca, if_neg cb, if_pos cc]
        rw [e]
        show 64 + 29 * ((r - 59) / 29) + 2 * (((r - 59) % 29 - 5) / 2) = r
        omega
      · have e : kd r = (29, (r - 59) / 29, ((r - 59) % 29 - 5) / 2) := by
          unfold kd
          rw [if_neg c0, if_neg c1, if_neg c2, if_neg c3, if_neg c4, if_neg c5, if_neg c6, if_neg c7, if_neg c8, if_neg c9, if_neg c10, if_pos ca, if_neg cb, if_neg cc]
        rw [e]
        show 65 + 29 * ((r - 59) / 29) + 2 * (((r - 59) % 29 - 5) / 2) = r
        omega
  · have e : kd r = (r - 377, 0, 0) := by
      unfold kd
      rw [if_neg c0, if_neg c1, if_neg c2, if_neg c3, if_neg c4, if_neg c5, if_neg c6, if_neg c7, if_neg c8, if_neg c9, if_neg c10, if_neg ca]
    rw [e]
    unfold adK
    dsimp only
    repeat (first | rw [if_pos (by omega)] | rw [if_neg (by omega)])
    all_goals omega
theorem kd_inj {r r' : Nat} (h : kd r = kd r') : r = r' := by rw [← adK_kd r, ← adK_kd r', h]
def kok (t i j : Nat) : Prop := (t ≠ 28 → t ≠ 29 → j = 0) ∧ ((t < 6 ∨ t = 7 ∨ t = 9 ∨ t = 11 ∨ t = 13 ∨ (15 ≤ t ∧ t < 23) ∨ 30 ≤ t) → i = 0) ∧ t ≤ 45
theorem kok_kd {r : Nat} (h : r < 423) : kok (kd r).1 (kd r).2.1 (kd r).2.2 := by
  by_cases c0 : r < 6
  · have e : kd r = (r, 0, 0) := by
      unfold kd
      rw [if_pos c0]
    rw [e]
    unfold kok
    dsimp only
    omega
  by_cases c1 : r < 18
  · have e : kd r = (6, r - 6, 0) := by
      unfold kd
      rw [if_neg c0, if_pos c1]
    rw [e]
    unfold kok
    dsimp only
    omega
  by_cases c2 : r < 19
  · have e : kd r = (7, 0, 0) := by
      unfold kd
      rw [if_neg c0, if_neg c1, if_pos c2]
    rw [e]
    unfold kok
    dsimp only
    omega
  by_cases c3 : r < 27
  · have e : kd r = (8, r - 19, 0) := by
      unfold kd
      rw [if_neg c0, if_neg c1, if_neg c2, if_pos c3]
    rw [e]
    unfold kok
    dsimp only
    omega
  by_cases c4 : r < 28
  · have e : kd r = (9, 0, 0) := by
      unfold kd
      rw [if_neg c0, if_neg c1, if_neg c2, if_neg c3, if_pos c4]
    rw [e]
    unfold kok
    dsimp only
    omega
  by_cases c5 : r < 33
  · have e : kd r = (10, r - 28, 0) := by
      unfold kd
      rw [if_neg c0, if_neg c1, if_neg c2, if_neg c3, if_neg c4, if_pos c5]
    rw [e]
    unfold kok
    dsimp only
    omega
  by_cases c6 : r < 34
  · have e : kd r = (11, 0, 0) := by
      unfold kd
      rw [if_neg c0, if_neg c1, if_neg c2, if_neg c3, if_neg c4, if_neg c5, if_pos c6]
    rw [e]
    unfold kok
    dsimp only
    omega
  by_cases c7 : r < 42
  · have e : kd r = (12, r - 34, 0) := by
      unfold kd
      rw [if_neg c0, if_neg c1, if_neg c2, if_neg c3, if_neg c4, if_neg c5, if_neg c6, if_pos c7]
    rw [e]
    unfold kok
    dsimp only
    omega
  by_cases c8 : r < 43
  · have e : kd r = (13, 0, 0) := by
      unfold kd
      rw [if_neg c0, if_neg c1, if_neg c2, if_neg c3, if_neg c4, if_neg c5, if_neg c6, if_neg c7, if_pos c8]
    rw [e]
    unfold kok
    dsimp only
    omega
  by_cases c9 : r < 51
  · have e : kd r = (14, r - 43, 0) := by
      unfold kd
      rw [if_neg c0, if_neg c1, if_neg c2, if_neg c3, if_neg c4, if_neg c5, if_neg c6, if_neg c7, if_neg c8, if_pos c9]
    rw [e]
    unfold kok
    dsimp only
    omega
  by_cases c10 : r < 59
  · have e : kd r = (r - 36, 0, 0) := by
      unfold kd
      rw [if_neg c0, if_neg c1, if_neg c2, if_neg c3, if_neg c4, if_neg c5, if_neg c6, if_neg c7, if_neg c8, if_neg c9, if_pos c10]
    rw [e]
    unfold kok
    dsimp only
    omega
  by_cases ca : r < 407
  · by_cases cb : (r - 59) % 29 < 5
    · have e : kd r = (23 + (r - 59) % 29, (r - 59) / 29, 0) := by
        unfold kd
        rw [if_neg c0, if_neg c1, if_neg c2, if_neg c3, if_neg c4, if_neg c5, if_neg c6, if_neg c7, if_neg c8, if_neg c9, if_neg c10, if_pos ca, if_pos cb]
      rw [e]
      unfold kok
      dsimp only
      omega
    · by_cases cc : ((r - 59) % 29 - 5) % 2 = 0
      · have e : kd r = (28, (r - 59) / 29, ((r - 59) % 29 - 5) / 2) := by
          unfold kd
          rw [if_neg c0, if_neg c1, if_neg c2, if_neg c3, if_neg c4, if_neg c5, if_neg c6, if_neg c7, if_neg c8, if_neg c9, if_neg c10, if_pos ca, if_neg cb, if_pos cc]
        rw [e]
        unfold kok
        dsimp only
        omega
      · have e : kd r = (29, (r - 59) / 29, ((r - 59) % 29 - 5) / 2) := by
          unfold kd
          rw [if_neg c0, if_neg c1, if_neg c2, if_neg c3, if_neg c4, if_neg c5, if_neg c6, if_neg c7, if_neg c8, if_neg c9, if_neg c10, if_pos ca, if_neg cb, if_neg cc]
        rw [e]
        unfold kok
        dsimp only
        omega
  · have e : kd r = (r - 377, 0, 0) := by
      unfold kd
      rw [if_neg c0, if_neg c1, if_neg c2, if_neg c3, if_neg c4, if_neg c5, if_neg c6, if_neg c7, if_neg c8, if_neg c9, if_neg c10, if_neg ca]
    rw [e]
    unfold kok
    dsimp only
    omega
/-- the heap's first z cells -/
def hz (z : Nat) (g : GX) (c : CS) (m : MS) : AH := fun a => if g.1 ≤ a ∧ a < g.1 + z then some (cellK g c m (kd (a - g.1)).1 (kd (a - g.1)).2.1 (kd (a - g.1)).2.2) else none
abbrev hp (g : GX) (c : CS) (m : MS) : AH := hz 423 g c m
theorem hz_get {g : GX} {c : CS} {m : MS} {z r t i j : Nat} (hr : r < z) (hk : kd r = (t, i, j)) : hz z g c m (g.1 + r) = some (cellK g c m t i j) := by
  unfold hz
  rw [if_pos ⟨by omega, by omega⟩, Nat.add_sub_cancel_left, hk]
theorem hz_set {g : GX} {c c' : CS} {m m' : MS} {z r t i j : Nat} {x : AC} (hz4 : z ≤ 423) (hr : r < z) (hk : kd r = (t, i, j)) (hx : cellK g c' m' t i j = x) (h1 : ∀ t' i' j', kok t' i' j' → (t', i', j') ≠ (t, i, j) → cellK g c' m' t' i' j' = cellK g c m t' i' j') : updH (hz z g c m) (g.1 + r) x = hz z g c' m' := by
  funext a
  subst hx
  unfold updH
  by_cases e : a = g.1 + r
  · rw [if_pos e, e, hz_get hr hk]
  · rw [if_neg e]
    unfold hz
    by_cases e2 : g.1 ≤ a ∧ a < g.1 + z
    · rw [if_pos e2, if_pos e2]
      refine congrArg some (h1 _ _ _ (kok_kd (by omega)) (fun q => e ?_)).symm
      have := kd_inj (r := a - g.1) (r' := r) (by rw [hk, ← q])
      omega
    · rw [if_neg e2, if_neg e2]
theorem up2_n {α : Type} {f : Nat → Nat → α} {i p i' p' : Nat} {v : α} (h : ¬ (i' = i ∧ p' = p)) : up2 f i p v i' p' = f i' p' := by
  unfold up2 upN
  by_cases e : i' = i
  · subst e
    rw [if_pos rfl, if_neg (fun q => h ⟨rfl, q⟩)]
  · rw [if_neg e]
theorem up2_s {α : Type} {f : Nat → Nat → α} {i p : Nat} {v : α} : up2 f i p v i p = v := by
  unfold up2 upN
  rw [if_pos rfl, if_pos rfl]
section GS
variable {g : GX} {c : CS} {m : MS}
theorem gS : hp g c m (aS g) = some (.inr (4, fS g c)) := hz_get (r := 0) (by decide) rfl
theorem gC : hp g c m (aC g) = some (.inr (0, fC g)) := hz_get (r := 1) (by decide) rfl
theorem gF : hp g c m (aF g) = some (.inr (1, fF g)) := hz_get (r := 2) (by decide) rfl
theorem gPw : hp g c m (aPw g) = some (iA 512 pwT) := hz_get (r := 3) (by decide) rfl
theorem gEx : hp g c m (aEx g) = some (iA 256 exT) := hz_get (r := 4) (by decide) rfl
theorem gRows : hp g c m (aRows g) = some (qA 4 12 (fun r => some (aRow g r))) := hz_get (r := 5) (by decide) rfl
theorem kd_Row {i : Nat} (hi : i < 12) : kd (6 + i) = (6, i, 0) := by
  unfold kd
  repeat (first | rw [if_pos (by omega)] | rw [if_neg (by omega)])
  rw [Nat.add_sub_cancel_left]
theorem gRow {i : Nat} (hi : i < 12) : hp g c m (aRow g i) = some (iA 8 (rowT i)) := hz_get (r := 6 + i) (by omega) (kd_Row hi)
theorem gMat : hp g c m (aMat g) = some (qA 4 8 (fun r => some (aMatR g r))) := hz_get (r := 18) (by decide) rfl
theorem kd_MatR {i : Nat} (hi : i < 8) : kd (19 + i) = (8, i, 0) := by
  unfold kd
  repeat (first | rw [if_pos (by omega)] | rw [if_neg (by omega)])
  rw [Nat.add_sub_cancel_left]
theorem gMatR {i : Nat} (hi : i < 8) : hp g c m (aMatR g i) = some (iA 8 (c.mat i)) := hz_get (r := 19 + i) (by omega) (kd_MatR hi)
theorem gGiv : hp g c m (aGiv g) = some (qA 4 5 (fun r => some (aGivR g r))) := hz_get (r := 27) (by decide) rfl
theorem kd_GivR {i : Nat} (hi : i < 5) : kd (28 + i) = (10, i, 0) := by
  unfold kd
  repeat (first | rw [if_pos (by omega)] | rw [if_neg (by omega)])
  rw [Nat.add_sub_cancel_left]
theorem gGivR {i : Nat} (hi : i < 5) : hp g c m (aGivR g i) = some (iA 8 (c.giv i)) := hz_get (r := 28 + i) (by omega) (kd_GivR hi)
theorem gSqu : hp g c m (aSqu g) = some (qA 4 8 (fun r => some (aSquR g r))) := hz_get (r := 33) (by decide) rfl
theorem kd_SquR {i : Nat} (hi : i < 8) : kd (34 + i) = (12, i, 0) := by
  unfold kd
  repeat (first | rw [if_pos (by omega)] | rw [if_neg (by omega)])
  rw [Nat.add_sub_cancel_left]
theorem gSquR {i : Nat} (hi : i < 8) : hp g c m (aSquR g i) = some (iA 8 (c.squ i)) := hz_get (r := 34 + i) (by omega) (kd_SquR hi)
theorem gInv : hp g c m (aInv g) = some (qA 4 8 (fun r => some (aInvR g r))) := hz_get (r := 42) (by decide) rfl
theorem kd_InvR {i : Nat} (hi : i < 8) : kd (43 + i) = (14, i, 0) := by
  unfold kd
  repeat (first | rw [if_pos (by omega)] | rw [if_neg (by omega)])
  rw [Nat.add_sub_cancel_left]
theorem gInvR {i : Nat} (hi : i < 8) : hp g c m (aInvR g i) = some (iA 8 (c.inv i)) := hz_get (r := 43 + i) (by omega) (kd_InvR hi)
theorem gRes : hp g c m (aRes g) = some (iA 8 c.resu) := hz_get (r := 51) (by decide) rfl
theorem gNodes : hp g c m (aNodes g) = some (qA 2 12 (fun r => some (aN g r))) := hz_get (r := 52) (by decide) rfl
theorem gBeg : hp g c m (aBeg g) = some (iA 6 c.begun) := hz_get (r := 53) (by decide) rfl
theorem gUns : hp g c m (aUns g) = some (zA 6 c.unst) := hz_get (r := 54) (by decide) rfl
theorem gTap : hp g c m (aTap g) = some (iA 240 c.tape) := hz_get (r := 55) (by decide) rfl
theorem gGot : hp g c m (aGot g) = some (iA 240 c.gott) := hz_get (r := 56) (by decide) rfl
theorem gCho : hp g c m (aCho g) = some (iA 8 c.chos) := hz_get (r := 57) (by decide) rfl
theorem gWir : hp g c m (aWir g) = some (iA 8 c.wire) := hz_get (r := 58) (by decide) rfl
theorem kd_N {i : Nat} (hi : i < 12) : kd (59 + 29 * i) = (23, i, 0) := by
  have e1 : (59 + 29 * i - 59) % 29 = 0 := by omega
  have e2 : (59 + 29 * i - 59) / 29 = i := by omega
  unfold kd
  iterate 11 rw [if_neg (by omega)]
  rw [if_pos (by omega), e1, e2]
  rfl
theorem gN {i : Nat} (hi : i < 12) : hp g c m (aN g i) = some (.inr (3, fN g c i)) := hz_get (r := 59 + 29 * i) (by omega) (kd_N hi)
theorem kd_D {i : Nat} (hi : i < 12) : kd (60 + 29 * i) = (24, i, 0) := by
  have e1 : (60 + 29 * i - 59) % 29 = 1 := by omega
  have e2 : (60 + 29 * i - 59) / 29 = i := by omega
  unfold kd
  iterate 11 rw [if_neg (by omega)]
  rw [if_pos (by omega), e1, e2]
  rfl
theorem gD {i : Nat} (hi : i < 12) : hp g c m (aD g i) = some (iA 320 (c.data i)) := hz_get (r := 60 + 29 * i) (by omega) (kd_D hi)
theorem kd_T {i : Nat} (hi : i < 12) : kd (61 + 29 * i) = (25, i, 0) := by
  have e1 : (61 + 29 * i - 59) % 29 = 2 := by omega
  have e2 : (61 + 29 * i - 59) / 29 = i := by omega
  unfold kd
  iterate 11 rw [if_neg (by omega)]
  rw [if_pos (by omega), e1, e2]
  rfl
theorem gT {i : Nat} (hi : i < 12) : hp g c m (aT g i) = some (zA 40 (c.takn i)) := hz_get (r := 61 + 29 * i) (by omega) (kd_T hi)
theorem kd_R {i : Nat} (hi : i < 12) : kd (62 + 29 * i) = (26, i, 0) := by
  have e1 : (62 + 29 * i - 59) % 29 = 3 := by omega
  have e2 : (62 + 29 * i - 59) / 29 = i := by omega
  unfold kd
  iterate 11 rw [if_neg (by omega)]
  rw [if_pos (by omega), e1, e2]
  rfl
theorem gR {i : Nat} (hi : i < 12) : hp g c m (aR g i) = some (qA 3 6 (qR g c i)) := hz_get (r := 62 + 29 * i) (by omega) (kd_R hi)
theorem kd_Sh {i : Nat} (hi : i < 12) : kd (63 + 29 * i) = (27, i, 0) := by
  have e1 : (63 + 29 * i - 59) % 29 = 4 := by omega
  have e2 : (63 + 29 * i - 59) / 29 = i := by omega
  unfold kd
  iterate 11 rw [if_neg (by omega)]
  rw [if_pos (by omega), e1, e2]
  rfl
theorem gSh {i : Nat} (hi : i < 12) : hp g c m (aSh g i) = some (qA 3 6 (qS g c i)) := hz_get (r := 63 + 29 * i) (by omega) (kd_Sh hi)
theorem kd_H {i p : Nat} (hi : i < 12) (hj : p < 12) : kd (64 + 29 * i + 2 * p) = (28, i, p) := by
  have e1 : (64 + 29 * i + 2 * p - 59) % 29 = 5 + 2 * p := by omega
  have e2 : (64 + 29 * i + 2 * p - 59) / 29 = i := by omega
  unfold kd
  iterate 11 rw [if_neg (by omega)]
  rw [if_pos (by omega), e1, e2]
  rw [if_neg (by omega), if_pos (by omega), show (5 + 2 * p - 5) / 2 = p by omega]
theorem gH {i p : Nat} (hi : i < 12) (hj : p < 12) : hp g c m (aH g i p) = some (.inr (2, fH g c i p)) := hz_get (r := 64 + 29 * i + 2 * p) (by omega) (kd_H hi hj)
theorem kd_Pl {i p : Nat} (hi : i < 12) (hj : p < 12) : kd (65 + 29 * i + 2 * p) = (29, i, p) := by
  have e1 : (65 + 29 * i + 2 * p - 59) % 29 = 6 + 2 * p := by omega
  have e2 : (65 + 29 * i + 2 * p - 59) / 29 = i := by omega
  unfold kd
  iterate 11 rw [if_neg (by omega)]
  rw [if_pos (by omega), e1, e2]
  rw [if_neg (by omega), if_neg (by omega), show (6 + 2 * p - 5) / 2 = p by omega]
theorem gPl {i p : Nat} (hi : i < 12) (hj : p < 12) : hp g c m (aPl g i p) = some (iA 8 (c.hpl i p)) := hz_get (r := 65 + 29 * i + 2 * p) (by omega) (kd_Pl hi hj)
theorem gM : hp g c m (aM g) = some (.inr (5, fM g m)) := hz_get (r := 407) (by decide) rfl
theorem gmTape : hp g c m (amTape g) = some (iA 240 m.tape) := hz_get (r := 408) (by decide) rfl
theorem gmFail : hp g c m (amFail g) = some (zA 12 m.fail) := hz_get (r := 409) (by decide) rfl
theorem gmSent : hp g c m (amSent g) = some (jA 12 m.sent) := hz_get (r := 410) (by decide) rfl
theorem gmUsed : hp g c m (amUsed g) = some (zA 480 m.used) := hz_get (r := 411) (by decide) rfl
theorem gmByts : hp g c m (amByts g) = some (iA 3840 m.byts) := hz_get (r := 412) (by decide) rfl
theorem gmHas : hp g c m (amHas g) = some (zA 144 m.has) := hz_get (r := 413) (by decide) rfl
theorem gmVer : hp g c m (amVer g) = some (iA 144 m.ver) := hz_get (r := 414) (by decide) rfl
theorem gmSize : hp g c m (amSize g) = some (iA 144 m.size) := hz_get (r := 415) (by decide) rfl
theorem gmBlk : hp g c m (amBlk g) = some (iA 1152 m.blk) := hz_get (r := 416) (by decide) rfl
theorem gmLat : hp g c m (amLat g) = some (iA 6 m.latest) := hz_get (r := 417) (by decide) rfl
theorem gmOpn : hp g c m (amOpn g) = some (zA 6 m.opn) := hz_get (r := 418) (by decide) rfl
theorem gmGot : hp g c m (amGot g) = some (iA 240 m.got) := hz_get (r := 419) (by decide) rfl
theorem gmEqs : hp g c m (amEqs g) = some (iA 128 m.eqs) := hz_get (r := 420) (by decide) rfl
theorem gmCho : hp g c m (amCho g) = some (iA 8 m.chos) := hz_get (r := 421) (by decide) rfl
theorem gmRig : hp g c m (amRig g) = some (iA 15 m.right) := hz_get (r := 422) (by decide) rfl
theorem wS_tapeN {v : Nat} : updH (hp g c m) (aS g) (.inr (4, fS g (c.s_tapeN v))) = hp g (c.s_tapeN v) m := hz_set (c' := (c.s_tapeN v)) (m' := m) (r := 0) (t := 0) (i := 0) (j := 0) (by decide) (by decide) rfl rfl (fun t' i' j' hok hne => by
  match t' with
  | 0 => exact absurd (by rw [hok.2.1 (by omega), hok.1 (by omega) (by omega)]) hne
  | 1 => rfl
  | 2 => rfl
  | 3 => rfl
  | 4 => rfl
  | 5 => rfl
  | 6 => rfl
  | 7 => rfl
  | 8 => rfl
  | 9 => rfl
  | 10 => rfl
  | 11 => rfl
  | 12 => rfl
  | 13 => rfl
  | 14 => rfl
  | 15 => rfl
  | 16 => rfl
  | 17 => rfl
  | 18 => rfl
  | 19 => rfl
  | 20 => rfl
  | 21 => rfl
  | 22 => rfl
  | 23 => rfl
  | 24 => rfl
  | 25 => rfl
  | 26 => rfl
  | 27 => rfl
  | 28 => rfl
  | 29 => rfl
  | 30 => rfl
  | 31 => rfl
  | 32 => rfl
  | 33 => rfl
  | 34 => rfl
  | 35 => rfl
  | 36 => rfl
  | 37 => rfl
  | 38 => rfl
  | 39 => rfl
  | 40 => rfl
  | 41 => rfl
  | 42 => rfl
  | 43 => rfl
  | 44 => rfl
  | z + 45 => rfl)
theorem wS_gotN {v : Nat} : updH (hp g c m) (aS g) (.inr (4, fS g (c.s_gotN v))) = hp g (c.s_gotN v) m := hz_set (c' := (c.s_gotN v)) (m' := m) (r := 0) (t := 0) (i := 0) (j := 0) (by decide) (by decide) rfl rfl (fun t' i' j' hok hne => by
  match t' with
  | 0 => exact absurd (by rw [hok.2.1 (by omega), hok.1 (by omega) (by omega)]) hne
  | 1 => rfl
  | 2 => rfl
  | 3 => rfl
  | 4 => rfl
  | 5 => rfl
  | 6 => rfl
  | 7 => rfl
  | 8 => rfl
  | 9 => rfl
  | 10 => rfl
  | 11 => rfl
  | 12 => rfl
  | 13 => rfl
  | 14 => rfl
  | 15 => rfl
  | 16 => rfl
  | 17 => rfl
  | 18 => rfl
  | 19 => rfl
  | 20 => rfl
  | 21 => rfl
  | 22 => rfl
  | 23 => rfl
  | 24 => rfl
  | 25 => rfl
  | 26 => rfl
  | 27 => rfl
  | 28 => rfl
  | 29 => rfl
  | 30 => rfl
  | 31 => rfl
  | 32 => rfl
  | 33 => rfl
  | 34 => rfl
  | 35 => rfl
  | 36 => rfl
  | 37 => rfl
  | 38 => rfl
  | 39 => rfl
  | 40 => rfl
  | 41 => rfl
  | 42 => rfl
  | 43 => rfl
  | 44 => rfl
  | z + 45 => rfl)
theorem wS_cut {v : Int32} : updH (hp g c m) (aS g) (.inr (4, fS g (c.s_cut v))) = hp g (c.s_cut v) m := hz_set (c' := (c.s_cut v)) (m' := m) (r := 0) (t := 0) (i := 0) (j := 0) (by decide) (by decide) rfl rfl (fun t' i' j' hok hne => by
  match t' with
  | 0 => exact absurd (by rw [hok.2.1 (by omega), hok.1 (by omega) (by omega)]) hne
  | 1 => rfl
  | 2 => rfl
  | 3 => rfl
  | 4 => rfl
  | 5 => rfl
  | 6 => rfl
  | 7 => rfl
  | 8 => rfl
  | 9 => rfl
  | 10 => rfl
  | 11 => rfl
  | 12 => rfl
  | 13 => rfl
  | 14 => rfl
  | 15 => rfl
  | 16 => rfl
  | 17 => rfl
  | 18 => rfl
  | 19 => rfl
  | 20 => rfl
  | 21 => rfl
  | 22 => rfl
  | 23 => rfl
  | 24 => rfl
  | 25 => rfl
  | 26 => rfl
  | 27 => rfl
  | 28 => rfl
  | 29 => rfl
  | 30 => rfl
  | 31 => rfl
  | 32 => rfl
  | 33 => rfl
  | 34 => rfl
  | 35 => rfl
  | 36 => rfl
  | 37 => rfl
  | 38 => rfl
  | 39 => rfl
  | 40 => rfl
  | 41 => rfl
  | 42 => rfl
  | 43 => rfl
  | 44 => rfl
  | z + 45 => rfl)
theorem wS_msgs {v : Int32} : updH (hp g c m) (aS g) (.inr (4, fS g (c.s_msgs v))) = hp g (c.s_msgs v) m := hz_set (c' := (c.s_msgs v)) (m' := m) (r := 0) (t := 0) (i := 0) (j := 0) (by decide) (by decide) rfl rfl (fun t' i' j' hok hne => by
  match t' with
  | 0 => exact absurd (by rw [hok.2.1 (by omega), hok.1 (by omega) (by omega)]) hne
  | 1 => rfl
  | 2 => rfl
  | 3 => rfl
  | 4 => rfl
  | 5 => rfl
  | 6 => rfl
  | 7 => rfl
  | 8 => rfl
  | 9 => rfl
  | 10 => rfl
  | 11 => rfl
  | 12 => rfl
  | 13 => rfl
  | 14 => rfl
  | 15 => rfl
  | 16 => rfl
  | 17 => rfl
  | 18 => rfl
  | 19 => rfl
  | 20 => rfl
  | 21 => rfl
  | 22 => rfl
  | 23 => rfl
  | 24 => rfl
  | 25 => rfl
  | 26 => rfl
  | 27 => rfl
  | 28 => rfl
  | 29 => rfl
  | 30 => rfl
  | 31 => rfl
  | 32 => rfl
  | 33 => rfl
  | 34 => rfl
  | 35 => rfl
  | 36 => rfl
  | 37 => rfl
  | 38 => rfl
  | 39 => rfl
  | 40 => rfl
  | 41 => rfl
  | 42 => rfl
  | 43 => rfl
  | 44 => rfl
  | z + 45 => rfl)
theorem wS_syms {v : Int32} : updH (hp g c m) (aS g) (.inr (4, fS g (c.s_syms v))) = hp g (c.s_syms v) m := hz_set (c' := (c.s_syms v)) (m' := m) (r := 0) (t := 0) (i := 0) (j := 0) (by decide) (by decide) rfl rfl (fun t' i' j' hok hne => by
  match t' with
  | 0 => exact absurd (by rw [hok.2.1 (by omega), hok.1 (by omega) (by omega)]) hne
  | 1 => rfl
  | 2 => rfl
  | 3 => rfl
  | 4 => rfl
  | 5 => rfl
  | 6 => rfl
  | 7 => rfl
  | 8 => rfl
  | 9 => rfl
  | 10 => rfl
  | 11 => rfl
  | 12 => rfl
  | 13 => rfl
  | 14 => rfl
  | 15 => rfl
  | 16 => rfl
  | 17 => rfl
  | 18 => rfl
  | 19 => rfl
  | 20 => rfl
  | 21 => rfl
  | 22 => rfl
  | 23 => rfl
  | 24 => rfl
  | 25 => rfl
  | 26 => rfl
  | 27 => rfl
  | 28 => rfl
  | 29 => rfl
  | 30 => rfl
  | 31 => rfl
  | 32 => rfl
  | 33 => rfl
  | 34 => rfl
  | 35 => rfl
  | 36 => rfl
  | 37 => rfl
  | 38 => rfl
  | 39 => rfl
  | 40 => rfl
  | 41 => rfl
  | 42 => rfl
  | 43 => rfl
  | 44 => rfl
  | z + 45 => rfl)
theorem wbegun {v : Nat → Nat} : updH (hp g c m) (aBeg g) (iA 6 v) = hp g (c.s_begun v) m := hz_set (c' := (c.s_begun v)) (m' := m) (r := 53) (t := 17) (i := 0) (j := 0) (by decide) (by decide) rfl rfl (fun t' i' j' hok hne => by
  match t' with
  | 0 => rfl
  | 1 => rfl
  | 2 => rfl
  | 3 => rfl
  | 4 => rfl
  | 5 => rfl
  | 6 => rfl
  | 7 => rfl
  | 8 => rfl
  | 9 => rfl
  | 10 => rfl
  | 11 => rfl
  | 12 => rfl
  | 13 => rfl
  | 14 => rfl
  | 15 => rfl
  | 16 => rfl
  | 17 => exact absurd (by rw [hok.2.1 (by omega), hok.1 (by omega) (by omega)]) hne
  | 18 => rfl
  | 19 => rfl
  | 20 => rfl
  | 21 => rfl
  | 22 => rfl
  | 23 => rfl
  | 24 => rfl
  | 25 => rfl
  | 26 => rfl
  | 27 => rfl
  | 28 => rfl
  | 29 => rfl
  | 30 => rfl
  | 31 => rfl
  | 32 => rfl
  | 33 => rfl
  | 34 => rfl
  | 35 => rfl
  | 36 => rfl
  | 37 => rfl
  | 38 => rfl
  | 39 => rfl
  | 40 => rfl
  | 41 => rfl
  | 42 => rfl
  | 43 => rfl
  | 44 => rfl
  | z + 45 => rfl)
theorem wunst {v : Nat → Bool} : updH (hp g c m) (aUns g) (zA 6 v) = hp g (c.s_unst v) m := hz_set (c' := (c.s_unst v)) (m' := m) (r := 54) (t := 18) (i := 0) (j := 0) (by decide) (by decide) rfl rfl (fun t' i' j' hok hne => by
  match t' with
  | 0 => rfl
  | 1 => rfl
  | 2 => rfl
  | 3 => rfl
  | 4 => rfl
  | 5 => rfl
  | 6 => rfl
  | 7 => rfl
  | 8 => rfl
  | 9 => rfl
  | 10 => rfl
  | 11 => rfl
  | 12 => rfl
  | 13 => rfl
  | 14 => rfl
  | 15 => rfl
  | 16 => rfl
  | 17 => rfl
  | 18 => exact absurd (by rw [hok.2.1 (by omega), hok.1 (by omega) (by omega)]) hne
  | 19 => rfl
  | 20 => rfl
  | 21 => rfl
  | 22 => rfl
  | 23 => rfl
  | 24 => rfl
  | 25 => rfl
  | 26 => rfl
  | 27 => rfl
  | 28 => rfl
  | 29 => rfl
  | 30 => rfl
  | 31 => rfl
  | 32 => rfl
  | 33 => rfl
  | 34 => rfl
  | 35 => rfl
  | 36 => rfl
  | 37 => rfl
  | 38 => rfl
  | 39 => rfl
  | 40 => rfl
  | 41 => rfl
  | 42 => rfl
  | 43 => rfl
  | 44 => rfl
  | z + 45 => rfl)
theorem wtape {v : Nat → Nat} : updH (hp g c m) (aTap g) (iA 240 v) = hp g (c.s_tape v) m := hz_set (c' := (c.s_tape v)) (m' := m) (r := 55) (t := 19) (i := 0) (j := 0) (by decide) (by decide) rfl rfl (fun t' i' j' hok hne => by
  match t' with
  | 0 => rfl
  | 1 => rfl
  | 2 => rfl
  | 3 => rfl
  | 4 => rfl
  | 5 => rfl
  | 6 => rfl
  | 7 => rfl
  | 8 => rfl
  | 9 => rfl
  | 10 => rfl
  | 11 => rfl
  | 12 => rfl
  | 13 => rfl
  | 14 => rfl
  | 15 => rfl
  | 16 => rfl
  | 17 => rfl
  | 18 => rfl
  | 19 => exact absurd (by rw [hok.2.1 (by omega), hok.1 (by omega) (by omega)]) hne
  | 20 => rfl
  | 21 => rfl
  | 22 => rfl
  | 23 => rfl
  | 24 => rfl
  | 25 => rfl
  | 26 => rfl
  | 27 => rfl
  | 28 => rfl
  | 29 => rfl
  | 30 => rfl
  | 31 => rfl
  | 32 => rfl
  | 33 => rfl
  | 34 => rfl
  | 35 => rfl
  | 36 => rfl
  | 37 => rfl
  | 38 => rfl
  | 39 => rfl
  | 40 => rfl
  | 41 => rfl
  | 42 => rfl
  | 43 => rfl
  | 44 => rfl
  | z + 45 => rfl)
theorem wgott {v : Nat → Nat} : updH (hp g c m) (aGot g) (iA 240 v) = hp g (c.s_gott v) m := hz_set (c' := (c.s_gott v)) (m' := m) (r := 56) (t := 20) (i := 0) (j := 0) (by decide) (by decide) rfl rfl (fun t' i' j' hok hne => by
  match t' with
  | 0 => rfl
  | 1 => rfl
  | 2 => rfl
  | 3 => rfl
  | 4 => rfl
  | 5 => rfl
  | 6 => rfl
  | 7 => rfl
  | 8 => rfl
  | 9 => rfl
  | 10 => rfl
  | 11 => rfl
  | 12 => rfl
  | 13 => rfl
  | 14 => rfl
  | 15 => rfl
  | 16 => rfl
  | 17 => rfl
  | 18 => rfl
  | 19 => rfl
  | 20 => exact absurd (by rw [hok.2.1 (by omega), hok.1 (by omega) (by omega)]) hne
  | 21 => rfl
  | 22 => rfl
  | 23 => rfl
  | 24 => rfl
  | 25 => rfl
  | 26 => rfl
  | 27 => rfl
  | 28 => rfl
  | 29 => rfl
  | 30 => rfl
  | 31 => rfl
  | 32 => rfl
  | 33 => rfl
  | 34 => rfl
  | 35 => rfl
  | 36 => rfl
  | 37 => rfl
  | 38 => rfl
  | 39 => rfl
  | 40 => rfl
  | 41 => rfl
  | 42 => rfl
  | 43 => rfl
  | 44 => rfl
  | z + 45 => rfl)
theorem wchos {v : Nat → Nat} : updH (hp g c m) (aCho g) (iA 8 v) = hp g (c.s_chos v) m := hz_set (c' := (c.s_chos v)) (m' := m) (r := 57) (t := 21) (i := 0) (j := 0) (by decide) (by decide) rfl rfl (fun t' i' j' hok hne => by
  match t' with
  | 0 => rfl
  | 1 => rfl
  | 2 => rfl
  | 3 => rfl
  | 4 => rfl
  | 5 => rfl
  | 6 => rfl
  | 7 => rfl
  | 8 => rfl
  | 9 => rfl
  | 10 => rfl
  | 11 => rfl
  | 12 => rfl
  | 13 => rfl
  | 14 => rfl
  | 15 => rfl
  | 16 => rfl
  | 17 => rfl
  | 18 => rfl
  | 19 => rfl
  | 20 => rfl
  | 21 => exact absurd (by rw [hok.2.1 (by omega), hok.1 (by omega) (by omega)]) hne
  | 22 => rfl
  | 23 => rfl
  | 24 => rfl
  | 25 => rfl
  | 26 => rfl
  | 27 => rfl
  | 28 => rfl
  | 29 => rfl
  | 30 => rfl
  | 31 => rfl
  | 32 => rfl
  | 33 => rfl
  | 34 => rfl
  | 35 => rfl
  | 36 => rfl
  | 37 => rfl
  | 38 => rfl
  | 39 => rfl
  | 40 => rfl
  | 41 => rfl
  | 42 => rfl
  | 43 => rfl
  | 44 => rfl
  | z + 45 => rfl)
theorem wwire {v : Nat → Nat} : updH (hp g c m) (aWir g) (iA 8 v) = hp g (c.s_wire v) m := hz_set (c' := (c.s_wire v)) (m' := m) (r := 58) (t := 22) (i := 0) (j := 0) (by decide) (by decide) rfl rfl (fun t' i' j' hok hne => by
  match t' with
  | 0 => rfl
  | 1 => rfl
  | 2 => rfl
  | 3 => rfl
  | 4 => rfl
  | 5 => rfl
  | 6 => rfl
  | 7 => rfl
  | 8 => rfl
  | 9 => rfl
  | 10 => rfl
  | 11 => rfl
  | 12 => rfl
  | 13 => rfl
  | 14 => rfl
  | 15 => rfl
  | 16 => rfl
  | 17 => rfl
  | 18 => rfl
  | 19 => rfl
  | 20 => rfl
  | 21 => rfl
  | 22 => exact absurd (by rw [hok.2.1 (by omega), hok.1 (by omega) (by omega)]) hne
  | 23 => rfl
  | 24 => rfl
  | 25 => rfl
  | 26 => rfl
  | 27 => rfl
  | 28 => rfl
  | 29 => rfl
  | 30 => rfl
  | 31 => rfl
  | 32 => rfl
  | 33 => rfl
  | 34 => rfl
  | 35 => rfl
  | 36 => rfl
  | 37 => rfl
  | 38 => rfl
  | 39 => rfl
  | 40 => rfl
  | 41 => rfl
  | 42 => rfl
  | 43 => rfl
  | 44 => rfl
  | z + 45 => rfl)
theorem wresu {v : Nat → Nat} : updH (hp g c m) (aRes g) (iA 8 v) = hp g (c.s_resu v) m := hz_set (c' := (c.s_resu v)) (m' := m) (r := 51) (t := 15) (i := 0) (j := 0) (by decide) (by decide) rfl rfl (fun t' i' j' hok hne => by
  match t' with
  | 0 => rfl
  | 1 => rfl
  | 2 => rfl
  | 3 => rfl
  | 4 => rfl
  | 5 => rfl
  | 6 => rfl
  | 7 => rfl
  | 8 => rfl
  | 9 => rfl
  | 10 => rfl
  | 11 => rfl
  | 12 => rfl
  | 13 => rfl
  | 14 => rfl
  | 15 => exact absurd (by rw [hok.2.1 (by omega), hok.1 (by omega) (by omega)]) hne
  | 16 => rfl
  | 17 => rfl
  | 18 => rfl
  | 19 => rfl
  | 20 => rfl
  | 21 => rfl
  | 22 => rfl
  | 23 => rfl
  | 24 => rfl
  | 25 => rfl
  | 26 => rfl
  | 27 => rfl
  | 28 => rfl
  | 29 => rfl
  | 30 => rfl
  | 31 => rfl
  | 32 => rfl
  | 33 => rfl
  | 34 => rfl
  | 35 => rfl
  | 36 => rfl
  | 37 => rfl
  | 38 => rfl
  | 39 => rfl
  | 40 => rfl
  | 41 => rfl
  | 42 => rfl
  | 43 => rfl
  | 44 => rfl
  | z + 45 => rfl)
theorem wmat {i : Nat} (hi : i < 8) {v : Nat → Nat} : updH (hp g c m) (aMatR g i) (iA 8 v) = hp g (c.s_mat (upN c.mat i v)) m := hz_set (c' := (c.s_mat (upN c.mat i v))) (m' := m) (r := 19 + i) (t := 8) (i := i) (j := 0) (by decide) (by omega) (kd_MatR hi) (congrArg (fun z => (iA 8 z : AC)) upN_s) (fun t' i' j' hok hne => by
  match t' with
  | 0 => rfl
  | 1 => rfl
  | 2 => rfl
  | 3 => rfl
  | 4 => rfl
  | 5 => rfl
  | 6 => rfl
  | 7 => rfl
  | 8 => exact congrArg (fun z => (iA 8 z : AC)) (upN_n (fun e => hne (by rw [e, hok.1 (by omega) (by omega)])))
  | 9 => rfl
  | 10 => rfl
  | 11 => rfl
  | 12 => rfl
  | 13 => rfl
  | 14 => rfl
  | 15 => rfl
  | 16 => rfl
  | 17 => rfl
  | 18 => rfl
  | 19 => rfl
  | 20 => rfl
  | 21 => rfl
  | 22 => rfl
  | 23 => rfl
  | 24 => rfl
  | 25 => rfl
  | 26 => rfl
  | 27 => rfl
  | 28 => rfl
  | 29 => rfl
  | 30 => rfl
  | 31 => rfl
  | 32 => rfl
  | 33 => rfl
  | 34 => rfl
  | 35 => rfl
  | 36 => rfl
  | 37 => rfl
  | 38 => rfl
  | 39 => rfl
  | 40 => rfl
  | 41 => rfl
  | 42 => rfl
  | 43 => rfl
  | 44 => rfl
  | z + 45 => rfl)
theorem wgiv {i : Nat} (hi : i < 5) {v : Nat → Nat} : updH (hp g c m) (aGivR g i) (iA 8 v) = hp g (c.s_giv (upN c.giv i v)) m := hz_set (c' := (c.s_giv (upN c.giv i v))) (m' := m) (r := 28 + i) (t := 10) (i := i) (j := 0) (by decide) (by omega) (kd_GivR hi) (congrArg (fun z => (iA 8 z : AC)) upN_s) (fun t' i' j' hok hne => by
  match t' with
  | 0 => rfl
  | 1 => rfl
  | 2 => rfl
  | 3 => rfl
  | 4 => rfl
  | 5 => rfl
  | 6 => rfl
  | 7 => rfl
  | 8 => rfl
  | 9 => rfl
  | 10 => exact congrArg (fun z => (iA 8 z : AC)) (upN_n (fun e => hne (by rw [e, hok.1 (by omega) (by omega)])))
  | 11 => rfl
  | 12 => rfl
  | 13 => rfl
  | 14 => rfl
  | 15 => rfl
  | 16 => rfl
  | 17 => rfl
  | 18 => rfl
  | 19 => rfl
  | 20 => rfl
  | 21 => rfl
  | 22 => rfl
  | 23 => rfl
  | 24 => rfl
  | 25 => rfl
  | 26 => rfl
  | 27 => rfl
  | 28 => rfl
  | 29 => rfl
  | 30 => rfl
  | 31 => rfl
  | 32 => rfl
  | 33 => rfl
  | 34 => rfl
  | 35 => rfl
  | 36 => rfl
  | 37 => rfl
  | 38 => rfl
  | 39 => rfl
  | 40 => rfl
  | 41 => rfl
  | 42 => rfl
  | 43 => rfl
  | 44 => rfl
  | z + 45 => rfl)
theorem wsqu {i : Nat} (hi : i < 8) {v : Nat → Nat} : updH (hp g c m) (aSquR g i) (iA 8 v) = hp g (c.s_squ (upN c.squ i v)) m := hz_set (c' := (c.s_squ (upN c.squ i v))) (m' := m) (r := 34 + i) (t := 12) (i := i) (j := 0) (by decide) (by omega) (kd_SquR hi) (congrArg (fun z => (iA 8 z : AC)) upN_s) (fun t' i' j' hok hne => by
  match t' with
  | 0 => rfl
  | 1 => rfl
  | 2 => rfl
  | 3 => rfl
  | 4 => rfl
  | 5 => rfl
  | 6 => rfl
  | 7 => rfl
  | 8 => rfl
  | 9 => rfl
  | 10 => rfl
  | 11 => rfl
  | 12 => exact congrArg (fun z => (iA 8 z : AC)) (upN_n (fun e => hne (by rw [e, hok.1 (by omega) (by omega)])))
  | 13 => rfl
  | 14 => rfl
  | 15 => rfl
  | 16 => rfl
  | 17 => rfl
  | 18 => rfl
  | 19 => rfl
  | 20 => rfl
  | 21 => rfl
  | 22 => rfl
  | 23 => rfl
  | 24 => rfl
  | 25 => rfl
  | 26 => rfl
  | 27 => rfl
  | 28 => rfl
  | 29 => rfl
  | 30 => rfl
  | 31 => rfl
  | 32 => rfl
  | 33 => rfl
  | 34 => rfl
  | 35 => rfl
  | 36 => rfl
  | 37 => rfl
  | 38 => rfl
  | 39 => rfl
  | 40 => rfl
  | 41 => rfl
  | 42 => rfl
  | 43 => rfl
  | 44 => rfl
  | z + 45 => rfl)
theorem winv {i : Nat} (hi : i < 8) {v : Nat → Nat} : updH (hp g c m) (aInvR g i) (iA 8 v) = hp g (c.s_inv (upN c.inv i v)) m := hz_set (c' := (c.s_inv (upN c.inv i v))) (m' := m) (r := 43 + i) (t := 14) (i := i) (j := 0) (by decide) (by omega) (kd_InvR hi) (congrArg (fun z => (iA 8 z : AC)) upN_s) (fun t' i' j' hok hne => by
  match t' with
  | 0 => rfl
  | 1 => rfl
  | 2 => rfl
  | 3 => rfl
  | 4 => rfl
  | 5 => rfl
  | 6 => rfl
  | 7 => rfl
  | 8 => rfl
  | 9 => rfl
  | 10 => rfl
  | 11 => rfl
  | 12 => rfl
  | 13 => rfl
  | 14 => exact congrArg (fun z => (iA 8 z : AC)) (upN_n (fun e => hne (by rw [e, hok.1 (by omega) (by omega)])))
  | 15 => rfl
  | 16 => rfl
  | 17 => rfl
  | 18 => rfl
  | 19 => rfl
  | 20 => rfl
  | 21 => rfl
  | 22 => rfl
  | 23 => rfl
  | 24 => rfl
  | 25 => rfl
  | 26 => rfl
  | 27 => rfl
  | 28 => rfl
  | 29 => rfl
  | 30 => rfl
  | 31 => rfl
  | 32 => rfl
  | 33 => rfl
  | 34 => rfl
  | 35 => rfl
  | 36 => rfl
  | 37 => rfl
  | 38 => rfl
  | 39 => rfl
  | 40 => rfl
  | 41 => rfl
  | 42 => rfl
  | 43 => rfl
  | 44 => rfl
  | z + 45 => rfl)
theorem wdata {i : Nat} (hi : i < 12) {v : Nat → Nat} : updH (hp g c m) (aD g i) (iA 320 v) = hp g (c.s_data (upN c.data i v)) m := hz_set (c' := (c.s_data (upN c.data i v))) (m' := m) (r := 60 + 29 * i) (t := 24) (i := i) (j := 0) (by decide) (by omega) (kd_D hi) (congrArg (fun z => (iA 320 z : AC)) upN_s) (fun t' i' j' hok hne => by
  match t' with
  | 0 => rfl
  | 1 => rfl
  | 2 => rfl
  | 3 => rfl
  | 4 => rfl
  | 5 => rfl
  | 6 => rfl
  | 7 => rfl
  | 8 => rfl
  | 9 => rfl
  | 10 => rfl
  | 11 => rfl
  | 12 => rfl
  | 13 => rfl
  | 14 => rfl
  | 15 => rfl
  | 16 => rfl
  | 17 => rfl
  | 18 => rfl
  | 19 => rfl
  | 20 => rfl
  | 21 => rfl
  | 22 => rfl
  | 23 => rfl
  | 24 => exact congrArg (fun z => (iA 320 z : AC)) (upN_n (fun e => hne (by rw [e, hok.1 (by omega) (by omega)])))
  | 25 => rfl
  | 26 => rfl
  | 27 => rfl
  | 28 => rfl
  | 29 => rfl
  | 30 => rfl
  | 31 => rfl
  | 32 => rfl
  | 33 => rfl
  | 34 => rfl
  | 35 => rfl
  | 36 => rfl
  | 37 => rfl
  | 38 => rfl
  | 39 => rfl
  | 40 => rfl
  | 41 => rfl
  | 42 => rfl
  | 43 => rfl
  | 44 => rfl
  | z + 45 => rfl)
theorem wtakn {i : Nat} (hi : i < 12) {v : Nat → Bool} : updH (hp g c m) (aT g i) (zA 40 v) = hp g (c.s_takn (upN c.takn i v)) m := hz_set (c' := (c.s_takn (upN c.takn i v))) (m' := m) (r := 61 + 29 * i) (t := 25) (i := i) (j := 0) (by decide) (by omega) (kd_T hi) (congrArg (fun z => (zA 40 z : AC)) upN_s) (fun t' i' j' hok hne => by
  match t' with
  | 0 => rfl
  | 1 => rfl
  | 2 => rfl
  | 3 => rfl
  | 4 => rfl
  | 5 => rfl
  | 6 => rfl
  | 7 => rfl
  | 8 => rfl
  | 9 => rfl
  | 10 => rfl
  | 11 => rfl
  | 12 => rfl
  | 13 => rfl
  | 14 => rfl
  | 15 => rfl
  | 16 => rfl
  | 17 => rfl
  | 18 => rfl
  | 19 => rfl
  | 20 => rfl
  | 21 => rfl
  | 22 => rfl
  | 23 => rfl
  | 24 => rfl
  | 25 => exact congrArg (fun z => (zA 40 z : AC)) (upN_n (fun e => hne (by rw [e, hok.1 (by omega) (by omega)])))
  | 26 => rfl
  | 27 => rfl
  | 28 => rfl
  | 29 => rfl
  | 30 => rfl
  | 31 => rfl
  | 32 => rfl
  | 33 => rfl
  | 34 => rfl
  | 35 => rfl
  | 36 => rfl
  | 37 => rfl
  | 38 => rfl
  | 39 => rfl
  | 40 => rfl
  | 41 => rfl
  | 42 => rfl
  | 43 => rfl
  | 44 => rfl
  | z + 45 => rfl)
theorem wN_live {i : Nat} (hi : i < 12) {v : Bool} : updH (hp g c m) (aN g i) (.inr (3, fN g (c.s_live (upN c.live i v)) i)) = hp g (c.s_live (upN c.live i v)) m := hz_set (c' := (c.s_live (upN c.live i v))) (m' := m) (r := 59 + 29 * i) (t := 23) (i := i) (j := 0) (by decide) (by omega) (kd_N hi) rfl (fun t' i' j' hok hne => by
  match t' with
  | 0 => rfl
  | 1 => rfl
  | 2 => rfl
  | 3 => rfl
  | 4 => rfl
  | 5 => rfl
  | 6 => rfl
  | 7 => rfl
  | 8 => rfl
  | 9 => rfl
  | 10 => rfl
  | 11 => rfl
  | 12 => rfl
  | 13 => rfl
  | 14 => rfl
  | 15 => rfl
  | 16 => rfl
  | 17 => rfl
  | 18 => rfl
  | 19 => rfl
  | 20 => rfl
  | 21 => rfl
  | 22 => rfl
  | 23 => exact congrArg (fun z => (.inr (3, [.ref (aD g i'), .ref (aT g i'), .ref (aR g i'), .ref (aSh g i'), .int (b2 z), .int (c.sent i')]) : AC)) (upN_n (fun e => hne (by rw [e, hok.1 (by omega) (by omega)])))
  | 24 => rfl
  | 25 => rfl
  | 26 => rfl
  | 27 => rfl
  | 28 => rfl
  | 29 => rfl
  | 30 => rfl
  | 31 => rfl
  | 32 => rfl
  | 33 => rfl
  | 34 => rfl
  | 35 => rfl
  | 36 => rfl
  | 37 => rfl
  | 38 => rfl
  | 39 => rfl
  | 40 => rfl
  | 41 => rfl
  | 42 => rfl
  | 43 => rfl
  | 44 => rfl
  | z + 45 => rfl)
theorem wN_sent {i : Nat} (hi : i < 12) {v : Int32} : updH (hp g c m) (aN g i) (.inr (3, fN g (c.s_sent (upN c.sent i v)) i)) = hp g (c.s_sent (upN c.sent i v)) m := hz_set (c' := (c.s_sent (upN c.sent i v))) (m' := m) (r := 59 + 29 * i) (t := 23) (i := i) (j := 0) (by decide) (by omega) (kd_N hi) rfl (fun t' i' j' hok hne => by
  match t' with
  | 0 => rfl
  | 1 => rfl
  | 2 => rfl
  | 3 => rfl
  | 4 => rfl
  | 5 => rfl
  | 6 => rfl
  | 7 => rfl
  | 8 => rfl
  | 9 => rfl
  | 10 => rfl
  | 11 => rfl
  | 12 => rfl
  | 13 => rfl
  | 14 => rfl
  | 15 => rfl
  | 16 => rfl
  | 17 => rfl
  | 18 => rfl
  | 19 => rfl
  | 20 => rfl
  | 21 => rfl
  | 22 => rfl
  | 23 => exact congrArg (fun z => (.inr (3, [.ref (aD g i'), .ref (aT g i'), .ref (aR g i'), .ref (aSh g i'), .int (b2 (c.live i')), .int z]) : AC)) (upN_n (fun e => hne (by rw [e, hok.1 (by omega) (by omega)])))
  | 24 => rfl
  | 25 => rfl
  | 26 => rfl
  | 27 => rfl
  | 28 => rfl
  | 29 => rfl
  | 30 => rfl
  | 31 => rfl
  | 32 => rfl
  | 33 => rfl
  | 34 => rfl
  | 35 => rfl
  | 36 => rfl
  | 37 => rfl
  | 38 => rfl
  | 39 => rfl
  | 40 => rfl
  | 41 => rfl
  | 42 => rfl
  | 43 => rfl
  | 44 => rfl
  | z + 45 => rfl)
theorem wH_hver {i p : Nat} (hi : i < 12) (hj : p < 12) {v : Nat} : updH (hp g c m) (aH g i p) (.inr (2, fH g (c.s_hver (up2 c.hver i p v)) i p)) = hp g (c.s_hver (up2 c.hver i p v)) m := hz_set (c' := (c.s_hver (up2 c.hver i p v))) (m' := m) (r := 64 + 29 * i + 2 * p) (t := 28) (i := i) (j := p) (by decide) (by omega) (kd_H hi hj) rfl (fun t' i' j' hok hne => by
  match t' with
  | 0 => rfl
  | 1 => rfl
  | 2 => rfl
  | 3 => rfl
  | 4 => rfl
  | 5 => rfl
  | 6 => rfl
  | 7 => rfl
  | 8 => rfl
  | 9 => rfl
  | 10 => rfl
  | 11 => rfl
  | 12 => rfl
  | 13 => rfl
  | 14 => rfl
  | 15 => rfl
  | 16 => rfl
  | 17 => rfl
  | 18 => rfl
  | 19 => rfl
  | 20 => rfl
  | 21 => rfl
  | 22 => rfl
  | 23 => rfl
  | 24 => rfl
  | 25 => rfl
  | 26 => rfl
  | 27 => rfl
  | 28 => exact congrArg (fun z => (.inr (2, [.ref (aPl g i' j'), .int (nI z), .int (nI (c.hbyt i' j')), .int (nI (c.hstr i' j'))]) : AC)) (up2_n (fun e => hne (by rw [e.1, e.2])))
  | 29 => rfl
  | 30 => rfl
  | 31 => rfl
  | 32 => rfl
  | 33 => rfl
  | 34 => rfl
  | 35 => rfl
  | 36 => rfl
  | 37 => rfl
  | 38 => rfl
  | 39 => rfl
  | 40 => rfl
  | 41 => rfl
  | 42 => rfl
  | 43 => rfl
  | 44 => rfl
  | z + 45 => rfl)
theorem wH_hbyt {i p : Nat} (hi : i < 12) (hj : p < 12) {v : Nat} : updH (hp g c m) (aH g i p) (.inr (2, fH g (c.s_hbyt (up2 c.hbyt i p v)) i p)) = hp g (c.s_hbyt (up2 c.hbyt i p v)) m := hz_set (c' := (c.s_hbyt (up2 c.hbyt i p v))) (m' := m) (r := 64 + 29 * i + 2 * p) (t := 28) (i := i) (j := p) (by decide) (by omega) (kd_H hi hj) rfl (fun t' i' j' hok hne => by
  match t' with
  | 0 => rfl
  | 1 => rfl
  | 2 => rfl
  | 3 => rfl
  | 4 => rfl
  | 5 => rfl
  | 6 => rfl
  | 7 => rfl
  | 8 => rfl
  | 9 => rfl
  | 10 => rfl
  | 11 => rfl
  | 12 => rfl
  | 13 => rfl
  | 14 => rfl
  | 15 => rfl
  | 16 => rfl
  | 17 => rfl
  | 18 => rfl
  | 19 => rfl
  | 20 => rfl
  | 21 => rfl
  | 22 => rfl
  | 23 => rfl
  | 24 => rfl
  | 25 => rfl
  | 26 => rfl
  | 27 => rfl
  | 28 => exact congrArg (fun z => (.inr (2, [.ref (aPl g i' j'), .int (nI (c.hver i' j')), .int (nI z), .int (nI (c.hstr i' j'))]) : AC)) (up2_n (fun e => hne (by rw [e.1, e.2])))
  | 29 => rfl
  | 30 => rfl
  | 31 => rfl
  | 32 => rfl
  | 33 => rfl
  | 34 => rfl
  | 35 => rfl
  | 36 => rfl
  | 37 => rfl
  | 38 => rfl
  | 39 => rfl
  | 40 => rfl
  | 41 => rfl
  | 42 => rfl
  | 43 => rfl
  | 44 => rfl
  | z + 45 => rfl)
theorem wH_hstr {i p : Nat} (hi : i < 12) (hj : p < 12) {v : Nat} : updH (hp g c m) (aH g i p) (.inr (2, fH g (c.s_hstr (up2 c.hstr i p v)) i p)) = hp g (c.s_hstr (up2 c.hstr i p v)) m := hz_set (c' := (c.s_hstr (up2 c.hstr i p v))) (m' := m) (r := 64 + 29 * i + 2 * p) (t := 28) (i := i) (j := p) (by decide) (by omega) (kd_H hi hj) rfl (fun t' i' j' hok hne => by
  match t' with
  | 0 => rfl
  | 1 => rfl
  | 2 => rfl
  | 3 => rfl
  | 4 => rfl
  | 5 => rfl
  | 6 => rfl
  | 7 => rfl
  | 8 => rfl
  | 9 => rfl
  | 10 => rfl
  | 11 => rfl
  | 12 => rfl
  | 13 => rfl
  | 14 => rfl
  | 15 => rfl
  | 16 => rfl
  | 17 => rfl
  | 18 => rfl
  | 19 => rfl
  | 20 => rfl
  | 21 => rfl
  | 22 => rfl
  | 23 => rfl
  | 24 => rfl
  | 25 => rfl
  | 26 => rfl
  | 27 => rfl
  | 28 => exact congrArg (fun z => (.inr (2, [.ref (aPl g i' j'), .int (nI (c.hver i' j')), .int (nI (c.hbyt i' j')), .int (nI z)]) : AC)) (up2_n (fun e => hne (by rw [e.1, e.2])))
  | 29 => rfl
  | 30 => rfl
  | 31 => rfl
  | 32 => rfl
  | 33 => rfl
  | 34 => rfl
  | 35 => rfl
  | 36 => rfl
  | 37 => rfl
  | 38 => rfl
  | 39 => rfl
  | 40 => rfl
  | 41 => rfl
  | 42 => rfl
  | 43 => rfl
  | 44 => rfl
  | z + 45 => rfl)
theorem whpl {i p : Nat} (hi : i < 12) (hj : p < 12) {v : Nat → Nat} : updH (hp g c m) (aPl g i p) (iA 8 v) = hp g (c.s_hpl (up2 c.hpl i p v)) m := hz_set (c' := (c.s_hpl (up2 c.hpl i p v))) (m' := m) (r := 65 + 29 * i + 2 * p) (t := 29) (i := i) (j := p) (by decide) (by omega) (kd_Pl hi hj) (congrArg (fun z => (iA 8 z : AC)) up2_s) (fun t' i' j' hok hne => by
  match t' with
  | 0 => rfl
  | 1 => rfl
  | 2 => rfl
  | 3 => rfl
  | 4 => rfl
  | 5 => rfl
  | 6 => rfl
  | 7 => rfl
  | 8 => rfl
  | 9 => rfl
  | 10 => rfl
  | 11 => rfl
  | 12 => rfl
  | 13 => rfl
  | 14 => rfl
  | 15 => rfl
  | 16 => rfl
  | 17 => rfl
  | 18 => rfl
  | 19 => rfl
  | 20 => rfl
  | 21 => rfl
  | 22 => rfl
  | 23 => rfl
  | 24 => rfl
  | 25 => rfl
  | 26 => rfl
  | 27 => rfl
  | 28 => rfl
  | 29 => exact congrArg (fun z => (iA 8 z : AC)) (up2_n (fun e => hne (by rw [e.1, e.2])))
  | 30 => rfl
  | 31 => rfl
  | 32 => rfl
  | 33 => rfl
  | 34 => rfl
  | 35 => rfl
  | 36 => rfl
  | 37 => rfl
  | 38 => rfl
  | 39 => rfl
  | 40 => rfl
  | 41 => rfl
  | 42 => rfl
  | 43 => rfl
  | 44 => rfl
  | z + 45 => rfl)
theorem wM_taped {v : Nat} : updH (hp g c m) (aM g) (.inr (5, fM g (m.s_taped v))) = hp g c (m.s_taped v) := hz_set (c' := c) (m' := (m.s_taped v)) (r := 407) (t := 30) (i := 0) (j := 0) (by decide) (by decide) rfl rfl (fun t' i' j' hok hne => by
  match t' with
  | 0 => rfl
  | 1 => rfl
  | 2 => rfl
  | 3 => rfl
  | 4 => rfl
  | 5 => rfl
  | 6 => rfl
  | 7 => rfl
  | 8 => rfl
  | 9 => rfl
  | 10 => rfl
  | 11 => rfl
  | 12 => rfl
  | 13 => rfl
  | 14 => rfl
  | 15 => rfl
  | 16 => rfl
  | 17 => rfl
  | 18 => rfl
  | 19 => rfl
  | 20 => rfl
  | 21 => rfl
  | 22 => rfl
  | 23 => rfl
  | 24 => rfl
  | 25 => rfl
  | 26 => rfl
  | 27 => rfl
  | 28 => rfl
  | 29 => rfl
  | 30 => exact absurd (by rw [hok.2.1 (by omega), hok.1 (by omega) (by omega)]) hne
  | 31 => rfl
  | 32 => rfl
  | 33 => rfl
  | 34 => rfl
  | 35 => rfl
  | 36 => rfl
  | 37 => rfl
  | 38 => rfl
  | 39 => rfl
  | 40 => rfl
  | 41 => rfl
  | 42 => rfl
  | 43 => rfl
  | 44 => rfl
  | z + 45 => rfl)
theorem wM_cutA {v : Int32} : updH (hp g c m) (aM g) (.inr (5, fM g (m.s_cutA v))) = hp g c (m.s_cutA v) := hz_set (c' := c) (m' := (m.s_cutA v)) (r := 407) (t := 30) (i := 0) (j := 0) (by decide) (by decide) rfl rfl (fun t' i' j' hok hne => by
  match t' with
  | 0 => rfl
  | 1 => rfl
  | 2 => rfl
  | 3 => rfl
  | 4 => rfl
  | 5 => rfl
  | 6 => rfl
  | 7 => rfl
  | 8 => rfl
  | 9 => rfl
  | 10 => rfl
  | 11 => rfl
  | 12 => rfl
  | 13 => rfl
  | 14 => rfl
  | 15 => rfl
  | 16 => rfl
  | 17 => rfl
  | 18 => rfl
  | 19 => rfl
  | 20 => rfl
  | 21 => rfl
  | 22 => rfl
  | 23 => rfl
  | 24 => rfl
  | 25 => rfl
  | 26 => rfl
  | 27 => rfl
  | 28 => rfl
  | 29 => rfl
  | 30 => exact absurd (by rw [hok.2.1 (by omega), hok.1 (by omega) (by omega)]) hne
  | 31 => rfl
  | 32 => rfl
  | 33 => rfl
  | 34 => rfl
  | 35 => rfl
  | 36 => rfl
  | 37 => rfl
  | 38 => rfl
  | 39 => rfl
  | 40 => rfl
  | 41 => rfl
  | 42 => rfl
  | 43 => rfl
  | 44 => rfl
  | z + 45 => rfl)
theorem wM_gotN {v : Nat} : updH (hp g c m) (aM g) (.inr (5, fM g (m.s_gotN v))) = hp g c (m.s_gotN v) := hz_set (c' := c) (m' := (m.s_gotN v)) (r := 407) (t := 30) (i := 0) (j := 0) (by decide) (by decide) rfl rfl (fun t' i' j' hok hne => by
  match t' with
  | 0 => rfl
  | 1 => rfl
  | 2 => rfl
  | 3 => rfl
  | 4 => rfl
  | 5 => rfl
  | 6 => rfl
  | 7 => rfl
  | 8 => rfl
  | 9 => rfl
  | 10 => rfl
  | 11 => rfl
  | 12 => rfl
  | 13 => rfl
  | 14 => rfl
  | 15 => rfl
  | 16 => rfl
  | 17 => rfl
  | 18 => rfl
  | 19 => rfl
  | 20 => rfl
  | 21 => rfl
  | 22 => rfl
  | 23 => rfl
  | 24 => rfl
  | 25 => rfl
  | 26 => rfl
  | 27 => rfl
  | 28 => rfl
  | 29 => rfl
  | 30 => exact absurd (by rw [hok.2.1 (by omega), hok.1 (by omega) (by omega)]) hne
  | 31 => rfl
  | 32 => rfl
  | 33 => rfl
  | 34 => rfl
  | 35 => rfl
  | 36 => rfl
  | 37 => rfl
  | 38 => rfl
  | 39 => rfl
  | 40 => rfl
  | 41 => rfl
  | 42 => rfl
  | 43 => rfl
  | 44 => rfl
  | z + 45 => rfl)
theorem wM_msgs {v : Int32} : updH (hp g c m) (aM g) (.inr (5, fM g (m.s_msgs v))) = hp g c (m.s_msgs v) := hz_set (c' := c) (m' := (m.s_msgs v)) (r := 407) (t := 30) (i := 0) (j := 0) (by decide) (by decide) rfl rfl (fun t' i' j' hok hne => by
  match t' with
  | 0 => rfl
  | 1 => rfl
  | 2 => rfl
  | 3 => rfl
  | 4 => rfl
  | 5 => rfl
  | 6 => rfl
  | 7 => rfl
  | 8 => rfl
  | 9 => rfl
  | 10 => rfl
  | 11 => rfl
  | 12 => rfl
  | 13 => rfl
  | 14 => rfl
  | 15 => rfl
  | 16 => rfl
  | 17 => rfl
  | 18 => rfl
  | 19 => rfl
  | 20 => rfl
  | 21 => rfl
  | 22 => rfl
  | 23 => rfl
  | 24 => rfl
  | 25 => rfl
  | 26 => rfl
  | 27 => rfl
  | 28 => rfl
  | 29 => rfl
  | 30 => exact absurd (by rw [hok.2.1 (by omega), hok.1 (by omega) (by omega)]) hne
  | 31 => rfl
  | 32 => rfl
  | 33 => rfl
  | 34 => rfl
  | 35 => rfl
  | 36 => rfl
  | 37 => rfl
  | 38 => rfl
  | 39 => rfl
  | 40 => rfl
  | 41 => rfl
  | 42 => rfl
  | 43 => rfl
  | 44 => rfl
  | z + 45 => rfl)
theorem wM_syms {v : Int32} : updH (hp g c m) (aM g) (.inr (5, fM g (m.s_syms v))) = hp g c (m.s_syms v) := hz_set (c' := c) (m' := (m.s_syms v)) (r := 407) (t := 30) (i := 0) (j := 0) (by decide) (by decide) rfl rfl (fun t' i' j' hok hne => by
  match t' with
  | 0 => rfl
  | 1 => rfl
  | 2 => rfl
  | 3 => rfl
  | 4 => rfl
  | 5 => rfl
  | 6 => rfl
  | 7 => rfl
  | 8 => rfl
  | 9 => rfl
  | 10 => rfl
  | 11 => rfl
  | 12 => rfl
  | 13 => rfl
  | 14 => rfl
  | 15 => rfl
  | 16 => rfl
  | 17 => rfl
  | 18 => rfl
  | 19 => rfl
  | 20 => rfl
  | 21 => rfl
  | 22 => rfl
  | 23 => rfl
  | 24 => rfl
  | 25 => rfl
  | 26 => rfl
  | 27 => rfl
  | 28 => rfl
  | 29 => rfl
  | 30 => exact absurd (by rw [hok.2.1 (by omega), hok.1 (by omega) (by omega)]) hne
  | 31 => rfl
  | 32 => rfl
  | 33 => rfl
  | 34 => rfl
  | 35 => rfl
  | 36 => rfl
  | 37 => rfl
  | 38 => rfl
  | 39 => rfl
  | 40 => rfl
  | 41 => rfl
  | 42 => rfl
  | 43 => rfl
  | 44 => rfl
  | z + 45 => rfl)
theorem wm_tape {v : Nat → Nat} : updH (hp g c m) (amTape g) (iA 240 v) = hp g c (m.s_tape v) := hz_set (c' := c) (m' := (m.s_tape v)) (r := 408) (t := 31) (i := 0) (j := 0) (by decide) (by decide) rfl rfl (fun t' i' j' hok hne => by
  match t' with
  | 0 => rfl
  | 1 => rfl
  | 2 => rfl
  | 3 => rfl
  | 4 => rfl
  | 5 => rfl
  | 6 => rfl
  | 7 => rfl
  | 8 => rfl
  | 9 => rfl
  | 10 => rfl
  | 11 => rfl
  | 12 => rfl
  | 13 => rfl
  | 14 => rfl
  | 15 => rfl
  | 16 => rfl
  | 17 => rfl
  | 18 => rfl
  | 19 => rfl
  | 20 => rfl
  | 21 => rfl
  | 22 => rfl
  | 23 => rfl
  | 24 => rfl
  | 25 => rfl
  | 26 => rfl
  | 27 => rfl
  | 28 => rfl
  | 29 => rfl
  | 30 => rfl
  | 31 => exact absurd (by rw [hok.2.1 (by omega), hok.1 (by omega) (by omega)]) hne
  | 32 => rfl
  | 33 => rfl
  | 34 => rfl
  | 35 => rfl
  | 36 => rfl
  | 37 => rfl
  | 38 => rfl
  | 39 => rfl
  | 40 => rfl
  | 41 => rfl
  | 42 => rfl
  | 43 => rfl
  | 44 => rfl
  | z + 45 => rfl)
theorem wm_fail {v : Nat → Bool} : updH (hp g c m) (amFail g) (zA 12 v) = hp g c (m.s_fail v) := hz_set (c' := c) (m' := (m.s_fail v)) (r := 409) (t := 32) (i := 0) (j := 0) (by decide) (by decide) rfl rfl (fun t' i' j' hok hne => by
  match t' with
  | 0 => rfl
  | 1 => rfl
  | 2 => rfl
  | 3 => rfl
  | 4 => rfl
  | 5 => rfl
  | 6 => rfl
  | 7 => rfl
  | 8 => rfl
  | 9 => rfl
  | 10 => rfl
  | 11 => rfl
  | 12 => rfl
  | 13 => rfl
  | 14 => rfl
  | 15 => rfl
  | 16 => rfl
  | 17 => rfl
  | 18 => rfl
  | 19 => rfl
  | 20 => rfl
  | 21 => rfl
  | 22 => rfl
  | 23 => rfl
  | 24 => rfl
  | 25 => rfl
  | 26 => rfl
  | 27 => rfl
  | 28 => rfl
  | 29 => rfl
  | 30 => rfl
  | 31 => rfl
  | 32 => exact absurd (by rw [hok.2.1 (by omega), hok.1 (by omega) (by omega)]) hne
  | 33 => rfl
  | 34 => rfl
  | 35 => rfl
  | 36 => rfl
  | 37 => rfl
  | 38 => rfl
  | 39 => rfl
  | 40 => rfl
  | 41 => rfl
  | 42 => rfl
  | 43 => rfl
  | 44 => rfl
  | z + 45 => rfl)
theorem wm_sent {v : Nat → Int32} : updH (hp g c m) (amSent g) (jA 12 v) = hp g c (m.s_sent v) := hz_set (c' := c) (m' := (m.s_sent v)) (r := 410) (t := 33) (i := 0) (j := 0) (by decide) (by decide) rfl rfl (fun t' i' j' hok hne => by
  match t' with
  | 0 => rfl
  | 1 => rfl
  | 2 => rfl
  | 3 => rfl
  | 4 => rfl
  | 5 => rfl
  | 6 => rfl
  | 7 => rfl
  | 8 => rfl
  | 9 => rfl
  | 10 => rfl
  | 11 => rfl
  | 12 => rfl
  | 13 => rfl
  | 14 => rfl
  | 15 => rfl
  | 16 => rfl
  | 17 => rfl
  | 18 => rfl
  | 19 => rfl
  | 20 => rfl
  | 21 => rfl
  | 22 => rfl
  | 23 => rfl
  | 24 => rfl
  | 25 => rfl
  | 26 => rfl
  | 27 => rfl
  | 28 => rfl
  | 29 => rfl
  | 30 => rfl
  | 31 => rfl
  | 32 => rfl
  | 33 => exact absurd (by rw [hok.2.1 (by omega), hok.1 (by omega) (by omega)]) hne
  | 34 => rfl
  | 35 => rfl
  | 36 => rfl
  | 37 => rfl
  | 38 => rfl
  | 39 => rfl
  | 40 => rfl
  | 41 => rfl
  | 42 => rfl
  | 43 => rfl
  | 44 => rfl
  | z + 45 => rfl)
theorem wm_used {v : Nat → Bool} : updH (hp g c m) (amUsed g) (zA 480 v) = hp g c (m.s_used v) := hz_set (c' := c) (m' := (m.s_used v)) (r := 411) (t := 34) (i := 0) (j := 0) (by decide) (by decide) rfl rfl (fun t' i' j' hok hne => by
  match t' with
  | 0 => rfl
  | 1 => rfl
  | 2 => rfl
  | 3 => rfl
  | 4 => rfl
  | 5 => rfl
  | 6 => rfl
  | 7 => rfl
  | 8 => rfl
  | 9 => rfl
  | 10 => rfl
  | 11 => rfl
  | 12 => rfl
  | 13 => rfl
  | 14 => rfl
  | 15 => rfl
  | 16 => rfl
  | 17 => rfl
  | 18 => rfl
  | 19 => rfl
  | 20 => rfl
  | 21 => rfl
  | 22 => rfl
  | 23 => rfl
  | 24 => rfl
  | 25 => rfl
  | 26 => rfl
  | 27 => rfl
  | 28 => rfl
  | 29 => rfl
  | 30 => rfl
  | 31 => rfl
  | 32 => rfl
  | 33 => rfl
  | 34 => exact absurd (by rw [hok.2.1 (by omega), hok.1 (by omega) (by omega)]) hne
  | 35 => rfl
  | 36 => rfl
  | 37 => rfl
  | 38 => rfl
  | 39 => rfl
  | 40 => rfl
  | 41 => rfl
  | 42 => rfl
  | 43 => rfl
  | 44 => rfl
  | z + 45 => rfl)
theorem wm_byts {v : Nat → Nat} : updH (hp g c m) (amByts g) (iA 3840 v) = hp g c (m.s_byts v) := hz_set (c' := c) (m' := (m.s_byts v)) (r := 412) (t := 35) (i := 0) (j := 0) (by decide) (by decide) rfl rfl (fun t' i' j' hok hne => by
  match t' with
  | 0 => rfl
  | 1 => rfl
  | 2 => rfl
  | 3 => rfl
  | 4 => rfl
  | 5 => rfl
  | 6 => rfl
  | 7 => rfl
  | 8 => rfl
  | 9 => rfl
  | 10 => rfl
  | 11 => rfl
  | 12 => rfl
  | 13 => rfl
  | 14 => rfl
  | 15 => rfl
  | 16 => rfl
  | 17 => rfl
  | 18 => rfl
  | 19 => rfl
  | 20 => rfl
  | 21 => rfl
  | 22 => rfl
  | 23 => rfl
  | 24 => rfl
  | 25 => rfl
  | 26 => rfl
  | 27 => rfl
  | 28 => rfl
  | 29 => rfl
  | 30 => rfl
  | 31 => rfl
  | 32 => rfl
  | 33 => rfl
  | 34 => rfl
  | 35 => exact absurd (by rw [hok.2.1 (by omega), hok.1 (by omega) (by omega)]) hne
  | 36 => rfl
  | 37 => rfl
  | 38 => rfl
  | 39 => rfl
  | 40 => rfl
  | 41 => rfl
  | 42 => rfl
  | 43 => rfl
  | 44 => rfl
  | z + 45 => rfl)
theorem wm_has {v : Nat → Bool} : updH (hp g c m) (amHas g) (zA 144 v) = hp g c (m.s_has v) := hz_set (c' := c) (m' := (m.s_has v)) (r := 413) (t := 36) (i := 0) (j := 0) (by decide) (by decide) rfl rfl (fun t' i' j' hok hne => by
  match t' with
  | 0 => rfl
  | 1 => rfl
  | 2 => rfl
  | 3 => rfl
  | 4 => rfl
  | 5 => rfl
  | 6 => rfl
  | 7 => rfl
  | 8 => rfl
  | 9 => rfl
  | 10 => rfl
  | 11 => rfl
  | 12 => rfl
  | 13 => rfl
  | 14 => rfl
  | 15 => rfl
  | 16 => rfl
  | 17 => rfl
  | 18 => rfl
  | 19 => rfl
  | 20 => rfl
  | 21 => rfl
  | 22 => rfl
  | 23 => rfl
  | 24 => rfl
  | 25 => rfl
  | 26 => rfl
  | 27 => rfl
  | 28 => rfl
  | 29 => rfl
  | 30 => rfl
  | 31 => rfl
  | 32 => rfl
  | 33 => rfl
  | 34 => rfl
  | 35 => rfl
  | 36 => exact absurd (by rw [hok.2.1 (by omega), hok.1 (by omega) (by omega)]) hne
  | 37 => rfl
  | 38 => rfl
  | 39 => rfl
  | 40 => rfl
  | 41 => rfl
  | 42 => rfl
  | 43 => rfl
  | 44 => rfl
  | z + 45 => rfl)
theorem wm_ver {v : Nat → Nat} : updH (hp g c m) (amVer g) (iA 144 v) = hp g c (m.s_ver v) := hz_set (c' := c) (m' := (m.s_ver v)) (r := 414) (t := 37) (i := 0) (j := 0) (by decide) (by decide) rfl rfl (fun t' i' j' hok hne => by
  match t' with
  | 0 => rfl
  | 1 => rfl
  | 2 => rfl
  | 3 => rfl
  | 4 => rfl
  | 5 => rfl
  | 6 => rfl
  | 7 => rfl
  | 8 => rfl
  | 9 => rfl
  | 10 => rfl
  | 11 => rfl
  | 12 => rfl
  | 13 => rfl
  | 14 => rfl
  | 15 => rfl
  | 16 => rfl
  | 17 => rfl
  | 18 => rfl
  | 19 => rfl
  | 20 => rfl
  | 21 => rfl
  | 22 => rfl
  | 23 => rfl
  | 24 => rfl
  | 25 => rfl
  | 26 => rfl
  | 27 => rfl
  | 28 => rfl
  | 29 => rfl
  | 30 => rfl
  | 31 => rfl
  | 32 => rfl
  | 33 => rfl
  | 34 => rfl
  | 35 => rfl
  | 36 => rfl
  | 37 => exact absurd (by rw [hok.2.1 (by omega), hok.1 (by omega) (by omega)]) hne
  | 38 => rfl
  | 39 => rfl
  | 40 => rfl
  | 41 => rfl
  | 42 => rfl
  | 43 => rfl
  | 44 => rfl
  | z + 45 => rfl)
theorem wm_size {v : Nat → Nat} : updH (hp g c m) (amSize g) (iA 144 v) = hp g c (m.s_size v) := hz_set (c' := c) (m' := (m.s_size v)) (r := 415) (t := 38) (i := 0) (j := 0) (by decide) (by decide) rfl rfl (fun t' i' j' hok hne => by
  match t' with
  | 0 => rfl
  | 1 => rfl
  | 2 => rfl
  | 3 => rfl
  | 4 => rfl
  | 5 => rfl
  | 6 => rfl
  | 7 => rfl
  | 8 => rfl
  | 9 => rfl
  | 10 => rfl
  | 11 => rfl
  | 12 => rfl
  | 13 => rfl
  | 14 => rfl
  | 15 => rfl
  | 16 => rfl
  | 17 => rfl
  | 18 => rfl
  | 19 => rfl
  | 20 => rfl
  | 21 => rfl
  | 22 => rfl
  | 23 => rfl
  | 24 => rfl
  | 25 => rfl
  | 26 => rfl
  | 27 => rfl
  | 28 => rfl
  | 29 => rfl
  | 30 => rfl
  | 31 => rfl
  | 32 => rfl
  | 33 => rfl
  | 34 => rfl
  | 35 => rfl
  | 36 => rfl
  | 37 => rfl
  | 38 => exact absurd (by rw [hok.2.1 (by omega), hok.1 (by omega) (by omega)]) hne
  | 39 => rfl
  | 40 => rfl
  | 41 => rfl
  | 42 => rfl
  | 43 => rfl
  | 44 => rfl
  | z + 45 => rfl)
theorem wm_blk {v : Nat → Nat} : updH (hp g c m) (amBlk g) (iA 1152 v) = hp g c (m.s_blk v) := hz_set (c' := c) (m' := (m.s_blk v)) (r := 416) (t := 39) (i := 0) (j := 0) (by decide) (by decide) rfl rfl (fun t' i' j' hok hne => by
  match t' with
  | 0 => rfl
  | 1 => rfl
  | 2 => rfl
  | 3 => rfl
  | 4 => rfl
  | 5 => rfl
  | 6 => rfl
  | 7 => rfl
  | 8 => rfl
  | 9 => rfl
  | 10 => rfl
  | 11 => rfl
  | 12 => rfl
  | 13 => rfl
  | 14 => rfl
  | 15 => rfl
  | 16 => rfl
  | 17 => rfl
  | 18 => rfl
  | 19 => rfl
  | 20 => rfl
  | 21 => rfl
  | 22 => rfl
  | 23 => rfl
  | 24 => rfl
  | 25 => rfl
  | 26 => rfl
  | 27 => rfl
  | 28 => rfl
  | 29 => rfl
  | 30 => rfl
  | 31 => rfl
  | 32 => rfl
  | 33 => rfl
  | 34 => rfl
  | 35 => rfl
  | 36 => rfl
  | 37 => rfl
  | 38 => rfl
  | 39 => exact absurd (by rw [hok.2.1 (by omega), hok.1 (by omega) (by omega)]) hne
  | 40 => rfl
  | 41 => rfl
  | 42 => rfl
  | 43 => rfl
  | 44 => rfl
  | z + 45 => rfl)
theorem wm_latest {v : Nat → Nat} : updH (hp g c m) (amLat g) (iA 6 v) = hp g c (m.s_latest v) := hz_set (c' := c) (m' := (m.s_latest v)) (r := 417) (t := 40) (i := 0) (j := 0) (by decide) (by decide) rfl rfl (fun t' i' j' hok hne => by
  match t' with
  | 0 => rfl
  | 1 => rfl
  | 2 => rfl
  | 3 => rfl
  | 4 => rfl
  | 5 => rfl
  | 6 => rfl
  | 7 => rfl
  | 8 => rfl
  | 9 => rfl
  | 10 => rfl
  | 11 => rfl
  | 12 => rfl
  | 13 => rfl
  | 14 => rfl
  | 15 => rfl
  | 16 => rfl
  | 17 => rfl
  | 18 => rfl
  | 19 => rfl
  | 20 => rfl
  | 21 => rfl
  | 22 => rfl
  | 23 => rfl
  | 24 => rfl
  | 25 => rfl
  | 26 => rfl
  | 27 => rfl
  | 28 => rfl
  | 29 => rfl
  | 30 => rfl
  | 31 => rfl
  | 32 => rfl
  | 33 => rfl
  | 34 => rfl
  | 35 => rfl
  | 36 => rfl
  | 37 => rfl
  | 38 => rfl
  | 39 => rfl
  | 40 => exact absurd (by rw [hok.2.1 (by omega), hok.1 (by omega) (by omega)]) hne
  | 41 => rfl
  | 42 => rfl
  | 43 => rfl
  | 44 => rfl
  | z + 45 => rfl)
theorem wm_opn {v : Nat → Bool} : updH (hp g c m) (amOpn g) (zA 6 v) = hp g c (m.s_opn v) := hz_set (c' := c) (m' := (m.s_opn v)) (r := 418) (t := 41) (i := 0) (j := 0) (by decide) (by decide) rfl rfl (fun t' i' j' hok hne => by
  match t' with
  | 0 => rfl
  | 1 => rfl
  | 2 => rfl
  | 3 => rfl
  | 4 => rfl
  | 5 => rfl
  | 6 => rfl
  | 7 => rfl
  | 8 => rfl
  | 9 => rfl
  | 10 => rfl
  | 11 => rfl
  | 12 => rfl
  | 13 => rfl
  | 14 => rfl
  | 15 => rfl
  | 16 => rfl
  | 17 => rfl
  | 18 => rfl
  | 19 => rfl
  | 20 => rfl
  | 21 => rfl
  | 22 => rfl
  | 23 => rfl
  | 24 => rfl
  | 25 => rfl
  | 26 => rfl
  | 27 => rfl
  | 28 => rfl
  | 29 => rfl
  | 30 => rfl
  | 31 => rfl
  | 32 => rfl
  | 33 => rfl
  | 34 => rfl
  | 35 => rfl
  | 36 => rfl
  | 37 => rfl
  | 38 => rfl
  | 39 => rfl
  | 40 => rfl
  | 41 => exact absurd (by rw [hok.2.1 (by omega), hok.1 (by omega) (by omega)]) hne
  | 42 => rfl
  | 43 => rfl
  | 44 => rfl
  | z + 45 => rfl)
theorem wm_got {v : Nat → Nat} : updH (hp g c m) (amGot g) (iA 240 v) = hp g c (m.s_got v) := hz_set (c' := c) (m' := (m.s_got v)) (r := 419) (t := 42) (i := 0) (j := 0) (by decide) (by decide) rfl rfl (fun t' i' j' hok hne => by
  match t' with
  | 0 => rfl
  | 1 => rfl
  | 2 => rfl
  | 3 => rfl
  | 4 => rfl
  | 5 => rfl
  | 6 => rfl
  | 7 => rfl
  | 8 => rfl
  | 9 => rfl
  | 10 => rfl
  | 11 => rfl
  | 12 => rfl
  | 13 => rfl
  | 14 => rfl
  | 15 => rfl
  | 16 => rfl
  | 17 => rfl
  | 18 => rfl
  | 19 => rfl
  | 20 => rfl
  | 21 => rfl
  | 22 => rfl
  | 23 => rfl
  | 24 => rfl
  | 25 => rfl
  | 26 => rfl
  | 27 => rfl
  | 28 => rfl
  | 29 => rfl
  | 30 => rfl
  | 31 => rfl
  | 32 => rfl
  | 33 => rfl
  | 34 => rfl
  | 35 => rfl
  | 36 => rfl
  | 37 => rfl
  | 38 => rfl
  | 39 => rfl
  | 40 => rfl
  | 41 => rfl
  | 42 => exact absurd (by rw [hok.2.1 (by omega), hok.1 (by omega) (by omega)]) hne
  | 43 => rfl
  | 44 => rfl
  | z + 45 => rfl)
theorem wm_eqs {v : Nat → Nat} : updH (hp g c m) (amEqs g) (iA 128 v) = hp g c (m.s_eqs v) := hz_set (c' := c) (m' := (m.s_eqs v)) (r := 420) (t := 43) (i := 0) (j := 0) (by decide) (by decide) rfl rfl (fun t' i' j' hok hne => by
  match t' with
  | 0 => rfl
  | 1 => rfl
  | 2 => rfl
  | 3 => rfl
  | 4 => rfl
  | 5 => rfl
  | 6 => rfl
  | 7 => rfl
  | 8 => rfl
  | 9 => rfl
  | 10 => rfl
  | 11 => rfl
  | 12 => rfl
  | 13 => rfl
  | 14 => rfl
  | 15 => rfl
  | 16 => rfl
  | 17 => rfl
  | 18 => rfl
  | 19 => rfl
  | 20 => rfl
  | 21 => rfl
  | 22 => rfl
  | 23 => rfl
  | 24 => rfl
  | 25 => rfl
  | 26 => rfl
  | 27 => rfl
  | 28 => rfl
  | 29 => rfl
  | 30 => rfl
  | 31 => rfl
  | 32 => rfl
  | 33 => rfl
  | 34 => rfl
  | 35 => rfl
  | 36 => rfl
  | 37 => rfl
  | 38 => rfl
  | 39 => rfl
  | 40 => rfl
  | 41 => rfl
  | 42 => rfl
  | 43 => exact absurd (by rw [hok.2.1 (by omega), hok.1 (by omega) (by omega)]) hne
  | 44 => rfl
  | z + 45 => rfl)
theorem wm_chos {v : Nat → Nat} : updH (hp g c m) (amCho g) (iA 8 v) = hp g c (m.s_chos v) := hz_set (c' := c) (m' := (m.s_chos v)) (r := 421) (t := 44) (i := 0) (j := 0) (by decide) (by decide) rfl rfl (fun t' i' j' hok hne => by
  match t' with
  | 0 => rfl
  | 1 => rfl
  | 2 => rfl
  | 3 => rfl
  | 4 => rfl
  | 5 => rfl
  | 6 => rfl
  | 7 => rfl
  | 8 => rfl
  | 9 => rfl
  | 10 => rfl
  | 11 => rfl
  | 12 => rfl
  | 13 => rfl
  | 14 => rfl
  | 15 => rfl
  | 16 => rfl
  | 17 => rfl
  | 18 => rfl
  | 19 => rfl
  | 20 => rfl
  | 21 => rfl
  | 22 => rfl
  | 23 => rfl
  | 24 => rfl
  | 25 => rfl
  | 26 => rfl
  | 27 => rfl
  | 28 => rfl
  | 29 => rfl
  | 30 => rfl
  | 31 => rfl
  | 32 => rfl
  | 33 => rfl
  | 34 => rfl
  | 35 => rfl
  | 36 => rfl
  | 37 => rfl
  | 38 => rfl
  | 39 => rfl
  | 40 => rfl
  | 41 => rfl
  | 42 => rfl
  | 43 => rfl
  | 44 => exact absurd (by rw [hok.2.1 (by omega), hok.1 (by omega) (by omega)]) hne
  | z + 45 => rfl)
theorem wm_right {v : Nat → Nat} : updH (hp g c m) (amRig g) (iA 15 v) = hp g c (m.s_right v) := hz_set (c' := c) (m' := (m.s_right v)) (r := 422) (t := 45) (i := 0) (j := 0) (by decide) (by decide) rfl rfl (fun t' i' j' hok hne => by
  match t' with
  | 0 => rfl
  | 1 => rfl
  | 2 => rfl
  | 3 => rfl
  | 4 => rfl
  | 5 => rfl
  | 6 => rfl
  | 7 => rfl
  | 8 => rfl
  | 9 => rfl
  | 10 => rfl
  | 11 => rfl
  | 12 => rfl
  | 13 => rfl
  | 14 => rfl
  | 15 => rfl
  | 16 => rfl
  | 17 => rfl
  | 18 => rfl
  | 19 => rfl
  | 20 => rfl
  | 21 => rfl
  | 22 => rfl
  | 23 => rfl
  | 24 => rfl
  | 25 => rfl
  | 26 => rfl
  | 27 => rfl
  | 28 => rfl
  | 29 => rfl
  | 30 => rfl
  | 31 => rfl
  | 32 => rfl
  | 33 => rfl
  | 34 => rfl
  | 35 => rfl
  | 36 => rfl
  | 37 => rfl
  | 38 => rfl
  | 39 => rfl
  | 40 => rfl
  | 41 => rfl
  | 42 => rfl
  | 43 => rfl
  | 44 => rfl
  | z + 45 => exact absurd (by (have q := hok.2.2); (obtain rfl : z = 0 := by omega); rw [hok.2.1 (by omega), hok.1 (by omega) (by omega)]) hne)
end GS
end
