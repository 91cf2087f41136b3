section
-- ===== PART A: goes FIRST, ahead of the names: the tables' words, and 'selects' of the private methods out of them =====
/-- a private method of a class that the tables say can be made, by its rows of tables_1 -/
def lw_okq (q : MethodName × Nat) : Prop := (q.1.cls ≠ "java/lang/invoke/MethodHandle" ∧ q.1.cls ≠ "java/lang/invoke/VarHandle") ∧ Cond.instantiable q.1.cls q.2 ∈ tables_1 ∧ Cond.privateMethod q.1 ∈ tables_1 ∧ Cond.instanceMethod q.1 ∈ tables_1
theorem lw_p0 : lw_okq (⟨"CloneOutline", "placeOrRoot", "(I)I"⟩, 8) := ⟨⟨by decide +kernel, by decide +kernel⟩, List.mem_of_getElem? (i := 15) (by decide +kernel), List.mem_of_getElem? (i := 213) (by decide +kernel), List.mem_of_getElem? (i := 214) (by decide +kernel)⟩
theorem lw_p1 : lw_okq (⟨"CloneOutline$Places", "isThere", "(I)Z"⟩, 4) := ⟨⟨by decide +kernel, by decide +kernel⟩, List.mem_of_getElem? (i := 132) (by decide +kernel), List.mem_of_getElem? (i := 266) (by decide +kernel), List.mem_of_getElem? (i := 267) (by decide +kernel)⟩
theorem lw_p2 : lw_okq (⟨"CloneOutline", "attach", "(II)I"⟩, 8) := ⟨⟨by decide +kernel, by decide +kernel⟩, List.mem_of_getElem? (i := 15) (by decide +kernel), List.mem_of_getElem? (i := 270) (by decide +kernel), List.mem_of_getElem? (i := 271) (by decide +kernel)⟩
theorem lw_p3 : lw_okq (⟨"CloneOutline", "accept", "()V"⟩, 8) := ⟨⟨by decide +kernel, by decide +kernel⟩, List.mem_of_getElem? (i := 15) (by decide +kernel), List.mem_of_getElem? (i := 302) (by decide +kernel), List.mem_of_getElem? (i := 303) (by decide +kernel)⟩
theorem lw_p4 : lw_okq (⟨"CloneOutline", "refusalOfParent", "(II)I"⟩, 8) := ⟨⟨by decide +kernel, by decide +kernel⟩, List.mem_of_getElem? (i := 15) (by decide +kernel), List.mem_of_getElem? (i := 326) (by decide +kernel), List.mem_of_getElem? (i := 327) (by decide +kernel)⟩
theorem lw_p5 : lw_okq (⟨"CloneOutline", "nodeOfRow", "(I)I"⟩, 8) := ⟨⟨by decide +kernel, by decide +kernel⟩, List.mem_of_getElem? (i := 15) (by decide +kernel), List.mem_of_getElem? (i := 345) (by decide +kernel), List.mem_of_getElem? (i := 346) (by decide +kernel)⟩
theorem lw_p6 : lw_okq (⟨"CloneOutline", "parentNodeOf", "(I)I"⟩, 8) := ⟨⟨by decide +kernel, by decide +kernel⟩, List.mem_of_getElem? (i := 15) (by decide +kernel), List.mem_of_getElem? (i := 353) (by decide +kernel), List.mem_of_getElem? (i := 354) (by decide +kernel)⟩
theorem lw_p7 : lw_okq (⟨"CloneOutline$Reader", "begin", "()V"⟩, 5) := ⟨⟨by decide +kernel, by decide +kernel⟩, List.mem_of_getElem? (i := 40) (by decide +kernel), List.mem_of_getElem? (i := 511) (by decide +kernel), List.mem_of_getElem? (i := 512) (by decide +kernel)⟩
theorem lw_p8 : lw_okq (⟨"CloneOutline$Reader", "takeLetter", "(ILCloneOutline$State;)Z"⟩, 5) := ⟨⟨by decide +kernel, by decide +kernel⟩, List.mem_of_getElem? (i := 40) (by decide +kernel), List.mem_of_getElem? (i := 516) (by decide +kernel), List.mem_of_getElem? (i := 517) (by decide +kernel)⟩
theorem lw_p9 : lw_okq (⟨"CloneOutline$Reader", "isOpen", "(I)Z"⟩, 5) := ⟨⟨by decide +kernel, by decide +kernel⟩, List.mem_of_getElem? (i := 40) (by decide +kernel), List.mem_of_getElem? (i := 525) (by decide +kernel), List.mem_of_getElem? (i := 526) (by decide +kernel)⟩
theorem lw_p10 : lw_okq (⟨"CloneOutline$Reader", "takeSign", "(I)Z"⟩, 5) := ⟨⟨by decide +kernel, by decide +kernel⟩, List.mem_of_getElem? (i := 40) (by decide +kernel), List.mem_of_getElem? (i := 531) (by decide +kernel), List.mem_of_getElem? (i := 532) (by decide +kernel)⟩
theorem lw_p11 : lw_okq (⟨"CloneOutline", "positionAt", "(I)I"⟩, 8) := ⟨⟨by decide +kernel, by decide +kernel⟩, List.mem_of_getElem? (i := 15) (by decide +kernel), List.mem_of_getElem? (i := 560) (by decide +kernel), List.mem_of_getElem? (i := 561) (by decide +kernel)⟩
theorem lw_p12 : lw_okq (⟨"CloneOutline", "parentRow", "(I)I"⟩, 8) := ⟨⟨by decide +kernel, by decide +kernel⟩, List.mem_of_getElem? (i := 15) (by decide +kernel), List.mem_of_getElem? (i := 564) (by decide +kernel), List.mem_of_getElem? (i := 565) (by decide +kernel)⟩
theorem lw_p13 : lw_okq (⟨"CloneOutlineModel", "nodeOf", "(I)I"⟩, 20) := ⟨⟨by decide +kernel, by decide +kernel⟩, List.mem_of_getElem? (i := 628) (by decide +kernel), List.mem_of_getElem? (i := 701) (by decide +kernel), List.mem_of_getElem? (i := 702) (by decide +kernel)⟩
theorem lw_p14 : lw_okq (⟨"CloneOutlineModel", "placeOf", "(I)I"⟩, 20) := ⟨⟨by decide +kernel, by decide +kernel⟩, List.mem_of_getElem? (i := 628) (by decide +kernel), List.mem_of_getElem? (i := 705) (by decide +kernel), List.mem_of_getElem? (i := 706) (by decide +kernel)⟩
theorem lw_p15 : lw_okq (⟨"CloneOutlineModel", "isSeen", "(I)Z"⟩, 20) := ⟨⟨by decide +kernel, by decide +kernel⟩, List.mem_of_getElem? (i := 628) (by decide +kernel), List.mem_of_getElem? (i := 709) (by decide +kernel), List.mem_of_getElem? (i := 710) (by decide +kernel)⟩
def lw_privs_1 : List (MethodName × Nat) := [(⟨"CloneOutline", "placeOrRoot", "(I)I"⟩, 8), (⟨"CloneOutline$Places", "isThere", "(I)Z"⟩, 4), (⟨"CloneOutline", "attach", "(II)I"⟩, 8), (⟨"CloneOutline", "accept", "()V"⟩, 8), (⟨"CloneOutline", "refusalOfParent", "(II)I"⟩, 8), (⟨"CloneOutline", "nodeOfRow", "(I)I"⟩, 8), (⟨"CloneOutline", "parentNodeOf", "(I)I"⟩, 8), (⟨"CloneOutline$Reader", "begin", "()V"⟩, 5), (⟨"CloneOutline$Reader", "takeLetter", "(ILCloneOutline$State;)Z"⟩, 5), (⟨"CloneOutline$Reader", "isOpen", "(I)Z"⟩, 5), (⟨"CloneOutline$Reader", "takeSign", "(I)Z"⟩, 5), (⟨"CloneOutline", "positionAt", "(I)I"⟩, 8), (⟨"CloneOutline", "parentRow", "(I)I"⟩, 8), (⟨"CloneOutlineModel", "nodeOf", "(I)I"⟩, 20), (⟨"CloneOutlineModel", "placeOf", "(I)I"⟩, 20), (⟨"CloneOutlineModel", "isSeen", "(I)Z"⟩, 20)]
theorem lw_r1 : ∀ q ∈ lw_privs_1, lw_okq q := List.forall_mem_cons.mpr ⟨lw_p0, List.forall_mem_cons.mpr ⟨lw_p1, List.forall_mem_cons.mpr ⟨lw_p2, List.forall_mem_cons.mpr ⟨lw_p3, List.forall_mem_cons.mpr ⟨lw_p4, List.forall_mem_cons.mpr ⟨lw_p5, List.forall_mem_cons.mpr ⟨lw_p6, List.forall_mem_cons.mpr ⟨lw_p7, List.forall_mem_cons.mpr ⟨lw_p8, List.forall_mem_cons.mpr ⟨lw_p9, List.forall_mem_cons.mpr ⟨lw_p10, List.forall_mem_cons.mpr ⟨lw_p11, List.forall_mem_cons.mpr ⟨lw_p12, List.forall_mem_cons.mpr ⟨lw_p13, List.forall_mem_cons.mpr ⟨lw_p14, List.forall_mem_cons.mpr ⟨lw_p15, fun _ h => absurd h List.not_mem_nil⟩⟩⟩⟩⟩⟩⟩⟩⟩⟩⟩⟩⟩⟩⟩⟩
theorem lw_p16 : lw_okq (⟨"CloneOutlineModel", "at", "(II)I"⟩, 20) := ⟨⟨by decide +kernel, by decide +kernel⟩, List.mem_of_getElem? (i := 628) (by decide +kernel), List.mem_of_getElem? (i := 713) (by decide +kernel), List.mem_of_getElem? (i := 714) (by decide +kernel)⟩
theorem lw_p17 : lw_okq (⟨"CloneOutlineModel", "takeSpare", "()V"⟩, 20) := ⟨⟨by decide +kernel, by decide +kernel⟩, List.mem_of_getElem? (i := 628) (by decide +kernel), List.mem_of_getElem? (i := 720) (by decide +kernel), List.mem_of_getElem? (i := 721) (by decide +kernel)⟩
theorem lw_p18 : lw_okq (⟨"CloneOutlineModel", "make", "(I)V"⟩, 20) := ⟨⟨by decide +kernel, by decide +kernel⟩, List.mem_of_getElem? (i := 628) (by decide +kernel), List.mem_of_getElem? (i := 724) (by decide +kernel), List.mem_of_getElem? (i := 725) (by decide +kernel)⟩
theorem lw_p19 : lw_okq (⟨"CloneOutlineModel", "to", "(III)V"⟩, 20) := ⟨⟨by decide +kernel, by decide +kernel⟩, List.mem_of_getElem? (i := 628) (by decide +kernel), List.mem_of_getElem? (i := 728) (by decide +kernel), List.mem_of_getElem? (i := 729) (by decide +kernel)⟩
theorem lw_p20 : lw_okq (⟨"CloneOutlineModel", "writeText", "(I)V"⟩, 20) := ⟨⟨by decide +kernel, by decide +kernel⟩, List.mem_of_getElem? (i := 628) (by decide +kernel), List.mem_of_getElem? (i := 732) (by decide +kernel), List.mem_of_getElem? (i := 733) (by decide +kernel)⟩
theorem lw_p21 : lw_okq (⟨"CloneOutlineModel", "addKid", "(II)V"⟩, 20) := ⟨⟨by decide +kernel, by decide +kernel⟩, List.mem_of_getElem? (i := 628) (by decide +kernel), List.mem_of_getElem? (i := 736) (by decide +kernel), List.mem_of_getElem? (i := 737) (by decide +kernel)⟩
theorem lw_p22 : lw_okq (⟨"CloneOutlineModel", "of", "(II)I"⟩, 20) := ⟨⟨by decide +kernel, by decide +kernel⟩, List.mem_of_getElem? (i := 628) (by decide +kernel), List.mem_of_getElem? (i := 740) (by decide +kernel), List.mem_of_getElem? (i := 741) (by decide +kernel)⟩
theorem lw_p23 : lw_okq (⟨"CloneOutlineModel", "layPlaces", "()Z"⟩, 20) := ⟨⟨by decide +kernel, by decide +kernel⟩, List.mem_of_getElem? (i := 628) (by decide +kernel), List.mem_of_getElem? (i := 744) (by decide +kernel), List.mem_of_getElem? (i := 745) (by decide +kernel)⟩
theorem lw_p24 : lw_okq (⟨"CloneOutlineModel", "kid", "(II)I"⟩, 20) := ⟨⟨by decide +kernel, by decide +kernel⟩, List.mem_of_getElem? (i := 628) (by decide +kernel), List.mem_of_getElem? (i := 748) (by decide +kernel), List.mem_of_getElem? (i := 749) (by decide +kernel)⟩
theorem lw_p25 : lw_okq (⟨"CloneOutlineModel", "spareChild", "(II)I"⟩, 20) := ⟨⟨by decide +kernel, by decide +kernel⟩, List.mem_of_getElem? (i := 628) (by decide +kernel), List.mem_of_getElem? (i := 752) (by decide +kernel), List.mem_of_getElem? (i := 753) (by decide +kernel)⟩
theorem lw_p26 : lw_okq (⟨"CloneOutlineModel", "spareAt", "(II)I"⟩, 20) := ⟨⟨by decide +kernel, by decide +kernel⟩, List.mem_of_getElem? (i := 628) (by decide +kernel), List.mem_of_getElem? (i := 756) (by decide +kernel), List.mem_of_getElem? (i := 757) (by decide +kernel)⟩
theorem lw_p27 : lw_okq (⟨"CloneOutlineModel", "putBack", "()V"⟩, 20) := ⟨⟨by decide +kernel, by decide +kernel⟩, List.mem_of_getElem? (i := 628) (by decide +kernel), List.mem_of_getElem? (i := 760) (by decide +kernel), List.mem_of_getElem? (i := 761) (by decide +kernel)⟩
theorem lw_p28 : lw_okq (⟨"CloneOutlineModel", "record", "()V"⟩, 20) := ⟨⟨by decide +kernel, by decide +kernel⟩, List.mem_of_getElem? (i := 628) (by decide +kernel), List.mem_of_getElem? (i := 764) (by decide +kernel), List.mem_of_getElem? (i := 765) (by decide +kernel)⟩
theorem lw_p29 : lw_okq (⟨"CloneOutlineModel", "mayStand", "(II)Z"⟩, 20) := ⟨⟨by decide +kernel, by decide +kernel⟩, List.mem_of_getElem? (i := 628) (by decide +kernel), List.mem_of_getElem? (i := 772) (by decide +kernel), List.mem_of_getElem? (i := 773) (by decide +kernel)⟩
theorem lw_p30 : lw_okq (⟨"CloneOutlineModel", "layWithin", "(I)I"⟩, 20) := ⟨⟨by decide +kernel, by decide +kernel⟩, List.mem_of_getElem? (i := 628) (by decide +kernel), List.mem_of_getElem? (i := 776) (by decide +kernel), List.mem_of_getElem? (i := 777) (by decide +kernel)⟩
theorem lw_p31 : lw_okq (⟨"CloneOutlineModel", "position", "(II)I"⟩, 20) := ⟨⟨by decide +kernel, by decide +kernel⟩, List.mem_of_getElem? (i := 628) (by decide +kernel), List.mem_of_getElem? (i := 780) (by decide +kernel), List.mem_of_getElem? (i := 781) (by decide +kernel)⟩
def lw_privs_2 : List (MethodName × Nat) := [(⟨"CloneOutlineModel", "at", "(II)I"⟩, 20), (⟨"CloneOutlineModel", "takeSpare", "()V"⟩, 20), (⟨"CloneOutlineModel", "make", "(I)V"⟩, 20), (⟨"CloneOutlineModel", "to", "(III)V"⟩, 20), (⟨"CloneOutlineModel", "writeText", "(I)V"⟩, 20), (⟨"CloneOutlineModel", "addKid", "(II)V"⟩, 20), (⟨"CloneOutlineModel", "of", "(II)I"⟩, 20), (⟨"CloneOutlineModel", "layPlaces", "()Z"⟩, 20), (⟨"CloneOutlineModel", "kid", "(II)I"⟩, 20), (⟨"CloneOutlineModel", "spareChild", "(II)I"⟩, 20), (⟨"CloneOutlineModel", "spareAt", "(II)I"⟩, 20), (⟨"CloneOutlineModel", "putBack", "()V"⟩, 20), (⟨"CloneOutlineModel", "record", "()V"⟩, 20), (⟨"CloneOutlineModel", "mayStand", "(II)Z"⟩, 20), (⟨"CloneOutlineModel", "layWithin", "(I)I"⟩, 20), (⟨"CloneOutlineModel", "position", "(II)I"⟩, 20)]
theorem lw_r2 : ∀ q ∈ lw_privs_2, lw_okq q := List.forall_mem_cons.mpr ⟨lw_p16, List.forall_mem_cons.mpr ⟨lw_p17, List.forall_mem_cons.mpr ⟨lw_p18, List.forall_mem_cons.mpr ⟨lw_p19, List.forall_mem_cons.mpr ⟨lw_p20, List.forall_mem_cons.mpr ⟨lw_p21, List.forall_mem_cons.mpr ⟨lw_p22, List.forall_mem_cons.mpr ⟨lw_p23, List.forall_mem_cons.mpr ⟨lw_p24, List.forall_mem_cons.mpr ⟨lw_p25, List.forall_mem_cons.mpr ⟨lw_p26, List.forall_mem_cons.mpr ⟨lw_p27, List.forall_mem_cons.mpr ⟨lw_p28, List.forall_mem_cons.mpr ⟨lw_p29, List.forall_mem_cons.mpr ⟨lw_p30, List.forall_mem_cons.mpr ⟨lw_p31, fun _ h => absurd h List.not_mem_nil⟩⟩⟩⟩⟩⟩⟩⟩⟩⟩⟩⟩⟩⟩⟩⟩
theorem lw_p32 : lw_okq (⟨"CloneOutlineModel", "placesOf", "(I)I"⟩, 20) := ⟨⟨by decide +kernel, by decide +kernel⟩, List.mem_of_getElem? (i := 628) (by decide +kernel), List.mem_of_getElem? (i := 784) (by decide +kernel), List.mem_of_getElem? (i := 785) (by decide +kernel)⟩
theorem lw_p33 : lw_okq (⟨"CloneOutlineModel", "parent", "(I)I"⟩, 20) := ⟨⟨by decide +kernel, by decide +kernel⟩, List.mem_of_getElem? (i := 628) (by decide +kernel), List.mem_of_getElem? (i := 792) (by decide +kernel), List.mem_of_getElem? (i := 793) (by decide +kernel)⟩
theorem lw_p34 : lw_okq (⟨"CloneOutlineModel", "around", "(I)I"⟩, 20) := ⟨⟨by decide +kernel, by decide +kernel⟩, List.mem_of_getElem? (i := 628) (by decide +kernel), List.mem_of_getElem? (i := 796) (by decide +kernel), List.mem_of_getElem? (i := 797) (by decide +kernel)⟩
theorem lw_p35 : lw_okq (⟨"CloneOutlineModel", "takeKid", "(II)V"⟩, 20) := ⟨⟨by decide +kernel, by decide +kernel⟩, List.mem_of_getElem? (i := 628) (by decide +kernel), List.mem_of_getElem? (i := 800) (by decide +kernel), List.mem_of_getElem? (i := 801) (by decide +kernel)⟩
theorem lw_p36 : lw_okq (⟨"CloneOutlineModel", "hasText", "(I)Z"⟩, 20) := ⟨⟨by decide +kernel, by decide +kernel⟩, List.mem_of_getElem? (i := 628) (by decide +kernel), List.mem_of_getElem? (i := 816) (by decide +kernel), List.mem_of_getElem? (i := 817) (by decide +kernel)⟩
theorem lw_p37 : lw_okq (⟨"CloneOutlineModel", "hasKids", "(I)Z"⟩, 20) := ⟨⟨by decide +kernel, by decide +kernel⟩, List.mem_of_getElem? (i := 628) (by decide +kernel), List.mem_of_getElem? (i := 828) (by decide +kernel), List.mem_of_getElem? (i := 829) (by decide +kernel)⟩
theorem lw_p38 : lw_okq (⟨"CloneOutlineModel", "rows", "()I"⟩, 20) := ⟨⟨by decide +kernel, by decide +kernel⟩, List.mem_of_getElem? (i := 628) (by decide +kernel), List.mem_of_getElem? (i := 832) (by decide +kernel), List.mem_of_getElem? (i := 833) (by decide +kernel)⟩
theorem lw_p39 : lw_okq (⟨"CloneOutlineModel", "isNode", "(I)Z"⟩, 20) := ⟨⟨by decide +kernel, by decide +kernel⟩, List.mem_of_getElem? (i := 628) (by decide +kernel), List.mem_of_getElem? (i := 844) (by decide +kernel), List.mem_of_getElem? (i := 845) (by decide +kernel)⟩
theorem lw_p40 : lw_okq (⟨"CloneOutlineModel", "firstPlace", "(I)I"⟩, 20) := ⟨⟨by decide +kernel, by decide +kernel⟩, List.mem_of_getElem? (i := 628) (by decide +kernel), List.mem_of_getElem? (i := 848) (by decide +kernel), List.mem_of_getElem? (i := 849) (by decide +kernel)⟩
theorem lw_p41 : lw_okq (⟨"CloneOutlineModel", "rowOf", "(I)I"⟩, 20) := ⟨⟨by decide +kernel, by decide +kernel⟩, List.mem_of_getElem? (i := 628) (by decide +kernel), List.mem_of_getElem? (i := 852) (by decide +kernel), List.mem_of_getElem? (i := 853) (by decide +kernel)⟩
theorem lw_p42 : lw_okq (⟨"CloneOutlineModel", "readsFault", "()I"⟩, 20) := ⟨⟨by decide +kernel, by decide +kernel⟩, List.mem_of_getElem? (i := 628) (by decide +kernel), List.mem_of_getElem? (i := 868) (by decide +kernel), List.mem_of_getElem? (i := 869) (by decide +kernel)⟩
theorem lw_p43 : lw_okq (⟨"CloneOutlineModel", "isOpen", "(II)Z"⟩, 20) := ⟨⟨by decide +kernel, by decide +kernel⟩, List.mem_of_getElem? (i := 628) (by decide +kernel), List.mem_of_getElem? (i := 872) (by decide +kernel), List.mem_of_getElem? (i := 873) (by decide +kernel)⟩
theorem lw_p44 : lw_okq (⟨"CloneOutlineModel", "stands", "(II)Z"⟩, 20) := ⟨⟨by decide +kernel, by decide +kernel⟩, List.mem_of_getElem? (i := 628) (by decide +kernel), List.mem_of_getElem? (i := 876) (by decide +kernel), List.mem_of_getElem? (i := 877) (by decide +kernel)⟩
theorem lw_p45 : lw_okq (⟨"CloneOutlineModel", "rowsWithin", "(I)I"⟩, 20) := ⟨⟨by decide +kernel, by decide +kernel⟩, List.mem_of_getElem? (i := 628) (by decide +kernel), List.mem_of_getElem? (i := 896) (by decide +kernel), List.mem_of_getElem? (i := 897) (by decide +kernel)⟩
theorem lw_p46 : lw_okq (⟨"CloneOutlineModel", "parents", "(I)I"⟩, 20) := ⟨⟨by decide +kernel, by decide +kernel⟩, List.mem_of_getElem? (i := 628) (by decide +kernel), List.mem_of_getElem? (i := 912) (by decide +kernel), List.mem_of_getElem? (i := 913) (by decide +kernel)⟩
theorem lw_p47 : lw_okq (⟨"CloneOutlineModel", "seenPlaces", "(I)I"⟩, 20) := ⟨⟨by decide +kernel, by decide +kernel⟩, List.mem_of_getElem? (i := 628) (by decide +kernel), List.mem_of_getElem? (i := 916) (by decide +kernel), List.mem_of_getElem? (i := 917) (by decide +kernel)⟩
def lw_privs_3 : List (MethodName × Nat) := [(⟨"CloneOutlineModel", "placesOf", "(I)I"⟩, 20), (⟨"CloneOutlineModel", "parent", "(I)I"⟩, 20), (⟨"CloneOutlineModel", "around", "(I)I"⟩, 20), (⟨"CloneOutlineModel", "takeKid", "(II)V"⟩, 20), (⟨"CloneOutlineModel", "hasText", "(I)Z"⟩, 20), (⟨"CloneOutlineModel", "hasKids", "(I)Z"⟩, 20), (⟨"CloneOutlineModel", "rows", "()I"⟩, 20), (⟨"CloneOutlineModel", "isNode", "(I)Z"⟩, 20), (⟨"CloneOutlineModel", "firstPlace", "(I)I"⟩, 20), (⟨"CloneOutlineModel", "rowOf", "(I)I"⟩, 20), (⟨"CloneOutlineModel", "readsFault", "()I"⟩, 20), (⟨"CloneOutlineModel", "isOpen", "(II)Z"⟩, 20), (⟨"CloneOutlineModel", "stands", "(II)Z"⟩, 20), (⟨"CloneOutlineModel", "rowsWithin", "(I)I"⟩, 20), (⟨"CloneOutlineModel", "parents", "(I)I"⟩, 20), (⟨"CloneOutlineModel", "seenPlaces", "(I)I"⟩, 20)]
theorem lw_r3 : ∀ q ∈ lw_privs_3, lw_okq q := List.forall_mem_cons.mpr ⟨lw_p32, List.forall_mem_cons.mpr ⟨lw_p33, List.forall_mem_cons.mpr ⟨lw_p34, List.forall_mem_cons.mpr ⟨lw_p35, List.forall_mem_cons.mpr ⟨lw_p36, List.forall_mem_cons.mpr ⟨lw_p37, List.forall_mem_cons.mpr ⟨lw_p38, List.forall_mem_cons.mpr ⟨lw_p39, List.forall_mem_cons.mpr ⟨lw_p40, List.forall_mem_cons.mpr ⟨lw_p41, List.forall_mem_cons.mpr ⟨lw_p42, List.forall_mem_cons.mpr ⟨lw_p43, List.forall_mem_cons.mpr ⟨lw_p44, List.forall_mem_cons.mpr ⟨lw_p45, List.forall_mem_cons.mpr ⟨lw_p46, List.forall_mem_cons.mpr ⟨lw_p47, fun _ h => absurd h List.not_mem_nil⟩⟩⟩⟩⟩⟩⟩⟩⟩⟩⟩⟩⟩⟩⟩⟩
theorem lw_p48 : lw_okq (⟨"CloneOutlineModel", "firstRow", "(I)I"⟩, 20) := ⟨⟨by decide +kernel, by decide +kernel⟩, List.mem_of_getElem? (i := 628) (by decide +kernel), List.mem_of_getElem? (i := 920) (by decide +kernel), List.mem_of_getElem? (i := 921) (by decide +kernel)⟩
theorem lw_p49 : lw_okq (⟨"CloneOutlineModel", "nodes", "(Z)I"⟩, 20) := ⟨⟨by decide +kernel, by decide +kernel⟩, List.mem_of_getElem? (i := 628) (by decide +kernel), List.mem_of_getElem? (i := 936) (by decide +kernel), List.mem_of_getElem? (i := 937) (by decide +kernel)⟩
theorem lw_p50 : lw_okq (⟨"CloneOutlineModel", "foldedPlaces", "()I"⟩, 20) := ⟨⟨by decide +kernel, by decide +kernel⟩, List.mem_of_getElem? (i := 628) (by decide +kernel), List.mem_of_getElem? (i := 940) (by decide +kernel), List.mem_of_getElem? (i := 941) (by decide +kernel)⟩
theorem lw_p51 : lw_okq (⟨"CloneOutlineModel", "greatestLevel", "()I"⟩, 20) := ⟨⟨by decide +kernel, by decide +kernel⟩, List.mem_of_getElem? (i := 628) (by decide +kernel), List.mem_of_getElem? (i := 944) (by decide +kernel), List.mem_of_getElem? (i := 945) (by decide +kernel)⟩
def lw_privs_4 : List (MethodName × Nat) := [(⟨"CloneOutlineModel", "firstRow", "(I)I"⟩, 20), (⟨"CloneOutlineModel", "nodes", "(Z)I"⟩, 20), (⟨"CloneOutlineModel", "foldedPlaces", "()I"⟩, 20), (⟨"CloneOutlineModel", "greatestLevel", "()I"⟩, 20)]
theorem lw_r4 : ∀ q ∈ lw_privs_4, lw_okq q := List.forall_mem_cons.mpr ⟨lw_p48, List.forall_mem_cons.mpr ⟨lw_p49, List.forall_mem_cons.mpr ⟨lw_p50, List.forall_mem_cons.mpr ⟨lw_p51, fun _ h => absurd h List.not_mem_nil⟩⟩⟩⟩
def lw_privs : List (MethodName × Nat) := lw_privs_1 ++ (lw_privs_2 ++ (lw_privs_3 ++ (lw_privs_4)))
def lw_tbl : List Cond := k2_sels lw_privs ++ tables_1
theorem lw_privs_ok : ∀ q ∈ lw_privs, lw_okq q := by
  show ∀ q ∈ lw_privs_1 ++ (lw_privs_2 ++ (lw_privs_3 ++ (lw_privs_4))), lw_okq q
  exact List.forall_mem_append.mpr ⟨lw_r1, List.forall_mem_append.mpr ⟨lw_r2, List.forall_mem_append.mpr ⟨lw_r3, lw_r4⟩⟩⟩
end
section
def RX0 : String := "CloneOutline$History"
def TX0 : u_T := fun k => match k with
  | 0 => ("CloneOutline$History", "ring", "[LCloneOutline$State;", true)
  | 1 => ("CloneOutline$History", "oldest", "I", false)
  | _ => ("CloneOutline$History", "size", "I", false)
def tyX0 : Nat → FieldType := fun k => match k with
  | 0 => .array (.object "CloneOutline$State")
  | 1 => .int
  | _ => .int
abbrev wsX00 : List Cond := u_ws RX0 TX0 3
theorem nmX0 : ∀ a, a < 3 → ∀ b, b < 3 → a ≠ b → (TX0 a).2.1 ≠ (TX0 b).2.1 := by decide +kernel
theorem tyX0_ok : ∀ k, k < 3 → parseFieldDescriptor (TX0 k).2.2.1 = some (tyX0 k) := by decide +kernel
abbrev cX0_init : ByteArray := prog_2_method_1_code
def yX0_init : MethodName := ⟨RX0, "<init>", "()V"⟩
abbrev cX0_push : ByteArray := prog_2_method_2_code
def yX0_push : MethodName := ⟨RX0, "push", "(LCloneOutline$State;)V"⟩
abbrev cX0_popInto : ByteArray := prog_2_method_3_code
def yX0_popInto : MethodName := ⟨RX0, "popInto", "(LCloneOutline$State;)Z"⟩
def RX1 : String := "CloneOutline$Links"
def TX1 : u_T := fun k => match k with
  | 0 => ("CloneOutline$Links", "parents", "[I", true)
  | 1 => ("CloneOutline$Links", "children", "[I", true)
  | _ => ("CloneOutline$Links", "size", "I", false)
def tyX1 : Nat → FieldType := fun k => match k with
  | 0 => .array .int
  | 1 => .array .int
  | _ => .int
abbrev wsX10 : List Cond := u_ws RX1 TX1 3
theorem nmX1 : ∀ a, a < 3 → ∀ b, b < 3 → a ≠ b → (TX1 a).2.1 ≠ (TX1 b).2.1 := by decide +kernel
theorem tyX1_ok : ∀ k, k < 3 → parseFieldDescriptor (TX1 k).2.2.1 = some (tyX1 k) := by decide +kernel
abbrev cX1_init : ByteArray := prog_3_method_1_code
def yX1_init : MethodName := ⟨RX1, "<init>", "()V"⟩
abbrev cX1_copyFrom : ByteArray := prog_3_method_2_code
def yX1_copyFrom : MethodName := ⟨RX1, "copyFrom", "(LCloneOutline$Links;)V"⟩
abbrev cX1_append : ByteArray := prog_3_method_3_code
def yX1_append : MethodName := ⟨RX1, "append", "(II)Z"⟩
abbrev cX1_indexOf : ByteArray := prog_3_method_4_code
def yX1_indexOf : MethodName := ⟨RX1, "indexOf", "(II)I"⟩
abbrev cX1_drop : ByteArray := prog_3_method_5_code
def yX1_drop : MethodName := ⟨RX1, "drop", "(II)V"⟩
abbrev cX1_keepParents : ByteArray := prog_3_method_6_code
def yX1_keepParents : MethodName := ⟨RX1, "keepParents", "(J)V"⟩
abbrev cX1_childCount : ByteArray := prog_3_method_7_code
def yX1_childCount : MethodName := ⟨RX1, "childCount", "(I)I"⟩
abbrev cX1_parentCount : ByteArray := prog_3_method_8_code
def yX1_parentCount : MethodName := ⟨RX1, "parentCount", "(I)I"⟩
abbrev cX1_sharedCount : ByteArray := prog_3_method_9_code
def yX1_sharedCount : MethodName := ⟨RX1, "sharedCount", "()I"⟩
abbrev cX1_position : ByteArray := prog_3_method_10_code
def yX1_position : MethodName := ⟨RX1, "position", "(II)I"⟩
abbrev cX1_shiftChild : ByteArray := prog_3_method_11_code
def yX1_shiftChild : MethodName := ⟨RX1, "shiftChild", "(III)V"⟩
def RX2 : String := "CloneOutline$Nodes"
def TX2 : u_T := fun k => match k with
  | 0 => ("CloneOutline$Nodes", "marks", "[I", true)
  | 1 => ("CloneOutline$Nodes", "lengths", "[I", true)
  | 2 => ("CloneOutline$Nodes", "codes", "[I", true)
  | _ => ("CloneOutline$Nodes", "made", "I", false)
def tyX2 : Nat → FieldType := fun k => match k with
  | 0 => .array .int
  | 1 => .array .int
  | 2 => .array .int
  | _ => .int
abbrev wsX20 : List Cond := u_ws RX2 TX2 4
theorem nmX2 : ∀ a, a < 4 → ∀ b, b < 4 → a ≠ b → (TX2 a).2.1 ≠ (TX2 b).2.1 := by decide +kernel
theorem tyX2_ok : ∀ k, k < 4 → parseFieldDescriptor (TX2 k).2.2.1 = some (tyX2 k) := by decide +kernel
abbrev cX2_init : ByteArray := prog_4_method_1_code
def yX2_init : MethodName := ⟨RX2, "<init>", "()V"⟩
abbrev cX2_copyFrom : ByteArray := prog_4_method_2_code
def yX2_copyFrom : MethodName := ⟨RX2, "copyFrom", "(LCloneOutline$Nodes;)V"⟩
abbrev cX2_isNumber : ByteArray := prog_4_method_3_code
def yX2_isNumber : MethodName := ⟨RX2, "isNumber", "(I)Z"⟩
abbrev cX2_makeNode : ByteArray := prog_4_method_4_code
def yX2_makeNode : MethodName := ⟨RX2, "makeNode", "()I"⟩
abbrev cX2_setLetter : ByteArray := prog_4_method_5_code
def yX2_setLetter : MethodName := ⟨RX2, "setLetter", "(II)V"⟩
abbrev cX2_setText : ByteArray := prog_4_method_6_code
def yX2_setText : MethodName := ⟨RX2, "setText", "(ILCloneOutline$Typed;)V"⟩
abbrev cX2_hasText : ByteArray := prog_4_method_7_code
def yX2_hasText : MethodName := ⟨RX2, "hasText", "(ILCloneOutline$Typed;)Z"⟩
abbrev cX2_lengthOf : ByteArray := prog_4_method_8_code
def yX2_lengthOf : MethodName := ⟨RX2, "lengthOf", "(I)I"⟩
abbrev cX2_codeAt : ByteArray := prog_4_method_9_code
def yX2_codeAt : MethodName := ⟨RX2, "codeAt", "(II)I"⟩
abbrev cX2_marksOf : ByteArray := prog_4_method_10_code
def yX2_marksOf : MethodName := ⟨RX2, "marksOf", "(I)I"⟩
abbrev cX2_toggleMark : ByteArray := prog_4_method_11_code
def yX2_toggleMark : MethodName := ⟨RX2, "toggleMark", "(II)V"⟩
def RX3 : String := "CloneOutline$Places"
def TX3 : u_T := fun k => match k with
  | 0 => ("CloneOutline$Places", "nodes", "[I", true)
  | 1 => ("CloneOutline$Places", "levels", "[I", true)
  | 2 => ("CloneOutline$Places", "folds", "[I", true)
  | _ => ("CloneOutline$Places", "size", "I", false)
def tyX3 : Nat → FieldType := fun k => match k with
  | 0 => .array .int
  | 1 => .array .int
  | 2 => .array .int
  | _ => .int
abbrev wsX30 : List Cond := u_ws RX3 TX3 4
theorem nmX3 : ∀ a, a < 4 → ∀ b, b < 4 → a ≠ b → (TX3 a).2.1 ≠ (TX3 b).2.1 := by decide +kernel
theorem tyX3_ok : ∀ k, k < 4 → parseFieldDescriptor (TX3 k).2.2.1 = some (tyX3 k) := by decide +kernel
abbrev cX3_init : ByteArray := prog_5_method_1_code
def yX3_init : MethodName := ⟨RX3, "<init>", "()V"⟩
abbrev cX3_copyFrom : ByteArray := prog_5_method_2_code
def yX3_copyFrom : MethodName := ⟨RX3, "copyFrom", "(LCloneOutline$Places;)V"⟩
abbrev cX3_append : ByteArray := prog_5_method_3_code
def yX3_append : MethodName := ⟨RX3, "append", "(III)I"⟩
abbrev cX3_childPlace : ByteArray := prog_5_method_4_code
def yX3_childPlace : MethodName := ⟨RX3, "childPlace", "(II)I"⟩
abbrev cX3_isThere : ByteArray := prog_5_method_5_code
def yX3_isThere : MethodName := ⟨RX3, "isThere", "(I)Z"⟩
abbrev cX3_nodeOf : ByteArray := prog_5_method_6_code
def yX3_nodeOf : MethodName := ⟨RX3, "nodeOf", "(I)I"⟩
abbrev cX3_levelOf : ByteArray := prog_5_method_7_code
def yX3_levelOf : MethodName := ⟨RX3, "levelOf", "(I)I"⟩
abbrev cX3_foldOf : ByteArray := prog_5_method_8_code
def yX3_foldOf : MethodName := ⟨RX3, "foldOf", "(I)I"⟩
abbrev cX3_setFold : ByteArray := prog_5_method_9_code
def yX3_setFold : MethodName := ⟨RX3, "setFold", "(II)V"⟩
abbrev cX3_endOf : ByteArray := prog_5_method_10_code
def yX3_endOf : MethodName := ⟨RX3, "endOf", "(I)I"⟩
abbrev cX3_hasChildren : ByteArray := prog_5_method_11_code
def yX3_hasChildren : MethodName := ⟨RX3, "hasChildren", "(I)Z"⟩
abbrev cX3_atLevel : ByteArray := prog_5_method_12_code
def yX3_atLevel : MethodName := ⟨RX3, "atLevel", "(II)I"⟩
abbrev cX3_parentOf : ByteArray := prog_5_method_13_code
def yX3_parentOf : MethodName := ⟨RX3, "parentOf", "(I)I"⟩
abbrev cX3_firstOf : ByteArray := prog_5_method_14_code
def yX3_firstOf : MethodName := ⟨RX3, "firstOf", "(I)I"⟩
abbrev cX3_countOf : ByteArray := prog_5_method_15_code
def yX3_countOf : MethodName := ⟨RX3, "countOf", "(I)I"⟩
abbrev cX3_nodeSet : ByteArray := prog_5_method_16_code
def yX3_nodeSet : MethodName := ⟨RX3, "nodeSet", "()J"⟩
abbrev cX3_nodesWithin : ByteArray := prog_5_method_17_code
def yX3_nodesWithin : MethodName := ⟨RX3, "nodesWithin", "(I)J"⟩
abbrev cX3_foldedCount : ByteArray := prog_5_method_18_code
def yX3_foldedCount : MethodName := ⟨RX3, "foldedCount", "()I"⟩
abbrev cX3_greatestLevel : ByteArray := prog_5_method_19_code
def yX3_greatestLevel : MethodName := ⟨RX3, "greatestLevel", "()I"⟩
abbrev cX3_foldAtLevel : ByteArray := prog_5_method_20_code
def yX3_foldAtLevel : MethodName := ⟨RX3, "foldAtLevel", "(I)Z"⟩
abbrev cX3_unfoldAround : ByteArray := prog_5_method_21_code
def yX3_unfoldAround : MethodName := ⟨RX3, "unfoldAround", "(I)Z"⟩
def RX4 : String := "CloneOutline$Reader"
def TX4 : u_T := fun k => match k with
  | 0 => ("CloneOutline$Reader", "open", "[I", true)
  | 1 => ("CloneOutline$Reader", "nodeOfLetter", "[I", true)
  | 2 => ("CloneOutline$Reader", "depth", "I", false)
  | 3 => ("CloneOutline$Reader", "letterIsDue", "Z", false)
  | _ => ("CloneOutline$Reader", "mayOpen", "I", false)
def tyX4 : Nat → FieldType := fun k => match k with
  | 0 => .array .int
  | 1 => .array .int
  | 2 => .int
  | 3 => .boolean
  | _ => .int
abbrev wsX40 : List Cond := u_ws RX4 TX4 5
theorem nmX4 : ∀ a, a < 5 → ∀ b, b < 5 → a ≠ b → (TX4 a).2.1 ≠ (TX4 b).2.1 := by decide +kernel
theorem tyX4_ok : ∀ k, k < 5 → parseFieldDescriptor (TX4 k).2.2.1 = some (tyX4 k) := by decide +kernel
abbrev cX4_init : ByteArray := prog_6_method_1_code
def yX4_init : MethodName := ⟨RX4, "<init>", "()V"⟩
abbrev cX4_read : ByteArray := prog_6_method_2_code
def yX4_read : MethodName := ⟨RX4, "read", "(LCloneOutline$Typed;LCloneOutline$State;)I"⟩
abbrev cX4_begin : ByteArray := prog_6_method_3_code
def yX4_begin : MethodName := ⟨RX4, "begin", "()V"⟩
abbrev cX4_takeLetter : ByteArray := prog_6_method_4_code
def yX4_takeLetter : MethodName := ⟨RX4, "takeLetter", "(ILCloneOutline$State;)Z"⟩
abbrev cX4_isOpen : ByteArray := prog_6_method_5_code
def yX4_isOpen : MethodName := ⟨RX4, "isOpen", "(I)Z"⟩
abbrev cX4_takeSign : ByteArray := prog_6_method_6_code
def yX4_takeSign : MethodName := ⟨RX4, "takeSign", "(I)Z"⟩
def RX5 : String := "CloneOutline$Rows"
def TX5 : u_T := fun k => match k with
  | 0 => ("CloneOutline$Rows", "placeOfRow", "[I", true)
  | 1 => ("CloneOutline$Rows", "rowOfPlace", "[I", true)
  | _ => ("CloneOutline$Rows", "size", "I", false)
def tyX5 : Nat → FieldType := fun k => match k with
  | 0 => .array .int
  | 1 => .array .int
  | _ => .int
abbrev wsX50 : List Cond := u_ws RX5 TX5 3
theorem nmX5 : ∀ a, a < 3 → ∀ b, b < 3 → a ≠ b → (TX5 a).2.1 ≠ (TX5 b).2.1 := by decide +kernel
theorem tyX5_ok : ∀ k, k < 3 → parseFieldDescriptor (TX5 k).2.2.1 = some (tyX5 k) := by decide +kernel
abbrev cX5_init : ByteArray := prog_7_method_1_code
def yX5_init : MethodName := ⟨RX5, "<init>", "()V"⟩
abbrev cX5_refresh : ByteArray := prog_7_method_2_code
def yX5_refresh : MethodName := ⟨RX5, "refresh", "(LCloneOutline$Places;)V"⟩
abbrev cX5_placeOf : ByteArray := prog_7_method_3_code
def yX5_placeOf : MethodName := ⟨RX5, "placeOf", "(I)I"⟩
abbrev cX5_rowOf : ByteArray := prog_7_method_4_code
def yX5_rowOf : MethodName := ⟨RX5, "rowOf", "(I)I"⟩
abbrev cX5_seenBetween : ByteArray := prog_7_method_5_code
def yX5_seenBetween : MethodName := ⟨RX5, "seenBetween", "(II)I"⟩
abbrev cX5_seenOf : ByteArray := prog_7_method_6_code
def yX5_seenOf : MethodName := ⟨RX5, "seenOf", "(LCloneOutline$Places;I)I"⟩
abbrev cX5_firstOf : ByteArray := prog_7_method_7_code
def yX5_firstOf : MethodName := ⟨RX5, "firstOf", "(LCloneOutline$Places;I)I"⟩
def RX6 : String := "CloneOutline$State"
def TX6 : u_T := fun k => match k with
  | 0 => ("CloneOutline$State", "nodes", "LCloneOutline$Nodes;", true)
  | 1 => ("CloneOutline$State", "links", "LCloneOutline$Links;", true)
  | _ => ("CloneOutline$State", "places", "LCloneOutline$Places;", true)
def tyX6 : Nat → FieldType := fun k => match k with
  | 0 => .object "CloneOutline$Nodes"
  | 1 => .object "CloneOutline$Links"
  | _ => .object "CloneOutline$Places"
abbrev wsX60 : List Cond := u_ws RX6 TX6 3
theorem nmX6 : ∀ a, a < 3 → ∀ b, b < 3 → a ≠ b → (TX6 a).2.1 ≠ (TX6 b).2.1 := by decide +kernel
theorem tyX6_ok : ∀ k, k < 3 → parseFieldDescriptor (TX6 k).2.2.1 = some (tyX6 k) := by decide +kernel
abbrev cX6_init : ByteArray := prog_8_method_1_code
def yX6_init : MethodName := ⟨RX6, "<init>", "()V"⟩
abbrev cX6_copyFrom : ByteArray := prog_8_method_2_code
def yX6_copyFrom : MethodName := ⟨RX6, "copyFrom", "(LCloneOutline$State;)V"⟩
abbrev cX6_clearNodes : ByteArray := prog_8_method_3_code
def yX6_clearNodes : MethodName := ⟨RX6, "clearNodes", "()V"⟩
abbrev cX6_placeAgain : ByteArray := prog_8_method_4_code
def yX6_placeAgain : MethodName := ⟨RX6, "placeAgain", "(LCloneOutline$Places;)Z"⟩
abbrev cX6_placeAnew : ByteArray := prog_8_method_5_code
def yX6_placeAnew : MethodName := ⟨RX6, "placeAnew", "()Z"⟩
abbrev cX6_grow : ByteArray := prog_8_method_6_code
def yX6_grow : MethodName := ⟨RX6, "grow", "(LCloneOutline$State;LCloneOutline$Places;III)Z"⟩
abbrev cX6_dropVanished : ByteArray := prog_8_method_7_code
def yX6_dropVanished : MethodName := ⟨RX6, "dropVanished", "(J)I"⟩
def RX7 : String := "CloneOutline$Typed"
def TX7 : u_T := fun k => match k with
  | 0 => ("CloneOutline$Typed", "codes", "[I", true)
  | _ => ("CloneOutline$Typed", "length", "I", false)
def tyX7 : Nat → FieldType := fun k => match k with
  | 0 => .array .int
  | _ => .int
abbrev wsX70 : List Cond := u_ws RX7 TX7 2
theorem nmX7 : ∀ a, a < 2 → ∀ b, b < 2 → a ≠ b → (TX7 a).2.1 ≠ (TX7 b).2.1 := by decide +kernel
theorem tyX7_ok : ∀ k, k < 2 → parseFieldDescriptor (TX7 k).2.2.1 = some (tyX7 k) := by decide +kernel
abbrev cX7_init : ByteArray := prog_9_method_1_code
def yX7_init : MethodName := ⟨RX7, "<init>", "()V"⟩
abbrev cX7_append : ByteArray := prog_9_method_2_code
def yX7_append : MethodName := ⟨RX7, "append", "(C)Z"⟩
abbrev cX7_fitsNode : ByteArray := prog_9_method_3_code
def yX7_fitsNode : MethodName := ⟨RX7, "fitsNode", "()Z"⟩
abbrev cX7_codeAt : ByteArray := prog_9_method_4_code
def yX7_codeAt : MethodName := ⟨RX7, "codeAt", "(I)I"⟩
def RX8 : String := "CloneOutline"
def TX8 : u_T := fun k => match k with
  | 0 => ("CloneOutline", "typed", "LCloneOutline$Typed;", true)
  | 1 => ("CloneOutline", "reader", "LCloneOutline$Reader;", true)
  | 2 => ("CloneOutline", "rows", "LCloneOutline$Rows;", true)
  | 3 => ("CloneOutline", "history", "LCloneOutline$History;", true)
  | 4 => ("CloneOutline", "snapshot", "LCloneOutline$State;", true)
  | 5 => ("CloneOutline", "hasSnapshot", "Z", false)
  | 6 => ("CloneOutline", "current", "LCloneOutline$State;", false)
  | _ => ("CloneOutline", "draft", "LCloneOutline$State;", false)
def tyX8 : Nat → FieldType := fun k => match k with
  | 0 => .object "CloneOutline$Typed"
  | 1 => .object "CloneOutline$Reader"
  | 2 => .object "CloneOutline$Rows"
  | 3 => .object "CloneOutline$History"
  | 4 => .object "CloneOutline$State"
  | 5 => .boolean
  | 6 => .object "CloneOutline$State"
  | _ => .object "CloneOutline$State"
abbrev wsX80 : List Cond := u_ws RX8 TX8 8
theorem nmX8 : ∀ a, a < 8 → ∀ b, b < 8 → a ≠ b → (TX8 a).2.1 ≠ (TX8 b).2.1 := by decide +kernel
theorem tyX8_ok : ∀ k, k < 8 → parseFieldDescriptor (TX8 k).2.2.1 = some (tyX8 k) := by decide +kernel
abbrev cX8_init : ByteArray := prog_1_method_1_code
def yX8_init : MethodName := ⟨RX8, "<init>", "()V"⟩
abbrev cX8_add : ByteArray := prog_1_method_2_code
def yX8_add : MethodName := ⟨RX8, "add", "(I)I"⟩
abbrev cX8_cloneTo : ByteArray := prog_1_method_3_code
def yX8_cloneTo : MethodName := ⟨RX8, "cloneTo", "(II)I"⟩
abbrev cX8_move : ByteArray := prog_1_method_4_code
def yX8_move : MethodName := ⟨RX8, "move", "(II)I"⟩
abbrev cX8_cut : ByteArray := prog_1_method_5_code
def yX8_cut : MethodName := ⟨RX8, "cut", "(I)I"⟩
abbrev cX8_shift : ByteArray := prog_1_method_6_code
def yX8_shift : MethodName := ⟨RX8, "shift", "(II)I"⟩
abbrev cX8_edit : ByteArray := prog_1_method_7_code
def yX8_edit : MethodName := ⟨RX8, "edit", "(I)I"⟩
abbrev cX8_mark : ByteArray := prog_1_method_8_code
def yX8_mark : MethodName := ⟨RX8, "mark", "(II)I"⟩
abbrev cX8_fold : ByteArray := prog_1_method_9_code
def yX8_fold : MethodName := ⟨RX8, "fold", "(IZ)I"⟩
abbrev cX8_foldLevel : ByteArray := prog_1_method_10_code
def yX8_foldLevel : MethodName := ⟨RX8, "foldLevel", "(I)I"⟩
abbrev cX8_show : ByteArray := prog_1_method_11_code
def yX8_show : MethodName := ⟨RX8, "show", "(I)I"⟩
abbrev cX8_type : ByteArray := prog_1_method_12_code
def yX8_type : MethodName := ⟨RX8, "type", "(C)I"⟩
abbrev cX8_clearText : ByteArray := prog_1_method_13_code
def yX8_clearText : MethodName := ⟨RX8, "clearText", "()I"⟩
abbrev cX8_readOutline : ByteArray := prog_1_method_14_code
def yX8_readOutline : MethodName := ⟨RX8, "readOutline", "()I"⟩
abbrev cX8_undo : ByteArray := prog_1_method_15_code
def yX8_undo : MethodName := ⟨RX8, "undo", "()I"⟩
abbrev cX8_keep : ByteArray := prog_1_method_16_code
def yX8_keep : MethodName := ⟨RX8, "keep", "()I"⟩
abbrev cX8_restore : ByteArray := prog_1_method_17_code
def yX8_restore : MethodName := ⟨RX8, "restore", "()I"⟩
abbrev cX8_row : ByteArray := prog_1_method_18_code
def yX8_row : MethodName := ⟨RX8, "row", "(II)I"⟩
abbrev cX8_number : ByteArray := prog_1_method_19_code
def yX8_number : MethodName := ⟨RX8, "number", "(II)I"⟩
abbrev cX8_charAt : ByteArray := prog_1_method_20_code
def yX8_charAt : MethodName := ⟨RX8, "charAt", "(II)I"⟩
abbrev cX8_node : ByteArray := prog_1_method_21_code
def yX8_node : MethodName := ⟨RX8, "node", "(II)I"⟩
abbrev cX8_nextMarked : ByteArray := prog_1_method_22_code
def yX8_nextMarked : MethodName := ⟨RX8, "nextMarked", "(II)I"⟩
abbrev cX8_find : ByteArray := prog_1_method_23_code
def yX8_find : MethodName := ⟨RX8, "find", "(I)I"⟩
abbrev cX8_count : ByteArray := prog_1_method_24_code
def yX8_count : MethodName := ⟨RX8, "count", "(I)I"⟩
abbrev cX8_isMark : ByteArray := prog_1_method_25_code
def yX8_isMark : MethodName := ⟨RX8, "isMark", "(I)Z"⟩
abbrev cX8_placeOrRoot : ByteArray := prog_1_method_26_code
def yX8_placeOrRoot : MethodName := ⟨RX8, "placeOrRoot", "(I)I"⟩
abbrev cX8_nodeOfRow : ByteArray := prog_1_method_27_code
def yX8_nodeOfRow : MethodName := ⟨RX8, "nodeOfRow", "(I)I"⟩
abbrev cX8_parentNodeOf : ByteArray := prog_1_method_28_code
def yX8_parentNodeOf : MethodName := ⟨RX8, "parentNodeOf", "(I)I"⟩
abbrev cX8_parentRow : ByteArray := prog_1_method_29_code
def yX8_parentRow : MethodName := ⟨RX8, "parentRow", "(I)I"⟩
abbrev cX8_positionAt : ByteArray := prog_1_method_30_code
def yX8_positionAt : MethodName := ⟨RX8, "positionAt", "(I)I"⟩
abbrev cX8_refusalOfParent : ByteArray := prog_1_method_31_code
def yX8_refusalOfParent : MethodName := ⟨RX8, "refusalOfParent", "(II)I"⟩
abbrev cX8_attach : ByteArray := prog_1_method_32_code
def yX8_attach : MethodName := ⟨RX8, "attach", "(II)I"⟩
abbrev cX8_accept : ByteArray := prog_1_method_33_code
def yX8_accept : MethodName := ⟨RX8, "accept", "()V"⟩
def RX9 : String := "CloneOutlineModel"
def TX9 : u_T := fun k => match k with
  | 0 => ("CloneOutlineModel", "now", "[I", true)
  | 1 => ("CloneOutlineModel", "history", "[I", true)
  | 2 => ("CloneOutlineModel", "kept", "I", false)
  | 3 => ("CloneOutlineModel", "slot", "[I", true)
  | 4 => ("CloneOutlineModel", "isFilled", "Z", false)
  | 5 => ("CloneOutlineModel", "spare", "[I", true)
  | 6 => ("CloneOutlineModel", "next", "[I", true)
  | 7 => ("CloneOutlineModel", "way", "[I", true)
  | 8 => ("CloneOutlineModel", "oldOf", "[I", true)
  | 9 => ("CloneOutlineModel", "was", "[I", true)
  | 10 => ("CloneOutlineModel", "isWithin", "[Z", true)
  | 11 => ("CloneOutlineModel", "queue", "[I", true)
  | 12 => ("CloneOutlineModel", "typed", "I", false)
  | 13 => ("CloneOutlineModel", "text", "[C", true)
  | 14 => ("CloneOutlineModel", "nodeBy", "[I", true)
  | 15 => ("CloneOutlineModel", "readMade", "I", false)
  | 16 => ("CloneOutlineModel", "readLetter", "[I", true)
  | 17 => ("CloneOutlineModel", "readKids", "[I", true)
  | 18 => ("CloneOutlineModel", "readKid", "[I", true)
  | _ => ("CloneOutlineModel", "opened", "[I", true)
def tyX9 : Nat → FieldType := fun k => match k with
  | 0 => .array .int
  | 1 => .array .int
  | 2 => .int
  | 3 => .array .int
  | 4 => .boolean
  | 5 => .array .int
  | 6 => .array .int
  | 7 => .array .int
  | 8 => .array .int
  | 9 => .array .int
  | 10 => .array .boolean
  | 11 => .array .int
  | 12 => .int
  | 13 => .array .char
  | 14 => .array .int
  | 15 => .int
  | 16 => .array .int
  | 17 => .array .int
  | 18 => .array .int
  | _ => .array .int
abbrev wsX90 : List Cond := u_ws RX9 TX9 20
theorem nmX9 : ∀ a, a < 20 → ∀ b, b < 20 → a ≠ b → (TX9 a).2.1 ≠ (TX9 b).2.1 := by decide +kernel
theorem tyX9_ok : ∀ k, k < 20 → parseFieldDescriptor (TX9 k).2.2.1 = some (tyX9 k) := by decide +kernel
abbrev cX9_init : ByteArray := prog_11_method_1_code
def yX9_init : MethodName := ⟨RX9, "<init>", "()V"⟩
abbrev cX9_in : ByteArray := prog_11_method_2_code
def yX9_in : MethodName := ⟨RX9, "in", "(III)Z"⟩
abbrev cX9_takeSpare : ByteArray := prog_11_method_3_code
def yX9_takeSpare : MethodName := ⟨RX9, "takeSpare", "()V"⟩
abbrev cX9_putBack : ByteArray := prog_11_method_4_code
def yX9_putBack : MethodName := ⟨RX9, "putBack", "()V"⟩
abbrev cX9_record : ByteArray := prog_11_method_5_code
def yX9_record : MethodName := ⟨RX9, "record", "()V"⟩
abbrev cX9_of : ByteArray := prog_11_method_6_code
def yX9_of : MethodName := ⟨RX9, "of", "(II)I"⟩
abbrev cX9_to : ByteArray := prog_11_method_7_code
def yX9_to : MethodName := ⟨RX9, "to", "(III)V"⟩
abbrev cX9_kid : ByteArray := prog_11_method_8_code
def yX9_kid : MethodName := ⟨RX9, "kid", "(II)I"⟩
abbrev cX9_at : ByteArray := prog_11_method_9_code
def yX9_at : MethodName := ⟨RX9, "at", "(II)I"⟩
abbrev cX9_spareAt : ByteArray := prog_11_method_10_code
def yX9_spareAt : MethodName := ⟨RX9, "spareAt", "(II)I"⟩
abbrev cX9_spareChild : ByteArray := prog_11_method_11_code
def yX9_spareChild : MethodName := ⟨RX9, "spareChild", "(II)I"⟩
abbrev cX9_layPlaces : ByteArray := prog_11_method_12_code
def yX9_layPlaces : MethodName := ⟨RX9, "layPlaces", "()Z"⟩
abbrev cX9_placesOf : ByteArray := prog_11_method_13_code
def yX9_placesOf : MethodName := ⟨RX9, "placesOf", "(I)I"⟩
abbrev cX9_isSeen : ByteArray := prog_11_method_14_code
def yX9_isSeen : MethodName := ⟨RX9, "isSeen", "(I)Z"⟩
abbrev cX9_rows : ByteArray := prog_11_method_15_code
def yX9_rows : MethodName := ⟨RX9, "rows", "()I"⟩
abbrev cX9_placeOf : ByteArray := prog_11_method_16_code
def yX9_placeOf : MethodName := ⟨RX9, "placeOf", "(I)I"⟩
abbrev cX9_rowOf : ByteArray := prog_11_method_17_code
def yX9_rowOf : MethodName := ⟨RX9, "rowOf", "(I)I"⟩
abbrev cX9_around : ByteArray := prog_11_method_18_code
def yX9_around : MethodName := ⟨RX9, "around", "(I)I"⟩
abbrev cX9_parent : ByteArray := prog_11_method_19_code
def yX9_parent : MethodName := ⟨RX9, "parent", "(I)I"⟩
abbrev cX9_position : ByteArray := prog_11_method_20_code
def yX9_position : MethodName := ⟨RX9, "position", "(II)I"⟩
abbrev cX9_nodeOf : ByteArray := prog_11_method_21_code
def yX9_nodeOf : MethodName := ⟨RX9, "nodeOf", "(I)I"⟩
abbrev cX9_layWithin : ByteArray := prog_11_method_22_code
def yX9_layWithin : MethodName := ⟨RX9, "layWithin", "(I)I"⟩
abbrev cX9_addKid : ByteArray := prog_11_method_23_code
def yX9_addKid : MethodName := ⟨RX9, "addKid", "(II)V"⟩
abbrev cX9_takeKid : ByteArray := prog_11_method_24_code
def yX9_takeKid : MethodName := ⟨RX9, "takeKid", "(II)V"⟩
abbrev cX9_writeText : ByteArray := prog_11_method_25_code
def yX9_writeText : MethodName := ⟨RX9, "writeText", "(I)V"⟩
abbrev cX9_make : ByteArray := prog_11_method_26_code
def yX9_make : MethodName := ⟨RX9, "make", "(I)V"⟩
abbrev cX9_add : ByteArray := prog_11_method_27_code
def yX9_add : MethodName := ⟨RX9, "add", "(I)I"⟩
abbrev cX9_mayStand : ByteArray := prog_11_method_28_code
def yX9_mayStand : MethodName := ⟨RX9, "mayStand", "(II)Z"⟩
abbrev cX9_cloneTo : ByteArray := prog_11_method_29_code
def yX9_cloneTo : MethodName := ⟨RX9, "cloneTo", "(II)I"⟩
abbrev cX9_move : ByteArray := prog_11_method_30_code
def yX9_move : MethodName := ⟨RX9, "move", "(II)I"⟩
abbrev cX9_cut : ByteArray := prog_11_method_31_code
def yX9_cut : MethodName := ⟨RX9, "cut", "(I)I"⟩
abbrev cX9_shift : ByteArray := prog_11_method_32_code
def yX9_shift : MethodName := ⟨RX9, "shift", "(II)I"⟩
abbrev cX9_hasText : ByteArray := prog_11_method_33_code
def yX9_hasText : MethodName := ⟨RX9, "hasText", "(I)Z"⟩
abbrev cX9_edit : ByteArray := prog_11_method_34_code
def yX9_edit : MethodName := ⟨RX9, "edit", "(I)I"⟩
abbrev cX9_mark : ByteArray := prog_11_method_35_code
def yX9_mark : MethodName := ⟨RX9, "mark", "(II)I"⟩
abbrev cX9_hasKids : ByteArray := prog_11_method_36_code
def yX9_hasKids : MethodName := ⟨RX9, "hasKids", "(I)Z"⟩
abbrev cX9_fold : ByteArray := prog_11_method_37_code
def yX9_fold : MethodName := ⟨RX9, "fold", "(IZ)I"⟩
abbrev cX9_foldLevel : ByteArray := prog_11_method_38_code
def yX9_foldLevel : MethodName := ⟨RX9, "foldLevel", "(I)I"⟩
abbrev cX9_isNode : ByteArray := prog_11_method_39_code
def yX9_isNode : MethodName := ⟨RX9, "isNode", "(I)Z"⟩
abbrev cX9_firstPlace : ByteArray := prog_11_method_40_code
def yX9_firstPlace : MethodName := ⟨RX9, "firstPlace", "(I)I"⟩
abbrev cX9_show : ByteArray := prog_11_method_41_code
def yX9_show : MethodName := ⟨RX9, "show", "(I)I"⟩
abbrev cX9_type : ByteArray := prog_11_method_42_code
def yX9_type : MethodName := ⟨RX9, "type", "(C)I"⟩
abbrev cX9_clearText : ByteArray := prog_11_method_43_code
def yX9_clearText : MethodName := ⟨RX9, "clearText", "()I"⟩
abbrev cX9_stands : ByteArray := prog_11_method_44_code
def yX9_stands : MethodName := ⟨RX9, "stands", "(II)Z"⟩
abbrev cX9_isOpen : ByteArray := prog_11_method_45_code
def yX9_isOpen : MethodName := ⟨RX9, "isOpen", "(II)Z"⟩
abbrev cX9_readsFault : ByteArray := prog_11_method_46_code
def yX9_readsFault : MethodName := ⟨RX9, "readsFault", "()I"⟩
abbrev cX9_readOutline : ByteArray := prog_11_method_47_code
def yX9_readOutline : MethodName := ⟨RX9, "readOutline", "()I"⟩
abbrev cX9_undo : ByteArray := prog_11_method_48_code
def yX9_undo : MethodName := ⟨RX9, "undo", "()I"⟩
abbrev cX9_keep : ByteArray := prog_11_method_49_code
def yX9_keep : MethodName := ⟨RX9, "keep", "()I"⟩
abbrev cX9_restore : ByteArray := prog_11_method_50_code
def yX9_restore : MethodName := ⟨RX9, "restore", "()I"⟩
abbrev cX9_rowsWithin : ByteArray := prog_11_method_51_code
def yX9_rowsWithin : MethodName := ⟨RX9, "rowsWithin", "(I)I"⟩
abbrev cX9_row : ByteArray := prog_11_method_52_code
def yX9_row : MethodName := ⟨RX9, "row", "(II)I"⟩
abbrev cX9_number : ByteArray := prog_11_method_53_code
def yX9_number : MethodName := ⟨RX9, "number", "(II)I"⟩
abbrev cX9_charAt : ByteArray := prog_11_method_54_code
def yX9_charAt : MethodName := ⟨RX9, "charAt", "(II)I"⟩
abbrev cX9_parents : ByteArray := prog_11_method_55_code
def yX9_parents : MethodName := ⟨RX9, "parents", "(I)I"⟩
abbrev cX9_seenPlaces : ByteArray := prog_11_method_56_code
def yX9_seenPlaces : MethodName := ⟨RX9, "seenPlaces", "(I)I"⟩
abbrev cX9_firstRow : ByteArray := prog_11_method_57_code
def yX9_firstRow : MethodName := ⟨RX9, "firstRow", "(I)I"⟩
abbrev cX9_node : ByteArray := prog_11_method_58_code
def yX9_node : MethodName := ⟨RX9, "node", "(II)I"⟩
abbrev cX9_nextMarked : ByteArray := prog_11_method_59_code
def yX9_nextMarked : MethodName := ⟨RX9, "nextMarked", "(II)I"⟩
abbrev cX9_find : ByteArray := prog_11_method_60_code
def yX9_find : MethodName := ⟨RX9, "find", "(I)I"⟩
abbrev cX9_nodes : ByteArray := prog_11_method_61_code
def yX9_nodes : MethodName := ⟨RX9, "nodes", "(Z)I"⟩
abbrev cX9_foldedPlaces : ByteArray := prog_11_method_62_code
def yX9_foldedPlaces : MethodName := ⟨RX9, "foldedPlaces", "()I"⟩
abbrev cX9_greatestLevel : ByteArray := prog_11_method_63_code
def yX9_greatestLevel : MethodName := ⟨RX9, "greatestLevel", "()I"⟩
abbrev cX9_count : ByteArray := prog_11_method_64_code
def yX9_count : MethodName := ⟨RX9, "count", "(I)I"⟩
def RJ13 : String := "java/lang/Long"
abbrev cJ13_bitCount_95d88 : ByteArray := prog_12_method_50_code
def yJ13_bitCount_95d88 : MethodName := ⟨RJ13, "bitCount", "(J)I"⟩
def RJ9 : String := "java/lang/Math"
abbrev cJ9_floorMod_7cf53 : ByteArray := prog_13_method_50_code
def yJ9_floorMod_7cf53 : MethodName := ⟨RJ9, "floorMod", "(II)I"⟩
abbrev cJ9_abs_0f7a4 : ByteArray := prog_13_method_59_code
def yJ9_abs_0f7a4 : MethodName := ⟨RJ9, "abs", "(I)I"⟩
abbrev cJ9_max_7cf53 : ByteArray := prog_13_method_65_code
def yJ9_max_7cf53 : MethodName := ⟨RJ9, "max", "(II)I"⟩
abbrev cJ9_min_7cf53 : ByteArray := prog_13_method_69_code
def yJ9_min_7cf53 : MethodName := ⟨RJ9, "min", "(II)I"⟩
def RJ10 : String := "java/lang/System"
def RL : String := "CloneOutlineLaw"
abbrev cL_law : ByteArray := code
def yL_law : MethodName := ⟨RL, "law", "([I)Z"⟩
end
section
theorem dX0_init_0 : decode cX0_init 0 = .ok (.aload_n 0, 1) ∧ 0 + 1 = 1 := ⟨by decide +kernel, rfl⟩
theorem dX0_init_1 : decode cX0_init 1 = .ok (.invokespecial 3, 3) ∧ 1 + 3 = 4 := ⟨by decide +kernel, rfl⟩
theorem dX0_init_4 : decode cX0_init 4 = .ok (.aload_n 0, 1) ∧ 4 + 1 = 5 := ⟨by decide +kernel, rfl⟩
theorem dX0_init_5 : decode cX0_init 5 = .ok (.iconst 5, 1) ∧ 5 + 1 = 6 := ⟨by decide +kernel, rfl⟩
theorem dX0_init_6 : decode cX0_init 6 = .ok (.anewarray 9, 3) ∧ 6 + 3 = 9 := ⟨by decide +kernel, rfl⟩
theorem dX0_init_9 : decode cX0_init 9 = .ok (.putfield 11, 3) ∧ 9 + 3 = 12 := ⟨by decide +kernel, rfl⟩
theorem dX0_init_12 : decode cX0_init 12 = .ok (.iconst 0, 1) ∧ 12 + 1 = 13 := ⟨by decide +kernel, rfl⟩
theorem dX0_init_13 : decode cX0_init 13 = .ok (.istore_n 1, 1) ∧ 13 + 1 = 14 := ⟨by decide +kernel, rfl⟩
theorem dX0_init_14 : decode cX0_init 14 = .ok (.iload_n 1, 1) ∧ 14 + 1 = 15 := ⟨by decide +kernel, rfl⟩
theorem dX0_init_15 : decode cX0_init 15 = .ok (.iconst 5, 1) ∧ 15 + 1 = 16 := ⟨by decide +kernel, rfl⟩
theorem dX0_init_16 : decode cX0_init 16 = .ok (.if_icmp .ge 22, 3) ∧ 16 + 3 = 19 ∧ ((16 : Nat) : Int) + (22) = ((38 : Nat) : Int) := ⟨by decide +kernel, rfl, rfl⟩
theorem dX0_init_19 : decode cX0_init 19 = .ok (.aload_n 0, 1) ∧ 19 + 1 = 20 := ⟨by decide +kernel, rfl⟩
theorem dX0_init_20 : decode cX0_init 20 = .ok (.getfield 11, 3) ∧ 20 + 3 = 23 := ⟨by decide +kernel, rfl⟩
theorem dX0_init_23 : decode cX0_init 23 = .ok (.iload_n 1, 1) ∧ 23 + 1 = 24 := ⟨by decide +kernel, rfl⟩
theorem dX0_init_24 : decode cX0_init 24 = .ok (.new 9, 3) ∧ 24 + 3 = 27 := ⟨by decide +kernel, rfl⟩
theorem dX0_init_27 : decode cX0_init 27 = .ok (.dup, 1) ∧ 27 + 1 = 28 := ⟨by decide +kernel, rfl⟩
theorem dX0_init_28 : decode cX0_init 28 = .ok (.invokespecial 17, 3) ∧ 28 + 3 = 31 := ⟨by decide +kernel, rfl⟩
theorem dX0_init_31 : decode cX0_init 31 = .ok (.aastore, 1) ∧ 31 + 1 = 32 := ⟨by decide +kernel, rfl⟩
theorem dX0_init_32 : decode cX0_init 32 = .ok (.iinc 1 1, 3) ∧ 32 + 3 = 35 := ⟨by decide +kernel, rfl⟩
theorem dX0_init_35 : decode cX0_init 35 = .ok (.goto (-21), 3) ∧ 35 + 3 = 38 ∧ ((35 : Nat) : Int) + (-21) = ((14 : Nat) : Int) := ⟨by decide +kernel, rfl, rfl⟩
theorem dX0_init_38 : decode cX0_init 38 = .ok (.return_, 1) ∧ 38 + 1 = 39 := ⟨by decide +kernel, rfl⟩
theorem dX0_push_0 : decode cX0_push 0 = .ok (.aload_n 0, 1) ∧ 0 + 1 = 1 := ⟨by decide +kernel, rfl⟩
theorem dX0_push_1 : decode cX0_push 1 = .ok (.getfield 18, 3) ∧ 1 + 3 = 4 := ⟨by decide +kernel, rfl⟩
theorem dX0_push_4 : decode cX0_push 4 = .ok (.iconst 5, 1) ∧ 4 + 1 = 5 := ⟨by decide +kernel, rfl⟩
theorem dX0_push_5 : decode cX0_push 5 = .ok (.if_icmp .lt 20, 3) ∧ 5 + 3 = 8 ∧ ((5 : Nat) : Int) + (20) = ((25 : Nat) : Int) := ⟨by decide +kernel, rfl, rfl⟩
theorem dX0_push_8 : decode cX0_push 8 = .ok (.aload_n 0, 1) ∧ 8 + 1 = 9 := ⟨by decide +kernel, rfl⟩
theorem dX0_push_9 : decode cX0_push 9 = .ok (.aload_n 0, 1) ∧ 9 + 1 = 10 := ⟨by decide +kernel, rfl⟩
theorem dX0_push_10 : decode cX0_push 10 = .ok (.getfield 22, 3) ∧ 10 + 3 = 13 := ⟨by decide +kernel, rfl⟩
theorem dX0_push_13 : decode cX0_push 13 = .ok (.iconst 1, 1) ∧ 13 + 1 = 14 := ⟨by decide +kernel, rfl⟩
theorem dX0_push_14 : decode cX0_push 14 = .ok (.iadd, 1) ∧ 14 + 1 = 15 := ⟨by decide +kernel, rfl⟩
theorem dX0_push_15 : decode cX0_push 15 = .ok (.iconst 5, 1) ∧ 15 + 1 = 16 := ⟨by decide +kernel, rfl⟩
theorem dX0_push_16 : decode cX0_push 16 = .ok (.irem, 1) ∧ 16 + 1 = 17 := ⟨by decide +kernel, rfl⟩
theorem dX0_push_17 : decode cX0_push 17 = .ok (.putfield 22, 3) ∧ 17 + 3 = 20 := ⟨by decide +kernel, rfl⟩
theorem dX0_push_20 : decode cX0_push 20 = .ok (.aload_n 0, 1) ∧ 20 + 1 = 21 := ⟨by decide +kernel, rfl⟩
theorem dX0_push_21 : decode cX0_push 21 = .ok (.iconst 4, 1) ∧ 21 + 1 = 22 := ⟨by decide +kernel, rfl⟩
theorem dX0_push_22 : decode cX0_push 22 = .ok (.putfield 18, 3) ∧ 22 + 3 = 25 := ⟨by decide +kernel, rfl⟩
theorem dX0_push_25 : decode cX0_push 25 = .ok (.aload_n 0, 1) ∧ 25 + 1 = 26 := ⟨by decide +kernel, rfl⟩
theorem dX0_push_26 : decode cX0_push 26 = .ok (.getfield 11, 3) ∧ 26 + 3 = 29 := ⟨by decide +kernel, rfl⟩
theorem dX0_push_29 : decode cX0_push 29 = .ok (.aload_n 0, 1) ∧ 29 + 1 = 30 := ⟨by decide +kernel, rfl⟩
theorem dX0_push_30 : decode cX0_push 30 = .ok (.getfield 22, 3) ∧ 30 + 3 = 33 := ⟨by decide +kernel, rfl⟩
theorem dX0_push_33 : decode cX0_push 33 = .ok (.aload_n 0, 1) ∧ 33 + 1 = 34 := ⟨by decide +kernel, rfl⟩
theorem dX0_push_34 : decode cX0_push 34 = .ok (.getfield 18, 3) ∧ 34 + 3 = 37 := ⟨by decide +kernel, rfl⟩
theorem dX0_push_37 : decode cX0_push 37 = .ok (.iadd, 1) ∧ 37 + 1 = 38 := ⟨by decide +kernel, rfl⟩
theorem dX0_push_38 : decode cX0_push 38 = .ok (.iconst 5, 1) ∧ 38 + 1 = 39 := ⟨by decide +kernel, rfl⟩
theorem dX0_push_39 : decode cX0_push 39 = .ok (.invokestatic 25, 3) ∧ 39 + 3 = 42 := ⟨by decide +kernel, rfl⟩
theorem dX0_push_42 : decode cX0_push 42 = .ok (.aaload, 1) ∧ 42 + 1 = 43 := ⟨by decide +kernel, rfl⟩
theorem dX0_push_43 : decode cX0_push 43 = .ok (.aload_n 1, 1) ∧ 43 + 1 = 44 := ⟨by decide +kernel, rfl⟩
theorem dX0_push_44 : decode cX0_push 44 = .ok (.invokevirtual 31, 3) ∧ 44 + 3 = 47 := ⟨by decide +kernel, rfl⟩
theorem dX0_push_47 : decode cX0_push 47 = .ok (.aload_n 0, 1) ∧ 47 + 1 = 48 := ⟨by decide +kernel, rfl⟩
theorem dX0_push_48 : decode cX0_push 48 = .ok (.dup, 1) ∧ 48 + 1 = 49 := ⟨by decide +kernel, rfl⟩
theorem dX0_push_49 : decode cX0_push 49 = .ok (.getfield 18, 3) ∧ 49 + 3 = 52 := ⟨by decide +kernel, rfl⟩
theorem dX0_push_52 : decode cX0_push 52 = .ok (.iconst 1, 1) ∧ 52 + 1 = 53 := ⟨by decide +kernel, rfl⟩
theorem dX0_push_53 : decode cX0_push 53 = .ok (.iadd, 1) ∧ 53 + 1 = 54 := ⟨by decide +kernel, rfl⟩
theorem dX0_push_54 : decode cX0_push 54 = .ok (.putfield 18, 3) ∧ 54 + 3 = 57 := ⟨by decide +kernel, rfl⟩
theorem dX0_push_57 : decode cX0_push 57 = .ok (.return_, 1) ∧ 57 + 1 = 58 := ⟨by decide +kernel, rfl⟩
theorem dX0_popInto_0 : decode cX0_popInto 0 = .ok (.aload_n 0, 1) ∧ 0 + 1 = 1 := ⟨by decide +kernel, rfl⟩
theorem dX0_popInto_1 : decode cX0_popInto 1 = .ok (.getfield 18, 3) ∧ 1 + 3 = 4 := ⟨by decide +kernel, rfl⟩
theorem dX0_popInto_4 : decode cX0_popInto 4 = .ok (.ifCond .gt 5, 3) ∧ 4 + 3 = 7 ∧ ((4 : Nat) : Int) + (5) = ((9 : Nat) : Int) := ⟨by decide +kernel, rfl, rfl⟩
theorem dX0_popInto_7 : decode cX0_popInto 7 = .ok (.iconst 0, 1) ∧ 7 + 1 = 8 := ⟨by decide +kernel, rfl⟩
theorem dX0_popInto_8 : decode cX0_popInto 8 = .ok (.ireturn, 1) ∧ 8 + 1 = 9 := ⟨by decide +kernel, rfl⟩
theorem dX0_popInto_9 : decode cX0_popInto 9 = .ok (.aload_n 0, 1) ∧ 9 + 1 = 10 := ⟨by decide +kernel, rfl⟩
theorem dX0_popInto_10 : decode cX0_popInto 10 = .ok (.dup, 1) ∧ 10 + 1 = 11 := ⟨by decide +kernel, rfl⟩
theorem dX0_popInto_11 : decode cX0_popInto 11 = .ok (.getfield 18, 3) ∧ 11 + 3 = 14 := ⟨by decide +kernel, rfl⟩
theorem dX0_popInto_14 : decode cX0_popInto 14 = .ok (.iconst 1, 1) ∧ 14 + 1 = 15 := ⟨by decide +kernel, rfl⟩
theorem dX0_popInto_15 : decode cX0_popInto 15 = .ok (.isub, 1) ∧ 15 + 1 = 16 := ⟨by decide +kernel, rfl⟩
theorem dX0_popInto_16 : decode cX0_popInto 16 = .ok (.putfield 18, 3) ∧ 16 + 3 = 19 := ⟨by decide +kernel, rfl⟩
theorem dX0_popInto_19 : decode cX0_popInto 19 = .ok (.aload_n 1, 1) ∧ 19 + 1 = 20 := ⟨by decide +kernel, rfl⟩
theorem dX0_popInto_20 : decode cX0_popInto 20 = .ok (.aload_n 0, 1) ∧ 20 + 1 = 21 := ⟨by decide +kernel, rfl⟩
theorem dX0_popInto_21 : decode cX0_popInto 21 = .ok (.getfield 11, 3) ∧ 21 + 3 = 24 := ⟨by decide +kernel, rfl⟩
theorem dX0_popInto_24 : decode cX0_popInto 24 = .ok (.aload_n 0, 1) ∧ 24 + 1 = 25 := ⟨by decide +kernel, rfl⟩
theorem dX0_popInto_25 : decode cX0_popInto 25 = .ok (.getfield 22, 3) ∧ 25 + 3 = 28 := ⟨by decide +kernel, rfl⟩
theorem dX0_popInto_28 : decode cX0_popInto 28 = .ok (.aload_n 0, 1) ∧ 28 + 1 = 29 := ⟨by decide +kernel, rfl⟩
theorem dX0_popInto_29 : decode cX0_popInto 29 = .ok (.getfield 18, 3) ∧ 29 + 3 = 32 := ⟨by decide +kernel, rfl⟩
theorem dX0_popInto_32 : decode cX0_popInto 32 = .ok (.iadd, 1) ∧ 32 + 1 = 33 := ⟨by decide +kernel, rfl⟩
theorem dX0_popInto_33 : decode cX0_popInto 33 = .ok (.iconst 5, 1) ∧ 33 + 1 = 34 := ⟨by decide +kernel, rfl⟩
theorem dX0_popInto_34 : decode cX0_popInto 34 = .ok (.invokestatic 25, 3) ∧ 34 + 3 = 37 := ⟨by decide +kernel, rfl⟩
theorem dX0_popInto_37 : decode cX0_popInto 37 = .ok (.aaload, 1) ∧ 37 + 1 = 38 := ⟨by decide +kernel, rfl⟩
theorem dX0_popInto_38 : decode cX0_popInto 38 = .ok (.invokevirtual 31, 3) ∧ 38 + 3 = 41 := ⟨by decide +kernel, rfl⟩
theorem dX0_popInto_41 : decode cX0_popInto 41 = .ok (.iconst 1, 1) ∧ 41 + 1 = 42 := ⟨by decide +kernel, rfl⟩
theorem dX0_popInto_42 : decode cX0_popInto 42 = .ok (.ireturn, 1) ∧ 42 + 1 = 43 := ⟨by decide +kernel, rfl⟩
theorem dX1_init_0 : decode cX1_init 0 = .ok (.aload_n 0, 1) ∧ 0 + 1 = 1 := ⟨by decide +kernel, rfl⟩
theorem dX1_init_1 : decode cX1_init 1 = .ok (.invokespecial 3, 3) ∧ 1 + 3 = 4 := ⟨by decide +kernel, rfl⟩
theorem dX1_init_4 : decode cX1_init 4 = .ok (.aload_n 0, 1) ∧ 4 + 1 = 5 := ⟨by decide +kernel, rfl⟩
theorem dX1_init_5 : decode cX1_init 5 = .ok (.bipush 120, 2) ∧ 5 + 2 = 7 := ⟨by decide +kernel, rfl⟩
theorem dX1_init_7 : decode cX1_init 7 = .ok (.newarray .int, 2) ∧ 7 + 2 = 9 := ⟨by decide +kernel, rfl⟩
theorem dX1_init_9 : decode cX1_init 9 = .ok (.putfield 9, 3) ∧ 9 + 3 = 12 := ⟨by decide +kernel, rfl⟩
theorem dX1_init_12 : decode cX1_init 12 = .ok (.aload_n 0, 1) ∧ 12 + 1 = 13 := ⟨by decide +kernel, rfl⟩
theorem dX1_init_13 : decode cX1_init 13 = .ok (.bipush 120, 2) ∧ 13 + 2 = 15 := ⟨by decide +kernel, rfl⟩
theorem dX1_init_15 : decode cX1_init 15 = .ok (.newarray .int, 2) ∧ 15 + 2 = 17 := ⟨by decide +kernel, rfl⟩
theorem dX1_init_17 : decode cX1_init 17 = .ok (.putfield 15, 3) ∧ 17 + 3 = 20 := ⟨by decide +kernel, rfl⟩
theorem dX1_init_20 : decode cX1_init 20 = .ok (.return_, 1) ∧ 20 + 1 = 21 := ⟨by decide +kernel, rfl⟩
theorem dX1_copyFrom_0 : decode cX1_copyFrom 0 = .ok (.aload_n 0, 1) ∧ 0 + 1 = 1 := ⟨by decide +kernel, rfl⟩
theorem dX1_copyFrom_1 : decode cX1_copyFrom 1 = .ok (.aload_n 1, 1) ∧ 1 + 1 = 2 := ⟨by decide +kernel, rfl⟩
theorem dX1_copyFrom_2 : decode cX1_copyFrom 2 = .ok (.getfield 18, 3) ∧ 2 + 3 = 5 := ⟨by decide +kernel, rfl⟩
theorem dX1_copyFrom_5 : decode cX1_copyFrom 5 = .ok (.putfield 18, 3) ∧ 5 + 3 = 8 := ⟨by decide +kernel, rfl⟩
theorem dX1_copyFrom_8 : decode cX1_copyFrom 8 = .ok (.aload_n 1, 1) ∧ 8 + 1 = 9 := ⟨by decide +kernel, rfl⟩
theorem dX1_copyFrom_9 : decode cX1_copyFrom 9 = .ok (.getfield 9, 3) ∧ 9 + 3 = 12 := ⟨by decide +kernel, rfl⟩
theorem dX1_copyFrom_12 : decode cX1_copyFrom 12 = .ok (.iconst 0, 1) ∧ 12 + 1 = 13 := ⟨by decide +kernel, rfl⟩
theorem dX1_copyFrom_13 : decode cX1_copyFrom 13 = .ok (.aload_n 0, 1) ∧ 13 + 1 = 14 := ⟨by decide +kernel, rfl⟩
theorem dX1_copyFrom_14 : decode cX1_copyFrom 14 = .ok (.getfield 9, 3) ∧ 14 + 3 = 17 := ⟨by decide +kernel, rfl⟩
theorem dX1_copyFrom_17 : decode cX1_copyFrom 17 = .ok (.iconst 0, 1) ∧ 17 + 1 = 18 := ⟨by decide +kernel, rfl⟩
theorem dX1_copyFrom_18 : decode cX1_copyFrom 18 = .ok (.bipush 120, 2) ∧ 18 + 2 = 20 := ⟨by decide +kernel, rfl⟩
theorem dX1_copyFrom_20 : decode cX1_copyFrom 20 = .ok (.invokestatic 22, 3) ∧ 20 + 3 = 23 := ⟨by decide +kernel, rfl⟩
theorem dX1_copyFrom_23 : decode cX1_copyFrom 23 = .ok (.aload_n 1, 1) ∧ 23 + 1 = 24 := ⟨by decide +kernel, rfl⟩
theorem dX1_copyFrom_24 : decode cX1_copyFrom 24 = .ok (.getfield 15, 3) ∧ 24 + 3 = 27 := ⟨by decide +kernel, rfl⟩
theorem dX1_copyFrom_27 : decode cX1_copyFrom 27 = .ok (.iconst 0, 1) ∧ 27 + 1 = 28 := ⟨by decide +kernel, rfl⟩
theorem dX1_copyFrom_28 : decode cX1_copyFrom 28 = .ok (.aload_n 0, 1) ∧ 28 + 1 = 29 := ⟨by decide +kernel, rfl⟩
theorem dX1_copyFrom_29 : decode cX1_copyFrom 29 = .ok (.getfield 15, 3) ∧ 29 + 3 = 32 := ⟨by decide +kernel, rfl⟩
theorem dX1_copyFrom_32 : decode cX1_copyFrom 32 = .ok (.iconst 0, 1) ∧ 32 + 1 = 33 := ⟨by decide +kernel, rfl⟩
theorem dX1_copyFrom_33 : decode cX1_copyFrom 33 = .ok (.bipush 120, 2) ∧ 33 + 2 = 35 := ⟨by decide +kernel, rfl⟩
theorem dX1_copyFrom_35 : decode cX1_copyFrom 35 = .ok (.invokestatic 22, 3) ∧ 35 + 3 = 38 := ⟨by decide +kernel, rfl⟩
theorem dX1_copyFrom_38 : decode cX1_copyFrom 38 = .ok (.return_, 1) ∧ 38 + 1 = 39 := ⟨by decide +kernel, rfl⟩
theorem dX1_append_0 : decode cX1_append 0 = .ok (.aload_n 0, 1) ∧ 0 + 1 = 1 := ⟨by decide +kernel, rfl⟩
theorem dX1_append_1 : decode cX1_append 1 = .ok (.getfield 18, 3) ∧ 1 + 3 = 4 := ⟨by decide +kernel, rfl⟩
theorem dX1_append_4 : decode cX1_append 4 = .ok (.ifCond .lt 12, 3) ∧ 4 + 3 = 7 ∧ ((4 : Nat) : Int) + (12) = ((16 : Nat) : Int) := ⟨by decide +kernel, rfl, rfl⟩
theorem dX1_append_7 : decode cX1_append 7 = .ok (.aload_n 0, 1) ∧ 7 + 1 = 8 := ⟨by decide +kernel, rfl⟩
theorem dX1_append_8 : decode cX1_append 8 = .ok (.getfield 18, 3) ∧ 8 + 3 = 11 := ⟨by decide +kernel, rfl⟩
theorem dX1_append_11 : decode cX1_append 11 = .ok (.bipush 120, 2) ∧ 11 + 2 = 13 := ⟨by decide +kernel, rfl⟩
theorem dX1_append_13 : decode cX1_append 13 = .ok (.if_icmp .lt 5, 3) ∧ 13 + 3 = 16 ∧ ((13 : Nat) : Int) + (5) = ((18 : Nat) : Int) := ⟨by decide +kernel, rfl, rfl⟩
theorem dX1_append_16 : decode cX1_append 16 = .ok (.iconst 0, 1) ∧ 16 + 1 = 17 := ⟨by decide +kernel, rfl⟩
theorem dX1_append_17 : decode cX1_append 17 = .ok (.ireturn, 1) ∧ 17 + 1 = 18 := ⟨by decide +kernel, rfl⟩
theorem dX1_append_18 : decode cX1_append 18 = .ok (.aload_n 0, 1) ∧ 18 + 1 = 19 := ⟨by decide +kernel, rfl⟩
theorem dX1_append_19 : decode cX1_append 19 = .ok (.getfield 9, 3) ∧ 19 + 3 = 22 := ⟨by decide +kernel, rfl⟩
theorem dX1_append_22 : decode cX1_append 22 = .ok (.aload_n 0, 1) ∧ 22 + 1 = 23 := ⟨by decide +kernel, rfl⟩
theorem dX1_append_23 : decode cX1_append 23 = .ok (.getfield 18, 3) ∧ 23 + 3 = 26 := ⟨by decide +kernel, rfl⟩
theorem dX1_append_26 : decode cX1_append 26 = .ok (.iload_n 1, 1) ∧ 26 + 1 = 27 := ⟨by decide +kernel, rfl⟩
theorem dX1_append_27 : decode cX1_append 27 = .ok (.iastore, 1) ∧ 27 + 1 = 28 := ⟨by decide +kernel, rfl⟩
theorem dX1_append_28 : decode cX1_append 28 = .ok (.aload_n 0, 1) ∧ 28 + 1 = 29 := ⟨by decide +kernel, rfl⟩
theorem dX1_append_29 : decode cX1_append 29 = .ok (.getfield 15, 3) ∧ 29 + 3 = 32 := ⟨by decide +kernel, rfl⟩
theorem dX1_append_32 : decode cX1_append 32 = .ok (.aload_n 0, 1) ∧ 32 + 1 = 33 := ⟨by decide +kernel, rfl⟩
theorem dX1_append_33 : decode cX1_append 33 = .ok (.getfield 18, 3) ∧ 33 + 3 = 36 := ⟨by decide +kernel, rfl⟩
theorem dX1_append_36 : decode cX1_append 36 = .ok (.iload_n 2, 1) ∧ 36 + 1 = 37 := ⟨by decide +kernel, rfl⟩
theorem dX1_append_37 : decode cX1_append 37 = .ok (.iastore, 1) ∧ 37 + 1 = 38 := ⟨by decide +kernel, rfl⟩
theorem dX1_append_38 : decode cX1_append 38 = .ok (.aload_n 0, 1) ∧ 38 + 1 = 39 := ⟨by decide +kernel, rfl⟩
theorem dX1_append_39 : decode cX1_append 39 = .ok (.dup, 1) ∧ 39 + 1 = 40 := ⟨by decide +kernel, rfl⟩
theorem dX1_append_40 : decode cX1_append 40 = .ok (.getfield 18, 3) ∧ 40 + 3 = 43 := ⟨by decide +kernel, rfl⟩
theorem dX1_append_43 : decode cX1_append 43 = .ok (.iconst 1, 1) ∧ 43 + 1 = 44 := ⟨by decide +kernel, rfl⟩
theorem dX1_append_44 : decode cX1_append 44 = .ok (.iadd, 1) ∧ 44 + 1 = 45 := ⟨by decide +kernel, rfl⟩
theorem dX1_append_45 : decode cX1_append 45 = .ok (.putfield 18, 3) ∧ 45 + 3 = 48 := ⟨by decide +kernel, rfl⟩
theorem dX1_append_48 : decode cX1_append 48 = .ok (.iconst 1, 1) ∧ 48 + 1 = 49 := ⟨by decide +kernel, rfl⟩
theorem dX1_append_49 : decode cX1_append 49 = .ok (.ireturn, 1) ∧ 49 + 1 = 50 := ⟨by decide +kernel, rfl⟩
theorem dX1_indexOf_0 : decode cX1_indexOf 0 = .ok (.iconst 0, 1) ∧ 0 + 1 = 1 := ⟨by decide +kernel, rfl⟩
theorem dX1_indexOf_1 : decode cX1_indexOf 1 = .ok (.istore_n 3, 1) ∧ 1 + 1 = 2 := ⟨by decide +kernel, rfl⟩
theorem dX1_indexOf_2 : decode cX1_indexOf 2 = .ok (.iload_n 3, 1) ∧ 2 + 1 = 3 := ⟨by decide +kernel, rfl⟩
theorem dX1_indexOf_3 : decode cX1_indexOf 3 = .ok (.aload_n 0, 1) ∧ 3 + 1 = 4 := ⟨by decide +kernel, rfl⟩
theorem dX1_indexOf_4 : decode cX1_indexOf 4 = .ok (.getfield 18, 3) ∧ 4 + 3 = 7 := ⟨by decide +kernel, rfl⟩
theorem dX1_indexOf_7 : decode cX1_indexOf 7 = .ok (.if_icmp .ge 31, 3) ∧ 7 + 3 = 10 ∧ ((7 : Nat) : Int) + (31) = ((38 : Nat) : Int) := ⟨by decide +kernel, rfl, rfl⟩
theorem dX1_indexOf_10 : decode cX1_indexOf 10 = .ok (.aload_n 0, 1) ∧ 10 + 1 = 11 := ⟨by decide +kernel, rfl⟩
theorem dX1_indexOf_11 : decode cX1_indexOf 11 = .ok (.getfield 9, 3) ∧ 11 + 3 = 14 := ⟨by decide +kernel, rfl⟩
theorem dX1_indexOf_14 : decode cX1_indexOf 14 = .ok (.iload_n 3, 1) ∧ 14 + 1 = 15 := ⟨by decide +kernel, rfl⟩
theorem dX1_indexOf_15 : decode cX1_indexOf 15 = .ok (.iaload, 1) ∧ 15 + 1 = 16 := ⟨by decide +kernel, rfl⟩
theorem dX1_indexOf_16 : decode cX1_indexOf 16 = .ok (.iload_n 1, 1) ∧ 16 + 1 = 17 := ⟨by decide +kernel, rfl⟩
theorem dX1_indexOf_17 : decode cX1_indexOf 17 = .ok (.if_icmp .ne 15, 3) ∧ 17 + 3 = 20 ∧ ((17 : Nat) : Int) + (15) = ((32 : Nat) : Int) := ⟨by decide +kernel, rfl, rfl⟩
theorem dX1_indexOf_20 : decode cX1_indexOf 20 = .ok (.aload_n 0, 1) ∧ 20 + 1 = 21 := ⟨by decide +kernel, rfl⟩
theorem dX1_indexOf_21 : decode cX1_indexOf 21 = .ok (.getfield 15, 3) ∧ 21 + 3 = 24 := ⟨by decide +kernel, rfl⟩
theorem dX1_indexOf_24 : decode cX1_indexOf 24 = .ok (.iload_n 3, 1) ∧ 24 + 1 = 25 := ⟨by decide +kernel, rfl⟩
theorem dX1_indexOf_25 : decode cX1_indexOf 25 = .ok (.iaload, 1) ∧ 25 + 1 = 26 := ⟨by decide +kernel, rfl⟩
theorem dX1_indexOf_26 : decode cX1_indexOf 26 = .ok (.iload_n 2, 1) ∧ 26 + 1 = 27 := ⟨by decide +kernel, rfl⟩
theorem dX1_indexOf_27 : decode cX1_indexOf 27 = .ok (.if_icmp .ne 5, 3) ∧ 27 + 3 = 30 ∧ ((27 : Nat) : Int) + (5) = ((32 : Nat) : Int) := ⟨by decide +kernel, rfl, rfl⟩
theorem dX1_indexOf_30 : decode cX1_indexOf 30 = .ok (.iload_n 3, 1) ∧ 30 + 1 = 31 := ⟨by decide +kernel, rfl⟩
theorem dX1_indexOf_31 : decode cX1_indexOf 31 = .ok (.ireturn, 1) ∧ 31 + 1 = 32 := ⟨by decide +kernel, rfl⟩
theorem dX1_indexOf_32 : decode cX1_indexOf 32 = .ok (.iinc 3 1, 3) ∧ 32 + 3 = 35 := ⟨by decide +kernel, rfl⟩
theorem dX1_indexOf_35 : decode cX1_indexOf 35 = .ok (.goto (-33), 3) ∧ 35 + 3 = 38 ∧ ((35 : Nat) : Int) + (-33) = ((2 : Nat) : Int) := ⟨by decide +kernel, rfl, rfl⟩
theorem dX1_indexOf_38 : decode cX1_indexOf 38 = .ok (.iconst (-1), 1) ∧ 38 + 1 = 39 := ⟨by decide +kernel, rfl⟩
theorem dX1_indexOf_39 : decode cX1_indexOf 39 = .ok (.ireturn, 1) ∧ 39 + 1 = 40 := ⟨by decide +kernel, rfl⟩
theorem dX1_drop_0 : decode cX1_drop 0 = .ok (.aload_n 0, 1) ∧ 0 + 1 = 1 := ⟨by decide +kernel, rfl⟩
theorem dX1_drop_1 : decode cX1_drop 1 = .ok (.iload_n 1, 1) ∧ 1 + 1 = 2 := ⟨by decide +kernel, rfl⟩
theorem dX1_drop_2 : decode cX1_drop 2 = .ok (.iload_n 2, 1) ∧ 2 + 1 = 3 := ⟨by decide +kernel, rfl⟩
theorem dX1_drop_3 : decode cX1_drop 3 = .ok (.invokevirtual 28, 3) ∧ 3 + 3 = 6 := ⟨by decide +kernel, rfl⟩
theorem dX1_drop_6 : decode cX1_drop 6 = .ok (.istore_n 3, 1) ∧ 6 + 1 = 7 := ⟨by decide +kernel, rfl⟩
theorem dX1_drop_7 : decode cX1_drop 7 = .ok (.iload_n 3, 1) ∧ 7 + 1 = 8 := ⟨by decide +kernel, rfl⟩
theorem dX1_drop_8 : decode cX1_drop 8 = .ok (.iconst (-1), 1) ∧ 8 + 1 = 9 := ⟨by decide +kernel, rfl⟩
theorem dX1_drop_9 : decode cX1_drop 9 = .ok (.if_icmp .ne 4, 3) ∧ 9 + 3 = 12 ∧ ((9 : Nat) : Int) + (4) = ((13 : Nat) : Int) := ⟨by decide +kernel, rfl, rfl⟩
theorem dX1_drop_12 : decode cX1_drop 12 = .ok (.return_, 1) ∧ 12 + 1 = 13 := ⟨by decide +kernel, rfl⟩
theorem dX1_drop_13 : decode cX1_drop 13 = .ok (.iload_n 3, 1) ∧ 13 + 1 = 14 := ⟨by decide +kernel, rfl⟩
theorem dX1_drop_14 : decode cX1_drop 14 = .ok (.iconst 1, 1) ∧ 14 + 1 = 15 := ⟨by decide +kernel, rfl⟩
theorem dX1_drop_15 : decode cX1_drop 15 = .ok (.iadd, 1) ∧ 15 + 1 = 16 := ⟨by decide +kernel, rfl⟩
theorem dX1_drop_16 : decode cX1_drop 16 = .ok (.istore 4, 2) ∧ 16 + 2 = 18 := ⟨by decide +kernel, rfl⟩
theorem dX1_drop_18 : decode cX1_drop 18 = .ok (.iload 4, 2) ∧ 18 + 2 = 20 := ⟨by decide +kernel, rfl⟩
theorem dX1_drop_20 : decode cX1_drop 20 = .ok (.aload_n 0, 1) ∧ 20 + 1 = 21 := ⟨by decide +kernel, rfl⟩
theorem dX1_drop_21 : decode cX1_drop 21 = .ok (.getfield 18, 3) ∧ 21 + 3 = 24 := ⟨by decide +kernel, rfl⟩
theorem dX1_drop_24 : decode cX1_drop 24 = .ok (.if_icmp .ge 41, 3) ∧ 24 + 3 = 27 ∧ ((24 : Nat) : Int) + (41) = ((65 : Nat) : Int) := ⟨by decide +kernel, rfl, rfl⟩
theorem dX1_drop_27 : decode cX1_drop 27 = .ok (.aload_n 0, 1) ∧ 27 + 1 = 28 := ⟨by decide +kernel, rfl⟩
theorem dX1_drop_28 : decode cX1_drop 28 = .ok (.getfield 9, 3) ∧ 28 + 3 = 31 := ⟨by decide +kernel, rfl⟩
theorem dX1_drop_31 : decode cX1_drop 31 = .ok (.iload 4, 2) ∧ 31 + 2 = 33 := ⟨by decide +kernel, rfl⟩
theorem dX1_drop_33 : decode cX1_drop 33 = .ok (.iconst 1, 1) ∧ 33 + 1 = 34 := ⟨by decide +kernel, rfl⟩
theorem dX1_drop_34 : decode cX1_drop 34 = .ok (.isub, 1) ∧ 34 + 1 = 35 := ⟨by decide +kernel, rfl⟩
theorem dX1_drop_35 : decode cX1_drop 35 = .ok (.aload_n 0, 1) ∧ 35 + 1 = 36 := ⟨by decide +kernel, rfl⟩
theorem dX1_drop_36 : decode cX1_drop 36 = .ok (.getfield 9, 3) ∧ 36 + 3 = 39 := ⟨by decide +kernel, rfl⟩
theorem dX1_drop_39 : decode cX1_drop 39 = .ok (.iload 4, 2) ∧ 39 + 2 = 41 := ⟨by decide +kernel, rfl⟩
theorem dX1_drop_41 : decode cX1_drop 41 = .ok (.iaload, 1) ∧ 41 + 1 = 42 := ⟨by decide +kernel, rfl⟩
theorem dX1_drop_42 : decode cX1_drop 42 = .ok (.iastore, 1) ∧ 42 + 1 = 43 := ⟨by decide +kernel, rfl⟩
theorem dX1_drop_43 : decode cX1_drop 43 = .ok (.aload_n 0, 1) ∧ 43 + 1 = 44 := ⟨by decide +kernel, rfl⟩
theorem dX1_drop_44 : decode cX1_drop 44 = .ok (.getfield 15, 3) ∧ 44 + 3 = 47 := ⟨by decide +kernel, rfl⟩
theorem dX1_drop_47 : decode cX1_drop 47 = .ok (.iload 4, 2) ∧ 47 + 2 = 49 := ⟨by decide +kernel, rfl⟩
theorem dX1_drop_49 : decode cX1_drop 49 = .ok (.iconst 1, 1) ∧ 49 + 1 = 50 := ⟨by decide +kernel, rfl⟩
theorem dX1_drop_50 : decode cX1_drop 50 = .ok (.isub, 1) ∧ 50 + 1 = 51 := ⟨by decide +kernel, rfl⟩
theorem dX1_drop_51 : decode cX1_drop 51 = .ok (.aload_n 0, 1) ∧ 51 + 1 = 52 := ⟨by decide +kernel, rfl⟩
theorem dX1_drop_52 : decode cX1_drop 52 = .ok (.getfield 15, 3) ∧ 52 + 3 = 55 := ⟨by decide +kernel, rfl⟩
theorem dX1_drop_55 : decode cX1_drop 55 = .ok (.iload 4, 2) ∧ 55 + 2 = 57 := ⟨by decide +kernel, rfl⟩
theorem dX1_drop_57 : decode cX1_drop 57 = .ok (.iaload, 1) ∧ 57 + 1 = 58 := ⟨by decide +kernel, rfl⟩
theorem dX1_drop_58 : decode cX1_drop 58 = .ok (.iastore, 1) ∧ 58 + 1 = 59 := ⟨by decide +kernel, rfl⟩
theorem dX1_drop_59 : decode cX1_drop 59 = .ok (.iinc 4 1, 3) ∧ 59 + 3 = 62 := ⟨by decide +kernel, rfl⟩
theorem dX1_drop_62 : decode cX1_drop 62 = .ok (.goto (-44), 3) ∧ 62 + 3 = 65 ∧ ((62 : Nat) : Int) + (-44) = ((18 : Nat) : Int) := ⟨by decide +kernel, rfl, rfl⟩
theorem dX1_drop_65 : decode cX1_drop 65 = .ok (.aload_n 0, 1) ∧ 65 + 1 = 66 := ⟨by decide +kernel, rfl⟩
theorem dX1_drop_66 : decode cX1_drop 66 = .ok (.dup, 1) ∧ 66 + 1 = 67 := ⟨by decide +kernel, rfl⟩
theorem dX1_drop_67 : decode cX1_drop 67 = .ok (.getfield 18, 3) ∧ 67 + 3 = 70 := ⟨by decide +kernel, rfl⟩
theorem dX1_drop_70 : decode cX1_drop 70 = .ok (.iconst 1, 1) ∧ 70 + 1 = 71 := ⟨by decide +kernel, rfl⟩
theorem dX1_drop_71 : decode cX1_drop 71 = .ok (.isub, 1) ∧ 71 + 1 = 72 := ⟨by decide +kernel, rfl⟩
theorem dX1_drop_72 : decode cX1_drop 72 = .ok (.putfield 18, 3) ∧ 72 + 3 = 75 := ⟨by decide +kernel, rfl⟩
theorem dX1_drop_75 : decode cX1_drop 75 = .ok (.return_, 1) ∧ 75 + 1 = 76 := ⟨by decide +kernel, rfl⟩
theorem dX1_keepParents_0 : decode cX1_keepParents 0 = .ok (.iconst 0, 1) ∧ 0 + 1 = 1 := ⟨by decide +kernel, rfl⟩
theorem dX1_keepParents_1 : decode cX1_keepParents 1 = .ok (.istore_n 3, 1) ∧ 1 + 1 = 2 := ⟨by decide +kernel, rfl⟩
theorem dX1_keepParents_2 : decode cX1_keepParents 2 = .ok (.iconst 0, 1) ∧ 2 + 1 = 3 := ⟨by decide +kernel, rfl⟩
theorem dX1_keepParents_3 : decode cX1_keepParents 3 = .ok (.istore 4, 2) ∧ 3 + 2 = 5 := ⟨by decide +kernel, rfl⟩
theorem dX1_keepParents_5 : decode cX1_keepParents 5 = .ok (.iload 4, 2) ∧ 5 + 2 = 7 := ⟨by decide +kernel, rfl⟩
theorem dX1_keepParents_7 : decode cX1_keepParents 7 = .ok (.aload_n 0, 1) ∧ 7 + 1 = 8 := ⟨by decide +kernel, rfl⟩
theorem dX1_keepParents_8 : decode cX1_keepParents 8 = .ok (.getfield 18, 3) ∧ 8 + 3 = 11 := ⟨by decide +kernel, rfl⟩
theorem dX1_keepParents_11 : decode cX1_keepParents 11 = .ok (.if_icmp .ge 54, 3) ∧ 11 + 3 = 14 ∧ ((11 : Nat) : Int) + (54) = ((65 : Nat) : Int) := ⟨by decide +kernel, rfl, rfl⟩
theorem dX1_keepParents_14 : decode cX1_keepParents 14 = .ok (.lload_n 1, 1) ∧ 14 + 1 = 15 := ⟨by decide +kernel, rfl⟩
theorem dX1_keepParents_15 : decode cX1_keepParents 15 = .ok (.aload_n 0, 1) ∧ 15 + 1 = 16 := ⟨by decide +kernel, rfl⟩
theorem dX1_keepParents_16 : decode cX1_keepParents 16 = .ok (.getfield 9, 3) ∧ 16 + 3 = 19 := ⟨by decide +kernel, rfl⟩
theorem dX1_keepParents_19 : decode cX1_keepParents 19 = .ok (.iload 4, 2) ∧ 19 + 2 = 21 := ⟨by decide +kernel, rfl⟩
theorem dX1_keepParents_21 : decode cX1_keepParents 21 = .ok (.iaload, 1) ∧ 21 + 1 = 22 := ⟨by decide +kernel, rfl⟩
theorem dX1_keepParents_22 : decode cX1_keepParents 22 = .ok (.lshr, 1) ∧ 22 + 1 = 23 := ⟨by decide +kernel, rfl⟩
theorem dX1_keepParents_23 : decode cX1_keepParents 23 = .ok (.lconst 1, 1) ∧ 23 + 1 = 24 := ⟨by decide +kernel, rfl⟩
theorem dX1_keepParents_24 : decode cX1_keepParents 24 = .ok (.land, 1) ∧ 24 + 1 = 25 := ⟨by decide +kernel, rfl⟩
theorem dX1_keepParents_25 : decode cX1_keepParents 25 = .ok (.lconst 1, 1) ∧ 25 + 1 = 26 := ⟨by decide +kernel, rfl⟩
theorem dX1_keepParents_26 : decode cX1_keepParents 26 = .ok (.lcmp, 1) ∧ 26 + 1 = 27 := ⟨by decide +kernel, rfl⟩
theorem dX1_keepParents_27 : decode cX1_keepParents 27 = .ok (.ifCond .ne 32, 3) ∧ 27 + 3 = 30 ∧ ((27 : Nat) : Int) + (32) = ((59 : Nat) : Int) := ⟨by decide +kernel, rfl, rfl⟩
theorem dX1_keepParents_30 : decode cX1_keepParents 30 = .ok (.aload_n 0, 1) ∧ 30 + 1 = 31 := ⟨by decide +kernel, rfl⟩
theorem dX1_keepParents_31 : decode cX1_keepParents 31 = .ok (.getfield 9, 3) ∧ 31 + 3 = 34 := ⟨by decide +kernel, rfl⟩
theorem dX1_keepParents_34 : decode cX1_keepParents 34 = .ok (.iload_n 3, 1) ∧ 34 + 1 = 35 := ⟨by decide +kernel, rfl⟩
theorem dX1_keepParents_35 : decode cX1_keepParents 35 = .ok (.aload_n 0, 1) ∧ 35 + 1 = 36 := ⟨by decide +kernel, rfl⟩
theorem dX1_keepParents_36 : decode cX1_keepParents 36 = .ok (.getfield 9, 3) ∧ 36 + 3 = 39 := ⟨by decide +kernel, rfl⟩
theorem dX1_keepParents_39 : decode cX1_keepParents 39 = .ok (.iload 4, 2) ∧ 39 + 2 = 41 := ⟨by decide +kernel, rfl⟩
theorem dX1_keepParents_41 : decode cX1_keepParents 41 = .ok (.iaload, 1) ∧ 41 + 1 = 42 := ⟨by decide +kernel, rfl⟩
theorem dX1_keepParents_42 : decode cX1_keepParents 42 = .ok (.iastore, 1) ∧ 42 + 1 = 43 := ⟨by decide +kernel, rfl⟩
theorem dX1_keepParents_43 : decode cX1_keepParents 43 = .ok (.aload_n 0, 1) ∧ 43 + 1 = 44 := ⟨by decide +kernel, rfl⟩
theorem dX1_keepParents_44 : decode cX1_keepParents 44 = .ok (.getfield 15, 3) ∧ 44 + 3 = 47 := ⟨by decide +kernel, rfl⟩
theorem dX1_keepParents_47 : decode cX1_keepParents 47 = .ok (.iload_n 3, 1) ∧ 47 + 1 = 48 := ⟨by decide +kernel, rfl⟩
theorem dX1_keepParents_48 : decode cX1_keepParents 48 = .ok (.aload_n 0, 1) ∧ 48 + 1 = 49 := ⟨by decide +kernel, rfl⟩
theorem dX1_keepParents_49 : decode cX1_keepParents 49 = .ok (.getfield 15, 3) ∧ 49 + 3 = 52 := ⟨by decide +kernel, rfl⟩
theorem dX1_keepParents_52 : decode cX1_keepParents 52 = .ok (.iload 4, 2) ∧ 52 + 2 = 54 := ⟨by decide +kernel, rfl⟩
theorem dX1_keepParents_54 : decode cX1_keepParents 54 = .ok (.iaload, 1) ∧ 54 + 1 = 55 := ⟨by decide +kernel, rfl⟩
theorem dX1_keepParents_55 : decode cX1_keepParents 55 = .ok (.iastore, 1) ∧ 55 + 1 = 56 := ⟨by decide +kernel, rfl⟩
theorem dX1_keepParents_56 : decode cX1_keepParents 56 = .ok (.iinc 3 1, 3) ∧ 56 + 3 = 59 := ⟨by decide +kernel, rfl⟩
theorem dX1_keepParents_59 : decode cX1_keepParents 59 = .ok (.iinc 4 1, 3) ∧ 59 + 3 = 62 := ⟨by decide +kernel, rfl⟩
theorem dX1_keepParents_62 : decode cX1_keepParents 62 = .ok (.goto (-57), 3) ∧ 62 + 3 = 65 ∧ ((62 : Nat) : Int) + (-57) = ((5 : Nat) : Int) := ⟨by decide +kernel, rfl, rfl⟩
theorem dX1_keepParents_65 : decode cX1_keepParents 65 = .ok (.aload_n 0, 1) ∧ 65 + 1 = 66 := ⟨by decide +kernel, rfl⟩
theorem dX1_keepParents_66 : decode cX1_keepParents 66 = .ok (.iload_n 3, 1) ∧ 66 + 1 = 67 := ⟨by decide +kernel, rfl⟩
theorem dX1_keepParents_67 : decode cX1_keepParents 67 = .ok (.putfield 18, 3) ∧ 67 + 3 = 70 := ⟨by decide +kernel, rfl⟩
theorem dX1_keepParents_70 : decode cX1_keepParents 70 = .ok (.return_, 1) ∧ 70 + 1 = 71 := ⟨by decide +kernel, rfl⟩
theorem dX1_childCount_0 : decode cX1_childCount 0 = .ok (.iconst 0, 1) ∧ 0 + 1 = 1 := ⟨by decide +kernel, rfl⟩
theorem dX1_childCount_1 : decode cX1_childCount 1 = .ok (.istore_n 2, 1) ∧ 1 + 1 = 2 := ⟨by decide +kernel, rfl⟩
theorem dX1_childCount_2 : decode cX1_childCount 2 = .ok (.iconst 0, 1) ∧ 2 + 1 = 3 := ⟨by decide +kernel, rfl⟩
theorem dX1_childCount_3 : decode cX1_childCount 3 = .ok (.istore_n 3, 1) ∧ 3 + 1 = 4 := ⟨by decide +kernel, rfl⟩
theorem dX1_childCount_4 : decode cX1_childCount 4 = .ok (.iload_n 3, 1) ∧ 4 + 1 = 5 := ⟨by decide +kernel, rfl⟩
theorem dX1_childCount_5 : decode cX1_childCount 5 = .ok (.aload_n 0, 1) ∧ 5 + 1 = 6 := ⟨by decide +kernel, rfl⟩
theorem dX1_childCount_6 : decode cX1_childCount 6 = .ok (.getfield 18, 3) ∧ 6 + 3 = 9 := ⟨by decide +kernel, rfl⟩
theorem dX1_childCount_9 : decode cX1_childCount 9 = .ok (.if_icmp .ge 22, 3) ∧ 9 + 3 = 12 ∧ ((9 : Nat) : Int) + (22) = ((31 : Nat) : Int) := ⟨by decide +kernel, rfl, rfl⟩
theorem dX1_childCount_12 : decode cX1_childCount 12 = .ok (.aload_n 0, 1) ∧ 12 + 1 = 13 := ⟨by decide +kernel, rfl⟩
theorem dX1_childCount_13 : decode cX1_childCount 13 = .ok (.getfield 9, 3) ∧ 13 + 3 = 16 := ⟨by decide +kernel, rfl⟩
theorem dX1_childCount_16 : decode cX1_childCount 16 = .ok (.iload_n 3, 1) ∧ 16 + 1 = 17 := ⟨by decide +kernel, rfl⟩
theorem dX1_childCount_17 : decode cX1_childCount 17 = .ok (.iaload, 1) ∧ 17 + 1 = 18 := ⟨by decide +kernel, rfl⟩
theorem dX1_childCount_18 : decode cX1_childCount 18 = .ok (.iload_n 1, 1) ∧ 18 + 1 = 19 := ⟨by decide +kernel, rfl⟩
theorem dX1_childCount_19 : decode cX1_childCount 19 = .ok (.if_icmp .ne 6, 3) ∧ 19 + 3 = 22 ∧ ((19 : Nat) : Int) + (6) = ((25 : Nat) : Int) := ⟨by decide +kernel, rfl, rfl⟩
theorem dX1_childCount_22 : decode cX1_childCount 22 = .ok (.iinc 2 1, 3) ∧ 22 + 3 = 25 := ⟨by decide +kernel, rfl⟩
theorem dX1_childCount_25 : decode cX1_childCount 25 = .ok (.iinc 3 1, 3) ∧ 25 + 3 = 28 := ⟨by decide +kernel, rfl⟩
theorem dX1_childCount_28 : decode cX1_childCount 28 = .ok (.goto (-24), 3) ∧ 28 + 3 = 31 ∧ ((28 : Nat) : Int) + (-24) = ((4 : Nat) : Int) := ⟨by decide +kernel, rfl, rfl⟩
theorem dX1_childCount_31 : decode cX1_childCount 31 = .ok (.iload_n 2, 1) ∧ 31 + 1 = 32 := ⟨by decide +kernel, rfl⟩
theorem dX1_childCount_32 : decode cX1_childCount 32 = .ok (.ireturn, 1) ∧ 32 + 1 = 33 := ⟨by decide +kernel, rfl⟩
theorem dX1_parentCount_0 : decode cX1_parentCount 0 = .ok (.iconst 0, 1) ∧ 0 + 1 = 1 := ⟨by decide +kernel, rfl⟩
theorem dX1_parentCount_1 : decode cX1_parentCount 1 = .ok (.istore_n 2, 1) ∧ 1 + 1 = 2 := ⟨by decide +kernel, rfl⟩
theorem dX1_parentCount_2 : decode cX1_parentCount 2 = .ok (.iconst 0, 1) ∧ 2 + 1 = 3 := ⟨by decide +kernel, rfl⟩
theorem dX1_parentCount_3 : decode cX1_parentCount 3 = .ok (.istore_n 3, 1) ∧ 3 + 1 = 4 := ⟨by decide +kernel, rfl⟩
theorem dX1_parentCount_4 : decode cX1_parentCount 4 = .ok (.iload_n 3, 1) ∧ 4 + 1 = 5 := ⟨by decide +kernel, rfl⟩
theorem dX1_parentCount_5 : decode cX1_parentCount 5 = .ok (.aload_n 0, 1) ∧ 5 + 1 = 6 := ⟨by decide +kernel, rfl⟩
theorem dX1_parentCount_6 : decode cX1_parentCount 6 = .ok (.getfield 18, 3) ∧ 6 + 3 = 9 := ⟨by decide +kernel, rfl⟩
theorem dX1_parentCount_9 : decode cX1_parentCount 9 = .ok (.if_icmp .ge 22, 3) ∧ 9 + 3 = 12 ∧ ((9 : Nat) : Int) + (22) = ((31 : Nat) : Int) := ⟨by decide +kernel, rfl, rfl⟩
theorem dX1_parentCount_12 : decode cX1_parentCount 12 = .ok (.aload_n 0, 1) ∧ 12 + 1 = 13 := ⟨by decide +kernel, rfl⟩
theorem dX1_parentCount_13 : decode cX1_parentCount 13 = .ok (.getfield 15, 3) ∧ 13 + 3 = 16 := ⟨by decide +kernel, rfl⟩
theorem dX1_parentCount_16 : decode cX1_parentCount 16 = .ok (.iload_n 3, 1) ∧ 16 + 1 = 17 := ⟨by decide +kernel, rfl⟩
theorem dX1_parentCount_17 : decode cX1_parentCount 17 = .ok (.iaload, 1) ∧ 17 + 1 = 18 := ⟨by decide +kernel, rfl⟩
theorem dX1_parentCount_18 : decode cX1_parentCount 18 = .ok (.iload_n 1, 1) ∧ 18 + 1 = 19 := ⟨by decide +kernel, rfl⟩
theorem dX1_parentCount_19 : decode cX1_parentCount 19 = .ok (.if_icmp .ne 6, 3) ∧ 19 + 3 = 22 ∧ ((19 : Nat) : Int) + (6) = ((25 : Nat) : Int) := ⟨by decide +kernel, rfl, rfl⟩
theorem dX1_parentCount_22 : decode cX1_parentCount 22 = .ok (.iinc 2 1, 3) ∧ 22 + 3 = 25 := ⟨by decide +kernel, rfl⟩
theorem dX1_parentCount_25 : decode cX1_parentCount 25 = .ok (.iinc 3 1, 3) ∧ 25 + 3 = 28 := ⟨by decide +kernel, rfl⟩
theorem dX1_parentCount_28 : decode cX1_parentCount 28 = .ok (.goto (-24), 3) ∧ 28 + 3 = 31 ∧ ((28 : Nat) : Int) + (-24) = ((4 : Nat) : Int) := ⟨by decide +kernel, rfl, rfl⟩
theorem dX1_parentCount_31 : decode cX1_parentCount 31 = .ok (.iload_n 2, 1) ∧ 31 + 1 = 32 := ⟨by decide +kernel, rfl⟩
theorem dX1_parentCount_32 : decode cX1_parentCount 32 = .ok (.ireturn, 1) ∧ 32 + 1 = 33 := ⟨by decide +kernel, rfl⟩
theorem dX1_sharedCount_0 : decode cX1_sharedCount 0 = .ok (.iconst 0, 1) ∧ 0 + 1 = 1 := ⟨by decide +kernel, rfl⟩
theorem dX1_sharedCount_1 : decode cX1_sharedCount 1 = .ok (.istore_n 1, 1) ∧ 1 + 1 = 2 := ⟨by decide +kernel, rfl⟩
theorem dX1_sharedCount_2 : decode cX1_sharedCount 2 = .ok (.iconst 1, 1) ∧ 2 + 1 = 3 := ⟨by decide +kernel, rfl⟩
theorem dX1_sharedCount_3 : decode cX1_sharedCount 3 = .ok (.istore_n 2, 1) ∧ 3 + 1 = 4 := ⟨by decide +kernel, rfl⟩
theorem dX1_sharedCount_4 : decode cX1_sharedCount 4 = .ok (.iload_n 2, 1) ∧ 4 + 1 = 5 := ⟨by decide +kernel, rfl⟩
theorem dX1_sharedCount_5 : decode cX1_sharedCount 5 = .ok (.bipush 40, 2) ∧ 5 + 2 = 7 := ⟨by decide +kernel, rfl⟩
theorem dX1_sharedCount_7 : decode cX1_sharedCount 7 = .ok (.if_icmp .gt 21, 3) ∧ 7 + 3 = 10 ∧ ((7 : Nat) : Int) + (21) = ((28 : Nat) : Int) := ⟨by decide +kernel, rfl, rfl⟩
theorem dX1_sharedCount_10 : decode cX1_sharedCount 10 = .ok (.aload_n 0, 1) ∧ 10 + 1 = 11 := ⟨by decide +kernel, rfl⟩
theorem dX1_sharedCount_11 : decode cX1_sharedCount 11 = .ok (.iload_n 2, 1) ∧ 11 + 1 = 12 := ⟨by decide +kernel, rfl⟩
theorem dX1_sharedCount_12 : decode cX1_sharedCount 12 = .ok (.invokevirtual 32, 3) ∧ 12 + 3 = 15 := ⟨by decide +kernel, rfl⟩
theorem dX1_sharedCount_15 : decode cX1_sharedCount 15 = .ok (.iconst 1, 1) ∧ 15 + 1 = 16 := ⟨by decide +kernel, rfl⟩
theorem dX1_sharedCount_16 : decode cX1_sharedCount 16 = .ok (.if_icmp .le 6, 3) ∧ 16 + 3 = 19 ∧ ((16 : Nat) : Int) + (6) = ((22 : Nat) : Int) := ⟨by decide +kernel, rfl, rfl⟩
theorem dX1_sharedCount_19 : decode cX1_sharedCount 19 = .ok (.iinc 1 1, 3) ∧ 19 + 3 = 22 := ⟨by decide +kernel, rfl⟩
theorem dX1_sharedCount_22 : decode cX1_sharedCount 22 = .ok (.iinc 2 1, 3) ∧ 22 + 3 = 25 := ⟨by decide +kernel, rfl⟩
theorem dX1_sharedCount_25 : decode cX1_sharedCount 25 = .ok (.goto (-21), 3) ∧ 25 + 3 = 28 ∧ ((25 : Nat) : Int) + (-21) = ((4 : Nat) : Int) := ⟨by decide +kernel, rfl, rfl⟩
theorem dX1_sharedCount_28 : decode cX1_sharedCount 28 = .ok (.iload_n 1, 1) ∧ 28 + 1 = 29 := ⟨by decide +kernel, rfl⟩
theorem dX1_sharedCount_29 : decode cX1_sharedCount 29 = .ok (.ireturn, 1) ∧ 29 + 1 = 30 := ⟨by decide +kernel, rfl⟩
theorem dX1_position_0 : decode cX1_position 0 = .ok (.iconst 0, 1) ∧ 0 + 1 = 1 := ⟨by decide +kernel, rfl⟩
theorem dX1_position_1 : decode cX1_position 1 = .ok (.istore_n 3, 1) ∧ 1 + 1 = 2 := ⟨by decide +kernel, rfl⟩
theorem dX1_position_2 : decode cX1_position 2 = .ok (.iconst 0, 1) ∧ 2 + 1 = 3 := ⟨by decide +kernel, rfl⟩
theorem dX1_position_3 : decode cX1_position 3 = .ok (.istore 4, 2) ∧ 3 + 2 = 5 := ⟨by decide +kernel, rfl⟩
theorem dX1_position_5 : decode cX1_position 5 = .ok (.iload 4, 2) ∧ 5 + 2 = 7 := ⟨by decide +kernel, rfl⟩
theorem dX1_position_7 : decode cX1_position 7 = .ok (.aload_n 0, 1) ∧ 7 + 1 = 8 := ⟨by decide +kernel, rfl⟩
theorem dX1_position_8 : decode cX1_position 8 = .ok (.getfield 18, 3) ∧ 8 + 3 = 11 := ⟨by decide +kernel, rfl⟩
theorem dX1_position_11 : decode cX1_position 11 = .ok (.if_icmp .ge 36, 3) ∧ 11 + 3 = 14 ∧ ((11 : Nat) : Int) + (36) = ((47 : Nat) : Int) := ⟨by decide +kernel, rfl, rfl⟩
theorem dX1_position_14 : decode cX1_position 14 = .ok (.aload_n 0, 1) ∧ 14 + 1 = 15 := ⟨by decide +kernel, rfl⟩
theorem dX1_position_15 : decode cX1_position 15 = .ok (.getfield 9, 3) ∧ 15 + 3 = 18 := ⟨by decide +kernel, rfl⟩
theorem dX1_position_18 : decode cX1_position 18 = .ok (.iload 4, 2) ∧ 18 + 2 = 20 := ⟨by decide +kernel, rfl⟩
theorem dX1_position_20 : decode cX1_position 20 = .ok (.iaload, 1) ∧ 20 + 1 = 21 := ⟨by decide +kernel, rfl⟩
theorem dX1_position_21 : decode cX1_position 21 = .ok (.iload_n 1, 1) ∧ 21 + 1 = 22 := ⟨by decide +kernel, rfl⟩
theorem dX1_position_22 : decode cX1_position 22 = .ok (.if_icmp .ne 19, 3) ∧ 22 + 3 = 25 ∧ ((22 : Nat) : Int) + (19) = ((41 : Nat) : Int) := ⟨by decide +kernel, rfl, rfl⟩
theorem dX1_position_25 : decode cX1_position 25 = .ok (.aload_n 0, 1) ∧ 25 + 1 = 26 := ⟨by decide +kernel, rfl⟩
theorem dX1_position_26 : decode cX1_position 26 = .ok (.getfield 15, 3) ∧ 26 + 3 = 29 := ⟨by decide +kernel, rfl⟩
theorem dX1_position_29 : decode cX1_position 29 = .ok (.iload 4, 2) ∧ 29 + 2 = 31 := ⟨by decide +kernel, rfl⟩
theorem dX1_position_31 : decode cX1_position 31 = .ok (.iaload, 1) ∧ 31 + 1 = 32 := ⟨by decide +kernel, rfl⟩
theorem dX1_position_32 : decode cX1_position 32 = .ok (.iload_n 2, 1) ∧ 32 + 1 = 33 := ⟨by decide +kernel, rfl⟩
theorem dX1_position_33 : decode cX1_position 33 = .ok (.if_icmp .ne 5, 3) ∧ 33 + 3 = 36 ∧ ((33 : Nat) : Int) + (5) = ((38 : Nat) : Int) := ⟨by decide +kernel, rfl, rfl⟩
theorem dX1_position_36 : decode cX1_position 36 = .ok (.iload_n 3, 1) ∧ 36 + 1 = 37 := ⟨by decide +kernel, rfl⟩
theorem dX1_position_37 : decode cX1_position 37 = .ok (.ireturn, 1) ∧ 37 + 1 = 38 := ⟨by decide +kernel, rfl⟩
theorem dX1_position_38 : decode cX1_position 38 = .ok (.iinc 3 1, 3) ∧ 38 + 3 = 41 := ⟨by decide +kernel, rfl⟩
theorem dX1_position_41 : decode cX1_position 41 = .ok (.iinc 4 1, 3) ∧ 41 + 3 = 44 := ⟨by decide +kernel, rfl⟩
theorem dX1_position_44 : decode cX1_position 44 = .ok (.goto (-39), 3) ∧ 44 + 3 = 47 ∧ ((44 : Nat) : Int) + (-39) = ((5 : Nat) : Int) := ⟨by decide +kernel, rfl, rfl⟩
theorem dX1_position_47 : decode cX1_position 47 = .ok (.iconst (-1), 1) ∧ 47 + 1 = 48 := ⟨by decide +kernel, rfl⟩
theorem dX1_position_48 : decode cX1_position 48 = .ok (.ireturn, 1) ∧ 48 + 1 = 49 := ⟨by decide +kernel, rfl⟩
theorem dX1_shiftChild_0 : decode cX1_shiftChild 0 = .ok (.iload_n 3, 1) ∧ 0 + 1 = 1 := ⟨by decide +kernel, rfl⟩
theorem dX1_shiftChild_1 : decode cX1_shiftChild 1 = .ok (.ifCond .ge 7, 3) ∧ 1 + 3 = 4 ∧ ((1 : Nat) : Int) + (7) = ((8 : Nat) : Int) := ⟨by decide +kernel, rfl, rfl⟩
theorem dX1_shiftChild_4 : decode cX1_shiftChild 4 = .ok (.iconst (-1), 1) ∧ 4 + 1 = 5 := ⟨by decide +kernel, rfl⟩
theorem dX1_shiftChild_5 : decode cX1_shiftChild 5 = .ok (.goto 4, 3) ∧ 5 + 3 = 8 ∧ ((5 : Nat) : Int) + (4) = ((9 : Nat) : Int) := ⟨by decide +kernel, rfl, rfl⟩
theorem dX1_shiftChild_8 : decode cX1_shiftChild 8 = .ok (.iconst 1, 1) ∧ 8 + 1 = 9 := ⟨by decide +kernel, rfl⟩
theorem dX1_shiftChild_9 : decode cX1_shiftChild 9 = .ok (.istore 4, 2) ∧ 9 + 2 = 11 := ⟨by decide +kernel, rfl⟩
theorem dX1_shiftChild_11 : decode cX1_shiftChild 11 = .ok (.iload_n 3, 1) ∧ 11 + 1 = 12 := ⟨by decide +kernel, rfl⟩
theorem dX1_shiftChild_12 : decode cX1_shiftChild 12 = .ok (.invokestatic 36, 3) ∧ 12 + 3 = 15 := ⟨by decide +kernel, rfl⟩
theorem dX1_shiftChild_15 : decode cX1_shiftChild 15 = .ok (.istore 5, 2) ∧ 15 + 2 = 17 := ⟨by decide +kernel, rfl⟩
theorem dX1_shiftChild_17 : decode cX1_shiftChild 17 = .ok (.aload_n 0, 1) ∧ 17 + 1 = 18 := ⟨by decide +kernel, rfl⟩
theorem dX1_shiftChild_18 : decode cX1_shiftChild 18 = .ok (.iload_n 1, 1) ∧ 18 + 1 = 19 := ⟨by decide +kernel, rfl⟩
theorem dX1_shiftChild_19 : decode cX1_shiftChild 19 = .ok (.iload_n 2, 1) ∧ 19 + 1 = 20 := ⟨by decide +kernel, rfl⟩
theorem dX1_shiftChild_20 : decode cX1_shiftChild 20 = .ok (.invokevirtual 28, 3) ∧ 20 + 3 = 23 := ⟨by decide +kernel, rfl⟩
theorem dX1_shiftChild_23 : decode cX1_shiftChild 23 = .ok (.istore 6, 2) ∧ 23 + 2 = 25 := ⟨by decide +kernel, rfl⟩
theorem dX1_shiftChild_25 : decode cX1_shiftChild 25 = .ok (.iload 6, 2) ∧ 25 + 2 = 27 := ⟨by decide +kernel, rfl⟩
theorem dX1_shiftChild_27 : decode cX1_shiftChild 27 = .ok (.iconst (-1), 1) ∧ 27 + 1 = 28 := ⟨by decide +kernel, rfl⟩
theorem dX1_shiftChild_28 : decode cX1_shiftChild 28 = .ok (.if_icmp .ne 4, 3) ∧ 28 + 3 = 31 ∧ ((28 : Nat) : Int) + (4) = ((32 : Nat) : Int) := ⟨by decide +kernel, rfl, rfl⟩
theorem dX1_shiftChild_31 : decode cX1_shiftChild 31 = .ok (.return_, 1) ∧ 31 + 1 = 32 := ⟨by decide +kernel, rfl⟩
theorem dX1_shiftChild_32 : decode cX1_shiftChild 32 = .ok (.iload 6, 2) ∧ 32 + 2 = 34 := ⟨by decide +kernel, rfl⟩
theorem dX1_shiftChild_34 : decode cX1_shiftChild 34 = .ok (.iload 4, 2) ∧ 34 + 2 = 36 := ⟨by decide +kernel, rfl⟩
theorem dX1_shiftChild_36 : decode cX1_shiftChild 36 = .ok (.iadd, 1) ∧ 36 + 1 = 37 := ⟨by decide +kernel, rfl⟩
theorem dX1_shiftChild_37 : decode cX1_shiftChild 37 = .ok (.istore 7, 2) ∧ 37 + 2 = 39 := ⟨by decide +kernel, rfl⟩
theorem dX1_shiftChild_39 : decode cX1_shiftChild 39 = .ok (.iload 7, 2) ∧ 39 + 2 = 41 := ⟨by decide +kernel, rfl⟩
theorem dX1_shiftChild_41 : decode cX1_shiftChild 41 = .ok (.ifCond .lt 67, 3) ∧ 41 + 3 = 44 ∧ ((41 : Nat) : Int) + (67) = ((108 : Nat) : Int) := ⟨by decide +kernel, rfl, rfl⟩
theorem dX1_shiftChild_44 : decode cX1_shiftChild 44 = .ok (.iload 7, 2) ∧ 44 + 2 = 46 := ⟨by decide +kernel, rfl⟩
theorem dX1_shiftChild_46 : decode cX1_shiftChild 46 = .ok (.aload_n 0, 1) ∧ 46 + 1 = 47 := ⟨by decide +kernel, rfl⟩
theorem dX1_shiftChild_47 : decode cX1_shiftChild 47 = .ok (.getfield 18, 3) ∧ 47 + 3 = 50 := ⟨by decide +kernel, rfl⟩
theorem dX1_shiftChild_50 : decode cX1_shiftChild 50 = .ok (.if_icmp .ge 58, 3) ∧ 50 + 3 = 53 ∧ ((50 : Nat) : Int) + (58) = ((108 : Nat) : Int) := ⟨by decide +kernel, rfl, rfl⟩
theorem dX1_shiftChild_53 : decode cX1_shiftChild 53 = .ok (.iload 5, 2) ∧ 53 + 2 = 55 := ⟨by decide +kernel, rfl⟩
theorem dX1_shiftChild_55 : decode cX1_shiftChild 55 = .ok (.ifCond .le 53, 3) ∧ 55 + 3 = 58 ∧ ((55 : Nat) : Int) + (53) = ((108 : Nat) : Int) := ⟨by decide +kernel, rfl, rfl⟩
theorem dX1_shiftChild_58 : decode cX1_shiftChild 58 = .ok (.aload_n 0, 1) ∧ 58 + 1 = 59 := ⟨by decide +kernel, rfl⟩
theorem dX1_shiftChild_59 : decode cX1_shiftChild 59 = .ok (.getfield 9, 3) ∧ 59 + 3 = 62 := ⟨by decide +kernel, rfl⟩
theorem dX1_shiftChild_62 : decode cX1_shiftChild 62 = .ok (.iload 7, 2) ∧ 62 + 2 = 64 := ⟨by decide +kernel, rfl⟩
theorem dX1_shiftChild_64 : decode cX1_shiftChild 64 = .ok (.iaload, 1) ∧ 64 + 1 = 65 := ⟨by decide +kernel, rfl⟩
theorem dX1_shiftChild_65 : decode cX1_shiftChild 65 = .ok (.iload_n 1, 1) ∧ 65 + 1 = 66 := ⟨by decide +kernel, rfl⟩
theorem dX1_shiftChild_66 : decode cX1_shiftChild 66 = .ok (.if_icmp .ne 32, 3) ∧ 66 + 3 = 69 ∧ ((66 : Nat) : Int) + (32) = ((98 : Nat) : Int) := ⟨by decide +kernel, rfl, rfl⟩
theorem dX1_shiftChild_69 : decode cX1_shiftChild 69 = .ok (.aload_n 0, 1) ∧ 69 + 1 = 70 := ⟨by decide +kernel, rfl⟩
theorem dX1_shiftChild_70 : decode cX1_shiftChild 70 = .ok (.getfield 15, 3) ∧ 70 + 3 = 73 := ⟨by decide +kernel, rfl⟩
theorem dX1_shiftChild_73 : decode cX1_shiftChild 73 = .ok (.iload 6, 2) ∧ 73 + 2 = 75 := ⟨by decide +kernel, rfl⟩
theorem dX1_shiftChild_75 : decode cX1_shiftChild 75 = .ok (.aload_n 0, 1) ∧ 75 + 1 = 76 := ⟨by decide +kernel, rfl⟩
theorem dX1_shiftChild_76 : decode cX1_shiftChild 76 = .ok (.getfield 15, 3) ∧ 76 + 3 = 79 := ⟨by decide +kernel, rfl⟩
theorem dX1_shiftChild_79 : decode cX1_shiftChild 79 = .ok (.iload 7, 2) ∧ 79 + 2 = 81 := ⟨by decide +kernel, rfl⟩
theorem dX1_shiftChild_81 : decode cX1_shiftChild 81 = .ok (.iaload, 1) ∧ 81 + 1 = 82 := ⟨by decide +kernel, rfl⟩
theorem dX1_shiftChild_82 : decode cX1_shiftChild 82 = .ok (.iastore, 1) ∧ 82 + 1 = 83 := ⟨by decide +kernel, rfl⟩
theorem dX1_shiftChild_83 : decode cX1_shiftChild 83 = .ok (.aload_n 0, 1) ∧ 83 + 1 = 84 := ⟨by decide +kernel, rfl⟩
theorem dX1_shiftChild_84 : decode cX1_shiftChild 84 = .ok (.getfield 15, 3) ∧ 84 + 3 = 87 := ⟨by decide +kernel, rfl⟩
theorem dX1_shiftChild_87 : decode cX1_shiftChild 87 = .ok (.iload 7, 2) ∧ 87 + 2 = 89 := ⟨by decide +kernel, rfl⟩
theorem dX1_shiftChild_89 : decode cX1_shiftChild 89 = .ok (.iload_n 2, 1) ∧ 89 + 1 = 90 := ⟨by decide +kernel, rfl⟩
theorem dX1_shiftChild_90 : decode cX1_shiftChild 90 = .ok (.iastore, 1) ∧ 90 + 1 = 91 := ⟨by decide +kernel, rfl⟩
theorem dX1_shiftChild_91 : decode cX1_shiftChild 91 = .ok (.iload 7, 2) ∧ 91 + 2 = 93 := ⟨by decide +kernel, rfl⟩
theorem dX1_shiftChild_93 : decode cX1_shiftChild 93 = .ok (.istore 6, 2) ∧ 93 + 2 = 95 := ⟨by decide +kernel, rfl⟩
theorem dX1_shiftChild_95 : decode cX1_shiftChild 95 = .ok (.iinc 5 (-1), 3) ∧ 95 + 3 = 98 := ⟨by decide +kernel, rfl⟩
theorem dX1_shiftChild_98 : decode cX1_shiftChild 98 = .ok (.iload 7, 2) ∧ 98 + 2 = 100 := ⟨by decide +kernel, rfl⟩
theorem dX1_shiftChild_100 : decode cX1_shiftChild 100 = .ok (.iload 4, 2) ∧ 100 + 2 = 102 := ⟨by decide +kernel, rfl⟩
theorem dX1_shiftChild_102 : decode cX1_shiftChild 102 = .ok (.iadd, 1) ∧ 102 + 1 = 103 := ⟨by decide +kernel, rfl⟩
theorem dX1_shiftChild_103 : decode cX1_shiftChild 103 = .ok (.istore 7, 2) ∧ 103 + 2 = 105 := ⟨by decide +kernel, rfl⟩
theorem dX1_shiftChild_105 : decode cX1_shiftChild 105 = .ok (.goto (-66), 3) ∧ 105 + 3 = 108 ∧ ((105 : Nat) : Int) + (-66) = ((39 : Nat) : Int) := ⟨by decide +kernel, rfl, rfl⟩
theorem dX1_shiftChild_108 : decode cX1_shiftChild 108 = .ok (.return_, 1) ∧ 108 + 1 = 109 := ⟨by decide +kernel, rfl⟩
theorem dX2_init_0 : decode cX2_init 0 = .ok (.aload_n 0, 1) ∧ 0 + 1 = 1 := ⟨by decide +kernel, rfl⟩
theorem dX2_init_1 : decode cX2_init 1 = .ok (.invokespecial 3, 3) ∧ 1 + 3 = 4 := ⟨by decide +kernel, rfl⟩
theorem dX2_init_4 : decode cX2_init 4 = .ok (.aload_n 0, 1) ∧ 4 + 1 = 5 := ⟨by decide +kernel, rfl⟩
theorem dX2_init_5 : decode cX2_init 5 = .ok (.bipush 41, 2) ∧ 5 + 2 = 7 := ⟨by decide +kernel, rfl⟩
theorem dX2_init_7 : decode cX2_init 7 = .ok (.newarray .int, 2) ∧ 7 + 2 = 9 := ⟨by decide +kernel, rfl⟩
theorem dX2_init_9 : decode cX2_init 9 = .ok (.putfield 9, 3) ∧ 9 + 3 = 12 := ⟨by decide +kernel, rfl⟩
theorem dX2_init_12 : decode cX2_init 12 = .ok (.aload_n 0, 1) ∧ 12 + 1 = 13 := ⟨by decide +kernel, rfl⟩
theorem dX2_init_13 : decode cX2_init 13 = .ok (.bipush 41, 2) ∧ 13 + 2 = 15 := ⟨by decide +kernel, rfl⟩
theorem dX2_init_15 : decode cX2_init 15 = .ok (.newarray .int, 2) ∧ 15 + 2 = 17 := ⟨by decide +kernel, rfl⟩
theorem dX2_init_17 : decode cX2_init 17 = .ok (.putfield 15, 3) ∧ 17 + 3 = 20 := ⟨by decide +kernel, rfl⟩
theorem dX2_init_20 : decode cX2_init 20 = .ok (.aload_n 0, 1) ∧ 20 + 1 = 21 := ⟨by decide +kernel, rfl⟩
theorem dX2_init_21 : decode cX2_init 21 = .ok (.sipush 328, 3) ∧ 21 + 3 = 24 := ⟨by decide +kernel, rfl⟩
theorem dX2_init_24 : decode cX2_init 24 = .ok (.newarray .int, 2) ∧ 24 + 2 = 26 := ⟨by decide +kernel, rfl⟩
theorem dX2_init_26 : decode cX2_init 26 = .ok (.putfield 18, 3) ∧ 26 + 3 = 29 := ⟨by decide +kernel, rfl⟩
theorem dX2_init_29 : decode cX2_init 29 = .ok (.return_, 1) ∧ 29 + 1 = 30 := ⟨by decide +kernel, rfl⟩
theorem dX2_copyFrom_0 : decode cX2_copyFrom 0 = .ok (.aload_n 0, 1) ∧ 0 + 1 = 1 := ⟨by decide +kernel, rfl⟩
theorem dX2_copyFrom_1 : decode cX2_copyFrom 1 = .ok (.aload_n 1, 1) ∧ 1 + 1 = 2 := ⟨by decide +kernel, rfl⟩
theorem dX2_copyFrom_2 : decode cX2_copyFrom 2 = .ok (.getfield 21, 3) ∧ 2 + 3 = 5 := ⟨by decide +kernel, rfl⟩
theorem dX2_copyFrom_5 : decode cX2_copyFrom 5 = .ok (.putfield 21, 3) ∧ 5 + 3 = 8 := ⟨by decide +kernel, rfl⟩
theorem dX2_copyFrom_8 : decode cX2_copyFrom 8 = .ok (.aload_n 1, 1) ∧ 8 + 1 = 9 := ⟨by decide +kernel, rfl⟩
theorem dX2_copyFrom_9 : decode cX2_copyFrom 9 = .ok (.getfield 9, 3) ∧ 9 + 3 = 12 := ⟨by decide +kernel, rfl⟩
theorem dX2_copyFrom_12 : decode cX2_copyFrom 12 = .ok (.iconst 0, 1) ∧ 12 + 1 = 13 := ⟨by decide +kernel, rfl⟩
theorem dX2_copyFrom_13 : decode cX2_copyFrom 13 = .ok (.aload_n 0, 1) ∧ 13 + 1 = 14 := ⟨by decide +kernel, rfl⟩
theorem dX2_copyFrom_14 : decode cX2_copyFrom 14 = .ok (.getfield 9, 3) ∧ 14 + 3 = 17 := ⟨by decide +kernel, rfl⟩
theorem dX2_copyFrom_17 : decode cX2_copyFrom 17 = .ok (.iconst 0, 1) ∧ 17 + 1 = 18 := ⟨by decide +kernel, rfl⟩
theorem dX2_copyFrom_18 : decode cX2_copyFrom 18 = .ok (.bipush 41, 2) ∧ 18 + 2 = 20 := ⟨by decide +kernel, rfl⟩
theorem dX2_copyFrom_20 : decode cX2_copyFrom 20 = .ok (.invokestatic 25, 3) ∧ 20 + 3 = 23 := ⟨by decide +kernel, rfl⟩
theorem dX2_copyFrom_23 : decode cX2_copyFrom 23 = .ok (.aload_n 1, 1) ∧ 23 + 1 = 24 := ⟨by decide +kernel, rfl⟩
theorem dX2_copyFrom_24 : decode cX2_copyFrom 24 = .ok (.getfield 15, 3) ∧ 24 + 3 = 27 := ⟨by decide +kernel, rfl⟩
theorem dX2_copyFrom_27 : decode cX2_copyFrom 27 = .ok (.iconst 0, 1) ∧ 27 + 1 = 28 := ⟨by decide +kernel, rfl⟩
theorem dX2_copyFrom_28 : decode cX2_copyFrom 28 = .ok (.aload_n 0, 1) ∧ 28 + 1 = 29 := ⟨by decide +kernel, rfl⟩
theorem dX2_copyFrom_29 : decode cX2_copyFrom 29 = .ok (.getfield 15, 3) ∧ 29 + 3 = 32 := ⟨by decide +kernel, rfl⟩
theorem dX2_copyFrom_32 : decode cX2_copyFrom 32 = .ok (.iconst 0, 1) ∧ 32 + 1 = 33 := ⟨by decide +kernel, rfl⟩
theorem dX2_copyFrom_33 : decode cX2_copyFrom 33 = .ok (.bipush 41, 2) ∧ 33 + 2 = 35 := ⟨by decide +kernel, rfl⟩
theorem dX2_copyFrom_35 : decode cX2_copyFrom 35 = .ok (.invokestatic 25, 3) ∧ 35 + 3 = 38 := ⟨by decide +kernel, rfl⟩
theorem dX2_copyFrom_38 : decode cX2_copyFrom 38 = .ok (.aload_n 1, 1) ∧ 38 + 1 = 39 := ⟨by decide +kernel, rfl⟩
theorem dX2_copyFrom_39 : decode cX2_copyFrom 39 = .ok (.getfield 18, 3) ∧ 39 + 3 = 42 := ⟨by decide +kernel, rfl⟩
theorem dX2_copyFrom_42 : decode cX2_copyFrom 42 = .ok (.iconst 0, 1) ∧ 42 + 1 = 43 := ⟨by decide +kernel, rfl⟩
theorem dX2_copyFrom_43 : decode cX2_copyFrom 43 = .ok (.aload_n 0, 1) ∧ 43 + 1 = 44 := ⟨by decide +kernel, rfl⟩
theorem dX2_copyFrom_44 : decode cX2_copyFrom 44 = .ok (.getfield 18, 3) ∧ 44 + 3 = 47 := ⟨by decide +kernel, rfl⟩
theorem dX2_copyFrom_47 : decode cX2_copyFrom 47 = .ok (.iconst 0, 1) ∧ 47 + 1 = 48 := ⟨by decide +kernel, rfl⟩
theorem dX2_copyFrom_48 : decode cX2_copyFrom 48 = .ok (.sipush 328, 3) ∧ 48 + 3 = 51 := ⟨by decide +kernel, rfl⟩
theorem dX2_copyFrom_51 : decode cX2_copyFrom 51 = .ok (.invokestatic 25, 3) ∧ 51 + 3 = 54 := ⟨by decide +kernel, rfl⟩
theorem dX2_copyFrom_54 : decode cX2_copyFrom 54 = .ok (.return_, 1) ∧ 54 + 1 = 55 := ⟨by decide +kernel, rfl⟩
theorem dX2_isNumber_0 : decode cX2_isNumber 0 = .ok (.iload_n 0, 1) ∧ 0 + 1 = 1 := ⟨by decide +kernel, rfl⟩
theorem dX2_isNumber_1 : decode cX2_isNumber 1 = .ok (.ifCond .lt 13, 3) ∧ 1 + 3 = 4 ∧ ((1 : Nat) : Int) + (13) = ((14 : Nat) : Int) := ⟨by decide +kernel, rfl, rfl⟩
theorem dX2_isNumber_4 : decode cX2_isNumber 4 = .ok (.iload_n 0, 1) ∧ 4 + 1 = 5 := ⟨by decide +kernel, rfl⟩
theorem dX2_isNumber_5 : decode cX2_isNumber 5 = .ok (.bipush 40, 2) ∧ 5 + 2 = 7 := ⟨by decide +kernel, rfl⟩
theorem dX2_isNumber_7 : decode cX2_isNumber 7 = .ok (.if_icmp .gt 7, 3) ∧ 7 + 3 = 10 ∧ ((7 : Nat) : Int) + (7) = ((14 : Nat) : Int) := ⟨by decide +kernel, rfl, rfl⟩
theorem dX2_isNumber_10 : decode cX2_isNumber 10 = .ok (.iconst 1, 1) ∧ 10 + 1 = 11 := ⟨by decide +kernel, rfl⟩
theorem dX2_isNumber_11 : decode cX2_isNumber 11 = .ok (.goto 4, 3) ∧ 11 + 3 = 14 ∧ ((11 : Nat) : Int) + (4) = ((15 : Nat) : Int) := ⟨by decide +kernel, rfl, rfl⟩
theorem dX2_isNumber_14 : decode cX2_isNumber 14 = .ok (.iconst 0, 1) ∧ 14 + 1 = 15 := ⟨by decide +kernel, rfl⟩
theorem dX2_isNumber_15 : decode cX2_isNumber 15 = .ok (.ireturn, 1) ∧ 15 + 1 = 16 := ⟨by decide +kernel, rfl⟩
theorem dX2_makeNode_0 : decode cX2_makeNode 0 = .ok (.aload_n 0, 1) ∧ 0 + 1 = 1 := ⟨by decide +kernel, rfl⟩
theorem dX2_makeNode_1 : decode cX2_makeNode 1 = .ok (.getfield 21, 3) ∧ 1 + 3 = 4 := ⟨by decide +kernel, rfl⟩
theorem dX2_makeNode_4 : decode cX2_makeNode 4 = .ok (.ifCond .lt 12, 3) ∧ 4 + 3 = 7 ∧ ((4 : Nat) : Int) + (12) = ((16 : Nat) : Int) := ⟨by decide +kernel, rfl, rfl⟩
theorem dX2_makeNode_7 : decode cX2_makeNode 7 = .ok (.aload_n 0, 1) ∧ 7 + 1 = 8 := ⟨by decide +kernel, rfl⟩
theorem dX2_makeNode_8 : decode cX2_makeNode 8 = .ok (.getfield 21, 3) ∧ 8 + 3 = 11 := ⟨by decide +kernel, rfl⟩
theorem dX2_makeNode_11 : decode cX2_makeNode 11 = .ok (.bipush 40, 2) ∧ 11 + 2 = 13 := ⟨by decide +kernel, rfl⟩
theorem dX2_makeNode_13 : decode cX2_makeNode 13 = .ok (.if_icmp .lt 5, 3) ∧ 13 + 3 = 16 ∧ ((13 : Nat) : Int) + (5) = ((18 : Nat) : Int) := ⟨by decide +kernel, rfl, rfl⟩
theorem dX2_makeNode_16 : decode cX2_makeNode 16 = .ok (.iconst 0, 1) ∧ 16 + 1 = 17 := ⟨by decide +kernel, rfl⟩
theorem dX2_makeNode_17 : decode cX2_makeNode 17 = .ok (.ireturn, 1) ∧ 17 + 1 = 18 := ⟨by decide +kernel, rfl⟩
theorem dX2_makeNode_18 : decode cX2_makeNode 18 = .ok (.aload_n 0, 1) ∧ 18 + 1 = 19 := ⟨by decide +kernel, rfl⟩
theorem dX2_makeNode_19 : decode cX2_makeNode 19 = .ok (.dup, 1) ∧ 19 + 1 = 20 := ⟨by decide +kernel, rfl⟩
theorem dX2_makeNode_20 : decode cX2_makeNode 20 = .ok (.getfield 21, 3) ∧ 20 + 3 = 23 := ⟨by decide +kernel, rfl⟩
theorem dX2_makeNode_23 : decode cX2_makeNode 23 = .ok (.iconst 1, 1) ∧ 23 + 1 = 24 := ⟨by decide +kernel, rfl⟩
theorem dX2_makeNode_24 : decode cX2_makeNode 24 = .ok (.iadd, 1) ∧ 24 + 1 = 25 := ⟨by decide +kernel, rfl⟩
theorem dX2_makeNode_25 : decode cX2_makeNode 25 = .ok (.putfield 21, 3) ∧ 25 + 3 = 28 := ⟨by decide +kernel, rfl⟩
theorem dX2_makeNode_28 : decode cX2_makeNode 28 = .ok (.aload_n 0, 1) ∧ 28 + 1 = 29 := ⟨by decide +kernel, rfl⟩
theorem dX2_makeNode_29 : decode cX2_makeNode 29 = .ok (.getfield 9, 3) ∧ 29 + 3 = 32 := ⟨by decide +kernel, rfl⟩
theorem dX2_makeNode_32 : decode cX2_makeNode 32 = .ok (.aload_n 0, 1) ∧ 32 + 1 = 33 := ⟨by decide +kernel, rfl⟩
theorem dX2_makeNode_33 : decode cX2_makeNode 33 = .ok (.getfield 21, 3) ∧ 33 + 3 = 36 := ⟨by decide +kernel, rfl⟩
theorem dX2_makeNode_36 : decode cX2_makeNode 36 = .ok (.iconst 0, 1) ∧ 36 + 1 = 37 := ⟨by decide +kernel, rfl⟩
theorem dX2_makeNode_37 : decode cX2_makeNode 37 = .ok (.iastore, 1) ∧ 37 + 1 = 38 := ⟨by decide +kernel, rfl⟩
theorem dX2_makeNode_38 : decode cX2_makeNode 38 = .ok (.aload_n 0, 1) ∧ 38 + 1 = 39 := ⟨by decide +kernel, rfl⟩
theorem dX2_makeNode_39 : decode cX2_makeNode 39 = .ok (.getfield 15, 3) ∧ 39 + 3 = 42 := ⟨by decide +kernel, rfl⟩
theorem dX2_makeNode_42 : decode cX2_makeNode 42 = .ok (.aload_n 0, 1) ∧ 42 + 1 = 43 := ⟨by decide +kernel, rfl⟩
theorem dX2_makeNode_43 : decode cX2_makeNode 43 = .ok (.getfield 21, 3) ∧ 43 + 3 = 46 := ⟨by decide +kernel, rfl⟩
theorem dX2_makeNode_46 : decode cX2_makeNode 46 = .ok (.iconst 0, 1) ∧ 46 + 1 = 47 := ⟨by decide +kernel, rfl⟩
theorem dX2_makeNode_47 : decode cX2_makeNode 47 = .ok (.iastore, 1) ∧ 47 + 1 = 48 := ⟨by decide +kernel, rfl⟩
theorem dX2_makeNode_48 : decode cX2_makeNode 48 = .ok (.aload_n 0, 1) ∧ 48 + 1 = 49 := ⟨by decide +kernel, rfl⟩
theorem dX2_makeNode_49 : decode cX2_makeNode 49 = .ok (.getfield 21, 3) ∧ 49 + 3 = 52 := ⟨by decide +kernel, rfl⟩
theorem dX2_makeNode_52 : decode cX2_makeNode 52 = .ok (.ireturn, 1) ∧ 52 + 1 = 53 := ⟨by decide +kernel, rfl⟩
theorem dX2_setLetter_0 : decode cX2_setLetter 0 = .ok (.iload_n 1, 1) ∧ 0 + 1 = 1 := ⟨by decide +kernel, rfl⟩
theorem dX2_setLetter_1 : decode cX2_setLetter 1 = .ok (.invokestatic 31, 3) ∧ 1 + 3 = 4 := ⟨by decide +kernel, rfl⟩
theorem dX2_setLetter_4 : decode cX2_setLetter 4 = .ok (.ifCond .eq 20, 3) ∧ 4 + 3 = 7 ∧ ((4 : Nat) : Int) + (20) = ((24 : Nat) : Int) := ⟨by decide +kernel, rfl, rfl⟩
theorem dX2_setLetter_7 : decode cX2_setLetter 7 = .ok (.aload_n 0, 1) ∧ 7 + 1 = 8 := ⟨by decide +kernel, rfl⟩
theorem dX2_setLetter_8 : decode cX2_setLetter 8 = .ok (.getfield 18, 3) ∧ 8 + 3 = 11 := ⟨by decide +kernel, rfl⟩
theorem dX2_setLetter_11 : decode cX2_setLetter 11 = .ok (.iload_n 1, 1) ∧ 11 + 1 = 12 := ⟨by decide +kernel, rfl⟩
theorem dX2_setLetter_12 : decode cX2_setLetter 12 = .ok (.bipush 8, 2) ∧ 12 + 2 = 14 := ⟨by decide +kernel, rfl⟩
theorem dX2_setLetter_14 : decode cX2_setLetter 14 = .ok (.imul, 1) ∧ 14 + 1 = 15 := ⟨by decide +kernel, rfl⟩
theorem dX2_setLetter_15 : decode cX2_setLetter 15 = .ok (.iload_n 2, 1) ∧ 15 + 1 = 16 := ⟨by decide +kernel, rfl⟩
theorem dX2_setLetter_16 : decode cX2_setLetter 16 = .ok (.iastore, 1) ∧ 16 + 1 = 17 := ⟨by decide +kernel, rfl⟩
theorem dX2_setLetter_17 : decode cX2_setLetter 17 = .ok (.aload_n 0, 1) ∧ 17 + 1 = 18 := ⟨by decide +kernel, rfl⟩
theorem dX2_setLetter_18 : decode cX2_setLetter 18 = .ok (.getfield 15, 3) ∧ 18 + 3 = 21 := ⟨by decide +kernel, rfl⟩
theorem dX2_setLetter_21 : decode cX2_setLetter 21 = .ok (.iload_n 1, 1) ∧ 21 + 1 = 22 := ⟨by decide +kernel, rfl⟩
theorem dX2_setLetter_22 : decode cX2_setLetter 22 = .ok (.iconst 1, 1) ∧ 22 + 1 = 23 := ⟨by decide +kernel, rfl⟩
theorem dX2_setLetter_23 : decode cX2_setLetter 23 = .ok (.iastore, 1) ∧ 23 + 1 = 24 := ⟨by decide +kernel, rfl⟩
theorem dX2_setLetter_24 : decode cX2_setLetter 24 = .ok (.return_, 1) ∧ 24 + 1 = 25 := ⟨by decide +kernel, rfl⟩
theorem dX2_setText_0 : decode cX2_setText 0 = .ok (.iload_n 1, 1) ∧ 0 + 1 = 1 := ⟨by decide +kernel, rfl⟩
theorem dX2_setText_1 : decode cX2_setText 1 = .ok (.invokestatic 31, 3) ∧ 1 + 3 = 4 := ⟨by decide +kernel, rfl⟩
theorem dX2_setText_4 : decode cX2_setText 4 = .ok (.ifCond .eq 10, 3) ∧ 4 + 3 = 7 ∧ ((4 : Nat) : Int) + (10) = ((14 : Nat) : Int) := ⟨by decide +kernel, rfl, rfl⟩
theorem dX2_setText_7 : decode cX2_setText 7 = .ok (.aload_n 2, 1) ∧ 7 + 1 = 8 := ⟨by decide +kernel, rfl⟩
theorem dX2_setText_8 : decode cX2_setText 8 = .ok (.invokevirtual 35, 3) ∧ 8 + 3 = 11 := ⟨by decide +kernel, rfl⟩
theorem dX2_setText_11 : decode cX2_setText 11 = .ok (.ifCond .ne 4, 3) ∧ 11 + 3 = 14 ∧ ((11 : Nat) : Int) + (4) = ((15 : Nat) : Int) := ⟨by decide +kernel, rfl, rfl⟩
theorem dX2_setText_14 : decode cX2_setText 14 = .ok (.return_, 1) ∧ 14 + 1 = 15 := ⟨by decide +kernel, rfl⟩
theorem dX2_setText_15 : decode cX2_setText 15 = .ok (.iconst 0, 1) ∧ 15 + 1 = 16 := ⟨by decide +kernel, rfl⟩
theorem dX2_setText_16 : decode cX2_setText 16 = .ok (.istore_n 3, 1) ∧ 16 + 1 = 17 := ⟨by decide +kernel, rfl⟩
theorem dX2_setText_17 : decode cX2_setText 17 = .ok (.iload_n 3, 1) ∧ 17 + 1 = 18 := ⟨by decide +kernel, rfl⟩
theorem dX2_setText_18 : decode cX2_setText 18 = .ok (.aload_n 2, 1) ∧ 18 + 1 = 19 := ⟨by decide +kernel, rfl⟩
theorem dX2_setText_19 : decode cX2_setText 19 = .ok (.getfield 41, 3) ∧ 19 + 3 = 22 := ⟨by decide +kernel, rfl⟩
theorem dX2_setText_22 : decode cX2_setText 22 = .ok (.if_icmp .ge 31, 3) ∧ 22 + 3 = 25 ∧ ((22 : Nat) : Int) + (31) = ((53 : Nat) : Int) := ⟨by decide +kernel, rfl, rfl⟩
theorem dX2_setText_25 : decode cX2_setText 25 = .ok (.iload_n 3, 1) ∧ 25 + 1 = 26 := ⟨by decide +kernel, rfl⟩
theorem dX2_setText_26 : decode cX2_setText 26 = .ok (.bipush 8, 2) ∧ 26 + 2 = 28 := ⟨by decide +kernel, rfl⟩
theorem dX2_setText_28 : decode cX2_setText 28 = .ok (.if_icmp .ge 25, 3) ∧ 28 + 3 = 31 ∧ ((28 : Nat) : Int) + (25) = ((53 : Nat) : Int) := ⟨by decide +kernel, rfl, rfl⟩
theorem dX2_setText_31 : decode cX2_setText 31 = .ok (.aload_n 0, 1) ∧ 31 + 1 = 32 := ⟨by decide +kernel, rfl⟩
theorem dX2_setText_32 : decode cX2_setText 32 = .ok (.getfield 18, 3) ∧ 32 + 3 = 35 := ⟨by decide +kernel, rfl⟩
theorem dX2_setText_35 : decode cX2_setText 35 = .ok (.iload_n 1, 1) ∧ 35 + 1 = 36 := ⟨by decide +kernel, rfl⟩
theorem dX2_setText_36 : decode cX2_setText 36 = .ok (.bipush 8, 2) ∧ 36 + 2 = 38 := ⟨by decide +kernel, rfl⟩
theorem dX2_setText_38 : decode cX2_setText 38 = .ok (.imul, 1) ∧ 38 + 1 = 39 := ⟨by decide +kernel, rfl⟩
theorem dX2_setText_39 : decode cX2_setText 39 = .ok (.iload_n 3, 1) ∧ 39 + 1 = 40 := ⟨by decide +kernel, rfl⟩
theorem dX2_setText_40 : decode cX2_setText 40 = .ok (.iadd, 1) ∧ 40 + 1 = 41 := ⟨by decide +kernel, rfl⟩
theorem dX2_setText_41 : decode cX2_setText 41 = .ok (.aload_n 2, 1) ∧ 41 + 1 = 42 := ⟨by decide +kernel, rfl⟩
theorem dX2_setText_42 : decode cX2_setText 42 = .ok (.iload_n 3, 1) ∧ 42 + 1 = 43 := ⟨by decide +kernel, rfl⟩
theorem dX2_setText_43 : decode cX2_setText 43 = .ok (.invokevirtual 44, 3) ∧ 43 + 3 = 46 := ⟨by decide +kernel, rfl⟩
theorem dX2_setText_46 : decode cX2_setText 46 = .ok (.iastore, 1) ∧ 46 + 1 = 47 := ⟨by decide +kernel, rfl⟩
theorem dX2_setText_47 : decode cX2_setText 47 = .ok (.iinc 3 1, 3) ∧ 47 + 3 = 50 := ⟨by decide +kernel, rfl⟩
theorem dX2_setText_50 : decode cX2_setText 50 = .ok (.goto (-33), 3) ∧ 50 + 3 = 53 ∧ ((50 : Nat) : Int) + (-33) = ((17 : Nat) : Int) := ⟨by decide +kernel, rfl, rfl⟩
theorem dX2_setText_53 : decode cX2_setText 53 = .ok (.aload_n 0, 1) ∧ 53 + 1 = 54 := ⟨by decide +kernel, rfl⟩
theorem dX2_setText_54 : decode cX2_setText 54 = .ok (.getfield 15, 3) ∧ 54 + 3 = 57 := ⟨by decide +kernel, rfl⟩
theorem dX2_setText_57 : decode cX2_setText 57 = .ok (.iload_n 1, 1) ∧ 57 + 1 = 58 := ⟨by decide +kernel, rfl⟩
theorem dX2_setText_58 : decode cX2_setText 58 = .ok (.aload_n 2, 1) ∧ 58 + 1 = 59 := ⟨by decide +kernel, rfl⟩
theorem dX2_setText_59 : decode cX2_setText 59 = .ok (.getfield 41, 3) ∧ 59 + 3 = 62 := ⟨by decide +kernel, rfl⟩
theorem dX2_setText_62 : decode cX2_setText 62 = .ok (.iastore, 1) ∧ 62 + 1 = 63 := ⟨by decide +kernel, rfl⟩
theorem dX2_setText_63 : decode cX2_setText 63 = .ok (.return_, 1) ∧ 63 + 1 = 64 := ⟨by decide +kernel, rfl⟩
theorem dX2_hasText_0 : decode cX2_hasText 0 = .ok (.aload_n 0, 1) ∧ 0 + 1 = 1 := ⟨by decide +kernel, rfl⟩
theorem dX2_hasText_1 : decode cX2_hasText 1 = .ok (.iload_n 1, 1) ∧ 1 + 1 = 2 := ⟨by decide +kernel, rfl⟩
theorem dX2_hasText_2 : decode cX2_hasText 2 = .ok (.invokevirtual 48, 3) ∧ 2 + 3 = 5 := ⟨by decide +kernel, rfl⟩
theorem dX2_hasText_5 : decode cX2_hasText 5 = .ok (.aload_n 2, 1) ∧ 5 + 1 = 6 := ⟨by decide +kernel, rfl⟩
theorem dX2_hasText_6 : decode cX2_hasText 6 = .ok (.getfield 41, 3) ∧ 6 + 3 = 9 := ⟨by decide +kernel, rfl⟩
theorem dX2_hasText_9 : decode cX2_hasText 9 = .ok (.if_icmp .eq 5, 3) ∧ 9 + 3 = 12 ∧ ((9 : Nat) : Int) + (5) = ((14 : Nat) : Int) := ⟨by decide +kernel, rfl, rfl⟩
theorem dX2_hasText_12 : decode cX2_hasText 12 = .ok (.iconst 0, 1) ∧ 12 + 1 = 13 := ⟨by decide +kernel, rfl⟩
theorem dX2_hasText_13 : decode cX2_hasText 13 = .ok (.ireturn, 1) ∧ 13 + 1 = 14 := ⟨by decide +kernel, rfl⟩
theorem dX2_hasText_14 : decode cX2_hasText 14 = .ok (.iconst 0, 1) ∧ 14 + 1 = 15 := ⟨by decide +kernel, rfl⟩
theorem dX2_hasText_15 : decode cX2_hasText 15 = .ok (.istore_n 3, 1) ∧ 15 + 1 = 16 := ⟨by decide +kernel, rfl⟩
theorem dX2_hasText_16 : decode cX2_hasText 16 = .ok (.iload_n 3, 1) ∧ 16 + 1 = 17 := ⟨by decide +kernel, rfl⟩
theorem dX2_hasText_17 : decode cX2_hasText 17 = .ok (.aload_n 2, 1) ∧ 17 + 1 = 18 := ⟨by decide +kernel, rfl⟩
theorem dX2_hasText_18 : decode cX2_hasText 18 = .ok (.getfield 41, 3) ∧ 18 + 3 = 21 := ⟨by decide +kernel, rfl⟩
theorem dX2_hasText_21 : decode cX2_hasText 21 = .ok (.if_icmp .ge 25, 3) ∧ 21 + 3 = 24 ∧ ((21 : Nat) : Int) + (25) = ((46 : Nat) : Int) := ⟨by decide +kernel, rfl, rfl⟩
theorem dX2_hasText_24 : decode cX2_hasText 24 = .ok (.aload_n 0, 1) ∧ 24 + 1 = 25 := ⟨by decide +kernel, rfl⟩
theorem dX2_hasText_25 : decode cX2_hasText 25 = .ok (.iload_n 1, 1) ∧ 25 + 1 = 26 := ⟨by decide +kernel, rfl⟩
theorem dX2_hasText_26 : decode cX2_hasText 26 = .ok (.iload_n 3, 1) ∧ 26 + 1 = 27 := ⟨by decide +kernel, rfl⟩
theorem dX2_hasText_27 : decode cX2_hasText 27 = .ok (.invokevirtual 51, 3) ∧ 27 + 3 = 30 := ⟨by decide +kernel, rfl⟩
theorem dX2_hasText_30 : decode cX2_hasText 30 = .ok (.aload_n 2, 1) ∧ 30 + 1 = 31 := ⟨by decide +kernel, rfl⟩
theorem dX2_hasText_31 : decode cX2_hasText 31 = .ok (.iload_n 3, 1) ∧ 31 + 1 = 32 := ⟨by decide +kernel, rfl⟩
theorem dX2_hasText_32 : decode cX2_hasText 32 = .ok (.invokevirtual 44, 3) ∧ 32 + 3 = 35 := ⟨by decide +kernel, rfl⟩
theorem dX2_hasText_35 : decode cX2_hasText 35 = .ok (.if_icmp .eq 5, 3) ∧ 35 + 3 = 38 ∧ ((35 : Nat) : Int) + (5) = ((40 : Nat) : Int) := ⟨by decide +kernel, rfl, rfl⟩
theorem dX2_hasText_38 : decode cX2_hasText 38 = .ok (.iconst 0, 1) ∧ 38 + 1 = 39 := ⟨by decide +kernel, rfl⟩
theorem dX2_hasText_39 : decode cX2_hasText 39 = .ok (.ireturn, 1) ∧ 39 + 1 = 40 := ⟨by decide +kernel, rfl⟩
theorem dX2_hasText_40 : decode cX2_hasText 40 = .ok (.iinc 3 1, 3) ∧ 40 + 3 = 43 := ⟨by decide +kernel, rfl⟩
theorem dX2_hasText_43 : decode cX2_hasText 43 = .ok (.goto (-27), 3) ∧ 43 + 3 = 46 ∧ ((43 : Nat) : Int) + (-27) = ((16 : Nat) : Int) := ⟨by decide +kernel, rfl, rfl⟩
theorem dX2_hasText_46 : decode cX2_hasText 46 = .ok (.iconst 1, 1) ∧ 46 + 1 = 47 := ⟨by decide +kernel, rfl⟩
theorem dX2_hasText_47 : decode cX2_hasText 47 = .ok (.ireturn, 1) ∧ 47 + 1 = 48 := ⟨by decide +kernel, rfl⟩
theorem dX2_lengthOf_0 : decode cX2_lengthOf 0 = .ok (.iload_n 1, 1) ∧ 0 + 1 = 1 := ⟨by decide +kernel, rfl⟩
theorem dX2_lengthOf_1 : decode cX2_lengthOf 1 = .ok (.invokestatic 31, 3) ∧ 1 + 3 = 4 := ⟨by decide +kernel, rfl⟩
theorem dX2_lengthOf_4 : decode cX2_lengthOf 4 = .ok (.ifCond .eq 12, 3) ∧ 4 + 3 = 7 ∧ ((4 : Nat) : Int) + (12) = ((16 : Nat) : Int) := ⟨by decide +kernel, rfl, rfl⟩
theorem dX2_lengthOf_7 : decode cX2_lengthOf 7 = .ok (.aload_n 0, 1) ∧ 7 + 1 = 8 := ⟨by decide +kernel, rfl⟩
theorem dX2_lengthOf_8 : decode cX2_lengthOf 8 = .ok (.getfield 15, 3) ∧ 8 + 3 = 11 := ⟨by decide +kernel, rfl⟩
theorem dX2_lengthOf_11 : decode cX2_lengthOf 11 = .ok (.iload_n 1, 1) ∧ 11 + 1 = 12 := ⟨by decide +kernel, rfl⟩
theorem dX2_lengthOf_12 : decode cX2_lengthOf 12 = .ok (.iaload, 1) ∧ 12 + 1 = 13 := ⟨by decide +kernel, rfl⟩
theorem dX2_lengthOf_13 : decode cX2_lengthOf 13 = .ok (.goto 4, 3) ∧ 13 + 3 = 16 ∧ ((13 : Nat) : Int) + (4) = ((17 : Nat) : Int) := ⟨by decide +kernel, rfl, rfl⟩
theorem dX2_lengthOf_16 : decode cX2_lengthOf 16 = .ok (.iconst 0, 1) ∧ 16 + 1 = 17 := ⟨by decide +kernel, rfl⟩
theorem dX2_lengthOf_17 : decode cX2_lengthOf 17 = .ok (.ireturn, 1) ∧ 17 + 1 = 18 := ⟨by decide +kernel, rfl⟩
theorem dX2_codeAt_0 : decode cX2_codeAt 0 = .ok (.iload_n 1, 1) ∧ 0 + 1 = 1 := ⟨by decide +kernel, rfl⟩
theorem dX2_codeAt_1 : decode cX2_codeAt 1 = .ok (.invokestatic 31, 3) ∧ 1 + 3 = 4 := ⟨by decide +kernel, rfl⟩
theorem dX2_codeAt_4 : decode cX2_codeAt 4 = .ok (.ifCond .eq 17, 3) ∧ 4 + 3 = 7 ∧ ((4 : Nat) : Int) + (17) = ((21 : Nat) : Int) := ⟨by decide +kernel, rfl, rfl⟩
theorem dX2_codeAt_7 : decode cX2_codeAt 7 = .ok (.iload_n 2, 1) ∧ 7 + 1 = 8 := ⟨by decide +kernel, rfl⟩
theorem dX2_codeAt_8 : decode cX2_codeAt 8 = .ok (.ifCond .lt 13, 3) ∧ 8 + 3 = 11 ∧ ((8 : Nat) : Int) + (13) = ((21 : Nat) : Int) := ⟨by decide +kernel, rfl, rfl⟩
theorem dX2_codeAt_11 : decode cX2_codeAt 11 = .ok (.iload_n 2, 1) ∧ 11 + 1 = 12 := ⟨by decide +kernel, rfl⟩
theorem dX2_codeAt_12 : decode cX2_codeAt 12 = .ok (.bipush 8, 2) ∧ 12 + 2 = 14 := ⟨by decide +kernel, rfl⟩
theorem dX2_codeAt_14 : decode cX2_codeAt 14 = .ok (.if_icmp .ge 7, 3) ∧ 14 + 3 = 17 ∧ ((14 : Nat) : Int) + (7) = ((21 : Nat) : Int) := ⟨by decide +kernel, rfl, rfl⟩
theorem dX2_codeAt_17 : decode cX2_codeAt 17 = .ok (.iconst 1, 1) ∧ 17 + 1 = 18 := ⟨by decide +kernel, rfl⟩
theorem dX2_codeAt_18 : decode cX2_codeAt 18 = .ok (.goto 4, 3) ∧ 18 + 3 = 21 ∧ ((18 : Nat) : Int) + (4) = ((22 : Nat) : Int) := ⟨by decide +kernel, rfl, rfl⟩
theorem dX2_codeAt_21 : decode cX2_codeAt 21 = .ok (.iconst 0, 1) ∧ 21 + 1 = 22 := ⟨by decide +kernel, rfl⟩
theorem dX2_codeAt_22 : decode cX2_codeAt 22 = .ok (.istore_n 3, 1) ∧ 22 + 1 = 23 := ⟨by decide +kernel, rfl⟩
theorem dX2_codeAt_23 : decode cX2_codeAt 23 = .ok (.iload_n 3, 1) ∧ 23 + 1 = 24 := ⟨by decide +kernel, rfl⟩
theorem dX2_codeAt_24 : decode cX2_codeAt 24 = .ok (.ifCond .eq 17, 3) ∧ 24 + 3 = 27 ∧ ((24 : Nat) : Int) + (17) = ((41 : Nat) : Int) := ⟨by decide +kernel, rfl, rfl⟩
theorem dX2_codeAt_27 : decode cX2_codeAt 27 = .ok (.aload_n 0, 1) ∧ 27 + 1 = 28 := ⟨by decide +kernel, rfl⟩
theorem dX2_codeAt_28 : decode cX2_codeAt 28 = .ok (.getfield 18, 3) ∧ 28 + 3 = 31 := ⟨by decide +kernel, rfl⟩
theorem dX2_codeAt_31 : decode cX2_codeAt 31 = .ok (.iload_n 1, 1) ∧ 31 + 1 = 32 := ⟨by decide +kernel, rfl⟩
theorem dX2_codeAt_32 : decode cX2_codeAt 32 = .ok (.bipush 8, 2) ∧ 32 + 2 = 34 := ⟨by decide +kernel, rfl⟩
theorem dX2_codeAt_34 : decode cX2_codeAt 34 = .ok (.imul, 1) ∧ 34 + 1 = 35 := ⟨by decide +kernel, rfl⟩
theorem dX2_codeAt_35 : decode cX2_codeAt 35 = .ok (.iload_n 2, 1) ∧ 35 + 1 = 36 := ⟨by decide +kernel, rfl⟩
theorem dX2_codeAt_36 : decode cX2_codeAt 36 = .ok (.iadd, 1) ∧ 36 + 1 = 37 := ⟨by decide +kernel, rfl⟩
theorem dX2_codeAt_37 : decode cX2_codeAt 37 = .ok (.iaload, 1) ∧ 37 + 1 = 38 := ⟨by decide +kernel, rfl⟩
theorem dX2_codeAt_38 : decode cX2_codeAt 38 = .ok (.goto 4, 3) ∧ 38 + 3 = 41 ∧ ((38 : Nat) : Int) + (4) = ((42 : Nat) : Int) := ⟨by decide +kernel, rfl, rfl⟩
theorem dX2_codeAt_41 : decode cX2_codeAt 41 = .ok (.iconst (-1), 1) ∧ 41 + 1 = 42 := ⟨by decide +kernel, rfl⟩
theorem dX2_codeAt_42 : decode cX2_codeAt 42 = .ok (.ireturn, 1) ∧ 42 + 1 = 43 := ⟨by decide +kernel, rfl⟩
theorem dX2_marksOf_0 : decode cX2_marksOf 0 = .ok (.iload_n 1, 1) ∧ 0 + 1 = 1 := ⟨by decide +kernel, rfl⟩
theorem dX2_marksOf_1 : decode cX2_marksOf 1 = .ok (.invokestatic 31, 3) ∧ 1 + 3 = 4 := ⟨by decide +kernel, rfl⟩
theorem dX2_marksOf_4 : decode cX2_marksOf 4 = .ok (.ifCond .eq 12, 3) ∧ 4 + 3 = 7 ∧ ((4 : Nat) : Int) + (12) = ((16 : Nat) : Int) := ⟨by decide +kernel, rfl, rfl⟩
theorem dX2_marksOf_7 : decode cX2_marksOf 7 = .ok (.aload_n 0, 1) ∧ 7 + 1 = 8 := ⟨by decide +kernel, rfl⟩
theorem dX2_marksOf_8 : decode cX2_marksOf 8 = .ok (.getfield 9, 3) ∧ 8 + 3 = 11 := ⟨by decide +kernel, rfl⟩
theorem dX2_marksOf_11 : decode cX2_marksOf 11 = .ok (.iload_n 1, 1) ∧ 11 + 1 = 12 := ⟨by decide +kernel, rfl⟩
theorem dX2_marksOf_12 : decode cX2_marksOf 12 = .ok (.iaload, 1) ∧ 12 + 1 = 13 := ⟨by decide +kernel, rfl⟩
theorem dX2_marksOf_13 : decode cX2_marksOf 13 = .ok (.goto 4, 3) ∧ 13 + 3 = 16 ∧ ((13 : Nat) : Int) + (4) = ((17 : Nat) : Int) := ⟨by decide +kernel, rfl, rfl⟩
theorem dX2_marksOf_16 : decode cX2_marksOf 16 = .ok (.iconst 0, 1) ∧ 16 + 1 = 17 := ⟨by decide +kernel, rfl⟩
theorem dX2_marksOf_17 : decode cX2_marksOf 17 = .ok (.ireturn, 1) ∧ 17 + 1 = 18 := ⟨by decide +kernel, rfl⟩
theorem dX2_toggleMark_0 : decode cX2_toggleMark 0 = .ok (.iload_n 1, 1) ∧ 0 + 1 = 1 := ⟨by decide +kernel, rfl⟩
theorem dX2_toggleMark_1 : decode cX2_toggleMark 1 = .ok (.invokestatic 31, 3) ∧ 1 + 3 = 4 := ⟨by decide +kernel, rfl⟩
theorem dX2_toggleMark_4 : decode cX2_toggleMark 4 = .ok (.ifCond .eq 22, 3) ∧ 4 + 3 = 7 ∧ ((4 : Nat) : Int) + (22) = ((26 : Nat) : Int) := ⟨by decide +kernel, rfl, rfl⟩
theorem dX2_toggleMark_7 : decode cX2_toggleMark 7 = .ok (.iload_n 2, 1) ∧ 7 + 1 = 8 := ⟨by decide +kernel, rfl⟩
theorem dX2_toggleMark_8 : decode cX2_toggleMark 8 = .ok (.invokestatic 54, 3) ∧ 8 + 3 = 11 := ⟨by decide +kernel, rfl⟩
theorem dX2_toggleMark_11 : decode cX2_toggleMark 11 = .ok (.ifCond .eq 15, 3) ∧ 11 + 3 = 14 ∧ ((11 : Nat) : Int) + (15) = ((26 : Nat) : Int) := ⟨by decide +kernel, rfl, rfl⟩
theorem dX2_toggleMark_14 : decode cX2_toggleMark 14 = .ok (.aload_n 0, 1) ∧ 14 + 1 = 15 := ⟨by decide +kernel, rfl⟩
theorem dX2_toggleMark_15 : decode cX2_toggleMark 15 = .ok (.getfield 9, 3) ∧ 15 + 3 = 18 := ⟨by decide +kernel, rfl⟩
theorem dX2_toggleMark_18 : decode cX2_toggleMark 18 = .ok (.iload_n 1, 1) ∧ 18 + 1 = 19 := ⟨by decide +kernel, rfl⟩
theorem dX2_toggleMark_19 : decode cX2_toggleMark 19 = .ok (.dup2, 1) ∧ 19 + 1 = 20 := ⟨by decide +kernel, rfl⟩
theorem dX2_toggleMark_20 : decode cX2_toggleMark 20 = .ok (.iaload, 1) ∧ 20 + 1 = 21 := ⟨by decide +kernel, rfl⟩
theorem dX2_toggleMark_21 : decode cX2_toggleMark 21 = .ok (.iconst 1, 1) ∧ 21 + 1 = 22 := ⟨by decide +kernel, rfl⟩
theorem dX2_toggleMark_22 : decode cX2_toggleMark 22 = .ok (.iload_n 2, 1) ∧ 22 + 1 = 23 := ⟨by decide +kernel, rfl⟩
theorem dX2_toggleMark_23 : decode cX2_toggleMark 23 = .ok (.ishl, 1) ∧ 23 + 1 = 24 := ⟨by decide +kernel, rfl⟩
theorem dX2_toggleMark_24 : decode cX2_toggleMark 24 = .ok (.ixor, 1) ∧ 24 + 1 = 25 := ⟨by decide +kernel, rfl⟩
theorem dX2_toggleMark_25 : decode cX2_toggleMark 25 = .ok (.iastore, 1) ∧ 25 + 1 = 26 := ⟨by decide +kernel, rfl⟩
theorem dX2_toggleMark_26 : decode cX2_toggleMark 26 = .ok (.return_, 1) ∧ 26 + 1 = 27 := ⟨by decide +kernel, rfl⟩
theorem dX3_init_0 : decode cX3_init 0 = .ok (.aload_n 0, 1) ∧ 0 + 1 = 1 := ⟨by decide +kernel, rfl⟩
theorem dX3_init_1 : decode cX3_init 1 = .ok (.invokespecial 3, 3) ∧ 1 + 3 = 4 := ⟨by decide +kernel, rfl⟩
theorem dX3_init_4 : decode cX3_init 4 = .ok (.aload_n 0, 1) ∧ 4 + 1 = 5 := ⟨by decide +kernel, rfl⟩
theorem dX3_init_5 : decode cX3_init 5 = .ok (.bipush 120, 2) ∧ 5 + 2 = 7 := ⟨by decide +kernel, rfl⟩
theorem dX3_init_7 : decode cX3_init 7 = .ok (.newarray .int, 2) ∧ 7 + 2 = 9 := ⟨by decide +kernel, rfl⟩
theorem dX3_init_9 : decode cX3_init 9 = .ok (.putfield 9, 3) ∧ 9 + 3 = 12 := ⟨by decide +kernel, rfl⟩
theorem dX3_init_12 : decode cX3_init 12 = .ok (.aload_n 0, 1) ∧ 12 + 1 = 13 := ⟨by decide +kernel, rfl⟩
theorem dX3_init_13 : decode cX3_init 13 = .ok (.bipush 120, 2) ∧ 13 + 2 = 15 := ⟨by decide +kernel, rfl⟩
theorem dX3_init_15 : decode cX3_init 15 = .ok (.newarray .int, 2) ∧ 15 + 2 = 17 := ⟨by decide +kernel, rfl⟩
theorem dX3_init_17 : decode cX3_init 17 = .ok (.putfield 15, 3) ∧ 17 + 3 = 20 := ⟨by decide +kernel, rfl⟩
theorem dX3_init_20 : decode cX3_init 20 = .ok (.aload_n 0, 1) ∧ 20 + 1 = 21 := ⟨by decide +kernel, rfl⟩
theorem dX3_init_21 : decode cX3_init 21 = .ok (.bipush 120, 2) ∧ 21 + 2 = 23 := ⟨by decide +kernel, rfl⟩
theorem dX3_init_23 : decode cX3_init 23 = .ok (.newarray .int, 2) ∧ 23 + 2 = 25 := ⟨by decide +kernel, rfl⟩
theorem dX3_init_25 : decode cX3_init 25 = .ok (.putfield 18, 3) ∧ 25 + 3 = 28 := ⟨by decide +kernel, rfl⟩
theorem dX3_init_28 : decode cX3_init 28 = .ok (.return_, 1) ∧ 28 + 1 = 29 := ⟨by decide +kernel, rfl⟩
theorem dX3_copyFrom_0 : decode cX3_copyFrom 0 = .ok (.aload_n 0, 1) ∧ 0 + 1 = 1 := ⟨by decide +kernel, rfl⟩
theorem dX3_copyFrom_1 : decode cX3_copyFrom 1 = .ok (.aload_n 1, 1) ∧ 1 + 1 = 2 := ⟨by decide +kernel, rfl⟩
theorem dX3_copyFrom_2 : decode cX3_copyFrom 2 = .ok (.getfield 21, 3) ∧ 2 + 3 = 5 := ⟨by decide +kernel, rfl⟩
theorem dX3_copyFrom_5 : decode cX3_copyFrom 5 = .ok (.putfield 21, 3) ∧ 5 + 3 = 8 := ⟨by decide +kernel, rfl⟩
theorem dX3_copyFrom_8 : decode cX3_copyFrom 8 = .ok (.aload_n 1, 1) ∧ 8 + 1 = 9 := ⟨by decide +kernel, rfl⟩
theorem dX3_copyFrom_9 : decode cX3_copyFrom 9 = .ok (.getfield 9, 3) ∧ 9 + 3 = 12 := ⟨by decide +kernel, rfl⟩
theorem dX3_copyFrom_12 : decode cX3_copyFrom 12 = .ok (.iconst 0, 1) ∧ 12 + 1 = 13 := ⟨by decide +kernel, rfl⟩
theorem dX3_copyFrom_13 : decode cX3_copyFrom 13 = .ok (.aload_n 0, 1) ∧ 13 + 1 = 14 := ⟨by decide +kernel, rfl⟩
theorem dX3_copyFrom_14 : decode cX3_copyFrom 14 = .ok (.getfield 9, 3) ∧ 14 + 3 = 17 := ⟨by decide +kernel, rfl⟩
theorem dX3_copyFrom_17 : decode cX3_copyFrom 17 = .ok (.iconst 0, 1) ∧ 17 + 1 = 18 := ⟨by decide +kernel, rfl⟩
theorem dX3_copyFrom_18 : decode cX3_copyFrom 18 = .ok (.bipush 120, 2) ∧ 18 + 2 = 20 := ⟨by decide +kernel, rfl⟩
theorem dX3_copyFrom_20 : decode cX3_copyFrom 20 = .ok (.invokestatic 25, 3) ∧ 20 + 3 = 23 := ⟨by decide +kernel, rfl⟩
theorem dX3_copyFrom_23 : decode cX3_copyFrom 23 = .ok (.aload_n 1, 1) ∧ 23 + 1 = 24 := ⟨by decide +kernel, rfl⟩
theorem dX3_copyFrom_24 : decode cX3_copyFrom 24 = .ok (.getfield 15, 3) ∧ 24 + 3 = 27 := ⟨by decide +kernel, rfl⟩
theorem dX3_copyFrom_27 : decode cX3_copyFrom 27 = .ok (.iconst 0, 1) ∧ 27 + 1 = 28 := ⟨by decide +kernel, rfl⟩
theorem dX3_copyFrom_28 : decode cX3_copyFrom 28 = .ok (.aload_n 0, 1) ∧ 28 + 1 = 29 := ⟨by decide +kernel, rfl⟩
theorem dX3_copyFrom_29 : decode cX3_copyFrom 29 = .ok (.getfield 15, 3) ∧ 29 + 3 = 32 := ⟨by decide +kernel, rfl⟩
theorem dX3_copyFrom_32 : decode cX3_copyFrom 32 = .ok (.iconst 0, 1) ∧ 32 + 1 = 33 := ⟨by decide +kernel, rfl⟩
theorem dX3_copyFrom_33 : decode cX3_copyFrom 33 = .ok (.bipush 120, 2) ∧ 33 + 2 = 35 := ⟨by decide +kernel, rfl⟩
theorem dX3_copyFrom_35 : decode cX3_copyFrom 35 = .ok (.invokestatic 25, 3) ∧ 35 + 3 = 38 := ⟨by decide +kernel, rfl⟩
theorem dX3_copyFrom_38 : decode cX3_copyFrom 38 = .ok (.aload_n 1, 1) ∧ 38 + 1 = 39 := ⟨by decide +kernel, rfl⟩
theorem dX3_copyFrom_39 : decode cX3_copyFrom 39 = .ok (.getfield 18, 3) ∧ 39 + 3 = 42 := ⟨by decide +kernel, rfl⟩
theorem dX3_copyFrom_42 : decode cX3_copyFrom 42 = .ok (.iconst 0, 1) ∧ 42 + 1 = 43 := ⟨by decide +kernel, rfl⟩
theorem dX3_copyFrom_43 : decode cX3_copyFrom 43 = .ok (.aload_n 0, 1) ∧ 43 + 1 = 44 := ⟨by decide +kernel, rfl⟩
theorem dX3_copyFrom_44 : decode cX3_copyFrom 44 = .ok (.getfield 18, 3) ∧ 44 + 3 = 47 := ⟨by decide +kernel, rfl⟩
theorem dX3_copyFrom_47 : decode cX3_copyFrom 47 = .ok (.iconst 0, 1) ∧ 47 + 1 = 48 := ⟨by decide +kernel, rfl⟩
theorem dX3_copyFrom_48 : decode cX3_copyFrom 48 = .ok (.bipush 120, 2) ∧ 48 + 2 = 50 := ⟨by decide +kernel, rfl⟩
theorem dX3_copyFrom_50 : decode cX3_copyFrom 50 = .ok (.invokestatic 25, 3) ∧ 50 + 3 = 53 := ⟨by decide +kernel, rfl⟩
theorem dX3_copyFrom_53 : decode cX3_copyFrom 53 = .ok (.return_, 1) ∧ 53 + 1 = 54 := ⟨by decide +kernel, rfl⟩
theorem dX3_append_0 : decode cX3_append 0 = .ok (.aload_n 0, 1) ∧ 0 + 1 = 1 := ⟨by decide +kernel, rfl⟩
theorem dX3_append_1 : decode cX3_append 1 = .ok (.getfield 21, 3) ∧ 1 + 3 = 4 := ⟨by decide +kernel, rfl⟩
theorem dX3_append_4 : decode cX3_append 4 = .ok (.ifCond .lt 18, 3) ∧ 4 + 3 = 7 ∧ ((4 : Nat) : Int) + (18) = ((22 : Nat) : Int) := ⟨by decide +kernel, rfl, rfl⟩
theorem dX3_append_7 : decode cX3_append 7 = .ok (.aload_n 0, 1) ∧ 7 + 1 = 8 := ⟨by decide +kernel, rfl⟩
theorem dX3_append_8 : decode cX3_append 8 = .ok (.getfield 21, 3) ∧ 8 + 3 = 11 := ⟨by decide +kernel, rfl⟩
theorem dX3_append_11 : decode cX3_append 11 = .ok (.bipush 120, 2) ∧ 11 + 2 = 13 := ⟨by decide +kernel, rfl⟩
theorem dX3_append_13 : decode cX3_append 13 = .ok (.if_icmp .ge 9, 3) ∧ 13 + 3 = 16 ∧ ((13 : Nat) : Int) + (9) = ((22 : Nat) : Int) := ⟨by decide +kernel, rfl, rfl⟩
theorem dX3_append_16 : decode cX3_append 16 = .ok (.iload_n 2, 1) ∧ 16 + 1 = 17 := ⟨by decide +kernel, rfl⟩
theorem dX3_append_17 : decode cX3_append 17 = .ok (.bipush 40, 2) ∧ 17 + 2 = 19 := ⟨by decide +kernel, rfl⟩
theorem dX3_append_19 : decode cX3_append 19 = .ok (.if_icmp .le 6, 3) ∧ 19 + 3 = 22 ∧ ((19 : Nat) : Int) + (6) = ((25 : Nat) : Int) := ⟨by decide +kernel, rfl, rfl⟩
theorem dX3_append_22 : decode cX3_append 22 = .ok (.bipush (-2), 2) ∧ 22 + 2 = 24 := ⟨by decide +kernel, rfl⟩
theorem dX3_append_24 : decode cX3_append 24 = .ok (.ireturn, 1) ∧ 24 + 1 = 25 := ⟨by decide +kernel, rfl⟩
theorem dX3_append_25 : decode cX3_append 25 = .ok (.aload_n 0, 1) ∧ 25 + 1 = 26 := ⟨by decide +kernel, rfl⟩
theorem dX3_append_26 : decode cX3_append 26 = .ok (.getfield 9, 3) ∧ 26 + 3 = 29 := ⟨by decide +kernel, rfl⟩
theorem dX3_append_29 : decode cX3_append 29 = .ok (.aload_n 0, 1) ∧ 29 + 1 = 30 := ⟨by decide +kernel, rfl⟩
theorem dX3_append_30 : decode cX3_append 30 = .ok (.getfield 21, 3) ∧ 30 + 3 = 33 := ⟨by decide +kernel, rfl⟩
theorem dX3_append_33 : decode cX3_append 33 = .ok (.iload_n 1, 1) ∧ 33 + 1 = 34 := ⟨by decide +kernel, rfl⟩
theorem dX3_append_34 : decode cX3_append 34 = .ok (.iastore, 1) ∧ 34 + 1 = 35 := ⟨by decide +kernel, rfl⟩
theorem dX3_append_35 : decode cX3_append 35 = .ok (.aload_n 0, 1) ∧ 35 + 1 = 36 := ⟨by decide +kernel, rfl⟩
theorem dX3_append_36 : decode cX3_append 36 = .ok (.getfield 15, 3) ∧ 36 + 3 = 39 := ⟨by decide +kernel, rfl⟩
theorem dX3_append_39 : decode cX3_append 39 = .ok (.aload_n 0, 1) ∧ 39 + 1 = 40 := ⟨by decide +kernel, rfl⟩
theorem dX3_append_40 : decode cX3_append 40 = .ok (.getfield 21, 3) ∧ 40 + 3 = 43 := ⟨by decide +kernel, rfl⟩
theorem dX3_append_43 : decode cX3_append 43 = .ok (.iload_n 2, 1) ∧ 43 + 1 = 44 := ⟨by decide +kernel, rfl⟩
theorem dX3_append_44 : decode cX3_append 44 = .ok (.iastore, 1) ∧ 44 + 1 = 45 := ⟨by decide +kernel, rfl⟩
theorem dX3_append_45 : decode cX3_append 45 = .ok (.aload_n 0, 1) ∧ 45 + 1 = 46 := ⟨by decide +kernel, rfl⟩
theorem dX3_append_46 : decode cX3_append 46 = .ok (.getfield 18, 3) ∧ 46 + 3 = 49 := ⟨by decide +kernel, rfl⟩
theorem dX3_append_49 : decode cX3_append 49 = .ok (.aload_n 0, 1) ∧ 49 + 1 = 50 := ⟨by decide +kernel, rfl⟩
theorem dX3_append_50 : decode cX3_append 50 = .ok (.getfield 21, 3) ∧ 50 + 3 = 53 := ⟨by decide +kernel, rfl⟩
theorem dX3_append_53 : decode cX3_append 53 = .ok (.iload_n 3, 1) ∧ 53 + 1 = 54 := ⟨by decide +kernel, rfl⟩
theorem dX3_append_54 : decode cX3_append 54 = .ok (.iastore, 1) ∧ 54 + 1 = 55 := ⟨by decide +kernel, rfl⟩
theorem dX3_append_55 : decode cX3_append 55 = .ok (.aload_n 0, 1) ∧ 55 + 1 = 56 := ⟨by decide +kernel, rfl⟩
theorem dX3_append_56 : decode cX3_append 56 = .ok (.dup, 1) ∧ 56 + 1 = 57 := ⟨by decide +kernel, rfl⟩
theorem dX3_append_57 : decode cX3_append 57 = .ok (.getfield 21, 3) ∧ 57 + 3 = 60 := ⟨by decide +kernel, rfl⟩
theorem dX3_append_60 : decode cX3_append 60 = .ok (.iconst 1, 1) ∧ 60 + 1 = 61 := ⟨by decide +kernel, rfl⟩
theorem dX3_append_61 : decode cX3_append 61 = .ok (.iadd, 1) ∧ 61 + 1 = 62 := ⟨by decide +kernel, rfl⟩
theorem dX3_append_62 : decode cX3_append 62 = .ok (.putfield 21, 3) ∧ 62 + 3 = 65 := ⟨by decide +kernel, rfl⟩
theorem dX3_append_65 : decode cX3_append 65 = .ok (.aload_n 0, 1) ∧ 65 + 1 = 66 := ⟨by decide +kernel, rfl⟩
theorem dX3_append_66 : decode cX3_append 66 = .ok (.getfield 21, 3) ∧ 66 + 3 = 69 := ⟨by decide +kernel, rfl⟩
theorem dX3_append_69 : decode cX3_append 69 = .ok (.iconst 1, 1) ∧ 69 + 1 = 70 := ⟨by decide +kernel, rfl⟩
theorem dX3_append_70 : decode cX3_append 70 = .ok (.isub, 1) ∧ 70 + 1 = 71 := ⟨by decide +kernel, rfl⟩
theorem dX3_append_71 : decode cX3_append 71 = .ok (.ireturn, 1) ∧ 71 + 1 = 72 := ⟨by decide +kernel, rfl⟩
theorem dX3_childPlace_0 : decode cX3_childPlace 0 = .ok (.iload_n 1, 1) ∧ 0 + 1 = 1 := ⟨by decide +kernel, rfl⟩
theorem dX3_childPlace_1 : decode cX3_childPlace 1 = .ok (.iconst (-1), 1) ∧ 1 + 1 = 2 := ⟨by decide +kernel, rfl⟩
theorem dX3_childPlace_2 : decode cX3_childPlace 2 = .ok (.if_icmp .ge 6, 3) ∧ 2 + 3 = 5 ∧ ((2 : Nat) : Int) + (6) = ((8 : Nat) : Int) := ⟨by decide +kernel, rfl, rfl⟩
theorem dX3_childPlace_5 : decode cX3_childPlace 5 = .ok (.bipush (-2), 2) ∧ 5 + 2 = 7 := ⟨by decide +kernel, rfl⟩
theorem dX3_childPlace_7 : decode cX3_childPlace 7 = .ok (.ireturn, 1) ∧ 7 + 1 = 8 := ⟨by decide +kernel, rfl⟩
theorem dX3_childPlace_8 : decode cX3_childPlace 8 = .ok (.aload_n 0, 1) ∧ 8 + 1 = 9 := ⟨by decide +kernel, rfl⟩
theorem dX3_childPlace_9 : decode cX3_childPlace 9 = .ok (.iload_n 1, 1) ∧ 9 + 1 = 10 := ⟨by decide +kernel, rfl⟩
theorem dX3_childPlace_10 : decode cX3_childPlace 10 = .ok (.invokevirtual 31, 3) ∧ 10 + 3 = 13 := ⟨by decide +kernel, rfl⟩
theorem dX3_childPlace_13 : decode cX3_childPlace 13 = .ok (.iconst 1, 1) ∧ 13 + 1 = 14 := ⟨by decide +kernel, rfl⟩
theorem dX3_childPlace_14 : decode cX3_childPlace 14 = .ok (.iadd, 1) ∧ 14 + 1 = 15 := ⟨by decide +kernel, rfl⟩
theorem dX3_childPlace_15 : decode cX3_childPlace 15 = .ok (.istore_n 3, 1) ∧ 15 + 1 = 16 := ⟨by decide +kernel, rfl⟩
theorem dX3_childPlace_16 : decode cX3_childPlace 16 = .ok (.iload_n 1, 1) ∧ 16 + 1 = 17 := ⟨by decide +kernel, rfl⟩
theorem dX3_childPlace_17 : decode cX3_childPlace 17 = .ok (.iconst 1, 1) ∧ 17 + 1 = 18 := ⟨by decide +kernel, rfl⟩
theorem dX3_childPlace_18 : decode cX3_childPlace 18 = .ok (.iadd, 1) ∧ 18 + 1 = 19 := ⟨by decide +kernel, rfl⟩
theorem dX3_childPlace_19 : decode cX3_childPlace 19 = .ok (.istore 4, 2) ∧ 19 + 2 = 21 := ⟨by decide +kernel, rfl⟩
theorem dX3_childPlace_21 : decode cX3_childPlace 21 = .ok (.iload 4, 2) ∧ 21 + 2 = 23 := ⟨by decide +kernel, rfl⟩
theorem dX3_childPlace_23 : decode cX3_childPlace 23 = .ok (.aload_n 0, 1) ∧ 23 + 1 = 24 := ⟨by decide +kernel, rfl⟩
theorem dX3_childPlace_24 : decode cX3_childPlace 24 = .ok (.getfield 21, 3) ∧ 24 + 3 = 27 := ⟨by decide +kernel, rfl⟩
theorem dX3_childPlace_27 : decode cX3_childPlace 27 = .ok (.if_icmp .ge 45, 3) ∧ 27 + 3 = 30 ∧ ((27 : Nat) : Int) + (45) = ((72 : Nat) : Int) := ⟨by decide +kernel, rfl, rfl⟩
theorem dX3_childPlace_30 : decode cX3_childPlace 30 = .ok (.aload_n 0, 1) ∧ 30 + 1 = 31 := ⟨by decide +kernel, rfl⟩
theorem dX3_childPlace_31 : decode cX3_childPlace 31 = .ok (.getfield 15, 3) ∧ 31 + 3 = 34 := ⟨by decide +kernel, rfl⟩
theorem dX3_childPlace_34 : decode cX3_childPlace 34 = .ok (.iload 4, 2) ∧ 34 + 2 = 36 := ⟨by decide +kernel, rfl⟩
theorem dX3_childPlace_36 : decode cX3_childPlace 36 = .ok (.iaload, 1) ∧ 36 + 1 = 37 := ⟨by decide +kernel, rfl⟩
theorem dX3_childPlace_37 : decode cX3_childPlace 37 = .ok (.iload_n 3, 1) ∧ 37 + 1 = 38 := ⟨by decide +kernel, rfl⟩
theorem dX3_childPlace_38 : decode cX3_childPlace 38 = .ok (.if_icmp .lt 34, 3) ∧ 38 + 3 = 41 ∧ ((38 : Nat) : Int) + (34) = ((72 : Nat) : Int) := ⟨by decide +kernel, rfl, rfl⟩
theorem dX3_childPlace_41 : decode cX3_childPlace 41 = .ok (.aload_n 0, 1) ∧ 41 + 1 = 42 := ⟨by decide +kernel, rfl⟩
theorem dX3_childPlace_42 : decode cX3_childPlace 42 = .ok (.getfield 15, 3) ∧ 42 + 3 = 45 := ⟨by decide +kernel, rfl⟩
theorem dX3_childPlace_45 : decode cX3_childPlace 45 = .ok (.iload 4, 2) ∧ 45 + 2 = 47 := ⟨by decide +kernel, rfl⟩
theorem dX3_childPlace_47 : decode cX3_childPlace 47 = .ok (.iaload, 1) ∧ 47 + 1 = 48 := ⟨by decide +kernel, rfl⟩
theorem dX3_childPlace_48 : decode cX3_childPlace 48 = .ok (.iload_n 3, 1) ∧ 48 + 1 = 49 := ⟨by decide +kernel, rfl⟩
theorem dX3_childPlace_49 : decode cX3_childPlace 49 = .ok (.if_icmp .ne 17, 3) ∧ 49 + 3 = 52 ∧ ((49 : Nat) : Int) + (17) = ((66 : Nat) : Int) := ⟨by decide +kernel, rfl, rfl⟩
theorem dX3_childPlace_52 : decode cX3_childPlace 52 = .ok (.aload_n 0, 1) ∧ 52 + 1 = 53 := ⟨by decide +kernel, rfl⟩
theorem dX3_childPlace_53 : decode cX3_childPlace 53 = .ok (.getfield 9, 3) ∧ 53 + 3 = 56 := ⟨by decide +kernel, rfl⟩
theorem dX3_childPlace_56 : decode cX3_childPlace 56 = .ok (.iload 4, 2) ∧ 56 + 2 = 58 := ⟨by decide +kernel, rfl⟩
theorem dX3_childPlace_58 : decode cX3_childPlace 58 = .ok (.iaload, 1) ∧ 58 + 1 = 59 := ⟨by decide +kernel, rfl⟩
theorem dX3_childPlace_59 : decode cX3_childPlace 59 = .ok (.iload_n 2, 1) ∧ 59 + 1 = 60 := ⟨by decide +kernel, rfl⟩
theorem dX3_childPlace_60 : decode cX3_childPlace 60 = .ok (.if_icmp .ne 6, 3) ∧ 60 + 3 = 63 ∧ ((60 : Nat) : Int) + (6) = ((66 : Nat) : Int) := ⟨by decide +kernel, rfl, rfl⟩
theorem dX3_childPlace_63 : decode cX3_childPlace 63 = .ok (.iload 4, 2) ∧ 63 + 2 = 65 := ⟨by decide +kernel, rfl⟩
theorem dX3_childPlace_65 : decode cX3_childPlace 65 = .ok (.ireturn, 1) ∧ 65 + 1 = 66 := ⟨by decide +kernel, rfl⟩
theorem dX3_childPlace_66 : decode cX3_childPlace 66 = .ok (.iinc 4 1, 3) ∧ 66 + 3 = 69 := ⟨by decide +kernel, rfl⟩
theorem dX3_childPlace_69 : decode cX3_childPlace 69 = .ok (.goto (-48), 3) ∧ 69 + 3 = 72 ∧ ((69 : Nat) : Int) + (-48) = ((21 : Nat) : Int) := ⟨by decide +kernel, rfl, rfl⟩
theorem dX3_childPlace_72 : decode cX3_childPlace 72 = .ok (.bipush (-2), 2) ∧ 72 + 2 = 74 := ⟨by decide +kernel, rfl⟩
theorem dX3_childPlace_74 : decode cX3_childPlace 74 = .ok (.ireturn, 1) ∧ 74 + 1 = 75 := ⟨by decide +kernel, rfl⟩
theorem dX3_isThere_0 : decode cX3_isThere 0 = .ok (.iload_n 1, 1) ∧ 0 + 1 = 1 := ⟨by decide +kernel, rfl⟩
theorem dX3_isThere_1 : decode cX3_isThere 1 = .ok (.ifCond .lt 21, 3) ∧ 1 + 3 = 4 ∧ ((1 : Nat) : Int) + (21) = ((22 : Nat) : Int) := ⟨by decide +kernel, rfl, rfl⟩
theorem dX3_isThere_4 : decode cX3_isThere 4 = .ok (.iload_n 1, 1) ∧ 4 + 1 = 5 := ⟨by decide +kernel, rfl⟩
theorem dX3_isThere_5 : decode cX3_isThere 5 = .ok (.aload_n 0, 1) ∧ 5 + 1 = 6 := ⟨by decide +kernel, rfl⟩
theorem dX3_isThere_6 : decode cX3_isThere 6 = .ok (.getfield 21, 3) ∧ 6 + 3 = 9 := ⟨by decide +kernel, rfl⟩
theorem dX3_isThere_9 : decode cX3_isThere 9 = .ok (.if_icmp .ge 13, 3) ∧ 9 + 3 = 12 ∧ ((9 : Nat) : Int) + (13) = ((22 : Nat) : Int) := ⟨by decide +kernel, rfl, rfl⟩
theorem dX3_isThere_12 : decode cX3_isThere 12 = .ok (.iload_n 1, 1) ∧ 12 + 1 = 13 := ⟨by decide +kernel, rfl⟩
theorem dX3_isThere_13 : decode cX3_isThere 13 = .ok (.bipush 120, 2) ∧ 13 + 2 = 15 := ⟨by decide +kernel, rfl⟩
theorem dX3_isThere_15 : decode cX3_isThere 15 = .ok (.if_icmp .ge 7, 3) ∧ 15 + 3 = 18 ∧ ((15 : Nat) : Int) + (7) = ((22 : Nat) : Int) := ⟨by decide +kernel, rfl, rfl⟩
theorem dX3_isThere_18 : decode cX3_isThere 18 = .ok (.iconst 1, 1) ∧ 18 + 1 = 19 := ⟨by decide +kernel, rfl⟩
theorem dX3_isThere_19 : decode cX3_isThere 19 = .ok (.goto 4, 3) ∧ 19 + 3 = 22 ∧ ((19 : Nat) : Int) + (4) = ((23 : Nat) : Int) := ⟨by decide +kernel, rfl, rfl⟩
theorem dX3_isThere_22 : decode cX3_isThere 22 = .ok (.iconst 0, 1) ∧ 22 + 1 = 23 := ⟨by decide +kernel, rfl⟩
theorem dX3_isThere_23 : decode cX3_isThere 23 = .ok (.ireturn, 1) ∧ 23 + 1 = 24 := ⟨by decide +kernel, rfl⟩
theorem dX3_nodeOf_0 : decode cX3_nodeOf 0 = .ok (.aload_n 0, 1) ∧ 0 + 1 = 1 := ⟨by decide +kernel, rfl⟩
theorem dX3_nodeOf_1 : decode cX3_nodeOf 1 = .ok (.iload_n 1, 1) ∧ 1 + 1 = 2 := ⟨by decide +kernel, rfl⟩
theorem dX3_nodeOf_2 : decode cX3_nodeOf 2 = .ok (.invokevirtual 35, 3) ∧ 2 + 3 = 5 := ⟨by decide +kernel, rfl⟩
theorem dX3_nodeOf_5 : decode cX3_nodeOf 5 = .ok (.ifCond .eq 12, 3) ∧ 5 + 3 = 8 ∧ ((5 : Nat) : Int) + (12) = ((17 : Nat) : Int) := ⟨by decide +kernel, rfl, rfl⟩
theorem dX3_nodeOf_8 : decode cX3_nodeOf 8 = .ok (.aload_n 0, 1) ∧ 8 + 1 = 9 := ⟨by decide +kernel, rfl⟩
theorem dX3_nodeOf_9 : decode cX3_nodeOf 9 = .ok (.getfield 9, 3) ∧ 9 + 3 = 12 := ⟨by decide +kernel, rfl⟩
theorem dX3_nodeOf_12 : decode cX3_nodeOf 12 = .ok (.iload_n 1, 1) ∧ 12 + 1 = 13 := ⟨by decide +kernel, rfl⟩
theorem dX3_nodeOf_13 : decode cX3_nodeOf 13 = .ok (.iaload, 1) ∧ 13 + 1 = 14 := ⟨by decide +kernel, rfl⟩
theorem dX3_nodeOf_14 : decode cX3_nodeOf 14 = .ok (.goto 4, 3) ∧ 14 + 3 = 17 ∧ ((14 : Nat) : Int) + (4) = ((18 : Nat) : Int) := ⟨by decide +kernel, rfl, rfl⟩
theorem dX3_nodeOf_17 : decode cX3_nodeOf 17 = .ok (.iconst 0, 1) ∧ 17 + 1 = 18 := ⟨by decide +kernel, rfl⟩
theorem dX3_nodeOf_18 : decode cX3_nodeOf 18 = .ok (.ireturn, 1) ∧ 18 + 1 = 19 := ⟨by decide +kernel, rfl⟩
theorem dX3_levelOf_0 : decode cX3_levelOf 0 = .ok (.aload_n 0, 1) ∧ 0 + 1 = 1 := ⟨by decide +kernel, rfl⟩
theorem dX3_levelOf_1 : decode cX3_levelOf 1 = .ok (.iload_n 1, 1) ∧ 1 + 1 = 2 := ⟨by decide +kernel, rfl⟩
theorem dX3_levelOf_2 : decode cX3_levelOf 2 = .ok (.invokevirtual 35, 3) ∧ 2 + 3 = 5 := ⟨by decide +kernel, rfl⟩
theorem dX3_levelOf_5 : decode cX3_levelOf 5 = .ok (.ifCond .eq 12, 3) ∧ 5 + 3 = 8 ∧ ((5 : Nat) : Int) + (12) = ((17 : Nat) : Int) := ⟨by decide +kernel, rfl, rfl⟩
theorem dX3_levelOf_8 : decode cX3_levelOf 8 = .ok (.aload_n 0, 1) ∧ 8 + 1 = 9 := ⟨by decide +kernel, rfl⟩
theorem dX3_levelOf_9 : decode cX3_levelOf 9 = .ok (.getfield 15, 3) ∧ 9 + 3 = 12 := ⟨by decide +kernel, rfl⟩
theorem dX3_levelOf_12 : decode cX3_levelOf 12 = .ok (.iload_n 1, 1) ∧ 12 + 1 = 13 := ⟨by decide +kernel, rfl⟩
theorem dX3_levelOf_13 : decode cX3_levelOf 13 = .ok (.iaload, 1) ∧ 13 + 1 = 14 := ⟨by decide +kernel, rfl⟩
theorem dX3_levelOf_14 : decode cX3_levelOf 14 = .ok (.goto 4, 3) ∧ 14 + 3 = 17 ∧ ((14 : Nat) : Int) + (4) = ((18 : Nat) : Int) := ⟨by decide +kernel, rfl, rfl⟩
theorem dX3_levelOf_17 : decode cX3_levelOf 17 = .ok (.iconst 0, 1) ∧ 17 + 1 = 18 := ⟨by decide +kernel, rfl⟩
theorem dX3_levelOf_18 : decode cX3_levelOf 18 = .ok (.ireturn, 1) ∧ 18 + 1 = 19 := ⟨by decide +kernel, rfl⟩
theorem dX3_foldOf_0 : decode cX3_foldOf 0 = .ok (.aload_n 0, 1) ∧ 0 + 1 = 1 := ⟨by decide +kernel, rfl⟩
theorem dX3_foldOf_1 : decode cX3_foldOf 1 = .ok (.iload_n 1, 1) ∧ 1 + 1 = 2 := ⟨by decide +kernel, rfl⟩
theorem dX3_foldOf_2 : decode cX3_foldOf 2 = .ok (.invokevirtual 35, 3) ∧ 2 + 3 = 5 := ⟨by decide +kernel, rfl⟩
theorem dX3_foldOf_5 : decode cX3_foldOf 5 = .ok (.ifCond .eq 12, 3) ∧ 5 + 3 = 8 ∧ ((5 : Nat) : Int) + (12) = ((17 : Nat) : Int) := ⟨by decide +kernel, rfl, rfl⟩
theorem dX3_foldOf_8 : decode cX3_foldOf 8 = .ok (.aload_n 0, 1) ∧ 8 + 1 = 9 := ⟨by decide +kernel, rfl⟩
theorem dX3_foldOf_9 : decode cX3_foldOf 9 = .ok (.getfield 18, 3) ∧ 9 + 3 = 12 := ⟨by decide +kernel, rfl⟩
theorem dX3_foldOf_12 : decode cX3_foldOf 12 = .ok (.iload_n 1, 1) ∧ 12 + 1 = 13 := ⟨by decide +kernel, rfl⟩
theorem dX3_foldOf_13 : decode cX3_foldOf 13 = .ok (.iaload, 1) ∧ 13 + 1 = 14 := ⟨by decide +kernel, rfl⟩
theorem dX3_foldOf_14 : decode cX3_foldOf 14 = .ok (.goto 4, 3) ∧ 14 + 3 = 17 ∧ ((14 : Nat) : Int) + (4) = ((18 : Nat) : Int) := ⟨by decide +kernel, rfl, rfl⟩
theorem dX3_foldOf_17 : decode cX3_foldOf 17 = .ok (.iconst 0, 1) ∧ 17 + 1 = 18 := ⟨by decide +kernel, rfl⟩
theorem dX3_foldOf_18 : decode cX3_foldOf 18 = .ok (.ireturn, 1) ∧ 18 + 1 = 19 := ⟨by decide +kernel, rfl⟩
theorem dX3_setFold_0 : decode cX3_setFold 0 = .ok (.aload_n 0, 1) ∧ 0 + 1 = 1 := ⟨by decide +kernel, rfl⟩
theorem dX3_setFold_1 : decode cX3_setFold 1 = .ok (.iload_n 1, 1) ∧ 1 + 1 = 2 := ⟨by decide +kernel, rfl⟩
theorem dX3_setFold_2 : decode cX3_setFold 2 = .ok (.invokevirtual 35, 3) ∧ 2 + 3 = 5 := ⟨by decide +kernel, rfl⟩
theorem dX3_setFold_5 : decode cX3_setFold 5 = .ok (.ifCond .eq 10, 3) ∧ 5 + 3 = 8 ∧ ((5 : Nat) : Int) + (10) = ((15 : Nat) : Int) := ⟨by decide +kernel, rfl, rfl⟩
theorem dX3_setFold_8 : decode cX3_setFold 8 = .ok (.aload_n 0, 1) ∧ 8 + 1 = 9 := ⟨by decide +kernel, rfl⟩
theorem dX3_setFold_9 : decode cX3_setFold 9 = .ok (.getfield 18, 3) ∧ 9 + 3 = 12 := ⟨by decide +kernel, rfl⟩
theorem dX3_setFold_12 : decode cX3_setFold 12 = .ok (.iload_n 1, 1) ∧ 12 + 1 = 13 := ⟨by decide +kernel, rfl⟩
theorem dX3_setFold_13 : decode cX3_setFold 13 = .ok (.iload_n 2, 1) ∧ 13 + 1 = 14 := ⟨by decide +kernel, rfl⟩
theorem dX3_setFold_14 : decode cX3_setFold 14 = .ok (.iastore, 1) ∧ 14 + 1 = 15 := ⟨by decide +kernel, rfl⟩
theorem dX3_setFold_15 : decode cX3_setFold 15 = .ok (.return_, 1) ∧ 15 + 1 = 16 := ⟨by decide +kernel, rfl⟩
theorem dX3_endOf_0 : decode cX3_endOf 0 = .ok (.aload_n 0, 1) ∧ 0 + 1 = 1 := ⟨by decide +kernel, rfl⟩
theorem dX3_endOf_1 : decode cX3_endOf 1 = .ok (.iload_n 1, 1) ∧ 1 + 1 = 2 := ⟨by decide +kernel, rfl⟩
theorem dX3_endOf_2 : decode cX3_endOf 2 = .ok (.invokevirtual 31, 3) ∧ 2 + 3 = 5 := ⟨by decide +kernel, rfl⟩
theorem dX3_endOf_5 : decode cX3_endOf 5 = .ok (.istore_n 2, 1) ∧ 5 + 1 = 6 := ⟨by decide +kernel, rfl⟩
theorem dX3_endOf_6 : decode cX3_endOf 6 = .ok (.iload_n 1, 1) ∧ 6 + 1 = 7 := ⟨by decide +kernel, rfl⟩
theorem dX3_endOf_7 : decode cX3_endOf 7 = .ok (.iconst 1, 1) ∧ 7 + 1 = 8 := ⟨by decide +kernel, rfl⟩
theorem dX3_endOf_8 : decode cX3_endOf 8 = .ok (.iadd, 1) ∧ 8 + 1 = 9 := ⟨by decide +kernel, rfl⟩
theorem dX3_endOf_9 : decode cX3_endOf 9 = .ok (.iconst 0, 1) ∧ 9 + 1 = 10 := ⟨by decide +kernel, rfl⟩
theorem dX3_endOf_10 : decode cX3_endOf 10 = .ok (.invokestatic 39, 3) ∧ 10 + 3 = 13 := ⟨by decide +kernel, rfl⟩
theorem dX3_endOf_13 : decode cX3_endOf 13 = .ok (.istore_n 3, 1) ∧ 13 + 1 = 14 := ⟨by decide +kernel, rfl⟩
theorem dX3_endOf_14 : decode cX3_endOf 14 = .ok (.iload_n 3, 1) ∧ 14 + 1 = 15 := ⟨by decide +kernel, rfl⟩
theorem dX3_endOf_15 : decode cX3_endOf 15 = .ok (.aload_n 0, 1) ∧ 15 + 1 = 16 := ⟨by decide +kernel, rfl⟩
theorem dX3_endOf_16 : decode cX3_endOf 16 = .ok (.getfield 21, 3) ∧ 16 + 3 = 19 := ⟨by decide +kernel, rfl⟩
theorem dX3_endOf_19 : decode cX3_endOf 19 = .ok (.if_icmp .ge 21, 3) ∧ 19 + 3 = 22 ∧ ((19 : Nat) : Int) + (21) = ((40 : Nat) : Int) := ⟨by decide +kernel, rfl, rfl⟩
theorem dX3_endOf_22 : decode cX3_endOf 22 = .ok (.aload_n 0, 1) ∧ 22 + 1 = 23 := ⟨by decide +kernel, rfl⟩
theorem dX3_endOf_23 : decode cX3_endOf 23 = .ok (.getfield 15, 3) ∧ 23 + 3 = 26 := ⟨by decide +kernel, rfl⟩
theorem dX3_endOf_26 : decode cX3_endOf 26 = .ok (.iload_n 3, 1) ∧ 26 + 1 = 27 := ⟨by decide +kernel, rfl⟩
theorem dX3_endOf_27 : decode cX3_endOf 27 = .ok (.iaload, 1) ∧ 27 + 1 = 28 := ⟨by decide +kernel, rfl⟩
theorem dX3_endOf_28 : decode cX3_endOf 28 = .ok (.iload_n 2, 1) ∧ 28 + 1 = 29 := ⟨by decide +kernel, rfl⟩
theorem dX3_endOf_29 : decode cX3_endOf 29 = .ok (.if_icmp .gt 5, 3) ∧ 29 + 3 = 32 ∧ ((29 : Nat) : Int) + (5) = ((34 : Nat) : Int) := ⟨by decide +kernel, rfl, rfl⟩
theorem dX3_endOf_32 : decode cX3_endOf 32 = .ok (.iload_n 3, 1) ∧ 32 + 1 = 33 := ⟨by decide +kernel, rfl⟩
theorem dX3_endOf_33 : decode cX3_endOf 33 = .ok (.ireturn, 1) ∧ 33 + 1 = 34 := ⟨by decide +kernel, rfl⟩
theorem dX3_endOf_34 : decode cX3_endOf 34 = .ok (.iinc 3 1, 3) ∧ 34 + 3 = 37 := ⟨by decide +kernel, rfl⟩
theorem dX3_endOf_37 : decode cX3_endOf 37 = .ok (.goto (-23), 3) ∧ 37 + 3 = 40 ∧ ((37 : Nat) : Int) + (-23) = ((14 : Nat) : Int) := ⟨by decide +kernel, rfl, rfl⟩
theorem dX3_endOf_40 : decode cX3_endOf 40 = .ok (.aload_n 0, 1) ∧ 40 + 1 = 41 := ⟨by decide +kernel, rfl⟩
theorem dX3_endOf_41 : decode cX3_endOf 41 = .ok (.getfield 21, 3) ∧ 41 + 3 = 44 := ⟨by decide +kernel, rfl⟩
theorem dX3_endOf_44 : decode cX3_endOf 44 = .ok (.ireturn, 1) ∧ 44 + 1 = 45 := ⟨by decide +kernel, rfl⟩
theorem dX3_hasChildren_0 : decode cX3_hasChildren 0 = .ok (.aload_n 0, 1) ∧ 0 + 1 = 1 := ⟨by decide +kernel, rfl⟩
theorem dX3_hasChildren_1 : decode cX3_hasChildren 1 = .ok (.iload_n 1, 1) ∧ 1 + 1 = 2 := ⟨by decide +kernel, rfl⟩
theorem dX3_hasChildren_2 : decode cX3_hasChildren 2 = .ok (.iconst 1, 1) ∧ 2 + 1 = 3 := ⟨by decide +kernel, rfl⟩
theorem dX3_hasChildren_3 : decode cX3_hasChildren 3 = .ok (.iadd, 1) ∧ 3 + 1 = 4 := ⟨by decide +kernel, rfl⟩
theorem dX3_hasChildren_4 : decode cX3_hasChildren 4 = .ok (.invokevirtual 31, 3) ∧ 4 + 3 = 7 := ⟨by decide +kernel, rfl⟩
theorem dX3_hasChildren_7 : decode cX3_hasChildren 7 = .ok (.aload_n 0, 1) ∧ 7 + 1 = 8 := ⟨by decide +kernel, rfl⟩
theorem dX3_hasChildren_8 : decode cX3_hasChildren 8 = .ok (.iload_n 1, 1) ∧ 8 + 1 = 9 := ⟨by decide +kernel, rfl⟩
theorem dX3_hasChildren_9 : decode cX3_hasChildren 9 = .ok (.invokevirtual 31, 3) ∧ 9 + 3 = 12 := ⟨by decide +kernel, rfl⟩
theorem dX3_hasChildren_12 : decode cX3_hasChildren 12 = .ok (.if_icmp .le 7, 3) ∧ 12 + 3 = 15 ∧ ((12 : Nat) : Int) + (7) = ((19 : Nat) : Int) := ⟨by decide +kernel, rfl, rfl⟩
theorem dX3_hasChildren_15 : decode cX3_hasChildren 15 = .ok (.iconst 1, 1) ∧ 15 + 1 = 16 := ⟨by decide +kernel, rfl⟩
theorem dX3_hasChildren_16 : decode cX3_hasChildren 16 = .ok (.goto 4, 3) ∧ 16 + 3 = 19 ∧ ((16 : Nat) : Int) + (4) = ((20 : Nat) : Int) := ⟨by decide +kernel, rfl, rfl⟩
theorem dX3_hasChildren_19 : decode cX3_hasChildren 19 = .ok (.iconst 0, 1) ∧ 19 + 1 = 20 := ⟨by decide +kernel, rfl⟩
theorem dX3_hasChildren_20 : decode cX3_hasChildren 20 = .ok (.ireturn, 1) ∧ 20 + 1 = 21 := ⟨by decide +kernel, rfl⟩
theorem dX3_atLevel_0 : decode cX3_atLevel 0 = .ok (.iload_n 1, 1) ∧ 0 + 1 = 1 := ⟨by decide +kernel, rfl⟩
theorem dX3_atLevel_1 : decode cX3_atLevel 1 = .ok (.aload_n 0, 1) ∧ 1 + 1 = 2 := ⟨by decide +kernel, rfl⟩
theorem dX3_atLevel_2 : decode cX3_atLevel 2 = .ok (.getfield 21, 3) ∧ 2 + 3 = 5 := ⟨by decide +kernel, rfl⟩
theorem dX3_atLevel_5 : decode cX3_atLevel 5 = .ok (.iconst 1, 1) ∧ 5 + 1 = 6 := ⟨by decide +kernel, rfl⟩
theorem dX3_atLevel_6 : decode cX3_atLevel 6 = .ok (.isub, 1) ∧ 6 + 1 = 7 := ⟨by decide +kernel, rfl⟩
theorem dX3_atLevel_7 : decode cX3_atLevel 7 = .ok (.invokestatic 45, 3) ∧ 7 + 3 = 10 := ⟨by decide +kernel, rfl⟩
theorem dX3_atLevel_10 : decode cX3_atLevel 10 = .ok (.istore_n 3, 1) ∧ 10 + 1 = 11 := ⟨by decide +kernel, rfl⟩
theorem dX3_atLevel_11 : decode cX3_atLevel 11 = .ok (.iload_n 3, 1) ∧ 11 + 1 = 12 := ⟨by decide +kernel, rfl⟩
theorem dX3_atLevel_12 : decode cX3_atLevel 12 = .ok (.ifCond .lt 21, 3) ∧ 12 + 3 = 15 ∧ ((12 : Nat) : Int) + (21) = ((33 : Nat) : Int) := ⟨by decide +kernel, rfl, rfl⟩
theorem dX3_atLevel_15 : decode cX3_atLevel 15 = .ok (.aload_n 0, 1) ∧ 15 + 1 = 16 := ⟨by decide +kernel, rfl⟩
theorem dX3_atLevel_16 : decode cX3_atLevel 16 = .ok (.getfield 15, 3) ∧ 16 + 3 = 19 := ⟨by decide +kernel, rfl⟩
theorem dX3_atLevel_19 : decode cX3_atLevel 19 = .ok (.iload_n 3, 1) ∧ 19 + 1 = 20 := ⟨by decide +kernel, rfl⟩
theorem dX3_atLevel_20 : decode cX3_atLevel 20 = .ok (.iaload, 1) ∧ 20 + 1 = 21 := ⟨by decide +kernel, rfl⟩
theorem dX3_atLevel_21 : decode cX3_atLevel 21 = .ok (.iload_n 2, 1) ∧ 21 + 1 = 22 := ⟨by decide +kernel, rfl⟩
theorem dX3_atLevel_22 : decode cX3_atLevel 22 = .ok (.if_icmp .ne 5, 3) ∧ 22 + 3 = 25 ∧ ((22 : Nat) : Int) + (5) = ((27 : Nat) : Int) := ⟨by decide +kernel, rfl, rfl⟩
theorem dX3_atLevel_25 : decode cX3_atLevel 25 = .ok (.iload_n 3, 1) ∧ 25 + 1 = 26 := ⟨by decide +kernel, rfl⟩
theorem dX3_atLevel_26 : decode cX3_atLevel 26 = .ok (.ireturn, 1) ∧ 26 + 1 = 27 := ⟨by decide +kernel, rfl⟩
theorem dX3_atLevel_27 : decode cX3_atLevel 27 = .ok (.iinc 3 (-1), 3) ∧ 27 + 3 = 30 := ⟨by decide +kernel, rfl⟩
theorem dX3_atLevel_30 : decode cX3_atLevel 30 = .ok (.goto (-19), 3) ∧ 30 + 3 = 33 ∧ ((30 : Nat) : Int) + (-19) = ((11 : Nat) : Int) := ⟨by decide +kernel, rfl, rfl⟩
theorem dX3_atLevel_33 : decode cX3_atLevel 33 = .ok (.iconst (-1), 1) ∧ 33 + 1 = 34 := ⟨by decide +kernel, rfl⟩
theorem dX3_atLevel_34 : decode cX3_atLevel 34 = .ok (.ireturn, 1) ∧ 34 + 1 = 35 := ⟨by decide +kernel, rfl⟩
theorem dX3_parentOf_0 : decode cX3_parentOf 0 = .ok (.aload_n 0, 1) ∧ 0 + 1 = 1 := ⟨by decide +kernel, rfl⟩
theorem dX3_parentOf_1 : decode cX3_parentOf 1 = .ok (.iload_n 1, 1) ∧ 1 + 1 = 2 := ⟨by decide +kernel, rfl⟩
theorem dX3_parentOf_2 : decode cX3_parentOf 2 = .ok (.aload_n 0, 1) ∧ 2 + 1 = 3 := ⟨by decide +kernel, rfl⟩
theorem dX3_parentOf_3 : decode cX3_parentOf 3 = .ok (.iload_n 1, 1) ∧ 3 + 1 = 4 := ⟨by decide +kernel, rfl⟩
theorem dX3_parentOf_4 : decode cX3_parentOf 4 = .ok (.invokevirtual 31, 3) ∧ 4 + 3 = 7 := ⟨by decide +kernel, rfl⟩
theorem dX3_parentOf_7 : decode cX3_parentOf 7 = .ok (.iconst 1, 1) ∧ 7 + 1 = 8 := ⟨by decide +kernel, rfl⟩
theorem dX3_parentOf_8 : decode cX3_parentOf 8 = .ok (.isub, 1) ∧ 8 + 1 = 9 := ⟨by decide +kernel, rfl⟩
theorem dX3_parentOf_9 : decode cX3_parentOf 9 = .ok (.invokevirtual 48, 3) ∧ 9 + 3 = 12 := ⟨by decide +kernel, rfl⟩
theorem dX3_parentOf_12 : decode cX3_parentOf 12 = .ok (.ireturn, 1) ∧ 12 + 1 = 13 := ⟨by decide +kernel, rfl⟩
theorem dX3_firstOf_0 : decode cX3_firstOf 0 = .ok (.iconst 0, 1) ∧ 0 + 1 = 1 := ⟨by decide +kernel, rfl⟩
theorem dX3_firstOf_1 : decode cX3_firstOf 1 = .ok (.istore_n 2, 1) ∧ 1 + 1 = 2 := ⟨by decide +kernel, rfl⟩
theorem dX3_firstOf_2 : decode cX3_firstOf 2 = .ok (.iload_n 2, 1) ∧ 2 + 1 = 3 := ⟨by decide +kernel, rfl⟩
theorem dX3_firstOf_3 : decode cX3_firstOf 3 = .ok (.aload_n 0, 1) ∧ 3 + 1 = 4 := ⟨by decide +kernel, rfl⟩
theorem dX3_firstOf_4 : decode cX3_firstOf 4 = .ok (.getfield 21, 3) ∧ 4 + 3 = 7 := ⟨by decide +kernel, rfl⟩
theorem dX3_firstOf_7 : decode cX3_firstOf 7 = .ok (.if_icmp .ge 21, 3) ∧ 7 + 3 = 10 ∧ ((7 : Nat) : Int) + (21) = ((28 : Nat) : Int) := ⟨by decide +kernel, rfl, rfl⟩
theorem dX3_firstOf_10 : decode cX3_firstOf 10 = .ok (.aload_n 0, 1) ∧ 10 + 1 = 11 := ⟨by decide +kernel, rfl⟩
theorem dX3_firstOf_11 : decode cX3_firstOf 11 = .ok (.getfield 9, 3) ∧ 11 + 3 = 14 := ⟨by decide +kernel, rfl⟩
theorem dX3_firstOf_14 : decode cX3_firstOf 14 = .ok (.iload_n 2, 1) ∧ 14 + 1 = 15 := ⟨by decide +kernel, rfl⟩
theorem dX3_firstOf_15 : decode cX3_firstOf 15 = .ok (.iaload, 1) ∧ 15 + 1 = 16 := ⟨by decide +kernel, rfl⟩
theorem dX3_firstOf_16 : decode cX3_firstOf 16 = .ok (.iload_n 1, 1) ∧ 16 + 1 = 17 := ⟨by decide +kernel, rfl⟩
theorem dX3_firstOf_17 : decode cX3_firstOf 17 = .ok (.if_icmp .ne 5, 3) ∧ 17 + 3 = 20 ∧ ((17 : Nat) : Int) + (5) = ((22 : Nat) : Int) := ⟨by decide +kernel, rfl, rfl⟩
theorem dX3_firstOf_20 : decode cX3_firstOf 20 = .ok (.iload_n 2, 1) ∧ 20 + 1 = 21 := ⟨by decide +kernel, rfl⟩
theorem dX3_firstOf_21 : decode cX3_firstOf 21 = .ok (.ireturn, 1) ∧ 21 + 1 = 22 := ⟨by decide +kernel, rfl⟩
theorem dX3_firstOf_22 : decode cX3_firstOf 22 = .ok (.iinc 2 1, 3) ∧ 22 + 3 = 25 := ⟨by decide +kernel, rfl⟩
theorem dX3_firstOf_25 : decode cX3_firstOf 25 = .ok (.goto (-23), 3) ∧ 25 + 3 = 28 ∧ ((25 : Nat) : Int) + (-23) = ((2 : Nat) : Int) := ⟨by decide +kernel, rfl, rfl⟩
theorem dX3_firstOf_28 : decode cX3_firstOf 28 = .ok (.bipush (-2), 2) ∧ 28 + 2 = 30 := ⟨by decide +kernel, rfl⟩
theorem dX3_firstOf_30 : decode cX3_firstOf 30 = .ok (.ireturn, 1) ∧ 30 + 1 = 31 := ⟨by decide +kernel, rfl⟩
theorem dX3_countOf_0 : decode cX3_countOf 0 = .ok (.iconst 0, 1) ∧ 0 + 1 = 1 := ⟨by decide +kernel, rfl⟩
theorem dX3_countOf_1 : decode cX3_countOf 1 = .ok (.istore_n 2, 1) ∧ 1 + 1 = 2 := ⟨by decide +kernel, rfl⟩
theorem dX3_countOf_2 : decode cX3_countOf 2 = .ok (.iconst 0, 1) ∧ 2 + 1 = 3 := ⟨by decide +kernel, rfl⟩
theorem dX3_countOf_3 : decode cX3_countOf 3 = .ok (.istore_n 3, 1) ∧ 3 + 1 = 4 := ⟨by decide +kernel, rfl⟩
theorem dX3_countOf_4 : decode cX3_countOf 4 = .ok (.iload_n 3, 1) ∧ 4 + 1 = 5 := ⟨by decide +kernel, rfl⟩
theorem dX3_countOf_5 : decode cX3_countOf 5 = .ok (.aload_n 0, 1) ∧ 5 + 1 = 6 := ⟨by decide +kernel, rfl⟩
theorem dX3_countOf_6 : decode cX3_countOf 6 = .ok (.getfield 21, 3) ∧ 6 + 3 = 9 := ⟨by decide +kernel, rfl⟩
theorem dX3_countOf_9 : decode cX3_countOf 9 = .ok (.if_icmp .ge 22, 3) ∧ 9 + 3 = 12 ∧ ((9 : Nat) : Int) + (22) = ((31 : Nat) : Int) := ⟨by decide +kernel, rfl, rfl⟩
theorem dX3_countOf_12 : decode cX3_countOf 12 = .ok (.aload_n 0, 1) ∧ 12 + 1 = 13 := ⟨by decide +kernel, rfl⟩
theorem dX3_countOf_13 : decode cX3_countOf 13 = .ok (.getfield 9, 3) ∧ 13 + 3 = 16 := ⟨by decide +kernel, rfl⟩
theorem dX3_countOf_16 : decode cX3_countOf 16 = .ok (.iload_n 3, 1) ∧ 16 + 1 = 17 := ⟨by decide +kernel, rfl⟩
theorem dX3_countOf_17 : decode cX3_countOf 17 = .ok (.iaload, 1) ∧ 17 + 1 = 18 := ⟨by decide +kernel, rfl⟩
theorem dX3_countOf_18 : decode cX3_countOf 18 = .ok (.iload_n 1, 1) ∧ 18 + 1 = 19 := ⟨by decide +kernel, rfl⟩
theorem dX3_countOf_19 : decode cX3_countOf 19 = .ok (.if_icmp .ne 6, 3) ∧ 19 + 3 = 22 ∧ ((19 : Nat) : Int) + (6) = ((25 : Nat) : Int) := ⟨by decide +kernel, rfl, rfl⟩
theorem dX3_countOf_22 : decode cX3_countOf 22 = .ok (.iinc 2 1, 3) ∧ 22 + 3 = 25 := ⟨by decide +kernel, rfl⟩
theorem dX3_countOf_25 : decode cX3_countOf 25 = .ok (.iinc 3 1, 3) ∧ 25 + 3 = 28 := ⟨by decide +kernel, rfl⟩
theorem dX3_countOf_28 : decode cX3_countOf 28 = .ok (.goto (-24), 3) ∧ 28 + 3 = 31 ∧ ((28 : Nat) : Int) + (-24) = ((4 : Nat) : Int) := ⟨by decide +kernel, rfl, rfl⟩
theorem dX3_countOf_31 : decode cX3_countOf 31 = .ok (.iload_n 2, 1) ∧ 31 + 1 = 32 := ⟨by decide +kernel, rfl⟩
theorem dX3_countOf_32 : decode cX3_countOf 32 = .ok (.ireturn, 1) ∧ 32 + 1 = 33 := ⟨by decide +kernel, rfl⟩
theorem dX3_nodeSet_0 : decode cX3_nodeSet 0 = .ok (.aload_n 0, 1) ∧ 0 + 1 = 1 := ⟨by decide +kernel, rfl⟩
theorem dX3_nodeSet_1 : decode cX3_nodeSet 1 = .ok (.iconst (-1), 1) ∧ 1 + 1 = 2 := ⟨by decide +kernel, rfl⟩
theorem dX3_nodeSet_2 : decode cX3_nodeSet 2 = .ok (.invokevirtual 51, 3) ∧ 2 + 3 = 5 := ⟨by decide +kernel, rfl⟩
theorem dX3_nodeSet_5 : decode cX3_nodeSet 5 = .ok (.lreturn, 1) ∧ 5 + 1 = 6 := ⟨by decide +kernel, rfl⟩
theorem dX3_nodesWithin_0 : decode cX3_nodesWithin 0 = .ok (.lconst 0, 1) ∧ 0 + 1 = 1 := ⟨by decide +kernel, rfl⟩
theorem dX3_nodesWithin_1 : decode cX3_nodesWithin 1 = .ok (.lstore_n 2, 1) ∧ 1 + 1 = 2 := ⟨by decide +kernel, rfl⟩
theorem dX3_nodesWithin_2 : decode cX3_nodesWithin 2 = .ok (.aload_n 0, 1) ∧ 2 + 1 = 3 := ⟨by decide +kernel, rfl⟩
theorem dX3_nodesWithin_3 : decode cX3_nodesWithin 3 = .ok (.iload_n 1, 1) ∧ 3 + 1 = 4 := ⟨by decide +kernel, rfl⟩
theorem dX3_nodesWithin_4 : decode cX3_nodesWithin 4 = .ok (.invokevirtual 55, 3) ∧ 4 + 3 = 7 := ⟨by decide +kernel, rfl⟩
theorem dX3_nodesWithin_7 : decode cX3_nodesWithin 7 = .ok (.istore 4, 2) ∧ 7 + 2 = 9 := ⟨by decide +kernel, rfl⟩
theorem dX3_nodesWithin_9 : decode cX3_nodesWithin 9 = .ok (.iload_n 1, 1) ∧ 9 + 1 = 10 := ⟨by decide +kernel, rfl⟩
theorem dX3_nodesWithin_10 : decode cX3_nodesWithin 10 = .ok (.iconst 1, 1) ∧ 10 + 1 = 11 := ⟨by decide +kernel, rfl⟩
theorem dX3_nodesWithin_11 : decode cX3_nodesWithin 11 = .ok (.iadd, 1) ∧ 11 + 1 = 12 := ⟨by decide +kernel, rfl⟩
theorem dX3_nodesWithin_12 : decode cX3_nodesWithin 12 = .ok (.iconst 0, 1) ∧ 12 + 1 = 13 := ⟨by decide +kernel, rfl⟩
theorem dX3_nodesWithin_13 : decode cX3_nodesWithin 13 = .ok (.invokestatic 39, 3) ∧ 13 + 3 = 16 := ⟨by decide +kernel, rfl⟩
theorem dX3_nodesWithin_16 : decode cX3_nodesWithin 16 = .ok (.istore 5, 2) ∧ 16 + 2 = 18 := ⟨by decide +kernel, rfl⟩
theorem dX3_nodesWithin_18 : decode cX3_nodesWithin 18 = .ok (.iload 5, 2) ∧ 18 + 2 = 20 := ⟨by decide +kernel, rfl⟩
theorem dX3_nodesWithin_20 : decode cX3_nodesWithin 20 = .ok (.iload 4, 2) ∧ 20 + 2 = 22 := ⟨by decide +kernel, rfl⟩
theorem dX3_nodesWithin_22 : decode cX3_nodesWithin 22 = .ok (.if_icmp .ge 21, 3) ∧ 22 + 3 = 25 ∧ ((22 : Nat) : Int) + (21) = ((43 : Nat) : Int) := ⟨by decide +kernel, rfl, rfl⟩
theorem dX3_nodesWithin_25 : decode cX3_nodesWithin 25 = .ok (.lload_n 2, 1) ∧ 25 + 1 = 26 := ⟨by decide +kernel, rfl⟩
theorem dX3_nodesWithin_26 : decode cX3_nodesWithin 26 = .ok (.lconst 1, 1) ∧ 26 + 1 = 27 := ⟨by decide +kernel, rfl⟩
theorem dX3_nodesWithin_27 : decode cX3_nodesWithin 27 = .ok (.aload_n 0, 1) ∧ 27 + 1 = 28 := ⟨by decide +kernel, rfl⟩
theorem dX3_nodesWithin_28 : decode cX3_nodesWithin 28 = .ok (.getfield 9, 3) ∧ 28 + 3 = 31 := ⟨by decide +kernel, rfl⟩
theorem dX3_nodesWithin_31 : decode cX3_nodesWithin 31 = .ok (.iload 5, 2) ∧ 31 + 2 = 33 := ⟨by decide +kernel, rfl⟩
theorem dX3_nodesWithin_33 : decode cX3_nodesWithin 33 = .ok (.iaload, 1) ∧ 33 + 1 = 34 := ⟨by decide +kernel, rfl⟩
theorem dX3_nodesWithin_34 : decode cX3_nodesWithin 34 = .ok (.lshl, 1) ∧ 34 + 1 = 35 := ⟨by decide +kernel, rfl⟩
theorem dX3_nodesWithin_35 : decode cX3_nodesWithin 35 = .ok (.lor, 1) ∧ 35 + 1 = 36 := ⟨by decide +kernel, rfl⟩
theorem dX3_nodesWithin_36 : decode cX3_nodesWithin 36 = .ok (.lstore_n 2, 1) ∧ 36 + 1 = 37 := ⟨by decide +kernel, rfl⟩
theorem dX3_nodesWithin_37 : decode cX3_nodesWithin 37 = .ok (.iinc 5 1, 3) ∧ 37 + 3 = 40 := ⟨by decide +kernel, rfl⟩
theorem dX3_nodesWithin_40 : decode cX3_nodesWithin 40 = .ok (.goto (-22), 3) ∧ 40 + 3 = 43 ∧ ((40 : Nat) : Int) + (-22) = ((18 : Nat) : Int) := ⟨by decide +kernel, rfl, rfl⟩
theorem dX3_nodesWithin_43 : decode cX3_nodesWithin 43 = .ok (.lload_n 2, 1) ∧ 43 + 1 = 44 := ⟨by decide +kernel, rfl⟩
theorem dX3_nodesWithin_44 : decode cX3_nodesWithin 44 = .ok (.lreturn, 1) ∧ 44 + 1 = 45 := ⟨by decide +kernel, rfl⟩
theorem dX3_foldedCount_0 : decode cX3_foldedCount 0 = .ok (.iconst 0, 1) ∧ 0 + 1 = 1 := ⟨by decide +kernel, rfl⟩
theorem dX3_foldedCount_1 : decode cX3_foldedCount 1 = .ok (.istore_n 1, 1) ∧ 1 + 1 = 2 := ⟨by decide +kernel, rfl⟩
theorem dX3_foldedCount_2 : decode cX3_foldedCount 2 = .ok (.iconst 0, 1) ∧ 2 + 1 = 3 := ⟨by decide +kernel, rfl⟩
theorem dX3_foldedCount_3 : decode cX3_foldedCount 3 = .ok (.istore_n 2, 1) ∧ 3 + 1 = 4 := ⟨by decide +kernel, rfl⟩
theorem dX3_foldedCount_4 : decode cX3_foldedCount 4 = .ok (.iload_n 2, 1) ∧ 4 + 1 = 5 := ⟨by decide +kernel, rfl⟩
theorem dX3_foldedCount_5 : decode cX3_foldedCount 5 = .ok (.aload_n 0, 1) ∧ 5 + 1 = 6 := ⟨by decide +kernel, rfl⟩
theorem dX3_foldedCount_6 : decode cX3_foldedCount 6 = .ok (.getfield 21, 3) ∧ 6 + 3 = 9 := ⟨by decide +kernel, rfl⟩
theorem dX3_foldedCount_9 : decode cX3_foldedCount 9 = .ok (.if_icmp .ge 18, 3) ∧ 9 + 3 = 12 ∧ ((9 : Nat) : Int) + (18) = ((27 : Nat) : Int) := ⟨by decide +kernel, rfl, rfl⟩
theorem dX3_foldedCount_12 : decode cX3_foldedCount 12 = .ok (.iload_n 1, 1) ∧ 12 + 1 = 13 := ⟨by decide +kernel, rfl⟩
theorem dX3_foldedCount_13 : decode cX3_foldedCount 13 = .ok (.aload_n 0, 1) ∧ 13 + 1 = 14 := ⟨by decide +kernel, rfl⟩
theorem dX3_foldedCount_14 : decode cX3_foldedCount 14 = .ok (.getfield 18, 3) ∧ 14 + 3 = 17 := ⟨by decide +kernel, rfl⟩
theorem dX3_foldedCount_17 : decode cX3_foldedCount 17 = .ok (.iload_n 2, 1) ∧ 17 + 1 = 18 := ⟨by decide +kernel, rfl⟩
theorem dX3_foldedCount_18 : decode cX3_foldedCount 18 = .ok (.iaload, 1) ∧ 18 + 1 = 19 := ⟨by decide +kernel, rfl⟩
theorem dX3_foldedCount_19 : decode cX3_foldedCount 19 = .ok (.iadd, 1) ∧ 19 + 1 = 20 := ⟨by decide +kernel, rfl⟩
theorem dX3_foldedCount_20 : decode cX3_foldedCount 20 = .ok (.istore_n 1, 1) ∧ 20 + 1 = 21 := ⟨by decide +kernel, rfl⟩
theorem dX3_foldedCount_21 : decode cX3_foldedCount 21 = .ok (.iinc 2 1, 3) ∧ 21 + 3 = 24 := ⟨by decide +kernel, rfl⟩
theorem dX3_foldedCount_24 : decode cX3_foldedCount 24 = .ok (.goto (-20), 3) ∧ 24 + 3 = 27 ∧ ((24 : Nat) : Int) + (-20) = ((4 : Nat) : Int) := ⟨by decide +kernel, rfl, rfl⟩
theorem dX3_foldedCount_27 : decode cX3_foldedCount 27 = .ok (.iload_n 1, 1) ∧ 27 + 1 = 28 := ⟨by decide +kernel, rfl⟩
theorem dX3_foldedCount_28 : decode cX3_foldedCount 28 = .ok (.ireturn, 1) ∧ 28 + 1 = 29 := ⟨by decide +kernel, rfl⟩
theorem dX3_greatestLevel_0 : decode cX3_greatestLevel 0 = .ok (.iconst 0, 1) ∧ 0 + 1 = 1 := ⟨by decide +kernel, rfl⟩
theorem dX3_greatestLevel_1 : decode cX3_greatestLevel 1 = .ok (.istore_n 1, 1) ∧ 1 + 1 = 2 := ⟨by decide +kernel, rfl⟩
theorem dX3_greatestLevel_2 : decode cX3_greatestLevel 2 = .ok (.iconst 0, 1) ∧ 2 + 1 = 3 := ⟨by decide +kernel, rfl⟩
theorem dX3_greatestLevel_3 : decode cX3_greatestLevel 3 = .ok (.istore_n 2, 1) ∧ 3 + 1 = 4 := ⟨by decide +kernel, rfl⟩
theorem dX3_greatestLevel_4 : decode cX3_greatestLevel 4 = .ok (.iload_n 2, 1) ∧ 4 + 1 = 5 := ⟨by decide +kernel, rfl⟩
theorem dX3_greatestLevel_5 : decode cX3_greatestLevel 5 = .ok (.aload_n 0, 1) ∧ 5 + 1 = 6 := ⟨by decide +kernel, rfl⟩
theorem dX3_greatestLevel_6 : decode cX3_greatestLevel 6 = .ok (.getfield 21, 3) ∧ 6 + 3 = 9 := ⟨by decide +kernel, rfl⟩
theorem dX3_greatestLevel_9 : decode cX3_greatestLevel 9 = .ok (.if_icmp .ge 20, 3) ∧ 9 + 3 = 12 ∧ ((9 : Nat) : Int) + (20) = ((29 : Nat) : Int) := ⟨by decide +kernel, rfl, rfl⟩
theorem dX3_greatestLevel_12 : decode cX3_greatestLevel 12 = .ok (.iload_n 1, 1) ∧ 12 + 1 = 13 := ⟨by decide +kernel, rfl⟩
theorem dX3_greatestLevel_13 : decode cX3_greatestLevel 13 = .ok (.aload_n 0, 1) ∧ 13 + 1 = 14 := ⟨by decide +kernel, rfl⟩
theorem dX3_greatestLevel_14 : decode cX3_greatestLevel 14 = .ok (.getfield 15, 3) ∧ 14 + 3 = 17 := ⟨by decide +kernel, rfl⟩
theorem dX3_greatestLevel_17 : decode cX3_greatestLevel 17 = .ok (.iload_n 2, 1) ∧ 17 + 1 = 18 := ⟨by decide +kernel, rfl⟩
theorem dX3_greatestLevel_18 : decode cX3_greatestLevel 18 = .ok (.iaload, 1) ∧ 18 + 1 = 19 := ⟨by decide +kernel, rfl⟩
theorem dX3_greatestLevel_19 : decode cX3_greatestLevel 19 = .ok (.invokestatic 39, 3) ∧ 19 + 3 = 22 := ⟨by decide +kernel, rfl⟩
theorem dX3_greatestLevel_22 : decode cX3_greatestLevel 22 = .ok (.istore_n 1, 1) ∧ 22 + 1 = 23 := ⟨by decide +kernel, rfl⟩
theorem dX3_greatestLevel_23 : decode cX3_greatestLevel 23 = .ok (.iinc 2 1, 3) ∧ 23 + 3 = 26 := ⟨by decide +kernel, rfl⟩
theorem dX3_greatestLevel_26 : decode cX3_greatestLevel 26 = .ok (.goto (-22), 3) ∧ 26 + 3 = 29 ∧ ((26 : Nat) : Int) + (-22) = ((4 : Nat) : Int) := ⟨by decide +kernel, rfl, rfl⟩
theorem dX3_greatestLevel_29 : decode cX3_greatestLevel 29 = .ok (.iload_n 1, 1) ∧ 29 + 1 = 30 := ⟨by decide +kernel, rfl⟩
theorem dX3_greatestLevel_30 : decode cX3_greatestLevel 30 = .ok (.ireturn, 1) ∧ 30 + 1 = 31 := ⟨by decide +kernel, rfl⟩
theorem dX3_foldAtLevel_0 : decode cX3_foldAtLevel 0 = .ok (.iconst 0, 1) ∧ 0 + 1 = 1 := ⟨by decide +kernel, rfl⟩
theorem dX3_foldAtLevel_1 : decode cX3_foldAtLevel 1 = .ok (.istore_n 2, 1) ∧ 1 + 1 = 2 := ⟨by decide +kernel, rfl⟩
theorem dX3_foldAtLevel_2 : decode cX3_foldAtLevel 2 = .ok (.iconst 0, 1) ∧ 2 + 1 = 3 := ⟨by decide +kernel, rfl⟩
theorem dX3_foldAtLevel_3 : decode cX3_foldAtLevel 3 = .ok (.istore_n 3, 1) ∧ 3 + 1 = 4 := ⟨by decide +kernel, rfl⟩
theorem dX3_foldAtLevel_4 : decode cX3_foldAtLevel 4 = .ok (.iload_n 3, 1) ∧ 4 + 1 = 5 := ⟨by decide +kernel, rfl⟩
theorem dX3_foldAtLevel_5 : decode cX3_foldAtLevel 5 = .ok (.aload_n 0, 1) ∧ 5 + 1 = 6 := ⟨by decide +kernel, rfl⟩
theorem dX3_foldAtLevel_6 : decode cX3_foldAtLevel 6 = .ok (.getfield 21, 3) ∧ 6 + 3 = 9 := ⟨by decide +kernel, rfl⟩
theorem dX3_foldAtLevel_9 : decode cX3_foldAtLevel 9 = .ok (.if_icmp .ge 98, 3) ∧ 9 + 3 = 12 ∧ ((9 : Nat) : Int) + (98) = ((107 : Nat) : Int) := ⟨by decide +kernel, rfl, rfl⟩
theorem dX3_foldAtLevel_12 : decode cX3_foldAtLevel 12 = .ok (.aload_n 0, 1) ∧ 12 + 1 = 13 := ⟨by decide +kernel, rfl⟩
theorem dX3_foldAtLevel_13 : decode cX3_foldAtLevel 13 = .ok (.getfield 15, 3) ∧ 13 + 3 = 16 := ⟨by decide +kernel, rfl⟩
theorem dX3_foldAtLevel_16 : decode cX3_foldAtLevel 16 = .ok (.iload_n 3, 1) ∧ 16 + 1 = 17 := ⟨by decide +kernel, rfl⟩
theorem dX3_foldAtLevel_17 : decode cX3_foldAtLevel 17 = .ok (.iaload, 1) ∧ 17 + 1 = 18 := ⟨by decide +kernel, rfl⟩
theorem dX3_foldAtLevel_18 : decode cX3_foldAtLevel 18 = .ok (.iload_n 1, 1) ∧ 18 + 1 = 19 := ⟨by decide +kernel, rfl⟩
theorem dX3_foldAtLevel_19 : decode cX3_foldAtLevel 19 = .ok (.if_icmp .ge 17, 3) ∧ 19 + 3 = 22 ∧ ((19 : Nat) : Int) + (17) = ((36 : Nat) : Int) := ⟨by decide +kernel, rfl, rfl⟩
theorem dX3_foldAtLevel_22 : decode cX3_foldAtLevel 22 = .ok (.aload_n 0, 1) ∧ 22 + 1 = 23 := ⟨by decide +kernel, rfl⟩
theorem dX3_foldAtLevel_23 : decode cX3_foldAtLevel 23 = .ok (.getfield 18, 3) ∧ 23 + 3 = 26 := ⟨by decide +kernel, rfl⟩
theorem dX3_foldAtLevel_26 : decode cX3_foldAtLevel 26 = .ok (.iload_n 3, 1) ∧ 26 + 1 = 27 := ⟨by decide +kernel, rfl⟩
theorem dX3_foldAtLevel_27 : decode cX3_foldAtLevel 27 = .ok (.iaload, 1) ∧ 27 + 1 = 28 := ⟨by decide +kernel, rfl⟩
theorem dX3_foldAtLevel_28 : decode cX3_foldAtLevel 28 = .ok (.iconst 1, 1) ∧ 28 + 1 = 29 := ⟨by decide +kernel, rfl⟩
theorem dX3_foldAtLevel_29 : decode cX3_foldAtLevel 29 = .ok (.if_icmp .ne 7, 3) ∧ 29 + 3 = 32 ∧ ((29 : Nat) : Int) + (7) = ((36 : Nat) : Int) := ⟨by decide +kernel, rfl, rfl⟩
theorem dX3_foldAtLevel_32 : decode cX3_foldAtLevel 32 = .ok (.iconst 1, 1) ∧ 32 + 1 = 33 := ⟨by decide +kernel, rfl⟩
theorem dX3_foldAtLevel_33 : decode cX3_foldAtLevel 33 = .ok (.goto 4, 3) ∧ 33 + 3 = 36 ∧ ((33 : Nat) : Int) + (4) = ((37 : Nat) : Int) := ⟨by decide +kernel, rfl, rfl⟩
theorem dX3_foldAtLevel_36 : decode cX3_foldAtLevel 36 = .ok (.iconst 0, 1) ∧ 36 + 1 = 37 := ⟨by decide +kernel, rfl⟩
theorem dX3_foldAtLevel_37 : decode cX3_foldAtLevel 37 = .ok (.istore 4, 2) ∧ 37 + 2 = 39 := ⟨by decide +kernel, rfl⟩
theorem dX3_foldAtLevel_39 : decode cX3_foldAtLevel 39 = .ok (.aload_n 0, 1) ∧ 39 + 1 = 40 := ⟨by decide +kernel, rfl⟩
theorem dX3_foldAtLevel_40 : decode cX3_foldAtLevel 40 = .ok (.getfield 15, 3) ∧ 40 + 3 = 43 := ⟨by decide +kernel, rfl⟩
theorem dX3_foldAtLevel_43 : decode cX3_foldAtLevel 43 = .ok (.iload_n 3, 1) ∧ 43 + 1 = 44 := ⟨by decide +kernel, rfl⟩
theorem dX3_foldAtLevel_44 : decode cX3_foldAtLevel 44 = .ok (.iaload, 1) ∧ 44 + 1 = 45 := ⟨by decide +kernel, rfl⟩
theorem dX3_foldAtLevel_45 : decode cX3_foldAtLevel 45 = .ok (.iload_n 1, 1) ∧ 45 + 1 = 46 := ⟨by decide +kernel, rfl⟩
theorem dX3_foldAtLevel_46 : decode cX3_foldAtLevel 46 = .ok (.if_icmp .ne 24, 3) ∧ 46 + 3 = 49 ∧ ((46 : Nat) : Int) + (24) = ((70 : Nat) : Int) := ⟨by decide +kernel, rfl, rfl⟩
theorem dX3_foldAtLevel_49 : decode cX3_foldAtLevel 49 = .ok (.aload_n 0, 1) ∧ 49 + 1 = 50 := ⟨by decide +kernel, rfl⟩
theorem dX3_foldAtLevel_50 : decode cX3_foldAtLevel 50 = .ok (.getfield 18, 3) ∧ 50 + 3 = 53 := ⟨by decide +kernel, rfl⟩
theorem dX3_foldAtLevel_53 : decode cX3_foldAtLevel 53 = .ok (.iload_n 3, 1) ∧ 53 + 1 = 54 := ⟨by decide +kernel, rfl⟩
theorem dX3_foldAtLevel_54 : decode cX3_foldAtLevel 54 = .ok (.iaload, 1) ∧ 54 + 1 = 55 := ⟨by decide +kernel, rfl⟩
theorem dX3_foldAtLevel_55 : decode cX3_foldAtLevel 55 = .ok (.ifCond .ne 15, 3) ∧ 55 + 3 = 58 ∧ ((55 : Nat) : Int) + (15) = ((70 : Nat) : Int) := ⟨by decide +kernel, rfl, rfl⟩
theorem dX3_foldAtLevel_58 : decode cX3_foldAtLevel 58 = .ok (.aload_n 0, 1) ∧ 58 + 1 = 59 := ⟨by decide +kernel, rfl⟩
theorem dX3_foldAtLevel_59 : decode cX3_foldAtLevel 59 = .ok (.iload_n 3, 1) ∧ 59 + 1 = 60 := ⟨by decide +kernel, rfl⟩
theorem dX3_foldAtLevel_60 : decode cX3_foldAtLevel 60 = .ok (.invokevirtual 58, 3) ∧ 60 + 3 = 63 := ⟨by decide +kernel, rfl⟩
theorem dX3_foldAtLevel_63 : decode cX3_foldAtLevel 63 = .ok (.ifCond .eq 7, 3) ∧ 63 + 3 = 66 ∧ ((63 : Nat) : Int) + (7) = ((70 : Nat) : Int) := ⟨by decide +kernel, rfl, rfl⟩
theorem dX3_foldAtLevel_66 : decode cX3_foldAtLevel 66 = .ok (.iconst 1, 1) ∧ 66 + 1 = 67 := ⟨by decide +kernel, rfl⟩
theorem dX3_foldAtLevel_67 : decode cX3_foldAtLevel 67 = .ok (.goto 4, 3) ∧ 67 + 3 = 70 ∧ ((67 : Nat) : Int) + (4) = ((71 : Nat) : Int) := ⟨by decide +kernel, rfl, rfl⟩
theorem dX3_foldAtLevel_70 : decode cX3_foldAtLevel 70 = .ok (.iconst 0, 1) ∧ 70 + 1 = 71 := ⟨by decide +kernel, rfl⟩
theorem dX3_foldAtLevel_71 : decode cX3_foldAtLevel 71 = .ok (.istore 5, 2) ∧ 71 + 2 = 73 := ⟨by decide +kernel, rfl⟩
theorem dX3_foldAtLevel_73 : decode cX3_foldAtLevel 73 = .ok (.iload 4, 2) ∧ 73 + 2 = 75 := ⟨by decide +kernel, rfl⟩
theorem dX3_foldAtLevel_75 : decode cX3_foldAtLevel 75 = .ok (.ifCond .ne 8, 3) ∧ 75 + 3 = 78 ∧ ((75 : Nat) : Int) + (8) = ((83 : Nat) : Int) := ⟨by decide +kernel, rfl, rfl⟩
theorem dX3_foldAtLevel_78 : decode cX3_foldAtLevel 78 = .ok (.iload 5, 2) ∧ 78 + 2 = 80 := ⟨by decide +kernel, rfl⟩
theorem dX3_foldAtLevel_80 : decode cX3_foldAtLevel 80 = .ok (.ifCond .eq 21, 3) ∧ 80 + 3 = 83 ∧ ((80 : Nat) : Int) + (21) = ((101 : Nat) : Int) := ⟨by decide +kernel, rfl, rfl⟩
theorem dX3_foldAtLevel_83 : decode cX3_foldAtLevel 83 = .ok (.aload_n 0, 1) ∧ 83 + 1 = 84 := ⟨by decide +kernel, rfl⟩
theorem dX3_foldAtLevel_84 : decode cX3_foldAtLevel 84 = .ok (.getfield 18, 3) ∧ 84 + 3 = 87 := ⟨by decide +kernel, rfl⟩
theorem dX3_foldAtLevel_87 : decode cX3_foldAtLevel 87 = .ok (.iload_n 3, 1) ∧ 87 + 1 = 88 := ⟨by decide +kernel, rfl⟩
theorem dX3_foldAtLevel_88 : decode cX3_foldAtLevel 88 = .ok (.iload 5, 2) ∧ 88 + 2 = 90 := ⟨by decide +kernel, rfl⟩
theorem dX3_foldAtLevel_90 : decode cX3_foldAtLevel 90 = .ok (.ifCond .eq 7, 3) ∧ 90 + 3 = 93 ∧ ((90 : Nat) : Int) + (7) = ((97 : Nat) : Int) := ⟨by decide +kernel, rfl, rfl⟩
theorem dX3_foldAtLevel_93 : decode cX3_foldAtLevel 93 = .ok (.iconst 1, 1) ∧ 93 + 1 = 94 := ⟨by decide +kernel, rfl⟩
theorem dX3_foldAtLevel_94 : decode cX3_foldAtLevel 94 = .ok (.goto 4, 3) ∧ 94 + 3 = 97 ∧ ((94 : Nat) : Int) + (4) = ((98 : Nat) : Int) := ⟨by decide +kernel, rfl, rfl⟩
theorem dX3_foldAtLevel_97 : decode cX3_foldAtLevel 97 = .ok (.iconst 0, 1) ∧ 97 + 1 = 98 := ⟨by decide +kernel, rfl⟩
theorem dX3_foldAtLevel_98 : decode cX3_foldAtLevel 98 = .ok (.iastore, 1) ∧ 98 + 1 = 99 := ⟨by decide +kernel, rfl⟩
theorem dX3_foldAtLevel_99 : decode cX3_foldAtLevel 99 = .ok (.iconst 1, 1) ∧ 99 + 1 = 100 := ⟨by decide +kernel, rfl⟩
theorem dX3_foldAtLevel_100 : decode cX3_foldAtLevel 100 = .ok (.istore_n 2, 1) ∧ 100 + 1 = 101 := ⟨by decide +kernel, rfl⟩
theorem dX3_foldAtLevel_101 : decode cX3_foldAtLevel 101 = .ok (.iinc 3 1, 3) ∧ 101 + 3 = 104 := ⟨by decide +kernel, rfl⟩
theorem dX3_foldAtLevel_104 : decode cX3_foldAtLevel 104 = .ok (.goto (-100), 3) ∧ 104 + 3 = 107 ∧ ((104 : Nat) : Int) + (-100) = ((4 : Nat) : Int) := ⟨by decide +kernel, rfl, rfl⟩
theorem dX3_foldAtLevel_107 : decode cX3_foldAtLevel 107 = .ok (.iload_n 2, 1) ∧ 107 + 1 = 108 := ⟨by decide +kernel, rfl⟩
theorem dX3_foldAtLevel_108 : decode cX3_foldAtLevel 108 = .ok (.ireturn, 1) ∧ 108 + 1 = 109 := ⟨by decide +kernel, rfl⟩
theorem dX3_unfoldAround_0 : decode cX3_unfoldAround 0 = .ok (.iconst 0, 1) ∧ 0 + 1 = 1 := ⟨by decide +kernel, rfl⟩
theorem dX3_unfoldAround_1 : decode cX3_unfoldAround 1 = .ok (.istore_n 2, 1) ∧ 1 + 1 = 2 := ⟨by decide +kernel, rfl⟩
theorem dX3_unfoldAround_2 : decode cX3_unfoldAround 2 = .ok (.aload_n 0, 1) ∧ 2 + 1 = 3 := ⟨by decide +kernel, rfl⟩
theorem dX3_unfoldAround_3 : decode cX3_unfoldAround 3 = .ok (.iload_n 1, 1) ∧ 3 + 1 = 4 := ⟨by decide +kernel, rfl⟩
theorem dX3_unfoldAround_4 : decode cX3_unfoldAround 4 = .ok (.invokevirtual 31, 3) ∧ 4 + 3 = 7 := ⟨by decide +kernel, rfl⟩
theorem dX3_unfoldAround_7 : decode cX3_unfoldAround 7 = .ok (.istore_n 3, 1) ∧ 7 + 1 = 8 := ⟨by decide +kernel, rfl⟩
theorem dX3_unfoldAround_8 : decode cX3_unfoldAround 8 = .ok (.iload_n 1, 1) ∧ 8 + 1 = 9 := ⟨by decide +kernel, rfl⟩
theorem dX3_unfoldAround_9 : decode cX3_unfoldAround 9 = .ok (.aload_n 0, 1) ∧ 9 + 1 = 10 := ⟨by decide +kernel, rfl⟩
theorem dX3_unfoldAround_10 : decode cX3_unfoldAround 10 = .ok (.getfield 21, 3) ∧ 10 + 3 = 13 := ⟨by decide +kernel, rfl⟩
theorem dX3_unfoldAround_13 : decode cX3_unfoldAround 13 = .ok (.invokestatic 45, 3) ∧ 13 + 3 = 16 := ⟨by decide +kernel, rfl⟩
theorem dX3_unfoldAround_16 : decode cX3_unfoldAround 16 = .ok (.iconst 1, 1) ∧ 16 + 1 = 17 := ⟨by decide +kernel, rfl⟩
theorem dX3_unfoldAround_17 : decode cX3_unfoldAround 17 = .ok (.isub, 1) ∧ 17 + 1 = 18 := ⟨by decide +kernel, rfl⟩
theorem dX3_unfoldAround_18 : decode cX3_unfoldAround 18 = .ok (.istore 4, 2) ∧ 18 + 2 = 20 := ⟨by decide +kernel, rfl⟩
theorem dX3_unfoldAround_20 : decode cX3_unfoldAround 20 = .ok (.iload 4, 2) ∧ 20 + 2 = 22 := ⟨by decide +kernel, rfl⟩
theorem dX3_unfoldAround_22 : decode cX3_unfoldAround 22 = .ok (.ifCond .lt 57, 3) ∧ 22 + 3 = 25 ∧ ((22 : Nat) : Int) + (57) = ((79 : Nat) : Int) := ⟨by decide +kernel, rfl, rfl⟩
theorem dX3_unfoldAround_25 : decode cX3_unfoldAround 25 = .ok (.aload_n 0, 1) ∧ 25 + 1 = 26 := ⟨by decide +kernel, rfl⟩
theorem dX3_unfoldAround_26 : decode cX3_unfoldAround 26 = .ok (.getfield 15, 3) ∧ 26 + 3 = 29 := ⟨by decide +kernel, rfl⟩
theorem dX3_unfoldAround_29 : decode cX3_unfoldAround 29 = .ok (.iload 4, 2) ∧ 29 + 2 = 31 := ⟨by decide +kernel, rfl⟩
theorem dX3_unfoldAround_31 : decode cX3_unfoldAround 31 = .ok (.iaload, 1) ∧ 31 + 1 = 32 := ⟨by decide +kernel, rfl⟩
theorem dX3_unfoldAround_32 : decode cX3_unfoldAround 32 = .ok (.iload_n 3, 1) ∧ 32 + 1 = 33 := ⟨by decide +kernel, rfl⟩
theorem dX3_unfoldAround_33 : decode cX3_unfoldAround 33 = .ok (.if_icmp .ge 40, 3) ∧ 33 + 3 = 36 ∧ ((33 : Nat) : Int) + (40) = ((73 : Nat) : Int) := ⟨by decide +kernel, rfl, rfl⟩
theorem dX3_unfoldAround_36 : decode cX3_unfoldAround 36 = .ok (.aload_n 0, 1) ∧ 36 + 1 = 37 := ⟨by decide +kernel, rfl⟩
theorem dX3_unfoldAround_37 : decode cX3_unfoldAround 37 = .ok (.getfield 15, 3) ∧ 37 + 3 = 40 := ⟨by decide +kernel, rfl⟩
theorem dX3_unfoldAround_40 : decode cX3_unfoldAround 40 = .ok (.iload 4, 2) ∧ 40 + 2 = 42 := ⟨by decide +kernel, rfl⟩
theorem dX3_unfoldAround_42 : decode cX3_unfoldAround 42 = .ok (.iaload, 1) ∧ 42 + 1 = 43 := ⟨by decide +kernel, rfl⟩
theorem dX3_unfoldAround_43 : decode cX3_unfoldAround 43 = .ok (.istore_n 3, 1) ∧ 43 + 1 = 44 := ⟨by decide +kernel, rfl⟩
theorem dX3_unfoldAround_44 : decode cX3_unfoldAround 44 = .ok (.iload_n 2, 1) ∧ 44 + 1 = 45 := ⟨by decide +kernel, rfl⟩
theorem dX3_unfoldAround_45 : decode cX3_unfoldAround 45 = .ok (.ifCond .ne 14, 3) ∧ 45 + 3 = 48 ∧ ((45 : Nat) : Int) + (14) = ((59 : Nat) : Int) := ⟨by decide +kernel, rfl, rfl⟩
theorem dX3_unfoldAround_48 : decode cX3_unfoldAround 48 = .ok (.aload_n 0, 1) ∧ 48 + 1 = 49 := ⟨by decide +kernel, rfl⟩
theorem dX3_unfoldAround_49 : decode cX3_unfoldAround 49 = .ok (.getfield 18, 3) ∧ 49 + 3 = 52 := ⟨by decide +kernel, rfl⟩
theorem dX3_unfoldAround_52 : decode cX3_unfoldAround 52 = .ok (.iload 4, 2) ∧ 52 + 2 = 54 := ⟨by decide +kernel, rfl⟩
theorem dX3_unfoldAround_54 : decode cX3_unfoldAround 54 = .ok (.iaload, 1) ∧ 54 + 1 = 55 := ⟨by decide +kernel, rfl⟩
theorem dX3_unfoldAround_55 : decode cX3_unfoldAround 55 = .ok (.iconst 1, 1) ∧ 55 + 1 = 56 := ⟨by decide +kernel, rfl⟩
theorem dX3_unfoldAround_56 : decode cX3_unfoldAround 56 = .ok (.if_icmp .ne 7, 3) ∧ 56 + 3 = 59 ∧ ((56 : Nat) : Int) + (7) = ((63 : Nat) : Int) := ⟨by decide +kernel, rfl, rfl⟩
theorem dX3_unfoldAround_59 : decode cX3_unfoldAround 59 = .ok (.iconst 1, 1) ∧ 59 + 1 = 60 := ⟨by decide +kernel, rfl⟩
theorem dX3_unfoldAround_60 : decode cX3_unfoldAround 60 = .ok (.goto 4, 3) ∧ 60 + 3 = 63 ∧ ((60 : Nat) : Int) + (4) = ((64 : Nat) : Int) := ⟨by decide +kernel, rfl, rfl⟩
theorem dX3_unfoldAround_63 : decode cX3_unfoldAround 63 = .ok (.iconst 0, 1) ∧ 63 + 1 = 64 := ⟨by decide +kernel, rfl⟩
theorem dX3_unfoldAround_64 : decode cX3_unfoldAround 64 = .ok (.istore_n 2, 1) ∧ 64 + 1 = 65 := ⟨by decide +kernel, rfl⟩
theorem dX3_unfoldAround_65 : decode cX3_unfoldAround 65 = .ok (.aload_n 0, 1) ∧ 65 + 1 = 66 := ⟨by decide +kernel, rfl⟩
theorem dX3_unfoldAround_66 : decode cX3_unfoldAround 66 = .ok (.getfield 18, 3) ∧ 66 + 3 = 69 := ⟨by decide +kernel, rfl⟩
theorem dX3_unfoldAround_69 : decode cX3_unfoldAround 69 = .ok (.iload 4, 2) ∧ 69 + 2 = 71 := ⟨by decide +kernel, rfl⟩
theorem dX3_unfoldAround_71 : decode cX3_unfoldAround 71 = .ok (.iconst 0, 1) ∧ 71 + 1 = 72 := ⟨by decide +kernel, rfl⟩
theorem dX3_unfoldAround_72 : decode cX3_unfoldAround 72 = .ok (.iastore, 1) ∧ 72 + 1 = 73 := ⟨by decide +kernel, rfl⟩
theorem dX3_unfoldAround_73 : decode cX3_unfoldAround 73 = .ok (.iinc 4 (-1), 3) ∧ 73 + 3 = 76 := ⟨by decide +kernel, rfl⟩
theorem dX3_unfoldAround_76 : decode cX3_unfoldAround 76 = .ok (.goto (-56), 3) ∧ 76 + 3 = 79 ∧ ((76 : Nat) : Int) + (-56) = ((20 : Nat) : Int) := ⟨by decide +kernel, rfl, rfl⟩
theorem dX3_unfoldAround_79 : decode cX3_unfoldAround 79 = .ok (.iload_n 2, 1) ∧ 79 + 1 = 80 := ⟨by decide +kernel, rfl⟩
theorem dX3_unfoldAround_80 : decode cX3_unfoldAround 80 = .ok (.ireturn, 1) ∧ 80 + 1 = 81 := ⟨by decide +kernel, rfl⟩
theorem dX4_init_0 : decode cX4_init 0 = .ok (.aload_n 0, 1) ∧ 0 + 1 = 1 := ⟨by decide +kernel, rfl⟩
theorem dX4_init_1 : decode cX4_init 1 = .ok (.invokespecial 3, 3) ∧ 1 + 3 = 4 := ⟨by decide +kernel, rfl⟩
theorem dX4_init_4 : decode cX4_init 4 = .ok (.aload_n 0, 1) ∧ 4 + 1 = 5 := ⟨by decide +kernel, rfl⟩
theorem dX4_init_5 : decode cX4_init 5 = .ok (.bipush 61, 2) ∧ 5 + 2 = 7 := ⟨by decide +kernel, rfl⟩
theorem dX4_init_7 : decode cX4_init 7 = .ok (.newarray .int, 2) ∧ 7 + 2 = 9 := ⟨by decide +kernel, rfl⟩
theorem dX4_init_9 : decode cX4_init 9 = .ok (.putfield 9, 3) ∧ 9 + 3 = 12 := ⟨by decide +kernel, rfl⟩
theorem dX4_init_12 : decode cX4_init 12 = .ok (.aload_n 0, 1) ∧ 12 + 1 = 13 := ⟨by decide +kernel, rfl⟩
theorem dX4_init_13 : decode cX4_init 13 = .ok (.bipush 26, 2) ∧ 13 + 2 = 15 := ⟨by decide +kernel, rfl⟩
theorem dX4_init_15 : decode cX4_init 15 = .ok (.newarray .int, 2) ∧ 15 + 2 = 17 := ⟨by decide +kernel, rfl⟩
theorem dX4_init_17 : decode cX4_init 17 = .ok (.putfield 15, 3) ∧ 17 + 3 = 20 := ⟨by decide +kernel, rfl⟩
theorem dX4_init_20 : decode cX4_init 20 = .ok (.return_, 1) ∧ 20 + 1 = 21 := ⟨by decide +kernel, rfl⟩
theorem dX4_read_0 : decode cX4_read 0 = .ok (.aload_n 0, 1) ∧ 0 + 1 = 1 := ⟨by decide +kernel, rfl⟩
theorem dX4_read_1 : decode cX4_read 1 = .ok (.invokevirtual 18, 3) ∧ 1 + 3 = 4 := ⟨by decide +kernel, rfl⟩
theorem dX4_read_4 : decode cX4_read 4 = .ok (.iconst 0, 1) ∧ 4 + 1 = 5 := ⟨by decide +kernel, rfl⟩
theorem dX4_read_5 : decode cX4_read 5 = .ok (.istore_n 3, 1) ∧ 5 + 1 = 6 := ⟨by decide +kernel, rfl⟩
theorem dX4_read_6 : decode cX4_read 6 = .ok (.iload_n 3, 1) ∧ 6 + 1 = 7 := ⟨by decide +kernel, rfl⟩
theorem dX4_read_7 : decode cX4_read 7 = .ok (.aload_n 1, 1) ∧ 7 + 1 = 8 := ⟨by decide +kernel, rfl⟩
theorem dX4_read_8 : decode cX4_read 8 = .ok (.getfield 21, 3) ∧ 8 + 3 = 11 := ⟨by decide +kernel, rfl⟩
theorem dX4_read_11 : decode cX4_read 11 = .ok (.if_icmp .ge 48, 3) ∧ 11 + 3 = 14 ∧ ((11 : Nat) : Int) + (48) = ((59 : Nat) : Int) := ⟨by decide +kernel, rfl, rfl⟩
theorem dX4_read_14 : decode cX4_read 14 = .ok (.aload_n 1, 1) ∧ 14 + 1 = 15 := ⟨by decide +kernel, rfl⟩
theorem dX4_read_15 : decode cX4_read 15 = .ok (.iload_n 3, 1) ∧ 15 + 1 = 16 := ⟨by decide +kernel, rfl⟩
theorem dX4_read_16 : decode cX4_read 16 = .ok (.invokevirtual 27, 3) ∧ 16 + 3 = 19 := ⟨by decide +kernel, rfl⟩
theorem dX4_read_19 : decode cX4_read 19 = .ok (.istore 4, 2) ∧ 19 + 2 = 21 := ⟨by decide +kernel, rfl⟩
theorem dX4_read_21 : decode cX4_read 21 = .ok (.aload_n 0, 1) ∧ 21 + 1 = 22 := ⟨by decide +kernel, rfl⟩
theorem dX4_read_22 : decode cX4_read 22 = .ok (.getfield 31, 3) ∧ 22 + 3 = 25 := ⟨by decide +kernel, rfl⟩
theorem dX4_read_25 : decode cX4_read 25 = .ok (.ifCond .eq 13, 3) ∧ 25 + 3 = 28 ∧ ((25 : Nat) : Int) + (13) = ((38 : Nat) : Int) := ⟨by decide +kernel, rfl, rfl⟩
theorem dX4_read_28 : decode cX4_read 28 = .ok (.aload_n 0, 1) ∧ 28 + 1 = 29 := ⟨by decide +kernel, rfl⟩
theorem dX4_read_29 : decode cX4_read 29 = .ok (.iload 4, 2) ∧ 29 + 2 = 31 := ⟨by decide +kernel, rfl⟩
theorem dX4_read_31 : decode cX4_read 31 = .ok (.aload_n 2, 1) ∧ 31 + 1 = 32 := ⟨by decide +kernel, rfl⟩
theorem dX4_read_32 : decode cX4_read 32 = .ok (.invokevirtual 35, 3) ∧ 32 + 3 = 35 := ⟨by decide +kernel, rfl⟩
theorem dX4_read_35 : decode cX4_read 35 = .ok (.goto 9, 3) ∧ 35 + 3 = 38 ∧ ((35 : Nat) : Int) + (9) = ((44 : Nat) : Int) := ⟨by decide +kernel, rfl, rfl⟩
theorem dX4_read_38 : decode cX4_read 38 = .ok (.aload_n 0, 1) ∧ 38 + 1 = 39 := ⟨by decide +kernel, rfl⟩
theorem dX4_read_39 : decode cX4_read 39 = .ok (.iload 4, 2) ∧ 39 + 2 = 41 := ⟨by decide +kernel, rfl⟩
theorem dX4_read_41 : decode cX4_read 41 = .ok (.invokevirtual 39, 3) ∧ 41 + 3 = 44 := ⟨by decide +kernel, rfl⟩
theorem dX4_read_44 : decode cX4_read 44 = .ok (.istore 5, 2) ∧ 44 + 2 = 46 := ⟨by decide +kernel, rfl⟩
theorem dX4_read_46 : decode cX4_read 46 = .ok (.iload 5, 2) ∧ 46 + 2 = 48 := ⟨by decide +kernel, rfl⟩
theorem dX4_read_48 : decode cX4_read 48 = .ok (.ifCond .ne 5, 3) ∧ 48 + 3 = 51 ∧ ((48 : Nat) : Int) + (5) = ((53 : Nat) : Int) := ⟨by decide +kernel, rfl, rfl⟩
theorem dX4_read_51 : decode cX4_read 51 = .ok (.iload_n 3, 1) ∧ 51 + 1 = 52 := ⟨by decide +kernel, rfl⟩
theorem dX4_read_52 : decode cX4_read 52 = .ok (.ireturn, 1) ∧ 52 + 1 = 53 := ⟨by decide +kernel, rfl⟩
theorem dX4_read_53 : decode cX4_read 53 = .ok (.iinc 3 1, 3) ∧ 53 + 3 = 56 := ⟨by decide +kernel, rfl⟩
theorem dX4_read_56 : decode cX4_read 56 = .ok (.goto (-50), 3) ∧ 56 + 3 = 59 ∧ ((56 : Nat) : Int) + (-50) = ((6 : Nat) : Int) := ⟨by decide +kernel, rfl, rfl⟩
theorem dX4_read_59 : decode cX4_read 59 = .ok (.aload_n 0, 1) ∧ 59 + 1 = 60 := ⟨by decide +kernel, rfl⟩
theorem dX4_read_60 : decode cX4_read 60 = .ok (.getfield 31, 3) ∧ 60 + 3 = 63 := ⟨by decide +kernel, rfl⟩
theorem dX4_read_63 : decode cX4_read 63 = .ok (.ifCond .ne 10, 3) ∧ 63 + 3 = 66 ∧ ((63 : Nat) : Int) + (10) = ((73 : Nat) : Int) := ⟨by decide +kernel, rfl, rfl⟩
theorem dX4_read_66 : decode cX4_read 66 = .ok (.aload_n 0, 1) ∧ 66 + 1 = 67 := ⟨by decide +kernel, rfl⟩
theorem dX4_read_67 : decode cX4_read 67 = .ok (.getfield 43, 3) ∧ 67 + 3 = 70 := ⟨by decide +kernel, rfl⟩
theorem dX4_read_70 : decode cX4_read 70 = .ok (.ifCond .le 10, 3) ∧ 70 + 3 = 73 ∧ ((70 : Nat) : Int) + (10) = ((80 : Nat) : Int) := ⟨by decide +kernel, rfl, rfl⟩
theorem dX4_read_73 : decode cX4_read 73 = .ok (.aload_n 1, 1) ∧ 73 + 1 = 74 := ⟨by decide +kernel, rfl⟩
theorem dX4_read_74 : decode cX4_read 74 = .ok (.getfield 21, 3) ∧ 74 + 3 = 77 := ⟨by decide +kernel, rfl⟩
theorem dX4_read_77 : decode cX4_read 77 = .ok (.goto 4, 3) ∧ 77 + 3 = 80 ∧ ((77 : Nat) : Int) + (4) = ((81 : Nat) : Int) := ⟨by decide +kernel, rfl, rfl⟩
theorem dX4_read_80 : decode cX4_read 80 = .ok (.iconst (-1), 1) ∧ 80 + 1 = 81 := ⟨by decide +kernel, rfl⟩
theorem dX4_read_81 : decode cX4_read 81 = .ok (.ireturn, 1) ∧ 81 + 1 = 82 := ⟨by decide +kernel, rfl⟩
theorem dX4_begin_0 : decode cX4_begin 0 = .ok (.aload_n 0, 1) ∧ 0 + 1 = 1 := ⟨by decide +kernel, rfl⟩
theorem dX4_begin_1 : decode cX4_begin 1 = .ok (.iconst 0, 1) ∧ 1 + 1 = 2 := ⟨by decide +kernel, rfl⟩
theorem dX4_begin_2 : decode cX4_begin 2 = .ok (.putfield 43, 3) ∧ 2 + 3 = 5 := ⟨by decide +kernel, rfl⟩
theorem dX4_begin_5 : decode cX4_begin 5 = .ok (.aload_n 0, 1) ∧ 5 + 1 = 6 := ⟨by decide +kernel, rfl⟩
theorem dX4_begin_6 : decode cX4_begin 6 = .ok (.getfield 9, 3) ∧ 6 + 3 = 9 := ⟨by decide +kernel, rfl⟩
theorem dX4_begin_9 : decode cX4_begin 9 = .ok (.iconst 0, 1) ∧ 9 + 1 = 10 := ⟨by decide +kernel, rfl⟩
theorem dX4_begin_10 : decode cX4_begin 10 = .ok (.iconst 0, 1) ∧ 10 + 1 = 11 := ⟨by decide +kernel, rfl⟩
theorem dX4_begin_11 : decode cX4_begin 11 = .ok (.iastore, 1) ∧ 11 + 1 = 12 := ⟨by decide +kernel, rfl⟩
theorem dX4_begin_12 : decode cX4_begin 12 = .ok (.aload_n 0, 1) ∧ 12 + 1 = 13 := ⟨by decide +kernel, rfl⟩
theorem dX4_begin_13 : decode cX4_begin 13 = .ok (.iconst 1, 1) ∧ 13 + 1 = 14 := ⟨by decide +kernel, rfl⟩
theorem dX4_begin_14 : decode cX4_begin 14 = .ok (.putfield 31, 3) ∧ 14 + 3 = 17 := ⟨by decide +kernel, rfl⟩
theorem dX4_begin_17 : decode cX4_begin 17 = .ok (.aload_n 0, 1) ∧ 17 + 1 = 18 := ⟨by decide +kernel, rfl⟩
theorem dX4_begin_18 : decode cX4_begin 18 = .ok (.iconst (-1), 1) ∧ 18 + 1 = 19 := ⟨by decide +kernel, rfl⟩
theorem dX4_begin_19 : decode cX4_begin 19 = .ok (.putfield 46, 3) ∧ 19 + 3 = 22 := ⟨by decide +kernel, rfl⟩
theorem dX4_begin_22 : decode cX4_begin 22 = .ok (.iconst 0, 1) ∧ 22 + 1 = 23 := ⟨by decide +kernel, rfl⟩
theorem dX4_begin_23 : decode cX4_begin 23 = .ok (.istore_n 1, 1) ∧ 23 + 1 = 24 := ⟨by decide +kernel, rfl⟩
theorem dX4_begin_24 : decode cX4_begin 24 = .ok (.iload_n 1, 1) ∧ 24 + 1 = 25 := ⟨by decide +kernel, rfl⟩
theorem dX4_begin_25 : decode cX4_begin 25 = .ok (.bipush 26, 2) ∧ 25 + 2 = 27 := ⟨by decide +kernel, rfl⟩
theorem dX4_begin_27 : decode cX4_begin 27 = .ok (.if_icmp .ge 16, 3) ∧ 27 + 3 = 30 ∧ ((27 : Nat) : Int) + (16) = ((43 : Nat) : Int) := ⟨by decide +kernel, rfl, rfl⟩
theorem dX4_begin_30 : decode cX4_begin 30 = .ok (.aload_n 0, 1) ∧ 30 + 1 = 31 := ⟨by decide +kernel, rfl⟩
theorem dX4_begin_31 : decode cX4_begin 31 = .ok (.getfield 15, 3) ∧ 31 + 3 = 34 := ⟨by decide +kernel, rfl⟩
theorem dX4_begin_34 : decode cX4_begin 34 = .ok (.iload_n 1, 1) ∧ 34 + 1 = 35 := ⟨by decide +kernel, rfl⟩
theorem dX4_begin_35 : decode cX4_begin 35 = .ok (.iconst (-1), 1) ∧ 35 + 1 = 36 := ⟨by decide +kernel, rfl⟩
theorem dX4_begin_36 : decode cX4_begin 36 = .ok (.iastore, 1) ∧ 36 + 1 = 37 := ⟨by decide +kernel, rfl⟩
theorem dX4_begin_37 : decode cX4_begin 37 = .ok (.iinc 1 1, 3) ∧ 37 + 3 = 40 := ⟨by decide +kernel, rfl⟩
theorem dX4_begin_40 : decode cX4_begin 40 = .ok (.goto (-16), 3) ∧ 40 + 3 = 43 ∧ ((40 : Nat) : Int) + (-16) = ((24 : Nat) : Int) := ⟨by decide +kernel, rfl, rfl⟩
theorem dX4_begin_43 : decode cX4_begin 43 = .ok (.return_, 1) ∧ 43 + 1 = 44 := ⟨by decide +kernel, rfl⟩
theorem dX4_takeLetter_0 : decode cX4_takeLetter 0 = .ok (.iload_n 1, 1) ∧ 0 + 1 = 1 := ⟨by decide +kernel, rfl⟩
theorem dX4_takeLetter_1 : decode cX4_takeLetter 1 = .ok (.bipush 97, 2) ∧ 1 + 2 = 3 := ⟨by decide +kernel, rfl⟩
theorem dX4_takeLetter_3 : decode cX4_takeLetter 3 = .ok (.isub, 1) ∧ 3 + 1 = 4 := ⟨by decide +kernel, rfl⟩
theorem dX4_takeLetter_4 : decode cX4_takeLetter 4 = .ok (.istore_n 3, 1) ∧ 4 + 1 = 5 := ⟨by decide +kernel, rfl⟩
theorem dX4_takeLetter_5 : decode cX4_takeLetter 5 = .ok (.iload_n 3, 1) ∧ 5 + 1 = 6 := ⟨by decide +kernel, rfl⟩
theorem dX4_takeLetter_6 : decode cX4_takeLetter 6 = .ok (.ifCond .lt 25, 3) ∧ 6 + 3 = 9 ∧ ((6 : Nat) : Int) + (25) = ((31 : Nat) : Int) := ⟨by decide +kernel, rfl, rfl⟩
theorem dX4_takeLetter_9 : decode cX4_takeLetter 9 = .ok (.iload_n 3, 1) ∧ 9 + 1 = 10 := ⟨by decide +kernel, rfl⟩
theorem dX4_takeLetter_10 : decode cX4_takeLetter 10 = .ok (.bipush 26, 2) ∧ 10 + 2 = 12 := ⟨by decide +kernel, rfl⟩
theorem dX4_takeLetter_12 : decode cX4_takeLetter 12 = .ok (.if_icmp .ge 19, 3) ∧ 12 + 3 = 15 ∧ ((12 : Nat) : Int) + (19) = ((31 : Nat) : Int) := ⟨by decide +kernel, rfl, rfl⟩
theorem dX4_takeLetter_15 : decode cX4_takeLetter 15 = .ok (.aload_n 0, 1) ∧ 15 + 1 = 16 := ⟨by decide +kernel, rfl⟩
theorem dX4_takeLetter_16 : decode cX4_takeLetter 16 = .ok (.getfield 43, 3) ∧ 16 + 3 = 19 := ⟨by decide +kernel, rfl⟩
theorem dX4_takeLetter_19 : decode cX4_takeLetter 19 = .ok (.ifCond .lt 12, 3) ∧ 19 + 3 = 22 ∧ ((19 : Nat) : Int) + (12) = ((31 : Nat) : Int) := ⟨by decide +kernel, rfl, rfl⟩
theorem dX4_takeLetter_22 : decode cX4_takeLetter 22 = .ok (.aload_n 0, 1) ∧ 22 + 1 = 23 := ⟨by decide +kernel, rfl⟩
theorem dX4_takeLetter_23 : decode cX4_takeLetter 23 = .ok (.getfield 43, 3) ∧ 23 + 3 = 26 := ⟨by decide +kernel, rfl⟩
theorem dX4_takeLetter_26 : decode cX4_takeLetter 26 = .ok (.bipush 60, 2) ∧ 26 + 2 = 28 := ⟨by decide +kernel, rfl⟩
theorem dX4_takeLetter_28 : decode cX4_takeLetter 28 = .ok (.if_icmp .le 5, 3) ∧ 28 + 3 = 31 ∧ ((28 : Nat) : Int) + (5) = ((33 : Nat) : Int) := ⟨by decide +kernel, rfl, rfl⟩
theorem dX4_takeLetter_31 : decode cX4_takeLetter 31 = .ok (.iconst 0, 1) ∧ 31 + 1 = 32 := ⟨by decide +kernel, rfl⟩
theorem dX4_takeLetter_32 : decode cX4_takeLetter 32 = .ok (.ireturn, 1) ∧ 32 + 1 = 33 := ⟨by decide +kernel, rfl⟩
theorem dX4_takeLetter_33 : decode cX4_takeLetter 33 = .ok (.aload_n 0, 1) ∧ 33 + 1 = 34 := ⟨by decide +kernel, rfl⟩
theorem dX4_takeLetter_34 : decode cX4_takeLetter 34 = .ok (.getfield 9, 3) ∧ 34 + 3 = 37 := ⟨by decide +kernel, rfl⟩
theorem dX4_takeLetter_37 : decode cX4_takeLetter 37 = .ok (.aload_n 0, 1) ∧ 37 + 1 = 38 := ⟨by decide +kernel, rfl⟩
theorem dX4_takeLetter_38 : decode cX4_takeLetter 38 = .ok (.getfield 43, 3) ∧ 38 + 3 = 41 := ⟨by decide +kernel, rfl⟩
theorem dX4_takeLetter_41 : decode cX4_takeLetter 41 = .ok (.iaload, 1) ∧ 41 + 1 = 42 := ⟨by decide +kernel, rfl⟩
theorem dX4_takeLetter_42 : decode cX4_takeLetter 42 = .ok (.istore 4, 2) ∧ 42 + 2 = 44 := ⟨by decide +kernel, rfl⟩
theorem dX4_takeLetter_44 : decode cX4_takeLetter 44 = .ok (.aload_n 0, 1) ∧ 44 + 1 = 45 := ⟨by decide +kernel, rfl⟩
theorem dX4_takeLetter_45 : decode cX4_takeLetter 45 = .ok (.getfield 15, 3) ∧ 45 + 3 = 48 := ⟨by decide +kernel, rfl⟩
theorem dX4_takeLetter_48 : decode cX4_takeLetter 48 = .ok (.iload_n 3, 1) ∧ 48 + 1 = 49 := ⟨by decide +kernel, rfl⟩
theorem dX4_takeLetter_49 : decode cX4_takeLetter 49 = .ok (.iaload, 1) ∧ 49 + 1 = 50 := ⟨by decide +kernel, rfl⟩
theorem dX4_takeLetter_50 : decode cX4_takeLetter 50 = .ok (.istore 5, 2) ∧ 50 + 2 = 52 := ⟨by decide +kernel, rfl⟩
theorem dX4_takeLetter_52 : decode cX4_takeLetter 52 = .ok (.aload_n 0, 1) ∧ 52 + 1 = 53 := ⟨by decide +kernel, rfl⟩
theorem dX4_takeLetter_53 : decode cX4_takeLetter 53 = .ok (.iconst (-1), 1) ∧ 53 + 1 = 54 := ⟨by decide +kernel, rfl⟩
theorem dX4_takeLetter_54 : decode cX4_takeLetter 54 = .ok (.putfield 46, 3) ∧ 54 + 3 = 57 := ⟨by decide +kernel, rfl⟩
theorem dX4_takeLetter_57 : decode cX4_takeLetter 57 = .ok (.iload 5, 2) ∧ 57 + 2 = 59 := ⟨by decide +kernel, rfl⟩
theorem dX4_takeLetter_59 : decode cX4_takeLetter 59 = .ok (.iconst (-1), 1) ∧ 59 + 1 = 60 := ⟨by decide +kernel, rfl⟩
theorem dX4_takeLetter_60 : decode cX4_takeLetter 60 = .ok (.if_icmp .ne 39, 3) ∧ 60 + 3 = 63 ∧ ((60 : Nat) : Int) + (39) = ((99 : Nat) : Int) := ⟨by decide +kernel, rfl, rfl⟩
theorem dX4_takeLetter_63 : decode cX4_takeLetter 63 = .ok (.aload_n 2, 1) ∧ 63 + 1 = 64 := ⟨by decide +kernel, rfl⟩
theorem dX4_takeLetter_64 : decode cX4_takeLetter 64 = .ok (.getfield 49, 3) ∧ 64 + 3 = 67 := ⟨by decide +kernel, rfl⟩
theorem dX4_takeLetter_67 : decode cX4_takeLetter 67 = .ok (.invokevirtual 55, 3) ∧ 67 + 3 = 70 := ⟨by decide +kernel, rfl⟩
theorem dX4_takeLetter_70 : decode cX4_takeLetter 70 = .ok (.istore 5, 2) ∧ 70 + 2 = 72 := ⟨by decide +kernel, rfl⟩
theorem dX4_takeLetter_72 : decode cX4_takeLetter 72 = .ok (.aload_n 2, 1) ∧ 72 + 1 = 73 := ⟨by decide +kernel, rfl⟩
theorem dX4_takeLetter_73 : decode cX4_takeLetter 73 = .ok (.getfield 49, 3) ∧ 73 + 3 = 76 := ⟨by decide +kernel, rfl⟩
theorem dX4_takeLetter_76 : decode cX4_takeLetter 76 = .ok (.iload 5, 2) ∧ 76 + 2 = 78 := ⟨by decide +kernel, rfl⟩
theorem dX4_takeLetter_78 : decode cX4_takeLetter 78 = .ok (.iload_n 1, 1) ∧ 78 + 1 = 79 := ⟨by decide +kernel, rfl⟩
theorem dX4_takeLetter_79 : decode cX4_takeLetter 79 = .ok (.invokevirtual 61, 3) ∧ 79 + 3 = 82 := ⟨by decide +kernel, rfl⟩
theorem dX4_takeLetter_82 : decode cX4_takeLetter 82 = .ok (.aload_n 0, 1) ∧ 82 + 1 = 83 := ⟨by decide +kernel, rfl⟩
theorem dX4_takeLetter_83 : decode cX4_takeLetter 83 = .ok (.getfield 15, 3) ∧ 83 + 3 = 86 := ⟨by decide +kernel, rfl⟩
theorem dX4_takeLetter_86 : decode cX4_takeLetter 86 = .ok (.iload_n 3, 1) ∧ 86 + 1 = 87 := ⟨by decide +kernel, rfl⟩
theorem dX4_takeLetter_87 : decode cX4_takeLetter 87 = .ok (.iload 5, 2) ∧ 87 + 2 = 89 := ⟨by decide +kernel, rfl⟩
theorem dX4_takeLetter_89 : decode cX4_takeLetter 89 = .ok (.iastore, 1) ∧ 89 + 1 = 90 := ⟨by decide +kernel, rfl⟩
theorem dX4_takeLetter_90 : decode cX4_takeLetter 90 = .ok (.aload_n 0, 1) ∧ 90 + 1 = 91 := ⟨by decide +kernel, rfl⟩
theorem dX4_takeLetter_91 : decode cX4_takeLetter 91 = .ok (.iload 5, 2) ∧ 91 + 2 = 93 := ⟨by decide +kernel, rfl⟩
theorem dX4_takeLetter_93 : decode cX4_takeLetter 93 = .ok (.putfield 46, 3) ∧ 93 + 3 = 96 := ⟨by decide +kernel, rfl⟩
theorem dX4_takeLetter_96 : decode cX4_takeLetter 96 = .ok (.goto 29, 3) ∧ 96 + 3 = 99 ∧ ((96 : Nat) : Int) + (29) = ((125 : Nat) : Int) := ⟨by decide +kernel, rfl, rfl⟩
theorem dX4_takeLetter_99 : decode cX4_takeLetter 99 = .ok (.aload_n 0, 1) ∧ 99 + 1 = 100 := ⟨by decide +kernel, rfl⟩
theorem dX4_takeLetter_100 : decode cX4_takeLetter 100 = .ok (.iload 5, 2) ∧ 100 + 2 = 102 := ⟨by decide +kernel, rfl⟩
theorem dX4_takeLetter_102 : decode cX4_takeLetter 102 = .ok (.invokevirtual 65, 3) ∧ 102 + 3 = 105 := ⟨by decide +kernel, rfl⟩
theorem dX4_takeLetter_105 : decode cX4_takeLetter 105 = .ok (.ifCond .ne 18, 3) ∧ 105 + 3 = 108 ∧ ((105 : Nat) : Int) + (18) = ((123 : Nat) : Int) := ⟨by decide +kernel, rfl, rfl⟩
theorem dX4_takeLetter_108 : decode cX4_takeLetter 108 = .ok (.aload_n 2, 1) ∧ 108 + 1 = 109 := ⟨by decide +kernel, rfl⟩
theorem dX4_takeLetter_109 : decode cX4_takeLetter 109 = .ok (.getfield 68, 3) ∧ 109 + 3 = 112 := ⟨by decide +kernel, rfl⟩
theorem dX4_takeLetter_112 : decode cX4_takeLetter 112 = .ok (.iload 4, 2) ∧ 112 + 2 = 114 := ⟨by decide +kernel, rfl⟩
theorem dX4_takeLetter_114 : decode cX4_takeLetter 114 = .ok (.iload 5, 2) ∧ 114 + 2 = 116 := ⟨by decide +kernel, rfl⟩
theorem dX4_takeLetter_116 : decode cX4_takeLetter 116 = .ok (.invokevirtual 72, 3) ∧ 116 + 3 = 119 := ⟨by decide +kernel, rfl⟩
theorem dX4_takeLetter_119 : decode cX4_takeLetter 119 = .ok (.iconst (-1), 1) ∧ 119 + 1 = 120 := ⟨by decide +kernel, rfl⟩
theorem dX4_takeLetter_120 : decode cX4_takeLetter 120 = .ok (.if_icmp .eq 5, 3) ∧ 120 + 3 = 123 ∧ ((120 : Nat) : Int) + (5) = ((125 : Nat) : Int) := ⟨by decide +kernel, rfl, rfl⟩
theorem dX4_takeLetter_123 : decode cX4_takeLetter 123 = .ok (.iconst 0, 1) ∧ 123 + 1 = 124 := ⟨by decide +kernel, rfl⟩
theorem dX4_takeLetter_124 : decode cX4_takeLetter 124 = .ok (.ireturn, 1) ∧ 124 + 1 = 125 := ⟨by decide +kernel, rfl⟩
theorem dX4_takeLetter_125 : decode cX4_takeLetter 125 = .ok (.aload_n 0, 1) ∧ 125 + 1 = 126 := ⟨by decide +kernel, rfl⟩
theorem dX4_takeLetter_126 : decode cX4_takeLetter 126 = .ok (.iconst 0, 1) ∧ 126 + 1 = 127 := ⟨by decide +kernel, rfl⟩
theorem dX4_takeLetter_127 : decode cX4_takeLetter 127 = .ok (.putfield 31, 3) ∧ 127 + 3 = 130 := ⟨by decide +kernel, rfl⟩
theorem dX4_takeLetter_130 : decode cX4_takeLetter 130 = .ok (.aload_n 2, 1) ∧ 130 + 1 = 131 := ⟨by decide +kernel, rfl⟩
theorem dX4_takeLetter_131 : decode cX4_takeLetter 131 = .ok (.getfield 68, 3) ∧ 131 + 3 = 134 := ⟨by decide +kernel, rfl⟩
theorem dX4_takeLetter_134 : decode cX4_takeLetter 134 = .ok (.iload 4, 2) ∧ 134 + 2 = 136 := ⟨by decide +kernel, rfl⟩
theorem dX4_takeLetter_136 : decode cX4_takeLetter 136 = .ok (.iload 5, 2) ∧ 136 + 2 = 138 := ⟨by decide +kernel, rfl⟩
theorem dX4_takeLetter_138 : decode cX4_takeLetter 138 = .ok (.invokevirtual 78, 3) ∧ 138 + 3 = 141 := ⟨by decide +kernel, rfl⟩
theorem dX4_takeLetter_141 : decode cX4_takeLetter 141 = .ok (.ireturn, 1) ∧ 141 + 1 = 142 := ⟨by decide +kernel, rfl⟩
theorem dX4_isOpen_0 : decode cX4_isOpen 0 = .ok (.iconst 1, 1) ∧ 0 + 1 = 1 := ⟨by decide +kernel, rfl⟩
theorem dX4_isOpen_1 : decode cX4_isOpen 1 = .ok (.istore_n 2, 1) ∧ 1 + 1 = 2 := ⟨by decide +kernel, rfl⟩
theorem dX4_isOpen_2 : decode cX4_isOpen 2 = .ok (.iload_n 2, 1) ∧ 2 + 1 = 3 := ⟨by decide +kernel, rfl⟩
theorem dX4_isOpen_3 : decode cX4_isOpen 3 = .ok (.aload_n 0, 1) ∧ 3 + 1 = 4 := ⟨by decide +kernel, rfl⟩
theorem dX4_isOpen_4 : decode cX4_isOpen 4 = .ok (.getfield 43, 3) ∧ 4 + 3 = 7 := ⟨by decide +kernel, rfl⟩
theorem dX4_isOpen_7 : decode cX4_isOpen 7 = .ok (.if_icmp .gt 27, 3) ∧ 7 + 3 = 10 ∧ ((7 : Nat) : Int) + (27) = ((34 : Nat) : Int) := ⟨by decide +kernel, rfl, rfl⟩
theorem dX4_isOpen_10 : decode cX4_isOpen 10 = .ok (.iload_n 2, 1) ∧ 10 + 1 = 11 := ⟨by decide +kernel, rfl⟩
theorem dX4_isOpen_11 : decode cX4_isOpen 11 = .ok (.bipush 60, 2) ∧ 11 + 2 = 13 := ⟨by decide +kernel, rfl⟩
theorem dX4_isOpen_13 : decode cX4_isOpen 13 = .ok (.if_icmp .gt 21, 3) ∧ 13 + 3 = 16 ∧ ((13 : Nat) : Int) + (21) = ((34 : Nat) : Int) := ⟨by decide +kernel, rfl, rfl⟩
theorem dX4_isOpen_16 : decode cX4_isOpen 16 = .ok (.aload_n 0, 1) ∧ 16 + 1 = 17 := ⟨by decide +kernel, rfl⟩
theorem dX4_isOpen_17 : decode cX4_isOpen 17 = .ok (.getfield 9, 3) ∧ 17 + 3 = 20 := ⟨by decide +kernel, rfl⟩
theorem dX4_isOpen_20 : decode cX4_isOpen 20 = .ok (.iload_n 2, 1) ∧ 20 + 1 = 21 := ⟨by decide +kernel, rfl⟩
theorem dX4_isOpen_21 : decode cX4_isOpen 21 = .ok (.iaload, 1) ∧ 21 + 1 = 22 := ⟨by decide +kernel, rfl⟩
theorem dX4_isOpen_22 : decode cX4_isOpen 22 = .ok (.iload_n 1, 1) ∧ 22 + 1 = 23 := ⟨by decide +kernel, rfl⟩
theorem dX4_isOpen_23 : decode cX4_isOpen 23 = .ok (.if_icmp .ne 5, 3) ∧ 23 + 3 = 26 ∧ ((23 : Nat) : Int) + (5) = ((28 : Nat) : Int) := ⟨by decide +kernel, rfl, rfl⟩
theorem dX4_isOpen_26 : decode cX4_isOpen 26 = .ok (.iconst 1, 1) ∧ 26 + 1 = 27 := ⟨by decide +kernel, rfl⟩
theorem dX4_isOpen_27 : decode cX4_isOpen 27 = .ok (.ireturn, 1) ∧ 27 + 1 = 28 := ⟨by decide +kernel, rfl⟩
theorem dX4_isOpen_28 : decode cX4_isOpen 28 = .ok (.iinc 2 1, 3) ∧ 28 + 3 = 31 := ⟨by decide +kernel, rfl⟩
theorem dX4_isOpen_31 : decode cX4_isOpen 31 = .ok (.goto (-29), 3) ∧ 31 + 3 = 34 ∧ ((31 : Nat) : Int) + (-29) = ((2 : Nat) : Int) := ⟨by decide +kernel, rfl, rfl⟩
theorem dX4_isOpen_34 : decode cX4_isOpen 34 = .ok (.iconst 0, 1) ∧ 34 + 1 = 35 := ⟨by decide +kernel, rfl⟩
theorem dX4_isOpen_35 : decode cX4_isOpen 35 = .ok (.ireturn, 1) ∧ 35 + 1 = 36 := ⟨by decide +kernel, rfl⟩
theorem dX4_takeSign_0 : decode cX4_takeSign 0 = .ok (.iload_n 1, 1) ∧ 0 + 1 = 1 := ⟨by decide +kernel, rfl⟩
theorem dX4_takeSign_1 : decode cX4_takeSign 1 = .ok (.bipush 44, 2) ∧ 1 + 2 = 3 := ⟨by decide +kernel, rfl⟩
theorem dX4_takeSign_3 : decode cX4_takeSign 3 = .ok (.if_icmp .ne 10, 3) ∧ 3 + 3 = 6 ∧ ((3 : Nat) : Int) + (10) = ((13 : Nat) : Int) := ⟨by decide +kernel, rfl, rfl⟩
theorem dX4_takeSign_6 : decode cX4_takeSign 6 = .ok (.aload_n 0, 1) ∧ 6 + 1 = 7 := ⟨by decide +kernel, rfl⟩
theorem dX4_takeSign_7 : decode cX4_takeSign 7 = .ok (.iconst 1, 1) ∧ 7 + 1 = 8 := ⟨by decide +kernel, rfl⟩
theorem dX4_takeSign_8 : decode cX4_takeSign 8 = .ok (.putfield 31, 3) ∧ 8 + 3 = 11 := ⟨by decide +kernel, rfl⟩
theorem dX4_takeSign_11 : decode cX4_takeSign 11 = .ok (.iconst 1, 1) ∧ 11 + 1 = 12 := ⟨by decide +kernel, rfl⟩
theorem dX4_takeSign_12 : decode cX4_takeSign 12 = .ok (.ireturn, 1) ∧ 12 + 1 = 13 := ⟨by decide +kernel, rfl⟩
theorem dX4_takeSign_13 : decode cX4_takeSign 13 = .ok (.iload_n 1, 1) ∧ 13 + 1 = 14 := ⟨by decide +kernel, rfl⟩
theorem dX4_takeSign_14 : decode cX4_takeSign 14 = .ok (.bipush 40, 2) ∧ 14 + 2 = 16 := ⟨by decide +kernel, rfl⟩
theorem dX4_takeSign_16 : decode cX4_takeSign 16 = .ok (.if_icmp .ne 50, 3) ∧ 16 + 3 = 19 ∧ ((16 : Nat) : Int) + (50) = ((66 : Nat) : Int) := ⟨by decide +kernel, rfl, rfl⟩
theorem dX4_takeSign_19 : decode cX4_takeSign 19 = .ok (.aload_n 0, 1) ∧ 19 + 1 = 20 := ⟨by decide +kernel, rfl⟩
theorem dX4_takeSign_20 : decode cX4_takeSign 20 = .ok (.getfield 46, 3) ∧ 20 + 3 = 23 := ⟨by decide +kernel, rfl⟩
theorem dX4_takeSign_23 : decode cX4_takeSign 23 = .ok (.iconst (-1), 1) ∧ 23 + 1 = 24 := ⟨by decide +kernel, rfl⟩
theorem dX4_takeSign_24 : decode cX4_takeSign 24 = .ok (.if_icmp .eq 42, 3) ∧ 24 + 3 = 27 ∧ ((24 : Nat) : Int) + (42) = ((66 : Nat) : Int) := ⟨by decide +kernel, rfl, rfl⟩
theorem dX4_takeSign_27 : decode cX4_takeSign 27 = .ok (.aload_n 0, 1) ∧ 27 + 1 = 28 := ⟨by decide +kernel, rfl⟩
theorem dX4_takeSign_28 : decode cX4_takeSign 28 = .ok (.getfield 43, 3) ∧ 28 + 3 = 31 := ⟨by decide +kernel, rfl⟩
theorem dX4_takeSign_31 : decode cX4_takeSign 31 = .ok (.bipush 60, 2) ∧ 31 + 2 = 33 := ⟨by decide +kernel, rfl⟩
theorem dX4_takeSign_33 : decode cX4_takeSign 33 = .ok (.if_icmp .ge 33, 3) ∧ 33 + 3 = 36 ∧ ((33 : Nat) : Int) + (33) = ((66 : Nat) : Int) := ⟨by decide +kernel, rfl, rfl⟩
theorem dX4_takeSign_36 : decode cX4_takeSign 36 = .ok (.aload_n 0, 1) ∧ 36 + 1 = 37 := ⟨by decide +kernel, rfl⟩
theorem dX4_takeSign_37 : decode cX4_takeSign 37 = .ok (.dup, 1) ∧ 37 + 1 = 38 := ⟨by decide +kernel, rfl⟩
theorem dX4_takeSign_38 : decode cX4_takeSign 38 = .ok (.getfield 43, 3) ∧ 38 + 3 = 41 := ⟨by decide +kernel, rfl⟩
theorem dX4_takeSign_41 : decode cX4_takeSign 41 = .ok (.iconst 1, 1) ∧ 41 + 1 = 42 := ⟨by decide +kernel, rfl⟩
theorem dX4_takeSign_42 : decode cX4_takeSign 42 = .ok (.iadd, 1) ∧ 42 + 1 = 43 := ⟨by decide +kernel, rfl⟩
theorem dX4_takeSign_43 : decode cX4_takeSign 43 = .ok (.putfield 43, 3) ∧ 43 + 3 = 46 := ⟨by decide +kernel, rfl⟩
theorem dX4_takeSign_46 : decode cX4_takeSign 46 = .ok (.aload_n 0, 1) ∧ 46 + 1 = 47 := ⟨by decide +kernel, rfl⟩
theorem dX4_takeSign_47 : decode cX4_takeSign 47 = .ok (.getfield 9, 3) ∧ 47 + 3 = 50 := ⟨by decide +kernel, rfl⟩
theorem dX4_takeSign_50 : decode cX4_takeSign 50 = .ok (.aload_n 0, 1) ∧ 50 + 1 = 51 := ⟨by decide +kernel, rfl⟩
theorem dX4_takeSign_51 : decode cX4_takeSign 51 = .ok (.getfield 43, 3) ∧ 51 + 3 = 54 := ⟨by decide +kernel, rfl⟩
theorem dX4_takeSign_54 : decode cX4_takeSign 54 = .ok (.aload_n 0, 1) ∧ 54 + 1 = 55 := ⟨by decide +kernel, rfl⟩
theorem dX4_takeSign_55 : decode cX4_takeSign 55 = .ok (.getfield 46, 3) ∧ 55 + 3 = 58 := ⟨by decide +kernel, rfl⟩
theorem dX4_takeSign_58 : decode cX4_takeSign 58 = .ok (.iastore, 1) ∧ 58 + 1 = 59 := ⟨by decide +kernel, rfl⟩
theorem dX4_takeSign_59 : decode cX4_takeSign 59 = .ok (.aload_n 0, 1) ∧ 59 + 1 = 60 := ⟨by decide +kernel, rfl⟩
theorem dX4_takeSign_60 : decode cX4_takeSign 60 = .ok (.iconst 1, 1) ∧ 60 + 1 = 61 := ⟨by decide +kernel, rfl⟩
theorem dX4_takeSign_61 : decode cX4_takeSign 61 = .ok (.putfield 31, 3) ∧ 61 + 3 = 64 := ⟨by decide +kernel, rfl⟩
theorem dX4_takeSign_64 : decode cX4_takeSign 64 = .ok (.iconst 1, 1) ∧ 64 + 1 = 65 := ⟨by decide +kernel, rfl⟩
theorem dX4_takeSign_65 : decode cX4_takeSign 65 = .ok (.ireturn, 1) ∧ 65 + 1 = 66 := ⟨by decide +kernel, rfl⟩
theorem dX4_takeSign_66 : decode cX4_takeSign 66 = .ok (.iload_n 1, 1) ∧ 66 + 1 = 67 := ⟨by decide +kernel, rfl⟩
theorem dX4_takeSign_67 : decode cX4_takeSign 67 = .ok (.bipush 41, 2) ∧ 67 + 2 = 69 := ⟨by decide +kernel, rfl⟩
theorem dX4_takeSign_69 : decode cX4_takeSign 69 = .ok (.if_icmp .ne 27, 3) ∧ 69 + 3 = 72 ∧ ((69 : Nat) : Int) + (27) = ((96 : Nat) : Int) := ⟨by decide +kernel, rfl, rfl⟩
theorem dX4_takeSign_72 : decode cX4_takeSign 72 = .ok (.aload_n 0, 1) ∧ 72 + 1 = 73 := ⟨by decide +kernel, rfl⟩
theorem dX4_takeSign_73 : decode cX4_takeSign 73 = .ok (.getfield 43, 3) ∧ 73 + 3 = 76 := ⟨by decide +kernel, rfl⟩
theorem dX4_takeSign_76 : decode cX4_takeSign 76 = .ok (.ifCond .le 20, 3) ∧ 76 + 3 = 79 ∧ ((76 : Nat) : Int) + (20) = ((96 : Nat) : Int) := ⟨by decide +kernel, rfl, rfl⟩
theorem dX4_takeSign_79 : decode cX4_takeSign 79 = .ok (.aload_n 0, 1) ∧ 79 + 1 = 80 := ⟨by decide +kernel, rfl⟩
theorem dX4_takeSign_80 : decode cX4_takeSign 80 = .ok (.dup, 1) ∧ 80 + 1 = 81 := ⟨by decide +kernel, rfl⟩
theorem dX4_takeSign_81 : decode cX4_takeSign 81 = .ok (.getfield 43, 3) ∧ 81 + 3 = 84 := ⟨by decide +kernel, rfl⟩
theorem dX4_takeSign_84 : decode cX4_takeSign 84 = .ok (.iconst 1, 1) ∧ 84 + 1 = 85 := ⟨by decide +kernel, rfl⟩
theorem dX4_takeSign_85 : decode cX4_takeSign 85 = .ok (.isub, 1) ∧ 85 + 1 = 86 := ⟨by decide +kernel, rfl⟩
theorem dX4_takeSign_86 : decode cX4_takeSign 86 = .ok (.putfield 43, 3) ∧ 86 + 3 = 89 := ⟨by decide +kernel, rfl⟩
theorem dX4_takeSign_89 : decode cX4_takeSign 89 = .ok (.aload_n 0, 1) ∧ 89 + 1 = 90 := ⟨by decide +kernel, rfl⟩
theorem dX4_takeSign_90 : decode cX4_takeSign 90 = .ok (.iconst (-1), 1) ∧ 90 + 1 = 91 := ⟨by decide +kernel, rfl⟩
theorem dX4_takeSign_91 : decode cX4_takeSign 91 = .ok (.putfield 46, 3) ∧ 91 + 3 = 94 := ⟨by decide +kernel, rfl⟩
theorem dX4_takeSign_94 : decode cX4_takeSign 94 = .ok (.iconst 1, 1) ∧ 94 + 1 = 95 := ⟨by decide +kernel, rfl⟩
theorem dX4_takeSign_95 : decode cX4_takeSign 95 = .ok (.ireturn, 1) ∧ 95 + 1 = 96 := ⟨by decide +kernel, rfl⟩
theorem dX4_takeSign_96 : decode cX4_takeSign 96 = .ok (.iconst 0, 1) ∧ 96 + 1 = 97 := ⟨by decide +kernel, rfl⟩
theorem dX4_takeSign_97 : decode cX4_takeSign 97 = .ok (.ireturn, 1) ∧ 97 + 1 = 98 := ⟨by decide +kernel, rfl⟩
theorem dX5_init_0 : decode cX5_init 0 = .ok (.aload_n 0, 1) ∧ 0 + 1 = 1 := ⟨by decide +kernel, rfl⟩
theorem dX5_init_1 : decode cX5_init 1 = .ok (.invokespecial 3, 3) ∧ 1 + 3 = 4 := ⟨by decide +kernel, rfl⟩
theorem dX5_init_4 : decode cX5_init 4 = .ok (.aload_n 0, 1) ∧ 4 + 1 = 5 := ⟨by decide +kernel, rfl⟩
theorem dX5_init_5 : decode cX5_init 5 = .ok (.bipush 120, 2) ∧ 5 + 2 = 7 := ⟨by decide +kernel, rfl⟩
theorem dX5_init_7 : decode cX5_init 7 = .ok (.newarray .int, 2) ∧ 7 + 2 = 9 := ⟨by decide +kernel, rfl⟩
theorem dX5_init_9 : decode cX5_init 9 = .ok (.putfield 9, 3) ∧ 9 + 3 = 12 := ⟨by decide +kernel, rfl⟩
theorem dX5_init_12 : decode cX5_init 12 = .ok (.aload_n 0, 1) ∧ 12 + 1 = 13 := ⟨by decide +kernel, rfl⟩
theorem dX5_init_13 : decode cX5_init 13 = .ok (.bipush 120, 2) ∧ 13 + 2 = 15 := ⟨by decide +kernel, rfl⟩
theorem dX5_init_15 : decode cX5_init 15 = .ok (.newarray .int, 2) ∧ 15 + 2 = 17 := ⟨by decide +kernel, rfl⟩
theorem dX5_init_17 : decode cX5_init 17 = .ok (.putfield 15, 3) ∧ 17 + 3 = 20 := ⟨by decide +kernel, rfl⟩
theorem dX5_init_20 : decode cX5_init 20 = .ok (.return_, 1) ∧ 20 + 1 = 21 := ⟨by decide +kernel, rfl⟩
theorem dX5_refresh_0 : decode cX5_refresh 0 = .ok (.aload_n 0, 1) ∧ 0 + 1 = 1 := ⟨by decide +kernel, rfl⟩
theorem dX5_refresh_1 : decode cX5_refresh 1 = .ok (.iconst 0, 1) ∧ 1 + 1 = 2 := ⟨by decide +kernel, rfl⟩
theorem dX5_refresh_2 : decode cX5_refresh 2 = .ok (.putfield 18, 3) ∧ 2 + 3 = 5 := ⟨by decide +kernel, rfl⟩
theorem dX5_refresh_5 : decode cX5_refresh 5 = .ok (.bipush 40, 2) ∧ 5 + 2 = 7 := ⟨by decide +kernel, rfl⟩
theorem dX5_refresh_7 : decode cX5_refresh 7 = .ok (.istore_n 2, 1) ∧ 7 + 1 = 8 := ⟨by decide +kernel, rfl⟩
theorem dX5_refresh_8 : decode cX5_refresh 8 = .ok (.iconst 0, 1) ∧ 8 + 1 = 9 := ⟨by decide +kernel, rfl⟩
theorem dX5_refresh_9 : decode cX5_refresh 9 = .ok (.istore_n 3, 1) ∧ 9 + 1 = 10 := ⟨by decide +kernel, rfl⟩
theorem dX5_refresh_10 : decode cX5_refresh 10 = .ok (.iload_n 3, 1) ∧ 10 + 1 = 11 := ⟨by decide +kernel, rfl⟩
theorem dX5_refresh_11 : decode cX5_refresh 11 = .ok (.aload_n 1, 1) ∧ 11 + 1 = 12 := ⟨by decide +kernel, rfl⟩
theorem dX5_refresh_12 : decode cX5_refresh 12 = .ok (.getfield 22, 3) ∧ 12 + 3 = 15 := ⟨by decide +kernel, rfl⟩
theorem dX5_refresh_15 : decode cX5_refresh 15 = .ok (.if_icmp .ge 91, 3) ∧ 15 + 3 = 18 ∧ ((15 : Nat) : Int) + (91) = ((106 : Nat) : Int) := ⟨by decide +kernel, rfl, rfl⟩
theorem dX5_refresh_18 : decode cX5_refresh 18 = .ok (.aload_n 1, 1) ∧ 18 + 1 = 19 := ⟨by decide +kernel, rfl⟩
theorem dX5_refresh_19 : decode cX5_refresh 19 = .ok (.getfield 25, 3) ∧ 19 + 3 = 22 := ⟨by decide +kernel, rfl⟩
theorem dX5_refresh_22 : decode cX5_refresh 22 = .ok (.iload_n 3, 1) ∧ 22 + 1 = 23 := ⟨by decide +kernel, rfl⟩
theorem dX5_refresh_23 : decode cX5_refresh 23 = .ok (.iaload, 1) ∧ 23 + 1 = 24 := ⟨by decide +kernel, rfl⟩
theorem dX5_refresh_24 : decode cX5_refresh 24 = .ok (.istore 4, 2) ∧ 24 + 2 = 26 := ⟨by decide +kernel, rfl⟩
theorem dX5_refresh_26 : decode cX5_refresh 26 = .ok (.iload 4, 2) ∧ 26 + 2 = 28 := ⟨by decide +kernel, rfl⟩
theorem dX5_refresh_28 : decode cX5_refresh 28 = .ok (.iload_n 2, 1) ∧ 28 + 1 = 29 := ⟨by decide +kernel, rfl⟩
theorem dX5_refresh_29 : decode cX5_refresh 29 = .ok (.if_icmp .gt 12, 3) ∧ 29 + 3 = 32 ∧ ((29 : Nat) : Int) + (12) = ((41 : Nat) : Int) := ⟨by decide +kernel, rfl, rfl⟩
theorem dX5_refresh_32 : decode cX5_refresh 32 = .ok (.aload_n 0, 1) ∧ 32 + 1 = 33 := ⟨by decide +kernel, rfl⟩
theorem dX5_refresh_33 : decode cX5_refresh 33 = .ok (.getfield 18, 3) ∧ 33 + 3 = 36 := ⟨by decide +kernel, rfl⟩
theorem dX5_refresh_36 : decode cX5_refresh 36 = .ok (.bipush 120, 2) ∧ 36 + 2 = 38 := ⟨by decide +kernel, rfl⟩
theorem dX5_refresh_38 : decode cX5_refresh 38 = .ok (.if_icmp .lt 14, 3) ∧ 38 + 3 = 41 ∧ ((38 : Nat) : Int) + (14) = ((52 : Nat) : Int) := ⟨by decide +kernel, rfl, rfl⟩
theorem dX5_refresh_41 : decode cX5_refresh 41 = .ok (.aload_n 0, 1) ∧ 41 + 1 = 42 := ⟨by decide +kernel, rfl⟩
theorem dX5_refresh_42 : decode cX5_refresh 42 = .ok (.getfield 15, 3) ∧ 42 + 3 = 45 := ⟨by decide +kernel, rfl⟩
theorem dX5_refresh_45 : decode cX5_refresh 45 = .ok (.iload_n 3, 1) ∧ 45 + 1 = 46 := ⟨by decide +kernel, rfl⟩
theorem dX5_refresh_46 : decode cX5_refresh 46 = .ok (.bipush (-6), 2) ∧ 46 + 2 = 48 := ⟨by decide +kernel, rfl⟩
theorem dX5_refresh_48 : decode cX5_refresh 48 = .ok (.iastore, 1) ∧ 48 + 1 = 49 := ⟨by decide +kernel, rfl⟩
theorem dX5_refresh_49 : decode cX5_refresh 49 = .ok (.goto 51, 3) ∧ 49 + 3 = 52 ∧ ((49 : Nat) : Int) + (51) = ((100 : Nat) : Int) := ⟨by decide +kernel, rfl, rfl⟩
theorem dX5_refresh_52 : decode cX5_refresh 52 = .ok (.aload_n 0, 1) ∧ 52 + 1 = 53 := ⟨by decide +kernel, rfl⟩
theorem dX5_refresh_53 : decode cX5_refresh 53 = .ok (.getfield 15, 3) ∧ 53 + 3 = 56 := ⟨by decide +kernel, rfl⟩
theorem dX5_refresh_56 : decode cX5_refresh 56 = .ok (.iload_n 3, 1) ∧ 56 + 1 = 57 := ⟨by decide +kernel, rfl⟩
theorem dX5_refresh_57 : decode cX5_refresh 57 = .ok (.aload_n 0, 1) ∧ 57 + 1 = 58 := ⟨by decide +kernel, rfl⟩
theorem dX5_refresh_58 : decode cX5_refresh 58 = .ok (.getfield 18, 3) ∧ 58 + 3 = 61 := ⟨by decide +kernel, rfl⟩
theorem dX5_refresh_61 : decode cX5_refresh 61 = .ok (.iastore, 1) ∧ 61 + 1 = 62 := ⟨by decide +kernel, rfl⟩
theorem dX5_refresh_62 : decode cX5_refresh 62 = .ok (.aload_n 0, 1) ∧ 62 + 1 = 63 := ⟨by decide +kernel, rfl⟩
theorem dX5_refresh_63 : decode cX5_refresh 63 = .ok (.getfield 9, 3) ∧ 63 + 3 = 66 := ⟨by decide +kernel, rfl⟩
theorem dX5_refresh_66 : decode cX5_refresh 66 = .ok (.aload_n 0, 1) ∧ 66 + 1 = 67 := ⟨by decide +kernel, rfl⟩
theorem dX5_refresh_67 : decode cX5_refresh 67 = .ok (.getfield 18, 3) ∧ 67 + 3 = 70 := ⟨by decide +kernel, rfl⟩
theorem dX5_refresh_70 : decode cX5_refresh 70 = .ok (.iload_n 3, 1) ∧ 70 + 1 = 71 := ⟨by decide +kernel, rfl⟩
theorem dX5_refresh_71 : decode cX5_refresh 71 = .ok (.iastore, 1) ∧ 71 + 1 = 72 := ⟨by decide +kernel, rfl⟩
theorem dX5_refresh_72 : decode cX5_refresh 72 = .ok (.aload_n 0, 1) ∧ 72 + 1 = 73 := ⟨by decide +kernel, rfl⟩
theorem dX5_refresh_73 : decode cX5_refresh 73 = .ok (.dup, 1) ∧ 73 + 1 = 74 := ⟨by decide +kernel, rfl⟩
theorem dX5_refresh_74 : decode cX5_refresh 74 = .ok (.getfield 18, 3) ∧ 74 + 3 = 77 := ⟨by decide +kernel, rfl⟩
theorem dX5_refresh_77 : decode cX5_refresh 77 = .ok (.iconst 1, 1) ∧ 77 + 1 = 78 := ⟨by decide +kernel, rfl⟩
theorem dX5_refresh_78 : decode cX5_refresh 78 = .ok (.iadd, 1) ∧ 78 + 1 = 79 := ⟨by decide +kernel, rfl⟩
theorem dX5_refresh_79 : decode cX5_refresh 79 = .ok (.putfield 18, 3) ∧ 79 + 3 = 82 := ⟨by decide +kernel, rfl⟩
theorem dX5_refresh_82 : decode cX5_refresh 82 = .ok (.aload_n 1, 1) ∧ 82 + 1 = 83 := ⟨by decide +kernel, rfl⟩
theorem dX5_refresh_83 : decode cX5_refresh 83 = .ok (.getfield 28, 3) ∧ 83 + 3 = 86 := ⟨by decide +kernel, rfl⟩
theorem dX5_refresh_86 : decode cX5_refresh 86 = .ok (.iload_n 3, 1) ∧ 86 + 1 = 87 := ⟨by decide +kernel, rfl⟩
theorem dX5_refresh_87 : decode cX5_refresh 87 = .ok (.iaload, 1) ∧ 87 + 1 = 88 := ⟨by decide +kernel, rfl⟩
theorem dX5_refresh_88 : decode cX5_refresh 88 = .ok (.iconst 1, 1) ∧ 88 + 1 = 89 := ⟨by decide +kernel, rfl⟩
theorem dX5_refresh_89 : decode cX5_refresh 89 = .ok (.if_icmp .ne 8, 3) ∧ 89 + 3 = 92 ∧ ((89 : Nat) : Int) + (8) = ((97 : Nat) : Int) := ⟨by decide +kernel, rfl, rfl⟩
theorem dX5_refresh_92 : decode cX5_refresh 92 = .ok (.iload 4, 2) ∧ 92 + 2 = 94 := ⟨by decide +kernel, rfl⟩
theorem dX5_refresh_94 : decode cX5_refresh 94 = .ok (.goto 5, 3) ∧ 94 + 3 = 97 ∧ ((94 : Nat) : Int) + (5) = ((99 : Nat) : Int) := ⟨by decide +kernel, rfl, rfl⟩
theorem dX5_refresh_97 : decode cX5_refresh 97 = .ok (.bipush 40, 2) ∧ 97 + 2 = 99 := ⟨by decide +kernel, rfl⟩
theorem dX5_refresh_99 : decode cX5_refresh 99 = .ok (.istore_n 2, 1) ∧ 99 + 1 = 100 := ⟨by decide +kernel, rfl⟩
theorem dX5_refresh_100 : decode cX5_refresh 100 = .ok (.iinc 3 1, 3) ∧ 100 + 3 = 103 := ⟨by decide +kernel, rfl⟩
theorem dX5_refresh_103 : decode cX5_refresh 103 = .ok (.goto (-93), 3) ∧ 103 + 3 = 106 ∧ ((103 : Nat) : Int) + (-93) = ((10 : Nat) : Int) := ⟨by decide +kernel, rfl, rfl⟩
theorem dX5_refresh_106 : decode cX5_refresh 106 = .ok (.return_, 1) ∧ 106 + 1 = 107 := ⟨by decide +kernel, rfl⟩
theorem dX5_placeOf_0 : decode cX5_placeOf 0 = .ok (.iload_n 1, 1) ∧ 0 + 1 = 1 := ⟨by decide +kernel, rfl⟩
theorem dX5_placeOf_1 : decode cX5_placeOf 1 = .ok (.ifCond .lt 26, 3) ∧ 1 + 3 = 4 ∧ ((1 : Nat) : Int) + (26) = ((27 : Nat) : Int) := ⟨by decide +kernel, rfl, rfl⟩
theorem dX5_placeOf_4 : decode cX5_placeOf 4 = .ok (.iload_n 1, 1) ∧ 4 + 1 = 5 := ⟨by decide +kernel, rfl⟩
theorem dX5_placeOf_5 : decode cX5_placeOf 5 = .ok (.aload_n 0, 1) ∧ 5 + 1 = 6 := ⟨by decide +kernel, rfl⟩
theorem dX5_placeOf_6 : decode cX5_placeOf 6 = .ok (.getfield 18, 3) ∧ 6 + 3 = 9 := ⟨by decide +kernel, rfl⟩
theorem dX5_placeOf_9 : decode cX5_placeOf 9 = .ok (.if_icmp .ge 18, 3) ∧ 9 + 3 = 12 ∧ ((9 : Nat) : Int) + (18) = ((27 : Nat) : Int) := ⟨by decide +kernel, rfl, rfl⟩
theorem dX5_placeOf_12 : decode cX5_placeOf 12 = .ok (.iload_n 1, 1) ∧ 12 + 1 = 13 := ⟨by decide +kernel, rfl⟩
theorem dX5_placeOf_13 : decode cX5_placeOf 13 = .ok (.bipush 120, 2) ∧ 13 + 2 = 15 := ⟨by decide +kernel, rfl⟩
theorem dX5_placeOf_15 : decode cX5_placeOf 15 = .ok (.if_icmp .ge 12, 3) ∧ 15 + 3 = 18 ∧ ((15 : Nat) : Int) + (12) = ((27 : Nat) : Int) := ⟨by decide +kernel, rfl, rfl⟩
theorem dX5_placeOf_18 : decode cX5_placeOf 18 = .ok (.aload_n 0, 1) ∧ 18 + 1 = 19 := ⟨by decide +kernel, rfl⟩
theorem dX5_placeOf_19 : decode cX5_placeOf 19 = .ok (.getfield 9, 3) ∧ 19 + 3 = 22 := ⟨by decide +kernel, rfl⟩
theorem dX5_placeOf_22 : decode cX5_placeOf 22 = .ok (.iload_n 1, 1) ∧ 22 + 1 = 23 := ⟨by decide +kernel, rfl⟩
theorem dX5_placeOf_23 : decode cX5_placeOf 23 = .ok (.iaload, 1) ∧ 23 + 1 = 24 := ⟨by decide +kernel, rfl⟩
theorem dX5_placeOf_24 : decode cX5_placeOf 24 = .ok (.goto 5, 3) ∧ 24 + 3 = 27 ∧ ((24 : Nat) : Int) + (5) = ((29 : Nat) : Int) := ⟨by decide +kernel, rfl, rfl⟩
theorem dX5_placeOf_27 : decode cX5_placeOf 27 = .ok (.bipush (-2), 2) ∧ 27 + 2 = 29 := ⟨by decide +kernel, rfl⟩
theorem dX5_placeOf_29 : decode cX5_placeOf 29 = .ok (.ireturn, 1) ∧ 29 + 1 = 30 := ⟨by decide +kernel, rfl⟩
theorem dX5_rowOf_0 : decode cX5_rowOf 0 = .ok (.iload_n 1, 1) ∧ 0 + 1 = 1 := ⟨by decide +kernel, rfl⟩
theorem dX5_rowOf_1 : decode cX5_rowOf 1 = .ok (.ifCond .lt 18, 3) ∧ 1 + 3 = 4 ∧ ((1 : Nat) : Int) + (18) = ((19 : Nat) : Int) := ⟨by decide +kernel, rfl, rfl⟩
theorem dX5_rowOf_4 : decode cX5_rowOf 4 = .ok (.iload_n 1, 1) ∧ 4 + 1 = 5 := ⟨by decide +kernel, rfl⟩
theorem dX5_rowOf_5 : decode cX5_rowOf 5 = .ok (.bipush 120, 2) ∧ 5 + 2 = 7 := ⟨by decide +kernel, rfl⟩
theorem dX5_rowOf_7 : decode cX5_rowOf 7 = .ok (.if_icmp .ge 12, 3) ∧ 7 + 3 = 10 ∧ ((7 : Nat) : Int) + (12) = ((19 : Nat) : Int) := ⟨by decide +kernel, rfl, rfl⟩
theorem dX5_rowOf_10 : decode cX5_rowOf 10 = .ok (.aload_n 0, 1) ∧ 10 + 1 = 11 := ⟨by decide +kernel, rfl⟩
theorem dX5_rowOf_11 : decode cX5_rowOf 11 = .ok (.getfield 15, 3) ∧ 11 + 3 = 14 := ⟨by decide +kernel, rfl⟩
theorem dX5_rowOf_14 : decode cX5_rowOf 14 = .ok (.iload_n 1, 1) ∧ 14 + 1 = 15 := ⟨by decide +kernel, rfl⟩
theorem dX5_rowOf_15 : decode cX5_rowOf 15 = .ok (.iaload, 1) ∧ 15 + 1 = 16 := ⟨by decide +kernel, rfl⟩
theorem dX5_rowOf_16 : decode cX5_rowOf 16 = .ok (.goto 5, 3) ∧ 16 + 3 = 19 ∧ ((16 : Nat) : Int) + (5) = ((21 : Nat) : Int) := ⟨by decide +kernel, rfl, rfl⟩
theorem dX5_rowOf_19 : decode cX5_rowOf 19 = .ok (.bipush (-6), 2) ∧ 19 + 2 = 21 := ⟨by decide +kernel, rfl⟩
theorem dX5_rowOf_21 : decode cX5_rowOf 21 = .ok (.ireturn, 1) ∧ 21 + 1 = 22 := ⟨by decide +kernel, rfl⟩
theorem dX5_seenBetween_0 : decode cX5_seenBetween 0 = .ok (.iconst 0, 1) ∧ 0 + 1 = 1 := ⟨by decide +kernel, rfl⟩
theorem dX5_seenBetween_1 : decode cX5_seenBetween 1 = .ok (.istore_n 3, 1) ∧ 1 + 1 = 2 := ⟨by decide +kernel, rfl⟩
theorem dX5_seenBetween_2 : decode cX5_seenBetween 2 = .ok (.iload_n 1, 1) ∧ 2 + 1 = 3 := ⟨by decide +kernel, rfl⟩
theorem dX5_seenBetween_3 : decode cX5_seenBetween 3 = .ok (.istore 4, 2) ∧ 3 + 2 = 5 := ⟨by decide +kernel, rfl⟩
theorem dX5_seenBetween_5 : decode cX5_seenBetween 5 = .ok (.iload 4, 2) ∧ 5 + 2 = 7 := ⟨by decide +kernel, rfl⟩
theorem dX5_seenBetween_7 : decode cX5_seenBetween 7 = .ok (.iload_n 2, 1) ∧ 7 + 1 = 8 := ⟨by decide +kernel, rfl⟩
theorem dX5_seenBetween_8 : decode cX5_seenBetween 8 = .ok (.if_icmp .ge 23, 3) ∧ 8 + 3 = 11 ∧ ((8 : Nat) : Int) + (23) = ((31 : Nat) : Int) := ⟨by decide +kernel, rfl, rfl⟩
theorem dX5_seenBetween_11 : decode cX5_seenBetween 11 = .ok (.aload_n 0, 1) ∧ 11 + 1 = 12 := ⟨by decide +kernel, rfl⟩
theorem dX5_seenBetween_12 : decode cX5_seenBetween 12 = .ok (.iload 4, 2) ∧ 12 + 2 = 14 := ⟨by decide +kernel, rfl⟩
theorem dX5_seenBetween_14 : decode cX5_seenBetween 14 = .ok (.invokevirtual 31, 3) ∧ 14 + 3 = 17 := ⟨by decide +kernel, rfl⟩
theorem dX5_seenBetween_17 : decode cX5_seenBetween 17 = .ok (.bipush (-6), 2) ∧ 17 + 2 = 19 := ⟨by decide +kernel, rfl⟩
theorem dX5_seenBetween_19 : decode cX5_seenBetween 19 = .ok (.if_icmp .eq 6, 3) ∧ 19 + 3 = 22 ∧ ((19 : Nat) : Int) + (6) = ((25 : Nat) : Int) := ⟨by decide +kernel, rfl, rfl⟩
theorem dX5_seenBetween_22 : decode cX5_seenBetween 22 = .ok (.iinc 3 1, 3) ∧ 22 + 3 = 25 := ⟨by decide +kernel, rfl⟩
theorem dX5_seenBetween_25 : decode cX5_seenBetween 25 = .ok (.iinc 4 1, 3) ∧ 25 + 3 = 28 := ⟨by decide +kernel, rfl⟩
theorem dX5_seenBetween_28 : decode cX5_seenBetween 28 = .ok (.goto (-23), 3) ∧ 28 + 3 = 31 ∧ ((28 : Nat) : Int) + (-23) = ((5 : Nat) : Int) := ⟨by decide +kernel, rfl, rfl⟩
theorem dX5_seenBetween_31 : decode cX5_seenBetween 31 = .ok (.iload_n 3, 1) ∧ 31 + 1 = 32 := ⟨by decide +kernel, rfl⟩
theorem dX5_seenBetween_32 : decode cX5_seenBetween 32 = .ok (.ireturn, 1) ∧ 32 + 1 = 33 := ⟨by decide +kernel, rfl⟩
theorem dX5_seenOf_0 : decode cX5_seenOf 0 = .ok (.iconst 0, 1) ∧ 0 + 1 = 1 := ⟨by decide +kernel, rfl⟩
theorem dX5_seenOf_1 : decode cX5_seenOf 1 = .ok (.istore_n 3, 1) ∧ 1 + 1 = 2 := ⟨by decide +kernel, rfl⟩
theorem dX5_seenOf_2 : decode cX5_seenOf 2 = .ok (.iconst 0, 1) ∧ 2 + 1 = 3 := ⟨by decide +kernel, rfl⟩
theorem dX5_seenOf_3 : decode cX5_seenOf 3 = .ok (.istore 4, 2) ∧ 3 + 2 = 5 := ⟨by decide +kernel, rfl⟩
theorem dX5_seenOf_5 : decode cX5_seenOf 5 = .ok (.iload 4, 2) ∧ 5 + 2 = 7 := ⟨by decide +kernel, rfl⟩
theorem dX5_seenOf_7 : decode cX5_seenOf 7 = .ok (.aload_n 0, 1) ∧ 7 + 1 = 8 := ⟨by decide +kernel, rfl⟩
theorem dX5_seenOf_8 : decode cX5_seenOf 8 = .ok (.getfield 18, 3) ∧ 8 + 3 = 11 := ⟨by decide +kernel, rfl⟩
theorem dX5_seenOf_11 : decode cX5_seenOf 11 = .ok (.if_icmp .ge 27, 3) ∧ 11 + 3 = 14 ∧ ((11 : Nat) : Int) + (27) = ((38 : Nat) : Int) := ⟨by decide +kernel, rfl, rfl⟩
theorem dX5_seenOf_14 : decode cX5_seenOf 14 = .ok (.aload_n 1, 1) ∧ 14 + 1 = 15 := ⟨by decide +kernel, rfl⟩
theorem dX5_seenOf_15 : decode cX5_seenOf 15 = .ok (.aload_n 0, 1) ∧ 15 + 1 = 16 := ⟨by decide +kernel, rfl⟩
theorem dX5_seenOf_16 : decode cX5_seenOf 16 = .ok (.getfield 9, 3) ∧ 16 + 3 = 19 := ⟨by decide +kernel, rfl⟩
theorem dX5_seenOf_19 : decode cX5_seenOf 19 = .ok (.iload 4, 2) ∧ 19 + 2 = 21 := ⟨by decide +kernel, rfl⟩
theorem dX5_seenOf_21 : decode cX5_seenOf 21 = .ok (.iaload, 1) ∧ 21 + 1 = 22 := ⟨by decide +kernel, rfl⟩
theorem dX5_seenOf_22 : decode cX5_seenOf 22 = .ok (.invokevirtual 35, 3) ∧ 22 + 3 = 25 := ⟨by decide +kernel, rfl⟩
theorem dX5_seenOf_25 : decode cX5_seenOf 25 = .ok (.iload_n 2, 1) ∧ 25 + 1 = 26 := ⟨by decide +kernel, rfl⟩
theorem dX5_seenOf_26 : decode cX5_seenOf 26 = .ok (.if_icmp .ne 6, 3) ∧ 26 + 3 = 29 ∧ ((26 : Nat) : Int) + (6) = ((32 : Nat) : Int) := ⟨by decide +kernel, rfl, rfl⟩
theorem dX5_seenOf_29 : decode cX5_seenOf 29 = .ok (.iinc 3 1, 3) ∧ 29 + 3 = 32 := ⟨by decide +kernel, rfl⟩
theorem dX5_seenOf_32 : decode cX5_seenOf 32 = .ok (.iinc 4 1, 3) ∧ 32 + 3 = 35 := ⟨by decide +kernel, rfl⟩
theorem dX5_seenOf_35 : decode cX5_seenOf 35 = .ok (.goto (-30), 3) ∧ 35 + 3 = 38 ∧ ((35 : Nat) : Int) + (-30) = ((5 : Nat) : Int) := ⟨by decide +kernel, rfl, rfl⟩
theorem dX5_seenOf_38 : decode cX5_seenOf 38 = .ok (.iload_n 3, 1) ∧ 38 + 1 = 39 := ⟨by decide +kernel, rfl⟩
theorem dX5_seenOf_39 : decode cX5_seenOf 39 = .ok (.ireturn, 1) ∧ 39 + 1 = 40 := ⟨by decide +kernel, rfl⟩
theorem dX5_firstOf_0 : decode cX5_firstOf 0 = .ok (.iconst 0, 1) ∧ 0 + 1 = 1 := ⟨by decide +kernel, rfl⟩
theorem dX5_firstOf_1 : decode cX5_firstOf 1 = .ok (.istore_n 3, 1) ∧ 1 + 1 = 2 := ⟨by decide +kernel, rfl⟩
theorem dX5_firstOf_2 : decode cX5_firstOf 2 = .ok (.iload_n 3, 1) ∧ 2 + 1 = 3 := ⟨by decide +kernel, rfl⟩
theorem dX5_firstOf_3 : decode cX5_firstOf 3 = .ok (.aload_n 0, 1) ∧ 3 + 1 = 4 := ⟨by decide +kernel, rfl⟩
theorem dX5_firstOf_4 : decode cX5_firstOf 4 = .ok (.getfield 18, 3) ∧ 4 + 3 = 7 := ⟨by decide +kernel, rfl⟩
theorem dX5_firstOf_7 : decode cX5_firstOf 7 = .ok (.if_icmp .ge 25, 3) ∧ 7 + 3 = 10 ∧ ((7 : Nat) : Int) + (25) = ((32 : Nat) : Int) := ⟨by decide +kernel, rfl, rfl⟩
theorem dX5_firstOf_10 : decode cX5_firstOf 10 = .ok (.aload_n 1, 1) ∧ 10 + 1 = 11 := ⟨by decide +kernel, rfl⟩
theorem dX5_firstOf_11 : decode cX5_firstOf 11 = .ok (.aload_n 0, 1) ∧ 11 + 1 = 12 := ⟨by decide +kernel, rfl⟩
theorem dX5_firstOf_12 : decode cX5_firstOf 12 = .ok (.getfield 9, 3) ∧ 12 + 3 = 15 := ⟨by decide +kernel, rfl⟩
theorem dX5_firstOf_15 : decode cX5_firstOf 15 = .ok (.iload_n 3, 1) ∧ 15 + 1 = 16 := ⟨by decide +kernel, rfl⟩
theorem dX5_firstOf_16 : decode cX5_firstOf 16 = .ok (.iaload, 1) ∧ 16 + 1 = 17 := ⟨by decide +kernel, rfl⟩
theorem dX5_firstOf_17 : decode cX5_firstOf 17 = .ok (.invokevirtual 35, 3) ∧ 17 + 3 = 20 := ⟨by decide +kernel, rfl⟩
theorem dX5_firstOf_20 : decode cX5_firstOf 20 = .ok (.iload_n 2, 1) ∧ 20 + 1 = 21 := ⟨by decide +kernel, rfl⟩
theorem dX5_firstOf_21 : decode cX5_firstOf 21 = .ok (.if_icmp .ne 5, 3) ∧ 21 + 3 = 24 ∧ ((21 : Nat) : Int) + (5) = ((26 : Nat) : Int) := ⟨by decide +kernel, rfl, rfl⟩
theorem dX5_firstOf_24 : decode cX5_firstOf 24 = .ok (.iload_n 3, 1) ∧ 24 + 1 = 25 := ⟨by decide +kernel, rfl⟩
theorem dX5_firstOf_25 : decode cX5_firstOf 25 = .ok (.ireturn, 1) ∧ 25 + 1 = 26 := ⟨by decide +kernel, rfl⟩
theorem dX5_firstOf_26 : decode cX5_firstOf 26 = .ok (.iinc 3 1, 3) ∧ 26 + 3 = 29 := ⟨by decide +kernel, rfl⟩
theorem dX5_firstOf_29 : decode cX5_firstOf 29 = .ok (.goto (-27), 3) ∧ 29 + 3 = 32 ∧ ((29 : Nat) : Int) + (-27) = ((2 : Nat) : Int) := ⟨by decide +kernel, rfl, rfl⟩
theorem dX5_firstOf_32 : decode cX5_firstOf 32 = .ok (.bipush (-6), 2) ∧ 32 + 2 = 34 := ⟨by decide +kernel, rfl⟩
theorem dX5_firstOf_34 : decode cX5_firstOf 34 = .ok (.ireturn, 1) ∧ 34 + 1 = 35 := ⟨by decide +kernel, rfl⟩
theorem dX6_init_0 : decode cX6_init 0 = .ok (.aload_n 0, 1) ∧ 0 + 1 = 1 := ⟨by decide +kernel, rfl⟩
theorem dX6_init_1 : decode cX6_init 1 = .ok (.invokespecial 3, 3) ∧ 1 + 3 = 4 := ⟨by decide +kernel, rfl⟩
theorem dX6_init_4 : decode cX6_init 4 = .ok (.aload_n 0, 1) ∧ 4 + 1 = 5 := ⟨by decide +kernel, rfl⟩
theorem dX6_init_5 : decode cX6_init 5 = .ok (.new 9, 3) ∧ 5 + 3 = 8 := ⟨by decide +kernel, rfl⟩
theorem dX6_init_8 : decode cX6_init 8 = .ok (.dup, 1) ∧ 8 + 1 = 9 := ⟨by decide +kernel, rfl⟩
theorem dX6_init_9 : decode cX6_init 9 = .ok (.invokespecial 11, 3) ∧ 9 + 3 = 12 := ⟨by decide +kernel, rfl⟩
theorem dX6_init_12 : decode cX6_init 12 = .ok (.putfield 12, 3) ∧ 12 + 3 = 15 := ⟨by decide +kernel, rfl⟩
theorem dX6_init_15 : decode cX6_init 15 = .ok (.aload_n 0, 1) ∧ 15 + 1 = 16 := ⟨by decide +kernel, rfl⟩
theorem dX6_init_16 : decode cX6_init 16 = .ok (.new 18, 3) ∧ 16 + 3 = 19 := ⟨by decide +kernel, rfl⟩
theorem dX6_init_19 : decode cX6_init 19 = .ok (.dup, 1) ∧ 19 + 1 = 20 := ⟨by decide +kernel, rfl⟩
theorem dX6_init_20 : decode cX6_init 20 = .ok (.invokespecial 20, 3) ∧ 20 + 3 = 23 := ⟨by decide +kernel, rfl⟩
theorem dX6_init_23 : decode cX6_init 23 = .ok (.putfield 21, 3) ∧ 23 + 3 = 26 := ⟨by decide +kernel, rfl⟩
theorem dX6_init_26 : decode cX6_init 26 = .ok (.aload_n 0, 1) ∧ 26 + 1 = 27 := ⟨by decide +kernel, rfl⟩
theorem dX6_init_27 : decode cX6_init 27 = .ok (.new 25, 3) ∧ 27 + 3 = 30 := ⟨by decide +kernel, rfl⟩
theorem dX6_init_30 : decode cX6_init 30 = .ok (.dup, 1) ∧ 30 + 1 = 31 := ⟨by decide +kernel, rfl⟩
theorem dX6_init_31 : decode cX6_init 31 = .ok (.invokespecial 27, 3) ∧ 31 + 3 = 34 := ⟨by decide +kernel, rfl⟩
theorem dX6_init_34 : decode cX6_init 34 = .ok (.putfield 28, 3) ∧ 34 + 3 = 37 := ⟨by decide +kernel, rfl⟩
theorem dX6_init_37 : decode cX6_init 37 = .ok (.return_, 1) ∧ 37 + 1 = 38 := ⟨by decide +kernel, rfl⟩
theorem dX6_copyFrom_0 : decode cX6_copyFrom 0 = .ok (.aload_n 0, 1) ∧ 0 + 1 = 1 := ⟨by decide +kernel, rfl⟩
theorem dX6_copyFrom_1 : decode cX6_copyFrom 1 = .ok (.getfield 12, 3) ∧ 1 + 3 = 4 := ⟨by decide +kernel, rfl⟩
theorem dX6_copyFrom_4 : decode cX6_copyFrom 4 = .ok (.aload_n 1, 1) ∧ 4 + 1 = 5 := ⟨by decide +kernel, rfl⟩
theorem dX6_copyFrom_5 : decode cX6_copyFrom 5 = .ok (.getfield 12, 3) ∧ 5 + 3 = 8 := ⟨by decide +kernel, rfl⟩
theorem dX6_copyFrom_8 : decode cX6_copyFrom 8 = .ok (.invokevirtual 32, 3) ∧ 8 + 3 = 11 := ⟨by decide +kernel, rfl⟩
theorem dX6_copyFrom_11 : decode cX6_copyFrom 11 = .ok (.aload_n 0, 1) ∧ 11 + 1 = 12 := ⟨by decide +kernel, rfl⟩
theorem dX6_copyFrom_12 : decode cX6_copyFrom 12 = .ok (.getfield 21, 3) ∧ 12 + 3 = 15 := ⟨by decide +kernel, rfl⟩
theorem dX6_copyFrom_15 : decode cX6_copyFrom 15 = .ok (.aload_n 1, 1) ∧ 15 + 1 = 16 := ⟨by decide +kernel, rfl⟩
theorem dX6_copyFrom_16 : decode cX6_copyFrom 16 = .ok (.getfield 21, 3) ∧ 16 + 3 = 19 := ⟨by decide +kernel, rfl⟩
theorem dX6_copyFrom_19 : decode cX6_copyFrom 19 = .ok (.invokevirtual 36, 3) ∧ 19 + 3 = 22 := ⟨by decide +kernel, rfl⟩
theorem dX6_copyFrom_22 : decode cX6_copyFrom 22 = .ok (.aload_n 0, 1) ∧ 22 + 1 = 23 := ⟨by decide +kernel, rfl⟩
theorem dX6_copyFrom_23 : decode cX6_copyFrom 23 = .ok (.getfield 28, 3) ∧ 23 + 3 = 26 := ⟨by decide +kernel, rfl⟩
theorem dX6_copyFrom_26 : decode cX6_copyFrom 26 = .ok (.aload_n 1, 1) ∧ 26 + 1 = 27 := ⟨by decide +kernel, rfl⟩
theorem dX6_copyFrom_27 : decode cX6_copyFrom 27 = .ok (.getfield 28, 3) ∧ 27 + 3 = 30 := ⟨by decide +kernel, rfl⟩
theorem dX6_copyFrom_30 : decode cX6_copyFrom 30 = .ok (.invokevirtual 39, 3) ∧ 30 + 3 = 33 := ⟨by decide +kernel, rfl⟩
theorem dX6_copyFrom_33 : decode cX6_copyFrom 33 = .ok (.return_, 1) ∧ 33 + 1 = 34 := ⟨by decide +kernel, rfl⟩
theorem dX6_clearNodes_0 : decode cX6_clearNodes 0 = .ok (.aload_n 0, 1) ∧ 0 + 1 = 1 := ⟨by decide +kernel, rfl⟩
theorem dX6_clearNodes_1 : decode cX6_clearNodes 1 = .ok (.getfield 12, 3) ∧ 1 + 3 = 4 := ⟨by decide +kernel, rfl⟩
theorem dX6_clearNodes_4 : decode cX6_clearNodes 4 = .ok (.iconst 0, 1) ∧ 4 + 1 = 5 := ⟨by decide +kernel, rfl⟩
theorem dX6_clearNodes_5 : decode cX6_clearNodes 5 = .ok (.putfield 42, 3) ∧ 5 + 3 = 8 := ⟨by decide +kernel, rfl⟩
theorem dX6_clearNodes_8 : decode cX6_clearNodes 8 = .ok (.aload_n 0, 1) ∧ 8 + 1 = 9 := ⟨by decide +kernel, rfl⟩
theorem dX6_clearNodes_9 : decode cX6_clearNodes 9 = .ok (.getfield 21, 3) ∧ 9 + 3 = 12 := ⟨by decide +kernel, rfl⟩
theorem dX6_clearNodes_12 : decode cX6_clearNodes 12 = .ok (.iconst 0, 1) ∧ 12 + 1 = 13 := ⟨by decide +kernel, rfl⟩
theorem dX6_clearNodes_13 : decode cX6_clearNodes 13 = .ok (.putfield 46, 3) ∧ 13 + 3 = 16 := ⟨by decide +kernel, rfl⟩
theorem dX6_clearNodes_16 : decode cX6_clearNodes 16 = .ok (.return_, 1) ∧ 16 + 1 = 17 := ⟨by decide +kernel, rfl⟩
theorem dX6_placeAgain_0 : decode cX6_placeAgain 0 = .ok (.aload_n 0, 1) ∧ 0 + 1 = 1 := ⟨by decide +kernel, rfl⟩
theorem dX6_placeAgain_1 : decode cX6_placeAgain 1 = .ok (.getfield 28, 3) ∧ 1 + 3 = 4 := ⟨by decide +kernel, rfl⟩
theorem dX6_placeAgain_4 : decode cX6_placeAgain 4 = .ok (.iconst 0, 1) ∧ 4 + 1 = 5 := ⟨by decide +kernel, rfl⟩
theorem dX6_placeAgain_5 : decode cX6_placeAgain 5 = .ok (.putfield 49, 3) ∧ 5 + 3 = 8 := ⟨by decide +kernel, rfl⟩
theorem dX6_placeAgain_8 : decode cX6_placeAgain 8 = .ok (.aload_n 0, 1) ∧ 8 + 1 = 9 := ⟨by decide +kernel, rfl⟩
theorem dX6_placeAgain_9 : decode cX6_placeAgain 9 = .ok (.aload_n 1, 1) ∧ 9 + 1 = 10 := ⟨by decide +kernel, rfl⟩
theorem dX6_placeAgain_10 : decode cX6_placeAgain 10 = .ok (.iconst (-1), 1) ∧ 10 + 1 = 11 := ⟨by decide +kernel, rfl⟩
theorem dX6_placeAgain_11 : decode cX6_placeAgain 11 = .ok (.iconst (-1), 1) ∧ 11 + 1 = 12 := ⟨by decide +kernel, rfl⟩
theorem dX6_placeAgain_12 : decode cX6_placeAgain 12 = .ok (.iconst 1, 1) ∧ 12 + 1 = 13 := ⟨by decide +kernel, rfl⟩
theorem dX6_placeAgain_13 : decode cX6_placeAgain 13 = .ok (.invokestatic 50, 3) ∧ 13 + 3 = 16 := ⟨by decide +kernel, rfl⟩
theorem dX6_placeAgain_16 : decode cX6_placeAgain 16 = .ok (.ireturn, 1) ∧ 16 + 1 = 17 := ⟨by decide +kernel, rfl⟩
theorem dX6_placeAnew_0 : decode cX6_placeAnew 0 = .ok (.aload_n 0, 1) ∧ 0 + 1 = 1 := ⟨by decide +kernel, rfl⟩
theorem dX6_placeAnew_1 : decode cX6_placeAnew 1 = .ok (.getfield 28, 3) ∧ 1 + 3 = 4 := ⟨by decide +kernel, rfl⟩
theorem dX6_placeAnew_4 : decode cX6_placeAnew 4 = .ok (.iconst 0, 1) ∧ 4 + 1 = 5 := ⟨by decide +kernel, rfl⟩
theorem dX6_placeAnew_5 : decode cX6_placeAnew 5 = .ok (.putfield 49, 3) ∧ 5 + 3 = 8 := ⟨by decide +kernel, rfl⟩
theorem dX6_placeAnew_8 : decode cX6_placeAnew 8 = .ok (.aload_n 0, 1) ∧ 8 + 1 = 9 := ⟨by decide +kernel, rfl⟩
theorem dX6_placeAnew_9 : decode cX6_placeAnew 9 = .ok (.aload_n 0, 1) ∧ 9 + 1 = 10 := ⟨by decide +kernel, rfl⟩
theorem dX6_placeAnew_10 : decode cX6_placeAnew 10 = .ok (.getfield 28, 3) ∧ 10 + 3 = 13 := ⟨by decide +kernel, rfl⟩
theorem dX6_placeAnew_13 : decode cX6_placeAnew 13 = .ok (.iconst (-1), 1) ∧ 13 + 1 = 14 := ⟨by decide +kernel, rfl⟩
theorem dX6_placeAnew_14 : decode cX6_placeAnew 14 = .ok (.bipush (-2), 2) ∧ 14 + 2 = 16 := ⟨by decide +kernel, rfl⟩
theorem dX6_placeAnew_16 : decode cX6_placeAnew 16 = .ok (.iconst 1, 1) ∧ 16 + 1 = 17 := ⟨by decide +kernel, rfl⟩
theorem dX6_placeAnew_17 : decode cX6_placeAnew 17 = .ok (.invokestatic 50, 3) ∧ 17 + 3 = 20 := ⟨by decide +kernel, rfl⟩
theorem dX6_placeAnew_20 : decode cX6_placeAnew 20 = .ok (.ireturn, 1) ∧ 20 + 1 = 21 := ⟨by decide +kernel, rfl⟩
theorem dX6_grow_0 : decode cX6_grow 0 = .ok (.aload_n 0, 1) ∧ 0 + 1 = 1 := ⟨by decide +kernel, rfl⟩
theorem dX6_grow_1 : decode cX6_grow 1 = .ok (.getfield 21, 3) ∧ 1 + 3 = 4 := ⟨by decide +kernel, rfl⟩
theorem dX6_grow_4 : decode cX6_grow 4 = .ok (.astore 5, 2) ∧ 4 + 2 = 6 := ⟨by decide +kernel, rfl⟩
theorem dX6_grow_6 : decode cX6_grow 6 = .ok (.aload_n 0, 1) ∧ 6 + 1 = 7 := ⟨by decide +kernel, rfl⟩
theorem dX6_grow_7 : decode cX6_grow 7 = .ok (.getfield 28, 3) ∧ 7 + 3 = 10 := ⟨by decide +kernel, rfl⟩
theorem dX6_grow_10 : decode cX6_grow 10 = .ok (.iload_n 2, 1) ∧ 10 + 1 = 11 := ⟨by decide +kernel, rfl⟩
theorem dX6_grow_11 : decode cX6_grow 11 = .ok (.invokevirtual 54, 3) ∧ 11 + 3 = 14 := ⟨by decide +kernel, rfl⟩
theorem dX6_grow_14 : decode cX6_grow 14 = .ok (.istore 6, 2) ∧ 14 + 2 = 16 := ⟨by decide +kernel, rfl⟩
theorem dX6_grow_16 : decode cX6_grow 16 = .ok (.iconst 0, 1) ∧ 16 + 1 = 17 := ⟨by decide +kernel, rfl⟩
theorem dX6_grow_17 : decode cX6_grow 17 = .ok (.istore 7, 2) ∧ 17 + 2 = 19 := ⟨by decide +kernel, rfl⟩
theorem dX6_grow_19 : decode cX6_grow 19 = .ok (.iload 7, 2) ∧ 19 + 2 = 21 := ⟨by decide +kernel, rfl⟩
theorem dX6_grow_21 : decode cX6_grow 21 = .ok (.aload 5, 2) ∧ 21 + 2 = 23 := ⟨by decide +kernel, rfl⟩
theorem dX6_grow_23 : decode cX6_grow 23 = .ok (.getfield 46, 3) ∧ 23 + 3 = 26 := ⟨by decide +kernel, rfl⟩
theorem dX6_grow_26 : decode cX6_grow 26 = .ok (.if_icmp .ge 85, 3) ∧ 26 + 3 = 29 ∧ ((26 : Nat) : Int) + (85) = ((111 : Nat) : Int) := ⟨by decide +kernel, rfl, rfl⟩
theorem dX6_grow_29 : decode cX6_grow 29 = .ok (.aload 5, 2) ∧ 29 + 2 = 31 := ⟨by decide +kernel, rfl⟩
theorem dX6_grow_31 : decode cX6_grow 31 = .ok (.getfield 58, 3) ∧ 31 + 3 = 34 := ⟨by decide +kernel, rfl⟩
theorem dX6_grow_34 : decode cX6_grow 34 = .ok (.iload 7, 2) ∧ 34 + 2 = 36 := ⟨by decide +kernel, rfl⟩
theorem dX6_grow_36 : decode cX6_grow 36 = .ok (.iaload, 1) ∧ 36 + 1 = 37 := ⟨by decide +kernel, rfl⟩
theorem dX6_grow_37 : decode cX6_grow 37 = .ok (.iload 6, 2) ∧ 37 + 2 = 39 := ⟨by decide +kernel, rfl⟩
theorem dX6_grow_39 : decode cX6_grow 39 = .ok (.if_icmp .ne 66, 3) ∧ 39 + 3 = 42 ∧ ((39 : Nat) : Int) + (66) = ((105 : Nat) : Int) := ⟨by decide +kernel, rfl, rfl⟩
theorem dX6_grow_42 : decode cX6_grow 42 = .ok (.aload 5, 2) ∧ 42 + 2 = 44 := ⟨by decide +kernel, rfl⟩
theorem dX6_grow_44 : decode cX6_grow 44 = .ok (.getfield 62, 3) ∧ 44 + 3 = 47 := ⟨by decide +kernel, rfl⟩
theorem dX6_grow_47 : decode cX6_grow 47 = .ok (.iload 7, 2) ∧ 47 + 2 = 49 := ⟨by decide +kernel, rfl⟩
theorem dX6_grow_49 : decode cX6_grow 49 = .ok (.iaload, 1) ∧ 49 + 1 = 50 := ⟨by decide +kernel, rfl⟩
theorem dX6_grow_50 : decode cX6_grow 50 = .ok (.istore 8, 2) ∧ 50 + 2 = 52 := ⟨by decide +kernel, rfl⟩
theorem dX6_grow_52 : decode cX6_grow 52 = .ok (.aload_n 1, 1) ∧ 52 + 1 = 53 := ⟨by decide +kernel, rfl⟩
theorem dX6_grow_53 : decode cX6_grow 53 = .ok (.iload_n 3, 1) ∧ 53 + 1 = 54 := ⟨by decide +kernel, rfl⟩
theorem dX6_grow_54 : decode cX6_grow 54 = .ok (.iload 8, 2) ∧ 54 + 2 = 56 := ⟨by decide +kernel, rfl⟩
theorem dX6_grow_56 : decode cX6_grow 56 = .ok (.invokevirtual 65, 3) ∧ 56 + 3 = 59 := ⟨by decide +kernel, rfl⟩
theorem dX6_grow_59 : decode cX6_grow 59 = .ok (.istore 9, 2) ∧ 59 + 2 = 61 := ⟨by decide +kernel, rfl⟩
theorem dX6_grow_61 : decode cX6_grow 61 = .ok (.aload_n 0, 1) ∧ 61 + 1 = 62 := ⟨by decide +kernel, rfl⟩
theorem dX6_grow_62 : decode cX6_grow 62 = .ok (.getfield 28, 3) ∧ 62 + 3 = 65 := ⟨by decide +kernel, rfl⟩
theorem dX6_grow_65 : decode cX6_grow 65 = .ok (.iload 8, 2) ∧ 65 + 2 = 67 := ⟨by decide +kernel, rfl⟩
theorem dX6_grow_67 : decode cX6_grow 67 = .ok (.iload 4, 2) ∧ 67 + 2 = 69 := ⟨by decide +kernel, rfl⟩
theorem dX6_grow_69 : decode cX6_grow 69 = .ok (.aload_n 1, 1) ∧ 69 + 1 = 70 := ⟨by decide +kernel, rfl⟩
theorem dX6_grow_70 : decode cX6_grow 70 = .ok (.iload 9, 2) ∧ 70 + 2 = 72 := ⟨by decide +kernel, rfl⟩
theorem dX6_grow_72 : decode cX6_grow 72 = .ok (.invokevirtual 69, 3) ∧ 72 + 3 = 75 := ⟨by decide +kernel, rfl⟩
theorem dX6_grow_75 : decode cX6_grow 75 = .ok (.invokevirtual 72, 3) ∧ 75 + 3 = 78 := ⟨by decide +kernel, rfl⟩
theorem dX6_grow_78 : decode cX6_grow 78 = .ok (.istore 10, 2) ∧ 78 + 2 = 80 := ⟨by decide +kernel, rfl⟩
theorem dX6_grow_80 : decode cX6_grow 80 = .ok (.iload 10, 2) ∧ 80 + 2 = 82 := ⟨by decide +kernel, rfl⟩
theorem dX6_grow_82 : decode cX6_grow 82 = .ok (.bipush (-2), 2) ∧ 82 + 2 = 84 := ⟨by decide +kernel, rfl⟩
theorem dX6_grow_84 : decode cX6_grow 84 = .ok (.if_icmp .eq 19, 3) ∧ 84 + 3 = 87 ∧ ((84 : Nat) : Int) + (19) = ((103 : Nat) : Int) := ⟨by decide +kernel, rfl, rfl⟩
theorem dX6_grow_87 : decode cX6_grow 87 = .ok (.aload_n 0, 1) ∧ 87 + 1 = 88 := ⟨by decide +kernel, rfl⟩
theorem dX6_grow_88 : decode cX6_grow 88 = .ok (.aload_n 1, 1) ∧ 88 + 1 = 89 := ⟨by decide +kernel, rfl⟩
theorem dX6_grow_89 : decode cX6_grow 89 = .ok (.iload 10, 2) ∧ 89 + 2 = 91 := ⟨by decide +kernel, rfl⟩
theorem dX6_grow_91 : decode cX6_grow 91 = .ok (.iload 9, 2) ∧ 91 + 2 = 93 := ⟨by decide +kernel, rfl⟩
theorem dX6_grow_93 : decode cX6_grow 93 = .ok (.iload 4, 2) ∧ 93 + 2 = 95 := ⟨by decide +kernel, rfl⟩
theorem dX6_grow_95 : decode cX6_grow 95 = .ok (.iconst 1, 1) ∧ 95 + 1 = 96 := ⟨by decide +kernel, rfl⟩
theorem dX6_grow_96 : decode cX6_grow 96 = .ok (.iadd, 1) ∧ 96 + 1 = 97 := ⟨by decide +kernel, rfl⟩
theorem dX6_grow_97 : decode cX6_grow 97 = .ok (.invokestatic 50, 3) ∧ 97 + 3 = 100 := ⟨by decide +kernel, rfl⟩
theorem dX6_grow_100 : decode cX6_grow 100 = .ok (.ifCond .ne 5, 3) ∧ 100 + 3 = 103 ∧ ((100 : Nat) : Int) + (5) = ((105 : Nat) : Int) := ⟨by decide +kernel, rfl, rfl⟩
theorem dX6_grow_103 : decode cX6_grow 103 = .ok (.iconst 0, 1) ∧ 103 + 1 = 104 := ⟨by decide +kernel, rfl⟩
theorem dX6_grow_104 : decode cX6_grow 104 = .ok (.ireturn, 1) ∧ 104 + 1 = 105 := ⟨by decide +kernel, rfl⟩
theorem dX6_grow_105 : decode cX6_grow 105 = .ok (.iinc 7 1, 3) ∧ 105 + 3 = 108 := ⟨by decide +kernel, rfl⟩
theorem dX6_grow_108 : decode cX6_grow 108 = .ok (.goto (-89), 3) ∧ 108 + 3 = 111 ∧ ((108 : Nat) : Int) + (-89) = ((19 : Nat) : Int) := ⟨by decide +kernel, rfl, rfl⟩
theorem dX6_grow_111 : decode cX6_grow 111 = .ok (.iconst 1, 1) ∧ 111 + 1 = 112 := ⟨by decide +kernel, rfl⟩
theorem dX6_grow_112 : decode cX6_grow 112 = .ok (.ireturn, 1) ∧ 112 + 1 = 113 := ⟨by decide +kernel, rfl⟩
theorem dX6_dropVanished_0 : decode cX6_dropVanished 0 = .ok (.aload_n 0, 1) ∧ 0 + 1 = 1 := ⟨by decide +kernel, rfl⟩
theorem dX6_dropVanished_1 : decode cX6_dropVanished 1 = .ok (.getfield 28, 3) ∧ 1 + 3 = 4 := ⟨by decide +kernel, rfl⟩
theorem dX6_dropVanished_4 : decode cX6_dropVanished 4 = .ok (.invokevirtual 76, 3) ∧ 4 + 3 = 7 := ⟨by decide +kernel, rfl⟩
theorem dX6_dropVanished_7 : decode cX6_dropVanished 7 = .ok (.lstore_n 3, 1) ∧ 7 + 1 = 8 := ⟨by decide +kernel, rfl⟩
theorem dX6_dropVanished_8 : decode cX6_dropVanished 8 = .ok (.aload_n 0, 1) ∧ 8 + 1 = 9 := ⟨by decide +kernel, rfl⟩
theorem dX6_dropVanished_9 : decode cX6_dropVanished 9 = .ok (.getfield 21, 3) ∧ 9 + 3 = 12 := ⟨by decide +kernel, rfl⟩
theorem dX6_dropVanished_12 : decode cX6_dropVanished 12 = .ok (.lload_n 3, 1) ∧ 12 + 1 = 13 := ⟨by decide +kernel, rfl⟩
theorem dX6_dropVanished_13 : decode cX6_dropVanished 13 = .ok (.lconst 1, 1) ∧ 13 + 1 = 14 := ⟨by decide +kernel, rfl⟩
theorem dX6_dropVanished_14 : decode cX6_dropVanished 14 = .ok (.lor, 1) ∧ 14 + 1 = 15 := ⟨by decide +kernel, rfl⟩
theorem dX6_dropVanished_15 : decode cX6_dropVanished 15 = .ok (.invokevirtual 80, 3) ∧ 15 + 3 = 18 := ⟨by decide +kernel, rfl⟩
theorem dX6_dropVanished_18 : decode cX6_dropVanished 18 = .ok (.lload_n 1, 1) ∧ 18 + 1 = 19 := ⟨by decide +kernel, rfl⟩
theorem dX6_dropVanished_19 : decode cX6_dropVanished 19 = .ok (.lload_n 3, 1) ∧ 19 + 1 = 20 := ⟨by decide +kernel, rfl⟩
theorem dX6_dropVanished_20 : decode cX6_dropVanished 20 = .ok (.ldc2_w 84, 3) ∧ 20 + 3 = 23 := ⟨by decide +kernel, rfl⟩
theorem dX6_dropVanished_23 : decode cX6_dropVanished 23 = .ok (.lxor, 1) ∧ 23 + 1 = 24 := ⟨by decide +kernel, rfl⟩
theorem dX6_dropVanished_24 : decode cX6_dropVanished 24 = .ok (.land, 1) ∧ 24 + 1 = 25 := ⟨by decide +kernel, rfl⟩
theorem dX6_dropVanished_25 : decode cX6_dropVanished 25 = .ok (.invokestatic 86, 3) ∧ 25 + 3 = 28 := ⟨by decide +kernel, rfl⟩
theorem dX6_dropVanished_28 : decode cX6_dropVanished 28 = .ok (.ireturn, 1) ∧ 28 + 1 = 29 := ⟨by decide +kernel, rfl⟩
theorem dX7_init_0 : decode cX7_init 0 = .ok (.aload_n 0, 1) ∧ 0 + 1 = 1 := ⟨by decide +kernel, rfl⟩
theorem dX7_init_1 : decode cX7_init 1 = .ok (.invokespecial 3, 3) ∧ 1 + 3 = 4 := ⟨by decide +kernel, rfl⟩
theorem dX7_init_4 : decode cX7_init 4 = .ok (.aload_n 0, 1) ∧ 4 + 1 = 5 := ⟨by decide +kernel, rfl⟩
theorem dX7_init_5 : decode cX7_init 5 = .ok (.bipush 60, 2) ∧ 5 + 2 = 7 := ⟨by decide +kernel, rfl⟩
theorem dX7_init_7 : decode cX7_init 7 = .ok (.newarray .int, 2) ∧ 7 + 2 = 9 := ⟨by decide +kernel, rfl⟩
theorem dX7_init_9 : decode cX7_init 9 = .ok (.putfield 9, 3) ∧ 9 + 3 = 12 := ⟨by decide +kernel, rfl⟩
theorem dX7_init_12 : decode cX7_init 12 = .ok (.return_, 1) ∧ 12 + 1 = 13 := ⟨by decide +kernel, rfl⟩
theorem dX7_append_0 : decode cX7_append 0 = .ok (.aload_n 0, 1) ∧ 0 + 1 = 1 := ⟨by decide +kernel, rfl⟩
theorem dX7_append_1 : decode cX7_append 1 = .ok (.getfield 15, 3) ∧ 1 + 3 = 4 := ⟨by decide +kernel, rfl⟩
theorem dX7_append_4 : decode cX7_append 4 = .ok (.ifCond .lt 12, 3) ∧ 4 + 3 = 7 ∧ ((4 : Nat) : Int) + (12) = ((16 : Nat) : Int) := ⟨by decide +kernel, rfl, rfl⟩
theorem dX7_append_7 : decode cX7_append 7 = .ok (.aload_n 0, 1) ∧ 7 + 1 = 8 := ⟨by decide +kernel, rfl⟩
theorem dX7_append_8 : decode cX7_append 8 = .ok (.getfield 15, 3) ∧ 8 + 3 = 11 := ⟨by decide +kernel, rfl⟩
theorem dX7_append_11 : decode cX7_append 11 = .ok (.bipush 60, 2) ∧ 11 + 2 = 13 := ⟨by decide +kernel, rfl⟩
theorem dX7_append_13 : decode cX7_append 13 = .ok (.if_icmp .lt 5, 3) ∧ 13 + 3 = 16 ∧ ((13 : Nat) : Int) + (5) = ((18 : Nat) : Int) := ⟨by decide +kernel, rfl, rfl⟩
theorem dX7_append_16 : decode cX7_append 16 = .ok (.iconst 0, 1) ∧ 16 + 1 = 17 := ⟨by decide +kernel, rfl⟩
theorem dX7_append_17 : decode cX7_append 17 = .ok (.ireturn, 1) ∧ 17 + 1 = 18 := ⟨by decide +kernel, rfl⟩
theorem dX7_append_18 : decode cX7_append 18 = .ok (.aload_n 0, 1) ∧ 18 + 1 = 19 := ⟨by decide +kernel, rfl⟩
theorem dX7_append_19 : decode cX7_append 19 = .ok (.getfield 9, 3) ∧ 19 + 3 = 22 := ⟨by decide +kernel, rfl⟩
theorem dX7_append_22 : decode cX7_append 22 = .ok (.aload_n 0, 1) ∧ 22 + 1 = 23 := ⟨by decide +kernel, rfl⟩
theorem dX7_append_23 : decode cX7_append 23 = .ok (.getfield 15, 3) ∧ 23 + 3 = 26 := ⟨by decide +kernel, rfl⟩
theorem dX7_append_26 : decode cX7_append 26 = .ok (.iload_n 1, 1) ∧ 26 + 1 = 27 := ⟨by decide +kernel, rfl⟩
theorem dX7_append_27 : decode cX7_append 27 = .ok (.iastore, 1) ∧ 27 + 1 = 28 := ⟨by decide +kernel, rfl⟩
theorem dX7_append_28 : decode cX7_append 28 = .ok (.aload_n 0, 1) ∧ 28 + 1 = 29 := ⟨by decide +kernel, rfl⟩
theorem dX7_append_29 : decode cX7_append 29 = .ok (.dup, 1) ∧ 29 + 1 = 30 := ⟨by decide +kernel, rfl⟩
theorem dX7_append_30 : decode cX7_append 30 = .ok (.getfield 15, 3) ∧ 30 + 3 = 33 := ⟨by decide +kernel, rfl⟩
theorem dX7_append_33 : decode cX7_append 33 = .ok (.iconst 1, 1) ∧ 33 + 1 = 34 := ⟨by decide +kernel, rfl⟩
theorem dX7_append_34 : decode cX7_append 34 = .ok (.iadd, 1) ∧ 34 + 1 = 35 := ⟨by decide +kernel, rfl⟩
theorem dX7_append_35 : decode cX7_append 35 = .ok (.putfield 15, 3) ∧ 35 + 3 = 38 := ⟨by decide +kernel, rfl⟩
theorem dX7_append_38 : decode cX7_append 38 = .ok (.iconst 1, 1) ∧ 38 + 1 = 39 := ⟨by decide +kernel, rfl⟩
theorem dX7_append_39 : decode cX7_append 39 = .ok (.ireturn, 1) ∧ 39 + 1 = 40 := ⟨by decide +kernel, rfl⟩
theorem dX7_fitsNode_0 : decode cX7_fitsNode 0 = .ok (.aload_n 0, 1) ∧ 0 + 1 = 1 := ⟨by decide +kernel, rfl⟩
theorem dX7_fitsNode_1 : decode cX7_fitsNode 1 = .ok (.getfield 15, 3) ∧ 1 + 3 = 4 := ⟨by decide +kernel, rfl⟩
theorem dX7_fitsNode_4 : decode cX7_fitsNode 4 = .ok (.iconst 1, 1) ∧ 4 + 1 = 5 := ⟨by decide +kernel, rfl⟩
theorem dX7_fitsNode_5 : decode cX7_fitsNode 5 = .ok (.if_icmp .lt 16, 3) ∧ 5 + 3 = 8 ∧ ((5 : Nat) : Int) + (16) = ((21 : Nat) : Int) := ⟨by decide +kernel, rfl, rfl⟩
theorem dX7_fitsNode_8 : decode cX7_fitsNode 8 = .ok (.aload_n 0, 1) ∧ 8 + 1 = 9 := ⟨by decide +kernel, rfl⟩
theorem dX7_fitsNode_9 : decode cX7_fitsNode 9 = .ok (.getfield 15, 3) ∧ 9 + 3 = 12 := ⟨by decide +kernel, rfl⟩
theorem dX7_fitsNode_12 : decode cX7_fitsNode 12 = .ok (.bipush 8, 2) ∧ 12 + 2 = 14 := ⟨by decide +kernel, rfl⟩
theorem dX7_fitsNode_14 : decode cX7_fitsNode 14 = .ok (.if_icmp .gt 7, 3) ∧ 14 + 3 = 17 ∧ ((14 : Nat) : Int) + (7) = ((21 : Nat) : Int) := ⟨by decide +kernel, rfl, rfl⟩
theorem dX7_fitsNode_17 : decode cX7_fitsNode 17 = .ok (.iconst 1, 1) ∧ 17 + 1 = 18 := ⟨by decide +kernel, rfl⟩
theorem dX7_fitsNode_18 : decode cX7_fitsNode 18 = .ok (.goto 4, 3) ∧ 18 + 3 = 21 ∧ ((18 : Nat) : Int) + (4) = ((22 : Nat) : Int) := ⟨by decide +kernel, rfl, rfl⟩
theorem dX7_fitsNode_21 : decode cX7_fitsNode 21 = .ok (.iconst 0, 1) ∧ 21 + 1 = 22 := ⟨by decide +kernel, rfl⟩
theorem dX7_fitsNode_22 : decode cX7_fitsNode 22 = .ok (.ireturn, 1) ∧ 22 + 1 = 23 := ⟨by decide +kernel, rfl⟩
theorem dX7_codeAt_0 : decode cX7_codeAt 0 = .ok (.iload_n 1, 1) ∧ 0 + 1 = 1 := ⟨by decide +kernel, rfl⟩
theorem dX7_codeAt_1 : decode cX7_codeAt 1 = .ok (.ifCond .lt 26, 3) ∧ 1 + 3 = 4 ∧ ((1 : Nat) : Int) + (26) = ((27 : Nat) : Int) := ⟨by decide +kernel, rfl, rfl⟩
theorem dX7_codeAt_4 : decode cX7_codeAt 4 = .ok (.iload_n 1, 1) ∧ 4 + 1 = 5 := ⟨by decide +kernel, rfl⟩
theorem dX7_codeAt_5 : decode cX7_codeAt 5 = .ok (.aload_n 0, 1) ∧ 5 + 1 = 6 := ⟨by decide +kernel, rfl⟩
theorem dX7_codeAt_6 : decode cX7_codeAt 6 = .ok (.getfield 15, 3) ∧ 6 + 3 = 9 := ⟨by decide +kernel, rfl⟩
theorem dX7_codeAt_9 : decode cX7_codeAt 9 = .ok (.if_icmp .ge 18, 3) ∧ 9 + 3 = 12 ∧ ((9 : Nat) : Int) + (18) = ((27 : Nat) : Int) := ⟨by decide +kernel, rfl, rfl⟩
theorem dX7_codeAt_12 : decode cX7_codeAt 12 = .ok (.iload_n 1, 1) ∧ 12 + 1 = 13 := ⟨by decide +kernel, rfl⟩
theorem dX7_codeAt_13 : decode cX7_codeAt 13 = .ok (.bipush 60, 2) ∧ 13 + 2 = 15 := ⟨by decide +kernel, rfl⟩
theorem dX7_codeAt_15 : decode cX7_codeAt 15 = .ok (.if_icmp .ge 12, 3) ∧ 15 + 3 = 18 ∧ ((15 : Nat) : Int) + (12) = ((27 : Nat) : Int) := ⟨by decide +kernel, rfl, rfl⟩
theorem dX7_codeAt_18 : decode cX7_codeAt 18 = .ok (.aload_n 0, 1) ∧ 18 + 1 = 19 := ⟨by decide +kernel, rfl⟩
theorem dX7_codeAt_19 : decode cX7_codeAt 19 = .ok (.getfield 9, 3) ∧ 19 + 3 = 22 := ⟨by decide +kernel, rfl⟩
theorem dX7_codeAt_22 : decode cX7_codeAt 22 = .ok (.iload_n 1, 1) ∧ 22 + 1 = 23 := ⟨by decide +kernel, rfl⟩
theorem dX7_codeAt_23 : decode cX7_codeAt 23 = .ok (.iaload, 1) ∧ 23 + 1 = 24 := ⟨by decide +kernel, rfl⟩
theorem dX7_codeAt_24 : decode cX7_codeAt 24 = .ok (.goto 4, 3) ∧ 24 + 3 = 27 ∧ ((24 : Nat) : Int) + (4) = ((28 : Nat) : Int) := ⟨by decide +kernel, rfl, rfl⟩
theorem dX7_codeAt_27 : decode cX7_codeAt 27 = .ok (.iconst (-1), 1) ∧ 27 + 1 = 28 := ⟨by decide +kernel, rfl⟩
theorem dX7_codeAt_28 : decode cX7_codeAt 28 = .ok (.ireturn, 1) ∧ 28 + 1 = 29 := ⟨by decide +kernel, rfl⟩
theorem dX8_init_0 : decode cX8_init 0 = .ok (.aload_n 0, 1) ∧ 0 + 1 = 1 := ⟨by decide +kernel, rfl⟩
theorem dX8_init_1 : decode cX8_init 1 = .ok (.invokespecial 1, 3) ∧ 1 + 3 = 4 := ⟨by decide +kernel, rfl⟩
theorem dX8_init_4 : decode cX8_init 4 = .ok (.aload_n 0, 1) ∧ 4 + 1 = 5 := ⟨by decide +kernel, rfl⟩
theorem dX8_init_5 : decode cX8_init 5 = .ok (.new 7, 3) ∧ 5 + 3 = 8 := ⟨by decide +kernel, rfl⟩
theorem dX8_init_8 : decode cX8_init 8 = .ok (.dup, 1) ∧ 8 + 1 = 9 := ⟨by decide +kernel, rfl⟩
theorem dX8_init_9 : decode cX8_init 9 = .ok (.invokespecial 9, 3) ∧ 9 + 3 = 12 := ⟨by decide +kernel, rfl⟩
theorem dX8_init_12 : decode cX8_init 12 = .ok (.putfield 10, 3) ∧ 12 + 3 = 15 := ⟨by decide +kernel, rfl⟩
theorem dX8_init_15 : decode cX8_init 15 = .ok (.aload_n 0, 1) ∧ 15 + 1 = 16 := ⟨by decide +kernel, rfl⟩
theorem dX8_init_16 : decode cX8_init 16 = .ok (.new 16, 3) ∧ 16 + 3 = 19 := ⟨by decide +kernel, rfl⟩
theorem dX8_init_19 : decode cX8_init 19 = .ok (.dup, 1) ∧ 19 + 1 = 20 := ⟨by decide +kernel, rfl⟩
theorem dX8_init_20 : decode cX8_init 20 = .ok (.invokespecial 18, 3) ∧ 20 + 3 = 23 := ⟨by decide +kernel, rfl⟩
theorem dX8_init_23 : decode cX8_init 23 = .ok (.putfield 19, 3) ∧ 23 + 3 = 26 := ⟨by decide +kernel, rfl⟩
theorem dX8_init_26 : decode cX8_init 26 = .ok (.aload_n 0, 1) ∧ 26 + 1 = 27 := ⟨by decide +kernel, rfl⟩
theorem dX8_init_27 : decode cX8_init 27 = .ok (.new 23, 3) ∧ 27 + 3 = 30 := ⟨by decide +kernel, rfl⟩
theorem dX8_init_30 : decode cX8_init 30 = .ok (.dup, 1) ∧ 30 + 1 = 31 := ⟨by decide +kernel, rfl⟩
theorem dX8_init_31 : decode cX8_init 31 = .ok (.invokespecial 25, 3) ∧ 31 + 3 = 34 := ⟨by decide +kernel, rfl⟩
theorem dX8_init_34 : decode cX8_init 34 = .ok (.putfield 26, 3) ∧ 34 + 3 = 37 := ⟨by decide +kernel, rfl⟩
theorem dX8_init_37 : decode cX8_init 37 = .ok (.aload_n 0, 1) ∧ 37 + 1 = 38 := ⟨by decide +kernel, rfl⟩
theorem dX8_init_38 : decode cX8_init 38 = .ok (.new 30, 3) ∧ 38 + 3 = 41 := ⟨by decide +kernel, rfl⟩
theorem dX8_init_41 : decode cX8_init 41 = .ok (.dup, 1) ∧ 41 + 1 = 42 := ⟨by decide +kernel, rfl⟩
theorem dX8_init_42 : decode cX8_init 42 = .ok (.invokespecial 32, 3) ∧ 42 + 3 = 45 := ⟨by decide +kernel, rfl⟩
theorem dX8_init_45 : decode cX8_init 45 = .ok (.putfield 33, 3) ∧ 45 + 3 = 48 := ⟨by decide +kernel, rfl⟩
theorem dX8_init_48 : decode cX8_init 48 = .ok (.aload_n 0, 1) ∧ 48 + 1 = 49 := ⟨by decide +kernel, rfl⟩
theorem dX8_init_49 : decode cX8_init 49 = .ok (.new 37, 3) ∧ 49 + 3 = 52 := ⟨by decide +kernel, rfl⟩
theorem dX8_init_52 : decode cX8_init 52 = .ok (.dup, 1) ∧ 52 + 1 = 53 := ⟨by decide +kernel, rfl⟩
theorem dX8_init_53 : decode cX8_init 53 = .ok (.invokespecial 39, 3) ∧ 53 + 3 = 56 := ⟨by decide +kernel, rfl⟩
theorem dX8_init_56 : decode cX8_init 56 = .ok (.putfield 40, 3) ∧ 56 + 3 = 59 := ⟨by decide +kernel, rfl⟩
theorem dX8_init_59 : decode cX8_init 59 = .ok (.aload_n 0, 1) ∧ 59 + 1 = 60 := ⟨by decide +kernel, rfl⟩
theorem dX8_init_60 : decode cX8_init 60 = .ok (.iconst 0, 1) ∧ 60 + 1 = 61 := ⟨by decide +kernel, rfl⟩
theorem dX8_init_61 : decode cX8_init 61 = .ok (.putfield 44, 3) ∧ 61 + 3 = 64 := ⟨by decide +kernel, rfl⟩
theorem dX8_init_64 : decode cX8_init 64 = .ok (.aload_n 0, 1) ∧ 64 + 1 = 65 := ⟨by decide +kernel, rfl⟩
theorem dX8_init_65 : decode cX8_init 65 = .ok (.new 37, 3) ∧ 65 + 3 = 68 := ⟨by decide +kernel, rfl⟩
theorem dX8_init_68 : decode cX8_init 68 = .ok (.dup, 1) ∧ 68 + 1 = 69 := ⟨by decide +kernel, rfl⟩
theorem dX8_init_69 : decode cX8_init 69 = .ok (.invokespecial 39, 3) ∧ 69 + 3 = 72 := ⟨by decide +kernel, rfl⟩
theorem dX8_init_72 : decode cX8_init 72 = .ok (.putfield 48, 3) ∧ 72 + 3 = 75 := ⟨by decide +kernel, rfl⟩
theorem dX8_init_75 : decode cX8_init 75 = .ok (.aload_n 0, 1) ∧ 75 + 1 = 76 := ⟨by decide +kernel, rfl⟩
theorem dX8_init_76 : decode cX8_init 76 = .ok (.new 37, 3) ∧ 76 + 3 = 79 := ⟨by decide +kernel, rfl⟩
theorem dX8_init_79 : decode cX8_init 79 = .ok (.dup, 1) ∧ 79 + 1 = 80 := ⟨by decide +kernel, rfl⟩
theorem dX8_init_80 : decode cX8_init 80 = .ok (.invokespecial 39, 3) ∧ 80 + 3 = 83 := ⟨by decide +kernel, rfl⟩
theorem dX8_init_83 : decode cX8_init 83 = .ok (.putfield 51, 3) ∧ 83 + 3 = 86 := ⟨by decide +kernel, rfl⟩
theorem dX8_init_86 : decode cX8_init 86 = .ok (.return_, 1) ∧ 86 + 1 = 87 := ⟨by decide +kernel, rfl⟩
theorem dX8_add_0 : decode cX8_add 0 = .ok (.aload_n 0, 1) ∧ 0 + 1 = 1 := ⟨by decide +kernel, rfl⟩
theorem dX8_add_1 : decode cX8_add 1 = .ok (.iload_n 1, 1) ∧ 1 + 1 = 2 := ⟨by decide +kernel, rfl⟩
theorem dX8_add_2 : decode cX8_add 2 = .ok (.invokevirtual 54, 3) ∧ 2 + 3 = 5 := ⟨by decide +kernel, rfl⟩
theorem dX8_add_5 : decode cX8_add 5 = .ok (.istore_n 2, 1) ∧ 5 + 1 = 6 := ⟨by decide +kernel, rfl⟩
theorem dX8_add_6 : decode cX8_add 6 = .ok (.iload_n 2, 1) ∧ 6 + 1 = 7 := ⟨by decide +kernel, rfl⟩
theorem dX8_add_7 : decode cX8_add 7 = .ok (.bipush (-2), 2) ∧ 7 + 2 = 9 := ⟨by decide +kernel, rfl⟩
theorem dX8_add_9 : decode cX8_add 9 = .ok (.if_icmp .ne 6, 3) ∧ 9 + 3 = 12 ∧ ((9 : Nat) : Int) + (6) = ((15 : Nat) : Int) := ⟨by decide +kernel, rfl, rfl⟩
theorem dX8_add_12 : decode cX8_add 12 = .ok (.bipush (-2), 2) ∧ 12 + 2 = 14 := ⟨by decide +kernel, rfl⟩
theorem dX8_add_14 : decode cX8_add 14 = .ok (.ireturn, 1) ∧ 14 + 1 = 15 := ⟨by decide +kernel, rfl⟩
theorem dX8_add_15 : decode cX8_add 15 = .ok (.aload_n 0, 1) ∧ 15 + 1 = 16 := ⟨by decide +kernel, rfl⟩
theorem dX8_add_16 : decode cX8_add 16 = .ok (.getfield 10, 3) ∧ 16 + 3 = 19 := ⟨by decide +kernel, rfl⟩
theorem dX8_add_19 : decode cX8_add 19 = .ok (.invokevirtual 58, 3) ∧ 19 + 3 = 22 := ⟨by decide +kernel, rfl⟩
theorem dX8_add_22 : decode cX8_add 22 = .ok (.ifCond .ne 6, 3) ∧ 22 + 3 = 25 ∧ ((22 : Nat) : Int) + (6) = ((28 : Nat) : Int) := ⟨by decide +kernel, rfl, rfl⟩
theorem dX8_add_25 : decode cX8_add 25 = .ok (.bipush (-3), 2) ∧ 25 + 2 = 27 := ⟨by decide +kernel, rfl⟩
theorem dX8_add_27 : decode cX8_add 27 = .ok (.ireturn, 1) ∧ 27 + 1 = 28 := ⟨by decide +kernel, rfl⟩
theorem dX8_add_28 : decode cX8_add 28 = .ok (.aload_n 0, 1) ∧ 28 + 1 = 29 := ⟨by decide +kernel, rfl⟩
theorem dX8_add_29 : decode cX8_add 29 = .ok (.getfield 48, 3) ∧ 29 + 3 = 32 := ⟨by decide +kernel, rfl⟩
theorem dX8_add_32 : decode cX8_add 32 = .ok (.getfield 62, 3) ∧ 32 + 3 = 35 := ⟨by decide +kernel, rfl⟩
theorem dX8_add_35 : decode cX8_add 35 = .ok (.getfield 66, 3) ∧ 35 + 3 = 38 := ⟨by decide +kernel, rfl⟩
theorem dX8_add_38 : decode cX8_add 38 = .ok (.bipush 40, 2) ∧ 38 + 2 = 40 := ⟨by decide +kernel, rfl⟩
theorem dX8_add_40 : decode cX8_add 40 = .ok (.if_icmp .lt 6, 3) ∧ 40 + 3 = 43 ∧ ((40 : Nat) : Int) + (6) = ((46 : Nat) : Int) := ⟨by decide +kernel, rfl, rfl⟩
theorem dX8_add_43 : decode cX8_add 43 = .ok (.bipush (-4), 2) ∧ 43 + 2 = 45 := ⟨by decide +kernel, rfl⟩
theorem dX8_add_45 : decode cX8_add 45 = .ok (.ireturn, 1) ∧ 45 + 1 = 46 := ⟨by decide +kernel, rfl⟩
theorem dX8_add_46 : decode cX8_add 46 = .ok (.aload_n 0, 1) ∧ 46 + 1 = 47 := ⟨by decide +kernel, rfl⟩
theorem dX8_add_47 : decode cX8_add 47 = .ok (.getfield 51, 3) ∧ 47 + 3 = 50 := ⟨by decide +kernel, rfl⟩
theorem dX8_add_50 : decode cX8_add 50 = .ok (.aload_n 0, 1) ∧ 50 + 1 = 51 := ⟨by decide +kernel, rfl⟩
theorem dX8_add_51 : decode cX8_add 51 = .ok (.getfield 48, 3) ∧ 51 + 3 = 54 := ⟨by decide +kernel, rfl⟩
theorem dX8_add_54 : decode cX8_add 54 = .ok (.invokevirtual 72, 3) ∧ 54 + 3 = 57 := ⟨by decide +kernel, rfl⟩
theorem dX8_add_57 : decode cX8_add 57 = .ok (.aload_n 0, 1) ∧ 57 + 1 = 58 := ⟨by decide +kernel, rfl⟩
theorem dX8_add_58 : decode cX8_add 58 = .ok (.getfield 51, 3) ∧ 58 + 3 = 61 := ⟨by decide +kernel, rfl⟩
theorem dX8_add_61 : decode cX8_add 61 = .ok (.getfield 62, 3) ∧ 61 + 3 = 64 := ⟨by decide +kernel, rfl⟩
theorem dX8_add_64 : decode cX8_add 64 = .ok (.invokevirtual 76, 3) ∧ 64 + 3 = 67 := ⟨by decide +kernel, rfl⟩
theorem dX8_add_67 : decode cX8_add 67 = .ok (.istore_n 3, 1) ∧ 67 + 1 = 68 := ⟨by decide +kernel, rfl⟩
theorem dX8_add_68 : decode cX8_add 68 = .ok (.aload_n 0, 1) ∧ 68 + 1 = 69 := ⟨by decide +kernel, rfl⟩
theorem dX8_add_69 : decode cX8_add 69 = .ok (.getfield 51, 3) ∧ 69 + 3 = 72 := ⟨by decide +kernel, rfl⟩
theorem dX8_add_72 : decode cX8_add 72 = .ok (.getfield 62, 3) ∧ 72 + 3 = 75 := ⟨by decide +kernel, rfl⟩
theorem dX8_add_75 : decode cX8_add 75 = .ok (.iload_n 3, 1) ∧ 75 + 1 = 76 := ⟨by decide +kernel, rfl⟩
theorem dX8_add_76 : decode cX8_add 76 = .ok (.aload_n 0, 1) ∧ 76 + 1 = 77 := ⟨by decide +kernel, rfl⟩
theorem dX8_add_77 : decode cX8_add 77 = .ok (.getfield 10, 3) ∧ 77 + 3 = 80 := ⟨by decide +kernel, rfl⟩
theorem dX8_add_80 : decode cX8_add 80 = .ok (.invokevirtual 80, 3) ∧ 80 + 3 = 83 := ⟨by decide +kernel, rfl⟩
theorem dX8_add_83 : decode cX8_add 83 = .ok (.aload_n 0, 1) ∧ 83 + 1 = 84 := ⟨by decide +kernel, rfl⟩
theorem dX8_add_84 : decode cX8_add 84 = .ok (.iload_n 3, 1) ∧ 84 + 1 = 85 := ⟨by decide +kernel, rfl⟩
theorem dX8_add_85 : decode cX8_add 85 = .ok (.aload_n 0, 1) ∧ 85 + 1 = 86 := ⟨by decide +kernel, rfl⟩
theorem dX8_add_86 : decode cX8_add 86 = .ok (.getfield 48, 3) ∧ 86 + 3 = 89 := ⟨by decide +kernel, rfl⟩
theorem dX8_add_89 : decode cX8_add 89 = .ok (.getfield 84, 3) ∧ 89 + 3 = 92 := ⟨by decide +kernel, rfl⟩
theorem dX8_add_92 : decode cX8_add 92 = .ok (.iload_n 2, 1) ∧ 92 + 1 = 93 := ⟨by decide +kernel, rfl⟩
theorem dX8_add_93 : decode cX8_add 93 = .ok (.invokevirtual 88, 3) ∧ 93 + 3 = 96 := ⟨by decide +kernel, rfl⟩
theorem dX8_add_96 : decode cX8_add 96 = .ok (.invokevirtual 93, 3) ∧ 96 + 3 = 99 := ⟨by decide +kernel, rfl⟩
theorem dX8_add_99 : decode cX8_add 99 = .ok (.bipush (-4), 2) ∧ 99 + 2 = 101 := ⟨by decide +kernel, rfl⟩
theorem dX8_add_101 : decode cX8_add 101 = .ok (.if_icmp .ne 6, 3) ∧ 101 + 3 = 104 ∧ ((101 : Nat) : Int) + (6) = ((107 : Nat) : Int) := ⟨by decide +kernel, rfl, rfl⟩
theorem dX8_add_104 : decode cX8_add 104 = .ok (.bipush (-4), 2) ∧ 104 + 2 = 106 := ⟨by decide +kernel, rfl⟩
theorem dX8_add_106 : decode cX8_add 106 = .ok (.ireturn, 1) ∧ 106 + 1 = 107 := ⟨by decide +kernel, rfl⟩
theorem dX8_add_107 : decode cX8_add 107 = .ok (.iload_n 3, 1) ∧ 107 + 1 = 108 := ⟨by decide +kernel, rfl⟩
theorem dX8_add_108 : decode cX8_add 108 = .ok (.ireturn, 1) ∧ 108 + 1 = 109 := ⟨by decide +kernel, rfl⟩
theorem dX8_cloneTo_0 : decode cX8_cloneTo 0 = .ok (.aload_n 0, 1) ∧ 0 + 1 = 1 := ⟨by decide +kernel, rfl⟩
theorem dX8_cloneTo_1 : decode cX8_cloneTo 1 = .ok (.iload_n 1, 1) ∧ 1 + 1 = 2 := ⟨by decide +kernel, rfl⟩
theorem dX8_cloneTo_2 : decode cX8_cloneTo 2 = .ok (.iload_n 2, 1) ∧ 2 + 1 = 3 := ⟨by decide +kernel, rfl⟩
theorem dX8_cloneTo_3 : decode cX8_cloneTo 3 = .ok (.invokevirtual 97, 3) ∧ 3 + 3 = 6 := ⟨by decide +kernel, rfl⟩
theorem dX8_cloneTo_6 : decode cX8_cloneTo 6 = .ok (.istore_n 3, 1) ∧ 6 + 1 = 7 := ⟨by decide +kernel, rfl⟩
theorem dX8_cloneTo_7 : decode cX8_cloneTo 7 = .ok (.iload_n 3, 1) ∧ 7 + 1 = 8 := ⟨by decide +kernel, rfl⟩
theorem dX8_cloneTo_8 : decode cX8_cloneTo 8 = .ok (.ifCond .eq 5, 3) ∧ 8 + 3 = 11 ∧ ((8 : Nat) : Int) + (5) = ((13 : Nat) : Int) := ⟨by decide +kernel, rfl, rfl⟩
theorem dX8_cloneTo_11 : decode cX8_cloneTo 11 = .ok (.iload_n 3, 1) ∧ 11 + 1 = 12 := ⟨by decide +kernel, rfl⟩
theorem dX8_cloneTo_12 : decode cX8_cloneTo 12 = .ok (.ireturn, 1) ∧ 12 + 1 = 13 := ⟨by decide +kernel, rfl⟩
theorem dX8_cloneTo_13 : decode cX8_cloneTo 13 = .ok (.aload_n 0, 1) ∧ 13 + 1 = 14 := ⟨by decide +kernel, rfl⟩
theorem dX8_cloneTo_14 : decode cX8_cloneTo 14 = .ok (.getfield 51, 3) ∧ 14 + 3 = 17 := ⟨by decide +kernel, rfl⟩
theorem dX8_cloneTo_17 : decode cX8_cloneTo 17 = .ok (.aload_n 0, 1) ∧ 17 + 1 = 18 := ⟨by decide +kernel, rfl⟩
theorem dX8_cloneTo_18 : decode cX8_cloneTo 18 = .ok (.getfield 48, 3) ∧ 18 + 3 = 21 := ⟨by decide +kernel, rfl⟩
theorem dX8_cloneTo_21 : decode cX8_cloneTo 21 = .ok (.invokevirtual 72, 3) ∧ 21 + 3 = 24 := ⟨by decide +kernel, rfl⟩
theorem dX8_cloneTo_24 : decode cX8_cloneTo 24 = .ok (.aload_n 0, 1) ∧ 24 + 1 = 25 := ⟨by decide +kernel, rfl⟩
theorem dX8_cloneTo_25 : decode cX8_cloneTo 25 = .ok (.aload_n 0, 1) ∧ 25 + 1 = 26 := ⟨by decide +kernel, rfl⟩
theorem dX8_cloneTo_26 : decode cX8_cloneTo 26 = .ok (.iload_n 1, 1) ∧ 26 + 1 = 27 := ⟨by decide +kernel, rfl⟩
theorem dX8_cloneTo_27 : decode cX8_cloneTo 27 = .ok (.invokevirtual 100, 3) ∧ 27 + 3 = 30 := ⟨by decide +kernel, rfl⟩
theorem dX8_cloneTo_30 : decode cX8_cloneTo 30 = .ok (.aload_n 0, 1) ∧ 30 + 1 = 31 := ⟨by decide +kernel, rfl⟩
theorem dX8_cloneTo_31 : decode cX8_cloneTo 31 = .ok (.iload_n 2, 1) ∧ 31 + 1 = 32 := ⟨by decide +kernel, rfl⟩
theorem dX8_cloneTo_32 : decode cX8_cloneTo 32 = .ok (.invokevirtual 100, 3) ∧ 32 + 3 = 35 := ⟨by decide +kernel, rfl⟩
theorem dX8_cloneTo_35 : decode cX8_cloneTo 35 = .ok (.invokevirtual 93, 3) ∧ 35 + 3 = 38 := ⟨by decide +kernel, rfl⟩
theorem dX8_cloneTo_38 : decode cX8_cloneTo 38 = .ok (.ireturn, 1) ∧ 38 + 1 = 39 := ⟨by decide +kernel, rfl⟩
theorem dX8_move_0 : decode cX8_move 0 = .ok (.aload_n 0, 1) ∧ 0 + 1 = 1 := ⟨by decide +kernel, rfl⟩
theorem dX8_move_1 : decode cX8_move 1 = .ok (.iload_n 1, 1) ∧ 1 + 1 = 2 := ⟨by decide +kernel, rfl⟩
theorem dX8_move_2 : decode cX8_move 2 = .ok (.iload_n 2, 1) ∧ 2 + 1 = 3 := ⟨by decide +kernel, rfl⟩
theorem dX8_move_3 : decode cX8_move 3 = .ok (.invokevirtual 97, 3) ∧ 3 + 3 = 6 := ⟨by decide +kernel, rfl⟩
theorem dX8_move_6 : decode cX8_move 6 = .ok (.istore_n 3, 1) ∧ 6 + 1 = 7 := ⟨by decide +kernel, rfl⟩
theorem dX8_move_7 : decode cX8_move 7 = .ok (.iload_n 3, 1) ∧ 7 + 1 = 8 := ⟨by decide +kernel, rfl⟩
theorem dX8_move_8 : decode cX8_move 8 = .ok (.ifCond .eq 5, 3) ∧ 8 + 3 = 11 ∧ ((8 : Nat) : Int) + (5) = ((13 : Nat) : Int) := ⟨by decide +kernel, rfl, rfl⟩
theorem dX8_move_11 : decode cX8_move 11 = .ok (.iload_n 3, 1) ∧ 11 + 1 = 12 := ⟨by decide +kernel, rfl⟩
theorem dX8_move_12 : decode cX8_move 12 = .ok (.ireturn, 1) ∧ 12 + 1 = 13 := ⟨by decide +kernel, rfl⟩
theorem dX8_move_13 : decode cX8_move 13 = .ok (.aload_n 0, 1) ∧ 13 + 1 = 14 := ⟨by decide +kernel, rfl⟩
theorem dX8_move_14 : decode cX8_move 14 = .ok (.iload_n 1, 1) ∧ 14 + 1 = 15 := ⟨by decide +kernel, rfl⟩
theorem dX8_move_15 : decode cX8_move 15 = .ok (.invokevirtual 100, 3) ∧ 15 + 3 = 18 := ⟨by decide +kernel, rfl⟩
theorem dX8_move_18 : decode cX8_move 18 = .ok (.istore 4, 2) ∧ 18 + 2 = 20 := ⟨by decide +kernel, rfl⟩
theorem dX8_move_20 : decode cX8_move 20 = .ok (.aload_n 0, 1) ∧ 20 + 1 = 21 := ⟨by decide +kernel, rfl⟩
theorem dX8_move_21 : decode cX8_move 21 = .ok (.getfield 51, 3) ∧ 21 + 3 = 24 := ⟨by decide +kernel, rfl⟩
theorem dX8_move_24 : decode cX8_move 24 = .ok (.aload_n 0, 1) ∧ 24 + 1 = 25 := ⟨by decide +kernel, rfl⟩
theorem dX8_move_25 : decode cX8_move 25 = .ok (.getfield 48, 3) ∧ 25 + 3 = 28 := ⟨by decide +kernel, rfl⟩
theorem dX8_move_28 : decode cX8_move 28 = .ok (.invokevirtual 72, 3) ∧ 28 + 3 = 31 := ⟨by decide +kernel, rfl⟩
theorem dX8_move_31 : decode cX8_move 31 = .ok (.aload_n 0, 1) ∧ 31 + 1 = 32 := ⟨by decide +kernel, rfl⟩
theorem dX8_move_32 : decode cX8_move 32 = .ok (.getfield 51, 3) ∧ 32 + 3 = 35 := ⟨by decide +kernel, rfl⟩
theorem dX8_move_35 : decode cX8_move 35 = .ok (.getfield 103, 3) ∧ 35 + 3 = 38 := ⟨by decide +kernel, rfl⟩
theorem dX8_move_38 : decode cX8_move 38 = .ok (.aload_n 0, 1) ∧ 38 + 1 = 39 := ⟨by decide +kernel, rfl⟩
theorem dX8_move_39 : decode cX8_move 39 = .ok (.aload_n 0, 1) ∧ 39 + 1 = 40 := ⟨by decide +kernel, rfl⟩
theorem dX8_move_40 : decode cX8_move 40 = .ok (.getfield 26, 3) ∧ 40 + 3 = 43 := ⟨by decide +kernel, rfl⟩
theorem dX8_move_43 : decode cX8_move 43 = .ok (.iload_n 1, 1) ∧ 43 + 1 = 44 := ⟨by decide +kernel, rfl⟩
theorem dX8_move_44 : decode cX8_move 44 = .ok (.invokevirtual 107, 3) ∧ 44 + 3 = 47 := ⟨by decide +kernel, rfl⟩
theorem dX8_move_47 : decode cX8_move 47 = .ok (.invokevirtual 110, 3) ∧ 47 + 3 = 50 := ⟨by decide +kernel, rfl⟩
theorem dX8_move_50 : decode cX8_move 50 = .ok (.iload 4, 2) ∧ 50 + 2 = 52 := ⟨by decide +kernel, rfl⟩
theorem dX8_move_52 : decode cX8_move 52 = .ok (.invokevirtual 113, 3) ∧ 52 + 3 = 55 := ⟨by decide +kernel, rfl⟩
theorem dX8_move_55 : decode cX8_move 55 = .ok (.aload_n 0, 1) ∧ 55 + 1 = 56 := ⟨by decide +kernel, rfl⟩
theorem dX8_move_56 : decode cX8_move 56 = .ok (.iload 4, 2) ∧ 56 + 2 = 58 := ⟨by decide +kernel, rfl⟩
theorem dX8_move_58 : decode cX8_move 58 = .ok (.aload_n 0, 1) ∧ 58 + 1 = 59 := ⟨by decide +kernel, rfl⟩
theorem dX8_move_59 : decode cX8_move 59 = .ok (.iload_n 2, 1) ∧ 59 + 1 = 60 := ⟨by decide +kernel, rfl⟩
theorem dX8_move_60 : decode cX8_move 60 = .ok (.invokevirtual 100, 3) ∧ 60 + 3 = 63 := ⟨by decide +kernel, rfl⟩
theorem dX8_move_63 : decode cX8_move 63 = .ok (.invokevirtual 93, 3) ∧ 63 + 3 = 66 := ⟨by decide +kernel, rfl⟩
theorem dX8_move_66 : decode cX8_move 66 = .ok (.ireturn, 1) ∧ 66 + 1 = 67 := ⟨by decide +kernel, rfl⟩
theorem dX8_cut_0 : decode cX8_cut 0 = .ok (.aload_n 0, 1) ∧ 0 + 1 = 1 := ⟨by decide +kernel, rfl⟩
theorem dX8_cut_1 : decode cX8_cut 1 = .ok (.getfield 26, 3) ∧ 1 + 3 = 4 := ⟨by decide +kernel, rfl⟩
theorem dX8_cut_4 : decode cX8_cut 4 = .ok (.iload_n 1, 1) ∧ 4 + 1 = 5 := ⟨by decide +kernel, rfl⟩
theorem dX8_cut_5 : decode cX8_cut 5 = .ok (.invokevirtual 107, 3) ∧ 5 + 3 = 8 := ⟨by decide +kernel, rfl⟩
theorem dX8_cut_8 : decode cX8_cut 8 = .ok (.istore_n 2, 1) ∧ 8 + 1 = 9 := ⟨by decide +kernel, rfl⟩
theorem dX8_cut_9 : decode cX8_cut 9 = .ok (.iload_n 2, 1) ∧ 9 + 1 = 10 := ⟨by decide +kernel, rfl⟩
theorem dX8_cut_10 : decode cX8_cut 10 = .ok (.bipush (-2), 2) ∧ 10 + 2 = 12 := ⟨by decide +kernel, rfl⟩
theorem dX8_cut_12 : decode cX8_cut 12 = .ok (.if_icmp .ne 6, 3) ∧ 12 + 3 = 15 ∧ ((12 : Nat) : Int) + (6) = ((18 : Nat) : Int) := ⟨by decide +kernel, rfl, rfl⟩
theorem dX8_cut_15 : decode cX8_cut 15 = .ok (.bipush (-2), 2) ∧ 15 + 2 = 17 := ⟨by decide +kernel, rfl⟩
theorem dX8_cut_17 : decode cX8_cut 17 = .ok (.ireturn, 1) ∧ 17 + 1 = 18 := ⟨by decide +kernel, rfl⟩
theorem dX8_cut_18 : decode cX8_cut 18 = .ok (.aload_n 0, 1) ∧ 18 + 1 = 19 := ⟨by decide +kernel, rfl⟩
theorem dX8_cut_19 : decode cX8_cut 19 = .ok (.getfield 51, 3) ∧ 19 + 3 = 22 := ⟨by decide +kernel, rfl⟩
theorem dX8_cut_22 : decode cX8_cut 22 = .ok (.aload_n 0, 1) ∧ 22 + 1 = 23 := ⟨by decide +kernel, rfl⟩
theorem dX8_cut_23 : decode cX8_cut 23 = .ok (.getfield 48, 3) ∧ 23 + 3 = 26 := ⟨by decide +kernel, rfl⟩
theorem dX8_cut_26 : decode cX8_cut 26 = .ok (.invokevirtual 72, 3) ∧ 26 + 3 = 29 := ⟨by decide +kernel, rfl⟩
theorem dX8_cut_29 : decode cX8_cut 29 = .ok (.aload_n 0, 1) ∧ 29 + 1 = 30 := ⟨by decide +kernel, rfl⟩
theorem dX8_cut_30 : decode cX8_cut 30 = .ok (.getfield 51, 3) ∧ 30 + 3 = 33 := ⟨by decide +kernel, rfl⟩
theorem dX8_cut_33 : decode cX8_cut 33 = .ok (.getfield 103, 3) ∧ 33 + 3 = 36 := ⟨by decide +kernel, rfl⟩
theorem dX8_cut_36 : decode cX8_cut 36 = .ok (.aload_n 0, 1) ∧ 36 + 1 = 37 := ⟨by decide +kernel, rfl⟩
theorem dX8_cut_37 : decode cX8_cut 37 = .ok (.iload_n 2, 1) ∧ 37 + 1 = 38 := ⟨by decide +kernel, rfl⟩
theorem dX8_cut_38 : decode cX8_cut 38 = .ok (.invokevirtual 110, 3) ∧ 38 + 3 = 41 := ⟨by decide +kernel, rfl⟩
theorem dX8_cut_41 : decode cX8_cut 41 = .ok (.aload_n 0, 1) ∧ 41 + 1 = 42 := ⟨by decide +kernel, rfl⟩
theorem dX8_cut_42 : decode cX8_cut 42 = .ok (.getfield 48, 3) ∧ 42 + 3 = 45 := ⟨by decide +kernel, rfl⟩
theorem dX8_cut_45 : decode cX8_cut 45 = .ok (.getfield 84, 3) ∧ 45 + 3 = 48 := ⟨by decide +kernel, rfl⟩
theorem dX8_cut_48 : decode cX8_cut 48 = .ok (.iload_n 2, 1) ∧ 48 + 1 = 49 := ⟨by decide +kernel, rfl⟩
theorem dX8_cut_49 : decode cX8_cut 49 = .ok (.invokevirtual 88, 3) ∧ 49 + 3 = 52 := ⟨by decide +kernel, rfl⟩
theorem dX8_cut_52 : decode cX8_cut 52 = .ok (.invokevirtual 113, 3) ∧ 52 + 3 = 55 := ⟨by decide +kernel, rfl⟩
theorem dX8_cut_55 : decode cX8_cut 55 = .ok (.aload_n 0, 1) ∧ 55 + 1 = 56 := ⟨by decide +kernel, rfl⟩
theorem dX8_cut_56 : decode cX8_cut 56 = .ok (.getfield 51, 3) ∧ 56 + 3 = 59 := ⟨by decide +kernel, rfl⟩
theorem dX8_cut_59 : decode cX8_cut 59 = .ok (.aload_n 0, 1) ∧ 59 + 1 = 60 := ⟨by decide +kernel, rfl⟩
theorem dX8_cut_60 : decode cX8_cut 60 = .ok (.getfield 48, 3) ∧ 60 + 3 = 63 := ⟨by decide +kernel, rfl⟩
theorem dX8_cut_63 : decode cX8_cut 63 = .ok (.getfield 84, 3) ∧ 63 + 3 = 66 := ⟨by decide +kernel, rfl⟩
theorem dX8_cut_66 : decode cX8_cut 66 = .ok (.invokevirtual 119, 3) ∧ 66 + 3 = 69 := ⟨by decide +kernel, rfl⟩
theorem dX8_cut_69 : decode cX8_cut 69 = .ok (.pop, 1) ∧ 69 + 1 = 70 := ⟨by decide +kernel, rfl⟩
theorem dX8_cut_70 : decode cX8_cut 70 = .ok (.aload_n 0, 1) ∧ 70 + 1 = 71 := ⟨by decide +kernel, rfl⟩
theorem dX8_cut_71 : decode cX8_cut 71 = .ok (.getfield 51, 3) ∧ 71 + 3 = 74 := ⟨by decide +kernel, rfl⟩
theorem dX8_cut_74 : decode cX8_cut 74 = .ok (.aload_n 0, 1) ∧ 74 + 1 = 75 := ⟨by decide +kernel, rfl⟩
theorem dX8_cut_75 : decode cX8_cut 75 = .ok (.getfield 48, 3) ∧ 75 + 3 = 78 := ⟨by decide +kernel, rfl⟩
theorem dX8_cut_78 : decode cX8_cut 78 = .ok (.getfield 84, 3) ∧ 78 + 3 = 81 := ⟨by decide +kernel, rfl⟩
theorem dX8_cut_81 : decode cX8_cut 81 = .ok (.invokevirtual 123, 3) ∧ 81 + 3 = 84 := ⟨by decide +kernel, rfl⟩
theorem dX8_cut_84 : decode cX8_cut 84 = .ok (.invokevirtual 127, 3) ∧ 84 + 3 = 87 := ⟨by decide +kernel, rfl⟩
theorem dX8_cut_87 : decode cX8_cut 87 = .ok (.istore_n 3, 1) ∧ 87 + 1 = 88 := ⟨by decide +kernel, rfl⟩
theorem dX8_cut_88 : decode cX8_cut 88 = .ok (.aload_n 0, 1) ∧ 88 + 1 = 89 := ⟨by decide +kernel, rfl⟩
theorem dX8_cut_89 : decode cX8_cut 89 = .ok (.invokevirtual 131, 3) ∧ 89 + 3 = 92 := ⟨by decide +kernel, rfl⟩
theorem dX8_cut_92 : decode cX8_cut 92 = .ok (.iload_n 3, 1) ∧ 92 + 1 = 93 := ⟨by decide +kernel, rfl⟩
theorem dX8_cut_93 : decode cX8_cut 93 = .ok (.ireturn, 1) ∧ 93 + 1 = 94 := ⟨by decide +kernel, rfl⟩
theorem dX8_shift_0 : decode cX8_shift 0 = .ok (.aload_n 0, 1) ∧ 0 + 1 = 1 := ⟨by decide +kernel, rfl⟩
theorem dX8_shift_1 : decode cX8_shift 1 = .ok (.getfield 26, 3) ∧ 1 + 3 = 4 := ⟨by decide +kernel, rfl⟩
theorem dX8_shift_4 : decode cX8_shift 4 = .ok (.iload_n 1, 1) ∧ 4 + 1 = 5 := ⟨by decide +kernel, rfl⟩
theorem dX8_shift_5 : decode cX8_shift 5 = .ok (.invokevirtual 107, 3) ∧ 5 + 3 = 8 := ⟨by decide +kernel, rfl⟩
theorem dX8_shift_8 : decode cX8_shift 8 = .ok (.istore_n 3, 1) ∧ 8 + 1 = 9 := ⟨by decide +kernel, rfl⟩
theorem dX8_shift_9 : decode cX8_shift 9 = .ok (.iload_n 3, 1) ∧ 9 + 1 = 10 := ⟨by decide +kernel, rfl⟩
theorem dX8_shift_10 : decode cX8_shift 10 = .ok (.bipush (-2), 2) ∧ 10 + 2 = 12 := ⟨by decide +kernel, rfl⟩
theorem dX8_shift_12 : decode cX8_shift 12 = .ok (.if_icmp .ne 6, 3) ∧ 12 + 3 = 15 ∧ ((12 : Nat) : Int) + (6) = ((18 : Nat) : Int) := ⟨by decide +kernel, rfl, rfl⟩
theorem dX8_shift_15 : decode cX8_shift 15 = .ok (.bipush (-2), 2) ∧ 15 + 2 = 17 := ⟨by decide +kernel, rfl⟩
theorem dX8_shift_17 : decode cX8_shift 17 = .ok (.ireturn, 1) ∧ 17 + 1 = 18 := ⟨by decide +kernel, rfl⟩
theorem dX8_shift_18 : decode cX8_shift 18 = .ok (.iload_n 2, 1) ∧ 18 + 1 = 19 := ⟨by decide +kernel, rfl⟩
theorem dX8_shift_19 : decode cX8_shift 19 = .ok (.bipush (-39), 2) ∧ 19 + 2 = 21 := ⟨by decide +kernel, rfl⟩
theorem dX8_shift_21 : decode cX8_shift 21 = .ok (.if_icmp .lt 13, 3) ∧ 21 + 3 = 24 ∧ ((21 : Nat) : Int) + (13) = ((34 : Nat) : Int) := ⟨by decide +kernel, rfl, rfl⟩
theorem dX8_shift_24 : decode cX8_shift 24 = .ok (.iload_n 2, 1) ∧ 24 + 1 = 25 := ⟨by decide +kernel, rfl⟩
theorem dX8_shift_25 : decode cX8_shift 25 = .ok (.bipush 39, 2) ∧ 25 + 2 = 27 := ⟨by decide +kernel, rfl⟩
theorem dX8_shift_27 : decode cX8_shift 27 = .ok (.if_icmp .gt 7, 3) ∧ 27 + 3 = 30 ∧ ((27 : Nat) : Int) + (7) = ((34 : Nat) : Int) := ⟨by decide +kernel, rfl, rfl⟩
theorem dX8_shift_30 : decode cX8_shift 30 = .ok (.iload_n 2, 1) ∧ 30 + 1 = 31 := ⟨by decide +kernel, rfl⟩
theorem dX8_shift_31 : decode cX8_shift 31 = .ok (.ifCond .ne 6, 3) ∧ 31 + 3 = 34 ∧ ((31 : Nat) : Int) + (6) = ((37 : Nat) : Int) := ⟨by decide +kernel, rfl, rfl⟩
theorem dX8_shift_34 : decode cX8_shift 34 = .ok (.bipush (-3), 2) ∧ 34 + 2 = 36 := ⟨by decide +kernel, rfl⟩
theorem dX8_shift_36 : decode cX8_shift 36 = .ok (.ireturn, 1) ∧ 36 + 1 = 37 := ⟨by decide +kernel, rfl⟩
theorem dX8_shift_37 : decode cX8_shift 37 = .ok (.aload_n 0, 1) ∧ 37 + 1 = 38 := ⟨by decide +kernel, rfl⟩
theorem dX8_shift_38 : decode cX8_shift 38 = .ok (.getfield 48, 3) ∧ 38 + 3 = 41 := ⟨by decide +kernel, rfl⟩
theorem dX8_shift_41 : decode cX8_shift 41 = .ok (.getfield 84, 3) ∧ 41 + 3 = 44 := ⟨by decide +kernel, rfl⟩
theorem dX8_shift_44 : decode cX8_shift 44 = .ok (.iload_n 3, 1) ∧ 44 + 1 = 45 := ⟨by decide +kernel, rfl⟩
theorem dX8_shift_45 : decode cX8_shift 45 = .ok (.invokevirtual 88, 3) ∧ 45 + 3 = 48 := ⟨by decide +kernel, rfl⟩
theorem dX8_shift_48 : decode cX8_shift 48 = .ok (.istore 4, 2) ∧ 48 + 2 = 50 := ⟨by decide +kernel, rfl⟩
theorem dX8_shift_50 : decode cX8_shift 50 = .ok (.aload_n 0, 1) ∧ 50 + 1 = 51 := ⟨by decide +kernel, rfl⟩
theorem dX8_shift_51 : decode cX8_shift 51 = .ok (.iload_n 3, 1) ∧ 51 + 1 = 52 := ⟨by decide +kernel, rfl⟩
theorem dX8_shift_52 : decode cX8_shift 52 = .ok (.invokevirtual 110, 3) ∧ 52 + 3 = 55 := ⟨by decide +kernel, rfl⟩
theorem dX8_shift_55 : decode cX8_shift 55 = .ok (.istore 5, 2) ∧ 55 + 2 = 57 := ⟨by decide +kernel, rfl⟩
theorem dX8_shift_57 : decode cX8_shift 57 = .ok (.aload_n 0, 1) ∧ 57 + 1 = 58 := ⟨by decide +kernel, rfl⟩
theorem dX8_shift_58 : decode cX8_shift 58 = .ok (.getfield 48, 3) ∧ 58 + 3 = 61 := ⟨by decide +kernel, rfl⟩
theorem dX8_shift_61 : decode cX8_shift 61 = .ok (.getfield 103, 3) ∧ 61 + 3 = 64 := ⟨by decide +kernel, rfl⟩
theorem dX8_shift_64 : decode cX8_shift 64 = .ok (.iload 5, 2) ∧ 64 + 2 = 66 := ⟨by decide +kernel, rfl⟩
theorem dX8_shift_66 : decode cX8_shift 66 = .ok (.iload 4, 2) ∧ 66 + 2 = 68 := ⟨by decide +kernel, rfl⟩
theorem dX8_shift_68 : decode cX8_shift 68 = .ok (.invokevirtual 134, 3) ∧ 68 + 3 = 71 := ⟨by decide +kernel, rfl⟩
theorem dX8_shift_71 : decode cX8_shift 71 = .ok (.iload_n 2, 1) ∧ 71 + 1 = 72 := ⟨by decide +kernel, rfl⟩
theorem dX8_shift_72 : decode cX8_shift 72 = .ok (.iadd, 1) ∧ 72 + 1 = 73 := ⟨by decide +kernel, rfl⟩
theorem dX8_shift_73 : decode cX8_shift 73 = .ok (.istore 6, 2) ∧ 73 + 2 = 75 := ⟨by decide +kernel, rfl⟩
theorem dX8_shift_75 : decode cX8_shift 75 = .ok (.iload 6, 2) ∧ 75 + 2 = 77 := ⟨by decide +kernel, rfl⟩
theorem dX8_shift_77 : decode cX8_shift 77 = .ok (.ifCond .lt 20, 3) ∧ 77 + 3 = 80 ∧ ((77 : Nat) : Int) + (20) = ((97 : Nat) : Int) := ⟨by decide +kernel, rfl, rfl⟩
theorem dX8_shift_80 : decode cX8_shift 80 = .ok (.iload 6, 2) ∧ 80 + 2 = 82 := ⟨by decide +kernel, rfl⟩
theorem dX8_shift_82 : decode cX8_shift 82 = .ok (.aload_n 0, 1) ∧ 82 + 1 = 83 := ⟨by decide +kernel, rfl⟩
theorem dX8_shift_83 : decode cX8_shift 83 = .ok (.getfield 48, 3) ∧ 83 + 3 = 86 := ⟨by decide +kernel, rfl⟩
theorem dX8_shift_86 : decode cX8_shift 86 = .ok (.getfield 103, 3) ∧ 86 + 3 = 89 := ⟨by decide +kernel, rfl⟩
theorem dX8_shift_89 : decode cX8_shift 89 = .ok (.iload 5, 2) ∧ 89 + 2 = 91 := ⟨by decide +kernel, rfl⟩
theorem dX8_shift_91 : decode cX8_shift 91 = .ok (.invokevirtual 137, 3) ∧ 91 + 3 = 94 := ⟨by decide +kernel, rfl⟩
theorem dX8_shift_94 : decode cX8_shift 94 = .ok (.if_icmp .lt 6, 3) ∧ 94 + 3 = 97 ∧ ((94 : Nat) : Int) + (6) = ((100 : Nat) : Int) := ⟨by decide +kernel, rfl, rfl⟩
theorem dX8_shift_97 : decode cX8_shift 97 = .ok (.bipush (-5), 2) ∧ 97 + 2 = 99 := ⟨by decide +kernel, rfl⟩
theorem dX8_shift_99 : decode cX8_shift 99 = .ok (.ireturn, 1) ∧ 99 + 1 = 100 := ⟨by decide +kernel, rfl⟩
theorem dX8_shift_100 : decode cX8_shift 100 = .ok (.aload_n 0, 1) ∧ 100 + 1 = 101 := ⟨by decide +kernel, rfl⟩
theorem dX8_shift_101 : decode cX8_shift 101 = .ok (.getfield 51, 3) ∧ 101 + 3 = 104 := ⟨by decide +kernel, rfl⟩
theorem dX8_shift_104 : decode cX8_shift 104 = .ok (.aload_n 0, 1) ∧ 104 + 1 = 105 := ⟨by decide +kernel, rfl⟩
theorem dX8_shift_105 : decode cX8_shift 105 = .ok (.getfield 48, 3) ∧ 105 + 3 = 108 := ⟨by decide +kernel, rfl⟩
theorem dX8_shift_108 : decode cX8_shift 108 = .ok (.invokevirtual 72, 3) ∧ 108 + 3 = 111 := ⟨by decide +kernel, rfl⟩
theorem dX8_shift_111 : decode cX8_shift 111 = .ok (.aload_n 0, 1) ∧ 111 + 1 = 112 := ⟨by decide +kernel, rfl⟩
theorem dX8_shift_112 : decode cX8_shift 112 = .ok (.getfield 51, 3) ∧ 112 + 3 = 115 := ⟨by decide +kernel, rfl⟩
theorem dX8_shift_115 : decode cX8_shift 115 = .ok (.getfield 103, 3) ∧ 115 + 3 = 118 := ⟨by decide +kernel, rfl⟩
theorem dX8_shift_118 : decode cX8_shift 118 = .ok (.iload 5, 2) ∧ 118 + 2 = 120 := ⟨by decide +kernel, rfl⟩
theorem dX8_shift_120 : decode cX8_shift 120 = .ok (.iload 4, 2) ∧ 120 + 2 = 122 := ⟨by decide +kernel, rfl⟩
theorem dX8_shift_122 : decode cX8_shift 122 = .ok (.iload_n 2, 1) ∧ 122 + 1 = 123 := ⟨by decide +kernel, rfl⟩
theorem dX8_shift_123 : decode cX8_shift 123 = .ok (.invokevirtual 140, 3) ∧ 123 + 3 = 126 := ⟨by decide +kernel, rfl⟩
theorem dX8_shift_126 : decode cX8_shift 126 = .ok (.aload_n 0, 1) ∧ 126 + 1 = 127 := ⟨by decide +kernel, rfl⟩
theorem dX8_shift_127 : decode cX8_shift 127 = .ok (.getfield 51, 3) ∧ 127 + 3 = 130 := ⟨by decide +kernel, rfl⟩
theorem dX8_shift_130 : decode cX8_shift 130 = .ok (.aload_n 0, 1) ∧ 130 + 1 = 131 := ⟨by decide +kernel, rfl⟩
theorem dX8_shift_131 : decode cX8_shift 131 = .ok (.getfield 48, 3) ∧ 131 + 3 = 134 := ⟨by decide +kernel, rfl⟩
theorem dX8_shift_134 : decode cX8_shift 134 = .ok (.getfield 84, 3) ∧ 134 + 3 = 137 := ⟨by decide +kernel, rfl⟩
theorem dX8_shift_137 : decode cX8_shift 137 = .ok (.invokevirtual 119, 3) ∧ 137 + 3 = 140 := ⟨by decide +kernel, rfl⟩
theorem dX8_shift_140 : decode cX8_shift 140 = .ok (.pop, 1) ∧ 140 + 1 = 141 := ⟨by decide +kernel, rfl⟩
theorem dX8_shift_141 : decode cX8_shift 141 = .ok (.aload_n 0, 1) ∧ 141 + 1 = 142 := ⟨by decide +kernel, rfl⟩
theorem dX8_shift_142 : decode cX8_shift 142 = .ok (.invokevirtual 131, 3) ∧ 142 + 3 = 145 := ⟨by decide +kernel, rfl⟩
theorem dX8_shift_145 : decode cX8_shift 145 = .ok (.iload 6, 2) ∧ 145 + 2 = 147 := ⟨by decide +kernel, rfl⟩
theorem dX8_shift_147 : decode cX8_shift 147 = .ok (.ireturn, 1) ∧ 147 + 1 = 148 := ⟨by decide +kernel, rfl⟩
theorem dX8_edit_0 : decode cX8_edit 0 = .ok (.aload_n 0, 1) ∧ 0 + 1 = 1 := ⟨by decide +kernel, rfl⟩
theorem dX8_edit_1 : decode cX8_edit 1 = .ok (.getfield 26, 3) ∧ 1 + 3 = 4 := ⟨by decide +kernel, rfl⟩
theorem dX8_edit_4 : decode cX8_edit 4 = .ok (.iload_n 1, 1) ∧ 4 + 1 = 5 := ⟨by decide +kernel, rfl⟩
theorem dX8_edit_5 : decode cX8_edit 5 = .ok (.invokevirtual 107, 3) ∧ 5 + 3 = 8 := ⟨by decide +kernel, rfl⟩
theorem dX8_edit_8 : decode cX8_edit 8 = .ok (.istore_n 2, 1) ∧ 8 + 1 = 9 := ⟨by decide +kernel, rfl⟩
theorem dX8_edit_9 : decode cX8_edit 9 = .ok (.iload_n 2, 1) ∧ 9 + 1 = 10 := ⟨by decide +kernel, rfl⟩
theorem dX8_edit_10 : decode cX8_edit 10 = .ok (.bipush (-2), 2) ∧ 10 + 2 = 12 := ⟨by decide +kernel, rfl⟩
theorem dX8_edit_12 : decode cX8_edit 12 = .ok (.if_icmp .ne 6, 3) ∧ 12 + 3 = 15 ∧ ((12 : Nat) : Int) + (6) = ((18 : Nat) : Int) := ⟨by decide +kernel, rfl, rfl⟩
theorem dX8_edit_15 : decode cX8_edit 15 = .ok (.bipush (-2), 2) ∧ 15 + 2 = 17 := ⟨by decide +kernel, rfl⟩
theorem dX8_edit_17 : decode cX8_edit 17 = .ok (.ireturn, 1) ∧ 17 + 1 = 18 := ⟨by decide +kernel, rfl⟩
theorem dX8_edit_18 : decode cX8_edit 18 = .ok (.aload_n 0, 1) ∧ 18 + 1 = 19 := ⟨by decide +kernel, rfl⟩
theorem dX8_edit_19 : decode cX8_edit 19 = .ok (.getfield 10, 3) ∧ 19 + 3 = 22 := ⟨by decide +kernel, rfl⟩
theorem dX8_edit_22 : decode cX8_edit 22 = .ok (.invokevirtual 58, 3) ∧ 22 + 3 = 25 := ⟨by decide +kernel, rfl⟩
theorem dX8_edit_25 : decode cX8_edit 25 = .ok (.ifCond .ne 6, 3) ∧ 25 + 3 = 28 ∧ ((25 : Nat) : Int) + (6) = ((31 : Nat) : Int) := ⟨by decide +kernel, rfl, rfl⟩
theorem dX8_edit_28 : decode cX8_edit 28 = .ok (.bipush (-3), 2) ∧ 28 + 2 = 30 := ⟨by decide +kernel, rfl⟩
theorem dX8_edit_30 : decode cX8_edit 30 = .ok (.ireturn, 1) ∧ 30 + 1 = 31 := ⟨by decide +kernel, rfl⟩
theorem dX8_edit_31 : decode cX8_edit 31 = .ok (.aload_n 0, 1) ∧ 31 + 1 = 32 := ⟨by decide +kernel, rfl⟩
theorem dX8_edit_32 : decode cX8_edit 32 = .ok (.getfield 48, 3) ∧ 32 + 3 = 35 := ⟨by decide +kernel, rfl⟩
theorem dX8_edit_35 : decode cX8_edit 35 = .ok (.getfield 84, 3) ∧ 35 + 3 = 38 := ⟨by decide +kernel, rfl⟩
theorem dX8_edit_38 : decode cX8_edit 38 = .ok (.iload_n 2, 1) ∧ 38 + 1 = 39 := ⟨by decide +kernel, rfl⟩
theorem dX8_edit_39 : decode cX8_edit 39 = .ok (.invokevirtual 88, 3) ∧ 39 + 3 = 42 := ⟨by decide +kernel, rfl⟩
theorem dX8_edit_42 : decode cX8_edit 42 = .ok (.istore_n 3, 1) ∧ 42 + 1 = 43 := ⟨by decide +kernel, rfl⟩
theorem dX8_edit_43 : decode cX8_edit 43 = .ok (.aload_n 0, 1) ∧ 43 + 1 = 44 := ⟨by decide +kernel, rfl⟩
theorem dX8_edit_44 : decode cX8_edit 44 = .ok (.getfield 48, 3) ∧ 44 + 3 = 47 := ⟨by decide +kernel, rfl⟩
theorem dX8_edit_47 : decode cX8_edit 47 = .ok (.getfield 62, 3) ∧ 47 + 3 = 50 := ⟨by decide +kernel, rfl⟩
theorem dX8_edit_50 : decode cX8_edit 50 = .ok (.iload_n 3, 1) ∧ 50 + 1 = 51 := ⟨by decide +kernel, rfl⟩
theorem dX8_edit_51 : decode cX8_edit 51 = .ok (.aload_n 0, 1) ∧ 51 + 1 = 52 := ⟨by decide +kernel, rfl⟩
theorem dX8_edit_52 : decode cX8_edit 52 = .ok (.getfield 10, 3) ∧ 52 + 3 = 55 := ⟨by decide +kernel, rfl⟩
theorem dX8_edit_55 : decode cX8_edit 55 = .ok (.invokevirtual 144, 3) ∧ 55 + 3 = 58 := ⟨by decide +kernel, rfl⟩
theorem dX8_edit_58 : decode cX8_edit 58 = .ok (.ifCond .eq 6, 3) ∧ 58 + 3 = 61 ∧ ((58 : Nat) : Int) + (6) = ((64 : Nat) : Int) := ⟨by decide +kernel, rfl, rfl⟩
theorem dX8_edit_61 : decode cX8_edit 61 = .ok (.bipush (-6), 2) ∧ 61 + 2 = 63 := ⟨by decide +kernel, rfl⟩
theorem dX8_edit_63 : decode cX8_edit 63 = .ok (.ireturn, 1) ∧ 63 + 1 = 64 := ⟨by decide +kernel, rfl⟩
theorem dX8_edit_64 : decode cX8_edit 64 = .ok (.aload_n 0, 1) ∧ 64 + 1 = 65 := ⟨by decide +kernel, rfl⟩
theorem dX8_edit_65 : decode cX8_edit 65 = .ok (.getfield 51, 3) ∧ 65 + 3 = 68 := ⟨by decide +kernel, rfl⟩
theorem dX8_edit_68 : decode cX8_edit 68 = .ok (.aload_n 0, 1) ∧ 68 + 1 = 69 := ⟨by decide +kernel, rfl⟩
theorem dX8_edit_69 : decode cX8_edit 69 = .ok (.getfield 48, 3) ∧ 69 + 3 = 72 := ⟨by decide +kernel, rfl⟩
theorem dX8_edit_72 : decode cX8_edit 72 = .ok (.invokevirtual 72, 3) ∧ 72 + 3 = 75 := ⟨by decide +kernel, rfl⟩
theorem dX8_edit_75 : decode cX8_edit 75 = .ok (.aload_n 0, 1) ∧ 75 + 1 = 76 := ⟨by decide +kernel, rfl⟩
theorem dX8_edit_76 : decode cX8_edit 76 = .ok (.getfield 51, 3) ∧ 76 + 3 = 79 := ⟨by decide +kernel, rfl⟩
theorem dX8_edit_79 : decode cX8_edit 79 = .ok (.getfield 62, 3) ∧ 79 + 3 = 82 := ⟨by decide +kernel, rfl⟩
theorem dX8_edit_82 : decode cX8_edit 82 = .ok (.iload_n 3, 1) ∧ 82 + 1 = 83 := ⟨by decide +kernel, rfl⟩
theorem dX8_edit_83 : decode cX8_edit 83 = .ok (.aload_n 0, 1) ∧ 83 + 1 = 84 := ⟨by decide +kernel, rfl⟩
theorem dX8_edit_84 : decode cX8_edit 84 = .ok (.getfield 10, 3) ∧ 84 + 3 = 87 := ⟨by decide +kernel, rfl⟩
theorem dX8_edit_87 : decode cX8_edit 87 = .ok (.invokevirtual 80, 3) ∧ 87 + 3 = 90 := ⟨by decide +kernel, rfl⟩
theorem dX8_edit_90 : decode cX8_edit 90 = .ok (.aload_n 0, 1) ∧ 90 + 1 = 91 := ⟨by decide +kernel, rfl⟩
theorem dX8_edit_91 : decode cX8_edit 91 = .ok (.invokevirtual 131, 3) ∧ 91 + 3 = 94 := ⟨by decide +kernel, rfl⟩
theorem dX8_edit_94 : decode cX8_edit 94 = .ok (.aload_n 0, 1) ∧ 94 + 1 = 95 := ⟨by decide +kernel, rfl⟩
theorem dX8_edit_95 : decode cX8_edit 95 = .ok (.getfield 48, 3) ∧ 95 + 3 = 98 := ⟨by decide +kernel, rfl⟩
theorem dX8_edit_98 : decode cX8_edit 98 = .ok (.getfield 84, 3) ∧ 98 + 3 = 101 := ⟨by decide +kernel, rfl⟩
theorem dX8_edit_101 : decode cX8_edit 101 = .ok (.iload_n 3, 1) ∧ 101 + 1 = 102 := ⟨by decide +kernel, rfl⟩
theorem dX8_edit_102 : decode cX8_edit 102 = .ok (.invokevirtual 148, 3) ∧ 102 + 3 = 105 := ⟨by decide +kernel, rfl⟩
theorem dX8_edit_105 : decode cX8_edit 105 = .ok (.ireturn, 1) ∧ 105 + 1 = 106 := ⟨by decide +kernel, rfl⟩
theorem dX8_mark_0 : decode cX8_mark 0 = .ok (.aload_n 0, 1) ∧ 0 + 1 = 1 := ⟨by decide +kernel, rfl⟩
theorem dX8_mark_1 : decode cX8_mark 1 = .ok (.getfield 26, 3) ∧ 1 + 3 = 4 := ⟨by decide +kernel, rfl⟩
theorem dX8_mark_4 : decode cX8_mark 4 = .ok (.iload_n 1, 1) ∧ 4 + 1 = 5 := ⟨by decide +kernel, rfl⟩
theorem dX8_mark_5 : decode cX8_mark 5 = .ok (.invokevirtual 107, 3) ∧ 5 + 3 = 8 := ⟨by decide +kernel, rfl⟩
theorem dX8_mark_8 : decode cX8_mark 8 = .ok (.istore_n 3, 1) ∧ 8 + 1 = 9 := ⟨by decide +kernel, rfl⟩
theorem dX8_mark_9 : decode cX8_mark 9 = .ok (.iload_n 3, 1) ∧ 9 + 1 = 10 := ⟨by decide +kernel, rfl⟩
theorem dX8_mark_10 : decode cX8_mark 10 = .ok (.bipush (-2), 2) ∧ 10 + 2 = 12 := ⟨by decide +kernel, rfl⟩
theorem dX8_mark_12 : decode cX8_mark 12 = .ok (.if_icmp .ne 6, 3) ∧ 12 + 3 = 15 ∧ ((12 : Nat) : Int) + (6) = ((18 : Nat) : Int) := ⟨by decide +kernel, rfl, rfl⟩
theorem dX8_mark_15 : decode cX8_mark 15 = .ok (.bipush (-2), 2) ∧ 15 + 2 = 17 := ⟨by decide +kernel, rfl⟩
theorem dX8_mark_17 : decode cX8_mark 17 = .ok (.ireturn, 1) ∧ 17 + 1 = 18 := ⟨by decide +kernel, rfl⟩
theorem dX8_mark_18 : decode cX8_mark 18 = .ok (.iload_n 2, 1) ∧ 18 + 1 = 19 := ⟨by decide +kernel, rfl⟩
theorem dX8_mark_19 : decode cX8_mark 19 = .ok (.invokestatic 151, 3) ∧ 19 + 3 = 22 := ⟨by decide +kernel, rfl⟩
theorem dX8_mark_22 : decode cX8_mark 22 = .ok (.ifCond .ne 6, 3) ∧ 22 + 3 = 25 ∧ ((22 : Nat) : Int) + (6) = ((28 : Nat) : Int) := ⟨by decide +kernel, rfl, rfl⟩
theorem dX8_mark_25 : decode cX8_mark 25 = .ok (.bipush (-3), 2) ∧ 25 + 2 = 27 := ⟨by decide +kernel, rfl⟩
theorem dX8_mark_27 : decode cX8_mark 27 = .ok (.ireturn, 1) ∧ 27 + 1 = 28 := ⟨by decide +kernel, rfl⟩
theorem dX8_mark_28 : decode cX8_mark 28 = .ok (.aload_n 0, 1) ∧ 28 + 1 = 29 := ⟨by decide +kernel, rfl⟩
theorem dX8_mark_29 : decode cX8_mark 29 = .ok (.getfield 48, 3) ∧ 29 + 3 = 32 := ⟨by decide +kernel, rfl⟩
theorem dX8_mark_32 : decode cX8_mark 32 = .ok (.getfield 84, 3) ∧ 32 + 3 = 35 := ⟨by decide +kernel, rfl⟩
theorem dX8_mark_35 : decode cX8_mark 35 = .ok (.iload_n 3, 1) ∧ 35 + 1 = 36 := ⟨by decide +kernel, rfl⟩
theorem dX8_mark_36 : decode cX8_mark 36 = .ok (.invokevirtual 88, 3) ∧ 36 + 3 = 39 := ⟨by decide +kernel, rfl⟩
theorem dX8_mark_39 : decode cX8_mark 39 = .ok (.istore 4, 2) ∧ 39 + 2 = 41 := ⟨by decide +kernel, rfl⟩
theorem dX8_mark_41 : decode cX8_mark 41 = .ok (.aload_n 0, 1) ∧ 41 + 1 = 42 := ⟨by decide +kernel, rfl⟩
theorem dX8_mark_42 : decode cX8_mark 42 = .ok (.getfield 51, 3) ∧ 42 + 3 = 45 := ⟨by decide +kernel, rfl⟩
theorem dX8_mark_45 : decode cX8_mark 45 = .ok (.aload_n 0, 1) ∧ 45 + 1 = 46 := ⟨by decide +kernel, rfl⟩
theorem dX8_mark_46 : decode cX8_mark 46 = .ok (.getfield 48, 3) ∧ 46 + 3 = 49 := ⟨by decide +kernel, rfl⟩
theorem dX8_mark_49 : decode cX8_mark 49 = .ok (.invokevirtual 72, 3) ∧ 49 + 3 = 52 := ⟨by decide +kernel, rfl⟩
theorem dX8_mark_52 : decode cX8_mark 52 = .ok (.aload_n 0, 1) ∧ 52 + 1 = 53 := ⟨by decide +kernel, rfl⟩
theorem dX8_mark_53 : decode cX8_mark 53 = .ok (.getfield 51, 3) ∧ 53 + 3 = 56 := ⟨by decide +kernel, rfl⟩
theorem dX8_mark_56 : decode cX8_mark 56 = .ok (.getfield 62, 3) ∧ 56 + 3 = 59 := ⟨by decide +kernel, rfl⟩
theorem dX8_mark_59 : decode cX8_mark 59 = .ok (.iload 4, 2) ∧ 59 + 2 = 61 := ⟨by decide +kernel, rfl⟩
theorem dX8_mark_61 : decode cX8_mark 61 = .ok (.iload_n 2, 1) ∧ 61 + 1 = 62 := ⟨by decide +kernel, rfl⟩
theorem dX8_mark_62 : decode cX8_mark 62 = .ok (.invokevirtual 155, 3) ∧ 62 + 3 = 65 := ⟨by decide +kernel, rfl⟩
theorem dX8_mark_65 : decode cX8_mark 65 = .ok (.aload_n 0, 1) ∧ 65 + 1 = 66 := ⟨by decide +kernel, rfl⟩
theorem dX8_mark_66 : decode cX8_mark 66 = .ok (.invokevirtual 131, 3) ∧ 66 + 3 = 69 := ⟨by decide +kernel, rfl⟩
theorem dX8_mark_69 : decode cX8_mark 69 = .ok (.aload_n 0, 1) ∧ 69 + 1 = 70 := ⟨by decide +kernel, rfl⟩
theorem dX8_mark_70 : decode cX8_mark 70 = .ok (.getfield 48, 3) ∧ 70 + 3 = 73 := ⟨by decide +kernel, rfl⟩
theorem dX8_mark_73 : decode cX8_mark 73 = .ok (.getfield 62, 3) ∧ 73 + 3 = 76 := ⟨by decide +kernel, rfl⟩
theorem dX8_mark_76 : decode cX8_mark 76 = .ok (.iload 4, 2) ∧ 76 + 2 = 78 := ⟨by decide +kernel, rfl⟩
theorem dX8_mark_78 : decode cX8_mark 78 = .ok (.invokevirtual 158, 3) ∧ 78 + 3 = 81 := ⟨by decide +kernel, rfl⟩
theorem dX8_mark_81 : decode cX8_mark 81 = .ok (.ireturn, 1) ∧ 81 + 1 = 82 := ⟨by decide +kernel, rfl⟩
theorem dX8_fold_0 : decode cX8_fold 0 = .ok (.aload_n 0, 1) ∧ 0 + 1 = 1 := ⟨by decide +kernel, rfl⟩
theorem dX8_fold_1 : decode cX8_fold 1 = .ok (.getfield 26, 3) ∧ 1 + 3 = 4 := ⟨by decide +kernel, rfl⟩
theorem dX8_fold_4 : decode cX8_fold 4 = .ok (.iload_n 1, 1) ∧ 4 + 1 = 5 := ⟨by decide +kernel, rfl⟩
theorem dX8_fold_5 : decode cX8_fold 5 = .ok (.invokevirtual 107, 3) ∧ 5 + 3 = 8 := ⟨by decide +kernel, rfl⟩
theorem dX8_fold_8 : decode cX8_fold 8 = .ok (.istore_n 3, 1) ∧ 8 + 1 = 9 := ⟨by decide +kernel, rfl⟩
theorem dX8_fold_9 : decode cX8_fold 9 = .ok (.iload_n 3, 1) ∧ 9 + 1 = 10 := ⟨by decide +kernel, rfl⟩
theorem dX8_fold_10 : decode cX8_fold 10 = .ok (.bipush (-2), 2) ∧ 10 + 2 = 12 := ⟨by decide +kernel, rfl⟩
theorem dX8_fold_12 : decode cX8_fold 12 = .ok (.if_icmp .ne 6, 3) ∧ 12 + 3 = 15 ∧ ((12 : Nat) : Int) + (6) = ((18 : Nat) : Int) := ⟨by decide +kernel, rfl, rfl⟩
theorem dX8_fold_15 : decode cX8_fold 15 = .ok (.bipush (-2), 2) ∧ 15 + 2 = 17 := ⟨by decide +kernel, rfl⟩
theorem dX8_fold_17 : decode cX8_fold 17 = .ok (.ireturn, 1) ∧ 17 + 1 = 18 := ⟨by decide +kernel, rfl⟩
theorem dX8_fold_18 : decode cX8_fold 18 = .ok (.aload_n 0, 1) ∧ 18 + 1 = 19 := ⟨by decide +kernel, rfl⟩
theorem dX8_fold_19 : decode cX8_fold 19 = .ok (.getfield 48, 3) ∧ 19 + 3 = 22 := ⟨by decide +kernel, rfl⟩
theorem dX8_fold_22 : decode cX8_fold 22 = .ok (.getfield 84, 3) ∧ 22 + 3 = 25 := ⟨by decide +kernel, rfl⟩
theorem dX8_fold_25 : decode cX8_fold 25 = .ok (.iload_n 3, 1) ∧ 25 + 1 = 26 := ⟨by decide +kernel, rfl⟩
theorem dX8_fold_26 : decode cX8_fold 26 = .ok (.invokevirtual 161, 3) ∧ 26 + 3 = 29 := ⟨by decide +kernel, rfl⟩
theorem dX8_fold_29 : decode cX8_fold 29 = .ok (.ifCond .ne 6, 3) ∧ 29 + 3 = 32 ∧ ((29 : Nat) : Int) + (6) = ((35 : Nat) : Int) := ⟨by decide +kernel, rfl, rfl⟩
theorem dX8_fold_32 : decode cX8_fold 32 = .ok (.bipush (-5), 2) ∧ 32 + 2 = 34 := ⟨by decide +kernel, rfl⟩
theorem dX8_fold_34 : decode cX8_fold 34 = .ok (.ireturn, 1) ∧ 34 + 1 = 35 := ⟨by decide +kernel, rfl⟩
theorem dX8_fold_35 : decode cX8_fold 35 = .ok (.iload_n 2, 1) ∧ 35 + 1 = 36 := ⟨by decide +kernel, rfl⟩
theorem dX8_fold_36 : decode cX8_fold 36 = .ok (.ifCond .eq 7, 3) ∧ 36 + 3 = 39 ∧ ((36 : Nat) : Int) + (7) = ((43 : Nat) : Int) := ⟨by decide +kernel, rfl, rfl⟩
theorem dX8_fold_39 : decode cX8_fold 39 = .ok (.iconst 1, 1) ∧ 39 + 1 = 40 := ⟨by decide +kernel, rfl⟩
theorem dX8_fold_40 : decode cX8_fold 40 = .ok (.goto 4, 3) ∧ 40 + 3 = 43 ∧ ((40 : Nat) : Int) + (4) = ((44 : Nat) : Int) := ⟨by decide +kernel, rfl, rfl⟩
theorem dX8_fold_43 : decode cX8_fold 43 = .ok (.iconst 0, 1) ∧ 43 + 1 = 44 := ⟨by decide +kernel, rfl⟩
theorem dX8_fold_44 : decode cX8_fold 44 = .ok (.istore 4, 2) ∧ 44 + 2 = 46 := ⟨by decide +kernel, rfl⟩
theorem dX8_fold_46 : decode cX8_fold 46 = .ok (.aload_n 0, 1) ∧ 46 + 1 = 47 := ⟨by decide +kernel, rfl⟩
theorem dX8_fold_47 : decode cX8_fold 47 = .ok (.getfield 48, 3) ∧ 47 + 3 = 50 := ⟨by decide +kernel, rfl⟩
theorem dX8_fold_50 : decode cX8_fold 50 = .ok (.getfield 84, 3) ∧ 50 + 3 = 53 := ⟨by decide +kernel, rfl⟩
theorem dX8_fold_53 : decode cX8_fold 53 = .ok (.iload_n 3, 1) ∧ 53 + 1 = 54 := ⟨by decide +kernel, rfl⟩
theorem dX8_fold_54 : decode cX8_fold 54 = .ok (.invokevirtual 164, 3) ∧ 54 + 3 = 57 := ⟨by decide +kernel, rfl⟩
theorem dX8_fold_57 : decode cX8_fold 57 = .ok (.iload 4, 2) ∧ 57 + 2 = 59 := ⟨by decide +kernel, rfl⟩
theorem dX8_fold_59 : decode cX8_fold 59 = .ok (.if_icmp .ne 6, 3) ∧ 59 + 3 = 62 ∧ ((59 : Nat) : Int) + (6) = ((65 : Nat) : Int) := ⟨by decide +kernel, rfl, rfl⟩
theorem dX8_fold_62 : decode cX8_fold 62 = .ok (.bipush (-6), 2) ∧ 62 + 2 = 64 := ⟨by decide +kernel, rfl⟩
theorem dX8_fold_64 : decode cX8_fold 64 = .ok (.ireturn, 1) ∧ 64 + 1 = 65 := ⟨by decide +kernel, rfl⟩
theorem dX8_fold_65 : decode cX8_fold 65 = .ok (.aload_n 0, 1) ∧ 65 + 1 = 66 := ⟨by decide +kernel, rfl⟩
theorem dX8_fold_66 : decode cX8_fold 66 = .ok (.getfield 51, 3) ∧ 66 + 3 = 69 := ⟨by decide +kernel, rfl⟩
theorem dX8_fold_69 : decode cX8_fold 69 = .ok (.aload_n 0, 1) ∧ 69 + 1 = 70 := ⟨by decide +kernel, rfl⟩
theorem dX8_fold_70 : decode cX8_fold 70 = .ok (.getfield 48, 3) ∧ 70 + 3 = 73 := ⟨by decide +kernel, rfl⟩
theorem dX8_fold_73 : decode cX8_fold 73 = .ok (.invokevirtual 72, 3) ∧ 73 + 3 = 76 := ⟨by decide +kernel, rfl⟩
theorem dX8_fold_76 : decode cX8_fold 76 = .ok (.aload_n 0, 1) ∧ 76 + 1 = 77 := ⟨by decide +kernel, rfl⟩
theorem dX8_fold_77 : decode cX8_fold 77 = .ok (.getfield 51, 3) ∧ 77 + 3 = 80 := ⟨by decide +kernel, rfl⟩
theorem dX8_fold_80 : decode cX8_fold 80 = .ok (.getfield 84, 3) ∧ 80 + 3 = 83 := ⟨by decide +kernel, rfl⟩
theorem dX8_fold_83 : decode cX8_fold 83 = .ok (.iload_n 3, 1) ∧ 83 + 1 = 84 := ⟨by decide +kernel, rfl⟩
theorem dX8_fold_84 : decode cX8_fold 84 = .ok (.iload 4, 2) ∧ 84 + 2 = 86 := ⟨by decide +kernel, rfl⟩
theorem dX8_fold_86 : decode cX8_fold 86 = .ok (.invokevirtual 167, 3) ∧ 86 + 3 = 89 := ⟨by decide +kernel, rfl⟩
theorem dX8_fold_89 : decode cX8_fold 89 = .ok (.aload_n 0, 1) ∧ 89 + 1 = 90 := ⟨by decide +kernel, rfl⟩
theorem dX8_fold_90 : decode cX8_fold 90 = .ok (.invokevirtual 131, 3) ∧ 90 + 3 = 93 := ⟨by decide +kernel, rfl⟩
theorem dX8_fold_93 : decode cX8_fold 93 = .ok (.aload_n 0, 1) ∧ 93 + 1 = 94 := ⟨by decide +kernel, rfl⟩
theorem dX8_fold_94 : decode cX8_fold 94 = .ok (.getfield 26, 3) ∧ 94 + 3 = 97 := ⟨by decide +kernel, rfl⟩
theorem dX8_fold_97 : decode cX8_fold 97 = .ok (.getfield 170, 3) ∧ 97 + 3 = 100 := ⟨by decide +kernel, rfl⟩
theorem dX8_fold_100 : decode cX8_fold 100 = .ok (.ireturn, 1) ∧ 100 + 1 = 101 := ⟨by decide +kernel, rfl⟩
theorem dX8_foldLevel_0 : decode cX8_foldLevel 0 = .ok (.iload_n 1, 1) ∧ 0 + 1 = 1 := ⟨by decide +kernel, rfl⟩
theorem dX8_foldLevel_1 : decode cX8_foldLevel 1 = .ok (.iconst 1, 1) ∧ 1 + 1 = 2 := ⟨by decide +kernel, rfl⟩
theorem dX8_foldLevel_2 : decode cX8_foldLevel 2 = .ok (.if_icmp .lt 9, 3) ∧ 2 + 3 = 5 ∧ ((2 : Nat) : Int) + (9) = ((11 : Nat) : Int) := ⟨by decide +kernel, rfl, rfl⟩
theorem dX8_foldLevel_5 : decode cX8_foldLevel 5 = .ok (.iload_n 1, 1) ∧ 5 + 1 = 6 := ⟨by decide +kernel, rfl⟩
theorem dX8_foldLevel_6 : decode cX8_foldLevel 6 = .ok (.bipush 40, 2) ∧ 6 + 2 = 8 := ⟨by decide +kernel, rfl⟩
theorem dX8_foldLevel_8 : decode cX8_foldLevel 8 = .ok (.if_icmp .le 6, 3) ∧ 8 + 3 = 11 ∧ ((8 : Nat) : Int) + (6) = ((14 : Nat) : Int) := ⟨by decide +kernel, rfl, rfl⟩
theorem dX8_foldLevel_11 : decode cX8_foldLevel 11 = .ok (.bipush (-3), 2) ∧ 11 + 2 = 13 := ⟨by decide +kernel, rfl⟩
theorem dX8_foldLevel_13 : decode cX8_foldLevel 13 = .ok (.ireturn, 1) ∧ 13 + 1 = 14 := ⟨by decide +kernel, rfl⟩
theorem dX8_foldLevel_14 : decode cX8_foldLevel 14 = .ok (.aload_n 0, 1) ∧ 14 + 1 = 15 := ⟨by decide +kernel, rfl⟩
theorem dX8_foldLevel_15 : decode cX8_foldLevel 15 = .ok (.getfield 51, 3) ∧ 15 + 3 = 18 := ⟨by decide +kernel, rfl⟩
theorem dX8_foldLevel_18 : decode cX8_foldLevel 18 = .ok (.aload_n 0, 1) ∧ 18 + 1 = 19 := ⟨by decide +kernel, rfl⟩
theorem dX8_foldLevel_19 : decode cX8_foldLevel 19 = .ok (.getfield 48, 3) ∧ 19 + 3 = 22 := ⟨by decide +kernel, rfl⟩
theorem dX8_foldLevel_22 : decode cX8_foldLevel 22 = .ok (.invokevirtual 72, 3) ∧ 22 + 3 = 25 := ⟨by decide +kernel, rfl⟩
theorem dX8_foldLevel_25 : decode cX8_foldLevel 25 = .ok (.aload_n 0, 1) ∧ 25 + 1 = 26 := ⟨by decide +kernel, rfl⟩
theorem dX8_foldLevel_26 : decode cX8_foldLevel 26 = .ok (.getfield 51, 3) ∧ 26 + 3 = 29 := ⟨by decide +kernel, rfl⟩
theorem dX8_foldLevel_29 : decode cX8_foldLevel 29 = .ok (.getfield 84, 3) ∧ 29 + 3 = 32 := ⟨by decide +kernel, rfl⟩
theorem dX8_foldLevel_32 : decode cX8_foldLevel 32 = .ok (.iload_n 1, 1) ∧ 32 + 1 = 33 := ⟨by decide +kernel, rfl⟩
theorem dX8_foldLevel_33 : decode cX8_foldLevel 33 = .ok (.invokevirtual 173, 3) ∧ 33 + 3 = 36 := ⟨by decide +kernel, rfl⟩
theorem dX8_foldLevel_36 : decode cX8_foldLevel 36 = .ok (.ifCond .ne 6, 3) ∧ 36 + 3 = 39 ∧ ((36 : Nat) : Int) + (6) = ((42 : Nat) : Int) := ⟨by decide +kernel, rfl, rfl⟩
theorem dX8_foldLevel_39 : decode cX8_foldLevel 39 = .ok (.bipush (-6), 2) ∧ 39 + 2 = 41 := ⟨by decide +kernel, rfl⟩
theorem dX8_foldLevel_41 : decode cX8_foldLevel 41 = .ok (.ireturn, 1) ∧ 41 + 1 = 42 := ⟨by decide +kernel, rfl⟩
theorem dX8_foldLevel_42 : decode cX8_foldLevel 42 = .ok (.aload_n 0, 1) ∧ 42 + 1 = 43 := ⟨by decide +kernel, rfl⟩
theorem dX8_foldLevel_43 : decode cX8_foldLevel 43 = .ok (.invokevirtual 131, 3) ∧ 43 + 3 = 46 := ⟨by decide +kernel, rfl⟩
theorem dX8_foldLevel_46 : decode cX8_foldLevel 46 = .ok (.aload_n 0, 1) ∧ 46 + 1 = 47 := ⟨by decide +kernel, rfl⟩
theorem dX8_foldLevel_47 : decode cX8_foldLevel 47 = .ok (.getfield 26, 3) ∧ 47 + 3 = 50 := ⟨by decide +kernel, rfl⟩
theorem dX8_foldLevel_50 : decode cX8_foldLevel 50 = .ok (.getfield 170, 3) ∧ 50 + 3 = 53 := ⟨by decide +kernel, rfl⟩
theorem dX8_foldLevel_53 : decode cX8_foldLevel 53 = .ok (.ireturn, 1) ∧ 53 + 1 = 54 := ⟨by decide +kernel, rfl⟩
theorem dX8_show_0 : decode cX8_show 0 = .ok (.aload_n 0, 1) ∧ 0 + 1 = 1 := ⟨by decide +kernel, rfl⟩
theorem dX8_show_1 : decode cX8_show 1 = .ok (.getfield 48, 3) ∧ 1 + 3 = 4 := ⟨by decide +kernel, rfl⟩
theorem dX8_show_4 : decode cX8_show 4 = .ok (.getfield 84, 3) ∧ 4 + 3 = 7 := ⟨by decide +kernel, rfl⟩
theorem dX8_show_7 : decode cX8_show 7 = .ok (.iload_n 1, 1) ∧ 7 + 1 = 8 := ⟨by decide +kernel, rfl⟩
theorem dX8_show_8 : decode cX8_show 8 = .ok (.invokevirtual 176, 3) ∧ 8 + 3 = 11 := ⟨by decide +kernel, rfl⟩
theorem dX8_show_11 : decode cX8_show 11 = .ok (.istore_n 2, 1) ∧ 11 + 1 = 12 := ⟨by decide +kernel, rfl⟩
theorem dX8_show_12 : decode cX8_show 12 = .ok (.iload_n 2, 1) ∧ 12 + 1 = 13 := ⟨by decide +kernel, rfl⟩
theorem dX8_show_13 : decode cX8_show 13 = .ok (.bipush (-2), 2) ∧ 13 + 2 = 15 := ⟨by decide +kernel, rfl⟩
theorem dX8_show_15 : decode cX8_show 15 = .ok (.if_icmp .ne 6, 3) ∧ 15 + 3 = 18 ∧ ((15 : Nat) : Int) + (6) = ((21 : Nat) : Int) := ⟨by decide +kernel, rfl, rfl⟩
theorem dX8_show_18 : decode cX8_show 18 = .ok (.bipush (-2), 2) ∧ 18 + 2 = 20 := ⟨by decide +kernel, rfl⟩
theorem dX8_show_20 : decode cX8_show 20 = .ok (.ireturn, 1) ∧ 20 + 1 = 21 := ⟨by decide +kernel, rfl⟩
theorem dX8_show_21 : decode cX8_show 21 = .ok (.aload_n 0, 1) ∧ 21 + 1 = 22 := ⟨by decide +kernel, rfl⟩
theorem dX8_show_22 : decode cX8_show 22 = .ok (.getfield 51, 3) ∧ 22 + 3 = 25 := ⟨by decide +kernel, rfl⟩
theorem dX8_show_25 : decode cX8_show 25 = .ok (.aload_n 0, 1) ∧ 25 + 1 = 26 := ⟨by decide +kernel, rfl⟩
theorem dX8_show_26 : decode cX8_show 26 = .ok (.getfield 48, 3) ∧ 26 + 3 = 29 := ⟨by decide +kernel, rfl⟩
theorem dX8_show_29 : decode cX8_show 29 = .ok (.invokevirtual 72, 3) ∧ 29 + 3 = 32 := ⟨by decide +kernel, rfl⟩
theorem dX8_show_32 : decode cX8_show 32 = .ok (.aload_n 0, 1) ∧ 32 + 1 = 33 := ⟨by decide +kernel, rfl⟩
theorem dX8_show_33 : decode cX8_show 33 = .ok (.getfield 51, 3) ∧ 33 + 3 = 36 := ⟨by decide +kernel, rfl⟩
theorem dX8_show_36 : decode cX8_show 36 = .ok (.getfield 84, 3) ∧ 36 + 3 = 39 := ⟨by decide +kernel, rfl⟩
theorem dX8_show_39 : decode cX8_show 39 = .ok (.iload_n 2, 1) ∧ 39 + 1 = 40 := ⟨by decide +kernel, rfl⟩
theorem dX8_show_40 : decode cX8_show 40 = .ok (.invokevirtual 179, 3) ∧ 40 + 3 = 43 := ⟨by decide +kernel, rfl⟩
theorem dX8_show_43 : decode cX8_show 43 = .ok (.ifCond .ne 6, 3) ∧ 43 + 3 = 46 ∧ ((43 : Nat) : Int) + (6) = ((49 : Nat) : Int) := ⟨by decide +kernel, rfl, rfl⟩
theorem dX8_show_46 : decode cX8_show 46 = .ok (.bipush (-6), 2) ∧ 46 + 2 = 48 := ⟨by decide +kernel, rfl⟩
theorem dX8_show_48 : decode cX8_show 48 = .ok (.ireturn, 1) ∧ 48 + 1 = 49 := ⟨by decide +kernel, rfl⟩
theorem dX8_show_49 : decode cX8_show 49 = .ok (.aload_n 0, 1) ∧ 49 + 1 = 50 := ⟨by decide +kernel, rfl⟩
theorem dX8_show_50 : decode cX8_show 50 = .ok (.invokevirtual 131, 3) ∧ 50 + 3 = 53 := ⟨by decide +kernel, rfl⟩
theorem dX8_show_53 : decode cX8_show 53 = .ok (.aload_n 0, 1) ∧ 53 + 1 = 54 := ⟨by decide +kernel, rfl⟩
theorem dX8_show_54 : decode cX8_show 54 = .ok (.getfield 26, 3) ∧ 54 + 3 = 57 := ⟨by decide +kernel, rfl⟩
theorem dX8_show_57 : decode cX8_show 57 = .ok (.iload_n 2, 1) ∧ 57 + 1 = 58 := ⟨by decide +kernel, rfl⟩
theorem dX8_show_58 : decode cX8_show 58 = .ok (.invokevirtual 182, 3) ∧ 58 + 3 = 61 := ⟨by decide +kernel, rfl⟩
theorem dX8_show_61 : decode cX8_show 61 = .ok (.ireturn, 1) ∧ 61 + 1 = 62 := ⟨by decide +kernel, rfl⟩
theorem dX8_type_0 : decode cX8_type 0 = .ok (.aload_n 0, 1) ∧ 0 + 1 = 1 := ⟨by decide +kernel, rfl⟩
theorem dX8_type_1 : decode cX8_type 1 = .ok (.getfield 10, 3) ∧ 1 + 3 = 4 := ⟨by decide +kernel, rfl⟩
theorem dX8_type_4 : decode cX8_type 4 = .ok (.iload_n 1, 1) ∧ 4 + 1 = 5 := ⟨by decide +kernel, rfl⟩
theorem dX8_type_5 : decode cX8_type 5 = .ok (.invokevirtual 185, 3) ∧ 5 + 3 = 8 := ⟨by decide +kernel, rfl⟩
theorem dX8_type_8 : decode cX8_type 8 = .ok (.ifCond .eq 13, 3) ∧ 8 + 3 = 11 ∧ ((8 : Nat) : Int) + (13) = ((21 : Nat) : Int) := ⟨by decide +kernel, rfl, rfl⟩
theorem dX8_type_11 : decode cX8_type 11 = .ok (.aload_n 0, 1) ∧ 11 + 1 = 12 := ⟨by decide +kernel, rfl⟩
theorem dX8_type_12 : decode cX8_type 12 = .ok (.getfield 10, 3) ∧ 12 + 3 = 15 := ⟨by decide +kernel, rfl⟩
theorem dX8_type_15 : decode cX8_type 15 = .ok (.getfield 189, 3) ∧ 15 + 3 = 18 := ⟨by decide +kernel, rfl⟩
theorem dX8_type_18 : decode cX8_type 18 = .ok (.goto 5, 3) ∧ 18 + 3 = 21 ∧ ((18 : Nat) : Int) + (5) = ((23 : Nat) : Int) := ⟨by decide +kernel, rfl, rfl⟩
theorem dX8_type_21 : decode cX8_type 21 = .ok (.bipush (-4), 2) ∧ 21 + 2 = 23 := ⟨by decide +kernel, rfl⟩
theorem dX8_type_23 : decode cX8_type 23 = .ok (.ireturn, 1) ∧ 23 + 1 = 24 := ⟨by decide +kernel, rfl⟩
theorem dX8_clearText_0 : decode cX8_clearText 0 = .ok (.aload_n 0, 1) ∧ 0 + 1 = 1 := ⟨by decide +kernel, rfl⟩
theorem dX8_clearText_1 : decode cX8_clearText 1 = .ok (.getfield 10, 3) ∧ 1 + 3 = 4 := ⟨by decide +kernel, rfl⟩
theorem dX8_clearText_4 : decode cX8_clearText 4 = .ok (.getfield 189, 3) ∧ 4 + 3 = 7 := ⟨by decide +kernel, rfl⟩
theorem dX8_clearText_7 : decode cX8_clearText 7 = .ok (.istore_n 1, 1) ∧ 7 + 1 = 8 := ⟨by decide +kernel, rfl⟩
theorem dX8_clearText_8 : decode cX8_clearText 8 = .ok (.aload_n 0, 1) ∧ 8 + 1 = 9 := ⟨by decide +kernel, rfl⟩
theorem dX8_clearText_9 : decode cX8_clearText 9 = .ok (.getfield 10, 3) ∧ 9 + 3 = 12 := ⟨by decide +kernel, rfl⟩
theorem dX8_clearText_12 : decode cX8_clearText 12 = .ok (.iconst 0, 1) ∧ 12 + 1 = 13 := ⟨by decide +kernel, rfl⟩
theorem dX8_clearText_13 : decode cX8_clearText 13 = .ok (.putfield 189, 3) ∧ 13 + 3 = 16 := ⟨by decide +kernel, rfl⟩
theorem dX8_clearText_16 : decode cX8_clearText 16 = .ok (.iload_n 1, 1) ∧ 16 + 1 = 17 := ⟨by decide +kernel, rfl⟩
theorem dX8_clearText_17 : decode cX8_clearText 17 = .ok (.ireturn, 1) ∧ 17 + 1 = 18 := ⟨by decide +kernel, rfl⟩
theorem dX8_readOutline_0 : decode cX8_readOutline 0 = .ok (.aload_n 0, 1) ∧ 0 + 1 = 1 := ⟨by decide +kernel, rfl⟩
theorem dX8_readOutline_1 : decode cX8_readOutline 1 = .ok (.getfield 51, 3) ∧ 1 + 3 = 4 := ⟨by decide +kernel, rfl⟩
theorem dX8_readOutline_4 : decode cX8_readOutline 4 = .ok (.invokevirtual 192, 3) ∧ 4 + 3 = 7 := ⟨by decide +kernel, rfl⟩
theorem dX8_readOutline_7 : decode cX8_readOutline 7 = .ok (.aload_n 0, 1) ∧ 7 + 1 = 8 := ⟨by decide +kernel, rfl⟩
theorem dX8_readOutline_8 : decode cX8_readOutline 8 = .ok (.getfield 19, 3) ∧ 8 + 3 = 11 := ⟨by decide +kernel, rfl⟩
theorem dX8_readOutline_11 : decode cX8_readOutline 11 = .ok (.aload_n 0, 1) ∧ 11 + 1 = 12 := ⟨by decide +kernel, rfl⟩
theorem dX8_readOutline_12 : decode cX8_readOutline 12 = .ok (.getfield 10, 3) ∧ 12 + 3 = 15 := ⟨by decide +kernel, rfl⟩
theorem dX8_readOutline_15 : decode cX8_readOutline 15 = .ok (.aload_n 0, 1) ∧ 15 + 1 = 16 := ⟨by decide +kernel, rfl⟩
theorem dX8_readOutline_16 : decode cX8_readOutline 16 = .ok (.getfield 51, 3) ∧ 16 + 3 = 19 := ⟨by decide +kernel, rfl⟩
theorem dX8_readOutline_19 : decode cX8_readOutline 19 = .ok (.invokevirtual 195, 3) ∧ 19 + 3 = 22 := ⟨by decide +kernel, rfl⟩
theorem dX8_readOutline_22 : decode cX8_readOutline 22 = .ok (.istore_n 1, 1) ∧ 22 + 1 = 23 := ⟨by decide +kernel, rfl⟩
theorem dX8_readOutline_23 : decode cX8_readOutline 23 = .ok (.iload_n 1, 1) ∧ 23 + 1 = 24 := ⟨by decide +kernel, rfl⟩
theorem dX8_readOutline_24 : decode cX8_readOutline 24 = .ok (.iconst (-1), 1) ∧ 24 + 1 = 25 := ⟨by decide +kernel, rfl⟩
theorem dX8_readOutline_25 : decode cX8_readOutline 25 = .ok (.if_icmp .eq 8, 3) ∧ 25 + 3 = 28 ∧ ((25 : Nat) : Int) + (8) = ((33 : Nat) : Int) := ⟨by decide +kernel, rfl, rfl⟩
theorem dX8_readOutline_28 : decode cX8_readOutline 28 = .ok (.bipush (-100), 2) ∧ 28 + 2 = 30 := ⟨by decide +kernel, rfl⟩
theorem dX8_readOutline_30 : decode cX8_readOutline 30 = .ok (.iload_n 1, 1) ∧ 30 + 1 = 31 := ⟨by decide +kernel, rfl⟩
theorem dX8_readOutline_31 : decode cX8_readOutline 31 = .ok (.isub, 1) ∧ 31 + 1 = 32 := ⟨by decide +kernel, rfl⟩
theorem dX8_readOutline_32 : decode cX8_readOutline 32 = .ok (.ireturn, 1) ∧ 32 + 1 = 33 := ⟨by decide +kernel, rfl⟩
theorem dX8_readOutline_33 : decode cX8_readOutline 33 = .ok (.aload_n 0, 1) ∧ 33 + 1 = 34 := ⟨by decide +kernel, rfl⟩
theorem dX8_readOutline_34 : decode cX8_readOutline 34 = .ok (.getfield 51, 3) ∧ 34 + 3 = 37 := ⟨by decide +kernel, rfl⟩
theorem dX8_readOutline_37 : decode cX8_readOutline 37 = .ok (.invokevirtual 199, 3) ∧ 37 + 3 = 40 := ⟨by decide +kernel, rfl⟩
theorem dX8_readOutline_40 : decode cX8_readOutline 40 = .ok (.ifCond .ne 6, 3) ∧ 40 + 3 = 43 ∧ ((40 : Nat) : Int) + (6) = ((46 : Nat) : Int) := ⟨by decide +kernel, rfl, rfl⟩
theorem dX8_readOutline_43 : decode cX8_readOutline 43 = .ok (.bipush (-4), 2) ∧ 43 + 2 = 45 := ⟨by decide +kernel, rfl⟩
theorem dX8_readOutline_45 : decode cX8_readOutline 45 = .ok (.ireturn, 1) ∧ 45 + 1 = 46 := ⟨by decide +kernel, rfl⟩
theorem dX8_readOutline_46 : decode cX8_readOutline 46 = .ok (.aload_n 0, 1) ∧ 46 + 1 = 47 := ⟨by decide +kernel, rfl⟩
theorem dX8_readOutline_47 : decode cX8_readOutline 47 = .ok (.invokevirtual 131, 3) ∧ 47 + 3 = 50 := ⟨by decide +kernel, rfl⟩
theorem dX8_readOutline_50 : decode cX8_readOutline 50 = .ok (.aload_n 0, 1) ∧ 50 + 1 = 51 := ⟨by decide +kernel, rfl⟩
theorem dX8_readOutline_51 : decode cX8_readOutline 51 = .ok (.getfield 48, 3) ∧ 51 + 3 = 54 := ⟨by decide +kernel, rfl⟩
theorem dX8_readOutline_54 : decode cX8_readOutline 54 = .ok (.getfield 84, 3) ∧ 54 + 3 = 57 := ⟨by decide +kernel, rfl⟩
theorem dX8_readOutline_57 : decode cX8_readOutline 57 = .ok (.getfield 202, 3) ∧ 57 + 3 = 60 := ⟨by decide +kernel, rfl⟩
theorem dX8_readOutline_60 : decode cX8_readOutline 60 = .ok (.ireturn, 1) ∧ 60 + 1 = 61 := ⟨by decide +kernel, rfl⟩
theorem dX8_undo_0 : decode cX8_undo 0 = .ok (.aload_n 0, 1) ∧ 0 + 1 = 1 := ⟨by decide +kernel, rfl⟩
theorem dX8_undo_1 : decode cX8_undo 1 = .ok (.getfield 33, 3) ∧ 1 + 3 = 4 := ⟨by decide +kernel, rfl⟩
theorem dX8_undo_4 : decode cX8_undo 4 = .ok (.aload_n 0, 1) ∧ 4 + 1 = 5 := ⟨by decide +kernel, rfl⟩
theorem dX8_undo_5 : decode cX8_undo 5 = .ok (.getfield 48, 3) ∧ 5 + 3 = 8 := ⟨by decide +kernel, rfl⟩
theorem dX8_undo_8 : decode cX8_undo 8 = .ok (.invokevirtual 203, 3) ∧ 8 + 3 = 11 := ⟨by decide +kernel, rfl⟩
theorem dX8_undo_11 : decode cX8_undo 11 = .ok (.ifCond .ne 6, 3) ∧ 11 + 3 = 14 ∧ ((11 : Nat) : Int) + (6) = ((17 : Nat) : Int) := ⟨by decide +kernel, rfl, rfl⟩
theorem dX8_undo_14 : decode cX8_undo 14 = .ok (.bipush (-6), 2) ∧ 14 + 2 = 16 := ⟨by decide +kernel, rfl⟩
theorem dX8_undo_16 : decode cX8_undo 16 = .ok (.ireturn, 1) ∧ 16 + 1 = 17 := ⟨by decide +kernel, rfl⟩
theorem dX8_undo_17 : decode cX8_undo 17 = .ok (.aload_n 0, 1) ∧ 17 + 1 = 18 := ⟨by decide +kernel, rfl⟩
theorem dX8_undo_18 : decode cX8_undo 18 = .ok (.getfield 26, 3) ∧ 18 + 3 = 21 := ⟨by decide +kernel, rfl⟩
theorem dX8_undo_21 : decode cX8_undo 21 = .ok (.aload_n 0, 1) ∧ 21 + 1 = 22 := ⟨by decide +kernel, rfl⟩
theorem dX8_undo_22 : decode cX8_undo 22 = .ok (.getfield 48, 3) ∧ 22 + 3 = 25 := ⟨by decide +kernel, rfl⟩
theorem dX8_undo_25 : decode cX8_undo 25 = .ok (.getfield 84, 3) ∧ 25 + 3 = 28 := ⟨by decide +kernel, rfl⟩
theorem dX8_undo_28 : decode cX8_undo 28 = .ok (.invokevirtual 207, 3) ∧ 28 + 3 = 31 := ⟨by decide +kernel, rfl⟩
theorem dX8_undo_31 : decode cX8_undo 31 = .ok (.aload_n 0, 1) ∧ 31 + 1 = 32 := ⟨by decide +kernel, rfl⟩
theorem dX8_undo_32 : decode cX8_undo 32 = .ok (.getfield 33, 3) ∧ 32 + 3 = 35 := ⟨by decide +kernel, rfl⟩
theorem dX8_undo_35 : decode cX8_undo 35 = .ok (.getfield 211, 3) ∧ 35 + 3 = 38 := ⟨by decide +kernel, rfl⟩
theorem dX8_undo_38 : decode cX8_undo 38 = .ok (.ireturn, 1) ∧ 38 + 1 = 39 := ⟨by decide +kernel, rfl⟩
theorem dX8_keep_0 : decode cX8_keep 0 = .ok (.aload_n 0, 1) ∧ 0 + 1 = 1 := ⟨by decide +kernel, rfl⟩
theorem dX8_keep_1 : decode cX8_keep 1 = .ok (.getfield 40, 3) ∧ 1 + 3 = 4 := ⟨by decide +kernel, rfl⟩
theorem dX8_keep_4 : decode cX8_keep 4 = .ok (.aload_n 0, 1) ∧ 4 + 1 = 5 := ⟨by decide +kernel, rfl⟩
theorem dX8_keep_5 : decode cX8_keep 5 = .ok (.getfield 48, 3) ∧ 5 + 3 = 8 := ⟨by decide +kernel, rfl⟩
theorem dX8_keep_8 : decode cX8_keep 8 = .ok (.invokevirtual 72, 3) ∧ 8 + 3 = 11 := ⟨by decide +kernel, rfl⟩
theorem dX8_keep_11 : decode cX8_keep 11 = .ok (.aload_n 0, 1) ∧ 11 + 1 = 12 := ⟨by decide +kernel, rfl⟩
theorem dX8_keep_12 : decode cX8_keep 12 = .ok (.iconst 1, 1) ∧ 12 + 1 = 13 := ⟨by decide +kernel, rfl⟩
theorem dX8_keep_13 : decode cX8_keep 13 = .ok (.putfield 44, 3) ∧ 13 + 3 = 16 := ⟨by decide +kernel, rfl⟩
theorem dX8_keep_16 : decode cX8_keep 16 = .ok (.aload_n 0, 1) ∧ 16 + 1 = 17 := ⟨by decide +kernel, rfl⟩
theorem dX8_keep_17 : decode cX8_keep 17 = .ok (.getfield 26, 3) ∧ 17 + 3 = 20 := ⟨by decide +kernel, rfl⟩
theorem dX8_keep_20 : decode cX8_keep 20 = .ok (.getfield 170, 3) ∧ 20 + 3 = 23 := ⟨by decide +kernel, rfl⟩
theorem dX8_keep_23 : decode cX8_keep 23 = .ok (.ireturn, 1) ∧ 23 + 1 = 24 := ⟨by decide +kernel, rfl⟩
theorem dX8_restore_0 : decode cX8_restore 0 = .ok (.aload_n 0, 1) ∧ 0 + 1 = 1 := ⟨by decide +kernel, rfl⟩
theorem dX8_restore_1 : decode cX8_restore 1 = .ok (.getfield 44, 3) ∧ 1 + 3 = 4 := ⟨by decide +kernel, rfl⟩
theorem dX8_restore_4 : decode cX8_restore 4 = .ok (.ifCond .ne 6, 3) ∧ 4 + 3 = 7 ∧ ((4 : Nat) : Int) + (6) = ((10 : Nat) : Int) := ⟨by decide +kernel, rfl, rfl⟩
theorem dX8_restore_7 : decode cX8_restore 7 = .ok (.bipush (-6), 2) ∧ 7 + 2 = 9 := ⟨by decide +kernel, rfl⟩
theorem dX8_restore_9 : decode cX8_restore 9 = .ok (.ireturn, 1) ∧ 9 + 1 = 10 := ⟨by decide +kernel, rfl⟩
theorem dX8_restore_10 : decode cX8_restore 10 = .ok (.aload_n 0, 1) ∧ 10 + 1 = 11 := ⟨by decide +kernel, rfl⟩
theorem dX8_restore_11 : decode cX8_restore 11 = .ok (.getfield 51, 3) ∧ 11 + 3 = 14 := ⟨by decide +kernel, rfl⟩
theorem dX8_restore_14 : decode cX8_restore 14 = .ok (.aload_n 0, 1) ∧ 14 + 1 = 15 := ⟨by decide +kernel, rfl⟩
theorem dX8_restore_15 : decode cX8_restore 15 = .ok (.getfield 40, 3) ∧ 15 + 3 = 18 := ⟨by decide +kernel, rfl⟩
theorem dX8_restore_18 : decode cX8_restore 18 = .ok (.invokevirtual 72, 3) ∧ 18 + 3 = 21 := ⟨by decide +kernel, rfl⟩
theorem dX8_restore_21 : decode cX8_restore 21 = .ok (.aload_n 0, 1) ∧ 21 + 1 = 22 := ⟨by decide +kernel, rfl⟩
theorem dX8_restore_22 : decode cX8_restore 22 = .ok (.invokevirtual 131, 3) ∧ 22 + 3 = 25 := ⟨by decide +kernel, rfl⟩
theorem dX8_restore_25 : decode cX8_restore 25 = .ok (.aload_n 0, 1) ∧ 25 + 1 = 26 := ⟨by decide +kernel, rfl⟩
theorem dX8_restore_26 : decode cX8_restore 26 = .ok (.getfield 26, 3) ∧ 26 + 3 = 29 := ⟨by decide +kernel, rfl⟩
theorem dX8_restore_29 : decode cX8_restore 29 = .ok (.getfield 170, 3) ∧ 29 + 3 = 32 := ⟨by decide +kernel, rfl⟩
theorem dX8_restore_32 : decode cX8_restore 32 = .ok (.ireturn, 1) ∧ 32 + 1 = 33 := ⟨by decide +kernel, rfl⟩
theorem dX8_row_0 : decode cX8_row 0 = .ok (.aload_n 0, 1) ∧ 0 + 1 = 1 := ⟨by decide +kernel, rfl⟩
theorem dX8_row_1 : decode cX8_row 1 = .ok (.getfield 26, 3) ∧ 1 + 3 = 4 := ⟨by decide +kernel, rfl⟩
theorem dX8_row_4 : decode cX8_row 4 = .ok (.iload_n 1, 1) ∧ 4 + 1 = 5 := ⟨by decide +kernel, rfl⟩
theorem dX8_row_5 : decode cX8_row 5 = .ok (.invokevirtual 107, 3) ∧ 5 + 3 = 8 := ⟨by decide +kernel, rfl⟩
theorem dX8_row_8 : decode cX8_row 8 = .ok (.istore_n 3, 1) ∧ 8 + 1 = 9 := ⟨by decide +kernel, rfl⟩
theorem dX8_row_9 : decode cX8_row 9 = .ok (.iload_n 3, 1) ∧ 9 + 1 = 10 := ⟨by decide +kernel, rfl⟩
theorem dX8_row_10 : decode cX8_row 10 = .ok (.bipush (-2), 2) ∧ 10 + 2 = 12 := ⟨by decide +kernel, rfl⟩
theorem dX8_row_12 : decode cX8_row 12 = .ok (.if_icmp .ne 6, 3) ∧ 12 + 3 = 15 ∧ ((12 : Nat) : Int) + (6) = ((18 : Nat) : Int) := ⟨by decide +kernel, rfl, rfl⟩
theorem dX8_row_15 : decode cX8_row 15 = .ok (.bipush (-2), 2) ∧ 15 + 2 = 17 := ⟨by decide +kernel, rfl⟩
theorem dX8_row_17 : decode cX8_row 17 = .ok (.ireturn, 1) ∧ 17 + 1 = 18 := ⟨by decide +kernel, rfl⟩
theorem dX8_row_18 : decode cX8_row 18 = .ok (.aload_n 0, 1) ∧ 18 + 1 = 19 := ⟨by decide +kernel, rfl⟩
theorem dX8_row_19 : decode cX8_row 19 = .ok (.getfield 48, 3) ∧ 19 + 3 = 22 := ⟨by decide +kernel, rfl⟩
theorem dX8_row_22 : decode cX8_row 22 = .ok (.getfield 84, 3) ∧ 22 + 3 = 25 := ⟨by decide +kernel, rfl⟩
theorem dX8_row_25 : decode cX8_row 25 = .ok (.astore 4, 2) ∧ 25 + 2 = 27 := ⟨by decide +kernel, rfl⟩
theorem dX8_row_27 : decode cX8_row 27 = .ok (.aload 4, 2) ∧ 27 + 2 = 29 := ⟨by decide +kernel, rfl⟩
theorem dX8_row_29 : decode cX8_row 29 = .ok (.iload_n 3, 1) ∧ 29 + 1 = 30 := ⟨by decide +kernel, rfl⟩
theorem dX8_row_30 : decode cX8_row 30 = .ok (.invokevirtual 88, 3) ∧ 30 + 3 = 33 := ⟨by decide +kernel, rfl⟩
theorem dX8_row_33 : decode cX8_row 33 = .ok (.istore 5, 2) ∧ 33 + 2 = 35 := ⟨by decide +kernel, rfl⟩
theorem dX8_row_35 : decode cX8_row 35 = .ok (.iload_n 2, 1) ∧ 35 + 1 = 36 := ⟨by decide +kernel, rfl⟩
theorem dX8_row_36 : decode cX8_row 36 = .ok (.tableswitch 132 0 8 #[52, 55, 62, 68, 81, 88, 101, 109, 115], 52) ∧ 36 + 52 = 88 := ⟨by decide +kernel, rfl⟩
theorem dX8_row_88 : decode cX8_row 88 = .ok (.iload 5, 2) ∧ 88 + 2 = 90 := ⟨by decide +kernel, rfl⟩
theorem dX8_row_90 : decode cX8_row 90 = .ok (.ireturn, 1) ∧ 90 + 1 = 91 := ⟨by decide +kernel, rfl⟩
theorem dX8_row_91 : decode cX8_row 91 = .ok (.aload 4, 2) ∧ 91 + 2 = 93 := ⟨by decide +kernel, rfl⟩
theorem dX8_row_93 : decode cX8_row 93 = .ok (.iload_n 3, 1) ∧ 93 + 1 = 94 := ⟨by decide +kernel, rfl⟩
theorem dX8_row_94 : decode cX8_row 94 = .ok (.invokevirtual 212, 3) ∧ 94 + 3 = 97 := ⟨by decide +kernel, rfl⟩
theorem dX8_row_97 : decode cX8_row 97 = .ok (.ireturn, 1) ∧ 97 + 1 = 98 := ⟨by decide +kernel, rfl⟩
theorem dX8_row_98 : decode cX8_row 98 = .ok (.aload_n 0, 1) ∧ 98 + 1 = 99 := ⟨by decide +kernel, rfl⟩
theorem dX8_row_99 : decode cX8_row 99 = .ok (.iload_n 3, 1) ∧ 99 + 1 = 100 := ⟨by decide +kernel, rfl⟩
theorem dX8_row_100 : decode cX8_row 100 = .ok (.invokevirtual 215, 3) ∧ 100 + 3 = 103 := ⟨by decide +kernel, rfl⟩
theorem dX8_row_103 : decode cX8_row 103 = .ok (.ireturn, 1) ∧ 103 + 1 = 104 := ⟨by decide +kernel, rfl⟩
theorem dX8_row_104 : decode cX8_row 104 = .ok (.aload_n 0, 1) ∧ 104 + 1 = 105 := ⟨by decide +kernel, rfl⟩
theorem dX8_row_105 : decode cX8_row 105 = .ok (.getfield 48, 3) ∧ 105 + 3 = 108 := ⟨by decide +kernel, rfl⟩
theorem dX8_row_108 : decode cX8_row 108 = .ok (.getfield 103, 3) ∧ 108 + 3 = 111 := ⟨by decide +kernel, rfl⟩
theorem dX8_row_111 : decode cX8_row 111 = .ok (.iload 5, 2) ∧ 111 + 2 = 113 := ⟨by decide +kernel, rfl⟩
theorem dX8_row_113 : decode cX8_row 113 = .ok (.invokevirtual 137, 3) ∧ 113 + 3 = 116 := ⟨by decide +kernel, rfl⟩
theorem dX8_row_116 : decode cX8_row 116 = .ok (.ireturn, 1) ∧ 116 + 1 = 117 := ⟨by decide +kernel, rfl⟩
theorem dX8_row_117 : decode cX8_row 117 = .ok (.aload 4, 2) ∧ 117 + 2 = 119 := ⟨by decide +kernel, rfl⟩
theorem dX8_row_119 : decode cX8_row 119 = .ok (.iload_n 3, 1) ∧ 119 + 1 = 120 := ⟨by decide +kernel, rfl⟩
theorem dX8_row_120 : decode cX8_row 120 = .ok (.invokevirtual 164, 3) ∧ 120 + 3 = 123 := ⟨by decide +kernel, rfl⟩
theorem dX8_row_123 : decode cX8_row 123 = .ok (.ireturn, 1) ∧ 123 + 1 = 124 := ⟨by decide +kernel, rfl⟩
theorem dX8_row_124 : decode cX8_row 124 = .ok (.aload_n 0, 1) ∧ 124 + 1 = 125 := ⟨by decide +kernel, rfl⟩
theorem dX8_row_125 : decode cX8_row 125 = .ok (.getfield 48, 3) ∧ 125 + 3 = 128 := ⟨by decide +kernel, rfl⟩
theorem dX8_row_128 : decode cX8_row 128 = .ok (.getfield 62, 3) ∧ 128 + 3 = 131 := ⟨by decide +kernel, rfl⟩
theorem dX8_row_131 : decode cX8_row 131 = .ok (.iload 5, 2) ∧ 131 + 2 = 133 := ⟨by decide +kernel, rfl⟩
theorem dX8_row_133 : decode cX8_row 133 = .ok (.invokevirtual 158, 3) ∧ 133 + 3 = 136 := ⟨by decide +kernel, rfl⟩
theorem dX8_row_136 : decode cX8_row 136 = .ok (.ireturn, 1) ∧ 136 + 1 = 137 := ⟨by decide +kernel, rfl⟩
theorem dX8_row_137 : decode cX8_row 137 = .ok (.aload 4, 2) ∧ 137 + 2 = 139 := ⟨by decide +kernel, rfl⟩
theorem dX8_row_139 : decode cX8_row 139 = .ok (.iload 5, 2) ∧ 139 + 2 = 141 := ⟨by decide +kernel, rfl⟩
theorem dX8_row_141 : decode cX8_row 141 = .ok (.invokevirtual 148, 3) ∧ 141 + 3 = 144 := ⟨by decide +kernel, rfl⟩
theorem dX8_row_144 : decode cX8_row 144 = .ok (.ireturn, 1) ∧ 144 + 1 = 145 := ⟨by decide +kernel, rfl⟩
theorem dX8_row_145 : decode cX8_row 145 = .ok (.aload_n 0, 1) ∧ 145 + 1 = 146 := ⟨by decide +kernel, rfl⟩
theorem dX8_row_146 : decode cX8_row 146 = .ok (.iload_n 3, 1) ∧ 146 + 1 = 147 := ⟨by decide +kernel, rfl⟩
theorem dX8_row_147 : decode cX8_row 147 = .ok (.invokevirtual 218, 3) ∧ 147 + 3 = 150 := ⟨by decide +kernel, rfl⟩
theorem dX8_row_150 : decode cX8_row 150 = .ok (.ireturn, 1) ∧ 150 + 1 = 151 := ⟨by decide +kernel, rfl⟩
theorem dX8_row_151 : decode cX8_row 151 = .ok (.aload_n 0, 1) ∧ 151 + 1 = 152 := ⟨by decide +kernel, rfl⟩
theorem dX8_row_152 : decode cX8_row 152 = .ok (.getfield 26, 3) ∧ 152 + 3 = 155 := ⟨by decide +kernel, rfl⟩
theorem dX8_row_155 : decode cX8_row 155 = .ok (.iload_n 3, 1) ∧ 155 + 1 = 156 := ⟨by decide +kernel, rfl⟩
theorem dX8_row_156 : decode cX8_row 156 = .ok (.iconst 1, 1) ∧ 156 + 1 = 157 := ⟨by decide +kernel, rfl⟩
theorem dX8_row_157 : decode cX8_row 157 = .ok (.iadd, 1) ∧ 157 + 1 = 158 := ⟨by decide +kernel, rfl⟩
theorem dX8_row_158 : decode cX8_row 158 = .ok (.aload 4, 2) ∧ 158 + 2 = 160 := ⟨by decide +kernel, rfl⟩
theorem dX8_row_160 : decode cX8_row 160 = .ok (.iload_n 3, 1) ∧ 160 + 1 = 161 := ⟨by decide +kernel, rfl⟩
theorem dX8_row_161 : decode cX8_row 161 = .ok (.invokevirtual 221, 3) ∧ 161 + 3 = 164 := ⟨by decide +kernel, rfl⟩
theorem dX8_row_164 : decode cX8_row 164 = .ok (.invokevirtual 224, 3) ∧ 164 + 3 = 167 := ⟨by decide +kernel, rfl⟩
theorem dX8_row_167 : decode cX8_row 167 = .ok (.ireturn, 1) ∧ 167 + 1 = 168 := ⟨by decide +kernel, rfl⟩
theorem dX8_row_168 : decode cX8_row 168 = .ok (.bipush (-3), 2) ∧ 168 + 2 = 170 := ⟨by decide +kernel, rfl⟩
theorem dX8_row_170 : decode cX8_row 170 = .ok (.ireturn, 1) ∧ 170 + 1 = 171 := ⟨by decide +kernel, rfl⟩
theorem dX8_number_0 : decode cX8_number 0 = .ok (.aload_n 0, 1) ∧ 0 + 1 = 1 := ⟨by decide +kernel, rfl⟩
theorem dX8_number_1 : decode cX8_number 1 = .ok (.getfield 26, 3) ∧ 1 + 3 = 4 := ⟨by decide +kernel, rfl⟩
theorem dX8_number_4 : decode cX8_number 4 = .ok (.iload_n 1, 1) ∧ 4 + 1 = 5 := ⟨by decide +kernel, rfl⟩
theorem dX8_number_5 : decode cX8_number 5 = .ok (.invokevirtual 107, 3) ∧ 5 + 3 = 8 := ⟨by decide +kernel, rfl⟩
theorem dX8_number_8 : decode cX8_number 8 = .ok (.istore_n 3, 1) ∧ 8 + 1 = 9 := ⟨by decide +kernel, rfl⟩
theorem dX8_number_9 : decode cX8_number 9 = .ok (.iload_n 3, 1) ∧ 9 + 1 = 10 := ⟨by decide +kernel, rfl⟩
theorem dX8_number_10 : decode cX8_number 10 = .ok (.bipush (-2), 2) ∧ 10 + 2 = 12 := ⟨by decide +kernel, rfl⟩
theorem dX8_number_12 : decode cX8_number 12 = .ok (.if_icmp .ne 6, 3) ∧ 12 + 3 = 15 ∧ ((12 : Nat) : Int) + (6) = ((18 : Nat) : Int) := ⟨by decide +kernel, rfl, rfl⟩
theorem dX8_number_15 : decode cX8_number 15 = .ok (.bipush (-2), 2) ∧ 15 + 2 = 17 := ⟨by decide +kernel, rfl⟩
theorem dX8_number_17 : decode cX8_number 17 = .ok (.ireturn, 1) ∧ 17 + 1 = 18 := ⟨by decide +kernel, rfl⟩
theorem dX8_number_18 : decode cX8_number 18 = .ok (.iload_n 2, 1) ∧ 18 + 1 = 19 := ⟨by decide +kernel, rfl⟩
theorem dX8_number_19 : decode cX8_number 19 = .ok (.iconst 1, 1) ∧ 19 + 1 = 20 := ⟨by decide +kernel, rfl⟩
theorem dX8_number_20 : decode cX8_number 20 = .ok (.if_icmp .ge 6, 3) ∧ 20 + 3 = 23 ∧ ((20 : Nat) : Int) + (6) = ((26 : Nat) : Int) := ⟨by decide +kernel, rfl, rfl⟩
theorem dX8_number_23 : decode cX8_number 23 = .ok (.bipush (-3), 2) ∧ 23 + 2 = 25 := ⟨by decide +kernel, rfl⟩
theorem dX8_number_25 : decode cX8_number 25 = .ok (.ireturn, 1) ∧ 25 + 1 = 26 := ⟨by decide +kernel, rfl⟩
theorem dX8_number_26 : decode cX8_number 26 = .ok (.iload_n 2, 1) ∧ 26 + 1 = 27 := ⟨by decide +kernel, rfl⟩
theorem dX8_number_27 : decode cX8_number 27 = .ok (.aload_n 0, 1) ∧ 27 + 1 = 28 := ⟨by decide +kernel, rfl⟩
theorem dX8_number_28 : decode cX8_number 28 = .ok (.getfield 48, 3) ∧ 28 + 3 = 31 := ⟨by decide +kernel, rfl⟩
theorem dX8_number_31 : decode cX8_number 31 = .ok (.getfield 84, 3) ∧ 31 + 3 = 34 := ⟨by decide +kernel, rfl⟩
theorem dX8_number_34 : decode cX8_number 34 = .ok (.iload_n 3, 1) ∧ 34 + 1 = 35 := ⟨by decide +kernel, rfl⟩
theorem dX8_number_35 : decode cX8_number 35 = .ok (.invokevirtual 212, 3) ∧ 35 + 3 = 38 := ⟨by decide +kernel, rfl⟩
theorem dX8_number_38 : decode cX8_number 38 = .ok (.if_icmp .le 6, 3) ∧ 38 + 3 = 41 ∧ ((38 : Nat) : Int) + (6) = ((44 : Nat) : Int) := ⟨by decide +kernel, rfl, rfl⟩
theorem dX8_number_41 : decode cX8_number 41 = .ok (.bipush (-6), 2) ∧ 41 + 2 = 43 := ⟨by decide +kernel, rfl⟩
theorem dX8_number_43 : decode cX8_number 43 = .ok (.ireturn, 1) ∧ 43 + 1 = 44 := ⟨by decide +kernel, rfl⟩
theorem dX8_number_44 : decode cX8_number 44 = .ok (.aload_n 0, 1) ∧ 44 + 1 = 45 := ⟨by decide +kernel, rfl⟩
theorem dX8_number_45 : decode cX8_number 45 = .ok (.aload_n 0, 1) ∧ 45 + 1 = 46 := ⟨by decide +kernel, rfl⟩
theorem dX8_number_46 : decode cX8_number 46 = .ok (.getfield 48, 3) ∧ 46 + 3 = 49 := ⟨by decide +kernel, rfl⟩
theorem dX8_number_49 : decode cX8_number 49 = .ok (.getfield 84, 3) ∧ 49 + 3 = 52 := ⟨by decide +kernel, rfl⟩
theorem dX8_number_52 : decode cX8_number 52 = .ok (.iload_n 3, 1) ∧ 52 + 1 = 53 := ⟨by decide +kernel, rfl⟩
theorem dX8_number_53 : decode cX8_number 53 = .ok (.iload_n 2, 1) ∧ 53 + 1 = 54 := ⟨by decide +kernel, rfl⟩
theorem dX8_number_54 : decode cX8_number 54 = .ok (.invokevirtual 227, 3) ∧ 54 + 3 = 57 := ⟨by decide +kernel, rfl⟩
theorem dX8_number_57 : decode cX8_number 57 = .ok (.invokevirtual 215, 3) ∧ 57 + 3 = 60 := ⟨by decide +kernel, rfl⟩
theorem dX8_number_60 : decode cX8_number 60 = .ok (.iconst 1, 1) ∧ 60 + 1 = 61 := ⟨by decide +kernel, rfl⟩
theorem dX8_number_61 : decode cX8_number 61 = .ok (.iadd, 1) ∧ 61 + 1 = 62 := ⟨by decide +kernel, rfl⟩
theorem dX8_number_62 : decode cX8_number 62 = .ok (.ireturn, 1) ∧ 62 + 1 = 63 := ⟨by decide +kernel, rfl⟩
theorem dX8_charAt_0 : decode cX8_charAt 0 = .ok (.aload_n 0, 1) ∧ 0 + 1 = 1 := ⟨by decide +kernel, rfl⟩
theorem dX8_charAt_1 : decode cX8_charAt 1 = .ok (.getfield 26, 3) ∧ 1 + 3 = 4 := ⟨by decide +kernel, rfl⟩
theorem dX8_charAt_4 : decode cX8_charAt 4 = .ok (.iload_n 1, 1) ∧ 4 + 1 = 5 := ⟨by decide +kernel, rfl⟩
theorem dX8_charAt_5 : decode cX8_charAt 5 = .ok (.invokevirtual 107, 3) ∧ 5 + 3 = 8 := ⟨by decide +kernel, rfl⟩
theorem dX8_charAt_8 : decode cX8_charAt 8 = .ok (.istore_n 3, 1) ∧ 8 + 1 = 9 := ⟨by decide +kernel, rfl⟩
theorem dX8_charAt_9 : decode cX8_charAt 9 = .ok (.iload_n 3, 1) ∧ 9 + 1 = 10 := ⟨by decide +kernel, rfl⟩
theorem dX8_charAt_10 : decode cX8_charAt 10 = .ok (.bipush (-2), 2) ∧ 10 + 2 = 12 := ⟨by decide +kernel, rfl⟩
theorem dX8_charAt_12 : decode cX8_charAt 12 = .ok (.if_icmp .ne 6, 3) ∧ 12 + 3 = 15 ∧ ((12 : Nat) : Int) + (6) = ((18 : Nat) : Int) := ⟨by decide +kernel, rfl, rfl⟩
theorem dX8_charAt_15 : decode cX8_charAt 15 = .ok (.bipush (-2), 2) ∧ 15 + 2 = 17 := ⟨by decide +kernel, rfl⟩
theorem dX8_charAt_17 : decode cX8_charAt 17 = .ok (.ireturn, 1) ∧ 17 + 1 = 18 := ⟨by decide +kernel, rfl⟩
theorem dX8_charAt_18 : decode cX8_charAt 18 = .ok (.iload_n 2, 1) ∧ 18 + 1 = 19 := ⟨by decide +kernel, rfl⟩
theorem dX8_charAt_19 : decode cX8_charAt 19 = .ok (.ifCond .ge 6, 3) ∧ 19 + 3 = 22 ∧ ((19 : Nat) : Int) + (6) = ((25 : Nat) : Int) := ⟨by decide +kernel, rfl, rfl⟩
theorem dX8_charAt_22 : decode cX8_charAt 22 = .ok (.bipush (-3), 2) ∧ 22 + 2 = 24 := ⟨by decide +kernel, rfl⟩
theorem dX8_charAt_24 : decode cX8_charAt 24 = .ok (.ireturn, 1) ∧ 24 + 1 = 25 := ⟨by decide +kernel, rfl⟩
theorem dX8_charAt_25 : decode cX8_charAt 25 = .ok (.aload_n 0, 1) ∧ 25 + 1 = 26 := ⟨by decide +kernel, rfl⟩
theorem dX8_charAt_26 : decode cX8_charAt 26 = .ok (.getfield 48, 3) ∧ 26 + 3 = 29 := ⟨by decide +kernel, rfl⟩
theorem dX8_charAt_29 : decode cX8_charAt 29 = .ok (.getfield 84, 3) ∧ 29 + 3 = 32 := ⟨by decide +kernel, rfl⟩
theorem dX8_charAt_32 : decode cX8_charAt 32 = .ok (.iload_n 3, 1) ∧ 32 + 1 = 33 := ⟨by decide +kernel, rfl⟩
theorem dX8_charAt_33 : decode cX8_charAt 33 = .ok (.invokevirtual 88, 3) ∧ 33 + 3 = 36 := ⟨by decide +kernel, rfl⟩
theorem dX8_charAt_36 : decode cX8_charAt 36 = .ok (.istore 4, 2) ∧ 36 + 2 = 38 := ⟨by decide +kernel, rfl⟩
theorem dX8_charAt_38 : decode cX8_charAt 38 = .ok (.iload_n 2, 1) ∧ 38 + 1 = 39 := ⟨by decide +kernel, rfl⟩
theorem dX8_charAt_39 : decode cX8_charAt 39 = .ok (.aload_n 0, 1) ∧ 39 + 1 = 40 := ⟨by decide +kernel, rfl⟩
theorem dX8_charAt_40 : decode cX8_charAt 40 = .ok (.getfield 48, 3) ∧ 40 + 3 = 43 := ⟨by decide +kernel, rfl⟩
theorem dX8_charAt_43 : decode cX8_charAt 43 = .ok (.getfield 62, 3) ∧ 43 + 3 = 46 := ⟨by decide +kernel, rfl⟩
theorem dX8_charAt_46 : decode cX8_charAt 46 = .ok (.iload 4, 2) ∧ 46 + 2 = 48 := ⟨by decide +kernel, rfl⟩
theorem dX8_charAt_48 : decode cX8_charAt 48 = .ok (.invokevirtual 230, 3) ∧ 48 + 3 = 51 := ⟨by decide +kernel, rfl⟩
theorem dX8_charAt_51 : decode cX8_charAt 51 = .ok (.if_icmp .lt 6, 3) ∧ 51 + 3 = 54 ∧ ((51 : Nat) : Int) + (6) = ((57 : Nat) : Int) := ⟨by decide +kernel, rfl, rfl⟩
theorem dX8_charAt_54 : decode cX8_charAt 54 = .ok (.bipush (-6), 2) ∧ 54 + 2 = 56 := ⟨by decide +kernel, rfl⟩
theorem dX8_charAt_56 : decode cX8_charAt 56 = .ok (.ireturn, 1) ∧ 56 + 1 = 57 := ⟨by decide +kernel, rfl⟩
theorem dX8_charAt_57 : decode cX8_charAt 57 = .ok (.aload_n 0, 1) ∧ 57 + 1 = 58 := ⟨by decide +kernel, rfl⟩
theorem dX8_charAt_58 : decode cX8_charAt 58 = .ok (.getfield 48, 3) ∧ 58 + 3 = 61 := ⟨by decide +kernel, rfl⟩
theorem dX8_charAt_61 : decode cX8_charAt 61 = .ok (.getfield 62, 3) ∧ 61 + 3 = 64 := ⟨by decide +kernel, rfl⟩
theorem dX8_charAt_64 : decode cX8_charAt 64 = .ok (.iload 4, 2) ∧ 64 + 2 = 66 := ⟨by decide +kernel, rfl⟩
theorem dX8_charAt_66 : decode cX8_charAt 66 = .ok (.iload_n 2, 1) ∧ 66 + 1 = 67 := ⟨by decide +kernel, rfl⟩
theorem dX8_charAt_67 : decode cX8_charAt 67 = .ok (.invokevirtual 233, 3) ∧ 67 + 3 = 70 := ⟨by decide +kernel, rfl⟩
theorem dX8_charAt_70 : decode cX8_charAt 70 = .ok (.ireturn, 1) ∧ 70 + 1 = 71 := ⟨by decide +kernel, rfl⟩
theorem dX8_node_0 : decode cX8_node 0 = .ok (.aload_n 0, 1) ∧ 0 + 1 = 1 := ⟨by decide +kernel, rfl⟩
theorem dX8_node_1 : decode cX8_node 1 = .ok (.getfield 48, 3) ∧ 1 + 3 = 4 := ⟨by decide +kernel, rfl⟩
theorem dX8_node_4 : decode cX8_node 4 = .ok (.getfield 84, 3) ∧ 4 + 3 = 7 := ⟨by decide +kernel, rfl⟩
theorem dX8_node_7 : decode cX8_node 7 = .ok (.astore_n 3, 1) ∧ 7 + 1 = 8 := ⟨by decide +kernel, rfl⟩
theorem dX8_node_8 : decode cX8_node 8 = .ok (.aload_n 3, 1) ∧ 8 + 1 = 9 := ⟨by decide +kernel, rfl⟩
theorem dX8_node_9 : decode cX8_node 9 = .ok (.iload_n 1, 1) ∧ 9 + 1 = 10 := ⟨by decide +kernel, rfl⟩
theorem dX8_node_10 : decode cX8_node 10 = .ok (.invokevirtual 176, 3) ∧ 10 + 3 = 13 := ⟨by decide +kernel, rfl⟩
theorem dX8_node_13 : decode cX8_node 13 = .ok (.istore 4, 2) ∧ 13 + 2 = 15 := ⟨by decide +kernel, rfl⟩
theorem dX8_node_15 : decode cX8_node 15 = .ok (.iload 4, 2) ∧ 15 + 2 = 17 := ⟨by decide +kernel, rfl⟩
theorem dX8_node_17 : decode cX8_node 17 = .ok (.bipush (-2), 2) ∧ 17 + 2 = 19 := ⟨by decide +kernel, rfl⟩
theorem dX8_node_19 : decode cX8_node 19 = .ok (.if_icmp .ne 6, 3) ∧ 19 + 3 = 22 ∧ ((19 : Nat) : Int) + (6) = ((25 : Nat) : Int) := ⟨by decide +kernel, rfl, rfl⟩
theorem dX8_node_22 : decode cX8_node 22 = .ok (.bipush (-2), 2) ∧ 22 + 2 = 24 := ⟨by decide +kernel, rfl⟩
theorem dX8_node_24 : decode cX8_node 24 = .ok (.ireturn, 1) ∧ 24 + 1 = 25 := ⟨by decide +kernel, rfl⟩
theorem dX8_node_25 : decode cX8_node 25 = .ok (.iload_n 2, 1) ∧ 25 + 1 = 26 := ⟨by decide +kernel, rfl⟩
theorem dX8_node_26 : decode cX8_node 26 = .ok (.tableswitch 130 0 7 #[46, 58, 64, 74, 86, 98, 108, 120], 46) ∧ 26 + 46 = 72 := ⟨by decide +kernel, rfl⟩
theorem dX8_node_72 : decode cX8_node 72 = .ok (.aload_n 0, 1) ∧ 72 + 1 = 73 := ⟨by decide +kernel, rfl⟩
theorem dX8_node_73 : decode cX8_node 73 = .ok (.getfield 48, 3) ∧ 73 + 3 = 76 := ⟨by decide +kernel, rfl⟩
theorem dX8_node_76 : decode cX8_node 76 = .ok (.getfield 103, 3) ∧ 76 + 3 = 79 := ⟨by decide +kernel, rfl⟩
theorem dX8_node_79 : decode cX8_node 79 = .ok (.iload_n 1, 1) ∧ 79 + 1 = 80 := ⟨by decide +kernel, rfl⟩
theorem dX8_node_80 : decode cX8_node 80 = .ok (.invokevirtual 236, 3) ∧ 80 + 3 = 83 := ⟨by decide +kernel, rfl⟩
theorem dX8_node_83 : decode cX8_node 83 = .ok (.ireturn, 1) ∧ 83 + 1 = 84 := ⟨by decide +kernel, rfl⟩
theorem dX8_node_84 : decode cX8_node 84 = .ok (.aload_n 3, 1) ∧ 84 + 1 = 85 := ⟨by decide +kernel, rfl⟩
theorem dX8_node_85 : decode cX8_node 85 = .ok (.iload_n 1, 1) ∧ 85 + 1 = 86 := ⟨by decide +kernel, rfl⟩
theorem dX8_node_86 : decode cX8_node 86 = .ok (.invokevirtual 148, 3) ∧ 86 + 3 = 89 := ⟨by decide +kernel, rfl⟩
theorem dX8_node_89 : decode cX8_node 89 = .ok (.ireturn, 1) ∧ 89 + 1 = 90 := ⟨by decide +kernel, rfl⟩
theorem dX8_node_90 : decode cX8_node 90 = .ok (.aload_n 0, 1) ∧ 90 + 1 = 91 := ⟨by decide +kernel, rfl⟩
theorem dX8_node_91 : decode cX8_node 91 = .ok (.getfield 26, 3) ∧ 91 + 3 = 94 := ⟨by decide +kernel, rfl⟩
theorem dX8_node_94 : decode cX8_node 94 = .ok (.aload_n 3, 1) ∧ 94 + 1 = 95 := ⟨by decide +kernel, rfl⟩
theorem dX8_node_95 : decode cX8_node 95 = .ok (.iload_n 1, 1) ∧ 95 + 1 = 96 := ⟨by decide +kernel, rfl⟩
theorem dX8_node_96 : decode cX8_node 96 = .ok (.invokevirtual 239, 3) ∧ 96 + 3 = 99 := ⟨by decide +kernel, rfl⟩
theorem dX8_node_99 : decode cX8_node 99 = .ok (.ireturn, 1) ∧ 99 + 1 = 100 := ⟨by decide +kernel, rfl⟩
theorem dX8_node_100 : decode cX8_node 100 = .ok (.aload_n 0, 1) ∧ 100 + 1 = 101 := ⟨by decide +kernel, rfl⟩
theorem dX8_node_101 : decode cX8_node 101 = .ok (.getfield 48, 3) ∧ 101 + 3 = 104 := ⟨by decide +kernel, rfl⟩
theorem dX8_node_104 : decode cX8_node 104 = .ok (.getfield 103, 3) ∧ 104 + 3 = 107 := ⟨by decide +kernel, rfl⟩
theorem dX8_node_107 : decode cX8_node 107 = .ok (.iload_n 1, 1) ∧ 107 + 1 = 108 := ⟨by decide +kernel, rfl⟩
theorem dX8_node_108 : decode cX8_node 108 = .ok (.invokevirtual 137, 3) ∧ 108 + 3 = 111 := ⟨by decide +kernel, rfl⟩
theorem dX8_node_111 : decode cX8_node 111 = .ok (.ireturn, 1) ∧ 111 + 1 = 112 := ⟨by decide +kernel, rfl⟩
theorem dX8_node_112 : decode cX8_node 112 = .ok (.aload_n 0, 1) ∧ 112 + 1 = 113 := ⟨by decide +kernel, rfl⟩
theorem dX8_node_113 : decode cX8_node 113 = .ok (.getfield 48, 3) ∧ 113 + 3 = 116 := ⟨by decide +kernel, rfl⟩
theorem dX8_node_116 : decode cX8_node 116 = .ok (.getfield 62, 3) ∧ 116 + 3 = 119 := ⟨by decide +kernel, rfl⟩
theorem dX8_node_119 : decode cX8_node 119 = .ok (.iload_n 1, 1) ∧ 119 + 1 = 120 := ⟨by decide +kernel, rfl⟩
theorem dX8_node_120 : decode cX8_node 120 = .ok (.invokevirtual 158, 3) ∧ 120 + 3 = 123 := ⟨by decide +kernel, rfl⟩
theorem dX8_node_123 : decode cX8_node 123 = .ok (.ireturn, 1) ∧ 123 + 1 = 124 := ⟨by decide +kernel, rfl⟩
theorem dX8_node_124 : decode cX8_node 124 = .ok (.aload_n 0, 1) ∧ 124 + 1 = 125 := ⟨by decide +kernel, rfl⟩
theorem dX8_node_125 : decode cX8_node 125 = .ok (.getfield 26, 3) ∧ 125 + 3 = 128 := ⟨by decide +kernel, rfl⟩
theorem dX8_node_128 : decode cX8_node 128 = .ok (.aload_n 3, 1) ∧ 128 + 1 = 129 := ⟨by decide +kernel, rfl⟩
theorem dX8_node_129 : decode cX8_node 129 = .ok (.iload_n 1, 1) ∧ 129 + 1 = 130 := ⟨by decide +kernel, rfl⟩
theorem dX8_node_130 : decode cX8_node 130 = .ok (.invokevirtual 243, 3) ∧ 130 + 3 = 133 := ⟨by decide +kernel, rfl⟩
theorem dX8_node_133 : decode cX8_node 133 = .ok (.ireturn, 1) ∧ 133 + 1 = 134 := ⟨by decide +kernel, rfl⟩
theorem dX8_node_134 : decode cX8_node 134 = .ok (.aload_n 0, 1) ∧ 134 + 1 = 135 := ⟨by decide +kernel, rfl⟩
theorem dX8_node_135 : decode cX8_node 135 = .ok (.getfield 48, 3) ∧ 135 + 3 = 138 := ⟨by decide +kernel, rfl⟩
theorem dX8_node_138 : decode cX8_node 138 = .ok (.getfield 62, 3) ∧ 138 + 3 = 141 := ⟨by decide +kernel, rfl⟩
theorem dX8_node_141 : decode cX8_node 141 = .ok (.iload_n 1, 1) ∧ 141 + 1 = 142 := ⟨by decide +kernel, rfl⟩
theorem dX8_node_142 : decode cX8_node 142 = .ok (.invokevirtual 230, 3) ∧ 142 + 3 = 145 := ⟨by decide +kernel, rfl⟩
theorem dX8_node_145 : decode cX8_node 145 = .ok (.ireturn, 1) ∧ 145 + 1 = 146 := ⟨by decide +kernel, rfl⟩
theorem dX8_node_146 : decode cX8_node 146 = .ok (.aload_n 3, 1) ∧ 146 + 1 = 147 := ⟨by decide +kernel, rfl⟩
theorem dX8_node_147 : decode cX8_node 147 = .ok (.iload 4, 2) ∧ 147 + 2 = 149 := ⟨by decide +kernel, rfl⟩
theorem dX8_node_149 : decode cX8_node 149 = .ok (.invokevirtual 245, 3) ∧ 149 + 3 = 152 := ⟨by decide +kernel, rfl⟩
theorem dX8_node_152 : decode cX8_node 152 = .ok (.invokestatic 249, 3) ∧ 152 + 3 = 155 := ⟨by decide +kernel, rfl⟩
theorem dX8_node_155 : decode cX8_node 155 = .ok (.ireturn, 1) ∧ 155 + 1 = 156 := ⟨by decide +kernel, rfl⟩
theorem dX8_node_156 : decode cX8_node 156 = .ok (.bipush (-3), 2) ∧ 156 + 2 = 158 := ⟨by decide +kernel, rfl⟩
theorem dX8_node_158 : decode cX8_node 158 = .ok (.ireturn, 1) ∧ 158 + 1 = 159 := ⟨by decide +kernel, rfl⟩
theorem dX8_nextMarked_0 : decode cX8_nextMarked 0 = .ok (.aload_n 0, 1) ∧ 0 + 1 = 1 := ⟨by decide +kernel, rfl⟩
theorem dX8_nextMarked_1 : decode cX8_nextMarked 1 = .ok (.iload_n 1, 1) ∧ 1 + 1 = 2 := ⟨by decide +kernel, rfl⟩
theorem dX8_nextMarked_2 : decode cX8_nextMarked 2 = .ok (.invokevirtual 54, 3) ∧ 2 + 3 = 5 := ⟨by decide +kernel, rfl⟩
theorem dX8_nextMarked_5 : decode cX8_nextMarked 5 = .ok (.bipush (-2), 2) ∧ 5 + 2 = 7 := ⟨by decide +kernel, rfl⟩
theorem dX8_nextMarked_7 : decode cX8_nextMarked 7 = .ok (.if_icmp .ne 6, 3) ∧ 7 + 3 = 10 ∧ ((7 : Nat) : Int) + (6) = ((13 : Nat) : Int) := ⟨by decide +kernel, rfl, rfl⟩
theorem dX8_nextMarked_10 : decode cX8_nextMarked 10 = .ok (.bipush (-2), 2) ∧ 10 + 2 = 12 := ⟨by decide +kernel, rfl⟩
theorem dX8_nextMarked_12 : decode cX8_nextMarked 12 = .ok (.ireturn, 1) ∧ 12 + 1 = 13 := ⟨by decide +kernel, rfl⟩
theorem dX8_nextMarked_13 : decode cX8_nextMarked 13 = .ok (.iload_n 2, 1) ∧ 13 + 1 = 14 := ⟨by decide +kernel, rfl⟩
theorem dX8_nextMarked_14 : decode cX8_nextMarked 14 = .ok (.invokestatic 151, 3) ∧ 14 + 3 = 17 := ⟨by decide +kernel, rfl⟩
theorem dX8_nextMarked_17 : decode cX8_nextMarked 17 = .ok (.ifCond .ne 6, 3) ∧ 17 + 3 = 20 ∧ ((17 : Nat) : Int) + (6) = ((23 : Nat) : Int) := ⟨by decide +kernel, rfl, rfl⟩
theorem dX8_nextMarked_20 : decode cX8_nextMarked 20 = .ok (.bipush (-3), 2) ∧ 20 + 2 = 22 := ⟨by decide +kernel, rfl⟩
theorem dX8_nextMarked_22 : decode cX8_nextMarked 22 = .ok (.ireturn, 1) ∧ 22 + 1 = 23 := ⟨by decide +kernel, rfl⟩
theorem dX8_nextMarked_23 : decode cX8_nextMarked 23 = .ok (.iload_n 1, 1) ∧ 23 + 1 = 24 := ⟨by decide +kernel, rfl⟩
theorem dX8_nextMarked_24 : decode cX8_nextMarked 24 = .ok (.iconst 1, 1) ∧ 24 + 1 = 25 := ⟨by decide +kernel, rfl⟩
theorem dX8_nextMarked_25 : decode cX8_nextMarked 25 = .ok (.iadd, 1) ∧ 25 + 1 = 26 := ⟨by decide +kernel, rfl⟩
theorem dX8_nextMarked_26 : decode cX8_nextMarked 26 = .ok (.istore_n 3, 1) ∧ 26 + 1 = 27 := ⟨by decide +kernel, rfl⟩
theorem dX8_nextMarked_27 : decode cX8_nextMarked 27 = .ok (.iload_n 3, 1) ∧ 27 + 1 = 28 := ⟨by decide +kernel, rfl⟩
theorem dX8_nextMarked_28 : decode cX8_nextMarked 28 = .ok (.aload_n 0, 1) ∧ 28 + 1 = 29 := ⟨by decide +kernel, rfl⟩
theorem dX8_nextMarked_29 : decode cX8_nextMarked 29 = .ok (.getfield 26, 3) ∧ 29 + 3 = 32 := ⟨by decide +kernel, rfl⟩
theorem dX8_nextMarked_32 : decode cX8_nextMarked 32 = .ok (.getfield 170, 3) ∧ 32 + 3 = 35 := ⟨by decide +kernel, rfl⟩
theorem dX8_nextMarked_35 : decode cX8_nextMarked 35 = .ok (.if_icmp .ge 34, 3) ∧ 35 + 3 = 38 ∧ ((35 : Nat) : Int) + (34) = ((69 : Nat) : Int) := ⟨by decide +kernel, rfl, rfl⟩
theorem dX8_nextMarked_38 : decode cX8_nextMarked 38 = .ok (.aload_n 0, 1) ∧ 38 + 1 = 39 := ⟨by decide +kernel, rfl⟩
theorem dX8_nextMarked_39 : decode cX8_nextMarked 39 = .ok (.getfield 48, 3) ∧ 39 + 3 = 42 := ⟨by decide +kernel, rfl⟩
theorem dX8_nextMarked_42 : decode cX8_nextMarked 42 = .ok (.getfield 62, 3) ∧ 42 + 3 = 45 := ⟨by decide +kernel, rfl⟩
theorem dX8_nextMarked_45 : decode cX8_nextMarked 45 = .ok (.aload_n 0, 1) ∧ 45 + 1 = 46 := ⟨by decide +kernel, rfl⟩
theorem dX8_nextMarked_46 : decode cX8_nextMarked 46 = .ok (.iload_n 3, 1) ∧ 46 + 1 = 47 := ⟨by decide +kernel, rfl⟩
theorem dX8_nextMarked_47 : decode cX8_nextMarked 47 = .ok (.invokevirtual 100, 3) ∧ 47 + 3 = 50 := ⟨by decide +kernel, rfl⟩
theorem dX8_nextMarked_50 : decode cX8_nextMarked 50 = .ok (.invokevirtual 158, 3) ∧ 50 + 3 = 53 := ⟨by decide +kernel, rfl⟩
theorem dX8_nextMarked_53 : decode cX8_nextMarked 53 = .ok (.iload_n 2, 1) ∧ 53 + 1 = 54 := ⟨by decide +kernel, rfl⟩
theorem dX8_nextMarked_54 : decode cX8_nextMarked 54 = .ok (.ishr, 1) ∧ 54 + 1 = 55 := ⟨by decide +kernel, rfl⟩
theorem dX8_nextMarked_55 : decode cX8_nextMarked 55 = .ok (.iconst 1, 1) ∧ 55 + 1 = 56 := ⟨by decide +kernel, rfl⟩
theorem dX8_nextMarked_56 : decode cX8_nextMarked 56 = .ok (.iand, 1) ∧ 56 + 1 = 57 := ⟨by decide +kernel, rfl⟩
theorem dX8_nextMarked_57 : decode cX8_nextMarked 57 = .ok (.iconst 1, 1) ∧ 57 + 1 = 58 := ⟨by decide +kernel, rfl⟩
theorem dX8_nextMarked_58 : decode cX8_nextMarked 58 = .ok (.if_icmp .ne 5, 3) ∧ 58 + 3 = 61 ∧ ((58 : Nat) : Int) + (5) = ((63 : Nat) : Int) := ⟨by decide +kernel, rfl, rfl⟩
theorem dX8_nextMarked_61 : decode cX8_nextMarked 61 = .ok (.iload_n 3, 1) ∧ 61 + 1 = 62 := ⟨by decide +kernel, rfl⟩
theorem dX8_nextMarked_62 : decode cX8_nextMarked 62 = .ok (.ireturn, 1) ∧ 62 + 1 = 63 := ⟨by decide +kernel, rfl⟩
theorem dX8_nextMarked_63 : decode cX8_nextMarked 63 = .ok (.iinc 3 1, 3) ∧ 63 + 3 = 66 := ⟨by decide +kernel, rfl⟩
theorem dX8_nextMarked_66 : decode cX8_nextMarked 66 = .ok (.goto (-39), 3) ∧ 66 + 3 = 69 ∧ ((66 : Nat) : Int) + (-39) = ((27 : Nat) : Int) := ⟨by decide +kernel, rfl, rfl⟩
theorem dX8_nextMarked_69 : decode cX8_nextMarked 69 = .ok (.bipush (-6), 2) ∧ 69 + 2 = 71 := ⟨by decide +kernel, rfl⟩
theorem dX8_nextMarked_71 : decode cX8_nextMarked 71 = .ok (.ireturn, 1) ∧ 71 + 1 = 72 := ⟨by decide +kernel, rfl⟩
theorem dX8_find_0 : decode cX8_find 0 = .ok (.aload_n 0, 1) ∧ 0 + 1 = 1 := ⟨by decide +kernel, rfl⟩
theorem dX8_find_1 : decode cX8_find 1 = .ok (.iload_n 1, 1) ∧ 1 + 1 = 2 := ⟨by decide +kernel, rfl⟩
theorem dX8_find_2 : decode cX8_find 2 = .ok (.invokevirtual 54, 3) ∧ 2 + 3 = 5 := ⟨by decide +kernel, rfl⟩
theorem dX8_find_5 : decode cX8_find 5 = .ok (.bipush (-2), 2) ∧ 5 + 2 = 7 := ⟨by decide +kernel, rfl⟩
theorem dX8_find_7 : decode cX8_find 7 = .ok (.if_icmp .ne 6, 3) ∧ 7 + 3 = 10 ∧ ((7 : Nat) : Int) + (6) = ((13 : Nat) : Int) := ⟨by decide +kernel, rfl, rfl⟩
theorem dX8_find_10 : decode cX8_find 10 = .ok (.bipush (-2), 2) ∧ 10 + 2 = 12 := ⟨by decide +kernel, rfl⟩
theorem dX8_find_12 : decode cX8_find 12 = .ok (.ireturn, 1) ∧ 12 + 1 = 13 := ⟨by decide +kernel, rfl⟩
theorem dX8_find_13 : decode cX8_find 13 = .ok (.iload_n 1, 1) ∧ 13 + 1 = 14 := ⟨by decide +kernel, rfl⟩
theorem dX8_find_14 : decode cX8_find 14 = .ok (.iconst 1, 1) ∧ 14 + 1 = 15 := ⟨by decide +kernel, rfl⟩
theorem dX8_find_15 : decode cX8_find 15 = .ok (.iadd, 1) ∧ 15 + 1 = 16 := ⟨by decide +kernel, rfl⟩
theorem dX8_find_16 : decode cX8_find 16 = .ok (.istore_n 2, 1) ∧ 16 + 1 = 17 := ⟨by decide +kernel, rfl⟩
theorem dX8_find_17 : decode cX8_find 17 = .ok (.iload_n 2, 1) ∧ 17 + 1 = 18 := ⟨by decide +kernel, rfl⟩
theorem dX8_find_18 : decode cX8_find 18 = .ok (.aload_n 0, 1) ∧ 18 + 1 = 19 := ⟨by decide +kernel, rfl⟩
theorem dX8_find_19 : decode cX8_find 19 = .ok (.getfield 26, 3) ∧ 19 + 3 = 22 := ⟨by decide +kernel, rfl⟩
theorem dX8_find_22 : decode cX8_find 22 = .ok (.getfield 170, 3) ∧ 22 + 3 = 25 := ⟨by decide +kernel, rfl⟩
theorem dX8_find_25 : decode cX8_find 25 = .ok (.if_icmp .ge 33, 3) ∧ 25 + 3 = 28 ∧ ((25 : Nat) : Int) + (33) = ((58 : Nat) : Int) := ⟨by decide +kernel, rfl, rfl⟩
theorem dX8_find_28 : decode cX8_find 28 = .ok (.aload_n 0, 1) ∧ 28 + 1 = 29 := ⟨by decide +kernel, rfl⟩
theorem dX8_find_29 : decode cX8_find 29 = .ok (.getfield 48, 3) ∧ 29 + 3 = 32 := ⟨by decide +kernel, rfl⟩
theorem dX8_find_32 : decode cX8_find 32 = .ok (.getfield 62, 3) ∧ 32 + 3 = 35 := ⟨by decide +kernel, rfl⟩
theorem dX8_find_35 : decode cX8_find 35 = .ok (.aload_n 0, 1) ∧ 35 + 1 = 36 := ⟨by decide +kernel, rfl⟩
theorem dX8_find_36 : decode cX8_find 36 = .ok (.iload_n 2, 1) ∧ 36 + 1 = 37 := ⟨by decide +kernel, rfl⟩
theorem dX8_find_37 : decode cX8_find 37 = .ok (.invokevirtual 100, 3) ∧ 37 + 3 = 40 := ⟨by decide +kernel, rfl⟩
theorem dX8_find_40 : decode cX8_find 40 = .ok (.aload_n 0, 1) ∧ 40 + 1 = 41 := ⟨by decide +kernel, rfl⟩
theorem dX8_find_41 : decode cX8_find 41 = .ok (.getfield 10, 3) ∧ 41 + 3 = 44 := ⟨by decide +kernel, rfl⟩
theorem dX8_find_44 : decode cX8_find 44 = .ok (.invokevirtual 144, 3) ∧ 44 + 3 = 47 := ⟨by decide +kernel, rfl⟩
theorem dX8_find_47 : decode cX8_find 47 = .ok (.ifCond .eq 5, 3) ∧ 47 + 3 = 50 ∧ ((47 : Nat) : Int) + (5) = ((52 : Nat) : Int) := ⟨by decide +kernel, rfl, rfl⟩
theorem dX8_find_50 : decode cX8_find 50 = .ok (.iload_n 2, 1) ∧ 50 + 1 = 51 := ⟨by decide +kernel, rfl⟩
theorem dX8_find_51 : decode cX8_find 51 = .ok (.ireturn, 1) ∧ 51 + 1 = 52 := ⟨by decide +kernel, rfl⟩
theorem dX8_find_52 : decode cX8_find 52 = .ok (.iinc 2 1, 3) ∧ 52 + 3 = 55 := ⟨by decide +kernel, rfl⟩
theorem dX8_find_55 : decode cX8_find 55 = .ok (.goto (-38), 3) ∧ 55 + 3 = 58 ∧ ((55 : Nat) : Int) + (-38) = ((17 : Nat) : Int) := ⟨by decide +kernel, rfl, rfl⟩
theorem dX8_find_58 : decode cX8_find 58 = .ok (.bipush (-6), 2) ∧ 58 + 2 = 60 := ⟨by decide +kernel, rfl⟩
theorem dX8_find_60 : decode cX8_find 60 = .ok (.ireturn, 1) ∧ 60 + 1 = 61 := ⟨by decide +kernel, rfl⟩
theorem dX8_count_0 : decode cX8_count 0 = .ok (.iload_n 1, 1) ∧ 0 + 1 = 1 := ⟨by decide +kernel, rfl⟩
theorem dX8_count_1 : decode cX8_count 1 = .ok (.tableswitch 144 0 8 #[51, 65, 76, 87, 95, 106, 117, 128, 136], 51) ∧ 1 + 51 = 52 := ⟨by decide +kernel, rfl⟩
theorem dX8_count_52 : decode cX8_count 52 = .ok (.aload_n 0, 1) ∧ 52 + 1 = 53 := ⟨by decide +kernel, rfl⟩
theorem dX8_count_53 : decode cX8_count 53 = .ok (.getfield 48, 3) ∧ 53 + 3 = 56 := ⟨by decide +kernel, rfl⟩
theorem dX8_count_56 : decode cX8_count 56 = .ok (.getfield 84, 3) ∧ 56 + 3 = 59 := ⟨by decide +kernel, rfl⟩
theorem dX8_count_59 : decode cX8_count 59 = .ok (.invokevirtual 123, 3) ∧ 59 + 3 = 62 := ⟨by decide +kernel, rfl⟩
theorem dX8_count_62 : decode cX8_count 62 = .ok (.invokestatic 249, 3) ∧ 62 + 3 = 65 := ⟨by decide +kernel, rfl⟩
theorem dX8_count_65 : decode cX8_count 65 = .ok (.ireturn, 1) ∧ 65 + 1 = 66 := ⟨by decide +kernel, rfl⟩
theorem dX8_count_66 : decode cX8_count 66 = .ok (.aload_n 0, 1) ∧ 66 + 1 = 67 := ⟨by decide +kernel, rfl⟩
theorem dX8_count_67 : decode cX8_count 67 = .ok (.getfield 48, 3) ∧ 67 + 3 = 70 := ⟨by decide +kernel, rfl⟩
theorem dX8_count_70 : decode cX8_count 70 = .ok (.getfield 62, 3) ∧ 70 + 3 = 73 := ⟨by decide +kernel, rfl⟩
theorem dX8_count_73 : decode cX8_count 73 = .ok (.getfield 66, 3) ∧ 73 + 3 = 76 := ⟨by decide +kernel, rfl⟩
theorem dX8_count_76 : decode cX8_count 76 = .ok (.ireturn, 1) ∧ 76 + 1 = 77 := ⟨by decide +kernel, rfl⟩
theorem dX8_count_77 : decode cX8_count 77 = .ok (.aload_n 0, 1) ∧ 77 + 1 = 78 := ⟨by decide +kernel, rfl⟩
theorem dX8_count_78 : decode cX8_count 78 = .ok (.getfield 48, 3) ∧ 78 + 3 = 81 := ⟨by decide +kernel, rfl⟩
theorem dX8_count_81 : decode cX8_count 81 = .ok (.getfield 84, 3) ∧ 81 + 3 = 84 := ⟨by decide +kernel, rfl⟩
theorem dX8_count_84 : decode cX8_count 84 = .ok (.getfield 202, 3) ∧ 84 + 3 = 87 := ⟨by decide +kernel, rfl⟩
theorem dX8_count_87 : decode cX8_count 87 = .ok (.ireturn, 1) ∧ 87 + 1 = 88 := ⟨by decide +kernel, rfl⟩
theorem dX8_count_88 : decode cX8_count 88 = .ok (.aload_n 0, 1) ∧ 88 + 1 = 89 := ⟨by decide +kernel, rfl⟩
theorem dX8_count_89 : decode cX8_count 89 = .ok (.getfield 26, 3) ∧ 89 + 3 = 92 := ⟨by decide +kernel, rfl⟩
theorem dX8_count_92 : decode cX8_count 92 = .ok (.getfield 170, 3) ∧ 92 + 3 = 95 := ⟨by decide +kernel, rfl⟩
theorem dX8_count_95 : decode cX8_count 95 = .ok (.ireturn, 1) ∧ 95 + 1 = 96 := ⟨by decide +kernel, rfl⟩
theorem dX8_count_96 : decode cX8_count 96 = .ok (.aload_n 0, 1) ∧ 96 + 1 = 97 := ⟨by decide +kernel, rfl⟩
theorem dX8_count_97 : decode cX8_count 97 = .ok (.getfield 48, 3) ∧ 97 + 3 = 100 := ⟨by decide +kernel, rfl⟩
theorem dX8_count_100 : decode cX8_count 100 = .ok (.getfield 84, 3) ∧ 100 + 3 = 103 := ⟨by decide +kernel, rfl⟩
theorem dX8_count_103 : decode cX8_count 103 = .ok (.invokevirtual 254, 3) ∧ 103 + 3 = 106 := ⟨by decide +kernel, rfl⟩
theorem dX8_count_106 : decode cX8_count 106 = .ok (.ireturn, 1) ∧ 106 + 1 = 107 := ⟨by decide +kernel, rfl⟩
theorem dX8_count_107 : decode cX8_count 107 = .ok (.aload_n 0, 1) ∧ 107 + 1 = 108 := ⟨by decide +kernel, rfl⟩
theorem dX8_count_108 : decode cX8_count 108 = .ok (.getfield 48, 3) ∧ 108 + 3 = 111 := ⟨by decide +kernel, rfl⟩
theorem dX8_count_111 : decode cX8_count 111 = .ok (.getfield 103, 3) ∧ 111 + 3 = 114 := ⟨by decide +kernel, rfl⟩
theorem dX8_count_114 : decode cX8_count 114 = .ok (.invokevirtual 257, 3) ∧ 114 + 3 = 117 := ⟨by decide +kernel, rfl⟩
theorem dX8_count_117 : decode cX8_count 117 = .ok (.ireturn, 1) ∧ 117 + 1 = 118 := ⟨by decide +kernel, rfl⟩
theorem dX8_count_118 : decode cX8_count 118 = .ok (.aload_n 0, 1) ∧ 118 + 1 = 119 := ⟨by decide +kernel, rfl⟩
theorem dX8_count_119 : decode cX8_count 119 = .ok (.getfield 48, 3) ∧ 119 + 3 = 122 := ⟨by decide +kernel, rfl⟩
theorem dX8_count_122 : decode cX8_count 122 = .ok (.getfield 84, 3) ∧ 122 + 3 = 125 := ⟨by decide +kernel, rfl⟩
theorem dX8_count_125 : decode cX8_count 125 = .ok (.invokevirtual 260, 3) ∧ 125 + 3 = 128 := ⟨by decide +kernel, rfl⟩
theorem dX8_count_128 : decode cX8_count 128 = .ok (.ireturn, 1) ∧ 128 + 1 = 129 := ⟨by decide +kernel, rfl⟩
theorem dX8_count_129 : decode cX8_count 129 = .ok (.aload_n 0, 1) ∧ 129 + 1 = 130 := ⟨by decide +kernel, rfl⟩
theorem dX8_count_130 : decode cX8_count 130 = .ok (.getfield 33, 3) ∧ 130 + 3 = 133 := ⟨by decide +kernel, rfl⟩
theorem dX8_count_133 : decode cX8_count 133 = .ok (.getfield 211, 3) ∧ 133 + 3 = 136 := ⟨by decide +kernel, rfl⟩
theorem dX8_count_136 : decode cX8_count 136 = .ok (.ireturn, 1) ∧ 136 + 1 = 137 := ⟨by decide +kernel, rfl⟩
theorem dX8_count_137 : decode cX8_count 137 = .ok (.aload_n 0, 1) ∧ 137 + 1 = 138 := ⟨by decide +kernel, rfl⟩
theorem dX8_count_138 : decode cX8_count 138 = .ok (.getfield 10, 3) ∧ 138 + 3 = 141 := ⟨by decide +kernel, rfl⟩
theorem dX8_count_141 : decode cX8_count 141 = .ok (.getfield 189, 3) ∧ 141 + 3 = 144 := ⟨by decide +kernel, rfl⟩
theorem dX8_count_144 : decode cX8_count 144 = .ok (.ireturn, 1) ∧ 144 + 1 = 145 := ⟨by decide +kernel, rfl⟩
theorem dX8_count_145 : decode cX8_count 145 = .ok (.bipush (-3), 2) ∧ 145 + 2 = 147 := ⟨by decide +kernel, rfl⟩
theorem dX8_count_147 : decode cX8_count 147 = .ok (.ireturn, 1) ∧ 147 + 1 = 148 := ⟨by decide +kernel, rfl⟩
theorem dX8_isMark_0 : decode cX8_isMark 0 = .ok (.iload_n 0, 1) ∧ 0 + 1 = 1 := ⟨by decide +kernel, rfl⟩
theorem dX8_isMark_1 : decode cX8_isMark 1 = .ok (.ifCond .lt 12, 3) ∧ 1 + 3 = 4 ∧ ((1 : Nat) : Int) + (12) = ((13 : Nat) : Int) := ⟨by decide +kernel, rfl, rfl⟩
theorem dX8_isMark_4 : decode cX8_isMark 4 = .ok (.iload_n 0, 1) ∧ 4 + 1 = 5 := ⟨by decide +kernel, rfl⟩
theorem dX8_isMark_5 : decode cX8_isMark 5 = .ok (.iconst 5, 1) ∧ 5 + 1 = 6 := ⟨by decide +kernel, rfl⟩
theorem dX8_isMark_6 : decode cX8_isMark 6 = .ok (.if_icmp .ge 7, 3) ∧ 6 + 3 = 9 ∧ ((6 : Nat) : Int) + (7) = ((13 : Nat) : Int) := ⟨by decide +kernel, rfl, rfl⟩
theorem dX8_isMark_9 : decode cX8_isMark 9 = .ok (.iconst 1, 1) ∧ 9 + 1 = 10 := ⟨by decide +kernel, rfl⟩
theorem dX8_isMark_10 : decode cX8_isMark 10 = .ok (.goto 4, 3) ∧ 10 + 3 = 13 ∧ ((10 : Nat) : Int) + (4) = ((14 : Nat) : Int) := ⟨by decide +kernel, rfl, rfl⟩
theorem dX8_isMark_13 : decode cX8_isMark 13 = .ok (.iconst 0, 1) ∧ 13 + 1 = 14 := ⟨by decide +kernel, rfl⟩
theorem dX8_isMark_14 : decode cX8_isMark 14 = .ok (.ireturn, 1) ∧ 14 + 1 = 15 := ⟨by decide +kernel, rfl⟩
theorem dX8_placeOrRoot_0 : decode cX8_placeOrRoot 0 = .ok (.iload_n 1, 1) ∧ 0 + 1 = 1 := ⟨by decide +kernel, rfl⟩
theorem dX8_placeOrRoot_1 : decode cX8_placeOrRoot 1 = .ok (.iconst (-1), 1) ∧ 1 + 1 = 2 := ⟨by decide +kernel, rfl⟩
theorem dX8_placeOrRoot_2 : decode cX8_placeOrRoot 2 = .ok (.if_icmp .ne 7, 3) ∧ 2 + 3 = 5 ∧ ((2 : Nat) : Int) + (7) = ((9 : Nat) : Int) := ⟨by decide +kernel, rfl, rfl⟩
theorem dX8_placeOrRoot_5 : decode cX8_placeOrRoot 5 = .ok (.iconst (-1), 1) ∧ 5 + 1 = 6 := ⟨by decide +kernel, rfl⟩
theorem dX8_placeOrRoot_6 : decode cX8_placeOrRoot 6 = .ok (.goto 11, 3) ∧ 6 + 3 = 9 ∧ ((6 : Nat) : Int) + (11) = ((17 : Nat) : Int) := ⟨by decide +kernel, rfl, rfl⟩
theorem dX8_placeOrRoot_9 : decode cX8_placeOrRoot 9 = .ok (.aload_n 0, 1) ∧ 9 + 1 = 10 := ⟨by decide +kernel, rfl⟩
theorem dX8_placeOrRoot_10 : decode cX8_placeOrRoot 10 = .ok (.getfield 26, 3) ∧ 10 + 3 = 13 := ⟨by decide +kernel, rfl⟩
theorem dX8_placeOrRoot_13 : decode cX8_placeOrRoot 13 = .ok (.iload_n 1, 1) ∧ 13 + 1 = 14 := ⟨by decide +kernel, rfl⟩
theorem dX8_placeOrRoot_14 : decode cX8_placeOrRoot 14 = .ok (.invokevirtual 107, 3) ∧ 14 + 3 = 17 := ⟨by decide +kernel, rfl⟩
theorem dX8_placeOrRoot_17 : decode cX8_placeOrRoot 17 = .ok (.ireturn, 1) ∧ 17 + 1 = 18 := ⟨by decide +kernel, rfl⟩
theorem dX8_nodeOfRow_0 : decode cX8_nodeOfRow 0 = .ok (.aload_n 0, 1) ∧ 0 + 1 = 1 := ⟨by decide +kernel, rfl⟩
theorem dX8_nodeOfRow_1 : decode cX8_nodeOfRow 1 = .ok (.getfield 48, 3) ∧ 1 + 3 = 4 := ⟨by decide +kernel, rfl⟩
theorem dX8_nodeOfRow_4 : decode cX8_nodeOfRow 4 = .ok (.getfield 84, 3) ∧ 4 + 3 = 7 := ⟨by decide +kernel, rfl⟩
theorem dX8_nodeOfRow_7 : decode cX8_nodeOfRow 7 = .ok (.aload_n 0, 1) ∧ 7 + 1 = 8 := ⟨by decide +kernel, rfl⟩
theorem dX8_nodeOfRow_8 : decode cX8_nodeOfRow 8 = .ok (.getfield 26, 3) ∧ 8 + 3 = 11 := ⟨by decide +kernel, rfl⟩
theorem dX8_nodeOfRow_11 : decode cX8_nodeOfRow 11 = .ok (.iload_n 1, 1) ∧ 11 + 1 = 12 := ⟨by decide +kernel, rfl⟩
theorem dX8_nodeOfRow_12 : decode cX8_nodeOfRow 12 = .ok (.invokevirtual 107, 3) ∧ 12 + 3 = 15 := ⟨by decide +kernel, rfl⟩
theorem dX8_nodeOfRow_15 : decode cX8_nodeOfRow 15 = .ok (.invokevirtual 88, 3) ∧ 15 + 3 = 18 := ⟨by decide +kernel, rfl⟩
theorem dX8_nodeOfRow_18 : decode cX8_nodeOfRow 18 = .ok (.ireturn, 1) ∧ 18 + 1 = 19 := ⟨by decide +kernel, rfl⟩
theorem dX8_parentNodeOf_0 : decode cX8_parentNodeOf 0 = .ok (.aload_n 0, 1) ∧ 0 + 1 = 1 := ⟨by decide +kernel, rfl⟩
theorem dX8_parentNodeOf_1 : decode cX8_parentNodeOf 1 = .ok (.getfield 48, 3) ∧ 1 + 3 = 4 := ⟨by decide +kernel, rfl⟩
theorem dX8_parentNodeOf_4 : decode cX8_parentNodeOf 4 = .ok (.getfield 84, 3) ∧ 4 + 3 = 7 := ⟨by decide +kernel, rfl⟩
theorem dX8_parentNodeOf_7 : decode cX8_parentNodeOf 7 = .ok (.aload_n 0, 1) ∧ 7 + 1 = 8 := ⟨by decide +kernel, rfl⟩
theorem dX8_parentNodeOf_8 : decode cX8_parentNodeOf 8 = .ok (.getfield 48, 3) ∧ 8 + 3 = 11 := ⟨by decide +kernel, rfl⟩
theorem dX8_parentNodeOf_11 : decode cX8_parentNodeOf 11 = .ok (.getfield 84, 3) ∧ 11 + 3 = 14 := ⟨by decide +kernel, rfl⟩
theorem dX8_parentNodeOf_14 : decode cX8_parentNodeOf 14 = .ok (.iload_n 1, 1) ∧ 14 + 1 = 15 := ⟨by decide +kernel, rfl⟩
theorem dX8_parentNodeOf_15 : decode cX8_parentNodeOf 15 = .ok (.invokevirtual 263, 3) ∧ 15 + 3 = 18 := ⟨by decide +kernel, rfl⟩
theorem dX8_parentNodeOf_18 : decode cX8_parentNodeOf 18 = .ok (.invokevirtual 88, 3) ∧ 18 + 3 = 21 := ⟨by decide +kernel, rfl⟩
theorem dX8_parentNodeOf_21 : decode cX8_parentNodeOf 21 = .ok (.ireturn, 1) ∧ 21 + 1 = 22 := ⟨by decide +kernel, rfl⟩
theorem dX8_parentRow_0 : decode cX8_parentRow 0 = .ok (.aload_n 0, 1) ∧ 0 + 1 = 1 := ⟨by decide +kernel, rfl⟩
theorem dX8_parentRow_1 : decode cX8_parentRow 1 = .ok (.getfield 48, 3) ∧ 1 + 3 = 4 := ⟨by decide +kernel, rfl⟩
theorem dX8_parentRow_4 : decode cX8_parentRow 4 = .ok (.getfield 84, 3) ∧ 4 + 3 = 7 := ⟨by decide +kernel, rfl⟩
theorem dX8_parentRow_7 : decode cX8_parentRow 7 = .ok (.iload_n 1, 1) ∧ 7 + 1 = 8 := ⟨by decide +kernel, rfl⟩
theorem dX8_parentRow_8 : decode cX8_parentRow 8 = .ok (.invokevirtual 263, 3) ∧ 8 + 3 = 11 := ⟨by decide +kernel, rfl⟩
theorem dX8_parentRow_11 : decode cX8_parentRow 11 = .ok (.istore_n 2, 1) ∧ 11 + 1 = 12 := ⟨by decide +kernel, rfl⟩
theorem dX8_parentRow_12 : decode cX8_parentRow 12 = .ok (.iload_n 2, 1) ∧ 12 + 1 = 13 := ⟨by decide +kernel, rfl⟩
theorem dX8_parentRow_13 : decode cX8_parentRow 13 = .ok (.iconst (-1), 1) ∧ 13 + 1 = 14 := ⟨by decide +kernel, rfl⟩
theorem dX8_parentRow_14 : decode cX8_parentRow 14 = .ok (.if_icmp .ne 7, 3) ∧ 14 + 3 = 17 ∧ ((14 : Nat) : Int) + (7) = ((21 : Nat) : Int) := ⟨by decide +kernel, rfl, rfl⟩
theorem dX8_parentRow_17 : decode cX8_parentRow 17 = .ok (.iconst (-1), 1) ∧ 17 + 1 = 18 := ⟨by decide +kernel, rfl⟩
theorem dX8_parentRow_18 : decode cX8_parentRow 18 = .ok (.goto 11, 3) ∧ 18 + 3 = 21 ∧ ((18 : Nat) : Int) + (11) = ((29 : Nat) : Int) := ⟨by decide +kernel, rfl, rfl⟩
theorem dX8_parentRow_21 : decode cX8_parentRow 21 = .ok (.aload_n 0, 1) ∧ 21 + 1 = 22 := ⟨by decide +kernel, rfl⟩
theorem dX8_parentRow_22 : decode cX8_parentRow 22 = .ok (.getfield 26, 3) ∧ 22 + 3 = 25 := ⟨by decide +kernel, rfl⟩
theorem dX8_parentRow_25 : decode cX8_parentRow 25 = .ok (.iload_n 2, 1) ∧ 25 + 1 = 26 := ⟨by decide +kernel, rfl⟩
theorem dX8_parentRow_26 : decode cX8_parentRow 26 = .ok (.invokevirtual 182, 3) ∧ 26 + 3 = 29 := ⟨by decide +kernel, rfl⟩
theorem dX8_parentRow_29 : decode cX8_parentRow 29 = .ok (.ireturn, 1) ∧ 29 + 1 = 30 := ⟨by decide +kernel, rfl⟩
theorem dX8_positionAt_0 : decode cX8_positionAt 0 = .ok (.aload_n 0, 1) ∧ 0 + 1 = 1 := ⟨by decide +kernel, rfl⟩
theorem dX8_positionAt_1 : decode cX8_positionAt 1 = .ok (.getfield 48, 3) ∧ 1 + 3 = 4 := ⟨by decide +kernel, rfl⟩
theorem dX8_positionAt_4 : decode cX8_positionAt 4 = .ok (.getfield 103, 3) ∧ 4 + 3 = 7 := ⟨by decide +kernel, rfl⟩
theorem dX8_positionAt_7 : decode cX8_positionAt 7 = .ok (.aload_n 0, 1) ∧ 7 + 1 = 8 := ⟨by decide +kernel, rfl⟩
theorem dX8_positionAt_8 : decode cX8_positionAt 8 = .ok (.iload_n 1, 1) ∧ 8 + 1 = 9 := ⟨by decide +kernel, rfl⟩
theorem dX8_positionAt_9 : decode cX8_positionAt 9 = .ok (.invokevirtual 110, 3) ∧ 9 + 3 = 12 := ⟨by decide +kernel, rfl⟩
theorem dX8_positionAt_12 : decode cX8_positionAt 12 = .ok (.aload_n 0, 1) ∧ 12 + 1 = 13 := ⟨by decide +kernel, rfl⟩
theorem dX8_positionAt_13 : decode cX8_positionAt 13 = .ok (.getfield 48, 3) ∧ 13 + 3 = 16 := ⟨by decide +kernel, rfl⟩
theorem dX8_positionAt_16 : decode cX8_positionAt 16 = .ok (.getfield 84, 3) ∧ 16 + 3 = 19 := ⟨by decide +kernel, rfl⟩
theorem dX8_positionAt_19 : decode cX8_positionAt 19 = .ok (.iload_n 1, 1) ∧ 19 + 1 = 20 := ⟨by decide +kernel, rfl⟩
theorem dX8_positionAt_20 : decode cX8_positionAt 20 = .ok (.invokevirtual 88, 3) ∧ 20 + 3 = 23 := ⟨by decide +kernel, rfl⟩
theorem dX8_positionAt_23 : decode cX8_positionAt 23 = .ok (.invokevirtual 134, 3) ∧ 23 + 3 = 26 := ⟨by decide +kernel, rfl⟩
theorem dX8_positionAt_26 : decode cX8_positionAt 26 = .ok (.ireturn, 1) ∧ 26 + 1 = 27 := ⟨by decide +kernel, rfl⟩
theorem dX8_refusalOfParent_0 : decode cX8_refusalOfParent 0 = .ok (.aload_n 0, 1) ∧ 0 + 1 = 1 := ⟨by decide +kernel, rfl⟩
theorem dX8_refusalOfParent_1 : decode cX8_refusalOfParent 1 = .ok (.getfield 26, 3) ∧ 1 + 3 = 4 := ⟨by decide +kernel, rfl⟩
theorem dX8_refusalOfParent_4 : decode cX8_refusalOfParent 4 = .ok (.iload_n 1, 1) ∧ 4 + 1 = 5 := ⟨by decide +kernel, rfl⟩
theorem dX8_refusalOfParent_5 : decode cX8_refusalOfParent 5 = .ok (.invokevirtual 107, 3) ∧ 5 + 3 = 8 := ⟨by decide +kernel, rfl⟩
theorem dX8_refusalOfParent_8 : decode cX8_refusalOfParent 8 = .ok (.istore_n 3, 1) ∧ 8 + 1 = 9 := ⟨by decide +kernel, rfl⟩
theorem dX8_refusalOfParent_9 : decode cX8_refusalOfParent 9 = .ok (.aload_n 0, 1) ∧ 9 + 1 = 10 := ⟨by decide +kernel, rfl⟩
theorem dX8_refusalOfParent_10 : decode cX8_refusalOfParent 10 = .ok (.iload_n 2, 1) ∧ 10 + 1 = 11 := ⟨by decide +kernel, rfl⟩
theorem dX8_refusalOfParent_11 : decode cX8_refusalOfParent 11 = .ok (.invokevirtual 54, 3) ∧ 11 + 3 = 14 := ⟨by decide +kernel, rfl⟩
theorem dX8_refusalOfParent_14 : decode cX8_refusalOfParent 14 = .ok (.istore 4, 2) ∧ 14 + 2 = 16 := ⟨by decide +kernel, rfl⟩
theorem dX8_refusalOfParent_16 : decode cX8_refusalOfParent 16 = .ok (.iload_n 3, 1) ∧ 16 + 1 = 17 := ⟨by decide +kernel, rfl⟩
theorem dX8_refusalOfParent_17 : decode cX8_refusalOfParent 17 = .ok (.bipush (-2), 2) ∧ 17 + 2 = 19 := ⟨by decide +kernel, rfl⟩
theorem dX8_refusalOfParent_19 : decode cX8_refusalOfParent 19 = .ok (.if_icmp .eq 10, 3) ∧ 19 + 3 = 22 ∧ ((19 : Nat) : Int) + (10) = ((29 : Nat) : Int) := ⟨by decide +kernel, rfl, rfl⟩
theorem dX8_refusalOfParent_22 : decode cX8_refusalOfParent 22 = .ok (.iload 4, 2) ∧ 22 + 2 = 24 := ⟨by decide +kernel, rfl⟩
theorem dX8_refusalOfParent_24 : decode cX8_refusalOfParent 24 = .ok (.bipush (-2), 2) ∧ 24 + 2 = 26 := ⟨by decide +kernel, rfl⟩
theorem dX8_refusalOfParent_26 : decode cX8_refusalOfParent 26 = .ok (.if_icmp .ne 6, 3) ∧ 26 + 3 = 29 ∧ ((26 : Nat) : Int) + (6) = ((32 : Nat) : Int) := ⟨by decide +kernel, rfl, rfl⟩
theorem dX8_refusalOfParent_29 : decode cX8_refusalOfParent 29 = .ok (.bipush (-2), 2) ∧ 29 + 2 = 31 := ⟨by decide +kernel, rfl⟩
theorem dX8_refusalOfParent_31 : decode cX8_refusalOfParent 31 = .ok (.ireturn, 1) ∧ 31 + 1 = 32 := ⟨by decide +kernel, rfl⟩
theorem dX8_refusalOfParent_32 : decode cX8_refusalOfParent 32 = .ok (.aload_n 0, 1) ∧ 32 + 1 = 33 := ⟨by decide +kernel, rfl⟩
theorem dX8_refusalOfParent_33 : decode cX8_refusalOfParent 33 = .ok (.getfield 48, 3) ∧ 33 + 3 = 36 := ⟨by decide +kernel, rfl⟩
theorem dX8_refusalOfParent_36 : decode cX8_refusalOfParent 36 = .ok (.getfield 84, 3) ∧ 36 + 3 = 39 := ⟨by decide +kernel, rfl⟩
theorem dX8_refusalOfParent_39 : decode cX8_refusalOfParent 39 = .ok (.iload_n 3, 1) ∧ 39 + 1 = 40 := ⟨by decide +kernel, rfl⟩
theorem dX8_refusalOfParent_40 : decode cX8_refusalOfParent 40 = .ok (.invokevirtual 88, 3) ∧ 40 + 3 = 43 := ⟨by decide +kernel, rfl⟩
theorem dX8_refusalOfParent_43 : decode cX8_refusalOfParent 43 = .ok (.istore 5, 2) ∧ 43 + 2 = 45 := ⟨by decide +kernel, rfl⟩
theorem dX8_refusalOfParent_45 : decode cX8_refusalOfParent 45 = .ok (.aload_n 0, 1) ∧ 45 + 1 = 46 := ⟨by decide +kernel, rfl⟩
theorem dX8_refusalOfParent_46 : decode cX8_refusalOfParent 46 = .ok (.getfield 48, 3) ∧ 46 + 3 = 49 := ⟨by decide +kernel, rfl⟩
theorem dX8_refusalOfParent_49 : decode cX8_refusalOfParent 49 = .ok (.getfield 84, 3) ∧ 49 + 3 = 52 := ⟨by decide +kernel, rfl⟩
theorem dX8_refusalOfParent_52 : decode cX8_refusalOfParent 52 = .ok (.iload 4, 2) ∧ 52 + 2 = 54 := ⟨by decide +kernel, rfl⟩
theorem dX8_refusalOfParent_54 : decode cX8_refusalOfParent 54 = .ok (.invokevirtual 88, 3) ∧ 54 + 3 = 57 := ⟨by decide +kernel, rfl⟩
theorem dX8_refusalOfParent_57 : decode cX8_refusalOfParent 57 = .ok (.istore 6, 2) ∧ 57 + 2 = 59 := ⟨by decide +kernel, rfl⟩
theorem dX8_refusalOfParent_59 : decode cX8_refusalOfParent 59 = .ok (.iload 6, 2) ∧ 59 + 2 = 61 := ⟨by decide +kernel, rfl⟩
theorem dX8_refusalOfParent_61 : decode cX8_refusalOfParent 61 = .ok (.iload 5, 2) ∧ 61 + 2 = 63 := ⟨by decide +kernel, rfl⟩
theorem dX8_refusalOfParent_63 : decode cX8_refusalOfParent 63 = .ok (.if_icmp .eq 24, 3) ∧ 63 + 3 = 66 ∧ ((63 : Nat) : Int) + (24) = ((87 : Nat) : Int) := ⟨by decide +kernel, rfl, rfl⟩
theorem dX8_refusalOfParent_66 : decode cX8_refusalOfParent 66 = .ok (.aload_n 0, 1) ∧ 66 + 1 = 67 := ⟨by decide +kernel, rfl⟩
theorem dX8_refusalOfParent_67 : decode cX8_refusalOfParent 67 = .ok (.getfield 48, 3) ∧ 67 + 3 = 70 := ⟨by decide +kernel, rfl⟩
theorem dX8_refusalOfParent_70 : decode cX8_refusalOfParent 70 = .ok (.getfield 84, 3) ∧ 70 + 3 = 73 := ⟨by decide +kernel, rfl⟩
theorem dX8_refusalOfParent_73 : decode cX8_refusalOfParent 73 = .ok (.iload_n 3, 1) ∧ 73 + 1 = 74 := ⟨by decide +kernel, rfl⟩
theorem dX8_refusalOfParent_74 : decode cX8_refusalOfParent 74 = .ok (.invokevirtual 245, 3) ∧ 74 + 3 = 77 := ⟨by decide +kernel, rfl⟩
theorem dX8_refusalOfParent_77 : decode cX8_refusalOfParent 77 = .ok (.iload 6, 2) ∧ 77 + 2 = 79 := ⟨by decide +kernel, rfl⟩
theorem dX8_refusalOfParent_79 : decode cX8_refusalOfParent 79 = .ok (.lshr, 1) ∧ 79 + 1 = 80 := ⟨by decide +kernel, rfl⟩
theorem dX8_refusalOfParent_80 : decode cX8_refusalOfParent 80 = .ok (.lconst 1, 1) ∧ 80 + 1 = 81 := ⟨by decide +kernel, rfl⟩
theorem dX8_refusalOfParent_81 : decode cX8_refusalOfParent 81 = .ok (.land, 1) ∧ 81 + 1 = 82 := ⟨by decide +kernel, rfl⟩
theorem dX8_refusalOfParent_82 : decode cX8_refusalOfParent 82 = .ok (.lconst 1, 1) ∧ 82 + 1 = 83 := ⟨by decide +kernel, rfl⟩
theorem dX8_refusalOfParent_83 : decode cX8_refusalOfParent 83 = .ok (.lcmp, 1) ∧ 83 + 1 = 84 := ⟨by decide +kernel, rfl⟩
theorem dX8_refusalOfParent_84 : decode cX8_refusalOfParent 84 = .ok (.ifCond .ne 7, 3) ∧ 84 + 3 = 87 ∧ ((84 : Nat) : Int) + (7) = ((91 : Nat) : Int) := ⟨by decide +kernel, rfl, rfl⟩
theorem dX8_refusalOfParent_87 : decode cX8_refusalOfParent 87 = .ok (.iconst 1, 1) ∧ 87 + 1 = 88 := ⟨by decide +kernel, rfl⟩
theorem dX8_refusalOfParent_88 : decode cX8_refusalOfParent 88 = .ok (.goto 4, 3) ∧ 88 + 3 = 91 ∧ ((88 : Nat) : Int) + (4) = ((92 : Nat) : Int) := ⟨by decide +kernel, rfl, rfl⟩
theorem dX8_refusalOfParent_91 : decode cX8_refusalOfParent 91 = .ok (.iconst 0, 1) ∧ 91 + 1 = 92 := ⟨by decide +kernel, rfl⟩
theorem dX8_refusalOfParent_92 : decode cX8_refusalOfParent 92 = .ok (.istore 7, 2) ∧ 92 + 2 = 94 := ⟨by decide +kernel, rfl⟩
theorem dX8_refusalOfParent_94 : decode cX8_refusalOfParent 94 = .ok (.aload_n 0, 1) ∧ 94 + 1 = 95 := ⟨by decide +kernel, rfl⟩
theorem dX8_refusalOfParent_95 : decode cX8_refusalOfParent 95 = .ok (.getfield 48, 3) ∧ 95 + 3 = 98 := ⟨by decide +kernel, rfl⟩
theorem dX8_refusalOfParent_98 : decode cX8_refusalOfParent 98 = .ok (.getfield 103, 3) ∧ 98 + 3 = 101 := ⟨by decide +kernel, rfl⟩
theorem dX8_refusalOfParent_101 : decode cX8_refusalOfParent 101 = .ok (.iload 6, 2) ∧ 101 + 2 = 103 := ⟨by decide +kernel, rfl⟩
theorem dX8_refusalOfParent_103 : decode cX8_refusalOfParent 103 = .ok (.iload 5, 2) ∧ 103 + 2 = 105 := ⟨by decide +kernel, rfl⟩
theorem dX8_refusalOfParent_105 : decode cX8_refusalOfParent 105 = .ok (.invokevirtual 266, 3) ∧ 105 + 3 = 108 := ⟨by decide +kernel, rfl⟩
theorem dX8_refusalOfParent_108 : decode cX8_refusalOfParent 108 = .ok (.iconst (-1), 1) ∧ 108 + 1 = 109 := ⟨by decide +kernel, rfl⟩
theorem dX8_refusalOfParent_109 : decode cX8_refusalOfParent 109 = .ok (.if_icmp .eq 7, 3) ∧ 109 + 3 = 112 ∧ ((109 : Nat) : Int) + (7) = ((116 : Nat) : Int) := ⟨by decide +kernel, rfl, rfl⟩
theorem dX8_refusalOfParent_112 : decode cX8_refusalOfParent 112 = .ok (.iconst 1, 1) ∧ 112 + 1 = 113 := ⟨by decide +kernel, rfl⟩
theorem dX8_refusalOfParent_113 : decode cX8_refusalOfParent 113 = .ok (.goto 4, 3) ∧ 113 + 3 = 116 ∧ ((113 : Nat) : Int) + (4) = ((117 : Nat) : Int) := ⟨by decide +kernel, rfl, rfl⟩
theorem dX8_refusalOfParent_116 : decode cX8_refusalOfParent 116 = .ok (.iconst 0, 1) ∧ 116 + 1 = 117 := ⟨by decide +kernel, rfl⟩
theorem dX8_refusalOfParent_117 : decode cX8_refusalOfParent 117 = .ok (.istore 8, 2) ∧ 117 + 2 = 119 := ⟨by decide +kernel, rfl⟩
theorem dX8_refusalOfParent_119 : decode cX8_refusalOfParent 119 = .ok (.iload 7, 2) ∧ 119 + 2 = 121 := ⟨by decide +kernel, rfl⟩
theorem dX8_refusalOfParent_121 : decode cX8_refusalOfParent 121 = .ok (.ifCond .ne 8, 3) ∧ 121 + 3 = 124 ∧ ((121 : Nat) : Int) + (8) = ((129 : Nat) : Int) := ⟨by decide +kernel, rfl, rfl⟩
theorem dX8_refusalOfParent_124 : decode cX8_refusalOfParent 124 = .ok (.iload 8, 2) ∧ 124 + 2 = 126 := ⟨by decide +kernel, rfl⟩
theorem dX8_refusalOfParent_126 : decode cX8_refusalOfParent 126 = .ok (.ifCond .eq 8, 3) ∧ 126 + 3 = 129 ∧ ((126 : Nat) : Int) + (8) = ((134 : Nat) : Int) := ⟨by decide +kernel, rfl, rfl⟩
theorem dX8_refusalOfParent_129 : decode cX8_refusalOfParent 129 = .ok (.bipush (-5), 2) ∧ 129 + 2 = 131 := ⟨by decide +kernel, rfl⟩
theorem dX8_refusalOfParent_131 : decode cX8_refusalOfParent 131 = .ok (.goto 4, 3) ∧ 131 + 3 = 134 ∧ ((131 : Nat) : Int) + (4) = ((135 : Nat) : Int) := ⟨by decide +kernel, rfl, rfl⟩
theorem dX8_refusalOfParent_134 : decode cX8_refusalOfParent 134 = .ok (.iconst 0, 1) ∧ 134 + 1 = 135 := ⟨by decide +kernel, rfl⟩
theorem dX8_refusalOfParent_135 : decode cX8_refusalOfParent 135 = .ok (.ireturn, 1) ∧ 135 + 1 = 136 := ⟨by decide +kernel, rfl⟩
theorem dX8_attach_0 : decode cX8_attach 0 = .ok (.aload_n 0, 1) ∧ 0 + 1 = 1 := ⟨by decide +kernel, rfl⟩
theorem dX8_attach_1 : decode cX8_attach 1 = .ok (.getfield 51, 3) ∧ 1 + 3 = 4 := ⟨by decide +kernel, rfl⟩
theorem dX8_attach_4 : decode cX8_attach 4 = .ok (.getfield 103, 3) ∧ 4 + 3 = 7 := ⟨by decide +kernel, rfl⟩
theorem dX8_attach_7 : decode cX8_attach 7 = .ok (.iload_n 2, 1) ∧ 7 + 1 = 8 := ⟨by decide +kernel, rfl⟩
theorem dX8_attach_8 : decode cX8_attach 8 = .ok (.iload_n 1, 1) ∧ 8 + 1 = 9 := ⟨by decide +kernel, rfl⟩
theorem dX8_attach_9 : decode cX8_attach 9 = .ok (.invokevirtual 269, 3) ∧ 9 + 3 = 12 := ⟨by decide +kernel, rfl⟩
theorem dX8_attach_12 : decode cX8_attach 12 = .ok (.ifCond .eq 20, 3) ∧ 12 + 3 = 15 ∧ ((12 : Nat) : Int) + (20) = ((32 : Nat) : Int) := ⟨by decide +kernel, rfl, rfl⟩
theorem dX8_attach_15 : decode cX8_attach 15 = .ok (.aload_n 0, 1) ∧ 15 + 1 = 16 := ⟨by decide +kernel, rfl⟩
theorem dX8_attach_16 : decode cX8_attach 16 = .ok (.getfield 51, 3) ∧ 16 + 3 = 19 := ⟨by decide +kernel, rfl⟩
theorem dX8_attach_19 : decode cX8_attach 19 = .ok (.aload_n 0, 1) ∧ 19 + 1 = 20 := ⟨by decide +kernel, rfl⟩
theorem dX8_attach_20 : decode cX8_attach 20 = .ok (.getfield 48, 3) ∧ 20 + 3 = 23 := ⟨by decide +kernel, rfl⟩
theorem dX8_attach_23 : decode cX8_attach 23 = .ok (.getfield 84, 3) ∧ 23 + 3 = 26 := ⟨by decide +kernel, rfl⟩
theorem dX8_attach_26 : decode cX8_attach 26 = .ok (.invokevirtual 119, 3) ∧ 26 + 3 = 29 := ⟨by decide +kernel, rfl⟩
theorem dX8_attach_29 : decode cX8_attach 29 = .ok (.ifCond .ne 6, 3) ∧ 29 + 3 = 32 ∧ ((29 : Nat) : Int) + (6) = ((35 : Nat) : Int) := ⟨by decide +kernel, rfl, rfl⟩
theorem dX8_attach_32 : decode cX8_attach 32 = .ok (.bipush (-4), 2) ∧ 32 + 2 = 34 := ⟨by decide +kernel, rfl⟩
theorem dX8_attach_34 : decode cX8_attach 34 = .ok (.ireturn, 1) ∧ 34 + 1 = 35 := ⟨by decide +kernel, rfl⟩
theorem dX8_attach_35 : decode cX8_attach 35 = .ok (.aload_n 0, 1) ∧ 35 + 1 = 36 := ⟨by decide +kernel, rfl⟩
theorem dX8_attach_36 : decode cX8_attach 36 = .ok (.invokevirtual 131, 3) ∧ 36 + 3 = 39 := ⟨by decide +kernel, rfl⟩
theorem dX8_attach_39 : decode cX8_attach 39 = .ok (.aload_n 0, 1) ∧ 39 + 1 = 40 := ⟨by decide +kernel, rfl⟩
theorem dX8_attach_40 : decode cX8_attach 40 = .ok (.getfield 48, 3) ∧ 40 + 3 = 43 := ⟨by decide +kernel, rfl⟩
theorem dX8_attach_43 : decode cX8_attach 43 = .ok (.getfield 84, 3) ∧ 43 + 3 = 46 := ⟨by decide +kernel, rfl⟩
theorem dX8_attach_46 : decode cX8_attach 46 = .ok (.iload_n 1, 1) ∧ 46 + 1 = 47 := ⟨by decide +kernel, rfl⟩
theorem dX8_attach_47 : decode cX8_attach 47 = .ok (.invokevirtual 148, 3) ∧ 47 + 3 = 50 := ⟨by decide +kernel, rfl⟩
theorem dX8_attach_50 : decode cX8_attach 50 = .ok (.ireturn, 1) ∧ 50 + 1 = 51 := ⟨by decide +kernel, rfl⟩
theorem dX8_accept_0 : decode cX8_accept 0 = .ok (.aload_n 0, 1) ∧ 0 + 1 = 1 := ⟨by decide +kernel, rfl⟩
theorem dX8_accept_1 : decode cX8_accept 1 = .ok (.getfield 33, 3) ∧ 1 + 3 = 4 := ⟨by decide +kernel, rfl⟩
theorem dX8_accept_4 : decode cX8_accept 4 = .ok (.aload_n 0, 1) ∧ 4 + 1 = 5 := ⟨by decide +kernel, rfl⟩
theorem dX8_accept_5 : decode cX8_accept 5 = .ok (.getfield 48, 3) ∧ 5 + 3 = 8 := ⟨by decide +kernel, rfl⟩
theorem dX8_accept_8 : decode cX8_accept 8 = .ok (.invokevirtual 272, 3) ∧ 8 + 3 = 11 := ⟨by decide +kernel, rfl⟩
theorem dX8_accept_11 : decode cX8_accept 11 = .ok (.aload_n 0, 1) ∧ 11 + 1 = 12 := ⟨by decide +kernel, rfl⟩
theorem dX8_accept_12 : decode cX8_accept 12 = .ok (.getfield 48, 3) ∧ 12 + 3 = 15 := ⟨by decide +kernel, rfl⟩
theorem dX8_accept_15 : decode cX8_accept 15 = .ok (.astore_n 1, 1) ∧ 15 + 1 = 16 := ⟨by decide +kernel, rfl⟩
theorem dX8_accept_16 : decode cX8_accept 16 = .ok (.aload_n 0, 1) ∧ 16 + 1 = 17 := ⟨by decide +kernel, rfl⟩
theorem dX8_accept_17 : decode cX8_accept 17 = .ok (.aload_n 0, 1) ∧ 17 + 1 = 18 := ⟨by decide +kernel, rfl⟩
theorem dX8_accept_18 : decode cX8_accept 18 = .ok (.getfield 51, 3) ∧ 18 + 3 = 21 := ⟨by decide +kernel, rfl⟩
theorem dX8_accept_21 : decode cX8_accept 21 = .ok (.putfield 48, 3) ∧ 21 + 3 = 24 := ⟨by decide +kernel, rfl⟩
theorem dX8_accept_24 : decode cX8_accept 24 = .ok (.aload_n 0, 1) ∧ 24 + 1 = 25 := ⟨by decide +kernel, rfl⟩
theorem dX8_accept_25 : decode cX8_accept 25 = .ok (.aload_n 1, 1) ∧ 25 + 1 = 26 := ⟨by decide +kernel, rfl⟩
theorem dX8_accept_26 : decode cX8_accept 26 = .ok (.putfield 51, 3) ∧ 26 + 3 = 29 := ⟨by decide +kernel, rfl⟩
theorem dX8_accept_29 : decode cX8_accept 29 = .ok (.aload_n 0, 1) ∧ 29 + 1 = 30 := ⟨by decide +kernel, rfl⟩
theorem dX8_accept_30 : decode cX8_accept 30 = .ok (.getfield 26, 3) ∧ 30 + 3 = 33 := ⟨by decide +kernel, rfl⟩
theorem dX8_accept_33 : decode cX8_accept 33 = .ok (.aload_n 0, 1) ∧ 33 + 1 = 34 := ⟨by decide +kernel, rfl⟩
theorem dX8_accept_34 : decode cX8_accept 34 = .ok (.getfield 48, 3) ∧ 34 + 3 = 37 := ⟨by decide +kernel, rfl⟩
theorem dX8_accept_37 : decode cX8_accept 37 = .ok (.getfield 84, 3) ∧ 37 + 3 = 40 := ⟨by decide +kernel, rfl⟩
theorem dX8_accept_40 : decode cX8_accept 40 = .ok (.invokevirtual 207, 3) ∧ 40 + 3 = 43 := ⟨by decide +kernel, rfl⟩
theorem dX8_accept_43 : decode cX8_accept 43 = .ok (.return_, 1) ∧ 43 + 1 = 44 := ⟨by decide +kernel, rfl⟩
theorem dX9_init_0 : decode cX9_init 0 = .ok (.aload_n 0, 1) ∧ 0 + 1 = 1 := ⟨by decide +kernel, rfl⟩
theorem dX9_init_1 : decode cX9_init 1 = .ok (.invokespecial 1, 3) ∧ 1 + 3 = 4 := ⟨by decide +kernel, rfl⟩
theorem dX9_init_4 : decode cX9_init 4 = .ok (.aload_n 0, 1) ∧ 4 + 1 = 5 := ⟨by decide +kernel, rfl⟩
theorem dX9_init_5 : decode cX9_init 5 = .ok (.sipush 2494, 3) ∧ 5 + 3 = 8 := ⟨by decide +kernel, rfl⟩
theorem dX9_init_8 : decode cX9_init 8 = .ok (.newarray .int, 2) ∧ 8 + 2 = 10 := ⟨by decide +kernel, rfl⟩
theorem dX9_init_10 : decode cX9_init 10 = .ok (.putfield 7, 3) ∧ 10 + 3 = 13 := ⟨by decide +kernel, rfl⟩
theorem dX9_init_13 : decode cX9_init 13 = .ok (.aload_n 0, 1) ∧ 13 + 1 = 14 := ⟨by decide +kernel, rfl⟩
theorem dX9_init_14 : decode cX9_init 14 = .ok (.sipush 12470, 3) ∧ 14 + 3 = 17 := ⟨by decide +kernel, rfl⟩
theorem dX9_init_17 : decode cX9_init 17 = .ok (.newarray .int, 2) ∧ 17 + 2 = 19 := ⟨by decide +kernel, rfl⟩
theorem dX9_init_19 : decode cX9_init 19 = .ok (.putfield 13, 3) ∧ 19 + 3 = 22 := ⟨by decide +kernel, rfl⟩
theorem dX9_init_22 : decode cX9_init 22 = .ok (.aload_n 0, 1) ∧ 22 + 1 = 23 := ⟨by decide +kernel, rfl⟩
theorem dX9_init_23 : decode cX9_init 23 = .ok (.sipush 2494, 3) ∧ 23 + 3 = 26 := ⟨by decide +kernel, rfl⟩
theorem dX9_init_26 : decode cX9_init 26 = .ok (.newarray .int, 2) ∧ 26 + 2 = 28 := ⟨by decide +kernel, rfl⟩
theorem dX9_init_28 : decode cX9_init 28 = .ok (.putfield 16, 3) ∧ 28 + 3 = 31 := ⟨by decide +kernel, rfl⟩
theorem dX9_init_31 : decode cX9_init 31 = .ok (.aload_n 0, 1) ∧ 31 + 1 = 32 := ⟨by decide +kernel, rfl⟩
theorem dX9_init_32 : decode cX9_init 32 = .ok (.sipush 2494, 3) ∧ 32 + 3 = 35 := ⟨by decide +kernel, rfl⟩
theorem dX9_init_35 : decode cX9_init 35 = .ok (.newarray .int, 2) ∧ 35 + 2 = 37 := ⟨by decide +kernel, rfl⟩
theorem dX9_init_37 : decode cX9_init 37 = .ok (.putfield 19, 3) ∧ 37 + 3 = 40 := ⟨by decide +kernel, rfl⟩
theorem dX9_init_40 : decode cX9_init 40 = .ok (.aload_n 0, 1) ∧ 40 + 1 = 41 := ⟨by decide +kernel, rfl⟩
theorem dX9_init_41 : decode cX9_init 41 = .ok (.bipush 42, 2) ∧ 41 + 2 = 43 := ⟨by decide +kernel, rfl⟩
theorem dX9_init_43 : decode cX9_init 43 = .ok (.newarray .int, 2) ∧ 43 + 2 = 45 := ⟨by decide +kernel, rfl⟩
theorem dX9_init_45 : decode cX9_init 45 = .ok (.putfield 22, 3) ∧ 45 + 3 = 48 := ⟨by decide +kernel, rfl⟩
theorem dX9_init_48 : decode cX9_init 48 = .ok (.aload_n 0, 1) ∧ 48 + 1 = 49 := ⟨by decide +kernel, rfl⟩
theorem dX9_init_49 : decode cX9_init 49 = .ok (.bipush 42, 2) ∧ 49 + 2 = 51 := ⟨by decide +kernel, rfl⟩
theorem dX9_init_51 : decode cX9_init 51 = .ok (.newarray .int, 2) ∧ 51 + 2 = 53 := ⟨by decide +kernel, rfl⟩
theorem dX9_init_53 : decode cX9_init 53 = .ok (.putfield 25, 3) ∧ 53 + 3 = 56 := ⟨by decide +kernel, rfl⟩
theorem dX9_init_56 : decode cX9_init 56 = .ok (.aload_n 0, 1) ∧ 56 + 1 = 57 := ⟨by decide +kernel, rfl⟩
theorem dX9_init_57 : decode cX9_init 57 = .ok (.bipush 120, 2) ∧ 57 + 2 = 59 := ⟨by decide +kernel, rfl⟩
theorem dX9_init_59 : decode cX9_init 59 = .ok (.newarray .int, 2) ∧ 59 + 2 = 61 := ⟨by decide +kernel, rfl⟩
theorem dX9_init_61 : decode cX9_init 61 = .ok (.putfield 28, 3) ∧ 61 + 3 = 64 := ⟨by decide +kernel, rfl⟩
theorem dX9_init_64 : decode cX9_init 64 = .ok (.aload_n 0, 1) ∧ 64 + 1 = 65 := ⟨by decide +kernel, rfl⟩
theorem dX9_init_65 : decode cX9_init 65 = .ok (.bipush 121, 2) ∧ 65 + 2 = 67 := ⟨by decide +kernel, rfl⟩
theorem dX9_init_67 : decode cX9_init 67 = .ok (.newarray .int, 2) ∧ 67 + 2 = 69 := ⟨by decide +kernel, rfl⟩
theorem dX9_init_69 : decode cX9_init 69 = .ok (.putfield 31, 3) ∧ 69 + 3 = 72 := ⟨by decide +kernel, rfl⟩
theorem dX9_init_72 : decode cX9_init 72 = .ok (.aload_n 0, 1) ∧ 72 + 1 = 73 := ⟨by decide +kernel, rfl⟩
theorem dX9_init_73 : decode cX9_init 73 = .ok (.bipush 41, 2) ∧ 73 + 2 = 75 := ⟨by decide +kernel, rfl⟩
theorem dX9_init_75 : decode cX9_init 75 = .ok (.newarray .boolean, 2) ∧ 75 + 2 = 77 := ⟨by decide +kernel, rfl⟩
theorem dX9_init_77 : decode cX9_init 77 = .ok (.putfield 34, 3) ∧ 77 + 3 = 80 := ⟨by decide +kernel, rfl⟩
theorem dX9_init_80 : decode cX9_init 80 = .ok (.aload_n 0, 1) ∧ 80 + 1 = 81 := ⟨by decide +kernel, rfl⟩
theorem dX9_init_81 : decode cX9_init 81 = .ok (.bipush 41, 2) ∧ 81 + 2 = 83 := ⟨by decide +kernel, rfl⟩
theorem dX9_init_83 : decode cX9_init 83 = .ok (.newarray .int, 2) ∧ 83 + 2 = 85 := ⟨by decide +kernel, rfl⟩
theorem dX9_init_85 : decode cX9_init 85 = .ok (.putfield 38, 3) ∧ 85 + 3 = 88 := ⟨by decide +kernel, rfl⟩
theorem dX9_init_88 : decode cX9_init 88 = .ok (.aload_n 0, 1) ∧ 88 + 1 = 89 := ⟨by decide +kernel, rfl⟩
theorem dX9_init_89 : decode cX9_init 89 = .ok (.bipush 60, 2) ∧ 89 + 2 = 91 := ⟨by decide +kernel, rfl⟩
theorem dX9_init_91 : decode cX9_init 91 = .ok (.newarray .char, 2) ∧ 91 + 2 = 93 := ⟨by decide +kernel, rfl⟩
theorem dX9_init_93 : decode cX9_init 93 = .ok (.putfield 41, 3) ∧ 93 + 3 = 96 := ⟨by decide +kernel, rfl⟩
theorem dX9_init_96 : decode cX9_init 96 = .ok (.aload_n 0, 1) ∧ 96 + 1 = 97 := ⟨by decide +kernel, rfl⟩
theorem dX9_init_97 : decode cX9_init 97 = .ok (.bipush 26, 2) ∧ 97 + 2 = 99 := ⟨by decide +kernel, rfl⟩
theorem dX9_init_99 : decode cX9_init 99 = .ok (.newarray .int, 2) ∧ 99 + 2 = 101 := ⟨by decide +kernel, rfl⟩
theorem dX9_init_101 : decode cX9_init 101 = .ok (.putfield 45, 3) ∧ 101 + 3 = 104 := ⟨by decide +kernel, rfl⟩
theorem dX9_init_104 : decode cX9_init 104 = .ok (.aload_n 0, 1) ∧ 104 + 1 = 105 := ⟨by decide +kernel, rfl⟩
theorem dX9_init_105 : decode cX9_init 105 = .ok (.bipush 28, 2) ∧ 105 + 2 = 107 := ⟨by decide +kernel, rfl⟩
theorem dX9_init_107 : decode cX9_init 107 = .ok (.newarray .int, 2) ∧ 107 + 2 = 109 := ⟨by decide +kernel, rfl⟩
theorem dX9_init_109 : decode cX9_init 109 = .ok (.putfield 48, 3) ∧ 109 + 3 = 112 := ⟨by decide +kernel, rfl⟩
theorem dX9_init_112 : decode cX9_init 112 = .ok (.aload_n 0, 1) ∧ 112 + 1 = 113 := ⟨by decide +kernel, rfl⟩
theorem dX9_init_113 : decode cX9_init 113 = .ok (.bipush 28, 2) ∧ 113 + 2 = 115 := ⟨by decide +kernel, rfl⟩
theorem dX9_init_115 : decode cX9_init 115 = .ok (.newarray .int, 2) ∧ 115 + 2 = 117 := ⟨by decide +kernel, rfl⟩
theorem dX9_init_117 : decode cX9_init 117 = .ok (.putfield 51, 3) ∧ 117 + 3 = 120 := ⟨by decide +kernel, rfl⟩
theorem dX9_init_120 : decode cX9_init 120 = .ok (.aload_n 0, 1) ∧ 120 + 1 = 121 := ⟨by decide +kernel, rfl⟩
theorem dX9_init_121 : decode cX9_init 121 = .ok (.sipush 784, 3) ∧ 121 + 3 = 124 := ⟨by decide +kernel, rfl⟩
theorem dX9_init_124 : decode cX9_init 124 = .ok (.newarray .int, 2) ∧ 124 + 2 = 126 := ⟨by decide +kernel, rfl⟩
theorem dX9_init_126 : decode cX9_init 126 = .ok (.putfield 54, 3) ∧ 126 + 3 = 129 := ⟨by decide +kernel, rfl⟩
theorem dX9_init_129 : decode cX9_init 129 = .ok (.aload_n 0, 1) ∧ 129 + 1 = 130 := ⟨by decide +kernel, rfl⟩
theorem dX9_init_130 : decode cX9_init 130 = .ok (.bipush 62, 2) ∧ 130 + 2 = 132 := ⟨by decide +kernel, rfl⟩
theorem dX9_init_132 : decode cX9_init 132 = .ok (.newarray .int, 2) ∧ 132 + 2 = 134 := ⟨by decide +kernel, rfl⟩
theorem dX9_init_134 : decode cX9_init 134 = .ok (.putfield 57, 3) ∧ 134 + 3 = 137 := ⟨by decide +kernel, rfl⟩
theorem dX9_init_137 : decode cX9_init 137 = .ok (.aload_n 0, 1) ∧ 137 + 1 = 138 := ⟨by decide +kernel, rfl⟩
theorem dX9_init_138 : decode cX9_init 138 = .ok (.getfield 7, 3) ∧ 138 + 3 = 141 := ⟨by decide +kernel, rfl⟩
theorem dX9_init_141 : decode cX9_init 141 = .ok (.iconst 2, 1) ∧ 141 + 1 = 142 := ⟨by decide +kernel, rfl⟩
theorem dX9_init_142 : decode cX9_init 142 = .ok (.iconst 1, 1) ∧ 142 + 1 = 143 := ⟨by decide +kernel, rfl⟩
theorem dX9_init_143 : decode cX9_init 143 = .ok (.iastore, 1) ∧ 143 + 1 = 144 := ⟨by decide +kernel, rfl⟩
theorem dX9_init_144 : decode cX9_init 144 = .ok (.return_, 1) ∧ 144 + 1 = 145 := ⟨by decide +kernel, rfl⟩
theorem dX9_in_0 : decode cX9_in 0 = .ok (.iload_n 0, 1) ∧ 0 + 1 = 1 := ⟨by decide +kernel, rfl⟩
theorem dX9_in_1 : decode cX9_in 1 = .ok (.iload_n 1, 1) ∧ 1 + 1 = 2 := ⟨by decide +kernel, rfl⟩
theorem dX9_in_2 : decode cX9_in 2 = .ok (.if_icmp .lt 12, 3) ∧ 2 + 3 = 5 ∧ ((2 : Nat) : Int) + (12) = ((14 : Nat) : Int) := ⟨by decide +kernel, rfl, rfl⟩
theorem dX9_in_5 : decode cX9_in 5 = .ok (.iload_n 0, 1) ∧ 5 + 1 = 6 := ⟨by decide +kernel, rfl⟩
theorem dX9_in_6 : decode cX9_in 6 = .ok (.iload_n 2, 1) ∧ 6 + 1 = 7 := ⟨by decide +kernel, rfl⟩
theorem dX9_in_7 : decode cX9_in 7 = .ok (.if_icmp .gt 7, 3) ∧ 7 + 3 = 10 ∧ ((7 : Nat) : Int) + (7) = ((14 : Nat) : Int) := ⟨by decide +kernel, rfl, rfl⟩
theorem dX9_in_10 : decode cX9_in 10 = .ok (.iconst 1, 1) ∧ 10 + 1 = 11 := ⟨by decide +kernel, rfl⟩
theorem dX9_in_11 : decode cX9_in 11 = .ok (.goto 4, 3) ∧ 11 + 3 = 14 ∧ ((11 : Nat) : Int) + (4) = ((15 : Nat) : Int) := ⟨by decide +kernel, rfl, rfl⟩
theorem dX9_in_14 : decode cX9_in 14 = .ok (.iconst 0, 1) ∧ 14 + 1 = 15 := ⟨by decide +kernel, rfl⟩
theorem dX9_in_15 : decode cX9_in 15 = .ok (.ireturn, 1) ∧ 15 + 1 = 16 := ⟨by decide +kernel, rfl⟩
theorem dX9_takeSpare_0 : decode cX9_takeSpare 0 = .ok (.iconst 0, 1) ∧ 0 + 1 = 1 := ⟨by decide +kernel, rfl⟩
theorem dX9_takeSpare_1 : decode cX9_takeSpare 1 = .ok (.istore_n 1, 1) ∧ 1 + 1 = 2 := ⟨by decide +kernel, rfl⟩
theorem dX9_takeSpare_2 : decode cX9_takeSpare 2 = .ok (.iload_n 1, 1) ∧ 2 + 1 = 3 := ⟨by decide +kernel, rfl⟩
theorem dX9_takeSpare_3 : decode cX9_takeSpare 3 = .ok (.sipush 2494, 3) ∧ 3 + 3 = 6 := ⟨by decide +kernel, rfl⟩
theorem dX9_takeSpare_6 : decode cX9_takeSpare 6 = .ok (.if_icmp .ge 21, 3) ∧ 6 + 3 = 9 ∧ ((6 : Nat) : Int) + (21) = ((27 : Nat) : Int) := ⟨by decide +kernel, rfl, rfl⟩
theorem dX9_takeSpare_9 : decode cX9_takeSpare 9 = .ok (.aload_n 0, 1) ∧ 9 + 1 = 10 := ⟨by decide +kernel, rfl⟩
theorem dX9_takeSpare_10 : decode cX9_takeSpare 10 = .ok (.getfield 19, 3) ∧ 10 + 3 = 13 := ⟨by decide +kernel, rfl⟩
theorem dX9_takeSpare_13 : decode cX9_takeSpare 13 = .ok (.iload_n 1, 1) ∧ 13 + 1 = 14 := ⟨by decide +kernel, rfl⟩
theorem dX9_takeSpare_14 : decode cX9_takeSpare 14 = .ok (.aload_n 0, 1) ∧ 14 + 1 = 15 := ⟨by decide +kernel, rfl⟩
theorem dX9_takeSpare_15 : decode cX9_takeSpare 15 = .ok (.getfield 7, 3) ∧ 15 + 3 = 18 := ⟨by decide +kernel, rfl⟩
theorem dX9_takeSpare_18 : decode cX9_takeSpare 18 = .ok (.iload_n 1, 1) ∧ 18 + 1 = 19 := ⟨by decide +kernel, rfl⟩
theorem dX9_takeSpare_19 : decode cX9_takeSpare 19 = .ok (.iaload, 1) ∧ 19 + 1 = 20 := ⟨by decide +kernel, rfl⟩
theorem dX9_takeSpare_20 : decode cX9_takeSpare 20 = .ok (.iastore, 1) ∧ 20 + 1 = 21 := ⟨by decide +kernel, rfl⟩
theorem dX9_takeSpare_21 : decode cX9_takeSpare 21 = .ok (.iinc 1 1, 3) ∧ 21 + 3 = 24 := ⟨by decide +kernel, rfl⟩
theorem dX9_takeSpare_24 : decode cX9_takeSpare 24 = .ok (.goto (-22), 3) ∧ 24 + 3 = 27 ∧ ((24 : Nat) : Int) + (-22) = ((2 : Nat) : Int) := ⟨by decide +kernel, rfl, rfl⟩
theorem dX9_takeSpare_27 : decode cX9_takeSpare 27 = .ok (.return_, 1) ∧ 27 + 1 = 28 := ⟨by decide +kernel, rfl⟩
theorem dX9_putBack_0 : decode cX9_putBack 0 = .ok (.iconst 0, 1) ∧ 0 + 1 = 1 := ⟨by decide +kernel, rfl⟩
theorem dX9_putBack_1 : decode cX9_putBack 1 = .ok (.istore_n 1, 1) ∧ 1 + 1 = 2 := ⟨by decide +kernel, rfl⟩
theorem dX9_putBack_2 : decode cX9_putBack 2 = .ok (.iload_n 1, 1) ∧ 2 + 1 = 3 := ⟨by decide +kernel, rfl⟩
theorem dX9_putBack_3 : decode cX9_putBack 3 = .ok (.sipush 2494, 3) ∧ 3 + 3 = 6 := ⟨by decide +kernel, rfl⟩
theorem dX9_putBack_6 : decode cX9_putBack 6 = .ok (.if_icmp .ge 21, 3) ∧ 6 + 3 = 9 ∧ ((6 : Nat) : Int) + (21) = ((27 : Nat) : Int) := ⟨by decide +kernel, rfl, rfl⟩
theorem dX9_putBack_9 : decode cX9_putBack 9 = .ok (.aload_n 0, 1) ∧ 9 + 1 = 10 := ⟨by decide +kernel, rfl⟩
theorem dX9_putBack_10 : decode cX9_putBack 10 = .ok (.getfield 7, 3) ∧ 10 + 3 = 13 := ⟨by decide +kernel, rfl⟩
theorem dX9_putBack_13 : decode cX9_putBack 13 = .ok (.iload_n 1, 1) ∧ 13 + 1 = 14 := ⟨by decide +kernel, rfl⟩
theorem dX9_putBack_14 : decode cX9_putBack 14 = .ok (.aload_n 0, 1) ∧ 14 + 1 = 15 := ⟨by decide +kernel, rfl⟩
theorem dX9_putBack_15 : decode cX9_putBack 15 = .ok (.getfield 19, 3) ∧ 15 + 3 = 18 := ⟨by decide +kernel, rfl⟩
theorem dX9_putBack_18 : decode cX9_putBack 18 = .ok (.iload_n 1, 1) ∧ 18 + 1 = 19 := ⟨by decide +kernel, rfl⟩
theorem dX9_putBack_19 : decode cX9_putBack 19 = .ok (.iaload, 1) ∧ 19 + 1 = 20 := ⟨by decide +kernel, rfl⟩
theorem dX9_putBack_20 : decode cX9_putBack 20 = .ok (.iastore, 1) ∧ 20 + 1 = 21 := ⟨by decide +kernel, rfl⟩
theorem dX9_putBack_21 : decode cX9_putBack 21 = .ok (.iinc 1 1, 3) ∧ 21 + 3 = 24 := ⟨by decide +kernel, rfl⟩
theorem dX9_putBack_24 : decode cX9_putBack 24 = .ok (.goto (-22), 3) ∧ 24 + 3 = 27 ∧ ((24 : Nat) : Int) + (-22) = ((2 : Nat) : Int) := ⟨by decide +kernel, rfl, rfl⟩
theorem dX9_putBack_27 : decode cX9_putBack 27 = .ok (.return_, 1) ∧ 27 + 1 = 28 := ⟨by decide +kernel, rfl⟩
end
section
theorem dX9_record_0 : decode cX9_record 0 = .ok (.aload_n 0, 1) ∧ 0 + 1 = 1 := ⟨by decide +kernel, rfl⟩
theorem dX9_record_1 : decode cX9_record 1 = .ok (.getfield 60, 3) ∧ 1 + 3 = 4 := ⟨by decide +kernel, rfl⟩
theorem dX9_record_4 : decode cX9_record 4 = .ok (.iconst 5, 1) ∧ 4 + 1 = 5 := ⟨by decide +kernel, rfl⟩
theorem dX9_record_5 : decode cX9_record 5 = .ok (.if_icmp .ne 44, 3) ∧ 5 + 3 = 8 ∧ ((5 : Nat) : Int) + (44) = ((49 : Nat) : Int) := ⟨by decide +kernel, rfl, rfl⟩
theorem dX9_record_8 : decode cX9_record 8 = .ok (.iconst 0, 1) ∧ 8 + 1 = 9 := ⟨by decide +kernel, rfl⟩
theorem dX9_record_9 : decode cX9_record 9 = .ok (.istore_n 1, 1) ∧ 9 + 1 = 10 := ⟨by decide +kernel, rfl⟩
theorem dX9_record_10 : decode cX9_record 10 = .ok (.iload_n 1, 1) ∧ 10 + 1 = 11 := ⟨by decide +kernel, rfl⟩
theorem dX9_record_11 : decode cX9_record 11 = .ok (.sipush 9976, 3) ∧ 11 + 3 = 14 := ⟨by decide +kernel, rfl⟩
theorem dX9_record_14 : decode cX9_record 14 = .ok (.if_icmp .ge 25, 3) ∧ 14 + 3 = 17 ∧ ((14 : Nat) : Int) + (25) = ((39 : Nat) : Int) := ⟨by decide +kernel, rfl, rfl⟩
theorem dX9_record_17 : decode cX9_record 17 = .ok (.aload_n 0, 1) ∧ 17 + 1 = 18 := ⟨by decide +kernel, rfl⟩
theorem dX9_record_18 : decode cX9_record 18 = .ok (.getfield 13, 3) ∧ 18 + 3 = 21 := ⟨by decide +kernel, rfl⟩
theorem dX9_record_21 : decode cX9_record 21 = .ok (.iload_n 1, 1) ∧ 21 + 1 = 22 := ⟨by decide +kernel, rfl⟩
theorem dX9_record_22 : decode cX9_record 22 = .ok (.aload_n 0, 1) ∧ 22 + 1 = 23 := ⟨by decide +kernel, rfl⟩
theorem dX9_record_23 : decode cX9_record 23 = .ok (.getfield 13, 3) ∧ 23 + 3 = 26 := ⟨by decide +kernel, rfl⟩
theorem dX9_record_26 : decode cX9_record 26 = .ok (.iload_n 1, 1) ∧ 26 + 1 = 27 := ⟨by decide +kernel, rfl⟩
theorem dX9_record_27 : decode cX9_record 27 = .ok (.sipush 2494, 3) ∧ 27 + 3 = 30 := ⟨by decide +kernel, rfl⟩
theorem dX9_record_30 : decode cX9_record 30 = .ok (.iadd, 1) ∧ 30 + 1 = 31 := ⟨by decide +kernel, rfl⟩
theorem dX9_record_31 : decode cX9_record 31 = .ok (.iaload, 1) ∧ 31 + 1 = 32 := ⟨by decide +kernel, rfl⟩
theorem dX9_record_32 : decode cX9_record 32 = .ok (.iastore, 1) ∧ 32 + 1 = 33 := ⟨by decide +kernel, rfl⟩
theorem dX9_record_33 : decode cX9_record 33 = .ok (.iinc 1 1, 3) ∧ 33 + 3 = 36 := ⟨by decide +kernel, rfl⟩
theorem dX9_record_36 : decode cX9_record 36 = .ok (.goto (-26), 3) ∧ 36 + 3 = 39 ∧ ((36 : Nat) : Int) + (-26) = ((10 : Nat) : Int) := ⟨by decide +kernel, rfl, rfl⟩
theorem dX9_record_39 : decode cX9_record 39 = .ok (.aload_n 0, 1) ∧ 39 + 1 = 40 := ⟨by decide +kernel, rfl⟩
theorem dX9_record_40 : decode cX9_record 40 = .ok (.dup, 1) ∧ 40 + 1 = 41 := ⟨by decide +kernel, rfl⟩
theorem dX9_record_41 : decode cX9_record 41 = .ok (.getfield 60, 3) ∧ 41 + 3 = 44 := ⟨by decide +kernel, rfl⟩
theorem dX9_record_44 : decode cX9_record 44 = .ok (.iconst 1, 1) ∧ 44 + 1 = 45 := ⟨by decide +kernel, rfl⟩
theorem dX9_record_45 : decode cX9_record 45 = .ok (.isub, 1) ∧ 45 + 1 = 46 := ⟨by decide +kernel, rfl⟩
theorem dX9_record_46 : decode cX9_record 46 = .ok (.putfield 60, 3) ∧ 46 + 3 = 49 := ⟨by decide +kernel, rfl⟩
theorem dX9_record_49 : decode cX9_record 49 = .ok (.iconst 0, 1) ∧ 49 + 1 = 50 := ⟨by decide +kernel, rfl⟩
theorem dX9_record_50 : decode cX9_record 50 = .ok (.istore_n 1, 1) ∧ 50 + 1 = 51 := ⟨by decide +kernel, rfl⟩
theorem dX9_record_51 : decode cX9_record 51 = .ok (.iload_n 1, 1) ∧ 51 + 1 = 52 := ⟨by decide +kernel, rfl⟩
theorem dX9_record_52 : decode cX9_record 52 = .ok (.sipush 2494, 3) ∧ 52 + 3 = 55 := ⟨by decide +kernel, rfl⟩
theorem dX9_record_55 : decode cX9_record 55 = .ok (.if_icmp .ge 30, 3) ∧ 55 + 3 = 58 ∧ ((55 : Nat) : Int) + (30) = ((85 : Nat) : Int) := ⟨by decide +kernel, rfl, rfl⟩
theorem dX9_record_58 : decode cX9_record 58 = .ok (.aload_n 0, 1) ∧ 58 + 1 = 59 := ⟨by decide +kernel, rfl⟩
theorem dX9_record_59 : decode cX9_record 59 = .ok (.getfield 13, 3) ∧ 59 + 3 = 62 := ⟨by decide +kernel, rfl⟩
theorem dX9_record_62 : decode cX9_record 62 = .ok (.sipush 2494, 3) ∧ 62 + 3 = 65 := ⟨by decide +kernel, rfl⟩
theorem dX9_record_65 : decode cX9_record 65 = .ok (.aload_n 0, 1) ∧ 65 + 1 = 66 := ⟨by decide +kernel, rfl⟩
theorem dX9_record_66 : decode cX9_record 66 = .ok (.getfield 60, 3) ∧ 66 + 3 = 69 := ⟨by decide +kernel, rfl⟩
theorem dX9_record_69 : decode cX9_record 69 = .ok (.imul, 1) ∧ 69 + 1 = 70 := ⟨by decide +kernel, rfl⟩
theorem dX9_record_70 : decode cX9_record 70 = .ok (.iload_n 1, 1) ∧ 70 + 1 = 71 := ⟨by decide +kernel, rfl⟩
theorem dX9_record_71 : decode cX9_record 71 = .ok (.iadd, 1) ∧ 71 + 1 = 72 := ⟨by decide +kernel, rfl⟩
theorem dX9_record_72 : decode cX9_record 72 = .ok (.aload_n 0, 1) ∧ 72 + 1 = 73 := ⟨by decide +kernel, rfl⟩
theorem dX9_record_73 : decode cX9_record 73 = .ok (.getfield 19, 3) ∧ 73 + 3 = 76 := ⟨by decide +kernel, rfl⟩
theorem dX9_record_76 : decode cX9_record 76 = .ok (.iload_n 1, 1) ∧ 76 + 1 = 77 := ⟨by decide +kernel, rfl⟩
theorem dX9_record_77 : decode cX9_record 77 = .ok (.iaload, 1) ∧ 77 + 1 = 78 := ⟨by decide +kernel, rfl⟩
theorem dX9_record_78 : decode cX9_record 78 = .ok (.iastore, 1) ∧ 78 + 1 = 79 := ⟨by decide +kernel, rfl⟩
theorem dX9_record_79 : decode cX9_record 79 = .ok (.iinc 1 1, 3) ∧ 79 + 3 = 82 := ⟨by decide +kernel, rfl⟩
theorem dX9_record_82 : decode cX9_record 82 = .ok (.goto (-31), 3) ∧ 82 + 3 = 85 ∧ ((82 : Nat) : Int) + (-31) = ((51 : Nat) : Int) := ⟨by decide +kernel, rfl, rfl⟩
theorem dX9_record_85 : decode cX9_record 85 = .ok (.aload_n 0, 1) ∧ 85 + 1 = 86 := ⟨by decide +kernel, rfl⟩
theorem dX9_record_86 : decode cX9_record 86 = .ok (.dup, 1) ∧ 86 + 1 = 87 := ⟨by decide +kernel, rfl⟩
theorem dX9_record_87 : decode cX9_record 87 = .ok (.getfield 60, 3) ∧ 87 + 3 = 90 := ⟨by decide +kernel, rfl⟩
theorem dX9_record_90 : decode cX9_record 90 = .ok (.iconst 1, 1) ∧ 90 + 1 = 91 := ⟨by decide +kernel, rfl⟩
theorem dX9_record_91 : decode cX9_record 91 = .ok (.iadd, 1) ∧ 91 + 1 = 92 := ⟨by decide +kernel, rfl⟩
theorem dX9_record_92 : decode cX9_record 92 = .ok (.putfield 60, 3) ∧ 92 + 3 = 95 := ⟨by decide +kernel, rfl⟩
theorem dX9_record_95 : decode cX9_record 95 = .ok (.return_, 1) ∧ 95 + 1 = 96 := ⟨by decide +kernel, rfl⟩
theorem dX9_of_0 : decode cX9_of 0 = .ok (.aload_n 0, 1) ∧ 0 + 1 = 1 := ⟨by decide +kernel, rfl⟩
theorem dX9_of_1 : decode cX9_of 1 = .ok (.getfield 7, 3) ∧ 1 + 3 = 4 := ⟨by decide +kernel, rfl⟩
theorem dX9_of_4 : decode cX9_of 4 = .ok (.iconst 2, 1) ∧ 4 + 1 = 5 := ⟨by decide +kernel, rfl⟩
theorem dX9_of_5 : decode cX9_of 5 = .ok (.bipush 52, 2) ∧ 5 + 2 = 7 := ⟨by decide +kernel, rfl⟩
theorem dX9_of_7 : decode cX9_of 7 = .ok (.iload_n 1, 1) ∧ 7 + 1 = 8 := ⟨by decide +kernel, rfl⟩
theorem dX9_of_8 : decode cX9_of 8 = .ok (.imul, 1) ∧ 8 + 1 = 9 := ⟨by decide +kernel, rfl⟩
theorem dX9_of_9 : decode cX9_of 9 = .ok (.iadd, 1) ∧ 9 + 1 = 10 := ⟨by decide +kernel, rfl⟩
theorem dX9_of_10 : decode cX9_of 10 = .ok (.iload_n 2, 1) ∧ 10 + 1 = 11 := ⟨by decide +kernel, rfl⟩
theorem dX9_of_11 : decode cX9_of 11 = .ok (.iadd, 1) ∧ 11 + 1 = 12 := ⟨by decide +kernel, rfl⟩
theorem dX9_of_12 : decode cX9_of 12 = .ok (.iaload, 1) ∧ 12 + 1 = 13 := ⟨by decide +kernel, rfl⟩
theorem dX9_of_13 : decode cX9_of 13 = .ok (.ireturn, 1) ∧ 13 + 1 = 14 := ⟨by decide +kernel, rfl⟩
theorem dX9_to_0 : decode cX9_to 0 = .ok (.aload_n 0, 1) ∧ 0 + 1 = 1 := ⟨by decide +kernel, rfl⟩
theorem dX9_to_1 : decode cX9_to 1 = .ok (.getfield 7, 3) ∧ 1 + 3 = 4 := ⟨by decide +kernel, rfl⟩
theorem dX9_to_4 : decode cX9_to 4 = .ok (.iconst 2, 1) ∧ 4 + 1 = 5 := ⟨by decide +kernel, rfl⟩
theorem dX9_to_5 : decode cX9_to 5 = .ok (.bipush 52, 2) ∧ 5 + 2 = 7 := ⟨by decide +kernel, rfl⟩
theorem dX9_to_7 : decode cX9_to 7 = .ok (.iload_n 1, 1) ∧ 7 + 1 = 8 := ⟨by decide +kernel, rfl⟩
theorem dX9_to_8 : decode cX9_to 8 = .ok (.imul, 1) ∧ 8 + 1 = 9 := ⟨by decide +kernel, rfl⟩
theorem dX9_to_9 : decode cX9_to 9 = .ok (.iadd, 1) ∧ 9 + 1 = 10 := ⟨by decide +kernel, rfl⟩
theorem dX9_to_10 : decode cX9_to 10 = .ok (.iload_n 2, 1) ∧ 10 + 1 = 11 := ⟨by decide +kernel, rfl⟩
theorem dX9_to_11 : decode cX9_to 11 = .ok (.iadd, 1) ∧ 11 + 1 = 12 := ⟨by decide +kernel, rfl⟩
theorem dX9_to_12 : decode cX9_to 12 = .ok (.iload_n 3, 1) ∧ 12 + 1 = 13 := ⟨by decide +kernel, rfl⟩
theorem dX9_to_13 : decode cX9_to 13 = .ok (.iastore, 1) ∧ 13 + 1 = 14 := ⟨by decide +kernel, rfl⟩
theorem dX9_to_14 : decode cX9_to 14 = .ok (.return_, 1) ∧ 14 + 1 = 15 := ⟨by decide +kernel, rfl⟩
theorem dX9_kid_0 : decode cX9_kid 0 = .ok (.aload_n 0, 1) ∧ 0 + 1 = 1 := ⟨by decide +kernel, rfl⟩
theorem dX9_kid_1 : decode cX9_kid 1 = .ok (.iload_n 1, 1) ∧ 1 + 1 = 2 := ⟨by decide +kernel, rfl⟩
theorem dX9_kid_2 : decode cX9_kid 2 = .ok (.bipush 12, 2) ∧ 2 + 2 = 4 := ⟨by decide +kernel, rfl⟩
theorem dX9_kid_4 : decode cX9_kid 4 = .ok (.iload_n 2, 1) ∧ 4 + 1 = 5 := ⟨by decide +kernel, rfl⟩
theorem dX9_kid_5 : decode cX9_kid 5 = .ok (.iadd, 1) ∧ 5 + 1 = 6 := ⟨by decide +kernel, rfl⟩
theorem dX9_kid_6 : decode cX9_kid 6 = .ok (.invokevirtual 64, 3) ∧ 6 + 3 = 9 := ⟨by decide +kernel, rfl⟩
theorem dX9_kid_9 : decode cX9_kid 9 = .ok (.ireturn, 1) ∧ 9 + 1 = 10 := ⟨by decide +kernel, rfl⟩
theorem dX9_at_0 : decode cX9_at 0 = .ok (.aload_n 0, 1) ∧ 0 + 1 = 1 := ⟨by decide +kernel, rfl⟩
theorem dX9_at_1 : decode cX9_at 1 = .ok (.getfield 7, 3) ∧ 1 + 3 = 4 := ⟨by decide +kernel, rfl⟩
theorem dX9_at_4 : decode cX9_at 4 = .ok (.sipush 2134, 3) ∧ 4 + 3 = 7 := ⟨by decide +kernel, rfl⟩
theorem dX9_at_7 : decode cX9_at 7 = .ok (.iconst 3, 1) ∧ 7 + 1 = 8 := ⟨by decide +kernel, rfl⟩
theorem dX9_at_8 : decode cX9_at 8 = .ok (.iload_n 1, 1) ∧ 8 + 1 = 9 := ⟨by decide +kernel, rfl⟩
theorem dX9_at_9 : decode cX9_at 9 = .ok (.imul, 1) ∧ 9 + 1 = 10 := ⟨by decide +kernel, rfl⟩
theorem dX9_at_10 : decode cX9_at 10 = .ok (.iadd, 1) ∧ 10 + 1 = 11 := ⟨by decide +kernel, rfl⟩
theorem dX9_at_11 : decode cX9_at 11 = .ok (.iload_n 2, 1) ∧ 11 + 1 = 12 := ⟨by decide +kernel, rfl⟩
theorem dX9_at_12 : decode cX9_at 12 = .ok (.iadd, 1) ∧ 12 + 1 = 13 := ⟨by decide +kernel, rfl⟩
theorem dX9_at_13 : decode cX9_at 13 = .ok (.iaload, 1) ∧ 13 + 1 = 14 := ⟨by decide +kernel, rfl⟩
theorem dX9_at_14 : decode cX9_at 14 = .ok (.ireturn, 1) ∧ 14 + 1 = 15 := ⟨by decide +kernel, rfl⟩
theorem dX9_spareAt_0 : decode cX9_spareAt 0 = .ok (.aload_n 0, 1) ∧ 0 + 1 = 1 := ⟨by decide +kernel, rfl⟩
theorem dX9_spareAt_1 : decode cX9_spareAt 1 = .ok (.getfield 19, 3) ∧ 1 + 3 = 4 := ⟨by decide +kernel, rfl⟩
theorem dX9_spareAt_4 : decode cX9_spareAt 4 = .ok (.sipush 2134, 3) ∧ 4 + 3 = 7 := ⟨by decide +kernel, rfl⟩
theorem dX9_spareAt_7 : decode cX9_spareAt 7 = .ok (.iconst 3, 1) ∧ 7 + 1 = 8 := ⟨by decide +kernel, rfl⟩
theorem dX9_spareAt_8 : decode cX9_spareAt 8 = .ok (.iload_n 1, 1) ∧ 8 + 1 = 9 := ⟨by decide +kernel, rfl⟩
theorem dX9_spareAt_9 : decode cX9_spareAt 9 = .ok (.imul, 1) ∧ 9 + 1 = 10 := ⟨by decide +kernel, rfl⟩
theorem dX9_spareAt_10 : decode cX9_spareAt 10 = .ok (.iadd, 1) ∧ 10 + 1 = 11 := ⟨by decide +kernel, rfl⟩
theorem dX9_spareAt_11 : decode cX9_spareAt 11 = .ok (.iload_n 2, 1) ∧ 11 + 1 = 12 := ⟨by decide +kernel, rfl⟩
theorem dX9_spareAt_12 : decode cX9_spareAt 12 = .ok (.iadd, 1) ∧ 12 + 1 = 13 := ⟨by decide +kernel, rfl⟩
theorem dX9_spareAt_13 : decode cX9_spareAt 13 = .ok (.iaload, 1) ∧ 13 + 1 = 14 := ⟨by decide +kernel, rfl⟩
theorem dX9_spareAt_14 : decode cX9_spareAt 14 = .ok (.ireturn, 1) ∧ 14 + 1 = 15 := ⟨by decide +kernel, rfl⟩
theorem dX9_spareChild_0 : decode cX9_spareChild 0 = .ok (.iload_n 1, 1) ∧ 0 + 1 = 1 := ⟨by decide +kernel, rfl⟩
theorem dX9_spareChild_1 : decode cX9_spareChild 1 = .ok (.ifCond .ge 7, 3) ∧ 1 + 3 = 4 ∧ ((1 : Nat) : Int) + (7) = ((8 : Nat) : Int) := ⟨by decide +kernel, rfl, rfl⟩
theorem dX9_spareChild_4 : decode cX9_spareChild 4 = .ok (.iconst 0, 1) ∧ 4 + 1 = 5 := ⟨by decide +kernel, rfl⟩
theorem dX9_spareChild_5 : decode cX9_spareChild 5 = .ok (.goto 9, 3) ∧ 5 + 3 = 8 ∧ ((5 : Nat) : Int) + (9) = ((14 : Nat) : Int) := ⟨by decide +kernel, rfl, rfl⟩
theorem dX9_spareChild_8 : decode cX9_spareChild 8 = .ok (.aload_n 0, 1) ∧ 8 + 1 = 9 := ⟨by decide +kernel, rfl⟩
theorem dX9_spareChild_9 : decode cX9_spareChild 9 = .ok (.iload_n 1, 1) ∧ 9 + 1 = 10 := ⟨by decide +kernel, rfl⟩
theorem dX9_spareChild_10 : decode cX9_spareChild 10 = .ok (.iconst 1, 1) ∧ 10 + 1 = 11 := ⟨by decide +kernel, rfl⟩
theorem dX9_spareChild_11 : decode cX9_spareChild 11 = .ok (.invokevirtual 68, 3) ∧ 11 + 3 = 14 := ⟨by decide +kernel, rfl⟩
theorem dX9_spareChild_14 : decode cX9_spareChild 14 = .ok (.istore_n 3, 1) ∧ 14 + 1 = 15 := ⟨by decide +kernel, rfl⟩
theorem dX9_spareChild_15 : decode cX9_spareChild 15 = .ok (.iload_n 1, 1) ∧ 15 + 1 = 16 := ⟨by decide +kernel, rfl⟩
theorem dX9_spareChild_16 : decode cX9_spareChild 16 = .ok (.iconst 1, 1) ∧ 16 + 1 = 17 := ⟨by decide +kernel, rfl⟩
theorem dX9_spareChild_17 : decode cX9_spareChild 17 = .ok (.iadd, 1) ∧ 17 + 1 = 18 := ⟨by decide +kernel, rfl⟩
theorem dX9_spareChild_18 : decode cX9_spareChild 18 = .ok (.istore 4, 2) ∧ 18 + 2 = 20 := ⟨by decide +kernel, rfl⟩
theorem dX9_spareChild_20 : decode cX9_spareChild 20 = .ok (.iload 4, 2) ∧ 20 + 2 = 22 := ⟨by decide +kernel, rfl⟩
theorem dX9_spareChild_22 : decode cX9_spareChild 22 = .ok (.aload_n 0, 1) ∧ 22 + 1 = 23 := ⟨by decide +kernel, rfl⟩
theorem dX9_spareChild_23 : decode cX9_spareChild 23 = .ok (.getfield 19, 3) ∧ 23 + 3 = 26 := ⟨by decide +kernel, rfl⟩
theorem dX9_spareChild_26 : decode cX9_spareChild 26 = .ok (.iconst 1, 1) ∧ 26 + 1 = 27 := ⟨by decide +kernel, rfl⟩
theorem dX9_spareChild_27 : decode cX9_spareChild 27 = .ok (.iaload, 1) ∧ 27 + 1 = 28 := ⟨by decide +kernel, rfl⟩
theorem dX9_spareChild_28 : decode cX9_spareChild 28 = .ok (.if_icmp .ge 47, 3) ∧ 28 + 3 = 31 ∧ ((28 : Nat) : Int) + (47) = ((75 : Nat) : Int) := ⟨by decide +kernel, rfl, rfl⟩
theorem dX9_spareChild_31 : decode cX9_spareChild 31 = .ok (.aload_n 0, 1) ∧ 31 + 1 = 32 := ⟨by decide +kernel, rfl⟩
theorem dX9_spareChild_32 : decode cX9_spareChild 32 = .ok (.iload 4, 2) ∧ 32 + 2 = 34 := ⟨by decide +kernel, rfl⟩
theorem dX9_spareChild_34 : decode cX9_spareChild 34 = .ok (.iconst 1, 1) ∧ 34 + 1 = 35 := ⟨by decide +kernel, rfl⟩
theorem dX9_spareChild_35 : decode cX9_spareChild 35 = .ok (.invokevirtual 68, 3) ∧ 35 + 3 = 38 := ⟨by decide +kernel, rfl⟩
theorem dX9_spareChild_38 : decode cX9_spareChild 38 = .ok (.iload_n 3, 1) ∧ 38 + 1 = 39 := ⟨by decide +kernel, rfl⟩
theorem dX9_spareChild_39 : decode cX9_spareChild 39 = .ok (.if_icmp .le 36, 3) ∧ 39 + 3 = 42 ∧ ((39 : Nat) : Int) + (36) = ((75 : Nat) : Int) := ⟨by decide +kernel, rfl, rfl⟩
theorem dX9_spareChild_42 : decode cX9_spareChild 42 = .ok (.aload_n 0, 1) ∧ 42 + 1 = 43 := ⟨by decide +kernel, rfl⟩
theorem dX9_spareChild_43 : decode cX9_spareChild 43 = .ok (.iload 4, 2) ∧ 43 + 2 = 45 := ⟨by decide +kernel, rfl⟩
theorem dX9_spareChild_45 : decode cX9_spareChild 45 = .ok (.iconst 1, 1) ∧ 45 + 1 = 46 := ⟨by decide +kernel, rfl⟩
theorem dX9_spareChild_46 : decode cX9_spareChild 46 = .ok (.invokevirtual 68, 3) ∧ 46 + 3 = 49 := ⟨by decide +kernel, rfl⟩
theorem dX9_spareChild_49 : decode cX9_spareChild 49 = .ok (.iload_n 3, 1) ∧ 49 + 1 = 50 := ⟨by decide +kernel, rfl⟩
theorem dX9_spareChild_50 : decode cX9_spareChild 50 = .ok (.iconst 1, 1) ∧ 50 + 1 = 51 := ⟨by decide +kernel, rfl⟩
theorem dX9_spareChild_51 : decode cX9_spareChild 51 = .ok (.iadd, 1) ∧ 51 + 1 = 52 := ⟨by decide +kernel, rfl⟩
theorem dX9_spareChild_52 : decode cX9_spareChild 52 = .ok (.if_icmp .ne 17, 3) ∧ 52 + 3 = 55 ∧ ((52 : Nat) : Int) + (17) = ((69 : Nat) : Int) := ⟨by decide +kernel, rfl, rfl⟩
theorem dX9_spareChild_55 : decode cX9_spareChild 55 = .ok (.aload_n 0, 1) ∧ 55 + 1 = 56 := ⟨by decide +kernel, rfl⟩
theorem dX9_spareChild_56 : decode cX9_spareChild 56 = .ok (.iload 4, 2) ∧ 56 + 2 = 58 := ⟨by decide +kernel, rfl⟩
theorem dX9_spareChild_58 : decode cX9_spareChild 58 = .ok (.iconst 0, 1) ∧ 58 + 1 = 59 := ⟨by decide +kernel, rfl⟩
theorem dX9_spareChild_59 : decode cX9_spareChild 59 = .ok (.invokevirtual 68, 3) ∧ 59 + 3 = 62 := ⟨by decide +kernel, rfl⟩
theorem dX9_spareChild_62 : decode cX9_spareChild 62 = .ok (.iload_n 2, 1) ∧ 62 + 1 = 63 := ⟨by decide +kernel, rfl⟩
theorem dX9_spareChild_63 : decode cX9_spareChild 63 = .ok (.if_icmp .ne 6, 3) ∧ 63 + 3 = 66 ∧ ((63 : Nat) : Int) + (6) = ((69 : Nat) : Int) := ⟨by decide +kernel, rfl, rfl⟩
theorem dX9_spareChild_66 : decode cX9_spareChild 66 = .ok (.iload 4, 2) ∧ 66 + 2 = 68 := ⟨by decide +kernel, rfl⟩
theorem dX9_spareChild_68 : decode cX9_spareChild 68 = .ok (.ireturn, 1) ∧ 68 + 1 = 69 := ⟨by decide +kernel, rfl⟩
theorem dX9_spareChild_69 : decode cX9_spareChild 69 = .ok (.iinc 4 1, 3) ∧ 69 + 3 = 72 := ⟨by decide +kernel, rfl⟩
theorem dX9_spareChild_72 : decode cX9_spareChild 72 = .ok (.goto (-52), 3) ∧ 72 + 3 = 75 ∧ ((72 : Nat) : Int) + (-52) = ((20 : Nat) : Int) := ⟨by decide +kernel, rfl, rfl⟩
theorem dX9_spareChild_75 : decode cX9_spareChild 75 = .ok (.bipush (-6), 2) ∧ 75 + 2 = 77 := ⟨by decide +kernel, rfl⟩
theorem dX9_spareChild_77 : decode cX9_spareChild 77 = .ok (.ireturn, 1) ∧ 77 + 1 = 78 := ⟨by decide +kernel, rfl⟩
theorem dX9_layPlaces_0 : decode cX9_layPlaces 0 = .ok (.iconst 0, 1) ∧ 0 + 1 = 1 := ⟨by decide +kernel, rfl⟩
theorem dX9_layPlaces_1 : decode cX9_layPlaces 1 = .ok (.istore_n 1, 1) ∧ 1 + 1 = 2 := ⟨by decide +kernel, rfl⟩
theorem dX9_layPlaces_2 : decode cX9_layPlaces 2 = .ok (.iconst 0, 1) ∧ 2 + 1 = 3 := ⟨by decide +kernel, rfl⟩
theorem dX9_layPlaces_3 : decode cX9_layPlaces 3 = .ok (.istore_n 2, 1) ∧ 3 + 1 = 4 := ⟨by decide +kernel, rfl⟩
theorem dX9_layPlaces_4 : decode cX9_layPlaces 4 = .ok (.aload_n 0, 1) ∧ 4 + 1 = 5 := ⟨by decide +kernel, rfl⟩
theorem dX9_layPlaces_5 : decode cX9_layPlaces 5 = .ok (.getfield 25, 3) ∧ 5 + 3 = 8 := ⟨by decide +kernel, rfl⟩
theorem dX9_layPlaces_8 : decode cX9_layPlaces 8 = .ok (.iconst 0, 1) ∧ 8 + 1 = 9 := ⟨by decide +kernel, rfl⟩
theorem dX9_layPlaces_9 : decode cX9_layPlaces 9 = .ok (.iconst 0, 1) ∧ 9 + 1 = 10 := ⟨by decide +kernel, rfl⟩
theorem dX9_layPlaces_10 : decode cX9_layPlaces 10 = .ok (.iastore, 1) ∧ 10 + 1 = 11 := ⟨by decide +kernel, rfl⟩
theorem dX9_layPlaces_11 : decode cX9_layPlaces 11 = .ok (.aload_n 0, 1) ∧ 11 + 1 = 12 := ⟨by decide +kernel, rfl⟩
theorem dX9_layPlaces_12 : decode cX9_layPlaces 12 = .ok (.getfield 22, 3) ∧ 12 + 3 = 15 := ⟨by decide +kernel, rfl⟩
theorem dX9_layPlaces_15 : decode cX9_layPlaces 15 = .ok (.iconst 0, 1) ∧ 15 + 1 = 16 := ⟨by decide +kernel, rfl⟩
theorem dX9_layPlaces_16 : decode cX9_layPlaces 16 = .ok (.iconst 0, 1) ∧ 16 + 1 = 17 := ⟨by decide +kernel, rfl⟩
theorem dX9_layPlaces_17 : decode cX9_layPlaces 17 = .ok (.iastore, 1) ∧ 17 + 1 = 18 := ⟨by decide +kernel, rfl⟩
theorem dX9_layPlaces_18 : decode cX9_layPlaces 18 = .ok (.aload_n 0, 1) ∧ 18 + 1 = 19 := ⟨by decide +kernel, rfl⟩
theorem dX9_layPlaces_19 : decode cX9_layPlaces 19 = .ok (.getfield 28, 3) ∧ 19 + 3 = 22 := ⟨by decide +kernel, rfl⟩
theorem dX9_layPlaces_22 : decode cX9_layPlaces 22 = .ok (.iconst 0, 1) ∧ 22 + 1 = 23 := ⟨by decide +kernel, rfl⟩
theorem dX9_layPlaces_23 : decode cX9_layPlaces 23 = .ok (.iconst (-1), 1) ∧ 23 + 1 = 24 := ⟨by decide +kernel, rfl⟩
theorem dX9_layPlaces_24 : decode cX9_layPlaces 24 = .ok (.iastore, 1) ∧ 24 + 1 = 25 := ⟨by decide +kernel, rfl⟩
theorem dX9_layPlaces_25 : decode cX9_layPlaces 25 = .ok (.iload_n 2, 1) ∧ 25 + 1 = 26 := ⟨by decide +kernel, rfl⟩
theorem dX9_layPlaces_26 : decode cX9_layPlaces 26 = .ok (.ifCond .lt 187, 3) ∧ 26 + 3 = 29 ∧ ((26 : Nat) : Int) + (187) = ((213 : Nat) : Int) := ⟨by decide +kernel, rfl, rfl⟩
theorem dX9_layPlaces_29 : decode cX9_layPlaces 29 = .ok (.aload_n 0, 1) ∧ 29 + 1 = 30 := ⟨by decide +kernel, rfl⟩
theorem dX9_layPlaces_30 : decode cX9_layPlaces 30 = .ok (.getfield 22, 3) ∧ 30 + 3 = 33 := ⟨by decide +kernel, rfl⟩
theorem dX9_layPlaces_33 : decode cX9_layPlaces 33 = .ok (.iload_n 2, 1) ∧ 33 + 1 = 34 := ⟨by decide +kernel, rfl⟩
theorem dX9_layPlaces_34 : decode cX9_layPlaces 34 = .ok (.iaload, 1) ∧ 34 + 1 = 35 := ⟨by decide +kernel, rfl⟩
theorem dX9_layPlaces_35 : decode cX9_layPlaces 35 = .ok (.aload_n 0, 1) ∧ 35 + 1 = 36 := ⟨by decide +kernel, rfl⟩
theorem dX9_layPlaces_36 : decode cX9_layPlaces 36 = .ok (.aload_n 0, 1) ∧ 36 + 1 = 37 := ⟨by decide +kernel, rfl⟩
theorem dX9_layPlaces_37 : decode cX9_layPlaces 37 = .ok (.getfield 25, 3) ∧ 37 + 3 = 40 := ⟨by decide +kernel, rfl⟩
theorem dX9_layPlaces_40 : decode cX9_layPlaces 40 = .ok (.iload_n 2, 1) ∧ 40 + 1 = 41 := ⟨by decide +kernel, rfl⟩
theorem dX9_layPlaces_41 : decode cX9_layPlaces 41 = .ok (.iaload, 1) ∧ 41 + 1 = 42 := ⟨by decide +kernel, rfl⟩
theorem dX9_layPlaces_42 : decode cX9_layPlaces 42 = .ok (.bipush 11, 2) ∧ 42 + 2 = 44 := ⟨by decide +kernel, rfl⟩
theorem dX9_layPlaces_44 : decode cX9_layPlaces 44 = .ok (.invokevirtual 64, 3) ∧ 44 + 3 = 47 := ⟨by decide +kernel, rfl⟩
theorem dX9_layPlaces_47 : decode cX9_layPlaces 47 = .ok (.if_icmp .ne 9, 3) ∧ 47 + 3 = 50 ∧ ((47 : Nat) : Int) + (9) = ((56 : Nat) : Int) := ⟨by decide +kernel, rfl, rfl⟩
theorem dX9_layPlaces_50 : decode cX9_layPlaces 50 = .ok (.iinc 2 (-1), 3) ∧ 50 + 3 = 53 := ⟨by decide +kernel, rfl⟩
theorem dX9_layPlaces_53 : decode cX9_layPlaces 53 = .ok (.goto (-28), 3) ∧ 53 + 3 = 56 ∧ ((53 : Nat) : Int) + (-28) = ((25 : Nat) : Int) := ⟨by decide +kernel, rfl, rfl⟩
theorem dX9_layPlaces_56 : decode cX9_layPlaces 56 = .ok (.iload_n 1, 1) ∧ 56 + 1 = 57 := ⟨by decide +kernel, rfl⟩
theorem dX9_layPlaces_57 : decode cX9_layPlaces 57 = .ok (.bipush 120, 2) ∧ 57 + 2 = 59 := ⟨by decide +kernel, rfl⟩
theorem dX9_layPlaces_59 : decode cX9_layPlaces 59 = .ok (.if_icmp .ne 5, 3) ∧ 59 + 3 = 62 ∧ ((59 : Nat) : Int) + (5) = ((64 : Nat) : Int) := ⟨by decide +kernel, rfl, rfl⟩
theorem dX9_layPlaces_62 : decode cX9_layPlaces 62 = .ok (.iconst 0, 1) ∧ 62 + 1 = 63 := ⟨by decide +kernel, rfl⟩
theorem dX9_layPlaces_63 : decode cX9_layPlaces 63 = .ok (.ireturn, 1) ∧ 63 + 1 = 64 := ⟨by decide +kernel, rfl⟩
theorem dX9_layPlaces_64 : decode cX9_layPlaces 64 = .ok (.aload_n 0, 1) ∧ 64 + 1 = 65 := ⟨by decide +kernel, rfl⟩
theorem dX9_layPlaces_65 : decode cX9_layPlaces 65 = .ok (.aload_n 0, 1) ∧ 65 + 1 = 66 := ⟨by decide +kernel, rfl⟩
theorem dX9_layPlaces_66 : decode cX9_layPlaces 66 = .ok (.getfield 25, 3) ∧ 66 + 3 = 69 := ⟨by decide +kernel, rfl⟩
theorem dX9_layPlaces_69 : decode cX9_layPlaces 69 = .ok (.iload_n 2, 1) ∧ 69 + 1 = 70 := ⟨by decide +kernel, rfl⟩
theorem dX9_layPlaces_70 : decode cX9_layPlaces 70 = .ok (.iaload, 1) ∧ 70 + 1 = 71 := ⟨by decide +kernel, rfl⟩
theorem dX9_layPlaces_71 : decode cX9_layPlaces 71 = .ok (.aload_n 0, 1) ∧ 71 + 1 = 72 := ⟨by decide +kernel, rfl⟩
theorem dX9_layPlaces_72 : decode cX9_layPlaces 72 = .ok (.getfield 22, 3) ∧ 72 + 3 = 75 := ⟨by decide +kernel, rfl⟩
theorem dX9_layPlaces_75 : decode cX9_layPlaces 75 = .ok (.iload_n 2, 1) ∧ 75 + 1 = 76 := ⟨by decide +kernel, rfl⟩
theorem dX9_layPlaces_76 : decode cX9_layPlaces 76 = .ok (.iaload, 1) ∧ 76 + 1 = 77 := ⟨by decide +kernel, rfl⟩
theorem dX9_layPlaces_77 : decode cX9_layPlaces 77 = .ok (.invokevirtual 71, 3) ∧ 77 + 3 = 80 := ⟨by decide +kernel, rfl⟩
theorem dX9_layPlaces_80 : decode cX9_layPlaces 80 = .ok (.istore_n 3, 1) ∧ 80 + 1 = 81 := ⟨by decide +kernel, rfl⟩
theorem dX9_layPlaces_81 : decode cX9_layPlaces 81 = .ok (.aload_n 0, 1) ∧ 81 + 1 = 82 := ⟨by decide +kernel, rfl⟩
theorem dX9_layPlaces_82 : decode cX9_layPlaces 82 = .ok (.getfield 28, 3) ∧ 82 + 3 = 85 := ⟨by decide +kernel, rfl⟩
theorem dX9_layPlaces_85 : decode cX9_layPlaces 85 = .ok (.iload_n 2, 1) ∧ 85 + 1 = 86 := ⟨by decide +kernel, rfl⟩
theorem dX9_layPlaces_86 : decode cX9_layPlaces 86 = .ok (.iaload, 1) ∧ 86 + 1 = 87 := ⟨by decide +kernel, rfl⟩
theorem dX9_layPlaces_87 : decode cX9_layPlaces 87 = .ok (.bipush (-6), 2) ∧ 87 + 2 = 89 := ⟨by decide +kernel, rfl⟩
theorem dX9_layPlaces_89 : decode cX9_layPlaces 89 = .ok (.if_icmp .ne 8, 3) ∧ 89 + 3 = 92 ∧ ((89 : Nat) : Int) + (8) = ((97 : Nat) : Int) := ⟨by decide +kernel, rfl, rfl⟩
theorem dX9_layPlaces_92 : decode cX9_layPlaces 92 = .ok (.bipush (-6), 2) ∧ 92 + 2 = 94 := ⟨by decide +kernel, rfl⟩
theorem dX9_layPlaces_94 : decode cX9_layPlaces 94 = .ok (.goto 14, 3) ∧ 94 + 3 = 97 ∧ ((94 : Nat) : Int) + (14) = ((108 : Nat) : Int) := ⟨by decide +kernel, rfl, rfl⟩
theorem dX9_layPlaces_97 : decode cX9_layPlaces 97 = .ok (.aload_n 0, 1) ∧ 97 + 1 = 98 := ⟨by decide +kernel, rfl⟩
theorem dX9_layPlaces_98 : decode cX9_layPlaces 98 = .ok (.aload_n 0, 1) ∧ 98 + 1 = 99 := ⟨by decide +kernel, rfl⟩
theorem dX9_layPlaces_99 : decode cX9_layPlaces 99 = .ok (.getfield 28, 3) ∧ 99 + 3 = 102 := ⟨by decide +kernel, rfl⟩
theorem dX9_layPlaces_102 : decode cX9_layPlaces 102 = .ok (.iload_n 2, 1) ∧ 102 + 1 = 103 := ⟨by decide +kernel, rfl⟩
theorem dX9_layPlaces_103 : decode cX9_layPlaces 103 = .ok (.iaload, 1) ∧ 103 + 1 = 104 := ⟨by decide +kernel, rfl⟩
theorem dX9_layPlaces_104 : decode cX9_layPlaces 104 = .ok (.iload_n 3, 1) ∧ 104 + 1 = 105 := ⟨by decide +kernel, rfl⟩
theorem dX9_layPlaces_105 : decode cX9_layPlaces 105 = .ok (.invokevirtual 74, 3) ∧ 105 + 3 = 108 := ⟨by decide +kernel, rfl⟩
theorem dX9_layPlaces_108 : decode cX9_layPlaces 108 = .ok (.istore 4, 2) ∧ 108 + 2 = 110 := ⟨by decide +kernel, rfl⟩
theorem dX9_layPlaces_110 : decode cX9_layPlaces 110 = .ok (.aload_n 0, 1) ∧ 110 + 1 = 111 := ⟨by decide +kernel, rfl⟩
theorem dX9_layPlaces_111 : decode cX9_layPlaces 111 = .ok (.getfield 22, 3) ∧ 111 + 3 = 114 := ⟨by decide +kernel, rfl⟩
theorem dX9_layPlaces_114 : decode cX9_layPlaces 114 = .ok (.iload_n 2, 1) ∧ 114 + 1 = 115 := ⟨by decide +kernel, rfl⟩
theorem dX9_layPlaces_115 : decode cX9_layPlaces 115 = .ok (.dup2, 1) ∧ 115 + 1 = 116 := ⟨by decide +kernel, rfl⟩
theorem dX9_layPlaces_116 : decode cX9_layPlaces 116 = .ok (.iaload, 1) ∧ 116 + 1 = 117 := ⟨by decide +kernel, rfl⟩
theorem dX9_layPlaces_117 : decode cX9_layPlaces 117 = .ok (.iconst 1, 1) ∧ 117 + 1 = 118 := ⟨by decide +kernel, rfl⟩
theorem dX9_layPlaces_118 : decode cX9_layPlaces 118 = .ok (.iadd, 1) ∧ 118 + 1 = 119 := ⟨by decide +kernel, rfl⟩
theorem dX9_layPlaces_119 : decode cX9_layPlaces 119 = .ok (.iastore, 1) ∧ 119 + 1 = 120 := ⟨by decide +kernel, rfl⟩
theorem dX9_layPlaces_120 : decode cX9_layPlaces 120 = .ok (.iinc 2 1, 3) ∧ 120 + 3 = 123 := ⟨by decide +kernel, rfl⟩
theorem dX9_layPlaces_123 : decode cX9_layPlaces 123 = .ok (.aload_n 0, 1) ∧ 123 + 1 = 124 := ⟨by decide +kernel, rfl⟩
theorem dX9_layPlaces_124 : decode cX9_layPlaces 124 = .ok (.getfield 25, 3) ∧ 124 + 3 = 127 := ⟨by decide +kernel, rfl⟩
theorem dX9_layPlaces_127 : decode cX9_layPlaces 127 = .ok (.iload_n 2, 1) ∧ 127 + 1 = 128 := ⟨by decide +kernel, rfl⟩
theorem dX9_layPlaces_128 : decode cX9_layPlaces 128 = .ok (.iload_n 3, 1) ∧ 128 + 1 = 129 := ⟨by decide +kernel, rfl⟩
theorem dX9_layPlaces_129 : decode cX9_layPlaces 129 = .ok (.iastore, 1) ∧ 129 + 1 = 130 := ⟨by decide +kernel, rfl⟩
theorem dX9_layPlaces_130 : decode cX9_layPlaces 130 = .ok (.aload_n 0, 1) ∧ 130 + 1 = 131 := ⟨by decide +kernel, rfl⟩
theorem dX9_layPlaces_131 : decode cX9_layPlaces 131 = .ok (.getfield 22, 3) ∧ 131 + 3 = 134 := ⟨by decide +kernel, rfl⟩
theorem dX9_layPlaces_134 : decode cX9_layPlaces 134 = .ok (.iload_n 2, 1) ∧ 134 + 1 = 135 := ⟨by decide +kernel, rfl⟩
theorem dX9_layPlaces_135 : decode cX9_layPlaces 135 = .ok (.iconst 0, 1) ∧ 135 + 1 = 136 := ⟨by decide +kernel, rfl⟩
theorem dX9_layPlaces_136 : decode cX9_layPlaces 136 = .ok (.iastore, 1) ∧ 136 + 1 = 137 := ⟨by decide +kernel, rfl⟩
theorem dX9_layPlaces_137 : decode cX9_layPlaces 137 = .ok (.aload_n 0, 1) ∧ 137 + 1 = 138 := ⟨by decide +kernel, rfl⟩
theorem dX9_layPlaces_138 : decode cX9_layPlaces 138 = .ok (.getfield 28, 3) ∧ 138 + 3 = 141 := ⟨by decide +kernel, rfl⟩
theorem dX9_layPlaces_141 : decode cX9_layPlaces 141 = .ok (.iload_n 2, 1) ∧ 141 + 1 = 142 := ⟨by decide +kernel, rfl⟩
theorem dX9_layPlaces_142 : decode cX9_layPlaces 142 = .ok (.iload 4, 2) ∧ 142 + 2 = 144 := ⟨by decide +kernel, rfl⟩
theorem dX9_layPlaces_144 : decode cX9_layPlaces 144 = .ok (.iastore, 1) ∧ 144 + 1 = 145 := ⟨by decide +kernel, rfl⟩
theorem dX9_layPlaces_145 : decode cX9_layPlaces 145 = .ok (.aload_n 0, 1) ∧ 145 + 1 = 146 := ⟨by decide +kernel, rfl⟩
theorem dX9_layPlaces_146 : decode cX9_layPlaces 146 = .ok (.getfield 7, 3) ∧ 146 + 3 = 149 := ⟨by decide +kernel, rfl⟩
theorem dX9_layPlaces_149 : decode cX9_layPlaces 149 = .ok (.sipush 2134, 3) ∧ 149 + 3 = 152 := ⟨by decide +kernel, rfl⟩
theorem dX9_layPlaces_152 : decode cX9_layPlaces 152 = .ok (.iconst 3, 1) ∧ 152 + 1 = 153 := ⟨by decide +kernel, rfl⟩
theorem dX9_layPlaces_153 : decode cX9_layPlaces 153 = .ok (.iload_n 1, 1) ∧ 153 + 1 = 154 := ⟨by decide +kernel, rfl⟩
theorem dX9_layPlaces_154 : decode cX9_layPlaces 154 = .ok (.imul, 1) ∧ 154 + 1 = 155 := ⟨by decide +kernel, rfl⟩
theorem dX9_layPlaces_155 : decode cX9_layPlaces 155 = .ok (.iadd, 1) ∧ 155 + 1 = 156 := ⟨by decide +kernel, rfl⟩
theorem dX9_layPlaces_156 : decode cX9_layPlaces 156 = .ok (.iconst 0, 1) ∧ 156 + 1 = 157 := ⟨by decide +kernel, rfl⟩
theorem dX9_layPlaces_157 : decode cX9_layPlaces 157 = .ok (.iadd, 1) ∧ 157 + 1 = 158 := ⟨by decide +kernel, rfl⟩
theorem dX9_layPlaces_158 : decode cX9_layPlaces 158 = .ok (.iload_n 3, 1) ∧ 158 + 1 = 159 := ⟨by decide +kernel, rfl⟩
theorem dX9_layPlaces_159 : decode cX9_layPlaces 159 = .ok (.iastore, 1) ∧ 159 + 1 = 160 := ⟨by decide +kernel, rfl⟩
theorem dX9_layPlaces_160 : decode cX9_layPlaces 160 = .ok (.aload_n 0, 1) ∧ 160 + 1 = 161 := ⟨by decide +kernel, rfl⟩
theorem dX9_layPlaces_161 : decode cX9_layPlaces 161 = .ok (.getfield 7, 3) ∧ 161 + 3 = 164 := ⟨by decide +kernel, rfl⟩
theorem dX9_layPlaces_164 : decode cX9_layPlaces 164 = .ok (.sipush 2134, 3) ∧ 164 + 3 = 167 := ⟨by decide +kernel, rfl⟩
theorem dX9_layPlaces_167 : decode cX9_layPlaces 167 = .ok (.iconst 3, 1) ∧ 167 + 1 = 168 := ⟨by decide +kernel, rfl⟩
theorem dX9_layPlaces_168 : decode cX9_layPlaces 168 = .ok (.iload_n 1, 1) ∧ 168 + 1 = 169 := ⟨by decide +kernel, rfl⟩
theorem dX9_layPlaces_169 : decode cX9_layPlaces 169 = .ok (.imul, 1) ∧ 169 + 1 = 170 := ⟨by decide +kernel, rfl⟩
theorem dX9_layPlaces_170 : decode cX9_layPlaces 170 = .ok (.iadd, 1) ∧ 170 + 1 = 171 := ⟨by decide +kernel, rfl⟩
theorem dX9_layPlaces_171 : decode cX9_layPlaces 171 = .ok (.iconst 1, 1) ∧ 171 + 1 = 172 := ⟨by decide +kernel, rfl⟩
theorem dX9_layPlaces_172 : decode cX9_layPlaces 172 = .ok (.iadd, 1) ∧ 172 + 1 = 173 := ⟨by decide +kernel, rfl⟩
theorem dX9_layPlaces_173 : decode cX9_layPlaces 173 = .ok (.iload_n 2, 1) ∧ 173 + 1 = 174 := ⟨by decide +kernel, rfl⟩
theorem dX9_layPlaces_174 : decode cX9_layPlaces 174 = .ok (.iastore, 1) ∧ 174 + 1 = 175 := ⟨by decide +kernel, rfl⟩
theorem dX9_layPlaces_175 : decode cX9_layPlaces 175 = .ok (.aload_n 0, 1) ∧ 175 + 1 = 176 := ⟨by decide +kernel, rfl⟩
theorem dX9_layPlaces_176 : decode cX9_layPlaces 176 = .ok (.getfield 7, 3) ∧ 176 + 3 = 179 := ⟨by decide +kernel, rfl⟩
theorem dX9_layPlaces_179 : decode cX9_layPlaces 179 = .ok (.sipush 2134, 3) ∧ 179 + 3 = 182 := ⟨by decide +kernel, rfl⟩
theorem dX9_layPlaces_182 : decode cX9_layPlaces 182 = .ok (.iconst 3, 1) ∧ 182 + 1 = 183 := ⟨by decide +kernel, rfl⟩
theorem dX9_layPlaces_183 : decode cX9_layPlaces 183 = .ok (.iload_n 1, 1) ∧ 183 + 1 = 184 := ⟨by decide +kernel, rfl⟩
theorem dX9_layPlaces_184 : decode cX9_layPlaces 184 = .ok (.imul, 1) ∧ 184 + 1 = 185 := ⟨by decide +kernel, rfl⟩
theorem dX9_layPlaces_185 : decode cX9_layPlaces 185 = .ok (.iadd, 1) ∧ 185 + 1 = 186 := ⟨by decide +kernel, rfl⟩
theorem dX9_layPlaces_186 : decode cX9_layPlaces 186 = .ok (.iconst 2, 1) ∧ 186 + 1 = 187 := ⟨by decide +kernel, rfl⟩
theorem dX9_layPlaces_187 : decode cX9_layPlaces 187 = .ok (.iadd, 1) ∧ 187 + 1 = 188 := ⟨by decide +kernel, rfl⟩
theorem dX9_layPlaces_188 : decode cX9_layPlaces 188 = .ok (.iload 4, 2) ∧ 188 + 2 = 190 := ⟨by decide +kernel, rfl⟩
theorem dX9_layPlaces_190 : decode cX9_layPlaces 190 = .ok (.bipush (-6), 2) ∧ 190 + 2 = 192 := ⟨by decide +kernel, rfl⟩
theorem dX9_layPlaces_192 : decode cX9_layPlaces 192 = .ok (.if_icmp .ne 7, 3) ∧ 192 + 3 = 195 ∧ ((192 : Nat) : Int) + (7) = ((199 : Nat) : Int) := ⟨by decide +kernel, rfl, rfl⟩
theorem dX9_layPlaces_195 : decode cX9_layPlaces 195 = .ok (.iconst 0, 1) ∧ 195 + 1 = 196 := ⟨by decide +kernel, rfl⟩
theorem dX9_layPlaces_196 : decode cX9_layPlaces 196 = .ok (.goto 10, 3) ∧ 196 + 3 = 199 ∧ ((196 : Nat) : Int) + (10) = ((206 : Nat) : Int) := ⟨by decide +kernel, rfl, rfl⟩
theorem dX9_layPlaces_199 : decode cX9_layPlaces 199 = .ok (.aload_n 0, 1) ∧ 199 + 1 = 200 := ⟨by decide +kernel, rfl⟩
theorem dX9_layPlaces_200 : decode cX9_layPlaces 200 = .ok (.iload 4, 2) ∧ 200 + 2 = 202 := ⟨by decide +kernel, rfl⟩
theorem dX9_layPlaces_202 : decode cX9_layPlaces 202 = .ok (.iconst 2, 1) ∧ 202 + 1 = 203 := ⟨by decide +kernel, rfl⟩
theorem dX9_layPlaces_203 : decode cX9_layPlaces 203 = .ok (.invokevirtual 68, 3) ∧ 203 + 3 = 206 := ⟨by decide +kernel, rfl⟩
theorem dX9_layPlaces_206 : decode cX9_layPlaces 206 = .ok (.iastore, 1) ∧ 206 + 1 = 207 := ⟨by decide +kernel, rfl⟩
theorem dX9_layPlaces_207 : decode cX9_layPlaces 207 = .ok (.iinc 1 1, 3) ∧ 207 + 3 = 210 := ⟨by decide +kernel, rfl⟩
theorem dX9_layPlaces_210 : decode cX9_layPlaces 210 = .ok (.goto (-185), 3) ∧ 210 + 3 = 213 ∧ ((210 : Nat) : Int) + (-185) = ((25 : Nat) : Int) := ⟨by decide +kernel, rfl, rfl⟩
theorem dX9_layPlaces_213 : decode cX9_layPlaces 213 = .ok (.aload_n 0, 1) ∧ 213 + 1 = 214 := ⟨by decide +kernel, rfl⟩
theorem dX9_layPlaces_214 : decode cX9_layPlaces 214 = .ok (.getfield 7, 3) ∧ 214 + 3 = 217 := ⟨by decide +kernel, rfl⟩
theorem dX9_layPlaces_217 : decode cX9_layPlaces 217 = .ok (.iconst 1, 1) ∧ 217 + 1 = 218 := ⟨by decide +kernel, rfl⟩
theorem dX9_layPlaces_218 : decode cX9_layPlaces 218 = .ok (.iload_n 1, 1) ∧ 218 + 1 = 219 := ⟨by decide +kernel, rfl⟩
theorem dX9_layPlaces_219 : decode cX9_layPlaces 219 = .ok (.iastore, 1) ∧ 219 + 1 = 220 := ⟨by decide +kernel, rfl⟩
theorem dX9_layPlaces_220 : decode cX9_layPlaces 220 = .ok (.iconst 1, 1) ∧ 220 + 1 = 221 := ⟨by decide +kernel, rfl⟩
theorem dX9_layPlaces_221 : decode cX9_layPlaces 221 = .ok (.ireturn, 1) ∧ 221 + 1 = 222 := ⟨by decide +kernel, rfl⟩
theorem dX9_placesOf_0 : decode cX9_placesOf 0 = .ok (.iconst 0, 1) ∧ 0 + 1 = 1 := ⟨by decide +kernel, rfl⟩
theorem dX9_placesOf_1 : decode cX9_placesOf 1 = .ok (.istore_n 2, 1) ∧ 1 + 1 = 2 := ⟨by decide +kernel, rfl⟩
theorem dX9_placesOf_2 : decode cX9_placesOf 2 = .ok (.iconst 0, 1) ∧ 2 + 1 = 3 := ⟨by decide +kernel, rfl⟩
theorem dX9_placesOf_3 : decode cX9_placesOf 3 = .ok (.istore_n 3, 1) ∧ 3 + 1 = 4 := ⟨by decide +kernel, rfl⟩
theorem dX9_placesOf_4 : decode cX9_placesOf 4 = .ok (.iload_n 3, 1) ∧ 4 + 1 = 5 := ⟨by decide +kernel, rfl⟩
theorem dX9_placesOf_5 : decode cX9_placesOf 5 = .ok (.aload_n 0, 1) ∧ 5 + 1 = 6 := ⟨by decide +kernel, rfl⟩
theorem dX9_placesOf_6 : decode cX9_placesOf 6 = .ok (.getfield 7, 3) ∧ 6 + 3 = 9 := ⟨by decide +kernel, rfl⟩
theorem dX9_placesOf_9 : decode cX9_placesOf 9 = .ok (.iconst 1, 1) ∧ 9 + 1 = 10 := ⟨by decide +kernel, rfl⟩
theorem dX9_placesOf_10 : decode cX9_placesOf 10 = .ok (.iaload, 1) ∧ 10 + 1 = 11 := ⟨by decide +kernel, rfl⟩
theorem dX9_placesOf_11 : decode cX9_placesOf 11 = .ok (.if_icmp .ge 27, 3) ∧ 11 + 3 = 14 ∧ ((11 : Nat) : Int) + (27) = ((38 : Nat) : Int) := ⟨by decide +kernel, rfl, rfl⟩
theorem dX9_placesOf_14 : decode cX9_placesOf 14 = .ok (.iload_n 2, 1) ∧ 14 + 1 = 15 := ⟨by decide +kernel, rfl⟩
theorem dX9_placesOf_15 : decode cX9_placesOf 15 = .ok (.aload_n 0, 1) ∧ 15 + 1 = 16 := ⟨by decide +kernel, rfl⟩
theorem dX9_placesOf_16 : decode cX9_placesOf 16 = .ok (.iload_n 3, 1) ∧ 16 + 1 = 17 := ⟨by decide +kernel, rfl⟩
theorem dX9_placesOf_17 : decode cX9_placesOf 17 = .ok (.iconst 0, 1) ∧ 17 + 1 = 18 := ⟨by decide +kernel, rfl⟩
theorem dX9_placesOf_18 : decode cX9_placesOf 18 = .ok (.invokevirtual 77, 3) ∧ 18 + 3 = 21 := ⟨by decide +kernel, rfl⟩
theorem dX9_placesOf_21 : decode cX9_placesOf 21 = .ok (.iload_n 1, 1) ∧ 21 + 1 = 22 := ⟨by decide +kernel, rfl⟩
theorem dX9_placesOf_22 : decode cX9_placesOf 22 = .ok (.if_icmp .ne 7, 3) ∧ 22 + 3 = 25 ∧ ((22 : Nat) : Int) + (7) = ((29 : Nat) : Int) := ⟨by decide +kernel, rfl, rfl⟩
theorem dX9_placesOf_25 : decode cX9_placesOf 25 = .ok (.iconst 1, 1) ∧ 25 + 1 = 26 := ⟨by decide +kernel, rfl⟩
theorem dX9_placesOf_26 : decode cX9_placesOf 26 = .ok (.goto 4, 3) ∧ 26 + 3 = 29 ∧ ((26 : Nat) : Int) + (4) = ((30 : Nat) : Int) := ⟨by decide +kernel, rfl, rfl⟩
theorem dX9_placesOf_29 : decode cX9_placesOf 29 = .ok (.iconst 0, 1) ∧ 29 + 1 = 30 := ⟨by decide +kernel, rfl⟩
theorem dX9_placesOf_30 : decode cX9_placesOf 30 = .ok (.iadd, 1) ∧ 30 + 1 = 31 := ⟨by decide +kernel, rfl⟩
theorem dX9_placesOf_31 : decode cX9_placesOf 31 = .ok (.istore_n 2, 1) ∧ 31 + 1 = 32 := ⟨by decide +kernel, rfl⟩
theorem dX9_placesOf_32 : decode cX9_placesOf 32 = .ok (.iinc 3 1, 3) ∧ 32 + 3 = 35 := ⟨by decide +kernel, rfl⟩
theorem dX9_placesOf_35 : decode cX9_placesOf 35 = .ok (.goto (-31), 3) ∧ 35 + 3 = 38 ∧ ((35 : Nat) : Int) + (-31) = ((4 : Nat) : Int) := ⟨by decide +kernel, rfl, rfl⟩
theorem dX9_placesOf_38 : decode cX9_placesOf 38 = .ok (.iload_n 2, 1) ∧ 38 + 1 = 39 := ⟨by decide +kernel, rfl⟩
theorem dX9_placesOf_39 : decode cX9_placesOf 39 = .ok (.ireturn, 1) ∧ 39 + 1 = 40 := ⟨by decide +kernel, rfl⟩
theorem dX9_isSeen_0 : decode cX9_isSeen 0 = .ok (.aload_n 0, 1) ∧ 0 + 1 = 1 := ⟨by decide +kernel, rfl⟩
theorem dX9_isSeen_1 : decode cX9_isSeen 1 = .ok (.iload_n 1, 1) ∧ 1 + 1 = 2 := ⟨by decide +kernel, rfl⟩
theorem dX9_isSeen_2 : decode cX9_isSeen 2 = .ok (.iconst 1, 1) ∧ 2 + 1 = 3 := ⟨by decide +kernel, rfl⟩
theorem dX9_isSeen_3 : decode cX9_isSeen 3 = .ok (.invokevirtual 77, 3) ∧ 3 + 3 = 6 := ⟨by decide +kernel, rfl⟩
theorem dX9_isSeen_6 : decode cX9_isSeen 6 = .ok (.istore_n 2, 1) ∧ 6 + 1 = 7 := ⟨by decide +kernel, rfl⟩
theorem dX9_isSeen_7 : decode cX9_isSeen 7 = .ok (.iload_n 1, 1) ∧ 7 + 1 = 8 := ⟨by decide +kernel, rfl⟩
theorem dX9_isSeen_8 : decode cX9_isSeen 8 = .ok (.iconst 1, 1) ∧ 8 + 1 = 9 := ⟨by decide +kernel, rfl⟩
theorem dX9_isSeen_9 : decode cX9_isSeen 9 = .ok (.isub, 1) ∧ 9 + 1 = 10 := ⟨by decide +kernel, rfl⟩
theorem dX9_isSeen_10 : decode cX9_isSeen 10 = .ok (.istore_n 3, 1) ∧ 10 + 1 = 11 := ⟨by decide +kernel, rfl⟩
theorem dX9_isSeen_11 : decode cX9_isSeen 11 = .ok (.iload_n 3, 1) ∧ 11 + 1 = 12 := ⟨by decide +kernel, rfl⟩
theorem dX9_isSeen_12 : decode cX9_isSeen 12 = .ok (.ifCond .lt 43, 3) ∧ 12 + 3 = 15 ∧ ((12 : Nat) : Int) + (43) = ((55 : Nat) : Int) := ⟨by decide +kernel, rfl, rfl⟩
theorem dX9_isSeen_15 : decode cX9_isSeen 15 = .ok (.iload_n 2, 1) ∧ 15 + 1 = 16 := ⟨by decide +kernel, rfl⟩
theorem dX9_isSeen_16 : decode cX9_isSeen 16 = .ok (.iconst 1, 1) ∧ 16 + 1 = 17 := ⟨by decide +kernel, rfl⟩
theorem dX9_isSeen_17 : decode cX9_isSeen 17 = .ok (.if_icmp .le 38, 3) ∧ 17 + 3 = 20 ∧ ((17 : Nat) : Int) + (38) = ((55 : Nat) : Int) := ⟨by decide +kernel, rfl, rfl⟩
theorem dX9_isSeen_20 : decode cX9_isSeen 20 = .ok (.aload_n 0, 1) ∧ 20 + 1 = 21 := ⟨by decide +kernel, rfl⟩
theorem dX9_isSeen_21 : decode cX9_isSeen 21 = .ok (.iload_n 3, 1) ∧ 21 + 1 = 22 := ⟨by decide +kernel, rfl⟩
theorem dX9_isSeen_22 : decode cX9_isSeen 22 = .ok (.iconst 1, 1) ∧ 22 + 1 = 23 := ⟨by decide +kernel, rfl⟩
theorem dX9_isSeen_23 : decode cX9_isSeen 23 = .ok (.invokevirtual 77, 3) ∧ 23 + 3 = 26 := ⟨by decide +kernel, rfl⟩
theorem dX9_isSeen_26 : decode cX9_isSeen 26 = .ok (.iload_n 2, 1) ∧ 26 + 1 = 27 := ⟨by decide +kernel, rfl⟩
theorem dX9_isSeen_27 : decode cX9_isSeen 27 = .ok (.if_icmp .ge 22, 3) ∧ 27 + 3 = 30 ∧ ((27 : Nat) : Int) + (22) = ((49 : Nat) : Int) := ⟨by decide +kernel, rfl, rfl⟩
theorem dX9_isSeen_30 : decode cX9_isSeen 30 = .ok (.aload_n 0, 1) ∧ 30 + 1 = 31 := ⟨by decide +kernel, rfl⟩
theorem dX9_isSeen_31 : decode cX9_isSeen 31 = .ok (.iload_n 3, 1) ∧ 31 + 1 = 32 := ⟨by decide +kernel, rfl⟩
theorem dX9_isSeen_32 : decode cX9_isSeen 32 = .ok (.iconst 2, 1) ∧ 32 + 1 = 33 := ⟨by decide +kernel, rfl⟩
theorem dX9_isSeen_33 : decode cX9_isSeen 33 = .ok (.invokevirtual 77, 3) ∧ 33 + 3 = 36 := ⟨by decide +kernel, rfl⟩
theorem dX9_isSeen_36 : decode cX9_isSeen 36 = .ok (.iconst 1, 1) ∧ 36 + 1 = 37 := ⟨by decide +kernel, rfl⟩
theorem dX9_isSeen_37 : decode cX9_isSeen 37 = .ok (.if_icmp .ne 5, 3) ∧ 37 + 3 = 40 ∧ ((37 : Nat) : Int) + (5) = ((42 : Nat) : Int) := ⟨by decide +kernel, rfl, rfl⟩
theorem dX9_isSeen_40 : decode cX9_isSeen 40 = .ok (.iconst 0, 1) ∧ 40 + 1 = 41 := ⟨by decide +kernel, rfl⟩
theorem dX9_isSeen_41 : decode cX9_isSeen 41 = .ok (.ireturn, 1) ∧ 41 + 1 = 42 := ⟨by decide +kernel, rfl⟩
theorem dX9_isSeen_42 : decode cX9_isSeen 42 = .ok (.aload_n 0, 1) ∧ 42 + 1 = 43 := ⟨by decide +kernel, rfl⟩
theorem dX9_isSeen_43 : decode cX9_isSeen 43 = .ok (.iload_n 3, 1) ∧ 43 + 1 = 44 := ⟨by decide +kernel, rfl⟩
theorem dX9_isSeen_44 : decode cX9_isSeen 44 = .ok (.iconst 1, 1) ∧ 44 + 1 = 45 := ⟨by decide +kernel, rfl⟩
theorem dX9_isSeen_45 : decode cX9_isSeen 45 = .ok (.invokevirtual 77, 3) ∧ 45 + 3 = 48 := ⟨by decide +kernel, rfl⟩
theorem dX9_isSeen_48 : decode cX9_isSeen 48 = .ok (.istore_n 2, 1) ∧ 48 + 1 = 49 := ⟨by decide +kernel, rfl⟩
theorem dX9_isSeen_49 : decode cX9_isSeen 49 = .ok (.iinc 3 (-1), 3) ∧ 49 + 3 = 52 := ⟨by decide +kernel, rfl⟩
theorem dX9_isSeen_52 : decode cX9_isSeen 52 = .ok (.goto (-41), 3) ∧ 52 + 3 = 55 ∧ ((52 : Nat) : Int) + (-41) = ((11 : Nat) : Int) := ⟨by decide +kernel, rfl, rfl⟩
theorem dX9_isSeen_55 : decode cX9_isSeen 55 = .ok (.iconst 1, 1) ∧ 55 + 1 = 56 := ⟨by decide +kernel, rfl⟩
theorem dX9_isSeen_56 : decode cX9_isSeen 56 = .ok (.ireturn, 1) ∧ 56 + 1 = 57 := ⟨by decide +kernel, rfl⟩
theorem dX9_rows_0 : decode cX9_rows 0 = .ok (.iconst 0, 1) ∧ 0 + 1 = 1 := ⟨by decide +kernel, rfl⟩
theorem dX9_rows_1 : decode cX9_rows 1 = .ok (.istore_n 1, 1) ∧ 1 + 1 = 2 := ⟨by decide +kernel, rfl⟩
theorem dX9_rows_2 : decode cX9_rows 2 = .ok (.iconst 0, 1) ∧ 2 + 1 = 3 := ⟨by decide +kernel, rfl⟩
theorem dX9_rows_3 : decode cX9_rows 3 = .ok (.istore_n 2, 1) ∧ 3 + 1 = 4 := ⟨by decide +kernel, rfl⟩
theorem dX9_rows_4 : decode cX9_rows 4 = .ok (.iload_n 2, 1) ∧ 4 + 1 = 5 := ⟨by decide +kernel, rfl⟩
theorem dX9_rows_5 : decode cX9_rows 5 = .ok (.aload_n 0, 1) ∧ 5 + 1 = 6 := ⟨by decide +kernel, rfl⟩
theorem dX9_rows_6 : decode cX9_rows 6 = .ok (.getfield 7, 3) ∧ 6 + 3 = 9 := ⟨by decide +kernel, rfl⟩
theorem dX9_rows_9 : decode cX9_rows 9 = .ok (.iconst 1, 1) ∧ 9 + 1 = 10 := ⟨by decide +kernel, rfl⟩
theorem dX9_rows_10 : decode cX9_rows 10 = .ok (.iaload, 1) ∧ 10 + 1 = 11 := ⟨by decide +kernel, rfl⟩
theorem dX9_rows_11 : decode cX9_rows 11 = .ok (.if_icmp .ge 25, 3) ∧ 11 + 3 = 14 ∧ ((11 : Nat) : Int) + (25) = ((36 : Nat) : Int) := ⟨by decide +kernel, rfl, rfl⟩
theorem dX9_rows_14 : decode cX9_rows 14 = .ok (.iload_n 1, 1) ∧ 14 + 1 = 15 := ⟨by decide +kernel, rfl⟩
theorem dX9_rows_15 : decode cX9_rows 15 = .ok (.aload_n 0, 1) ∧ 15 + 1 = 16 := ⟨by decide +kernel, rfl⟩
theorem dX9_rows_16 : decode cX9_rows 16 = .ok (.iload_n 2, 1) ∧ 16 + 1 = 17 := ⟨by decide +kernel, rfl⟩
theorem dX9_rows_17 : decode cX9_rows 17 = .ok (.invokevirtual 80, 3) ∧ 17 + 3 = 20 := ⟨by decide +kernel, rfl⟩
theorem dX9_rows_20 : decode cX9_rows 20 = .ok (.ifCond .eq 7, 3) ∧ 20 + 3 = 23 ∧ ((20 : Nat) : Int) + (7) = ((27 : Nat) : Int) := ⟨by decide +kernel, rfl, rfl⟩
theorem dX9_rows_23 : decode cX9_rows 23 = .ok (.iconst 1, 1) ∧ 23 + 1 = 24 := ⟨by decide +kernel, rfl⟩
theorem dX9_rows_24 : decode cX9_rows 24 = .ok (.goto 4, 3) ∧ 24 + 3 = 27 ∧ ((24 : Nat) : Int) + (4) = ((28 : Nat) : Int) := ⟨by decide +kernel, rfl, rfl⟩
theorem dX9_rows_27 : decode cX9_rows 27 = .ok (.iconst 0, 1) ∧ 27 + 1 = 28 := ⟨by decide +kernel, rfl⟩
theorem dX9_rows_28 : decode cX9_rows 28 = .ok (.iadd, 1) ∧ 28 + 1 = 29 := ⟨by decide +kernel, rfl⟩
theorem dX9_rows_29 : decode cX9_rows 29 = .ok (.istore_n 1, 1) ∧ 29 + 1 = 30 := ⟨by decide +kernel, rfl⟩
theorem dX9_rows_30 : decode cX9_rows 30 = .ok (.iinc 2 1, 3) ∧ 30 + 3 = 33 := ⟨by decide +kernel, rfl⟩
theorem dX9_rows_33 : decode cX9_rows 33 = .ok (.goto (-29), 3) ∧ 33 + 3 = 36 ∧ ((33 : Nat) : Int) + (-29) = ((4 : Nat) : Int) := ⟨by decide +kernel, rfl, rfl⟩
theorem dX9_rows_36 : decode cX9_rows 36 = .ok (.iload_n 1, 1) ∧ 36 + 1 = 37 := ⟨by decide +kernel, rfl⟩
theorem dX9_rows_37 : decode cX9_rows 37 = .ok (.ireturn, 1) ∧ 37 + 1 = 38 := ⟨by decide +kernel, rfl⟩
theorem dX9_placeOf_0 : decode cX9_placeOf 0 = .ok (.iload_n 1, 1) ∧ 0 + 1 = 1 := ⟨by decide +kernel, rfl⟩
theorem dX9_placeOf_1 : decode cX9_placeOf 1 = .ok (.istore_n 2, 1) ∧ 1 + 1 = 2 := ⟨by decide +kernel, rfl⟩
theorem dX9_placeOf_2 : decode cX9_placeOf 2 = .ok (.iconst 0, 1) ∧ 2 + 1 = 3 := ⟨by decide +kernel, rfl⟩
theorem dX9_placeOf_3 : decode cX9_placeOf 3 = .ok (.istore_n 3, 1) ∧ 3 + 1 = 4 := ⟨by decide +kernel, rfl⟩
theorem dX9_placeOf_4 : decode cX9_placeOf 4 = .ok (.iload_n 3, 1) ∧ 4 + 1 = 5 := ⟨by decide +kernel, rfl⟩
theorem dX9_placeOf_5 : decode cX9_placeOf 5 = .ok (.aload_n 0, 1) ∧ 5 + 1 = 6 := ⟨by decide +kernel, rfl⟩
theorem dX9_placeOf_6 : decode cX9_placeOf 6 = .ok (.getfield 7, 3) ∧ 6 + 3 = 9 := ⟨by decide +kernel, rfl⟩
theorem dX9_placeOf_9 : decode cX9_placeOf 9 = .ok (.iconst 1, 1) ∧ 9 + 1 = 10 := ⟨by decide +kernel, rfl⟩
theorem dX9_placeOf_10 : decode cX9_placeOf 10 = .ok (.iaload, 1) ∧ 10 + 1 = 11 := ⟨by decide +kernel, rfl⟩
theorem dX9_placeOf_11 : decode cX9_placeOf 11 = .ok (.if_icmp .ge 30, 3) ∧ 11 + 3 = 14 ∧ ((11 : Nat) : Int) + (30) = ((41 : Nat) : Int) := ⟨by decide +kernel, rfl, rfl⟩
theorem dX9_placeOf_14 : decode cX9_placeOf 14 = .ok (.iload_n 1, 1) ∧ 14 + 1 = 15 := ⟨by decide +kernel, rfl⟩
theorem dX9_placeOf_15 : decode cX9_placeOf 15 = .ok (.ifCond .lt 26, 3) ∧ 15 + 3 = 18 ∧ ((15 : Nat) : Int) + (26) = ((41 : Nat) : Int) := ⟨by decide +kernel, rfl, rfl⟩
theorem dX9_placeOf_18 : decode cX9_placeOf 18 = .ok (.aload_n 0, 1) ∧ 18 + 1 = 19 := ⟨by decide +kernel, rfl⟩
theorem dX9_placeOf_19 : decode cX9_placeOf 19 = .ok (.iload_n 3, 1) ∧ 19 + 1 = 20 := ⟨by decide +kernel, rfl⟩
theorem dX9_placeOf_20 : decode cX9_placeOf 20 = .ok (.invokevirtual 80, 3) ∧ 20 + 3 = 23 := ⟨by decide +kernel, rfl⟩
theorem dX9_placeOf_23 : decode cX9_placeOf 23 = .ok (.ifCond .eq 12, 3) ∧ 23 + 3 = 26 ∧ ((23 : Nat) : Int) + (12) = ((35 : Nat) : Int) := ⟨by decide +kernel, rfl, rfl⟩
theorem dX9_placeOf_26 : decode cX9_placeOf 26 = .ok (.iload_n 2, 1) ∧ 26 + 1 = 27 := ⟨by decide +kernel, rfl⟩
theorem dX9_placeOf_27 : decode cX9_placeOf 27 = .ok (.ifCond .ne 5, 3) ∧ 27 + 3 = 30 ∧ ((27 : Nat) : Int) + (5) = ((32 : Nat) : Int) := ⟨by decide +kernel, rfl, rfl⟩
theorem dX9_placeOf_30 : decode cX9_placeOf 30 = .ok (.iload_n 3, 1) ∧ 30 + 1 = 31 := ⟨by decide +kernel, rfl⟩
theorem dX9_placeOf_31 : decode cX9_placeOf 31 = .ok (.ireturn, 1) ∧ 31 + 1 = 32 := ⟨by decide +kernel, rfl⟩
theorem dX9_placeOf_32 : decode cX9_placeOf 32 = .ok (.iinc 2 (-1), 3) ∧ 32 + 3 = 35 := ⟨by decide +kernel, rfl⟩
theorem dX9_placeOf_35 : decode cX9_placeOf 35 = .ok (.iinc 3 1, 3) ∧ 35 + 3 = 38 := ⟨by decide +kernel, rfl⟩
theorem dX9_placeOf_38 : decode cX9_placeOf 38 = .ok (.goto (-34), 3) ∧ 38 + 3 = 41 ∧ ((38 : Nat) : Int) + (-34) = ((4 : Nat) : Int) := ⟨by decide +kernel, rfl, rfl⟩
theorem dX9_placeOf_41 : decode cX9_placeOf 41 = .ok (.bipush (-6), 2) ∧ 41 + 2 = 43 := ⟨by decide +kernel, rfl⟩
theorem dX9_placeOf_43 : decode cX9_placeOf 43 = .ok (.ireturn, 1) ∧ 43 + 1 = 44 := ⟨by decide +kernel, rfl⟩
theorem dX9_rowOf_0 : decode cX9_rowOf 0 = .ok (.iconst 0, 1) ∧ 0 + 1 = 1 := ⟨by decide +kernel, rfl⟩
theorem dX9_rowOf_1 : decode cX9_rowOf 1 = .ok (.istore_n 2, 1) ∧ 1 + 1 = 2 := ⟨by decide +kernel, rfl⟩
theorem dX9_rowOf_2 : decode cX9_rowOf 2 = .ok (.iconst 0, 1) ∧ 2 + 1 = 3 := ⟨by decide +kernel, rfl⟩
theorem dX9_rowOf_3 : decode cX9_rowOf 3 = .ok (.istore_n 3, 1) ∧ 3 + 1 = 4 := ⟨by decide +kernel, rfl⟩
theorem dX9_rowOf_4 : decode cX9_rowOf 4 = .ok (.iload_n 3, 1) ∧ 4 + 1 = 5 := ⟨by decide +kernel, rfl⟩
theorem dX9_rowOf_5 : decode cX9_rowOf 5 = .ok (.iload_n 1, 1) ∧ 5 + 1 = 6 := ⟨by decide +kernel, rfl⟩
theorem dX9_rowOf_6 : decode cX9_rowOf 6 = .ok (.if_icmp .ge 25, 3) ∧ 6 + 3 = 9 ∧ ((6 : Nat) : Int) + (25) = ((31 : Nat) : Int) := ⟨by decide +kernel, rfl, rfl⟩
theorem dX9_rowOf_9 : decode cX9_rowOf 9 = .ok (.iload_n 2, 1) ∧ 9 + 1 = 10 := ⟨by decide +kernel, rfl⟩
theorem dX9_rowOf_10 : decode cX9_rowOf 10 = .ok (.aload_n 0, 1) ∧ 10 + 1 = 11 := ⟨by decide +kernel, rfl⟩
theorem dX9_rowOf_11 : decode cX9_rowOf 11 = .ok (.iload_n 3, 1) ∧ 11 + 1 = 12 := ⟨by decide +kernel, rfl⟩
theorem dX9_rowOf_12 : decode cX9_rowOf 12 = .ok (.invokevirtual 80, 3) ∧ 12 + 3 = 15 := ⟨by decide +kernel, rfl⟩
theorem dX9_rowOf_15 : decode cX9_rowOf 15 = .ok (.ifCond .eq 7, 3) ∧ 15 + 3 = 18 ∧ ((15 : Nat) : Int) + (7) = ((22 : Nat) : Int) := ⟨by decide +kernel, rfl, rfl⟩
theorem dX9_rowOf_18 : decode cX9_rowOf 18 = .ok (.iconst 1, 1) ∧ 18 + 1 = 19 := ⟨by decide +kernel, rfl⟩
theorem dX9_rowOf_19 : decode cX9_rowOf 19 = .ok (.goto 4, 3) ∧ 19 + 3 = 22 ∧ ((19 : Nat) : Int) + (4) = ((23 : Nat) : Int) := ⟨by decide +kernel, rfl, rfl⟩
theorem dX9_rowOf_22 : decode cX9_rowOf 22 = .ok (.iconst 0, 1) ∧ 22 + 1 = 23 := ⟨by decide +kernel, rfl⟩
theorem dX9_rowOf_23 : decode cX9_rowOf 23 = .ok (.iadd, 1) ∧ 23 + 1 = 24 := ⟨by decide +kernel, rfl⟩
theorem dX9_rowOf_24 : decode cX9_rowOf 24 = .ok (.istore_n 2, 1) ∧ 24 + 1 = 25 := ⟨by decide +kernel, rfl⟩
theorem dX9_rowOf_25 : decode cX9_rowOf 25 = .ok (.iinc 3 1, 3) ∧ 25 + 3 = 28 := ⟨by decide +kernel, rfl⟩
theorem dX9_rowOf_28 : decode cX9_rowOf 28 = .ok (.goto (-24), 3) ∧ 28 + 3 = 31 ∧ ((28 : Nat) : Int) + (-24) = ((4 : Nat) : Int) := ⟨by decide +kernel, rfl, rfl⟩
theorem dX9_rowOf_31 : decode cX9_rowOf 31 = .ok (.iload_n 2, 1) ∧ 31 + 1 = 32 := ⟨by decide +kernel, rfl⟩
theorem dX9_rowOf_32 : decode cX9_rowOf 32 = .ok (.ireturn, 1) ∧ 32 + 1 = 33 := ⟨by decide +kernel, rfl⟩
theorem dX9_around_0 : decode cX9_around 0 = .ok (.iload_n 1, 1) ∧ 0 + 1 = 1 := ⟨by decide +kernel, rfl⟩
theorem dX9_around_1 : decode cX9_around 1 = .ok (.iconst 1, 1) ∧ 1 + 1 = 2 := ⟨by decide +kernel, rfl⟩
theorem dX9_around_2 : decode cX9_around 2 = .ok (.isub, 1) ∧ 2 + 1 = 3 := ⟨by decide +kernel, rfl⟩
theorem dX9_around_3 : decode cX9_around 3 = .ok (.istore_n 2, 1) ∧ 3 + 1 = 4 := ⟨by decide +kernel, rfl⟩
theorem dX9_around_4 : decode cX9_around 4 = .ok (.iload_n 2, 1) ∧ 4 + 1 = 5 := ⟨by decide +kernel, rfl⟩
theorem dX9_around_5 : decode cX9_around 5 = .ok (.ifCond .lt 24, 3) ∧ 5 + 3 = 8 ∧ ((5 : Nat) : Int) + (24) = ((29 : Nat) : Int) := ⟨by decide +kernel, rfl, rfl⟩
theorem dX9_around_8 : decode cX9_around 8 = .ok (.aload_n 0, 1) ∧ 8 + 1 = 9 := ⟨by decide +kernel, rfl⟩
theorem dX9_around_9 : decode cX9_around 9 = .ok (.iload_n 2, 1) ∧ 9 + 1 = 10 := ⟨by decide +kernel, rfl⟩
theorem dX9_around_10 : decode cX9_around 10 = .ok (.iconst 1, 1) ∧ 10 + 1 = 11 := ⟨by decide +kernel, rfl⟩
theorem dX9_around_11 : decode cX9_around 11 = .ok (.invokevirtual 77, 3) ∧ 11 + 3 = 14 := ⟨by decide +kernel, rfl⟩
theorem dX9_around_14 : decode cX9_around 14 = .ok (.aload_n 0, 1) ∧ 14 + 1 = 15 := ⟨by decide +kernel, rfl⟩
theorem dX9_around_15 : decode cX9_around 15 = .ok (.iload_n 1, 1) ∧ 15 + 1 = 16 := ⟨by decide +kernel, rfl⟩
theorem dX9_around_16 : decode cX9_around 16 = .ok (.iconst 1, 1) ∧ 16 + 1 = 17 := ⟨by decide +kernel, rfl⟩
theorem dX9_around_17 : decode cX9_around 17 = .ok (.invokevirtual 77, 3) ∧ 17 + 3 = 20 := ⟨by decide +kernel, rfl⟩
theorem dX9_around_20 : decode cX9_around 20 = .ok (.if_icmp .lt 9, 3) ∧ 20 + 3 = 23 ∧ ((20 : Nat) : Int) + (9) = ((29 : Nat) : Int) := ⟨by decide +kernel, rfl, rfl⟩
theorem dX9_around_23 : decode cX9_around 23 = .ok (.iinc 2 (-1), 3) ∧ 23 + 3 = 26 := ⟨by decide +kernel, rfl⟩
theorem dX9_around_26 : decode cX9_around 26 = .ok (.goto (-22), 3) ∧ 26 + 3 = 29 ∧ ((26 : Nat) : Int) + (-22) = ((4 : Nat) : Int) := ⟨by decide +kernel, rfl, rfl⟩
theorem dX9_around_29 : decode cX9_around 29 = .ok (.iload_n 2, 1) ∧ 29 + 1 = 30 := ⟨by decide +kernel, rfl⟩
theorem dX9_around_30 : decode cX9_around 30 = .ok (.ireturn, 1) ∧ 30 + 1 = 31 := ⟨by decide +kernel, rfl⟩
theorem dX9_parent_0 : decode cX9_parent 0 = .ok (.aload_n 0, 1) ∧ 0 + 1 = 1 := ⟨by decide +kernel, rfl⟩
theorem dX9_parent_1 : decode cX9_parent 1 = .ok (.iload_n 1, 1) ∧ 1 + 1 = 2 := ⟨by decide +kernel, rfl⟩
theorem dX9_parent_2 : decode cX9_parent 2 = .ok (.invokevirtual 84, 3) ∧ 2 + 3 = 5 := ⟨by decide +kernel, rfl⟩
theorem dX9_parent_5 : decode cX9_parent 5 = .ok (.istore_n 2, 1) ∧ 5 + 1 = 6 := ⟨by decide +kernel, rfl⟩
theorem dX9_parent_6 : decode cX9_parent 6 = .ok (.iload_n 2, 1) ∧ 6 + 1 = 7 := ⟨by decide +kernel, rfl⟩
theorem dX9_parent_7 : decode cX9_parent 7 = .ok (.ifCond .ge 7, 3) ∧ 7 + 3 = 10 ∧ ((7 : Nat) : Int) + (7) = ((14 : Nat) : Int) := ⟨by decide +kernel, rfl, rfl⟩
theorem dX9_parent_10 : decode cX9_parent 10 = .ok (.iconst 0, 1) ∧ 10 + 1 = 11 := ⟨by decide +kernel, rfl⟩
theorem dX9_parent_11 : decode cX9_parent 11 = .ok (.goto 9, 3) ∧ 11 + 3 = 14 ∧ ((11 : Nat) : Int) + (9) = ((20 : Nat) : Int) := ⟨by decide +kernel, rfl, rfl⟩
theorem dX9_parent_14 : decode cX9_parent 14 = .ok (.aload_n 0, 1) ∧ 14 + 1 = 15 := ⟨by decide +kernel, rfl⟩
theorem dX9_parent_15 : decode cX9_parent 15 = .ok (.iload_n 2, 1) ∧ 15 + 1 = 16 := ⟨by decide +kernel, rfl⟩
theorem dX9_parent_16 : decode cX9_parent 16 = .ok (.iconst 0, 1) ∧ 16 + 1 = 17 := ⟨by decide +kernel, rfl⟩
theorem dX9_parent_17 : decode cX9_parent 17 = .ok (.invokevirtual 77, 3) ∧ 17 + 3 = 20 := ⟨by decide +kernel, rfl⟩
theorem dX9_parent_20 : decode cX9_parent 20 = .ok (.ireturn, 1) ∧ 20 + 1 = 21 := ⟨by decide +kernel, rfl⟩
theorem dX9_position_0 : decode cX9_position 0 = .ok (.iconst 0, 1) ∧ 0 + 1 = 1 := ⟨by decide +kernel, rfl⟩
theorem dX9_position_1 : decode cX9_position 1 = .ok (.istore_n 3, 1) ∧ 1 + 1 = 2 := ⟨by decide +kernel, rfl⟩
theorem dX9_position_2 : decode cX9_position 2 = .ok (.iload_n 3, 1) ∧ 2 + 1 = 3 := ⟨by decide +kernel, rfl⟩
theorem dX9_position_3 : decode cX9_position 3 = .ok (.aload_n 0, 1) ∧ 3 + 1 = 4 := ⟨by decide +kernel, rfl⟩
theorem dX9_position_4 : decode cX9_position 4 = .ok (.iload_n 1, 1) ∧ 4 + 1 = 5 := ⟨by decide +kernel, rfl⟩
theorem dX9_position_5 : decode cX9_position 5 = .ok (.bipush 11, 2) ∧ 5 + 2 = 7 := ⟨by decide +kernel, rfl⟩
theorem dX9_position_7 : decode cX9_position 7 = .ok (.invokevirtual 64, 3) ∧ 7 + 3 = 10 := ⟨by decide +kernel, rfl⟩
theorem dX9_position_10 : decode cX9_position 10 = .ok (.if_icmp .ge 21, 3) ∧ 10 + 3 = 13 ∧ ((10 : Nat) : Int) + (21) = ((31 : Nat) : Int) := ⟨by decide +kernel, rfl, rfl⟩
theorem dX9_position_13 : decode cX9_position 13 = .ok (.aload_n 0, 1) ∧ 13 + 1 = 14 := ⟨by decide +kernel, rfl⟩
theorem dX9_position_14 : decode cX9_position 14 = .ok (.iload_n 1, 1) ∧ 14 + 1 = 15 := ⟨by decide +kernel, rfl⟩
theorem dX9_position_15 : decode cX9_position 15 = .ok (.iload_n 3, 1) ∧ 15 + 1 = 16 := ⟨by decide +kernel, rfl⟩
theorem dX9_position_16 : decode cX9_position 16 = .ok (.invokevirtual 71, 3) ∧ 16 + 3 = 19 := ⟨by decide +kernel, rfl⟩
theorem dX9_position_19 : decode cX9_position 19 = .ok (.iload_n 2, 1) ∧ 19 + 1 = 20 := ⟨by decide +kernel, rfl⟩
theorem dX9_position_20 : decode cX9_position 20 = .ok (.if_icmp .ne 5, 3) ∧ 20 + 3 = 23 ∧ ((20 : Nat) : Int) + (5) = ((25 : Nat) : Int) := ⟨by decide +kernel, rfl, rfl⟩
theorem dX9_position_23 : decode cX9_position 23 = .ok (.iload_n 3, 1) ∧ 23 + 1 = 24 := ⟨by decide +kernel, rfl⟩
theorem dX9_position_24 : decode cX9_position 24 = .ok (.ireturn, 1) ∧ 24 + 1 = 25 := ⟨by decide +kernel, rfl⟩
theorem dX9_position_25 : decode cX9_position 25 = .ok (.iinc 3 1, 3) ∧ 25 + 3 = 28 := ⟨by decide +kernel, rfl⟩
theorem dX9_position_28 : decode cX9_position 28 = .ok (.goto (-26), 3) ∧ 28 + 3 = 31 ∧ ((28 : Nat) : Int) + (-26) = ((2 : Nat) : Int) := ⟨by decide +kernel, rfl, rfl⟩
theorem dX9_position_31 : decode cX9_position 31 = .ok (.bipush (-6), 2) ∧ 31 + 2 = 33 := ⟨by decide +kernel, rfl⟩
theorem dX9_position_33 : decode cX9_position 33 = .ok (.ireturn, 1) ∧ 33 + 1 = 34 := ⟨by decide +kernel, rfl⟩
theorem dX9_nodeOf_0 : decode cX9_nodeOf 0 = .ok (.iload_n 1, 1) ∧ 0 + 1 = 1 := ⟨by decide +kernel, rfl⟩
theorem dX9_nodeOf_1 : decode cX9_nodeOf 1 = .ok (.iconst (-1), 1) ∧ 1 + 1 = 2 := ⟨by decide +kernel, rfl⟩
theorem dX9_nodeOf_2 : decode cX9_nodeOf 2 = .ok (.if_icmp .ne 5, 3) ∧ 2 + 3 = 5 ∧ ((2 : Nat) : Int) + (5) = ((7 : Nat) : Int) := ⟨by decide +kernel, rfl, rfl⟩
theorem dX9_nodeOf_5 : decode cX9_nodeOf 5 = .ok (.iconst 0, 1) ∧ 5 + 1 = 6 := ⟨by decide +kernel, rfl⟩
theorem dX9_nodeOf_6 : decode cX9_nodeOf 6 = .ok (.ireturn, 1) ∧ 6 + 1 = 7 := ⟨by decide +kernel, rfl⟩
theorem dX9_nodeOf_7 : decode cX9_nodeOf 7 = .ok (.aload_n 0, 1) ∧ 7 + 1 = 8 := ⟨by decide +kernel, rfl⟩
theorem dX9_nodeOf_8 : decode cX9_nodeOf 8 = .ok (.iload_n 1, 1) ∧ 8 + 1 = 9 := ⟨by decide +kernel, rfl⟩
theorem dX9_nodeOf_9 : decode cX9_nodeOf 9 = .ok (.invokevirtual 88, 3) ∧ 9 + 3 = 12 := ⟨by decide +kernel, rfl⟩
theorem dX9_nodeOf_12 : decode cX9_nodeOf 12 = .ok (.istore_n 2, 1) ∧ 12 + 1 = 13 := ⟨by decide +kernel, rfl⟩
theorem dX9_nodeOf_13 : decode cX9_nodeOf 13 = .ok (.iload_n 2, 1) ∧ 13 + 1 = 14 := ⟨by decide +kernel, rfl⟩
theorem dX9_nodeOf_14 : decode cX9_nodeOf 14 = .ok (.bipush (-6), 2) ∧ 14 + 2 = 16 := ⟨by decide +kernel, rfl⟩
theorem dX9_nodeOf_16 : decode cX9_nodeOf 16 = .ok (.if_icmp .ne 8, 3) ∧ 16 + 3 = 19 ∧ ((16 : Nat) : Int) + (8) = ((24 : Nat) : Int) := ⟨by decide +kernel, rfl, rfl⟩
theorem dX9_nodeOf_19 : decode cX9_nodeOf 19 = .ok (.bipush (-6), 2) ∧ 19 + 2 = 21 := ⟨by decide +kernel, rfl⟩
theorem dX9_nodeOf_21 : decode cX9_nodeOf 21 = .ok (.goto 9, 3) ∧ 21 + 3 = 24 ∧ ((21 : Nat) : Int) + (9) = ((30 : Nat) : Int) := ⟨by decide +kernel, rfl, rfl⟩
theorem dX9_nodeOf_24 : decode cX9_nodeOf 24 = .ok (.aload_n 0, 1) ∧ 24 + 1 = 25 := ⟨by decide +kernel, rfl⟩
theorem dX9_nodeOf_25 : decode cX9_nodeOf 25 = .ok (.iload_n 2, 1) ∧ 25 + 1 = 26 := ⟨by decide +kernel, rfl⟩
theorem dX9_nodeOf_26 : decode cX9_nodeOf 26 = .ok (.iconst 0, 1) ∧ 26 + 1 = 27 := ⟨by decide +kernel, rfl⟩
theorem dX9_nodeOf_27 : decode cX9_nodeOf 27 = .ok (.invokevirtual 77, 3) ∧ 27 + 3 = 30 := ⟨by decide +kernel, rfl⟩
theorem dX9_nodeOf_30 : decode cX9_nodeOf 30 = .ok (.ireturn, 1) ∧ 30 + 1 = 31 := ⟨by decide +kernel, rfl⟩
theorem dX9_layWithin_0 : decode cX9_layWithin 0 = .ok (.iconst 0, 1) ∧ 0 + 1 = 1 := ⟨by decide +kernel, rfl⟩
theorem dX9_layWithin_1 : decode cX9_layWithin 1 = .ok (.istore_n 2, 1) ∧ 1 + 1 = 2 := ⟨by decide +kernel, rfl⟩
theorem dX9_layWithin_2 : decode cX9_layWithin 2 = .ok (.iload_n 2, 1) ∧ 2 + 1 = 3 := ⟨by decide +kernel, rfl⟩
theorem dX9_layWithin_3 : decode cX9_layWithin 3 = .ok (.bipush 40, 2) ∧ 3 + 2 = 5 := ⟨by decide +kernel, rfl⟩
theorem dX9_layWithin_5 : decode cX9_layWithin 5 = .ok (.if_icmp .gt 25, 3) ∧ 5 + 3 = 8 ∧ ((5 : Nat) : Int) + (25) = ((30 : Nat) : Int) := ⟨by decide +kernel, rfl, rfl⟩
theorem dX9_layWithin_8 : decode cX9_layWithin 8 = .ok (.aload_n 0, 1) ∧ 8 + 1 = 9 := ⟨by decide +kernel, rfl⟩
theorem dX9_layWithin_9 : decode cX9_layWithin 9 = .ok (.getfield 34, 3) ∧ 9 + 3 = 12 := ⟨by decide +kernel, rfl⟩
theorem dX9_layWithin_12 : decode cX9_layWithin 12 = .ok (.iload_n 2, 1) ∧ 12 + 1 = 13 := ⟨by decide +kernel, rfl⟩
theorem dX9_layWithin_13 : decode cX9_layWithin 13 = .ok (.iload_n 2, 1) ∧ 13 + 1 = 14 := ⟨by decide +kernel, rfl⟩
theorem dX9_layWithin_14 : decode cX9_layWithin 14 = .ok (.iload_n 1, 1) ∧ 14 + 1 = 15 := ⟨by decide +kernel, rfl⟩
theorem dX9_layWithin_15 : decode cX9_layWithin 15 = .ok (.if_icmp .ne 7, 3) ∧ 15 + 3 = 18 ∧ ((15 : Nat) : Int) + (7) = ((22 : Nat) : Int) := ⟨by decide +kernel, rfl, rfl⟩
theorem dX9_layWithin_18 : decode cX9_layWithin 18 = .ok (.iconst 1, 1) ∧ 18 + 1 = 19 := ⟨by decide +kernel, rfl⟩
theorem dX9_layWithin_19 : decode cX9_layWithin 19 = .ok (.goto 4, 3) ∧ 19 + 3 = 22 ∧ ((19 : Nat) : Int) + (4) = ((23 : Nat) : Int) := ⟨by decide +kernel, rfl, rfl⟩
theorem dX9_layWithin_22 : decode cX9_layWithin 22 = .ok (.iconst 0, 1) ∧ 22 + 1 = 23 := ⟨by decide +kernel, rfl⟩
theorem dX9_layWithin_23 : decode cX9_layWithin 23 = .ok (.bastore, 1) ∧ 23 + 1 = 24 := ⟨by decide +kernel, rfl⟩
theorem dX9_layWithin_24 : decode cX9_layWithin 24 = .ok (.iinc 2 1, 3) ∧ 24 + 3 = 27 := ⟨by decide +kernel, rfl⟩
theorem dX9_layWithin_27 : decode cX9_layWithin 27 = .ok (.goto (-25), 3) ∧ 27 + 3 = 30 ∧ ((27 : Nat) : Int) + (-25) = ((2 : Nat) : Int) := ⟨by decide +kernel, rfl, rfl⟩
theorem dX9_layWithin_30 : decode cX9_layWithin 30 = .ok (.aload_n 0, 1) ∧ 30 + 1 = 31 := ⟨by decide +kernel, rfl⟩
theorem dX9_layWithin_31 : decode cX9_layWithin 31 = .ok (.getfield 38, 3) ∧ 31 + 3 = 34 := ⟨by decide +kernel, rfl⟩
theorem dX9_layWithin_34 : decode cX9_layWithin 34 = .ok (.iconst 0, 1) ∧ 34 + 1 = 35 := ⟨by decide +kernel, rfl⟩
theorem dX9_layWithin_35 : decode cX9_layWithin 35 = .ok (.iload_n 1, 1) ∧ 35 + 1 = 36 := ⟨by decide +kernel, rfl⟩
theorem dX9_layWithin_36 : decode cX9_layWithin 36 = .ok (.iastore, 1) ∧ 36 + 1 = 37 := ⟨by decide +kernel, rfl⟩
theorem dX9_layWithin_37 : decode cX9_layWithin 37 = .ok (.iconst 1, 1) ∧ 37 + 1 = 38 := ⟨by decide +kernel, rfl⟩
theorem dX9_layWithin_38 : decode cX9_layWithin 38 = .ok (.istore_n 2, 1) ∧ 38 + 1 = 39 := ⟨by decide +kernel, rfl⟩
theorem dX9_layWithin_39 : decode cX9_layWithin 39 = .ok (.iconst 0, 1) ∧ 39 + 1 = 40 := ⟨by decide +kernel, rfl⟩
theorem dX9_layWithin_40 : decode cX9_layWithin 40 = .ok (.istore_n 3, 1) ∧ 40 + 1 = 41 := ⟨by decide +kernel, rfl⟩
theorem dX9_layWithin_41 : decode cX9_layWithin 41 = .ok (.iload_n 3, 1) ∧ 41 + 1 = 42 := ⟨by decide +kernel, rfl⟩
theorem dX9_layWithin_42 : decode cX9_layWithin 42 = .ok (.iload_n 2, 1) ∧ 42 + 1 = 43 := ⟨by decide +kernel, rfl⟩
theorem dX9_layWithin_43 : decode cX9_layWithin 43 = .ok (.if_icmp .ge 78, 3) ∧ 43 + 3 = 46 ∧ ((43 : Nat) : Int) + (78) = ((121 : Nat) : Int) := ⟨by decide +kernel, rfl, rfl⟩
theorem dX9_layWithin_46 : decode cX9_layWithin 46 = .ok (.iconst 0, 1) ∧ 46 + 1 = 47 := ⟨by decide +kernel, rfl⟩
theorem dX9_layWithin_47 : decode cX9_layWithin 47 = .ok (.istore 4, 2) ∧ 47 + 2 = 49 := ⟨by decide +kernel, rfl⟩
theorem dX9_layWithin_49 : decode cX9_layWithin 49 = .ok (.iload 4, 2) ∧ 49 + 2 = 51 := ⟨by decide +kernel, rfl⟩
theorem dX9_layWithin_51 : decode cX9_layWithin 51 = .ok (.aload_n 0, 1) ∧ 51 + 1 = 52 := ⟨by decide +kernel, rfl⟩
theorem dX9_layWithin_52 : decode cX9_layWithin 52 = .ok (.aload_n 0, 1) ∧ 52 + 1 = 53 := ⟨by decide +kernel, rfl⟩
theorem dX9_layWithin_53 : decode cX9_layWithin 53 = .ok (.getfield 38, 3) ∧ 53 + 3 = 56 := ⟨by decide +kernel, rfl⟩
theorem dX9_layWithin_56 : decode cX9_layWithin 56 = .ok (.iload_n 3, 1) ∧ 56 + 1 = 57 := ⟨by decide +kernel, rfl⟩
theorem dX9_layWithin_57 : decode cX9_layWithin 57 = .ok (.iaload, 1) ∧ 57 + 1 = 58 := ⟨by decide +kernel, rfl⟩
theorem dX9_layWithin_58 : decode cX9_layWithin 58 = .ok (.bipush 11, 2) ∧ 58 + 2 = 60 := ⟨by decide +kernel, rfl⟩
theorem dX9_layWithin_60 : decode cX9_layWithin 60 = .ok (.invokevirtual 64, 3) ∧ 60 + 3 = 63 := ⟨by decide +kernel, rfl⟩
theorem dX9_layWithin_63 : decode cX9_layWithin 63 = .ok (.if_icmp .ge 52, 3) ∧ 63 + 3 = 66 ∧ ((63 : Nat) : Int) + (52) = ((115 : Nat) : Int) := ⟨by decide +kernel, rfl, rfl⟩
theorem dX9_layWithin_66 : decode cX9_layWithin 66 = .ok (.aload_n 0, 1) ∧ 66 + 1 = 67 := ⟨by decide +kernel, rfl⟩
theorem dX9_layWithin_67 : decode cX9_layWithin 67 = .ok (.aload_n 0, 1) ∧ 67 + 1 = 68 := ⟨by decide +kernel, rfl⟩
theorem dX9_layWithin_68 : decode cX9_layWithin 68 = .ok (.getfield 38, 3) ∧ 68 + 3 = 71 := ⟨by decide +kernel, rfl⟩
theorem dX9_layWithin_71 : decode cX9_layWithin 71 = .ok (.iload_n 3, 1) ∧ 71 + 1 = 72 := ⟨by decide +kernel, rfl⟩
theorem dX9_layWithin_72 : decode cX9_layWithin 72 = .ok (.iaload, 1) ∧ 72 + 1 = 73 := ⟨by decide +kernel, rfl⟩
theorem dX9_layWithin_73 : decode cX9_layWithin 73 = .ok (.iload 4, 2) ∧ 73 + 2 = 75 := ⟨by decide +kernel, rfl⟩
theorem dX9_layWithin_75 : decode cX9_layWithin 75 = .ok (.invokevirtual 71, 3) ∧ 75 + 3 = 78 := ⟨by decide +kernel, rfl⟩
theorem dX9_layWithin_78 : decode cX9_layWithin 78 = .ok (.istore 5, 2) ∧ 78 + 2 = 80 := ⟨by decide +kernel, rfl⟩
theorem dX9_layWithin_80 : decode cX9_layWithin 80 = .ok (.aload_n 0, 1) ∧ 80 + 1 = 81 := ⟨by decide +kernel, rfl⟩
theorem dX9_layWithin_81 : decode cX9_layWithin 81 = .ok (.getfield 34, 3) ∧ 81 + 3 = 84 := ⟨by decide +kernel, rfl⟩
theorem dX9_layWithin_84 : decode cX9_layWithin 84 = .ok (.iload 5, 2) ∧ 84 + 2 = 86 := ⟨by decide +kernel, rfl⟩
theorem dX9_layWithin_86 : decode cX9_layWithin 86 = .ok (.baload, 1) ∧ 86 + 1 = 87 := ⟨by decide +kernel, rfl⟩
theorem dX9_layWithin_87 : decode cX9_layWithin 87 = .ok (.ifCond .ne 22, 3) ∧ 87 + 3 = 90 ∧ ((87 : Nat) : Int) + (22) = ((109 : Nat) : Int) := ⟨by decide +kernel, rfl, rfl⟩
theorem dX9_layWithin_90 : decode cX9_layWithin 90 = .ok (.aload_n 0, 1) ∧ 90 + 1 = 91 := ⟨by decide +kernel, rfl⟩
theorem dX9_layWithin_91 : decode cX9_layWithin 91 = .ok (.getfield 34, 3) ∧ 91 + 3 = 94 := ⟨by decide +kernel, rfl⟩
theorem dX9_layWithin_94 : decode cX9_layWithin 94 = .ok (.iload 5, 2) ∧ 94 + 2 = 96 := ⟨by decide +kernel, rfl⟩
theorem dX9_layWithin_96 : decode cX9_layWithin 96 = .ok (.iconst 1, 1) ∧ 96 + 1 = 97 := ⟨by decide +kernel, rfl⟩
theorem dX9_layWithin_97 : decode cX9_layWithin 97 = .ok (.bastore, 1) ∧ 97 + 1 = 98 := ⟨by decide +kernel, rfl⟩
theorem dX9_layWithin_98 : decode cX9_layWithin 98 = .ok (.aload_n 0, 1) ∧ 98 + 1 = 99 := ⟨by decide +kernel, rfl⟩
theorem dX9_layWithin_99 : decode cX9_layWithin 99 = .ok (.getfield 38, 3) ∧ 99 + 3 = 102 := ⟨by decide +kernel, rfl⟩
theorem dX9_layWithin_102 : decode cX9_layWithin 102 = .ok (.iload_n 2, 1) ∧ 102 + 1 = 103 := ⟨by decide +kernel, rfl⟩
theorem dX9_layWithin_103 : decode cX9_layWithin 103 = .ok (.iload 5, 2) ∧ 103 + 2 = 105 := ⟨by decide +kernel, rfl⟩
theorem dX9_layWithin_105 : decode cX9_layWithin 105 = .ok (.iastore, 1) ∧ 105 + 1 = 106 := ⟨by decide +kernel, rfl⟩
theorem dX9_layWithin_106 : decode cX9_layWithin 106 = .ok (.iinc 2 1, 3) ∧ 106 + 3 = 109 := ⟨by decide +kernel, rfl⟩
theorem dX9_layWithin_109 : decode cX9_layWithin 109 = .ok (.iinc 4 1, 3) ∧ 109 + 3 = 112 := ⟨by decide +kernel, rfl⟩
theorem dX9_layWithin_112 : decode cX9_layWithin 112 = .ok (.goto (-63), 3) ∧ 112 + 3 = 115 ∧ ((112 : Nat) : Int) + (-63) = ((49 : Nat) : Int) := ⟨by decide +kernel, rfl, rfl⟩
theorem dX9_layWithin_115 : decode cX9_layWithin 115 = .ok (.iinc 3 1, 3) ∧ 115 + 3 = 118 := ⟨by decide +kernel, rfl⟩
theorem dX9_layWithin_118 : decode cX9_layWithin 118 = .ok (.goto (-77), 3) ∧ 118 + 3 = 121 ∧ ((118 : Nat) : Int) + (-77) = ((41 : Nat) : Int) := ⟨by decide +kernel, rfl, rfl⟩
theorem dX9_layWithin_121 : decode cX9_layWithin 121 = .ok (.iload_n 2, 1) ∧ 121 + 1 = 122 := ⟨by decide +kernel, rfl⟩
theorem dX9_layWithin_122 : decode cX9_layWithin 122 = .ok (.ireturn, 1) ∧ 122 + 1 = 123 := ⟨by decide +kernel, rfl⟩
theorem dX9_addKid_0 : decode cX9_addKid 0 = .ok (.aload_n 0, 1) ∧ 0 + 1 = 1 := ⟨by decide +kernel, rfl⟩
theorem dX9_addKid_1 : decode cX9_addKid 1 = .ok (.iload_n 1, 1) ∧ 1 + 1 = 2 := ⟨by decide +kernel, rfl⟩
theorem dX9_addKid_2 : decode cX9_addKid 2 = .ok (.bipush 12, 2) ∧ 2 + 2 = 4 := ⟨by decide +kernel, rfl⟩
theorem dX9_addKid_4 : decode cX9_addKid 4 = .ok (.aload_n 0, 1) ∧ 4 + 1 = 5 := ⟨by decide +kernel, rfl⟩
theorem dX9_addKid_5 : decode cX9_addKid 5 = .ok (.iload_n 1, 1) ∧ 5 + 1 = 6 := ⟨by decide +kernel, rfl⟩
theorem dX9_addKid_6 : decode cX9_addKid 6 = .ok (.bipush 11, 2) ∧ 6 + 2 = 8 := ⟨by decide +kernel, rfl⟩
theorem dX9_addKid_8 : decode cX9_addKid 8 = .ok (.invokevirtual 64, 3) ∧ 8 + 3 = 11 := ⟨by decide +kernel, rfl⟩
theorem dX9_addKid_11 : decode cX9_addKid 11 = .ok (.iadd, 1) ∧ 11 + 1 = 12 := ⟨by decide +kernel, rfl⟩
theorem dX9_addKid_12 : decode cX9_addKid 12 = .ok (.iload_n 2, 1) ∧ 12 + 1 = 13 := ⟨by decide +kernel, rfl⟩
theorem dX9_addKid_13 : decode cX9_addKid 13 = .ok (.invokevirtual 91, 3) ∧ 13 + 3 = 16 := ⟨by decide +kernel, rfl⟩
theorem dX9_addKid_16 : decode cX9_addKid 16 = .ok (.aload_n 0, 1) ∧ 16 + 1 = 17 := ⟨by decide +kernel, rfl⟩
theorem dX9_addKid_17 : decode cX9_addKid 17 = .ok (.iload_n 1, 1) ∧ 17 + 1 = 18 := ⟨by decide +kernel, rfl⟩
theorem dX9_addKid_18 : decode cX9_addKid 18 = .ok (.bipush 11, 2) ∧ 18 + 2 = 20 := ⟨by decide +kernel, rfl⟩
theorem dX9_addKid_20 : decode cX9_addKid 20 = .ok (.aload_n 0, 1) ∧ 20 + 1 = 21 := ⟨by decide +kernel, rfl⟩
theorem dX9_addKid_21 : decode cX9_addKid 21 = .ok (.iload_n 1, 1) ∧ 21 + 1 = 22 := ⟨by decide +kernel, rfl⟩
theorem dX9_addKid_22 : decode cX9_addKid 22 = .ok (.bipush 11, 2) ∧ 22 + 2 = 24 := ⟨by decide +kernel, rfl⟩
theorem dX9_addKid_24 : decode cX9_addKid 24 = .ok (.invokevirtual 64, 3) ∧ 24 + 3 = 27 := ⟨by decide +kernel, rfl⟩
theorem dX9_addKid_27 : decode cX9_addKid 27 = .ok (.iconst 1, 1) ∧ 27 + 1 = 28 := ⟨by decide +kernel, rfl⟩
theorem dX9_addKid_28 : decode cX9_addKid 28 = .ok (.iadd, 1) ∧ 28 + 1 = 29 := ⟨by decide +kernel, rfl⟩
theorem dX9_addKid_29 : decode cX9_addKid 29 = .ok (.invokevirtual 91, 3) ∧ 29 + 3 = 32 := ⟨by decide +kernel, rfl⟩
theorem dX9_addKid_32 : decode cX9_addKid 32 = .ok (.return_, 1) ∧ 32 + 1 = 33 := ⟨by decide +kernel, rfl⟩
theorem dX9_takeKid_0 : decode cX9_takeKid 0 = .ok (.aload_n 0, 1) ∧ 0 + 1 = 1 := ⟨by decide +kernel, rfl⟩
theorem dX9_takeKid_1 : decode cX9_takeKid 1 = .ok (.iload_n 1, 1) ∧ 1 + 1 = 2 := ⟨by decide +kernel, rfl⟩
theorem dX9_takeKid_2 : decode cX9_takeKid 2 = .ok (.bipush 11, 2) ∧ 2 + 2 = 4 := ⟨by decide +kernel, rfl⟩
theorem dX9_takeKid_4 : decode cX9_takeKid 4 = .ok (.aload_n 0, 1) ∧ 4 + 1 = 5 := ⟨by decide +kernel, rfl⟩
theorem dX9_takeKid_5 : decode cX9_takeKid 5 = .ok (.iload_n 1, 1) ∧ 5 + 1 = 6 := ⟨by decide +kernel, rfl⟩
theorem dX9_takeKid_6 : decode cX9_takeKid 6 = .ok (.bipush 11, 2) ∧ 6 + 2 = 8 := ⟨by decide +kernel, rfl⟩
theorem dX9_takeKid_8 : decode cX9_takeKid 8 = .ok (.invokevirtual 64, 3) ∧ 8 + 3 = 11 := ⟨by decide +kernel, rfl⟩
theorem dX9_takeKid_11 : decode cX9_takeKid 11 = .ok (.iconst 1, 1) ∧ 11 + 1 = 12 := ⟨by decide +kernel, rfl⟩
theorem dX9_takeKid_12 : decode cX9_takeKid 12 = .ok (.isub, 1) ∧ 12 + 1 = 13 := ⟨by decide +kernel, rfl⟩
theorem dX9_takeKid_13 : decode cX9_takeKid 13 = .ok (.invokevirtual 91, 3) ∧ 13 + 3 = 16 := ⟨by decide +kernel, rfl⟩
theorem dX9_takeKid_16 : decode cX9_takeKid 16 = .ok (.iload_n 2, 1) ∧ 16 + 1 = 17 := ⟨by decide +kernel, rfl⟩
theorem dX9_takeKid_17 : decode cX9_takeKid 17 = .ok (.istore_n 3, 1) ∧ 17 + 1 = 18 := ⟨by decide +kernel, rfl⟩
theorem dX9_takeKid_18 : decode cX9_takeKid 18 = .ok (.iload_n 3, 1) ∧ 18 + 1 = 19 := ⟨by decide +kernel, rfl⟩
theorem dX9_takeKid_19 : decode cX9_takeKid 19 = .ok (.aload_n 0, 1) ∧ 19 + 1 = 20 := ⟨by decide +kernel, rfl⟩
theorem dX9_takeKid_20 : decode cX9_takeKid 20 = .ok (.iload_n 1, 1) ∧ 20 + 1 = 21 := ⟨by decide +kernel, rfl⟩
theorem dX9_takeKid_21 : decode cX9_takeKid 21 = .ok (.bipush 11, 2) ∧ 21 + 2 = 23 := ⟨by decide +kernel, rfl⟩
theorem dX9_takeKid_23 : decode cX9_takeKid 23 = .ok (.invokevirtual 64, 3) ∧ 23 + 3 = 26 := ⟨by decide +kernel, rfl⟩
theorem dX9_takeKid_26 : decode cX9_takeKid 26 = .ok (.if_icmp .ge 26, 3) ∧ 26 + 3 = 29 ∧ ((26 : Nat) : Int) + (26) = ((52 : Nat) : Int) := ⟨by decide +kernel, rfl, rfl⟩
theorem dX9_takeKid_29 : decode cX9_takeKid 29 = .ok (.aload_n 0, 1) ∧ 29 + 1 = 30 := ⟨by decide +kernel, rfl⟩
theorem dX9_takeKid_30 : decode cX9_takeKid 30 = .ok (.iload_n 1, 1) ∧ 30 + 1 = 31 := ⟨by decide +kernel, rfl⟩
theorem dX9_takeKid_31 : decode cX9_takeKid 31 = .ok (.bipush 12, 2) ∧ 31 + 2 = 33 := ⟨by decide +kernel, rfl⟩
theorem dX9_takeKid_33 : decode cX9_takeKid 33 = .ok (.iload_n 3, 1) ∧ 33 + 1 = 34 := ⟨by decide +kernel, rfl⟩
theorem dX9_takeKid_34 : decode cX9_takeKid 34 = .ok (.iadd, 1) ∧ 34 + 1 = 35 := ⟨by decide +kernel, rfl⟩
theorem dX9_takeKid_35 : decode cX9_takeKid 35 = .ok (.aload_n 0, 1) ∧ 35 + 1 = 36 := ⟨by decide +kernel, rfl⟩
theorem dX9_takeKid_36 : decode cX9_takeKid 36 = .ok (.iload_n 1, 1) ∧ 36 + 1 = 37 := ⟨by decide +kernel, rfl⟩
theorem dX9_takeKid_37 : decode cX9_takeKid 37 = .ok (.iload_n 3, 1) ∧ 37 + 1 = 38 := ⟨by decide +kernel, rfl⟩
theorem dX9_takeKid_38 : decode cX9_takeKid 38 = .ok (.iconst 1, 1) ∧ 38 + 1 = 39 := ⟨by decide +kernel, rfl⟩
theorem dX9_takeKid_39 : decode cX9_takeKid 39 = .ok (.iadd, 1) ∧ 39 + 1 = 40 := ⟨by decide +kernel, rfl⟩
theorem dX9_takeKid_40 : decode cX9_takeKid 40 = .ok (.invokevirtual 71, 3) ∧ 40 + 3 = 43 := ⟨by decide +kernel, rfl⟩
theorem dX9_takeKid_43 : decode cX9_takeKid 43 = .ok (.invokevirtual 91, 3) ∧ 43 + 3 = 46 := ⟨by decide +kernel, rfl⟩
theorem dX9_takeKid_46 : decode cX9_takeKid 46 = .ok (.iinc 3 1, 3) ∧ 46 + 3 = 49 := ⟨by decide +kernel, rfl⟩
theorem dX9_takeKid_49 : decode cX9_takeKid 49 = .ok (.goto (-31), 3) ∧ 49 + 3 = 52 ∧ ((49 : Nat) : Int) + (-31) = ((18 : Nat) : Int) := ⟨by decide +kernel, rfl, rfl⟩
theorem dX9_takeKid_52 : decode cX9_takeKid 52 = .ok (.return_, 1) ∧ 52 + 1 = 53 := ⟨by decide +kernel, rfl⟩
theorem dX9_writeText_0 : decode cX9_writeText 0 = .ok (.aload_n 0, 1) ∧ 0 + 1 = 1 := ⟨by decide +kernel, rfl⟩
theorem dX9_writeText_1 : decode cX9_writeText 1 = .ok (.iload_n 1, 1) ∧ 1 + 1 = 2 := ⟨by decide +kernel, rfl⟩
theorem dX9_writeText_2 : decode cX9_writeText 2 = .ok (.iconst 1, 1) ∧ 2 + 1 = 3 := ⟨by decide +kernel, rfl⟩
theorem dX9_writeText_3 : decode cX9_writeText 3 = .ok (.aload_n 0, 1) ∧ 3 + 1 = 4 := ⟨by decide +kernel, rfl⟩
theorem dX9_writeText_4 : decode cX9_writeText 4 = .ok (.getfield 95, 3) ∧ 4 + 3 = 7 := ⟨by decide +kernel, rfl⟩
theorem dX9_writeText_7 : decode cX9_writeText 7 = .ok (.invokevirtual 91, 3) ∧ 7 + 3 = 10 := ⟨by decide +kernel, rfl⟩
theorem dX9_writeText_10 : decode cX9_writeText 10 = .ok (.iconst 0, 1) ∧ 10 + 1 = 11 := ⟨by decide +kernel, rfl⟩
theorem dX9_writeText_11 : decode cX9_writeText 11 = .ok (.istore_n 2, 1) ∧ 11 + 1 = 12 := ⟨by decide +kernel, rfl⟩
theorem dX9_writeText_12 : decode cX9_writeText 12 = .ok (.iload_n 2, 1) ∧ 12 + 1 = 13 := ⟨by decide +kernel, rfl⟩
theorem dX9_writeText_13 : decode cX9_writeText 13 = .ok (.aload_n 0, 1) ∧ 13 + 1 = 14 := ⟨by decide +kernel, rfl⟩
theorem dX9_writeText_14 : decode cX9_writeText 14 = .ok (.getfield 95, 3) ∧ 14 + 3 = 17 := ⟨by decide +kernel, rfl⟩
theorem dX9_writeText_17 : decode cX9_writeText 17 = .ok (.if_icmp .ge 23, 3) ∧ 17 + 3 = 20 ∧ ((17 : Nat) : Int) + (23) = ((40 : Nat) : Int) := ⟨by decide +kernel, rfl, rfl⟩
theorem dX9_writeText_20 : decode cX9_writeText 20 = .ok (.aload_n 0, 1) ∧ 20 + 1 = 21 := ⟨by decide +kernel, rfl⟩
theorem dX9_writeText_21 : decode cX9_writeText 21 = .ok (.iload_n 1, 1) ∧ 21 + 1 = 22 := ⟨by decide +kernel, rfl⟩
theorem dX9_writeText_22 : decode cX9_writeText 22 = .ok (.iconst 2, 1) ∧ 22 + 1 = 23 := ⟨by decide +kernel, rfl⟩
theorem dX9_writeText_23 : decode cX9_writeText 23 = .ok (.iload_n 2, 1) ∧ 23 + 1 = 24 := ⟨by decide +kernel, rfl⟩
theorem dX9_writeText_24 : decode cX9_writeText 24 = .ok (.iadd, 1) ∧ 24 + 1 = 25 := ⟨by decide +kernel, rfl⟩
theorem dX9_writeText_25 : decode cX9_writeText 25 = .ok (.aload_n 0, 1) ∧ 25 + 1 = 26 := ⟨by decide +kernel, rfl⟩
theorem dX9_writeText_26 : decode cX9_writeText 26 = .ok (.getfield 41, 3) ∧ 26 + 3 = 29 := ⟨by decide +kernel, rfl⟩
theorem dX9_writeText_29 : decode cX9_writeText 29 = .ok (.iload_n 2, 1) ∧ 29 + 1 = 30 := ⟨by decide +kernel, rfl⟩
theorem dX9_writeText_30 : decode cX9_writeText 30 = .ok (.caload, 1) ∧ 30 + 1 = 31 := ⟨by decide +kernel, rfl⟩
theorem dX9_writeText_31 : decode cX9_writeText 31 = .ok (.invokevirtual 91, 3) ∧ 31 + 3 = 34 := ⟨by decide +kernel, rfl⟩
theorem dX9_writeText_34 : decode cX9_writeText 34 = .ok (.iinc 2 1, 3) ∧ 34 + 3 = 37 := ⟨by decide +kernel, rfl⟩
theorem dX9_writeText_37 : decode cX9_writeText 37 = .ok (.goto (-25), 3) ∧ 37 + 3 = 40 ∧ ((37 : Nat) : Int) + (-25) = ((12 : Nat) : Int) := ⟨by decide +kernel, rfl, rfl⟩
theorem dX9_writeText_40 : decode cX9_writeText 40 = .ok (.return_, 1) ∧ 40 + 1 = 41 := ⟨by decide +kernel, rfl⟩
theorem dX9_make_0 : decode cX9_make 0 = .ok (.iconst 0, 1) ∧ 0 + 1 = 1 := ⟨by decide +kernel, rfl⟩
theorem dX9_make_1 : decode cX9_make 1 = .ok (.istore_n 2, 1) ∧ 1 + 1 = 2 := ⟨by decide +kernel, rfl⟩
theorem dX9_make_2 : decode cX9_make 2 = .ok (.iload_n 2, 1) ∧ 2 + 1 = 3 := ⟨by decide +kernel, rfl⟩
theorem dX9_make_3 : decode cX9_make 3 = .ok (.bipush 52, 2) ∧ 3 + 2 = 5 := ⟨by decide +kernel, rfl⟩
theorem dX9_make_5 : decode cX9_make 5 = .ok (.if_icmp .ge 16, 3) ∧ 5 + 3 = 8 ∧ ((5 : Nat) : Int) + (16) = ((21 : Nat) : Int) := ⟨by decide +kernel, rfl, rfl⟩
theorem dX9_make_8 : decode cX9_make 8 = .ok (.aload_n 0, 1) ∧ 8 + 1 = 9 := ⟨by decide +kernel, rfl⟩
theorem dX9_make_9 : decode cX9_make 9 = .ok (.iload_n 1, 1) ∧ 9 + 1 = 10 := ⟨by decide +kernel, rfl⟩
theorem dX9_make_10 : decode cX9_make 10 = .ok (.iload_n 2, 1) ∧ 10 + 1 = 11 := ⟨by decide +kernel, rfl⟩
theorem dX9_make_11 : decode cX9_make 11 = .ok (.iconst 0, 1) ∧ 11 + 1 = 12 := ⟨by decide +kernel, rfl⟩
theorem dX9_make_12 : decode cX9_make 12 = .ok (.invokevirtual 91, 3) ∧ 12 + 3 = 15 := ⟨by decide +kernel, rfl⟩
theorem dX9_make_15 : decode cX9_make 15 = .ok (.iinc 2 1, 3) ∧ 15 + 3 = 18 := ⟨by decide +kernel, rfl⟩
theorem dX9_make_18 : decode cX9_make 18 = .ok (.goto (-16), 3) ∧ 18 + 3 = 21 ∧ ((18 : Nat) : Int) + (-16) = ((2 : Nat) : Int) := ⟨by decide +kernel, rfl, rfl⟩
theorem dX9_make_21 : decode cX9_make 21 = .ok (.aload_n 0, 1) ∧ 21 + 1 = 22 := ⟨by decide +kernel, rfl⟩
theorem dX9_make_22 : decode cX9_make 22 = .ok (.iload_n 1, 1) ∧ 22 + 1 = 23 := ⟨by decide +kernel, rfl⟩
theorem dX9_make_23 : decode cX9_make 23 = .ok (.iconst 0, 1) ∧ 23 + 1 = 24 := ⟨by decide +kernel, rfl⟩
theorem dX9_make_24 : decode cX9_make 24 = .ok (.iconst 1, 1) ∧ 24 + 1 = 25 := ⟨by decide +kernel, rfl⟩
theorem dX9_make_25 : decode cX9_make 25 = .ok (.invokevirtual 91, 3) ∧ 25 + 3 = 28 := ⟨by decide +kernel, rfl⟩
theorem dX9_make_28 : decode cX9_make 28 = .ok (.return_, 1) ∧ 28 + 1 = 29 := ⟨by decide +kernel, rfl⟩
theorem dX9_add_0 : decode cX9_add 0 = .ok (.aload_n 0, 1) ∧ 0 + 1 = 1 := ⟨by decide +kernel, rfl⟩
theorem dX9_add_1 : decode cX9_add 1 = .ok (.iload_n 1, 1) ∧ 1 + 1 = 2 := ⟨by decide +kernel, rfl⟩
theorem dX9_add_2 : decode cX9_add 2 = .ok (.invokevirtual 98, 3) ∧ 2 + 3 = 5 := ⟨by decide +kernel, rfl⟩
theorem dX9_add_5 : decode cX9_add 5 = .ok (.istore_n 2, 1) ∧ 5 + 1 = 6 := ⟨by decide +kernel, rfl⟩
theorem dX9_add_6 : decode cX9_add 6 = .ok (.iload_n 2, 1) ∧ 6 + 1 = 7 := ⟨by decide +kernel, rfl⟩
theorem dX9_add_7 : decode cX9_add 7 = .ok (.bipush (-6), 2) ∧ 7 + 2 = 9 := ⟨by decide +kernel, rfl⟩
theorem dX9_add_9 : decode cX9_add 9 = .ok (.if_icmp .ne 6, 3) ∧ 9 + 3 = 12 ∧ ((9 : Nat) : Int) + (6) = ((15 : Nat) : Int) := ⟨by decide +kernel, rfl, rfl⟩
theorem dX9_add_12 : decode cX9_add 12 = .ok (.bipush (-2), 2) ∧ 12 + 2 = 14 := ⟨by decide +kernel, rfl⟩
theorem dX9_add_14 : decode cX9_add 14 = .ok (.ireturn, 1) ∧ 14 + 1 = 15 := ⟨by decide +kernel, rfl⟩
theorem dX9_add_15 : decode cX9_add 15 = .ok (.aload_n 0, 1) ∧ 15 + 1 = 16 := ⟨by decide +kernel, rfl⟩
theorem dX9_add_16 : decode cX9_add 16 = .ok (.getfield 95, 3) ∧ 16 + 3 = 19 := ⟨by decide +kernel, rfl⟩
theorem dX9_add_19 : decode cX9_add 19 = .ok (.iconst 1, 1) ∧ 19 + 1 = 20 := ⟨by decide +kernel, rfl⟩
theorem dX9_add_20 : decode cX9_add 20 = .ok (.bipush 8, 2) ∧ 20 + 2 = 22 := ⟨by decide +kernel, rfl⟩
theorem dX9_add_22 : decode cX9_add 22 = .ok (.invokestatic 101, 3) ∧ 22 + 3 = 25 := ⟨by decide +kernel, rfl⟩
theorem dX9_add_25 : decode cX9_add 25 = .ok (.ifCond .ne 6, 3) ∧ 25 + 3 = 28 ∧ ((25 : Nat) : Int) + (6) = ((31 : Nat) : Int) := ⟨by decide +kernel, rfl, rfl⟩
theorem dX9_add_28 : decode cX9_add 28 = .ok (.bipush (-3), 2) ∧ 28 + 2 = 30 := ⟨by decide +kernel, rfl⟩
theorem dX9_add_30 : decode cX9_add 30 = .ok (.ireturn, 1) ∧ 30 + 1 = 31 := ⟨by decide +kernel, rfl⟩
theorem dX9_add_31 : decode cX9_add 31 = .ok (.aload_n 0, 1) ∧ 31 + 1 = 32 := ⟨by decide +kernel, rfl⟩
theorem dX9_add_32 : decode cX9_add 32 = .ok (.getfield 7, 3) ∧ 32 + 3 = 35 := ⟨by decide +kernel, rfl⟩
theorem dX9_add_35 : decode cX9_add 35 = .ok (.iconst 0, 1) ∧ 35 + 1 = 36 := ⟨by decide +kernel, rfl⟩
theorem dX9_add_36 : decode cX9_add 36 = .ok (.iaload, 1) ∧ 36 + 1 = 37 := ⟨by decide +kernel, rfl⟩
theorem dX9_add_37 : decode cX9_add 37 = .ok (.bipush 40, 2) ∧ 37 + 2 = 39 := ⟨by decide +kernel, rfl⟩
theorem dX9_add_39 : decode cX9_add 39 = .ok (.if_icmp .ne 6, 3) ∧ 39 + 3 = 42 ∧ ((39 : Nat) : Int) + (6) = ((45 : Nat) : Int) := ⟨by decide +kernel, rfl, rfl⟩
theorem dX9_add_42 : decode cX9_add 42 = .ok (.bipush (-4), 2) ∧ 42 + 2 = 44 := ⟨by decide +kernel, rfl⟩
theorem dX9_add_44 : decode cX9_add 44 = .ok (.ireturn, 1) ∧ 44 + 1 = 45 := ⟨by decide +kernel, rfl⟩
theorem dX9_add_45 : decode cX9_add 45 = .ok (.aload_n 0, 1) ∧ 45 + 1 = 46 := ⟨by decide +kernel, rfl⟩
theorem dX9_add_46 : decode cX9_add 46 = .ok (.invokevirtual 105, 3) ∧ 46 + 3 = 49 := ⟨by decide +kernel, rfl⟩
theorem dX9_add_49 : decode cX9_add 49 = .ok (.aload_n 0, 1) ∧ 49 + 1 = 50 := ⟨by decide +kernel, rfl⟩
theorem dX9_add_50 : decode cX9_add 50 = .ok (.getfield 7, 3) ∧ 50 + 3 = 53 := ⟨by decide +kernel, rfl⟩
theorem dX9_add_53 : decode cX9_add 53 = .ok (.iconst 0, 1) ∧ 53 + 1 = 54 := ⟨by decide +kernel, rfl⟩
theorem dX9_add_54 : decode cX9_add 54 = .ok (.dup2, 1) ∧ 54 + 1 = 55 := ⟨by decide +kernel, rfl⟩
theorem dX9_add_55 : decode cX9_add 55 = .ok (.iaload, 1) ∧ 55 + 1 = 56 := ⟨by decide +kernel, rfl⟩
theorem dX9_add_56 : decode cX9_add 56 = .ok (.iconst 1, 1) ∧ 56 + 1 = 57 := ⟨by decide +kernel, rfl⟩
theorem dX9_add_57 : decode cX9_add 57 = .ok (.iadd, 1) ∧ 57 + 1 = 58 := ⟨by decide +kernel, rfl⟩
theorem dX9_add_58 : decode cX9_add 58 = .ok (.iastore, 1) ∧ 58 + 1 = 59 := ⟨by decide +kernel, rfl⟩
theorem dX9_add_59 : decode cX9_add 59 = .ok (.aload_n 0, 1) ∧ 59 + 1 = 60 := ⟨by decide +kernel, rfl⟩
theorem dX9_add_60 : decode cX9_add 60 = .ok (.getfield 7, 3) ∧ 60 + 3 = 63 := ⟨by decide +kernel, rfl⟩
theorem dX9_add_63 : decode cX9_add 63 = .ok (.iconst 0, 1) ∧ 63 + 1 = 64 := ⟨by decide +kernel, rfl⟩
theorem dX9_add_64 : decode cX9_add 64 = .ok (.iaload, 1) ∧ 64 + 1 = 65 := ⟨by decide +kernel, rfl⟩
theorem dX9_add_65 : decode cX9_add 65 = .ok (.istore_n 3, 1) ∧ 65 + 1 = 66 := ⟨by decide +kernel, rfl⟩
theorem dX9_add_66 : decode cX9_add 66 = .ok (.aload_n 0, 1) ∧ 66 + 1 = 67 := ⟨by decide +kernel, rfl⟩
theorem dX9_add_67 : decode cX9_add 67 = .ok (.iload_n 3, 1) ∧ 67 + 1 = 68 := ⟨by decide +kernel, rfl⟩
theorem dX9_add_68 : decode cX9_add 68 = .ok (.invokevirtual 108, 3) ∧ 68 + 3 = 71 := ⟨by decide +kernel, rfl⟩
theorem dX9_add_71 : decode cX9_add 71 = .ok (.aload_n 0, 1) ∧ 71 + 1 = 72 := ⟨by decide +kernel, rfl⟩
theorem dX9_add_72 : decode cX9_add 72 = .ok (.iload_n 3, 1) ∧ 72 + 1 = 73 := ⟨by decide +kernel, rfl⟩
theorem dX9_add_73 : decode cX9_add 73 = .ok (.invokevirtual 112, 3) ∧ 73 + 3 = 76 := ⟨by decide +kernel, rfl⟩
theorem dX9_add_76 : decode cX9_add 76 = .ok (.aload_n 0, 1) ∧ 76 + 1 = 77 := ⟨by decide +kernel, rfl⟩
theorem dX9_add_77 : decode cX9_add 77 = .ok (.iload_n 2, 1) ∧ 77 + 1 = 78 := ⟨by decide +kernel, rfl⟩
theorem dX9_add_78 : decode cX9_add 78 = .ok (.iload_n 3, 1) ∧ 78 + 1 = 79 := ⟨by decide +kernel, rfl⟩
theorem dX9_add_79 : decode cX9_add 79 = .ok (.invokevirtual 115, 3) ∧ 79 + 3 = 82 := ⟨by decide +kernel, rfl⟩
theorem dX9_add_82 : decode cX9_add 82 = .ok (.aload_n 0, 1) ∧ 82 + 1 = 83 := ⟨by decide +kernel, rfl⟩
theorem dX9_add_83 : decode cX9_add 83 = .ok (.invokevirtual 119, 3) ∧ 83 + 3 = 86 := ⟨by decide +kernel, rfl⟩
theorem dX9_add_86 : decode cX9_add 86 = .ok (.ifCond .ne 10, 3) ∧ 86 + 3 = 89 ∧ ((86 : Nat) : Int) + (10) = ((96 : Nat) : Int) := ⟨by decide +kernel, rfl, rfl⟩
theorem dX9_add_89 : decode cX9_add 89 = .ok (.aload_n 0, 1) ∧ 89 + 1 = 90 := ⟨by decide +kernel, rfl⟩
theorem dX9_add_90 : decode cX9_add 90 = .ok (.invokevirtual 123, 3) ∧ 90 + 3 = 93 := ⟨by decide +kernel, rfl⟩
theorem dX9_add_93 : decode cX9_add 93 = .ok (.bipush (-4), 2) ∧ 93 + 2 = 95 := ⟨by decide +kernel, rfl⟩
theorem dX9_add_95 : decode cX9_add 95 = .ok (.ireturn, 1) ∧ 95 + 1 = 96 := ⟨by decide +kernel, rfl⟩
theorem dX9_add_96 : decode cX9_add 96 = .ok (.aload_n 0, 1) ∧ 96 + 1 = 97 := ⟨by decide +kernel, rfl⟩
theorem dX9_add_97 : decode cX9_add 97 = .ok (.invokevirtual 126, 3) ∧ 97 + 3 = 100 := ⟨by decide +kernel, rfl⟩
theorem dX9_add_100 : decode cX9_add 100 = .ok (.iload_n 3, 1) ∧ 100 + 1 = 101 := ⟨by decide +kernel, rfl⟩
theorem dX9_add_101 : decode cX9_add 101 = .ok (.ireturn, 1) ∧ 101 + 1 = 102 := ⟨by decide +kernel, rfl⟩
theorem dX9_mayStand_0 : decode cX9_mayStand 0 = .ok (.aload_n 0, 1) ∧ 0 + 1 = 1 := ⟨by decide +kernel, rfl⟩
theorem dX9_mayStand_1 : decode cX9_mayStand 1 = .ok (.iload_n 1, 1) ∧ 1 + 1 = 2 := ⟨by decide +kernel, rfl⟩
theorem dX9_mayStand_2 : decode cX9_mayStand 2 = .ok (.invokevirtual 129, 3) ∧ 2 + 3 = 5 := ⟨by decide +kernel, rfl⟩
theorem dX9_mayStand_5 : decode cX9_mayStand 5 = .ok (.pop, 1) ∧ 5 + 1 = 6 := ⟨by decide +kernel, rfl⟩
theorem dX9_mayStand_6 : decode cX9_mayStand 6 = .ok (.aload_n 0, 1) ∧ 6 + 1 = 7 := ⟨by decide +kernel, rfl⟩
theorem dX9_mayStand_7 : decode cX9_mayStand 7 = .ok (.getfield 34, 3) ∧ 7 + 3 = 10 := ⟨by decide +kernel, rfl⟩
theorem dX9_mayStand_10 : decode cX9_mayStand 10 = .ok (.iload_n 2, 1) ∧ 10 + 1 = 11 := ⟨by decide +kernel, rfl⟩
theorem dX9_mayStand_11 : decode cX9_mayStand 11 = .ok (.baload, 1) ∧ 11 + 1 = 12 := ⟨by decide +kernel, rfl⟩
theorem dX9_mayStand_12 : decode cX9_mayStand 12 = .ok (.ifCond .ne 18, 3) ∧ 12 + 3 = 15 ∧ ((12 : Nat) : Int) + (18) = ((30 : Nat) : Int) := ⟨by decide +kernel, rfl, rfl⟩
theorem dX9_mayStand_15 : decode cX9_mayStand 15 = .ok (.aload_n 0, 1) ∧ 15 + 1 = 16 := ⟨by decide +kernel, rfl⟩
theorem dX9_mayStand_16 : decode cX9_mayStand 16 = .ok (.iload_n 2, 1) ∧ 16 + 1 = 17 := ⟨by decide +kernel, rfl⟩
theorem dX9_mayStand_17 : decode cX9_mayStand 17 = .ok (.iload_n 1, 1) ∧ 17 + 1 = 18 := ⟨by decide +kernel, rfl⟩
theorem dX9_mayStand_18 : decode cX9_mayStand 18 = .ok (.invokevirtual 132, 3) ∧ 18 + 3 = 21 := ⟨by decide +kernel, rfl⟩
theorem dX9_mayStand_21 : decode cX9_mayStand 21 = .ok (.bipush (-6), 2) ∧ 21 + 2 = 23 := ⟨by decide +kernel, rfl⟩
theorem dX9_mayStand_23 : decode cX9_mayStand 23 = .ok (.if_icmp .ne 7, 3) ∧ 23 + 3 = 26 ∧ ((23 : Nat) : Int) + (7) = ((30 : Nat) : Int) := ⟨by decide +kernel, rfl, rfl⟩
theorem dX9_mayStand_26 : decode cX9_mayStand 26 = .ok (.iconst 1, 1) ∧ 26 + 1 = 27 := ⟨by decide +kernel, rfl⟩
theorem dX9_mayStand_27 : decode cX9_mayStand 27 = .ok (.goto 4, 3) ∧ 27 + 3 = 30 ∧ ((27 : Nat) : Int) + (4) = ((31 : Nat) : Int) := ⟨by decide +kernel, rfl, rfl⟩
theorem dX9_mayStand_30 : decode cX9_mayStand 30 = .ok (.iconst 0, 1) ∧ 30 + 1 = 31 := ⟨by decide +kernel, rfl⟩
theorem dX9_mayStand_31 : decode cX9_mayStand 31 = .ok (.ireturn, 1) ∧ 31 + 1 = 32 := ⟨by decide +kernel, rfl⟩
theorem dX9_cloneTo_0 : decode cX9_cloneTo 0 = .ok (.aload_n 0, 1) ∧ 0 + 1 = 1 := ⟨by decide +kernel, rfl⟩
theorem dX9_cloneTo_1 : decode cX9_cloneTo 1 = .ok (.iload_n 1, 1) ∧ 1 + 1 = 2 := ⟨by decide +kernel, rfl⟩
theorem dX9_cloneTo_2 : decode cX9_cloneTo 2 = .ok (.invokevirtual 88, 3) ∧ 2 + 3 = 5 := ⟨by decide +kernel, rfl⟩
theorem dX9_cloneTo_5 : decode cX9_cloneTo 5 = .ok (.istore_n 3, 1) ∧ 5 + 1 = 6 := ⟨by decide +kernel, rfl⟩
theorem dX9_cloneTo_6 : decode cX9_cloneTo 6 = .ok (.aload_n 0, 1) ∧ 6 + 1 = 7 := ⟨by decide +kernel, rfl⟩
theorem dX9_cloneTo_7 : decode cX9_cloneTo 7 = .ok (.iload_n 2, 1) ∧ 7 + 1 = 8 := ⟨by decide +kernel, rfl⟩
theorem dX9_cloneTo_8 : decode cX9_cloneTo 8 = .ok (.invokevirtual 98, 3) ∧ 8 + 3 = 11 := ⟨by decide +kernel, rfl⟩
theorem dX9_cloneTo_11 : decode cX9_cloneTo 11 = .ok (.istore 4, 2) ∧ 11 + 2 = 13 := ⟨by decide +kernel, rfl⟩
theorem dX9_cloneTo_13 : decode cX9_cloneTo 13 = .ok (.iload_n 3, 1) ∧ 13 + 1 = 14 := ⟨by decide +kernel, rfl⟩
theorem dX9_cloneTo_14 : decode cX9_cloneTo 14 = .ok (.bipush (-6), 2) ∧ 14 + 2 = 16 := ⟨by decide +kernel, rfl⟩
theorem dX9_cloneTo_16 : decode cX9_cloneTo 16 = .ok (.if_icmp .eq 10, 3) ∧ 16 + 3 = 19 ∧ ((16 : Nat) : Int) + (10) = ((26 : Nat) : Int) := ⟨by decide +kernel, rfl, rfl⟩
theorem dX9_cloneTo_19 : decode cX9_cloneTo 19 = .ok (.iload 4, 2) ∧ 19 + 2 = 21 := ⟨by decide +kernel, rfl⟩
theorem dX9_cloneTo_21 : decode cX9_cloneTo 21 = .ok (.bipush (-6), 2) ∧ 21 + 2 = 23 := ⟨by decide +kernel, rfl⟩
theorem dX9_cloneTo_23 : decode cX9_cloneTo 23 = .ok (.if_icmp .ne 6, 3) ∧ 23 + 3 = 26 ∧ ((23 : Nat) : Int) + (6) = ((29 : Nat) : Int) := ⟨by decide +kernel, rfl, rfl⟩
theorem dX9_cloneTo_26 : decode cX9_cloneTo 26 = .ok (.bipush (-2), 2) ∧ 26 + 2 = 28 := ⟨by decide +kernel, rfl⟩
theorem dX9_cloneTo_28 : decode cX9_cloneTo 28 = .ok (.ireturn, 1) ∧ 28 + 1 = 29 := ⟨by decide +kernel, rfl⟩
theorem dX9_cloneTo_29 : decode cX9_cloneTo 29 = .ok (.aload_n 0, 1) ∧ 29 + 1 = 30 := ⟨by decide +kernel, rfl⟩
theorem dX9_cloneTo_30 : decode cX9_cloneTo 30 = .ok (.iload_n 3, 1) ∧ 30 + 1 = 31 := ⟨by decide +kernel, rfl⟩
theorem dX9_cloneTo_31 : decode cX9_cloneTo 31 = .ok (.iconst 0, 1) ∧ 31 + 1 = 32 := ⟨by decide +kernel, rfl⟩
theorem dX9_cloneTo_32 : decode cX9_cloneTo 32 = .ok (.invokevirtual 77, 3) ∧ 32 + 3 = 35 := ⟨by decide +kernel, rfl⟩
theorem dX9_cloneTo_35 : decode cX9_cloneTo 35 = .ok (.istore 5, 2) ∧ 35 + 2 = 37 := ⟨by decide +kernel, rfl⟩
theorem dX9_cloneTo_37 : decode cX9_cloneTo 37 = .ok (.aload_n 0, 1) ∧ 37 + 1 = 38 := ⟨by decide +kernel, rfl⟩
theorem dX9_cloneTo_38 : decode cX9_cloneTo 38 = .ok (.iload 5, 2) ∧ 38 + 2 = 40 := ⟨by decide +kernel, rfl⟩
theorem dX9_cloneTo_40 : decode cX9_cloneTo 40 = .ok (.iload 4, 2) ∧ 40 + 2 = 42 := ⟨by decide +kernel, rfl⟩
theorem dX9_cloneTo_42 : decode cX9_cloneTo 42 = .ok (.invokevirtual 135, 3) ∧ 42 + 3 = 45 := ⟨by decide +kernel, rfl⟩
theorem dX9_cloneTo_45 : decode cX9_cloneTo 45 = .ok (.ifCond .ne 6, 3) ∧ 45 + 3 = 48 ∧ ((45 : Nat) : Int) + (6) = ((51 : Nat) : Int) := ⟨by decide +kernel, rfl, rfl⟩
theorem dX9_cloneTo_48 : decode cX9_cloneTo 48 = .ok (.bipush (-5), 2) ∧ 48 + 2 = 50 := ⟨by decide +kernel, rfl⟩
theorem dX9_cloneTo_50 : decode cX9_cloneTo 50 = .ok (.ireturn, 1) ∧ 50 + 1 = 51 := ⟨by decide +kernel, rfl⟩
theorem dX9_cloneTo_51 : decode cX9_cloneTo 51 = .ok (.aload_n 0, 1) ∧ 51 + 1 = 52 := ⟨by decide +kernel, rfl⟩
theorem dX9_cloneTo_52 : decode cX9_cloneTo 52 = .ok (.invokevirtual 105, 3) ∧ 52 + 3 = 55 := ⟨by decide +kernel, rfl⟩
theorem dX9_cloneTo_55 : decode cX9_cloneTo 55 = .ok (.aload_n 0, 1) ∧ 55 + 1 = 56 := ⟨by decide +kernel, rfl⟩
theorem dX9_cloneTo_56 : decode cX9_cloneTo 56 = .ok (.iload 4, 2) ∧ 56 + 2 = 58 := ⟨by decide +kernel, rfl⟩
theorem dX9_cloneTo_58 : decode cX9_cloneTo 58 = .ok (.iload 5, 2) ∧ 58 + 2 = 60 := ⟨by decide +kernel, rfl⟩
theorem dX9_cloneTo_60 : decode cX9_cloneTo 60 = .ok (.invokevirtual 115, 3) ∧ 60 + 3 = 63 := ⟨by decide +kernel, rfl⟩
theorem dX9_cloneTo_63 : decode cX9_cloneTo 63 = .ok (.aload_n 0, 1) ∧ 63 + 1 = 64 := ⟨by decide +kernel, rfl⟩
theorem dX9_cloneTo_64 : decode cX9_cloneTo 64 = .ok (.invokevirtual 119, 3) ∧ 64 + 3 = 67 := ⟨by decide +kernel, rfl⟩
theorem dX9_cloneTo_67 : decode cX9_cloneTo 67 = .ok (.ifCond .ne 10, 3) ∧ 67 + 3 = 70 ∧ ((67 : Nat) : Int) + (10) = ((77 : Nat) : Int) := ⟨by decide +kernel, rfl, rfl⟩
theorem dX9_cloneTo_70 : decode cX9_cloneTo 70 = .ok (.aload_n 0, 1) ∧ 70 + 1 = 71 := ⟨by decide +kernel, rfl⟩
theorem dX9_cloneTo_71 : decode cX9_cloneTo 71 = .ok (.invokevirtual 123, 3) ∧ 71 + 3 = 74 := ⟨by decide +kernel, rfl⟩
theorem dX9_cloneTo_74 : decode cX9_cloneTo 74 = .ok (.bipush (-4), 2) ∧ 74 + 2 = 76 := ⟨by decide +kernel, rfl⟩
theorem dX9_cloneTo_76 : decode cX9_cloneTo 76 = .ok (.ireturn, 1) ∧ 76 + 1 = 77 := ⟨by decide +kernel, rfl⟩
theorem dX9_cloneTo_77 : decode cX9_cloneTo 77 = .ok (.aload_n 0, 1) ∧ 77 + 1 = 78 := ⟨by decide +kernel, rfl⟩
theorem dX9_cloneTo_78 : decode cX9_cloneTo 78 = .ok (.invokevirtual 126, 3) ∧ 78 + 3 = 81 := ⟨by decide +kernel, rfl⟩
theorem dX9_cloneTo_81 : decode cX9_cloneTo 81 = .ok (.aload_n 0, 1) ∧ 81 + 1 = 82 := ⟨by decide +kernel, rfl⟩
theorem dX9_cloneTo_82 : decode cX9_cloneTo 82 = .ok (.iload 5, 2) ∧ 82 + 2 = 84 := ⟨by decide +kernel, rfl⟩
theorem dX9_cloneTo_84 : decode cX9_cloneTo 84 = .ok (.invokevirtual 139, 3) ∧ 84 + 3 = 87 := ⟨by decide +kernel, rfl⟩
theorem dX9_cloneTo_87 : decode cX9_cloneTo 87 = .ok (.ireturn, 1) ∧ 87 + 1 = 88 := ⟨by decide +kernel, rfl⟩
theorem dX9_move_0 : decode cX9_move 0 = .ok (.aload_n 0, 1) ∧ 0 + 1 = 1 := ⟨by decide +kernel, rfl⟩
theorem dX9_move_1 : decode cX9_move 1 = .ok (.iload_n 1, 1) ∧ 1 + 1 = 2 := ⟨by decide +kernel, rfl⟩
theorem dX9_move_2 : decode cX9_move 2 = .ok (.invokevirtual 88, 3) ∧ 2 + 3 = 5 := ⟨by decide +kernel, rfl⟩
theorem dX9_move_5 : decode cX9_move 5 = .ok (.istore_n 3, 1) ∧ 5 + 1 = 6 := ⟨by decide +kernel, rfl⟩
theorem dX9_move_6 : decode cX9_move 6 = .ok (.aload_n 0, 1) ∧ 6 + 1 = 7 := ⟨by decide +kernel, rfl⟩
theorem dX9_move_7 : decode cX9_move 7 = .ok (.iload_n 2, 1) ∧ 7 + 1 = 8 := ⟨by decide +kernel, rfl⟩
theorem dX9_move_8 : decode cX9_move 8 = .ok (.invokevirtual 98, 3) ∧ 8 + 3 = 11 := ⟨by decide +kernel, rfl⟩
theorem dX9_move_11 : decode cX9_move 11 = .ok (.istore 4, 2) ∧ 11 + 2 = 13 := ⟨by decide +kernel, rfl⟩
theorem dX9_move_13 : decode cX9_move 13 = .ok (.iload_n 3, 1) ∧ 13 + 1 = 14 := ⟨by decide +kernel, rfl⟩
theorem dX9_move_14 : decode cX9_move 14 = .ok (.bipush (-6), 2) ∧ 14 + 2 = 16 := ⟨by decide +kernel, rfl⟩
theorem dX9_move_16 : decode cX9_move 16 = .ok (.if_icmp .eq 10, 3) ∧ 16 + 3 = 19 ∧ ((16 : Nat) : Int) + (10) = ((26 : Nat) : Int) := ⟨by decide +kernel, rfl, rfl⟩
theorem dX9_move_19 : decode cX9_move 19 = .ok (.iload 4, 2) ∧ 19 + 2 = 21 := ⟨by decide +kernel, rfl⟩
theorem dX9_move_21 : decode cX9_move 21 = .ok (.bipush (-6), 2) ∧ 21 + 2 = 23 := ⟨by decide +kernel, rfl⟩
theorem dX9_move_23 : decode cX9_move 23 = .ok (.if_icmp .ne 6, 3) ∧ 23 + 3 = 26 ∧ ((23 : Nat) : Int) + (6) = ((29 : Nat) : Int) := ⟨by decide +kernel, rfl, rfl⟩
theorem dX9_move_26 : decode cX9_move 26 = .ok (.bipush (-2), 2) ∧ 26 + 2 = 28 := ⟨by decide +kernel, rfl⟩
theorem dX9_move_28 : decode cX9_move 28 = .ok (.ireturn, 1) ∧ 28 + 1 = 29 := ⟨by decide +kernel, rfl⟩
theorem dX9_move_29 : decode cX9_move 29 = .ok (.aload_n 0, 1) ∧ 29 + 1 = 30 := ⟨by decide +kernel, rfl⟩
theorem dX9_move_30 : decode cX9_move 30 = .ok (.iload_n 3, 1) ∧ 30 + 1 = 31 := ⟨by decide +kernel, rfl⟩
theorem dX9_move_31 : decode cX9_move 31 = .ok (.iconst 0, 1) ∧ 31 + 1 = 32 := ⟨by decide +kernel, rfl⟩
theorem dX9_move_32 : decode cX9_move 32 = .ok (.invokevirtual 77, 3) ∧ 32 + 3 = 35 := ⟨by decide +kernel, rfl⟩
theorem dX9_move_35 : decode cX9_move 35 = .ok (.istore 5, 2) ∧ 35 + 2 = 37 := ⟨by decide +kernel, rfl⟩
theorem dX9_move_37 : decode cX9_move 37 = .ok (.aload_n 0, 1) ∧ 37 + 1 = 38 := ⟨by decide +kernel, rfl⟩
theorem dX9_move_38 : decode cX9_move 38 = .ok (.iload 5, 2) ∧ 38 + 2 = 40 := ⟨by decide +kernel, rfl⟩
theorem dX9_move_40 : decode cX9_move 40 = .ok (.iload 4, 2) ∧ 40 + 2 = 42 := ⟨by decide +kernel, rfl⟩
theorem dX9_move_42 : decode cX9_move 42 = .ok (.invokevirtual 135, 3) ∧ 42 + 3 = 45 := ⟨by decide +kernel, rfl⟩
theorem dX9_move_45 : decode cX9_move 45 = .ok (.ifCond .ne 6, 3) ∧ 45 + 3 = 48 ∧ ((45 : Nat) : Int) + (6) = ((51 : Nat) : Int) := ⟨by decide +kernel, rfl, rfl⟩
theorem dX9_move_48 : decode cX9_move 48 = .ok (.bipush (-5), 2) ∧ 48 + 2 = 50 := ⟨by decide +kernel, rfl⟩
theorem dX9_move_50 : decode cX9_move 50 = .ok (.ireturn, 1) ∧ 50 + 1 = 51 := ⟨by decide +kernel, rfl⟩
theorem dX9_move_51 : decode cX9_move 51 = .ok (.aload_n 0, 1) ∧ 51 + 1 = 52 := ⟨by decide +kernel, rfl⟩
theorem dX9_move_52 : decode cX9_move 52 = .ok (.invokevirtual 105, 3) ∧ 52 + 3 = 55 := ⟨by decide +kernel, rfl⟩
theorem dX9_move_55 : decode cX9_move 55 = .ok (.aload_n 0, 1) ∧ 55 + 1 = 56 := ⟨by decide +kernel, rfl⟩
theorem dX9_move_56 : decode cX9_move 56 = .ok (.iload_n 3, 1) ∧ 56 + 1 = 57 := ⟨by decide +kernel, rfl⟩
theorem dX9_move_57 : decode cX9_move 57 = .ok (.invokevirtual 142, 3) ∧ 57 + 3 = 60 := ⟨by decide +kernel, rfl⟩
theorem dX9_move_60 : decode cX9_move 60 = .ok (.istore 6, 2) ∧ 60 + 2 = 62 := ⟨by decide +kernel, rfl⟩
theorem dX9_move_62 : decode cX9_move 62 = .ok (.aload_n 0, 1) ∧ 62 + 1 = 63 := ⟨by decide +kernel, rfl⟩
theorem dX9_move_63 : decode cX9_move 63 = .ok (.iload 6, 2) ∧ 63 + 2 = 65 := ⟨by decide +kernel, rfl⟩
theorem dX9_move_65 : decode cX9_move 65 = .ok (.aload_n 0, 1) ∧ 65 + 1 = 66 := ⟨by decide +kernel, rfl⟩
theorem dX9_move_66 : decode cX9_move 66 = .ok (.iload 6, 2) ∧ 66 + 2 = 68 := ⟨by decide +kernel, rfl⟩
theorem dX9_move_68 : decode cX9_move 68 = .ok (.iload 5, 2) ∧ 68 + 2 = 70 := ⟨by decide +kernel, rfl⟩
theorem dX9_move_70 : decode cX9_move 70 = .ok (.invokevirtual 132, 3) ∧ 70 + 3 = 73 := ⟨by decide +kernel, rfl⟩
theorem dX9_move_73 : decode cX9_move 73 = .ok (.invokevirtual 145, 3) ∧ 73 + 3 = 76 := ⟨by decide +kernel, rfl⟩
theorem dX9_move_76 : decode cX9_move 76 = .ok (.aload_n 0, 1) ∧ 76 + 1 = 77 := ⟨by decide +kernel, rfl⟩
theorem dX9_move_77 : decode cX9_move 77 = .ok (.iload 4, 2) ∧ 77 + 2 = 79 := ⟨by decide +kernel, rfl⟩
theorem dX9_move_79 : decode cX9_move 79 = .ok (.iload 5, 2) ∧ 79 + 2 = 81 := ⟨by decide +kernel, rfl⟩
theorem dX9_move_81 : decode cX9_move 81 = .ok (.invokevirtual 115, 3) ∧ 81 + 3 = 84 := ⟨by decide +kernel, rfl⟩
theorem dX9_move_84 : decode cX9_move 84 = .ok (.aload_n 0, 1) ∧ 84 + 1 = 85 := ⟨by decide +kernel, rfl⟩
theorem dX9_move_85 : decode cX9_move 85 = .ok (.invokevirtual 119, 3) ∧ 85 + 3 = 88 := ⟨by decide +kernel, rfl⟩
theorem dX9_move_88 : decode cX9_move 88 = .ok (.ifCond .ne 10, 3) ∧ 88 + 3 = 91 ∧ ((88 : Nat) : Int) + (10) = ((98 : Nat) : Int) := ⟨by decide +kernel, rfl, rfl⟩
theorem dX9_move_91 : decode cX9_move 91 = .ok (.aload_n 0, 1) ∧ 91 + 1 = 92 := ⟨by decide +kernel, rfl⟩
theorem dX9_move_92 : decode cX9_move 92 = .ok (.invokevirtual 123, 3) ∧ 92 + 3 = 95 := ⟨by decide +kernel, rfl⟩
theorem dX9_move_95 : decode cX9_move 95 = .ok (.bipush (-4), 2) ∧ 95 + 2 = 97 := ⟨by decide +kernel, rfl⟩
theorem dX9_move_97 : decode cX9_move 97 = .ok (.ireturn, 1) ∧ 97 + 1 = 98 := ⟨by decide +kernel, rfl⟩
theorem dX9_move_98 : decode cX9_move 98 = .ok (.aload_n 0, 1) ∧ 98 + 1 = 99 := ⟨by decide +kernel, rfl⟩
theorem dX9_move_99 : decode cX9_move 99 = .ok (.invokevirtual 126, 3) ∧ 99 + 3 = 102 := ⟨by decide +kernel, rfl⟩
theorem dX9_move_102 : decode cX9_move 102 = .ok (.aload_n 0, 1) ∧ 102 + 1 = 103 := ⟨by decide +kernel, rfl⟩
theorem dX9_move_103 : decode cX9_move 103 = .ok (.iload 5, 2) ∧ 103 + 2 = 105 := ⟨by decide +kernel, rfl⟩
theorem dX9_move_105 : decode cX9_move 105 = .ok (.invokevirtual 139, 3) ∧ 105 + 3 = 108 := ⟨by decide +kernel, rfl⟩
theorem dX9_move_108 : decode cX9_move 108 = .ok (.ireturn, 1) ∧ 108 + 1 = 109 := ⟨by decide +kernel, rfl⟩
theorem dX9_cut_0 : decode cX9_cut 0 = .ok (.aload_n 0, 1) ∧ 0 + 1 = 1 := ⟨by decide +kernel, rfl⟩
theorem dX9_cut_1 : decode cX9_cut 1 = .ok (.iload_n 1, 1) ∧ 1 + 1 = 2 := ⟨by decide +kernel, rfl⟩
theorem dX9_cut_2 : decode cX9_cut 2 = .ok (.invokevirtual 88, 3) ∧ 2 + 3 = 5 := ⟨by decide +kernel, rfl⟩
theorem dX9_cut_5 : decode cX9_cut 5 = .ok (.istore_n 2, 1) ∧ 5 + 1 = 6 := ⟨by decide +kernel, rfl⟩
theorem dX9_cut_6 : decode cX9_cut 6 = .ok (.iload_n 2, 1) ∧ 6 + 1 = 7 := ⟨by decide +kernel, rfl⟩
theorem dX9_cut_7 : decode cX9_cut 7 = .ok (.bipush (-6), 2) ∧ 7 + 2 = 9 := ⟨by decide +kernel, rfl⟩
theorem dX9_cut_9 : decode cX9_cut 9 = .ok (.if_icmp .ne 6, 3) ∧ 9 + 3 = 12 ∧ ((9 : Nat) : Int) + (6) = ((15 : Nat) : Int) := ⟨by decide +kernel, rfl, rfl⟩
theorem dX9_cut_12 : decode cX9_cut 12 = .ok (.bipush (-2), 2) ∧ 12 + 2 = 14 := ⟨by decide +kernel, rfl⟩
theorem dX9_cut_14 : decode cX9_cut 14 = .ok (.ireturn, 1) ∧ 14 + 1 = 15 := ⟨by decide +kernel, rfl⟩
theorem dX9_cut_15 : decode cX9_cut 15 = .ok (.aload_n 0, 1) ∧ 15 + 1 = 16 := ⟨by decide +kernel, rfl⟩
theorem dX9_cut_16 : decode cX9_cut 16 = .ok (.invokevirtual 105, 3) ∧ 16 + 3 = 19 := ⟨by decide +kernel, rfl⟩
theorem dX9_cut_19 : decode cX9_cut 19 = .ok (.aload_n 0, 1) ∧ 19 + 1 = 20 := ⟨by decide +kernel, rfl⟩
theorem dX9_cut_20 : decode cX9_cut 20 = .ok (.iload_n 2, 1) ∧ 20 + 1 = 21 := ⟨by decide +kernel, rfl⟩
theorem dX9_cut_21 : decode cX9_cut 21 = .ok (.invokevirtual 142, 3) ∧ 21 + 3 = 24 := ⟨by decide +kernel, rfl⟩
theorem dX9_cut_24 : decode cX9_cut 24 = .ok (.istore_n 3, 1) ∧ 24 + 1 = 25 := ⟨by decide +kernel, rfl⟩
theorem dX9_cut_25 : decode cX9_cut 25 = .ok (.aload_n 0, 1) ∧ 25 + 1 = 26 := ⟨by decide +kernel, rfl⟩
theorem dX9_cut_26 : decode cX9_cut 26 = .ok (.iload_n 3, 1) ∧ 26 + 1 = 27 := ⟨by decide +kernel, rfl⟩
theorem dX9_cut_27 : decode cX9_cut 27 = .ok (.aload_n 0, 1) ∧ 27 + 1 = 28 := ⟨by decide +kernel, rfl⟩
theorem dX9_cut_28 : decode cX9_cut 28 = .ok (.iload_n 3, 1) ∧ 28 + 1 = 29 := ⟨by decide +kernel, rfl⟩
theorem dX9_cut_29 : decode cX9_cut 29 = .ok (.aload_n 0, 1) ∧ 29 + 1 = 30 := ⟨by decide +kernel, rfl⟩
theorem dX9_cut_30 : decode cX9_cut 30 = .ok (.iload_n 2, 1) ∧ 30 + 1 = 31 := ⟨by decide +kernel, rfl⟩
theorem dX9_cut_31 : decode cX9_cut 31 = .ok (.iconst 0, 1) ∧ 31 + 1 = 32 := ⟨by decide +kernel, rfl⟩
theorem dX9_cut_32 : decode cX9_cut 32 = .ok (.invokevirtual 77, 3) ∧ 32 + 3 = 35 := ⟨by decide +kernel, rfl⟩
theorem dX9_cut_35 : decode cX9_cut 35 = .ok (.invokevirtual 132, 3) ∧ 35 + 3 = 38 := ⟨by decide +kernel, rfl⟩
theorem dX9_cut_38 : decode cX9_cut 38 = .ok (.invokevirtual 145, 3) ∧ 38 + 3 = 41 := ⟨by decide +kernel, rfl⟩
theorem dX9_cut_41 : decode cX9_cut 41 = .ok (.aload_n 0, 1) ∧ 41 + 1 = 42 := ⟨by decide +kernel, rfl⟩
theorem dX9_cut_42 : decode cX9_cut 42 = .ok (.invokevirtual 119, 3) ∧ 42 + 3 = 45 := ⟨by decide +kernel, rfl⟩
theorem dX9_cut_45 : decode cX9_cut 45 = .ok (.istore 4, 2) ∧ 45 + 2 = 47 := ⟨by decide +kernel, rfl⟩
theorem dX9_cut_47 : decode cX9_cut 47 = .ok (.aload_n 0, 1) ∧ 47 + 1 = 48 := ⟨by decide +kernel, rfl⟩
theorem dX9_cut_48 : decode cX9_cut 48 = .ok (.invokevirtual 126, 3) ∧ 48 + 3 = 51 := ⟨by decide +kernel, rfl⟩
theorem dX9_cut_51 : decode cX9_cut 51 = .ok (.aload_n 0, 1) ∧ 51 + 1 = 52 := ⟨by decide +kernel, rfl⟩
theorem dX9_cut_52 : decode cX9_cut 52 = .ok (.iconst 0, 1) ∧ 52 + 1 = 53 := ⟨by decide +kernel, rfl⟩
theorem dX9_cut_53 : decode cX9_cut 53 = .ok (.invokevirtual 129, 3) ∧ 53 + 3 = 56 := ⟨by decide +kernel, rfl⟩
theorem dX9_cut_56 : decode cX9_cut 56 = .ok (.pop, 1) ∧ 56 + 1 = 57 := ⟨by decide +kernel, rfl⟩
theorem dX9_cut_57 : decode cX9_cut 57 = .ok (.iconst 0, 1) ∧ 57 + 1 = 58 := ⟨by decide +kernel, rfl⟩
theorem dX9_cut_58 : decode cX9_cut 58 = .ok (.istore 5, 2) ∧ 58 + 2 = 60 := ⟨by decide +kernel, rfl⟩
theorem dX9_cut_60 : decode cX9_cut 60 = .ok (.iconst 1, 1) ∧ 60 + 1 = 61 := ⟨by decide +kernel, rfl⟩
theorem dX9_cut_61 : decode cX9_cut 61 = .ok (.istore 6, 2) ∧ 61 + 2 = 63 := ⟨by decide +kernel, rfl⟩
theorem dX9_cut_63 : decode cX9_cut 63 = .ok (.iload 6, 2) ∧ 63 + 2 = 65 := ⟨by decide +kernel, rfl⟩
theorem dX9_cut_65 : decode cX9_cut 65 = .ok (.aload_n 0, 1) ∧ 65 + 1 = 66 := ⟨by decide +kernel, rfl⟩
theorem dX9_cut_66 : decode cX9_cut 66 = .ok (.getfield 7, 3) ∧ 66 + 3 = 69 := ⟨by decide +kernel, rfl⟩
theorem dX9_cut_69 : decode cX9_cut 69 = .ok (.iconst 0, 1) ∧ 69 + 1 = 70 := ⟨by decide +kernel, rfl⟩
theorem dX9_cut_70 : decode cX9_cut 70 = .ok (.iaload, 1) ∧ 70 + 1 = 71 := ⟨by decide +kernel, rfl⟩
theorem dX9_cut_71 : decode cX9_cut 71 = .ok (.if_icmp .gt 50, 3) ∧ 71 + 3 = 74 ∧ ((71 : Nat) : Int) + (50) = ((121 : Nat) : Int) := ⟨by decide +kernel, rfl, rfl⟩
theorem dX9_cut_74 : decode cX9_cut 74 = .ok (.aload_n 0, 1) ∧ 74 + 1 = 75 := ⟨by decide +kernel, rfl⟩
theorem dX9_cut_75 : decode cX9_cut 75 = .ok (.iload 6, 2) ∧ 75 + 2 = 77 := ⟨by decide +kernel, rfl⟩
theorem dX9_cut_77 : decode cX9_cut 77 = .ok (.iconst 0, 1) ∧ 77 + 1 = 78 := ⟨by decide +kernel, rfl⟩
theorem dX9_cut_78 : decode cX9_cut 78 = .ok (.invokevirtual 64, 3) ∧ 78 + 3 = 81 := ⟨by decide +kernel, rfl⟩
theorem dX9_cut_81 : decode cX9_cut 81 = .ok (.iconst 1, 1) ∧ 81 + 1 = 82 := ⟨by decide +kernel, rfl⟩
theorem dX9_cut_82 : decode cX9_cut 82 = .ok (.if_icmp .ne 33, 3) ∧ 82 + 3 = 85 ∧ ((82 : Nat) : Int) + (33) = ((115 : Nat) : Int) := ⟨by decide +kernel, rfl, rfl⟩
theorem dX9_cut_85 : decode cX9_cut 85 = .ok (.aload_n 0, 1) ∧ 85 + 1 = 86 := ⟨by decide +kernel, rfl⟩
theorem dX9_cut_86 : decode cX9_cut 86 = .ok (.getfield 34, 3) ∧ 86 + 3 = 89 := ⟨by decide +kernel, rfl⟩
theorem dX9_cut_89 : decode cX9_cut 89 = .ok (.iload 6, 2) ∧ 89 + 2 = 91 := ⟨by decide +kernel, rfl⟩
theorem dX9_cut_91 : decode cX9_cut 91 = .ok (.baload, 1) ∧ 91 + 1 = 92 := ⟨by decide +kernel, rfl⟩
theorem dX9_cut_92 : decode cX9_cut 92 = .ok (.ifCond .ne 23, 3) ∧ 92 + 3 = 95 ∧ ((92 : Nat) : Int) + (23) = ((115 : Nat) : Int) := ⟨by decide +kernel, rfl, rfl⟩
theorem dX9_cut_95 : decode cX9_cut 95 = .ok (.aload_n 0, 1) ∧ 95 + 1 = 96 := ⟨by decide +kernel, rfl⟩
theorem dX9_cut_96 : decode cX9_cut 96 = .ok (.iload 6, 2) ∧ 96 + 2 = 98 := ⟨by decide +kernel, rfl⟩
theorem dX9_cut_98 : decode cX9_cut 98 = .ok (.iconst 0, 1) ∧ 98 + 1 = 99 := ⟨by decide +kernel, rfl⟩
theorem dX9_cut_99 : decode cX9_cut 99 = .ok (.iconst 0, 1) ∧ 99 + 1 = 100 := ⟨by decide +kernel, rfl⟩
theorem dX9_cut_100 : decode cX9_cut 100 = .ok (.invokevirtual 91, 3) ∧ 100 + 3 = 103 := ⟨by decide +kernel, rfl⟩
theorem dX9_cut_103 : decode cX9_cut 103 = .ok (.aload_n 0, 1) ∧ 103 + 1 = 104 := ⟨by decide +kernel, rfl⟩
theorem dX9_cut_104 : decode cX9_cut 104 = .ok (.iload 6, 2) ∧ 104 + 2 = 106 := ⟨by decide +kernel, rfl⟩
theorem dX9_cut_106 : decode cX9_cut 106 = .ok (.bipush 11, 2) ∧ 106 + 2 = 108 := ⟨by decide +kernel, rfl⟩
theorem dX9_cut_108 : decode cX9_cut 108 = .ok (.iconst 0, 1) ∧ 108 + 1 = 109 := ⟨by decide +kernel, rfl⟩
theorem dX9_cut_109 : decode cX9_cut 109 = .ok (.invokevirtual 91, 3) ∧ 109 + 3 = 112 := ⟨by decide +kernel, rfl⟩
theorem dX9_cut_112 : decode cX9_cut 112 = .ok (.iinc 5 1, 3) ∧ 112 + 3 = 115 := ⟨by decide +kernel, rfl⟩
theorem dX9_cut_115 : decode cX9_cut 115 = .ok (.iinc 6 1, 3) ∧ 115 + 3 = 118 := ⟨by decide +kernel, rfl⟩
theorem dX9_cut_118 : decode cX9_cut 118 = .ok (.goto (-55), 3) ∧ 118 + 3 = 121 ∧ ((118 : Nat) : Int) + (-55) = ((63 : Nat) : Int) := ⟨by decide +kernel, rfl, rfl⟩
theorem dX9_cut_121 : decode cX9_cut 121 = .ok (.iload 5, 2) ∧ 121 + 2 = 123 := ⟨by decide +kernel, rfl⟩
theorem dX9_cut_123 : decode cX9_cut 123 = .ok (.ireturn, 1) ∧ 123 + 1 = 124 := ⟨by decide +kernel, rfl⟩
theorem dX9_shift_0 : decode cX9_shift 0 = .ok (.aload_n 0, 1) ∧ 0 + 1 = 1 := ⟨by decide +kernel, rfl⟩
theorem dX9_shift_1 : decode cX9_shift 1 = .ok (.iload_n 1, 1) ∧ 1 + 1 = 2 := ⟨by decide +kernel, rfl⟩
theorem dX9_shift_2 : decode cX9_shift 2 = .ok (.invokevirtual 88, 3) ∧ 2 + 3 = 5 := ⟨by decide +kernel, rfl⟩
theorem dX9_shift_5 : decode cX9_shift 5 = .ok (.istore_n 3, 1) ∧ 5 + 1 = 6 := ⟨by decide +kernel, rfl⟩
theorem dX9_shift_6 : decode cX9_shift 6 = .ok (.iload_n 3, 1) ∧ 6 + 1 = 7 := ⟨by decide +kernel, rfl⟩
theorem dX9_shift_7 : decode cX9_shift 7 = .ok (.bipush (-6), 2) ∧ 7 + 2 = 9 := ⟨by decide +kernel, rfl⟩
theorem dX9_shift_9 : decode cX9_shift 9 = .ok (.if_icmp .ne 6, 3) ∧ 9 + 3 = 12 ∧ ((9 : Nat) : Int) + (6) = ((15 : Nat) : Int) := ⟨by decide +kernel, rfl, rfl⟩
theorem dX9_shift_12 : decode cX9_shift 12 = .ok (.bipush (-2), 2) ∧ 12 + 2 = 14 := ⟨by decide +kernel, rfl⟩
theorem dX9_shift_14 : decode cX9_shift 14 = .ok (.ireturn, 1) ∧ 14 + 1 = 15 := ⟨by decide +kernel, rfl⟩
theorem dX9_shift_15 : decode cX9_shift 15 = .ok (.iload_n 2, 1) ∧ 15 + 1 = 16 := ⟨by decide +kernel, rfl⟩
theorem dX9_shift_16 : decode cX9_shift 16 = .ok (.bipush (-39), 2) ∧ 16 + 2 = 18 := ⟨by decide +kernel, rfl⟩
theorem dX9_shift_18 : decode cX9_shift 18 = .ok (.bipush 39, 2) ∧ 18 + 2 = 20 := ⟨by decide +kernel, rfl⟩
theorem dX9_shift_20 : decode cX9_shift 20 = .ok (.invokestatic 101, 3) ∧ 20 + 3 = 23 := ⟨by decide +kernel, rfl⟩
theorem dX9_shift_23 : decode cX9_shift 23 = .ok (.ifCond .eq 7, 3) ∧ 23 + 3 = 26 ∧ ((23 : Nat) : Int) + (7) = ((30 : Nat) : Int) := ⟨by decide +kernel, rfl, rfl⟩
theorem dX9_shift_26 : decode cX9_shift 26 = .ok (.iload_n 2, 1) ∧ 26 + 1 = 27 := ⟨by decide +kernel, rfl⟩
theorem dX9_shift_27 : decode cX9_shift 27 = .ok (.ifCond .ne 6, 3) ∧ 27 + 3 = 30 ∧ ((27 : Nat) : Int) + (6) = ((33 : Nat) : Int) := ⟨by decide +kernel, rfl, rfl⟩
theorem dX9_shift_30 : decode cX9_shift 30 = .ok (.bipush (-3), 2) ∧ 30 + 2 = 32 := ⟨by decide +kernel, rfl⟩
theorem dX9_shift_32 : decode cX9_shift 32 = .ok (.ireturn, 1) ∧ 32 + 1 = 33 := ⟨by decide +kernel, rfl⟩
theorem dX9_shift_33 : decode cX9_shift 33 = .ok (.aload_n 0, 1) ∧ 33 + 1 = 34 := ⟨by decide +kernel, rfl⟩
theorem dX9_shift_34 : decode cX9_shift 34 = .ok (.iload_n 3, 1) ∧ 34 + 1 = 35 := ⟨by decide +kernel, rfl⟩
theorem dX9_shift_35 : decode cX9_shift 35 = .ok (.iconst 0, 1) ∧ 35 + 1 = 36 := ⟨by decide +kernel, rfl⟩
theorem dX9_shift_36 : decode cX9_shift 36 = .ok (.invokevirtual 77, 3) ∧ 36 + 3 = 39 := ⟨by decide +kernel, rfl⟩
theorem dX9_shift_39 : decode cX9_shift 39 = .ok (.istore 4, 2) ∧ 39 + 2 = 41 := ⟨by decide +kernel, rfl⟩
theorem dX9_shift_41 : decode cX9_shift 41 = .ok (.aload_n 0, 1) ∧ 41 + 1 = 42 := ⟨by decide +kernel, rfl⟩
theorem dX9_shift_42 : decode cX9_shift 42 = .ok (.iload_n 3, 1) ∧ 42 + 1 = 43 := ⟨by decide +kernel, rfl⟩
theorem dX9_shift_43 : decode cX9_shift 43 = .ok (.invokevirtual 142, 3) ∧ 43 + 3 = 46 := ⟨by decide +kernel, rfl⟩
theorem dX9_shift_46 : decode cX9_shift 46 = .ok (.istore 5, 2) ∧ 46 + 2 = 48 := ⟨by decide +kernel, rfl⟩
theorem dX9_shift_48 : decode cX9_shift 48 = .ok (.aload_n 0, 1) ∧ 48 + 1 = 49 := ⟨by decide +kernel, rfl⟩
theorem dX9_shift_49 : decode cX9_shift 49 = .ok (.iload 5, 2) ∧ 49 + 2 = 51 := ⟨by decide +kernel, rfl⟩
theorem dX9_shift_51 : decode cX9_shift 51 = .ok (.iload 4, 2) ∧ 51 + 2 = 53 := ⟨by decide +kernel, rfl⟩
theorem dX9_shift_53 : decode cX9_shift 53 = .ok (.invokevirtual 132, 3) ∧ 53 + 3 = 56 := ⟨by decide +kernel, rfl⟩
theorem dX9_shift_56 : decode cX9_shift 56 = .ok (.istore 6, 2) ∧ 56 + 2 = 58 := ⟨by decide +kernel, rfl⟩
theorem dX9_shift_58 : decode cX9_shift 58 = .ok (.iload 6, 2) ∧ 58 + 2 = 60 := ⟨by decide +kernel, rfl⟩
theorem dX9_shift_60 : decode cX9_shift 60 = .ok (.iload_n 2, 1) ∧ 60 + 1 = 61 := ⟨by decide +kernel, rfl⟩
theorem dX9_shift_61 : decode cX9_shift 61 = .ok (.iadd, 1) ∧ 61 + 1 = 62 := ⟨by decide +kernel, rfl⟩
theorem dX9_shift_62 : decode cX9_shift 62 = .ok (.istore 7, 2) ∧ 62 + 2 = 64 := ⟨by decide +kernel, rfl⟩
theorem dX9_shift_64 : decode cX9_shift 64 = .ok (.iload 7, 2) ∧ 64 + 2 = 66 := ⟨by decide +kernel, rfl⟩
theorem dX9_shift_66 : decode cX9_shift 66 = .ok (.iconst 0, 1) ∧ 66 + 1 = 67 := ⟨by decide +kernel, rfl⟩
theorem dX9_shift_67 : decode cX9_shift 67 = .ok (.aload_n 0, 1) ∧ 67 + 1 = 68 := ⟨by decide +kernel, rfl⟩
theorem dX9_shift_68 : decode cX9_shift 68 = .ok (.iload 5, 2) ∧ 68 + 2 = 70 := ⟨by decide +kernel, rfl⟩
theorem dX9_shift_70 : decode cX9_shift 70 = .ok (.bipush 11, 2) ∧ 70 + 2 = 72 := ⟨by decide +kernel, rfl⟩
theorem dX9_shift_72 : decode cX9_shift 72 = .ok (.invokevirtual 64, 3) ∧ 72 + 3 = 75 := ⟨by decide +kernel, rfl⟩
theorem dX9_shift_75 : decode cX9_shift 75 = .ok (.iconst 1, 1) ∧ 75 + 1 = 76 := ⟨by decide +kernel, rfl⟩
theorem dX9_shift_76 : decode cX9_shift 76 = .ok (.isub, 1) ∧ 76 + 1 = 77 := ⟨by decide +kernel, rfl⟩
theorem dX9_shift_77 : decode cX9_shift 77 = .ok (.invokestatic 101, 3) ∧ 77 + 3 = 80 := ⟨by decide +kernel, rfl⟩
theorem dX9_shift_80 : decode cX9_shift 80 = .ok (.ifCond .ne 6, 3) ∧ 80 + 3 = 83 ∧ ((80 : Nat) : Int) + (6) = ((86 : Nat) : Int) := ⟨by decide +kernel, rfl, rfl⟩
theorem dX9_shift_83 : decode cX9_shift 83 = .ok (.bipush (-5), 2) ∧ 83 + 2 = 85 := ⟨by decide +kernel, rfl⟩
theorem dX9_shift_85 : decode cX9_shift 85 = .ok (.ireturn, 1) ∧ 85 + 1 = 86 := ⟨by decide +kernel, rfl⟩
theorem dX9_shift_86 : decode cX9_shift 86 = .ok (.aload_n 0, 1) ∧ 86 + 1 = 87 := ⟨by decide +kernel, rfl⟩
theorem dX9_shift_87 : decode cX9_shift 87 = .ok (.invokevirtual 105, 3) ∧ 87 + 3 = 90 := ⟨by decide +kernel, rfl⟩
theorem dX9_shift_90 : decode cX9_shift 90 = .ok (.iload_n 2, 1) ∧ 90 + 1 = 91 := ⟨by decide +kernel, rfl⟩
theorem dX9_shift_91 : decode cX9_shift 91 = .ok (.ifCond .ge 7, 3) ∧ 91 + 3 = 94 ∧ ((91 : Nat) : Int) + (7) = ((98 : Nat) : Int) := ⟨by decide +kernel, rfl, rfl⟩
theorem dX9_shift_94 : decode cX9_shift 94 = .ok (.iconst (-1), 1) ∧ 94 + 1 = 95 := ⟨by decide +kernel, rfl⟩
theorem dX9_shift_95 : decode cX9_shift 95 = .ok (.goto 4, 3) ∧ 95 + 3 = 98 ∧ ((95 : Nat) : Int) + (4) = ((99 : Nat) : Int) := ⟨by decide +kernel, rfl, rfl⟩
theorem dX9_shift_98 : decode cX9_shift 98 = .ok (.iconst 1, 1) ∧ 98 + 1 = 99 := ⟨by decide +kernel, rfl⟩
theorem dX9_shift_99 : decode cX9_shift 99 = .ok (.istore 8, 2) ∧ 99 + 2 = 101 := ⟨by decide +kernel, rfl⟩
theorem dX9_shift_101 : decode cX9_shift 101 = .ok (.iload 6, 2) ∧ 101 + 2 = 103 := ⟨by decide +kernel, rfl⟩
theorem dX9_shift_103 : decode cX9_shift 103 = .ok (.istore 9, 2) ∧ 103 + 2 = 105 := ⟨by decide +kernel, rfl⟩
theorem dX9_shift_105 : decode cX9_shift 105 = .ok (.iload 9, 2) ∧ 105 + 2 = 107 := ⟨by decide +kernel, rfl⟩
theorem dX9_shift_107 : decode cX9_shift 107 = .ok (.iload 7, 2) ∧ 107 + 2 = 109 := ⟨by decide +kernel, rfl⟩
theorem dX9_shift_109 : decode cX9_shift 109 = .ok (.if_icmp .eq 35, 3) ∧ 109 + 3 = 112 ∧ ((109 : Nat) : Int) + (35) = ((144 : Nat) : Int) := ⟨by decide +kernel, rfl, rfl⟩
theorem dX9_shift_112 : decode cX9_shift 112 = .ok (.aload_n 0, 1) ∧ 112 + 1 = 113 := ⟨by decide +kernel, rfl⟩
theorem dX9_shift_113 : decode cX9_shift 113 = .ok (.iload 5, 2) ∧ 113 + 2 = 115 := ⟨by decide +kernel, rfl⟩
theorem dX9_shift_115 : decode cX9_shift 115 = .ok (.bipush 12, 2) ∧ 115 + 2 = 117 := ⟨by decide +kernel, rfl⟩
theorem dX9_shift_117 : decode cX9_shift 117 = .ok (.iload 9, 2) ∧ 117 + 2 = 119 := ⟨by decide +kernel, rfl⟩
theorem dX9_shift_119 : decode cX9_shift 119 = .ok (.iadd, 1) ∧ 119 + 1 = 120 := ⟨by decide +kernel, rfl⟩
theorem dX9_shift_120 : decode cX9_shift 120 = .ok (.aload_n 0, 1) ∧ 120 + 1 = 121 := ⟨by decide +kernel, rfl⟩
theorem dX9_shift_121 : decode cX9_shift 121 = .ok (.iload 5, 2) ∧ 121 + 2 = 123 := ⟨by decide +kernel, rfl⟩
theorem dX9_shift_123 : decode cX9_shift 123 = .ok (.iload 9, 2) ∧ 123 + 2 = 125 := ⟨by decide +kernel, rfl⟩
theorem dX9_shift_125 : decode cX9_shift 125 = .ok (.iload 8, 2) ∧ 125 + 2 = 127 := ⟨by decide +kernel, rfl⟩
theorem dX9_shift_127 : decode cX9_shift 127 = .ok (.iadd, 1) ∧ 127 + 1 = 128 := ⟨by decide +kernel, rfl⟩
theorem dX9_shift_128 : decode cX9_shift 128 = .ok (.invokevirtual 71, 3) ∧ 128 + 3 = 131 := ⟨by decide +kernel, rfl⟩
theorem dX9_shift_131 : decode cX9_shift 131 = .ok (.invokevirtual 91, 3) ∧ 131 + 3 = 134 := ⟨by decide +kernel, rfl⟩
theorem dX9_shift_134 : decode cX9_shift 134 = .ok (.iload 9, 2) ∧ 134 + 2 = 136 := ⟨by decide +kernel, rfl⟩
theorem dX9_shift_136 : decode cX9_shift 136 = .ok (.iload 8, 2) ∧ 136 + 2 = 138 := ⟨by decide +kernel, rfl⟩
theorem dX9_shift_138 : decode cX9_shift 138 = .ok (.iadd, 1) ∧ 138 + 1 = 139 := ⟨by decide +kernel, rfl⟩
theorem dX9_shift_139 : decode cX9_shift 139 = .ok (.istore 9, 2) ∧ 139 + 2 = 141 := ⟨by decide +kernel, rfl⟩
theorem dX9_shift_141 : decode cX9_shift 141 = .ok (.goto (-36), 3) ∧ 141 + 3 = 144 ∧ ((141 : Nat) : Int) + (-36) = ((105 : Nat) : Int) := ⟨by decide +kernel, rfl, rfl⟩
theorem dX9_shift_144 : decode cX9_shift 144 = .ok (.aload_n 0, 1) ∧ 144 + 1 = 145 := ⟨by decide +kernel, rfl⟩
theorem dX9_shift_145 : decode cX9_shift 145 = .ok (.iload 5, 2) ∧ 145 + 2 = 147 := ⟨by decide +kernel, rfl⟩
theorem dX9_shift_147 : decode cX9_shift 147 = .ok (.bipush 12, 2) ∧ 147 + 2 = 149 := ⟨by decide +kernel, rfl⟩
theorem dX9_shift_149 : decode cX9_shift 149 = .ok (.iload 7, 2) ∧ 149 + 2 = 151 := ⟨by decide +kernel, rfl⟩
theorem dX9_shift_151 : decode cX9_shift 151 = .ok (.iadd, 1) ∧ 151 + 1 = 152 := ⟨by decide +kernel, rfl⟩
theorem dX9_shift_152 : decode cX9_shift 152 = .ok (.iload 4, 2) ∧ 152 + 2 = 154 := ⟨by decide +kernel, rfl⟩
theorem dX9_shift_154 : decode cX9_shift 154 = .ok (.invokevirtual 91, 3) ∧ 154 + 3 = 157 := ⟨by decide +kernel, rfl⟩
theorem dX9_shift_157 : decode cX9_shift 157 = .ok (.aload_n 0, 1) ∧ 157 + 1 = 158 := ⟨by decide +kernel, rfl⟩
theorem dX9_shift_158 : decode cX9_shift 158 = .ok (.invokevirtual 119, 3) ∧ 158 + 3 = 161 := ⟨by decide +kernel, rfl⟩
theorem dX9_shift_161 : decode cX9_shift 161 = .ok (.istore 9, 2) ∧ 161 + 2 = 163 := ⟨by decide +kernel, rfl⟩
theorem dX9_shift_163 : decode cX9_shift 163 = .ok (.aload_n 0, 1) ∧ 163 + 1 = 164 := ⟨by decide +kernel, rfl⟩
theorem dX9_shift_164 : decode cX9_shift 164 = .ok (.invokevirtual 126, 3) ∧ 164 + 3 = 167 := ⟨by decide +kernel, rfl⟩
theorem dX9_shift_167 : decode cX9_shift 167 = .ok (.iload 7, 2) ∧ 167 + 2 = 169 := ⟨by decide +kernel, rfl⟩
theorem dX9_shift_169 : decode cX9_shift 169 = .ok (.ireturn, 1) ∧ 169 + 1 = 170 := ⟨by decide +kernel, rfl⟩
theorem dX9_hasText_0 : decode cX9_hasText 0 = .ok (.aload_n 0, 1) ∧ 0 + 1 = 1 := ⟨by decide +kernel, rfl⟩
theorem dX9_hasText_1 : decode cX9_hasText 1 = .ok (.iload_n 1, 1) ∧ 1 + 1 = 2 := ⟨by decide +kernel, rfl⟩
theorem dX9_hasText_2 : decode cX9_hasText 2 = .ok (.iconst 1, 1) ∧ 2 + 1 = 3 := ⟨by decide +kernel, rfl⟩
theorem dX9_hasText_3 : decode cX9_hasText 3 = .ok (.invokevirtual 64, 3) ∧ 3 + 3 = 6 := ⟨by decide +kernel, rfl⟩
theorem dX9_hasText_6 : decode cX9_hasText 6 = .ok (.aload_n 0, 1) ∧ 6 + 1 = 7 := ⟨by decide +kernel, rfl⟩
theorem dX9_hasText_7 : decode cX9_hasText 7 = .ok (.getfield 95, 3) ∧ 7 + 3 = 10 := ⟨by decide +kernel, rfl⟩
theorem dX9_hasText_10 : decode cX9_hasText 10 = .ok (.if_icmp .eq 5, 3) ∧ 10 + 3 = 13 ∧ ((10 : Nat) : Int) + (5) = ((15 : Nat) : Int) := ⟨by decide +kernel, rfl, rfl⟩
theorem dX9_hasText_13 : decode cX9_hasText 13 = .ok (.iconst 0, 1) ∧ 13 + 1 = 14 := ⟨by decide +kernel, rfl⟩
theorem dX9_hasText_14 : decode cX9_hasText 14 = .ok (.ireturn, 1) ∧ 14 + 1 = 15 := ⟨by decide +kernel, rfl⟩
theorem dX9_hasText_15 : decode cX9_hasText 15 = .ok (.iconst 0, 1) ∧ 15 + 1 = 16 := ⟨by decide +kernel, rfl⟩
theorem dX9_hasText_16 : decode cX9_hasText 16 = .ok (.istore_n 2, 1) ∧ 16 + 1 = 17 := ⟨by decide +kernel, rfl⟩
theorem dX9_hasText_17 : decode cX9_hasText 17 = .ok (.iload_n 2, 1) ∧ 17 + 1 = 18 := ⟨by decide +kernel, rfl⟩
theorem dX9_hasText_18 : decode cX9_hasText 18 = .ok (.aload_n 0, 1) ∧ 18 + 1 = 19 := ⟨by decide +kernel, rfl⟩
theorem dX9_hasText_19 : decode cX9_hasText 19 = .ok (.getfield 95, 3) ∧ 19 + 3 = 22 := ⟨by decide +kernel, rfl⟩
theorem dX9_hasText_22 : decode cX9_hasText 22 = .ok (.if_icmp .ge 28, 3) ∧ 22 + 3 = 25 ∧ ((22 : Nat) : Int) + (28) = ((50 : Nat) : Int) := ⟨by decide +kernel, rfl, rfl⟩
theorem dX9_hasText_25 : decode cX9_hasText 25 = .ok (.aload_n 0, 1) ∧ 25 + 1 = 26 := ⟨by decide +kernel, rfl⟩
theorem dX9_hasText_26 : decode cX9_hasText 26 = .ok (.iload_n 1, 1) ∧ 26 + 1 = 27 := ⟨by decide +kernel, rfl⟩
theorem dX9_hasText_27 : decode cX9_hasText 27 = .ok (.iconst 2, 1) ∧ 27 + 1 = 28 := ⟨by decide +kernel, rfl⟩
theorem dX9_hasText_28 : decode cX9_hasText 28 = .ok (.iload_n 2, 1) ∧ 28 + 1 = 29 := ⟨by decide +kernel, rfl⟩
theorem dX9_hasText_29 : decode cX9_hasText 29 = .ok (.iadd, 1) ∧ 29 + 1 = 30 := ⟨by decide +kernel, rfl⟩
theorem dX9_hasText_30 : decode cX9_hasText 30 = .ok (.invokevirtual 64, 3) ∧ 30 + 3 = 33 := ⟨by decide +kernel, rfl⟩
theorem dX9_hasText_33 : decode cX9_hasText 33 = .ok (.aload_n 0, 1) ∧ 33 + 1 = 34 := ⟨by decide +kernel, rfl⟩
theorem dX9_hasText_34 : decode cX9_hasText 34 = .ok (.getfield 41, 3) ∧ 34 + 3 = 37 := ⟨by decide +kernel, rfl⟩
theorem dX9_hasText_37 : decode cX9_hasText 37 = .ok (.iload_n 2, 1) ∧ 37 + 1 = 38 := ⟨by decide +kernel, rfl⟩
theorem dX9_hasText_38 : decode cX9_hasText 38 = .ok (.caload, 1) ∧ 38 + 1 = 39 := ⟨by decide +kernel, rfl⟩
theorem dX9_hasText_39 : decode cX9_hasText 39 = .ok (.if_icmp .eq 5, 3) ∧ 39 + 3 = 42 ∧ ((39 : Nat) : Int) + (5) = ((44 : Nat) : Int) := ⟨by decide +kernel, rfl, rfl⟩
theorem dX9_hasText_42 : decode cX9_hasText 42 = .ok (.iconst 0, 1) ∧ 42 + 1 = 43 := ⟨by decide +kernel, rfl⟩
theorem dX9_hasText_43 : decode cX9_hasText 43 = .ok (.ireturn, 1) ∧ 43 + 1 = 44 := ⟨by decide +kernel, rfl⟩
theorem dX9_hasText_44 : decode cX9_hasText 44 = .ok (.iinc 2 1, 3) ∧ 44 + 3 = 47 := ⟨by decide +kernel, rfl⟩
theorem dX9_hasText_47 : decode cX9_hasText 47 = .ok (.goto (-30), 3) ∧ 47 + 3 = 50 ∧ ((47 : Nat) : Int) + (-30) = ((17 : Nat) : Int) := ⟨by decide +kernel, rfl, rfl⟩
theorem dX9_hasText_50 : decode cX9_hasText 50 = .ok (.iconst 1, 1) ∧ 50 + 1 = 51 := ⟨by decide +kernel, rfl⟩
theorem dX9_hasText_51 : decode cX9_hasText 51 = .ok (.ireturn, 1) ∧ 51 + 1 = 52 := ⟨by decide +kernel, rfl⟩
theorem dX9_edit_0 : decode cX9_edit 0 = .ok (.aload_n 0, 1) ∧ 0 + 1 = 1 := ⟨by decide +kernel, rfl⟩
theorem dX9_edit_1 : decode cX9_edit 1 = .ok (.iload_n 1, 1) ∧ 1 + 1 = 2 := ⟨by decide +kernel, rfl⟩
theorem dX9_edit_2 : decode cX9_edit 2 = .ok (.invokevirtual 88, 3) ∧ 2 + 3 = 5 := ⟨by decide +kernel, rfl⟩
theorem dX9_edit_5 : decode cX9_edit 5 = .ok (.istore_n 2, 1) ∧ 5 + 1 = 6 := ⟨by decide +kernel, rfl⟩
theorem dX9_edit_6 : decode cX9_edit 6 = .ok (.iload_n 2, 1) ∧ 6 + 1 = 7 := ⟨by decide +kernel, rfl⟩
theorem dX9_edit_7 : decode cX9_edit 7 = .ok (.bipush (-6), 2) ∧ 7 + 2 = 9 := ⟨by decide +kernel, rfl⟩
theorem dX9_edit_9 : decode cX9_edit 9 = .ok (.if_icmp .ne 6, 3) ∧ 9 + 3 = 12 ∧ ((9 : Nat) : Int) + (6) = ((15 : Nat) : Int) := ⟨by decide +kernel, rfl, rfl⟩
theorem dX9_edit_12 : decode cX9_edit 12 = .ok (.bipush (-2), 2) ∧ 12 + 2 = 14 := ⟨by decide +kernel, rfl⟩
theorem dX9_edit_14 : decode cX9_edit 14 = .ok (.ireturn, 1) ∧ 14 + 1 = 15 := ⟨by decide +kernel, rfl⟩
theorem dX9_edit_15 : decode cX9_edit 15 = .ok (.aload_n 0, 1) ∧ 15 + 1 = 16 := ⟨by decide +kernel, rfl⟩
theorem dX9_edit_16 : decode cX9_edit 16 = .ok (.getfield 95, 3) ∧ 16 + 3 = 19 := ⟨by decide +kernel, rfl⟩
theorem dX9_edit_19 : decode cX9_edit 19 = .ok (.iconst 1, 1) ∧ 19 + 1 = 20 := ⟨by decide +kernel, rfl⟩
theorem dX9_edit_20 : decode cX9_edit 20 = .ok (.bipush 8, 2) ∧ 20 + 2 = 22 := ⟨by decide +kernel, rfl⟩
theorem dX9_edit_22 : decode cX9_edit 22 = .ok (.invokestatic 101, 3) ∧ 22 + 3 = 25 := ⟨by decide +kernel, rfl⟩
theorem dX9_edit_25 : decode cX9_edit 25 = .ok (.ifCond .ne 6, 3) ∧ 25 + 3 = 28 ∧ ((25 : Nat) : Int) + (6) = ((31 : Nat) : Int) := ⟨by decide +kernel, rfl, rfl⟩
theorem dX9_edit_28 : decode cX9_edit 28 = .ok (.bipush (-3), 2) ∧ 28 + 2 = 30 := ⟨by decide +kernel, rfl⟩
theorem dX9_edit_30 : decode cX9_edit 30 = .ok (.ireturn, 1) ∧ 30 + 1 = 31 := ⟨by decide +kernel, rfl⟩
theorem dX9_edit_31 : decode cX9_edit 31 = .ok (.aload_n 0, 1) ∧ 31 + 1 = 32 := ⟨by decide +kernel, rfl⟩
theorem dX9_edit_32 : decode cX9_edit 32 = .ok (.iload_n 2, 1) ∧ 32 + 1 = 33 := ⟨by decide +kernel, rfl⟩
theorem dX9_edit_33 : decode cX9_edit 33 = .ok (.iconst 0, 1) ∧ 33 + 1 = 34 := ⟨by decide +kernel, rfl⟩
theorem dX9_edit_34 : decode cX9_edit 34 = .ok (.invokevirtual 77, 3) ∧ 34 + 3 = 37 := ⟨by decide +kernel, rfl⟩
theorem dX9_edit_37 : decode cX9_edit 37 = .ok (.istore_n 3, 1) ∧ 37 + 1 = 38 := ⟨by decide +kernel, rfl⟩
theorem dX9_edit_38 : decode cX9_edit 38 = .ok (.aload_n 0, 1) ∧ 38 + 1 = 39 := ⟨by decide +kernel, rfl⟩
theorem dX9_edit_39 : decode cX9_edit 39 = .ok (.iload_n 3, 1) ∧ 39 + 1 = 40 := ⟨by decide +kernel, rfl⟩
theorem dX9_edit_40 : decode cX9_edit 40 = .ok (.invokevirtual 148, 3) ∧ 40 + 3 = 43 := ⟨by decide +kernel, rfl⟩
theorem dX9_edit_43 : decode cX9_edit 43 = .ok (.ifCond .eq 6, 3) ∧ 43 + 3 = 46 ∧ ((43 : Nat) : Int) + (6) = ((49 : Nat) : Int) := ⟨by decide +kernel, rfl, rfl⟩
theorem dX9_edit_46 : decode cX9_edit 46 = .ok (.bipush (-6), 2) ∧ 46 + 2 = 48 := ⟨by decide +kernel, rfl⟩
theorem dX9_edit_48 : decode cX9_edit 48 = .ok (.ireturn, 1) ∧ 48 + 1 = 49 := ⟨by decide +kernel, rfl⟩
theorem dX9_edit_49 : decode cX9_edit 49 = .ok (.aload_n 0, 1) ∧ 49 + 1 = 50 := ⟨by decide +kernel, rfl⟩
theorem dX9_edit_50 : decode cX9_edit 50 = .ok (.invokevirtual 105, 3) ∧ 50 + 3 = 53 := ⟨by decide +kernel, rfl⟩
theorem dX9_edit_53 : decode cX9_edit 53 = .ok (.aload_n 0, 1) ∧ 53 + 1 = 54 := ⟨by decide +kernel, rfl⟩
theorem dX9_edit_54 : decode cX9_edit 54 = .ok (.iload_n 3, 1) ∧ 54 + 1 = 55 := ⟨by decide +kernel, rfl⟩
theorem dX9_edit_55 : decode cX9_edit 55 = .ok (.invokevirtual 112, 3) ∧ 55 + 3 = 58 := ⟨by decide +kernel, rfl⟩
theorem dX9_edit_58 : decode cX9_edit 58 = .ok (.aload_n 0, 1) ∧ 58 + 1 = 59 := ⟨by decide +kernel, rfl⟩
theorem dX9_edit_59 : decode cX9_edit 59 = .ok (.invokevirtual 126, 3) ∧ 59 + 3 = 62 := ⟨by decide +kernel, rfl⟩
theorem dX9_edit_62 : decode cX9_edit 62 = .ok (.aload_n 0, 1) ∧ 62 + 1 = 63 := ⟨by decide +kernel, rfl⟩
theorem dX9_edit_63 : decode cX9_edit 63 = .ok (.iload_n 3, 1) ∧ 63 + 1 = 64 := ⟨by decide +kernel, rfl⟩
theorem dX9_edit_64 : decode cX9_edit 64 = .ok (.invokevirtual 139, 3) ∧ 64 + 3 = 67 := ⟨by decide +kernel, rfl⟩
theorem dX9_edit_67 : decode cX9_edit 67 = .ok (.ireturn, 1) ∧ 67 + 1 = 68 := ⟨by decide +kernel, rfl⟩
theorem dX9_mark_0 : decode cX9_mark 0 = .ok (.aload_n 0, 1) ∧ 0 + 1 = 1 := ⟨by decide +kernel, rfl⟩
theorem dX9_mark_1 : decode cX9_mark 1 = .ok (.iload_n 1, 1) ∧ 1 + 1 = 2 := ⟨by decide +kernel, rfl⟩
theorem dX9_mark_2 : decode cX9_mark 2 = .ok (.invokevirtual 88, 3) ∧ 2 + 3 = 5 := ⟨by decide +kernel, rfl⟩
theorem dX9_mark_5 : decode cX9_mark 5 = .ok (.istore_n 3, 1) ∧ 5 + 1 = 6 := ⟨by decide +kernel, rfl⟩
theorem dX9_mark_6 : decode cX9_mark 6 = .ok (.iload_n 3, 1) ∧ 6 + 1 = 7 := ⟨by decide +kernel, rfl⟩
theorem dX9_mark_7 : decode cX9_mark 7 = .ok (.bipush (-6), 2) ∧ 7 + 2 = 9 := ⟨by decide +kernel, rfl⟩
theorem dX9_mark_9 : decode cX9_mark 9 = .ok (.if_icmp .ne 6, 3) ∧ 9 + 3 = 12 ∧ ((9 : Nat) : Int) + (6) = ((15 : Nat) : Int) := ⟨by decide +kernel, rfl, rfl⟩
theorem dX9_mark_12 : decode cX9_mark 12 = .ok (.bipush (-2), 2) ∧ 12 + 2 = 14 := ⟨by decide +kernel, rfl⟩
theorem dX9_mark_14 : decode cX9_mark 14 = .ok (.ireturn, 1) ∧ 14 + 1 = 15 := ⟨by decide +kernel, rfl⟩
theorem dX9_mark_15 : decode cX9_mark 15 = .ok (.iload_n 2, 1) ∧ 15 + 1 = 16 := ⟨by decide +kernel, rfl⟩
theorem dX9_mark_16 : decode cX9_mark 16 = .ok (.iconst 0, 1) ∧ 16 + 1 = 17 := ⟨by decide +kernel, rfl⟩
theorem dX9_mark_17 : decode cX9_mark 17 = .ok (.iconst 4, 1) ∧ 17 + 1 = 18 := ⟨by decide +kernel, rfl⟩
theorem dX9_mark_18 : decode cX9_mark 18 = .ok (.invokestatic 101, 3) ∧ 18 + 3 = 21 := ⟨by decide +kernel, rfl⟩
theorem dX9_mark_21 : decode cX9_mark 21 = .ok (.ifCond .ne 6, 3) ∧ 21 + 3 = 24 ∧ ((21 : Nat) : Int) + (6) = ((27 : Nat) : Int) := ⟨by decide +kernel, rfl, rfl⟩
theorem dX9_mark_24 : decode cX9_mark 24 = .ok (.bipush (-3), 2) ∧ 24 + 2 = 26 := ⟨by decide +kernel, rfl⟩
theorem dX9_mark_26 : decode cX9_mark 26 = .ok (.ireturn, 1) ∧ 26 + 1 = 27 := ⟨by decide +kernel, rfl⟩
theorem dX9_mark_27 : decode cX9_mark 27 = .ok (.aload_n 0, 1) ∧ 27 + 1 = 28 := ⟨by decide +kernel, rfl⟩
theorem dX9_mark_28 : decode cX9_mark 28 = .ok (.invokevirtual 105, 3) ∧ 28 + 3 = 31 := ⟨by decide +kernel, rfl⟩
theorem dX9_mark_31 : decode cX9_mark 31 = .ok (.aload_n 0, 1) ∧ 31 + 1 = 32 := ⟨by decide +kernel, rfl⟩
theorem dX9_mark_32 : decode cX9_mark 32 = .ok (.iload_n 3, 1) ∧ 32 + 1 = 33 := ⟨by decide +kernel, rfl⟩
theorem dX9_mark_33 : decode cX9_mark 33 = .ok (.iconst 0, 1) ∧ 33 + 1 = 34 := ⟨by decide +kernel, rfl⟩
theorem dX9_mark_34 : decode cX9_mark 34 = .ok (.invokevirtual 77, 3) ∧ 34 + 3 = 37 := ⟨by decide +kernel, rfl⟩
theorem dX9_mark_37 : decode cX9_mark 37 = .ok (.istore 4, 2) ∧ 37 + 2 = 39 := ⟨by decide +kernel, rfl⟩
theorem dX9_mark_39 : decode cX9_mark 39 = .ok (.aload_n 0, 1) ∧ 39 + 1 = 40 := ⟨by decide +kernel, rfl⟩
theorem dX9_mark_40 : decode cX9_mark 40 = .ok (.iload 4, 2) ∧ 40 + 2 = 42 := ⟨by decide +kernel, rfl⟩
theorem dX9_mark_42 : decode cX9_mark 42 = .ok (.bipush 10, 2) ∧ 42 + 2 = 44 := ⟨by decide +kernel, rfl⟩
theorem dX9_mark_44 : decode cX9_mark 44 = .ok (.aload_n 0, 1) ∧ 44 + 1 = 45 := ⟨by decide +kernel, rfl⟩
theorem dX9_mark_45 : decode cX9_mark 45 = .ok (.iload 4, 2) ∧ 45 + 2 = 47 := ⟨by decide +kernel, rfl⟩
theorem dX9_mark_47 : decode cX9_mark 47 = .ok (.bipush 10, 2) ∧ 47 + 2 = 49 := ⟨by decide +kernel, rfl⟩
theorem dX9_mark_49 : decode cX9_mark 49 = .ok (.invokevirtual 64, 3) ∧ 49 + 3 = 52 := ⟨by decide +kernel, rfl⟩
theorem dX9_mark_52 : decode cX9_mark 52 = .ok (.iconst 1, 1) ∧ 52 + 1 = 53 := ⟨by decide +kernel, rfl⟩
theorem dX9_mark_53 : decode cX9_mark 53 = .ok (.iload_n 2, 1) ∧ 53 + 1 = 54 := ⟨by decide +kernel, rfl⟩
theorem dX9_mark_54 : decode cX9_mark 54 = .ok (.ishl, 1) ∧ 54 + 1 = 55 := ⟨by decide +kernel, rfl⟩
theorem dX9_mark_55 : decode cX9_mark 55 = .ok (.ixor, 1) ∧ 55 + 1 = 56 := ⟨by decide +kernel, rfl⟩
theorem dX9_mark_56 : decode cX9_mark 56 = .ok (.invokevirtual 91, 3) ∧ 56 + 3 = 59 := ⟨by decide +kernel, rfl⟩
theorem dX9_mark_59 : decode cX9_mark 59 = .ok (.aload_n 0, 1) ∧ 59 + 1 = 60 := ⟨by decide +kernel, rfl⟩
theorem dX9_mark_60 : decode cX9_mark 60 = .ok (.invokevirtual 126, 3) ∧ 60 + 3 = 63 := ⟨by decide +kernel, rfl⟩
theorem dX9_mark_63 : decode cX9_mark 63 = .ok (.aload_n 0, 1) ∧ 63 + 1 = 64 := ⟨by decide +kernel, rfl⟩
theorem dX9_mark_64 : decode cX9_mark 64 = .ok (.iload 4, 2) ∧ 64 + 2 = 66 := ⟨by decide +kernel, rfl⟩
theorem dX9_mark_66 : decode cX9_mark 66 = .ok (.bipush 10, 2) ∧ 66 + 2 = 68 := ⟨by decide +kernel, rfl⟩
theorem dX9_mark_68 : decode cX9_mark 68 = .ok (.invokevirtual 64, 3) ∧ 68 + 3 = 71 := ⟨by decide +kernel, rfl⟩
theorem dX9_mark_71 : decode cX9_mark 71 = .ok (.ireturn, 1) ∧ 71 + 1 = 72 := ⟨by decide +kernel, rfl⟩
theorem dX9_hasKids_0 : decode cX9_hasKids 0 = .ok (.aload_n 0, 1) ∧ 0 + 1 = 1 := ⟨by decide +kernel, rfl⟩
theorem dX9_hasKids_1 : decode cX9_hasKids 1 = .ok (.aload_n 0, 1) ∧ 1 + 1 = 2 := ⟨by decide +kernel, rfl⟩
theorem dX9_hasKids_2 : decode cX9_hasKids 2 = .ok (.iload_n 1, 1) ∧ 2 + 1 = 3 := ⟨by decide +kernel, rfl⟩
theorem dX9_hasKids_3 : decode cX9_hasKids 3 = .ok (.iconst 0, 1) ∧ 3 + 1 = 4 := ⟨by decide +kernel, rfl⟩
theorem dX9_hasKids_4 : decode cX9_hasKids 4 = .ok (.invokevirtual 77, 3) ∧ 4 + 3 = 7 := ⟨by decide +kernel, rfl⟩
theorem dX9_hasKids_7 : decode cX9_hasKids 7 = .ok (.bipush 11, 2) ∧ 7 + 2 = 9 := ⟨by decide +kernel, rfl⟩
theorem dX9_hasKids_9 : decode cX9_hasKids 9 = .ok (.invokevirtual 64, 3) ∧ 9 + 3 = 12 := ⟨by decide +kernel, rfl⟩
theorem dX9_hasKids_12 : decode cX9_hasKids 12 = .ok (.ifCond .le 7, 3) ∧ 12 + 3 = 15 ∧ ((12 : Nat) : Int) + (7) = ((19 : Nat) : Int) := ⟨by decide +kernel, rfl, rfl⟩
theorem dX9_hasKids_15 : decode cX9_hasKids 15 = .ok (.iconst 1, 1) ∧ 15 + 1 = 16 := ⟨by decide +kernel, rfl⟩
theorem dX9_hasKids_16 : decode cX9_hasKids 16 = .ok (.goto 4, 3) ∧ 16 + 3 = 19 ∧ ((16 : Nat) : Int) + (4) = ((20 : Nat) : Int) := ⟨by decide +kernel, rfl, rfl⟩
theorem dX9_hasKids_19 : decode cX9_hasKids 19 = .ok (.iconst 0, 1) ∧ 19 + 1 = 20 := ⟨by decide +kernel, rfl⟩
theorem dX9_hasKids_20 : decode cX9_hasKids 20 = .ok (.ireturn, 1) ∧ 20 + 1 = 21 := ⟨by decide +kernel, rfl⟩
theorem dX9_fold_0 : decode cX9_fold 0 = .ok (.aload_n 0, 1) ∧ 0 + 1 = 1 := ⟨by decide +kernel, rfl⟩
theorem dX9_fold_1 : decode cX9_fold 1 = .ok (.iload_n 1, 1) ∧ 1 + 1 = 2 := ⟨by decide +kernel, rfl⟩
theorem dX9_fold_2 : decode cX9_fold 2 = .ok (.invokevirtual 88, 3) ∧ 2 + 3 = 5 := ⟨by decide +kernel, rfl⟩
theorem dX9_fold_5 : decode cX9_fold 5 = .ok (.istore_n 3, 1) ∧ 5 + 1 = 6 := ⟨by decide +kernel, rfl⟩
theorem dX9_fold_6 : decode cX9_fold 6 = .ok (.iload_n 3, 1) ∧ 6 + 1 = 7 := ⟨by decide +kernel, rfl⟩
theorem dX9_fold_7 : decode cX9_fold 7 = .ok (.bipush (-6), 2) ∧ 7 + 2 = 9 := ⟨by decide +kernel, rfl⟩
theorem dX9_fold_9 : decode cX9_fold 9 = .ok (.if_icmp .ne 6, 3) ∧ 9 + 3 = 12 ∧ ((9 : Nat) : Int) + (6) = ((15 : Nat) : Int) := ⟨by decide +kernel, rfl, rfl⟩
theorem dX9_fold_12 : decode cX9_fold 12 = .ok (.bipush (-2), 2) ∧ 12 + 2 = 14 := ⟨by decide +kernel, rfl⟩
theorem dX9_fold_14 : decode cX9_fold 14 = .ok (.ireturn, 1) ∧ 14 + 1 = 15 := ⟨by decide +kernel, rfl⟩
theorem dX9_fold_15 : decode cX9_fold 15 = .ok (.aload_n 0, 1) ∧ 15 + 1 = 16 := ⟨by decide +kernel, rfl⟩
theorem dX9_fold_16 : decode cX9_fold 16 = .ok (.iload_n 3, 1) ∧ 16 + 1 = 17 := ⟨by decide +kernel, rfl⟩
theorem dX9_fold_17 : decode cX9_fold 17 = .ok (.invokevirtual 151, 3) ∧ 17 + 3 = 20 := ⟨by decide +kernel, rfl⟩
theorem dX9_fold_20 : decode cX9_fold 20 = .ok (.ifCond .ne 6, 3) ∧ 20 + 3 = 23 ∧ ((20 : Nat) : Int) + (6) = ((26 : Nat) : Int) := ⟨by decide +kernel, rfl, rfl⟩
theorem dX9_fold_23 : decode cX9_fold 23 = .ok (.bipush (-5), 2) ∧ 23 + 2 = 25 := ⟨by decide +kernel, rfl⟩
theorem dX9_fold_25 : decode cX9_fold 25 = .ok (.ireturn, 1) ∧ 25 + 1 = 26 := ⟨by decide +kernel, rfl⟩
theorem dX9_fold_26 : decode cX9_fold 26 = .ok (.iload_n 2, 1) ∧ 26 + 1 = 27 := ⟨by decide +kernel, rfl⟩
theorem dX9_fold_27 : decode cX9_fold 27 = .ok (.ifCond .eq 7, 3) ∧ 27 + 3 = 30 ∧ ((27 : Nat) : Int) + (7) = ((34 : Nat) : Int) := ⟨by decide +kernel, rfl, rfl⟩
theorem dX9_fold_30 : decode cX9_fold 30 = .ok (.iconst 1, 1) ∧ 30 + 1 = 31 := ⟨by decide +kernel, rfl⟩
theorem dX9_fold_31 : decode cX9_fold 31 = .ok (.goto 4, 3) ∧ 31 + 3 = 34 ∧ ((31 : Nat) : Int) + (4) = ((35 : Nat) : Int) := ⟨by decide +kernel, rfl, rfl⟩
theorem dX9_fold_34 : decode cX9_fold 34 = .ok (.iconst 0, 1) ∧ 34 + 1 = 35 := ⟨by decide +kernel, rfl⟩
theorem dX9_fold_35 : decode cX9_fold 35 = .ok (.istore 4, 2) ∧ 35 + 2 = 37 := ⟨by decide +kernel, rfl⟩
theorem dX9_fold_37 : decode cX9_fold 37 = .ok (.aload_n 0, 1) ∧ 37 + 1 = 38 := ⟨by decide +kernel, rfl⟩
theorem dX9_fold_38 : decode cX9_fold 38 = .ok (.iload_n 3, 1) ∧ 38 + 1 = 39 := ⟨by decide +kernel, rfl⟩
theorem dX9_fold_39 : decode cX9_fold 39 = .ok (.iconst 2, 1) ∧ 39 + 1 = 40 := ⟨by decide +kernel, rfl⟩
theorem dX9_fold_40 : decode cX9_fold 40 = .ok (.invokevirtual 77, 3) ∧ 40 + 3 = 43 := ⟨by decide +kernel, rfl⟩
theorem dX9_fold_43 : decode cX9_fold 43 = .ok (.iload 4, 2) ∧ 43 + 2 = 45 := ⟨by decide +kernel, rfl⟩
theorem dX9_fold_45 : decode cX9_fold 45 = .ok (.if_icmp .ne 6, 3) ∧ 45 + 3 = 48 ∧ ((45 : Nat) : Int) + (6) = ((51 : Nat) : Int) := ⟨by decide +kernel, rfl, rfl⟩
theorem dX9_fold_48 : decode cX9_fold 48 = .ok (.bipush (-6), 2) ∧ 48 + 2 = 50 := ⟨by decide +kernel, rfl⟩
theorem dX9_fold_50 : decode cX9_fold 50 = .ok (.ireturn, 1) ∧ 50 + 1 = 51 := ⟨by decide +kernel, rfl⟩
theorem dX9_fold_51 : decode cX9_fold 51 = .ok (.aload_n 0, 1) ∧ 51 + 1 = 52 := ⟨by decide +kernel, rfl⟩
theorem dX9_fold_52 : decode cX9_fold 52 = .ok (.invokevirtual 105, 3) ∧ 52 + 3 = 55 := ⟨by decide +kernel, rfl⟩
theorem dX9_fold_55 : decode cX9_fold 55 = .ok (.aload_n 0, 1) ∧ 55 + 1 = 56 := ⟨by decide +kernel, rfl⟩
theorem dX9_fold_56 : decode cX9_fold 56 = .ok (.getfield 7, 3) ∧ 56 + 3 = 59 := ⟨by decide +kernel, rfl⟩
theorem dX9_fold_59 : decode cX9_fold 59 = .ok (.sipush 2134, 3) ∧ 59 + 3 = 62 := ⟨by decide +kernel, rfl⟩
theorem dX9_fold_62 : decode cX9_fold 62 = .ok (.iconst 3, 1) ∧ 62 + 1 = 63 := ⟨by decide +kernel, rfl⟩
theorem dX9_fold_63 : decode cX9_fold 63 = .ok (.iload_n 3, 1) ∧ 63 + 1 = 64 := ⟨by decide +kernel, rfl⟩
theorem dX9_fold_64 : decode cX9_fold 64 = .ok (.imul, 1) ∧ 64 + 1 = 65 := ⟨by decide +kernel, rfl⟩
theorem dX9_fold_65 : decode cX9_fold 65 = .ok (.iadd, 1) ∧ 65 + 1 = 66 := ⟨by decide +kernel, rfl⟩
theorem dX9_fold_66 : decode cX9_fold 66 = .ok (.iconst 2, 1) ∧ 66 + 1 = 67 := ⟨by decide +kernel, rfl⟩
theorem dX9_fold_67 : decode cX9_fold 67 = .ok (.iadd, 1) ∧ 67 + 1 = 68 := ⟨by decide +kernel, rfl⟩
theorem dX9_fold_68 : decode cX9_fold 68 = .ok (.iload 4, 2) ∧ 68 + 2 = 70 := ⟨by decide +kernel, rfl⟩
theorem dX9_fold_70 : decode cX9_fold 70 = .ok (.iastore, 1) ∧ 70 + 1 = 71 := ⟨by decide +kernel, rfl⟩
theorem dX9_fold_71 : decode cX9_fold 71 = .ok (.aload_n 0, 1) ∧ 71 + 1 = 72 := ⟨by decide +kernel, rfl⟩
theorem dX9_fold_72 : decode cX9_fold 72 = .ok (.invokevirtual 126, 3) ∧ 72 + 3 = 75 := ⟨by decide +kernel, rfl⟩
theorem dX9_fold_75 : decode cX9_fold 75 = .ok (.aload_n 0, 1) ∧ 75 + 1 = 76 := ⟨by decide +kernel, rfl⟩
theorem dX9_fold_76 : decode cX9_fold 76 = .ok (.invokevirtual 154, 3) ∧ 76 + 3 = 79 := ⟨by decide +kernel, rfl⟩
theorem dX9_fold_79 : decode cX9_fold 79 = .ok (.ireturn, 1) ∧ 79 + 1 = 80 := ⟨by decide +kernel, rfl⟩
theorem dX9_foldLevel_0 : decode cX9_foldLevel 0 = .ok (.iload_n 1, 1) ∧ 0 + 1 = 1 := ⟨by decide +kernel, rfl⟩
theorem dX9_foldLevel_1 : decode cX9_foldLevel 1 = .ok (.iconst 1, 1) ∧ 1 + 1 = 2 := ⟨by decide +kernel, rfl⟩
theorem dX9_foldLevel_2 : decode cX9_foldLevel 2 = .ok (.bipush 40, 2) ∧ 2 + 2 = 4 := ⟨by decide +kernel, rfl⟩
theorem dX9_foldLevel_4 : decode cX9_foldLevel 4 = .ok (.invokestatic 101, 3) ∧ 4 + 3 = 7 := ⟨by decide +kernel, rfl⟩
theorem dX9_foldLevel_7 : decode cX9_foldLevel 7 = .ok (.ifCond .ne 6, 3) ∧ 7 + 3 = 10 ∧ ((7 : Nat) : Int) + (6) = ((13 : Nat) : Int) := ⟨by decide +kernel, rfl, rfl⟩
theorem dX9_foldLevel_10 : decode cX9_foldLevel 10 = .ok (.bipush (-3), 2) ∧ 10 + 2 = 12 := ⟨by decide +kernel, rfl⟩
theorem dX9_foldLevel_12 : decode cX9_foldLevel 12 = .ok (.ireturn, 1) ∧ 12 + 1 = 13 := ⟨by decide +kernel, rfl⟩
theorem dX9_foldLevel_13 : decode cX9_foldLevel 13 = .ok (.aload_n 0, 1) ∧ 13 + 1 = 14 := ⟨by decide +kernel, rfl⟩
theorem dX9_foldLevel_14 : decode cX9_foldLevel 14 = .ok (.invokevirtual 105, 3) ∧ 14 + 3 = 17 := ⟨by decide +kernel, rfl⟩
theorem dX9_foldLevel_17 : decode cX9_foldLevel 17 = .ok (.iconst 0, 1) ∧ 17 + 1 = 18 := ⟨by decide +kernel, rfl⟩
theorem dX9_foldLevel_18 : decode cX9_foldLevel 18 = .ok (.istore_n 2, 1) ∧ 18 + 1 = 19 := ⟨by decide +kernel, rfl⟩
theorem dX9_foldLevel_19 : decode cX9_foldLevel 19 = .ok (.iconst 0, 1) ∧ 19 + 1 = 20 := ⟨by decide +kernel, rfl⟩
theorem dX9_foldLevel_20 : decode cX9_foldLevel 20 = .ok (.istore_n 3, 1) ∧ 20 + 1 = 21 := ⟨by decide +kernel, rfl⟩
theorem dX9_foldLevel_21 : decode cX9_foldLevel 21 = .ok (.iload_n 3, 1) ∧ 21 + 1 = 22 := ⟨by decide +kernel, rfl⟩
theorem dX9_foldLevel_22 : decode cX9_foldLevel 22 = .ok (.aload_n 0, 1) ∧ 22 + 1 = 23 := ⟨by decide +kernel, rfl⟩
theorem dX9_foldLevel_23 : decode cX9_foldLevel 23 = .ok (.getfield 7, 3) ∧ 23 + 3 = 26 := ⟨by decide +kernel, rfl⟩
theorem dX9_foldLevel_26 : decode cX9_foldLevel 26 = .ok (.iconst 1, 1) ∧ 26 + 1 = 27 := ⟨by decide +kernel, rfl⟩
theorem dX9_foldLevel_27 : decode cX9_foldLevel 27 = .ok (.iaload, 1) ∧ 27 + 1 = 28 := ⟨by decide +kernel, rfl⟩
theorem dX9_foldLevel_28 : decode cX9_foldLevel 28 = .ok (.if_icmp .ge 90, 3) ∧ 28 + 3 = 31 ∧ ((28 : Nat) : Int) + (90) = ((118 : Nat) : Int) := ⟨by decide +kernel, rfl, rfl⟩
theorem dX9_foldLevel_31 : decode cX9_foldLevel 31 = .ok (.aload_n 0, 1) ∧ 31 + 1 = 32 := ⟨by decide +kernel, rfl⟩
theorem dX9_foldLevel_32 : decode cX9_foldLevel 32 = .ok (.iload_n 3, 1) ∧ 32 + 1 = 33 := ⟨by decide +kernel, rfl⟩
theorem dX9_foldLevel_33 : decode cX9_foldLevel 33 = .ok (.iconst 1, 1) ∧ 33 + 1 = 34 := ⟨by decide +kernel, rfl⟩
theorem dX9_foldLevel_34 : decode cX9_foldLevel 34 = .ok (.invokevirtual 77, 3) ∧ 34 + 3 = 37 := ⟨by decide +kernel, rfl⟩
theorem dX9_foldLevel_37 : decode cX9_foldLevel 37 = .ok (.iload_n 1, 1) ∧ 37 + 1 = 38 := ⟨by decide +kernel, rfl⟩
theorem dX9_foldLevel_38 : decode cX9_foldLevel 38 = .ok (.if_icmp .ge 7, 3) ∧ 38 + 3 = 41 ∧ ((38 : Nat) : Int) + (7) = ((45 : Nat) : Int) := ⟨by decide +kernel, rfl, rfl⟩
theorem dX9_foldLevel_41 : decode cX9_foldLevel 41 = .ok (.iconst 0, 1) ∧ 41 + 1 = 42 := ⟨by decide +kernel, rfl⟩
theorem dX9_foldLevel_42 : decode cX9_foldLevel 42 = .ok (.goto 31, 3) ∧ 42 + 3 = 45 ∧ ((42 : Nat) : Int) + (31) = ((73 : Nat) : Int) := ⟨by decide +kernel, rfl, rfl⟩
theorem dX9_foldLevel_45 : decode cX9_foldLevel 45 = .ok (.aload_n 0, 1) ∧ 45 + 1 = 46 := ⟨by decide +kernel, rfl⟩
theorem dX9_foldLevel_46 : decode cX9_foldLevel 46 = .ok (.iload_n 3, 1) ∧ 46 + 1 = 47 := ⟨by decide +kernel, rfl⟩
theorem dX9_foldLevel_47 : decode cX9_foldLevel 47 = .ok (.iconst 1, 1) ∧ 47 + 1 = 48 := ⟨by decide +kernel, rfl⟩
theorem dX9_foldLevel_48 : decode cX9_foldLevel 48 = .ok (.invokevirtual 77, 3) ∧ 48 + 3 = 51 := ⟨by decide +kernel, rfl⟩
theorem dX9_foldLevel_51 : decode cX9_foldLevel 51 = .ok (.iload_n 1, 1) ∧ 51 + 1 = 52 := ⟨by decide +kernel, rfl⟩
theorem dX9_foldLevel_52 : decode cX9_foldLevel 52 = .ok (.if_icmp .ne 15, 3) ∧ 52 + 3 = 55 ∧ ((52 : Nat) : Int) + (15) = ((67 : Nat) : Int) := ⟨by decide +kernel, rfl, rfl⟩
theorem dX9_foldLevel_55 : decode cX9_foldLevel 55 = .ok (.aload_n 0, 1) ∧ 55 + 1 = 56 := ⟨by decide +kernel, rfl⟩
theorem dX9_foldLevel_56 : decode cX9_foldLevel 56 = .ok (.iload_n 3, 1) ∧ 56 + 1 = 57 := ⟨by decide +kernel, rfl⟩
theorem dX9_foldLevel_57 : decode cX9_foldLevel 57 = .ok (.invokevirtual 151, 3) ∧ 57 + 3 = 60 := ⟨by decide +kernel, rfl⟩
theorem dX9_foldLevel_60 : decode cX9_foldLevel 60 = .ok (.ifCond .eq 7, 3) ∧ 60 + 3 = 63 ∧ ((60 : Nat) : Int) + (7) = ((67 : Nat) : Int) := ⟨by decide +kernel, rfl, rfl⟩
theorem dX9_foldLevel_63 : decode cX9_foldLevel 63 = .ok (.iconst 1, 1) ∧ 63 + 1 = 64 := ⟨by decide +kernel, rfl⟩
theorem dX9_foldLevel_64 : decode cX9_foldLevel 64 = .ok (.goto 9, 3) ∧ 64 + 3 = 67 ∧ ((64 : Nat) : Int) + (9) = ((73 : Nat) : Int) := ⟨by decide +kernel, rfl, rfl⟩
theorem dX9_foldLevel_67 : decode cX9_foldLevel 67 = .ok (.aload_n 0, 1) ∧ 67 + 1 = 68 := ⟨by decide +kernel, rfl⟩
theorem dX9_foldLevel_68 : decode cX9_foldLevel 68 = .ok (.iload_n 3, 1) ∧ 68 + 1 = 69 := ⟨by decide +kernel, rfl⟩
theorem dX9_foldLevel_69 : decode cX9_foldLevel 69 = .ok (.iconst 2, 1) ∧ 69 + 1 = 70 := ⟨by decide +kernel, rfl⟩
theorem dX9_foldLevel_70 : decode cX9_foldLevel 70 = .ok (.invokevirtual 77, 3) ∧ 70 + 3 = 73 := ⟨by decide +kernel, rfl⟩
theorem dX9_foldLevel_73 : decode cX9_foldLevel 73 = .ok (.istore 4, 2) ∧ 73 + 2 = 75 := ⟨by decide +kernel, rfl⟩
theorem dX9_foldLevel_75 : decode cX9_foldLevel 75 = .ok (.iload_n 2, 1) ∧ 75 + 1 = 76 := ⟨by decide +kernel, rfl⟩
theorem dX9_foldLevel_76 : decode cX9_foldLevel 76 = .ok (.ifCond .ne 14, 3) ∧ 76 + 3 = 79 ∧ ((76 : Nat) : Int) + (14) = ((90 : Nat) : Int) := ⟨by decide +kernel, rfl, rfl⟩
theorem dX9_foldLevel_79 : decode cX9_foldLevel 79 = .ok (.iload 4, 2) ∧ 79 + 2 = 81 := ⟨by decide +kernel, rfl⟩
theorem dX9_foldLevel_81 : decode cX9_foldLevel 81 = .ok (.aload_n 0, 1) ∧ 81 + 1 = 82 := ⟨by decide +kernel, rfl⟩
theorem dX9_foldLevel_82 : decode cX9_foldLevel 82 = .ok (.iload_n 3, 1) ∧ 82 + 1 = 83 := ⟨by decide +kernel, rfl⟩
theorem dX9_foldLevel_83 : decode cX9_foldLevel 83 = .ok (.iconst 2, 1) ∧ 83 + 1 = 84 := ⟨by decide +kernel, rfl⟩
theorem dX9_foldLevel_84 : decode cX9_foldLevel 84 = .ok (.invokevirtual 77, 3) ∧ 84 + 3 = 87 := ⟨by decide +kernel, rfl⟩
theorem dX9_foldLevel_87 : decode cX9_foldLevel 87 = .ok (.if_icmp .eq 7, 3) ∧ 87 + 3 = 90 ∧ ((87 : Nat) : Int) + (7) = ((94 : Nat) : Int) := ⟨by decide +kernel, rfl, rfl⟩
theorem dX9_foldLevel_90 : decode cX9_foldLevel 90 = .ok (.iconst 1, 1) ∧ 90 + 1 = 91 := ⟨by decide +kernel, rfl⟩
theorem dX9_foldLevel_91 : decode cX9_foldLevel 91 = .ok (.goto 4, 3) ∧ 91 + 3 = 94 ∧ ((91 : Nat) : Int) + (4) = ((95 : Nat) : Int) := ⟨by decide +kernel, rfl, rfl⟩
theorem dX9_foldLevel_94 : decode cX9_foldLevel 94 = .ok (.iconst 0, 1) ∧ 94 + 1 = 95 := ⟨by decide +kernel, rfl⟩
theorem dX9_foldLevel_95 : decode cX9_foldLevel 95 = .ok (.istore_n 2, 1) ∧ 95 + 1 = 96 := ⟨by decide +kernel, rfl⟩
theorem dX9_foldLevel_96 : decode cX9_foldLevel 96 = .ok (.aload_n 0, 1) ∧ 96 + 1 = 97 := ⟨by decide +kernel, rfl⟩
theorem dX9_foldLevel_97 : decode cX9_foldLevel 97 = .ok (.getfield 7, 3) ∧ 97 + 3 = 100 := ⟨by decide +kernel, rfl⟩
theorem dX9_foldLevel_100 : decode cX9_foldLevel 100 = .ok (.sipush 2134, 3) ∧ 100 + 3 = 103 := ⟨by decide +kernel, rfl⟩
theorem dX9_foldLevel_103 : decode cX9_foldLevel 103 = .ok (.iconst 3, 1) ∧ 103 + 1 = 104 := ⟨by decide +kernel, rfl⟩
theorem dX9_foldLevel_104 : decode cX9_foldLevel 104 = .ok (.iload_n 3, 1) ∧ 104 + 1 = 105 := ⟨by decide +kernel, rfl⟩
theorem dX9_foldLevel_105 : decode cX9_foldLevel 105 = .ok (.imul, 1) ∧ 105 + 1 = 106 := ⟨by decide +kernel, rfl⟩
theorem dX9_foldLevel_106 : decode cX9_foldLevel 106 = .ok (.iadd, 1) ∧ 106 + 1 = 107 := ⟨by decide +kernel, rfl⟩
theorem dX9_foldLevel_107 : decode cX9_foldLevel 107 = .ok (.iconst 2, 1) ∧ 107 + 1 = 108 := ⟨by decide +kernel, rfl⟩
theorem dX9_foldLevel_108 : decode cX9_foldLevel 108 = .ok (.iadd, 1) ∧ 108 + 1 = 109 := ⟨by decide +kernel, rfl⟩
theorem dX9_foldLevel_109 : decode cX9_foldLevel 109 = .ok (.iload 4, 2) ∧ 109 + 2 = 111 := ⟨by decide +kernel, rfl⟩
theorem dX9_foldLevel_111 : decode cX9_foldLevel 111 = .ok (.iastore, 1) ∧ 111 + 1 = 112 := ⟨by decide +kernel, rfl⟩
theorem dX9_foldLevel_112 : decode cX9_foldLevel 112 = .ok (.iinc 3 1, 3) ∧ 112 + 3 = 115 := ⟨by decide +kernel, rfl⟩
theorem dX9_foldLevel_115 : decode cX9_foldLevel 115 = .ok (.goto (-94), 3) ∧ 115 + 3 = 118 ∧ ((115 : Nat) : Int) + (-94) = ((21 : Nat) : Int) := ⟨by decide +kernel, rfl, rfl⟩
theorem dX9_foldLevel_118 : decode cX9_foldLevel 118 = .ok (.iload_n 2, 1) ∧ 118 + 1 = 119 := ⟨by decide +kernel, rfl⟩
theorem dX9_foldLevel_119 : decode cX9_foldLevel 119 = .ok (.ifCond .ne 6, 3) ∧ 119 + 3 = 122 ∧ ((119 : Nat) : Int) + (6) = ((125 : Nat) : Int) := ⟨by decide +kernel, rfl, rfl⟩
theorem dX9_foldLevel_122 : decode cX9_foldLevel 122 = .ok (.bipush (-6), 2) ∧ 122 + 2 = 124 := ⟨by decide +kernel, rfl⟩
theorem dX9_foldLevel_124 : decode cX9_foldLevel 124 = .ok (.ireturn, 1) ∧ 124 + 1 = 125 := ⟨by decide +kernel, rfl⟩
theorem dX9_foldLevel_125 : decode cX9_foldLevel 125 = .ok (.aload_n 0, 1) ∧ 125 + 1 = 126 := ⟨by decide +kernel, rfl⟩
theorem dX9_foldLevel_126 : decode cX9_foldLevel 126 = .ok (.invokevirtual 126, 3) ∧ 126 + 3 = 129 := ⟨by decide +kernel, rfl⟩
theorem dX9_foldLevel_129 : decode cX9_foldLevel 129 = .ok (.aload_n 0, 1) ∧ 129 + 1 = 130 := ⟨by decide +kernel, rfl⟩
theorem dX9_foldLevel_130 : decode cX9_foldLevel 130 = .ok (.invokevirtual 154, 3) ∧ 130 + 3 = 133 := ⟨by decide +kernel, rfl⟩
theorem dX9_foldLevel_133 : decode cX9_foldLevel 133 = .ok (.ireturn, 1) ∧ 133 + 1 = 134 := ⟨by decide +kernel, rfl⟩
theorem dX9_isNode_0 : decode cX9_isNode 0 = .ok (.iload_n 1, 1) ∧ 0 + 1 = 1 := ⟨by decide +kernel, rfl⟩
theorem dX9_isNode_1 : decode cX9_isNode 1 = .ok (.iconst 1, 1) ∧ 1 + 1 = 2 := ⟨by decide +kernel, rfl⟩
theorem dX9_isNode_2 : decode cX9_isNode 2 = .ok (.aload_n 0, 1) ∧ 2 + 1 = 3 := ⟨by decide +kernel, rfl⟩
theorem dX9_isNode_3 : decode cX9_isNode 3 = .ok (.getfield 7, 3) ∧ 3 + 3 = 6 := ⟨by decide +kernel, rfl⟩
theorem dX9_isNode_6 : decode cX9_isNode 6 = .ok (.iconst 0, 1) ∧ 6 + 1 = 7 := ⟨by decide +kernel, rfl⟩
theorem dX9_isNode_7 : decode cX9_isNode 7 = .ok (.iaload, 1) ∧ 7 + 1 = 8 := ⟨by decide +kernel, rfl⟩
theorem dX9_isNode_8 : decode cX9_isNode 8 = .ok (.invokestatic 101, 3) ∧ 8 + 3 = 11 := ⟨by decide +kernel, rfl⟩
theorem dX9_isNode_11 : decode cX9_isNode 11 = .ok (.ifCond .eq 17, 3) ∧ 11 + 3 = 14 ∧ ((11 : Nat) : Int) + (17) = ((28 : Nat) : Int) := ⟨by decide +kernel, rfl, rfl⟩
theorem dX9_isNode_14 : decode cX9_isNode 14 = .ok (.aload_n 0, 1) ∧ 14 + 1 = 15 := ⟨by decide +kernel, rfl⟩
theorem dX9_isNode_15 : decode cX9_isNode 15 = .ok (.iload_n 1, 1) ∧ 15 + 1 = 16 := ⟨by decide +kernel, rfl⟩
theorem dX9_isNode_16 : decode cX9_isNode 16 = .ok (.iconst 0, 1) ∧ 16 + 1 = 17 := ⟨by decide +kernel, rfl⟩
theorem dX9_isNode_17 : decode cX9_isNode 17 = .ok (.invokevirtual 64, 3) ∧ 17 + 3 = 20 := ⟨by decide +kernel, rfl⟩
theorem dX9_isNode_20 : decode cX9_isNode 20 = .ok (.iconst 1, 1) ∧ 20 + 1 = 21 := ⟨by decide +kernel, rfl⟩
theorem dX9_isNode_21 : decode cX9_isNode 21 = .ok (.if_icmp .ne 7, 3) ∧ 21 + 3 = 24 ∧ ((21 : Nat) : Int) + (7) = ((28 : Nat) : Int) := ⟨by decide +kernel, rfl, rfl⟩
theorem dX9_isNode_24 : decode cX9_isNode 24 = .ok (.iconst 1, 1) ∧ 24 + 1 = 25 := ⟨by decide +kernel, rfl⟩
theorem dX9_isNode_25 : decode cX9_isNode 25 = .ok (.goto 4, 3) ∧ 25 + 3 = 28 ∧ ((25 : Nat) : Int) + (4) = ((29 : Nat) : Int) := ⟨by decide +kernel, rfl, rfl⟩
theorem dX9_isNode_28 : decode cX9_isNode 28 = .ok (.iconst 0, 1) ∧ 28 + 1 = 29 := ⟨by decide +kernel, rfl⟩
theorem dX9_isNode_29 : decode cX9_isNode 29 = .ok (.ireturn, 1) ∧ 29 + 1 = 30 := ⟨by decide +kernel, rfl⟩
theorem dX9_firstPlace_0 : decode cX9_firstPlace 0 = .ok (.iconst 0, 1) ∧ 0 + 1 = 1 := ⟨by decide +kernel, rfl⟩
theorem dX9_firstPlace_1 : decode cX9_firstPlace 1 = .ok (.istore_n 2, 1) ∧ 1 + 1 = 2 := ⟨by decide +kernel, rfl⟩
theorem dX9_firstPlace_2 : decode cX9_firstPlace 2 = .ok (.aload_n 0, 1) ∧ 2 + 1 = 3 := ⟨by decide +kernel, rfl⟩
theorem dX9_firstPlace_3 : decode cX9_firstPlace 3 = .ok (.iload_n 2, 1) ∧ 3 + 1 = 4 := ⟨by decide +kernel, rfl⟩
theorem dX9_firstPlace_4 : decode cX9_firstPlace 4 = .ok (.iconst 0, 1) ∧ 4 + 1 = 5 := ⟨by decide +kernel, rfl⟩
theorem dX9_firstPlace_5 : decode cX9_firstPlace 5 = .ok (.invokevirtual 77, 3) ∧ 5 + 3 = 8 := ⟨by decide +kernel, rfl⟩
theorem dX9_firstPlace_8 : decode cX9_firstPlace 8 = .ok (.iload_n 1, 1) ∧ 8 + 1 = 9 := ⟨by decide +kernel, rfl⟩
theorem dX9_firstPlace_9 : decode cX9_firstPlace 9 = .ok (.if_icmp .eq 9, 3) ∧ 9 + 3 = 12 ∧ ((9 : Nat) : Int) + (9) = ((18 : Nat) : Int) := ⟨by decide +kernel, rfl, rfl⟩
theorem dX9_firstPlace_12 : decode cX9_firstPlace 12 = .ok (.iinc 2 1, 3) ∧ 12 + 3 = 15 := ⟨by decide +kernel, rfl⟩
theorem dX9_firstPlace_15 : decode cX9_firstPlace 15 = .ok (.goto (-13), 3) ∧ 15 + 3 = 18 ∧ ((15 : Nat) : Int) + (-13) = ((2 : Nat) : Int) := ⟨by decide +kernel, rfl, rfl⟩
theorem dX9_firstPlace_18 : decode cX9_firstPlace 18 = .ok (.iload_n 2, 1) ∧ 18 + 1 = 19 := ⟨by decide +kernel, rfl⟩
theorem dX9_firstPlace_19 : decode cX9_firstPlace 19 = .ok (.ireturn, 1) ∧ 19 + 1 = 20 := ⟨by decide +kernel, rfl⟩
theorem dX9_show_0 : decode cX9_show 0 = .ok (.aload_n 0, 1) ∧ 0 + 1 = 1 := ⟨by decide +kernel, rfl⟩
theorem dX9_show_1 : decode cX9_show 1 = .ok (.iload_n 1, 1) ∧ 1 + 1 = 2 := ⟨by decide +kernel, rfl⟩
theorem dX9_show_2 : decode cX9_show 2 = .ok (.invokevirtual 158, 3) ∧ 2 + 3 = 5 := ⟨by decide +kernel, rfl⟩
theorem dX9_show_5 : decode cX9_show 5 = .ok (.ifCond .ne 6, 3) ∧ 5 + 3 = 8 ∧ ((5 : Nat) : Int) + (6) = ((11 : Nat) : Int) := ⟨by decide +kernel, rfl, rfl⟩
theorem dX9_show_8 : decode cX9_show 8 = .ok (.bipush (-2), 2) ∧ 8 + 2 = 10 := ⟨by decide +kernel, rfl⟩
theorem dX9_show_10 : decode cX9_show 10 = .ok (.ireturn, 1) ∧ 10 + 1 = 11 := ⟨by decide +kernel, rfl⟩
theorem dX9_show_11 : decode cX9_show 11 = .ok (.aload_n 0, 1) ∧ 11 + 1 = 12 := ⟨by decide +kernel, rfl⟩
theorem dX9_show_12 : decode cX9_show 12 = .ok (.iload_n 1, 1) ∧ 12 + 1 = 13 := ⟨by decide +kernel, rfl⟩
theorem dX9_show_13 : decode cX9_show 13 = .ok (.invokevirtual 161, 3) ∧ 13 + 3 = 16 := ⟨by decide +kernel, rfl⟩
theorem dX9_show_16 : decode cX9_show 16 = .ok (.istore_n 2, 1) ∧ 16 + 1 = 17 := ⟨by decide +kernel, rfl⟩
theorem dX9_show_17 : decode cX9_show 17 = .ok (.aload_n 0, 1) ∧ 17 + 1 = 18 := ⟨by decide +kernel, rfl⟩
theorem dX9_show_18 : decode cX9_show 18 = .ok (.iload_n 2, 1) ∧ 18 + 1 = 19 := ⟨by decide +kernel, rfl⟩
theorem dX9_show_19 : decode cX9_show 19 = .ok (.invokevirtual 80, 3) ∧ 19 + 3 = 22 := ⟨by decide +kernel, rfl⟩
theorem dX9_show_22 : decode cX9_show 22 = .ok (.ifCond .eq 6, 3) ∧ 22 + 3 = 25 ∧ ((22 : Nat) : Int) + (6) = ((28 : Nat) : Int) := ⟨by decide +kernel, rfl, rfl⟩
theorem dX9_show_25 : decode cX9_show 25 = .ok (.bipush (-6), 2) ∧ 25 + 2 = 27 := ⟨by decide +kernel, rfl⟩
theorem dX9_show_27 : decode cX9_show 27 = .ok (.ireturn, 1) ∧ 27 + 1 = 28 := ⟨by decide +kernel, rfl⟩
theorem dX9_show_28 : decode cX9_show 28 = .ok (.aload_n 0, 1) ∧ 28 + 1 = 29 := ⟨by decide +kernel, rfl⟩
theorem dX9_show_29 : decode cX9_show 29 = .ok (.invokevirtual 105, 3) ∧ 29 + 3 = 32 := ⟨by decide +kernel, rfl⟩
theorem dX9_show_32 : decode cX9_show 32 = .ok (.aload_n 0, 1) ∧ 32 + 1 = 33 := ⟨by decide +kernel, rfl⟩
theorem dX9_show_33 : decode cX9_show 33 = .ok (.iload_n 2, 1) ∧ 33 + 1 = 34 := ⟨by decide +kernel, rfl⟩
theorem dX9_show_34 : decode cX9_show 34 = .ok (.invokevirtual 84, 3) ∧ 34 + 3 = 37 := ⟨by decide +kernel, rfl⟩
theorem dX9_show_37 : decode cX9_show 37 = .ok (.istore_n 3, 1) ∧ 37 + 1 = 38 := ⟨by decide +kernel, rfl⟩
theorem dX9_show_38 : decode cX9_show 38 = .ok (.iload_n 3, 1) ∧ 38 + 1 = 39 := ⟨by decide +kernel, rfl⟩
theorem dX9_show_39 : decode cX9_show 39 = .ok (.ifCond .lt 27, 3) ∧ 39 + 3 = 42 ∧ ((39 : Nat) : Int) + (27) = ((66 : Nat) : Int) := ⟨by decide +kernel, rfl, rfl⟩
theorem dX9_show_42 : decode cX9_show 42 = .ok (.aload_n 0, 1) ∧ 42 + 1 = 43 := ⟨by decide +kernel, rfl⟩
theorem dX9_show_43 : decode cX9_show 43 = .ok (.getfield 7, 3) ∧ 43 + 3 = 46 := ⟨by decide +kernel, rfl⟩
theorem dX9_show_46 : decode cX9_show 46 = .ok (.sipush 2134, 3) ∧ 46 + 3 = 49 := ⟨by decide +kernel, rfl⟩
theorem dX9_show_49 : decode cX9_show 49 = .ok (.iconst 3, 1) ∧ 49 + 1 = 50 := ⟨by decide +kernel, rfl⟩
theorem dX9_show_50 : decode cX9_show 50 = .ok (.iload_n 3, 1) ∧ 50 + 1 = 51 := ⟨by decide +kernel, rfl⟩
theorem dX9_show_51 : decode cX9_show 51 = .ok (.imul, 1) ∧ 51 + 1 = 52 := ⟨by decide +kernel, rfl⟩
theorem dX9_show_52 : decode cX9_show 52 = .ok (.iadd, 1) ∧ 52 + 1 = 53 := ⟨by decide +kernel, rfl⟩
theorem dX9_show_53 : decode cX9_show 53 = .ok (.iconst 2, 1) ∧ 53 + 1 = 54 := ⟨by decide +kernel, rfl⟩
theorem dX9_show_54 : decode cX9_show 54 = .ok (.iadd, 1) ∧ 54 + 1 = 55 := ⟨by decide +kernel, rfl⟩
theorem dX9_show_55 : decode cX9_show 55 = .ok (.iconst 0, 1) ∧ 55 + 1 = 56 := ⟨by decide +kernel, rfl⟩
theorem dX9_show_56 : decode cX9_show 56 = .ok (.iastore, 1) ∧ 56 + 1 = 57 := ⟨by decide +kernel, rfl⟩
theorem dX9_show_57 : decode cX9_show 57 = .ok (.aload_n 0, 1) ∧ 57 + 1 = 58 := ⟨by decide +kernel, rfl⟩
theorem dX9_show_58 : decode cX9_show 58 = .ok (.iload_n 3, 1) ∧ 58 + 1 = 59 := ⟨by decide +kernel, rfl⟩
theorem dX9_show_59 : decode cX9_show 59 = .ok (.invokevirtual 84, 3) ∧ 59 + 3 = 62 := ⟨by decide +kernel, rfl⟩
theorem dX9_show_62 : decode cX9_show 62 = .ok (.istore_n 3, 1) ∧ 62 + 1 = 63 := ⟨by decide +kernel, rfl⟩
theorem dX9_show_63 : decode cX9_show 63 = .ok (.goto (-25), 3) ∧ 63 + 3 = 66 ∧ ((63 : Nat) : Int) + (-25) = ((38 : Nat) : Int) := ⟨by decide +kernel, rfl, rfl⟩
theorem dX9_show_66 : decode cX9_show 66 = .ok (.aload_n 0, 1) ∧ 66 + 1 = 67 := ⟨by decide +kernel, rfl⟩
theorem dX9_show_67 : decode cX9_show 67 = .ok (.invokevirtual 126, 3) ∧ 67 + 3 = 70 := ⟨by decide +kernel, rfl⟩
theorem dX9_show_70 : decode cX9_show 70 = .ok (.aload_n 0, 1) ∧ 70 + 1 = 71 := ⟨by decide +kernel, rfl⟩
theorem dX9_show_71 : decode cX9_show 71 = .ok (.iload_n 2, 1) ∧ 71 + 1 = 72 := ⟨by decide +kernel, rfl⟩
theorem dX9_show_72 : decode cX9_show 72 = .ok (.invokevirtual 164, 3) ∧ 72 + 3 = 75 := ⟨by decide +kernel, rfl⟩
theorem dX9_show_75 : decode cX9_show 75 = .ok (.ireturn, 1) ∧ 75 + 1 = 76 := ⟨by decide +kernel, rfl⟩
theorem dX9_type_0 : decode cX9_type 0 = .ok (.aload_n 0, 1) ∧ 0 + 1 = 1 := ⟨by decide +kernel, rfl⟩
theorem dX9_type_1 : decode cX9_type 1 = .ok (.getfield 95, 3) ∧ 1 + 3 = 4 := ⟨by decide +kernel, rfl⟩
theorem dX9_type_4 : decode cX9_type 4 = .ok (.bipush 60, 2) ∧ 4 + 2 = 6 := ⟨by decide +kernel, rfl⟩
theorem dX9_type_6 : decode cX9_type 6 = .ok (.if_icmp .ne 6, 3) ∧ 6 + 3 = 9 ∧ ((6 : Nat) : Int) + (6) = ((12 : Nat) : Int) := ⟨by decide +kernel, rfl, rfl⟩
theorem dX9_type_9 : decode cX9_type 9 = .ok (.bipush (-4), 2) ∧ 9 + 2 = 11 := ⟨by decide +kernel, rfl⟩
theorem dX9_type_11 : decode cX9_type 11 = .ok (.ireturn, 1) ∧ 11 + 1 = 12 := ⟨by decide +kernel, rfl⟩
theorem dX9_type_12 : decode cX9_type 12 = .ok (.aload_n 0, 1) ∧ 12 + 1 = 13 := ⟨by decide +kernel, rfl⟩
theorem dX9_type_13 : decode cX9_type 13 = .ok (.getfield 41, 3) ∧ 13 + 3 = 16 := ⟨by decide +kernel, rfl⟩
theorem dX9_type_16 : decode cX9_type 16 = .ok (.aload_n 0, 1) ∧ 16 + 1 = 17 := ⟨by decide +kernel, rfl⟩
theorem dX9_type_17 : decode cX9_type 17 = .ok (.getfield 95, 3) ∧ 17 + 3 = 20 := ⟨by decide +kernel, rfl⟩
theorem dX9_type_20 : decode cX9_type 20 = .ok (.iload_n 1, 1) ∧ 20 + 1 = 21 := ⟨by decide +kernel, rfl⟩
theorem dX9_type_21 : decode cX9_type 21 = .ok (.castore, 1) ∧ 21 + 1 = 22 := ⟨by decide +kernel, rfl⟩
theorem dX9_type_22 : decode cX9_type 22 = .ok (.aload_n 0, 1) ∧ 22 + 1 = 23 := ⟨by decide +kernel, rfl⟩
theorem dX9_type_23 : decode cX9_type 23 = .ok (.dup, 1) ∧ 23 + 1 = 24 := ⟨by decide +kernel, rfl⟩
theorem dX9_type_24 : decode cX9_type 24 = .ok (.getfield 95, 3) ∧ 24 + 3 = 27 := ⟨by decide +kernel, rfl⟩
theorem dX9_type_27 : decode cX9_type 27 = .ok (.iconst 1, 1) ∧ 27 + 1 = 28 := ⟨by decide +kernel, rfl⟩
theorem dX9_type_28 : decode cX9_type 28 = .ok (.iadd, 1) ∧ 28 + 1 = 29 := ⟨by decide +kernel, rfl⟩
theorem dX9_type_29 : decode cX9_type 29 = .ok (.putfield 95, 3) ∧ 29 + 3 = 32 := ⟨by decide +kernel, rfl⟩
theorem dX9_type_32 : decode cX9_type 32 = .ok (.aload_n 0, 1) ∧ 32 + 1 = 33 := ⟨by decide +kernel, rfl⟩
theorem dX9_type_33 : decode cX9_type 33 = .ok (.getfield 95, 3) ∧ 33 + 3 = 36 := ⟨by decide +kernel, rfl⟩
theorem dX9_type_36 : decode cX9_type 36 = .ok (.ireturn, 1) ∧ 36 + 1 = 37 := ⟨by decide +kernel, rfl⟩
theorem dX9_clearText_0 : decode cX9_clearText 0 = .ok (.aload_n 0, 1) ∧ 0 + 1 = 1 := ⟨by decide +kernel, rfl⟩
theorem dX9_clearText_1 : decode cX9_clearText 1 = .ok (.getfield 95, 3) ∧ 1 + 3 = 4 := ⟨by decide +kernel, rfl⟩
theorem dX9_clearText_4 : decode cX9_clearText 4 = .ok (.istore_n 1, 1) ∧ 4 + 1 = 5 := ⟨by decide +kernel, rfl⟩
theorem dX9_clearText_5 : decode cX9_clearText 5 = .ok (.aload_n 0, 1) ∧ 5 + 1 = 6 := ⟨by decide +kernel, rfl⟩
theorem dX9_clearText_6 : decode cX9_clearText 6 = .ok (.iconst 0, 1) ∧ 6 + 1 = 7 := ⟨by decide +kernel, rfl⟩
theorem dX9_clearText_7 : decode cX9_clearText 7 = .ok (.putfield 95, 3) ∧ 7 + 3 = 10 := ⟨by decide +kernel, rfl⟩
theorem dX9_clearText_10 : decode cX9_clearText 10 = .ok (.iload_n 1, 1) ∧ 10 + 1 = 11 := ⟨by decide +kernel, rfl⟩
theorem dX9_clearText_11 : decode cX9_clearText 11 = .ok (.ireturn, 1) ∧ 11 + 1 = 12 := ⟨by decide +kernel, rfl⟩
theorem dX9_stands_0 : decode cX9_stands 0 = .ok (.iconst 0, 1) ∧ 0 + 1 = 1 := ⟨by decide +kernel, rfl⟩
theorem dX9_stands_1 : decode cX9_stands 1 = .ok (.istore_n 3, 1) ∧ 1 + 1 = 2 := ⟨by decide +kernel, rfl⟩
theorem dX9_stands_2 : decode cX9_stands 2 = .ok (.iload_n 3, 1) ∧ 2 + 1 = 3 := ⟨by decide +kernel, rfl⟩
theorem dX9_stands_3 : decode cX9_stands 3 = .ok (.aload_n 0, 1) ∧ 3 + 1 = 4 := ⟨by decide +kernel, rfl⟩
theorem dX9_stands_4 : decode cX9_stands 4 = .ok (.getfield 51, 3) ∧ 4 + 3 = 7 := ⟨by decide +kernel, rfl⟩
theorem dX9_stands_7 : decode cX9_stands 7 = .ok (.iload_n 1, 1) ∧ 7 + 1 = 8 := ⟨by decide +kernel, rfl⟩
theorem dX9_stands_8 : decode cX9_stands 8 = .ok (.iaload, 1) ∧ 8 + 1 = 9 := ⟨by decide +kernel, rfl⟩
theorem dX9_stands_9 : decode cX9_stands 9 = .ok (.if_icmp .ge 26, 3) ∧ 9 + 3 = 12 ∧ ((9 : Nat) : Int) + (26) = ((35 : Nat) : Int) := ⟨by decide +kernel, rfl, rfl⟩
theorem dX9_stands_12 : decode cX9_stands 12 = .ok (.aload_n 0, 1) ∧ 12 + 1 = 13 := ⟨by decide +kernel, rfl⟩
theorem dX9_stands_13 : decode cX9_stands 13 = .ok (.getfield 54, 3) ∧ 13 + 3 = 16 := ⟨by decide +kernel, rfl⟩
theorem dX9_stands_16 : decode cX9_stands 16 = .ok (.bipush 28, 2) ∧ 16 + 2 = 18 := ⟨by decide +kernel, rfl⟩
theorem dX9_stands_18 : decode cX9_stands 18 = .ok (.iload_n 1, 1) ∧ 18 + 1 = 19 := ⟨by decide +kernel, rfl⟩
theorem dX9_stands_19 : decode cX9_stands 19 = .ok (.imul, 1) ∧ 19 + 1 = 20 := ⟨by decide +kernel, rfl⟩
theorem dX9_stands_20 : decode cX9_stands 20 = .ok (.iload_n 3, 1) ∧ 20 + 1 = 21 := ⟨by decide +kernel, rfl⟩
theorem dX9_stands_21 : decode cX9_stands 21 = .ok (.iadd, 1) ∧ 21 + 1 = 22 := ⟨by decide +kernel, rfl⟩
theorem dX9_stands_22 : decode cX9_stands 22 = .ok (.iaload, 1) ∧ 22 + 1 = 23 := ⟨by decide +kernel, rfl⟩
theorem dX9_stands_23 : decode cX9_stands 23 = .ok (.iload_n 2, 1) ∧ 23 + 1 = 24 := ⟨by decide +kernel, rfl⟩
theorem dX9_stands_24 : decode cX9_stands 24 = .ok (.if_icmp .ne 5, 3) ∧ 24 + 3 = 27 ∧ ((24 : Nat) : Int) + (5) = ((29 : Nat) : Int) := ⟨by decide +kernel, rfl, rfl⟩
theorem dX9_stands_27 : decode cX9_stands 27 = .ok (.iconst 1, 1) ∧ 27 + 1 = 28 := ⟨by decide +kernel, rfl⟩
theorem dX9_stands_28 : decode cX9_stands 28 = .ok (.ireturn, 1) ∧ 28 + 1 = 29 := ⟨by decide +kernel, rfl⟩
theorem dX9_stands_29 : decode cX9_stands 29 = .ok (.iinc 3 1, 3) ∧ 29 + 3 = 32 := ⟨by decide +kernel, rfl⟩
theorem dX9_stands_32 : decode cX9_stands 32 = .ok (.goto (-30), 3) ∧ 32 + 3 = 35 ∧ ((32 : Nat) : Int) + (-30) = ((2 : Nat) : Int) := ⟨by decide +kernel, rfl, rfl⟩
theorem dX9_stands_35 : decode cX9_stands 35 = .ok (.iconst 0, 1) ∧ 35 + 1 = 36 := ⟨by decide +kernel, rfl⟩
theorem dX9_stands_36 : decode cX9_stands 36 = .ok (.ireturn, 1) ∧ 36 + 1 = 37 := ⟨by decide +kernel, rfl⟩
theorem dX9_isOpen_0 : decode cX9_isOpen 0 = .ok (.iconst 1, 1) ∧ 0 + 1 = 1 := ⟨by decide +kernel, rfl⟩
theorem dX9_isOpen_1 : decode cX9_isOpen 1 = .ok (.istore_n 3, 1) ∧ 1 + 1 = 2 := ⟨by decide +kernel, rfl⟩
theorem dX9_isOpen_2 : decode cX9_isOpen 2 = .ok (.iload_n 3, 1) ∧ 2 + 1 = 3 := ⟨by decide +kernel, rfl⟩
theorem dX9_isOpen_3 : decode cX9_isOpen 3 = .ok (.iload_n 2, 1) ∧ 3 + 1 = 4 := ⟨by decide +kernel, rfl⟩
theorem dX9_isOpen_4 : decode cX9_isOpen 4 = .ok (.if_icmp .gt 21, 3) ∧ 4 + 3 = 7 ∧ ((4 : Nat) : Int) + (21) = ((25 : Nat) : Int) := ⟨by decide +kernel, rfl, rfl⟩
theorem dX9_isOpen_7 : decode cX9_isOpen 7 = .ok (.aload_n 0, 1) ∧ 7 + 1 = 8 := ⟨by decide +kernel, rfl⟩
theorem dX9_isOpen_8 : decode cX9_isOpen 8 = .ok (.getfield 57, 3) ∧ 8 + 3 = 11 := ⟨by decide +kernel, rfl⟩
theorem dX9_isOpen_11 : decode cX9_isOpen 11 = .ok (.iload_n 3, 1) ∧ 11 + 1 = 12 := ⟨by decide +kernel, rfl⟩
theorem dX9_isOpen_12 : decode cX9_isOpen 12 = .ok (.iaload, 1) ∧ 12 + 1 = 13 := ⟨by decide +kernel, rfl⟩
theorem dX9_isOpen_13 : decode cX9_isOpen 13 = .ok (.iload_n 1, 1) ∧ 13 + 1 = 14 := ⟨by decide +kernel, rfl⟩
theorem dX9_isOpen_14 : decode cX9_isOpen 14 = .ok (.if_icmp .ne 5, 3) ∧ 14 + 3 = 17 ∧ ((14 : Nat) : Int) + (5) = ((19 : Nat) : Int) := ⟨by decide +kernel, rfl, rfl⟩
theorem dX9_isOpen_17 : decode cX9_isOpen 17 = .ok (.iconst 1, 1) ∧ 17 + 1 = 18 := ⟨by decide +kernel, rfl⟩
theorem dX9_isOpen_18 : decode cX9_isOpen 18 = .ok (.ireturn, 1) ∧ 18 + 1 = 19 := ⟨by decide +kernel, rfl⟩
theorem dX9_isOpen_19 : decode cX9_isOpen 19 = .ok (.iinc 3 1, 3) ∧ 19 + 3 = 22 := ⟨by decide +kernel, rfl⟩
theorem dX9_isOpen_22 : decode cX9_isOpen 22 = .ok (.goto (-20), 3) ∧ 22 + 3 = 25 ∧ ((22 : Nat) : Int) + (-20) = ((2 : Nat) : Int) := ⟨by decide +kernel, rfl, rfl⟩
theorem dX9_isOpen_25 : decode cX9_isOpen 25 = .ok (.iconst 0, 1) ∧ 25 + 1 = 26 := ⟨by decide +kernel, rfl⟩
theorem dX9_isOpen_26 : decode cX9_isOpen 26 = .ok (.ireturn, 1) ∧ 26 + 1 = 27 := ⟨by decide +kernel, rfl⟩
theorem dX9_readsFault_0 : decode cX9_readsFault 0 = .ok (.iconst 0, 1) ∧ 0 + 1 = 1 := ⟨by decide +kernel, rfl⟩
theorem dX9_readsFault_1 : decode cX9_readsFault 1 = .ok (.istore_n 1, 1) ∧ 1 + 1 = 2 := ⟨by decide +kernel, rfl⟩
theorem dX9_readsFault_2 : decode cX9_readsFault 2 = .ok (.iload_n 1, 1) ∧ 2 + 1 = 3 := ⟨by decide +kernel, rfl⟩
theorem dX9_readsFault_3 : decode cX9_readsFault 3 = .ok (.bipush 26, 2) ∧ 3 + 2 = 5 := ⟨by decide +kernel, rfl⟩
theorem dX9_readsFault_5 : decode cX9_readsFault 5 = .ok (.if_icmp .ge 16, 3) ∧ 5 + 3 = 8 ∧ ((5 : Nat) : Int) + (16) = ((21 : Nat) : Int) := ⟨by decide +kernel, rfl, rfl⟩
theorem dX9_readsFault_8 : decode cX9_readsFault 8 = .ok (.aload_n 0, 1) ∧ 8 + 1 = 9 := ⟨by decide +kernel, rfl⟩
theorem dX9_readsFault_9 : decode cX9_readsFault 9 = .ok (.getfield 45, 3) ∧ 9 + 3 = 12 := ⟨by decide +kernel, rfl⟩
theorem dX9_readsFault_12 : decode cX9_readsFault 12 = .ok (.iload_n 1, 1) ∧ 12 + 1 = 13 := ⟨by decide +kernel, rfl⟩
theorem dX9_readsFault_13 : decode cX9_readsFault 13 = .ok (.iconst 0, 1) ∧ 13 + 1 = 14 := ⟨by decide +kernel, rfl⟩
theorem dX9_readsFault_14 : decode cX9_readsFault 14 = .ok (.iastore, 1) ∧ 14 + 1 = 15 := ⟨by decide +kernel, rfl⟩
theorem dX9_readsFault_15 : decode cX9_readsFault 15 = .ok (.iinc 1 1, 3) ∧ 15 + 3 = 18 := ⟨by decide +kernel, rfl⟩
theorem dX9_readsFault_18 : decode cX9_readsFault 18 = .ok (.goto (-16), 3) ∧ 18 + 3 = 21 ∧ ((18 : Nat) : Int) + (-16) = ((2 : Nat) : Int) := ⟨by decide +kernel, rfl, rfl⟩
theorem dX9_readsFault_21 : decode cX9_readsFault 21 = .ok (.aload_n 0, 1) ∧ 21 + 1 = 22 := ⟨by decide +kernel, rfl⟩
theorem dX9_readsFault_22 : decode cX9_readsFault 22 = .ok (.iconst 0, 1) ∧ 22 + 1 = 23 := ⟨by decide +kernel, rfl⟩
theorem dX9_readsFault_23 : decode cX9_readsFault 23 = .ok (.putfield 167, 3) ∧ 23 + 3 = 26 := ⟨by decide +kernel, rfl⟩
theorem dX9_readsFault_26 : decode cX9_readsFault 26 = .ok (.aload_n 0, 1) ∧ 26 + 1 = 27 := ⟨by decide +kernel, rfl⟩
theorem dX9_readsFault_27 : decode cX9_readsFault 27 = .ok (.getfield 51, 3) ∧ 27 + 3 = 30 := ⟨by decide +kernel, rfl⟩
theorem dX9_readsFault_30 : decode cX9_readsFault 30 = .ok (.iconst 0, 1) ∧ 30 + 1 = 31 := ⟨by decide +kernel, rfl⟩
theorem dX9_readsFault_31 : decode cX9_readsFault 31 = .ok (.iconst 0, 1) ∧ 31 + 1 = 32 := ⟨by decide +kernel, rfl⟩
theorem dX9_readsFault_32 : decode cX9_readsFault 32 = .ok (.iastore, 1) ∧ 32 + 1 = 33 := ⟨by decide +kernel, rfl⟩
theorem dX9_readsFault_33 : decode cX9_readsFault 33 = .ok (.iconst 0, 1) ∧ 33 + 1 = 34 := ⟨by decide +kernel, rfl⟩
theorem dX9_readsFault_34 : decode cX9_readsFault 34 = .ok (.istore_n 1, 1) ∧ 34 + 1 = 35 := ⟨by decide +kernel, rfl⟩
theorem dX9_readsFault_35 : decode cX9_readsFault 35 = .ok (.aload_n 0, 1) ∧ 35 + 1 = 36 := ⟨by decide +kernel, rfl⟩
theorem dX9_readsFault_36 : decode cX9_readsFault 36 = .ok (.getfield 57, 3) ∧ 36 + 3 = 39 := ⟨by decide +kernel, rfl⟩
theorem dX9_readsFault_39 : decode cX9_readsFault 39 = .ok (.iconst 0, 1) ∧ 39 + 1 = 40 := ⟨by decide +kernel, rfl⟩
theorem dX9_readsFault_40 : decode cX9_readsFault 40 = .ok (.iconst 0, 1) ∧ 40 + 1 = 41 := ⟨by decide +kernel, rfl⟩
theorem dX9_readsFault_41 : decode cX9_readsFault 41 = .ok (.iastore, 1) ∧ 41 + 1 = 42 := ⟨by decide +kernel, rfl⟩
theorem dX9_readsFault_42 : decode cX9_readsFault 42 = .ok (.iconst 0, 1) ∧ 42 + 1 = 43 := ⟨by decide +kernel, rfl⟩
theorem dX9_readsFault_43 : decode cX9_readsFault 43 = .ok (.istore_n 2, 1) ∧ 43 + 1 = 44 := ⟨by decide +kernel, rfl⟩
theorem dX9_readsFault_44 : decode cX9_readsFault 44 = .ok (.iconst 0, 1) ∧ 44 + 1 = 45 := ⟨by decide +kernel, rfl⟩
theorem dX9_readsFault_45 : decode cX9_readsFault 45 = .ok (.istore_n 3, 1) ∧ 45 + 1 = 46 := ⟨by decide +kernel, rfl⟩
theorem dX9_readsFault_46 : decode cX9_readsFault 46 = .ok (.iload_n 3, 1) ∧ 46 + 1 = 47 := ⟨by decide +kernel, rfl⟩
theorem dX9_readsFault_47 : decode cX9_readsFault 47 = .ok (.aload_n 0, 1) ∧ 47 + 1 = 48 := ⟨by decide +kernel, rfl⟩
theorem dX9_readsFault_48 : decode cX9_readsFault 48 = .ok (.getfield 95, 3) ∧ 48 + 3 = 51 := ⟨by decide +kernel, rfl⟩
theorem dX9_readsFault_51 : decode cX9_readsFault 51 = .ok (.if_icmp .ge 245, 3) ∧ 51 + 3 = 54 ∧ ((51 : Nat) : Int) + (245) = ((296 : Nat) : Int) := ⟨by decide +kernel, rfl, rfl⟩
theorem dX9_readsFault_54 : decode cX9_readsFault 54 = .ok (.aload_n 0, 1) ∧ 54 + 1 = 55 := ⟨by decide +kernel, rfl⟩
theorem dX9_readsFault_55 : decode cX9_readsFault 55 = .ok (.getfield 41, 3) ∧ 55 + 3 = 58 := ⟨by decide +kernel, rfl⟩
theorem dX9_readsFault_58 : decode cX9_readsFault 58 = .ok (.iload_n 3, 1) ∧ 58 + 1 = 59 := ⟨by decide +kernel, rfl⟩
theorem dX9_readsFault_59 : decode cX9_readsFault 59 = .ok (.caload, 1) ∧ 59 + 1 = 60 := ⟨by decide +kernel, rfl⟩
theorem dX9_readsFault_60 : decode cX9_readsFault 60 = .ok (.istore 4, 2) ∧ 60 + 2 = 62 := ⟨by decide +kernel, rfl⟩
theorem dX9_readsFault_62 : decode cX9_readsFault 62 = .ok (.iload_n 2, 1) ∧ 62 + 1 = 63 := ⟨by decide +kernel, rfl⟩
theorem dX9_readsFault_63 : decode cX9_readsFault 63 = .ok (.ifCond .ne 164, 3) ∧ 63 + 3 = 66 ∧ ((63 : Nat) : Int) + (164) = ((227 : Nat) : Int) := ⟨by decide +kernel, rfl, rfl⟩
theorem dX9_readsFault_66 : decode cX9_readsFault 66 = .ok (.iload 4, 2) ∧ 66 + 2 = 68 := ⟨by decide +kernel, rfl⟩
theorem dX9_readsFault_68 : decode cX9_readsFault 68 = .ok (.bipush 97, 2) ∧ 68 + 2 = 70 := ⟨by decide +kernel, rfl⟩
theorem dX9_readsFault_70 : decode cX9_readsFault 70 = .ok (.bipush 122, 2) ∧ 70 + 2 = 72 := ⟨by decide +kernel, rfl⟩
theorem dX9_readsFault_72 : decode cX9_readsFault 72 = .ok (.invokestatic 101, 3) ∧ 72 + 3 = 75 := ⟨by decide +kernel, rfl⟩
theorem dX9_readsFault_75 : decode cX9_readsFault 75 = .ok (.ifCond .ne 5, 3) ∧ 75 + 3 = 78 ∧ ((75 : Nat) : Int) + (5) = ((80 : Nat) : Int) := ⟨by decide +kernel, rfl, rfl⟩
theorem dX9_readsFault_78 : decode cX9_readsFault 78 = .ok (.iload_n 3, 1) ∧ 78 + 1 = 79 := ⟨by decide +kernel, rfl⟩
theorem dX9_readsFault_79 : decode cX9_readsFault 79 = .ok (.ireturn, 1) ∧ 79 + 1 = 80 := ⟨by decide +kernel, rfl⟩
theorem dX9_readsFault_80 : decode cX9_readsFault 80 = .ok (.aload_n 0, 1) ∧ 80 + 1 = 81 := ⟨by decide +kernel, rfl⟩
theorem dX9_readsFault_81 : decode cX9_readsFault 81 = .ok (.getfield 45, 3) ∧ 81 + 3 = 84 := ⟨by decide +kernel, rfl⟩
theorem dX9_readsFault_84 : decode cX9_readsFault 84 = .ok (.iload 4, 2) ∧ 84 + 2 = 86 := ⟨by decide +kernel, rfl⟩
theorem dX9_readsFault_86 : decode cX9_readsFault 86 = .ok (.bipush 97, 2) ∧ 86 + 2 = 88 := ⟨by decide +kernel, rfl⟩
theorem dX9_readsFault_88 : decode cX9_readsFault 88 = .ok (.isub, 1) ∧ 88 + 1 = 89 := ⟨by decide +kernel, rfl⟩
theorem dX9_readsFault_89 : decode cX9_readsFault 89 = .ok (.iaload, 1) ∧ 89 + 1 = 90 := ⟨by decide +kernel, rfl⟩
theorem dX9_readsFault_90 : decode cX9_readsFault 90 = .ok (.istore 5, 2) ∧ 90 + 2 = 92 := ⟨by decide +kernel, rfl⟩
theorem dX9_readsFault_92 : decode cX9_readsFault 92 = .ok (.iload 5, 2) ∧ 92 + 2 = 94 := ⟨by decide +kernel, rfl⟩
theorem dX9_readsFault_94 : decode cX9_readsFault 94 = .ok (.ifCond .ne 7, 3) ∧ 94 + 3 = 97 ∧ ((94 : Nat) : Int) + (7) = ((101 : Nat) : Int) := ⟨by decide +kernel, rfl, rfl⟩
theorem dX9_readsFault_97 : decode cX9_readsFault 97 = .ok (.iconst 1, 1) ∧ 97 + 1 = 98 := ⟨by decide +kernel, rfl⟩
theorem dX9_readsFault_98 : decode cX9_readsFault 98 = .ok (.goto 4, 3) ∧ 98 + 3 = 101 ∧ ((98 : Nat) : Int) + (4) = ((102 : Nat) : Int) := ⟨by decide +kernel, rfl, rfl⟩
theorem dX9_readsFault_101 : decode cX9_readsFault 101 = .ok (.iconst 2, 1) ∧ 101 + 1 = 102 := ⟨by decide +kernel, rfl⟩
theorem dX9_readsFault_102 : decode cX9_readsFault 102 = .ok (.istore_n 2, 1) ∧ 102 + 1 = 103 := ⟨by decide +kernel, rfl⟩
theorem dX9_readsFault_103 : decode cX9_readsFault 103 = .ok (.iload 5, 2) ∧ 103 + 2 = 105 := ⟨by decide +kernel, rfl⟩
theorem dX9_readsFault_105 : decode cX9_readsFault 105 = .ok (.ifCond .le 30, 3) ∧ 105 + 3 = 108 ∧ ((105 : Nat) : Int) + (30) = ((135 : Nat) : Int) := ⟨by decide +kernel, rfl, rfl⟩
theorem dX9_readsFault_108 : decode cX9_readsFault 108 = .ok (.aload_n 0, 1) ∧ 108 + 1 = 109 := ⟨by decide +kernel, rfl⟩
theorem dX9_readsFault_109 : decode cX9_readsFault 109 = .ok (.iload 5, 2) ∧ 109 + 2 = 111 := ⟨by decide +kernel, rfl⟩
theorem dX9_readsFault_111 : decode cX9_readsFault 111 = .ok (.iload_n 1, 1) ∧ 111 + 1 = 112 := ⟨by decide +kernel, rfl⟩
theorem dX9_readsFault_112 : decode cX9_readsFault 112 = .ok (.invokevirtual 170, 3) ∧ 112 + 3 = 115 := ⟨by decide +kernel, rfl⟩
theorem dX9_readsFault_115 : decode cX9_readsFault 115 = .ok (.ifCond .ne 18, 3) ∧ 115 + 3 = 118 ∧ ((115 : Nat) : Int) + (18) = ((133 : Nat) : Int) := ⟨by decide +kernel, rfl, rfl⟩
theorem dX9_readsFault_118 : decode cX9_readsFault 118 = .ok (.aload_n 0, 1) ∧ 118 + 1 = 119 := ⟨by decide +kernel, rfl⟩
theorem dX9_readsFault_119 : decode cX9_readsFault 119 = .ok (.aload_n 0, 1) ∧ 119 + 1 = 120 := ⟨by decide +kernel, rfl⟩
theorem dX9_readsFault_120 : decode cX9_readsFault 120 = .ok (.getfield 57, 3) ∧ 120 + 3 = 123 := ⟨by decide +kernel, rfl⟩
theorem dX9_readsFault_123 : decode cX9_readsFault 123 = .ok (.iload_n 1, 1) ∧ 123 + 1 = 124 := ⟨by decide +kernel, rfl⟩
theorem dX9_readsFault_124 : decode cX9_readsFault 124 = .ok (.iaload, 1) ∧ 124 + 1 = 125 := ⟨by decide +kernel, rfl⟩
theorem dX9_readsFault_125 : decode cX9_readsFault 125 = .ok (.iload 5, 2) ∧ 125 + 2 = 127 := ⟨by decide +kernel, rfl⟩
theorem dX9_readsFault_127 : decode cX9_readsFault 127 = .ok (.invokevirtual 173, 3) ∧ 127 + 3 = 130 := ⟨by decide +kernel, rfl⟩
theorem dX9_readsFault_130 : decode cX9_readsFault 130 = .ok (.ifCond .eq 5, 3) ∧ 130 + 3 = 133 ∧ ((130 : Nat) : Int) + (5) = ((135 : Nat) : Int) := ⟨by decide +kernel, rfl, rfl⟩
theorem dX9_readsFault_133 : decode cX9_readsFault 133 = .ok (.iload_n 3, 1) ∧ 133 + 1 = 134 := ⟨by decide +kernel, rfl⟩
theorem dX9_readsFault_134 : decode cX9_readsFault 134 = .ok (.ireturn, 1) ∧ 134 + 1 = 135 := ⟨by decide +kernel, rfl⟩
theorem dX9_readsFault_135 : decode cX9_readsFault 135 = .ok (.iload 5, 2) ∧ 135 + 2 = 137 := ⟨by decide +kernel, rfl⟩
theorem dX9_readsFault_137 : decode cX9_readsFault 137 = .ok (.ifCond .ne 48, 3) ∧ 137 + 3 = 140 ∧ ((137 : Nat) : Int) + (48) = ((185 : Nat) : Int) := ⟨by decide +kernel, rfl, rfl⟩
theorem dX9_readsFault_140 : decode cX9_readsFault 140 = .ok (.aload_n 0, 1) ∧ 140 + 1 = 141 := ⟨by decide +kernel, rfl⟩
theorem dX9_readsFault_141 : decode cX9_readsFault 141 = .ok (.dup, 1) ∧ 141 + 1 = 142 := ⟨by decide +kernel, rfl⟩
theorem dX9_readsFault_142 : decode cX9_readsFault 142 = .ok (.getfield 167, 3) ∧ 142 + 3 = 145 := ⟨by decide +kernel, rfl⟩
theorem dX9_readsFault_145 : decode cX9_readsFault 145 = .ok (.iconst 1, 1) ∧ 145 + 1 = 146 := ⟨by decide +kernel, rfl⟩
theorem dX9_readsFault_146 : decode cX9_readsFault 146 = .ok (.iadd, 1) ∧ 146 + 1 = 147 := ⟨by decide +kernel, rfl⟩
theorem dX9_readsFault_147 : decode cX9_readsFault 147 = .ok (.putfield 167, 3) ∧ 147 + 3 = 150 := ⟨by decide +kernel, rfl⟩
theorem dX9_readsFault_150 : decode cX9_readsFault 150 = .ok (.aload_n 0, 1) ∧ 150 + 1 = 151 := ⟨by decide +kernel, rfl⟩
theorem dX9_readsFault_151 : decode cX9_readsFault 151 = .ok (.getfield 167, 3) ∧ 151 + 3 = 154 := ⟨by decide +kernel, rfl⟩
theorem dX9_readsFault_154 : decode cX9_readsFault 154 = .ok (.istore 5, 2) ∧ 154 + 2 = 156 := ⟨by decide +kernel, rfl⟩
theorem dX9_readsFault_156 : decode cX9_readsFault 156 = .ok (.aload_n 0, 1) ∧ 156 + 1 = 157 := ⟨by decide +kernel, rfl⟩
theorem dX9_readsFault_157 : decode cX9_readsFault 157 = .ok (.getfield 45, 3) ∧ 157 + 3 = 160 := ⟨by decide +kernel, rfl⟩
theorem dX9_readsFault_160 : decode cX9_readsFault 160 = .ok (.iload 4, 2) ∧ 160 + 2 = 162 := ⟨by decide +kernel, rfl⟩
theorem dX9_readsFault_162 : decode cX9_readsFault 162 = .ok (.bipush 97, 2) ∧ 162 + 2 = 164 := ⟨by decide +kernel, rfl⟩
theorem dX9_readsFault_164 : decode cX9_readsFault 164 = .ok (.isub, 1) ∧ 164 + 1 = 165 := ⟨by decide +kernel, rfl⟩
theorem dX9_readsFault_165 : decode cX9_readsFault 165 = .ok (.iload 5, 2) ∧ 165 + 2 = 167 := ⟨by decide +kernel, rfl⟩
theorem dX9_readsFault_167 : decode cX9_readsFault 167 = .ok (.iastore, 1) ∧ 167 + 1 = 168 := ⟨by decide +kernel, rfl⟩
theorem dX9_readsFault_168 : decode cX9_readsFault 168 = .ok (.aload_n 0, 1) ∧ 168 + 1 = 169 := ⟨by decide +kernel, rfl⟩
theorem dX9_readsFault_169 : decode cX9_readsFault 169 = .ok (.getfield 48, 3) ∧ 169 + 3 = 172 := ⟨by decide +kernel, rfl⟩
theorem dX9_readsFault_172 : decode cX9_readsFault 172 = .ok (.iload 5, 2) ∧ 172 + 2 = 174 := ⟨by decide +kernel, rfl⟩
theorem dX9_readsFault_174 : decode cX9_readsFault 174 = .ok (.iload 4, 2) ∧ 174 + 2 = 176 := ⟨by decide +kernel, rfl⟩
theorem dX9_readsFault_176 : decode cX9_readsFault 176 = .ok (.iastore, 1) ∧ 176 + 1 = 177 := ⟨by decide +kernel, rfl⟩
theorem dX9_readsFault_177 : decode cX9_readsFault 177 = .ok (.aload_n 0, 1) ∧ 177 + 1 = 178 := ⟨by decide +kernel, rfl⟩
theorem dX9_readsFault_178 : decode cX9_readsFault 178 = .ok (.getfield 51, 3) ∧ 178 + 3 = 181 := ⟨by decide +kernel, rfl⟩
theorem dX9_readsFault_181 : decode cX9_readsFault 181 = .ok (.iload 5, 2) ∧ 181 + 2 = 183 := ⟨by decide +kernel, rfl⟩
theorem dX9_readsFault_183 : decode cX9_readsFault 183 = .ok (.iconst 0, 1) ∧ 183 + 1 = 184 := ⟨by decide +kernel, rfl⟩
theorem dX9_readsFault_184 : decode cX9_readsFault 184 = .ok (.iastore, 1) ∧ 184 + 1 = 185 := ⟨by decide +kernel, rfl⟩
theorem dX9_readsFault_185 : decode cX9_readsFault 185 = .ok (.aload_n 0, 1) ∧ 185 + 1 = 186 := ⟨by decide +kernel, rfl⟩
theorem dX9_readsFault_186 : decode cX9_readsFault 186 = .ok (.getfield 57, 3) ∧ 186 + 3 = 189 := ⟨by decide +kernel, rfl⟩
theorem dX9_readsFault_189 : decode cX9_readsFault 189 = .ok (.iload_n 1, 1) ∧ 189 + 1 = 190 := ⟨by decide +kernel, rfl⟩
theorem dX9_readsFault_190 : decode cX9_readsFault 190 = .ok (.iaload, 1) ∧ 190 + 1 = 191 := ⟨by decide +kernel, rfl⟩
theorem dX9_readsFault_191 : decode cX9_readsFault 191 = .ok (.istore 6, 2) ∧ 191 + 2 = 193 := ⟨by decide +kernel, rfl⟩
theorem dX9_readsFault_193 : decode cX9_readsFault 193 = .ok (.aload_n 0, 1) ∧ 193 + 1 = 194 := ⟨by decide +kernel, rfl⟩
theorem dX9_readsFault_194 : decode cX9_readsFault 194 = .ok (.getfield 54, 3) ∧ 194 + 3 = 197 := ⟨by decide +kernel, rfl⟩
theorem dX9_readsFault_197 : decode cX9_readsFault 197 = .ok (.bipush 28, 2) ∧ 197 + 2 = 199 := ⟨by decide +kernel, rfl⟩
theorem dX9_readsFault_199 : decode cX9_readsFault 199 = .ok (.iload 6, 2) ∧ 199 + 2 = 201 := ⟨by decide +kernel, rfl⟩
theorem dX9_readsFault_201 : decode cX9_readsFault 201 = .ok (.imul, 1) ∧ 201 + 1 = 202 := ⟨by decide +kernel, rfl⟩
theorem dX9_readsFault_202 : decode cX9_readsFault 202 = .ok (.aload_n 0, 1) ∧ 202 + 1 = 203 := ⟨by decide +kernel, rfl⟩
theorem dX9_readsFault_203 : decode cX9_readsFault 203 = .ok (.getfield 51, 3) ∧ 203 + 3 = 206 := ⟨by decide +kernel, rfl⟩
theorem dX9_readsFault_206 : decode cX9_readsFault 206 = .ok (.iload 6, 2) ∧ 206 + 2 = 208 := ⟨by decide +kernel, rfl⟩
theorem dX9_readsFault_208 : decode cX9_readsFault 208 = .ok (.iaload, 1) ∧ 208 + 1 = 209 := ⟨by decide +kernel, rfl⟩
theorem dX9_readsFault_209 : decode cX9_readsFault 209 = .ok (.iadd, 1) ∧ 209 + 1 = 210 := ⟨by decide +kernel, rfl⟩
theorem dX9_readsFault_210 : decode cX9_readsFault 210 = .ok (.iload 5, 2) ∧ 210 + 2 = 212 := ⟨by decide +kernel, rfl⟩
theorem dX9_readsFault_212 : decode cX9_readsFault 212 = .ok (.iastore, 1) ∧ 212 + 1 = 213 := ⟨by decide +kernel, rfl⟩
theorem dX9_readsFault_213 : decode cX9_readsFault 213 = .ok (.aload_n 0, 1) ∧ 213 + 1 = 214 := ⟨by decide +kernel, rfl⟩
theorem dX9_readsFault_214 : decode cX9_readsFault 214 = .ok (.getfield 51, 3) ∧ 214 + 3 = 217 := ⟨by decide +kernel, rfl⟩
theorem dX9_readsFault_217 : decode cX9_readsFault 217 = .ok (.iload 6, 2) ∧ 217 + 2 = 219 := ⟨by decide +kernel, rfl⟩
theorem dX9_readsFault_219 : decode cX9_readsFault 219 = .ok (.dup2, 1) ∧ 219 + 1 = 220 := ⟨by decide +kernel, rfl⟩
theorem dX9_readsFault_220 : decode cX9_readsFault 220 = .ok (.iaload, 1) ∧ 220 + 1 = 221 := ⟨by decide +kernel, rfl⟩
theorem dX9_readsFault_221 : decode cX9_readsFault 221 = .ok (.iconst 1, 1) ∧ 221 + 1 = 222 := ⟨by decide +kernel, rfl⟩
theorem dX9_readsFault_222 : decode cX9_readsFault 222 = .ok (.iadd, 1) ∧ 222 + 1 = 223 := ⟨by decide +kernel, rfl⟩
theorem dX9_readsFault_223 : decode cX9_readsFault 223 = .ok (.iastore, 1) ∧ 223 + 1 = 224 := ⟨by decide +kernel, rfl⟩
theorem dX9_readsFault_224 : decode cX9_readsFault 224 = .ok (.goto 66, 3) ∧ 224 + 3 = 227 ∧ ((224 : Nat) : Int) + (66) = ((290 : Nat) : Int) := ⟨by decide +kernel, rfl, rfl⟩
theorem dX9_readsFault_227 : decode cX9_readsFault 227 = .ok (.iload 4, 2) ∧ 227 + 2 = 229 := ⟨by decide +kernel, rfl⟩
theorem dX9_readsFault_229 : decode cX9_readsFault 229 = .ok (.bipush 44, 2) ∧ 229 + 2 = 231 := ⟨by decide +kernel, rfl⟩
theorem dX9_readsFault_231 : decode cX9_readsFault 231 = .ok (.if_icmp .ne 8, 3) ∧ 231 + 3 = 234 ∧ ((231 : Nat) : Int) + (8) = ((239 : Nat) : Int) := ⟨by decide +kernel, rfl, rfl⟩
theorem dX9_readsFault_234 : decode cX9_readsFault 234 = .ok (.iconst 0, 1) ∧ 234 + 1 = 235 := ⟨by decide +kernel, rfl⟩
theorem dX9_readsFault_235 : decode cX9_readsFault 235 = .ok (.istore_n 2, 1) ∧ 235 + 1 = 236 := ⟨by decide +kernel, rfl⟩
theorem dX9_readsFault_236 : decode cX9_readsFault 236 = .ok (.goto 54, 3) ∧ 236 + 3 = 239 ∧ ((236 : Nat) : Int) + (54) = ((290 : Nat) : Int) := ⟨by decide +kernel, rfl, rfl⟩
theorem dX9_readsFault_239 : decode cX9_readsFault 239 = .ok (.iload 4, 2) ∧ 239 + 2 = 241 := ⟨by decide +kernel, rfl⟩
theorem dX9_readsFault_241 : decode cX9_readsFault 241 = .ok (.bipush 40, 2) ∧ 241 + 2 = 243 := ⟨by decide +kernel, rfl⟩
theorem dX9_readsFault_243 : decode cX9_readsFault 243 = .ok (.if_icmp .ne 26, 3) ∧ 243 + 3 = 246 ∧ ((243 : Nat) : Int) + (26) = ((269 : Nat) : Int) := ⟨by decide +kernel, rfl, rfl⟩
theorem dX9_readsFault_246 : decode cX9_readsFault 246 = .ok (.iload_n 2, 1) ∧ 246 + 1 = 247 := ⟨by decide +kernel, rfl⟩
theorem dX9_readsFault_247 : decode cX9_readsFault 247 = .ok (.iconst 1, 1) ∧ 247 + 1 = 248 := ⟨by decide +kernel, rfl⟩
theorem dX9_readsFault_248 : decode cX9_readsFault 248 = .ok (.if_icmp .ne 21, 3) ∧ 248 + 3 = 251 ∧ ((248 : Nat) : Int) + (21) = ((269 : Nat) : Int) := ⟨by decide +kernel, rfl, rfl⟩
theorem dX9_readsFault_251 : decode cX9_readsFault 251 = .ok (.iinc 1 1, 3) ∧ 251 + 3 = 254 := ⟨by decide +kernel, rfl⟩
theorem dX9_readsFault_254 : decode cX9_readsFault 254 = .ok (.aload_n 0, 1) ∧ 254 + 1 = 255 := ⟨by decide +kernel, rfl⟩
theorem dX9_readsFault_255 : decode cX9_readsFault 255 = .ok (.getfield 57, 3) ∧ 255 + 3 = 258 := ⟨by decide +kernel, rfl⟩
theorem dX9_readsFault_258 : decode cX9_readsFault 258 = .ok (.iload_n 1, 1) ∧ 258 + 1 = 259 := ⟨by decide +kernel, rfl⟩
theorem dX9_readsFault_259 : decode cX9_readsFault 259 = .ok (.aload_n 0, 1) ∧ 259 + 1 = 260 := ⟨by decide +kernel, rfl⟩
theorem dX9_readsFault_260 : decode cX9_readsFault 260 = .ok (.getfield 167, 3) ∧ 260 + 3 = 263 := ⟨by decide +kernel, rfl⟩
theorem dX9_readsFault_263 : decode cX9_readsFault 263 = .ok (.iastore, 1) ∧ 263 + 1 = 264 := ⟨by decide +kernel, rfl⟩
theorem dX9_readsFault_264 : decode cX9_readsFault 264 = .ok (.iconst 0, 1) ∧ 264 + 1 = 265 := ⟨by decide +kernel, rfl⟩
theorem dX9_readsFault_265 : decode cX9_readsFault 265 = .ok (.istore_n 2, 1) ∧ 265 + 1 = 266 := ⟨by decide +kernel, rfl⟩
theorem dX9_readsFault_266 : decode cX9_readsFault 266 = .ok (.goto 24, 3) ∧ 266 + 3 = 269 ∧ ((266 : Nat) : Int) + (24) = ((290 : Nat) : Int) := ⟨by decide +kernel, rfl, rfl⟩
theorem dX9_readsFault_269 : decode cX9_readsFault 269 = .ok (.iload 4, 2) ∧ 269 + 2 = 271 := ⟨by decide +kernel, rfl⟩
theorem dX9_readsFault_271 : decode cX9_readsFault 271 = .ok (.bipush 41, 2) ∧ 271 + 2 = 273 := ⟨by decide +kernel, rfl⟩
theorem dX9_readsFault_273 : decode cX9_readsFault 273 = .ok (.if_icmp .ne 15, 3) ∧ 273 + 3 = 276 ∧ ((273 : Nat) : Int) + (15) = ((288 : Nat) : Int) := ⟨by decide +kernel, rfl, rfl⟩
theorem dX9_readsFault_276 : decode cX9_readsFault 276 = .ok (.iload_n 1, 1) ∧ 276 + 1 = 277 := ⟨by decide +kernel, rfl⟩
theorem dX9_readsFault_277 : decode cX9_readsFault 277 = .ok (.ifCond .le 11, 3) ∧ 277 + 3 = 280 ∧ ((277 : Nat) : Int) + (11) = ((288 : Nat) : Int) := ⟨by decide +kernel, rfl, rfl⟩
theorem dX9_readsFault_280 : decode cX9_readsFault 280 = .ok (.iinc 1 (-1), 3) ∧ 280 + 3 = 283 := ⟨by decide +kernel, rfl⟩
theorem dX9_readsFault_283 : decode cX9_readsFault 283 = .ok (.iconst 2, 1) ∧ 283 + 1 = 284 := ⟨by decide +kernel, rfl⟩
theorem dX9_readsFault_284 : decode cX9_readsFault 284 = .ok (.istore_n 2, 1) ∧ 284 + 1 = 285 := ⟨by decide +kernel, rfl⟩
theorem dX9_readsFault_285 : decode cX9_readsFault 285 = .ok (.goto 5, 3) ∧ 285 + 3 = 288 ∧ ((285 : Nat) : Int) + (5) = ((290 : Nat) : Int) := ⟨by decide +kernel, rfl, rfl⟩
theorem dX9_readsFault_288 : decode cX9_readsFault 288 = .ok (.iload_n 3, 1) ∧ 288 + 1 = 289 := ⟨by decide +kernel, rfl⟩
theorem dX9_readsFault_289 : decode cX9_readsFault 289 = .ok (.ireturn, 1) ∧ 289 + 1 = 290 := ⟨by decide +kernel, rfl⟩
theorem dX9_readsFault_290 : decode cX9_readsFault 290 = .ok (.iinc 3 1, 3) ∧ 290 + 3 = 293 := ⟨by decide +kernel, rfl⟩
theorem dX9_readsFault_293 : decode cX9_readsFault 293 = .ok (.goto (-247), 3) ∧ 293 + 3 = 296 ∧ ((293 : Nat) : Int) + (-247) = ((46 : Nat) : Int) := ⟨by decide +kernel, rfl, rfl⟩
theorem dX9_readsFault_296 : decode cX9_readsFault 296 = .ok (.iload_n 2, 1) ∧ 296 + 1 = 297 := ⟨by decide +kernel, rfl⟩
theorem dX9_readsFault_297 : decode cX9_readsFault 297 = .ok (.ifCond .eq 7, 3) ∧ 297 + 3 = 300 ∧ ((297 : Nat) : Int) + (7) = ((304 : Nat) : Int) := ⟨by decide +kernel, rfl, rfl⟩
theorem dX9_readsFault_300 : decode cX9_readsFault 300 = .ok (.iload_n 1, 1) ∧ 300 + 1 = 301 := ⟨by decide +kernel, rfl⟩
theorem dX9_readsFault_301 : decode cX9_readsFault 301 = .ok (.ifCond .le 10, 3) ∧ 301 + 3 = 304 ∧ ((301 : Nat) : Int) + (10) = ((311 : Nat) : Int) := ⟨by decide +kernel, rfl, rfl⟩
theorem dX9_readsFault_304 : decode cX9_readsFault 304 = .ok (.aload_n 0, 1) ∧ 304 + 1 = 305 := ⟨by decide +kernel, rfl⟩
theorem dX9_readsFault_305 : decode cX9_readsFault 305 = .ok (.getfield 95, 3) ∧ 305 + 3 = 308 := ⟨by decide +kernel, rfl⟩
theorem dX9_readsFault_308 : decode cX9_readsFault 308 = .ok (.goto 5, 3) ∧ 308 + 3 = 311 ∧ ((308 : Nat) : Int) + (5) = ((313 : Nat) : Int) := ⟨by decide +kernel, rfl, rfl⟩
theorem dX9_readsFault_311 : decode cX9_readsFault 311 = .ok (.bipush (-6), 2) ∧ 311 + 2 = 313 := ⟨by decide +kernel, rfl⟩
theorem dX9_readsFault_313 : decode cX9_readsFault 313 = .ok (.ireturn, 1) ∧ 313 + 1 = 314 := ⟨by decide +kernel, rfl⟩
theorem dX9_readOutline_0 : decode cX9_readOutline 0 = .ok (.aload_n 0, 1) ∧ 0 + 1 = 1 := ⟨by decide +kernel, rfl⟩
theorem dX9_readOutline_1 : decode cX9_readOutline 1 = .ok (.invokevirtual 176, 3) ∧ 1 + 3 = 4 := ⟨by decide +kernel, rfl⟩
theorem dX9_readOutline_4 : decode cX9_readOutline 4 = .ok (.istore_n 1, 1) ∧ 4 + 1 = 5 := ⟨by decide +kernel, rfl⟩
theorem dX9_readOutline_5 : decode cX9_readOutline 5 = .ok (.iload_n 1, 1) ∧ 5 + 1 = 6 := ⟨by decide +kernel, rfl⟩
theorem dX9_readOutline_6 : decode cX9_readOutline 6 = .ok (.bipush (-6), 2) ∧ 6 + 2 = 8 := ⟨by decide +kernel, rfl⟩
theorem dX9_readOutline_8 : decode cX9_readOutline 8 = .ok (.if_icmp .eq 8, 3) ∧ 8 + 3 = 11 ∧ ((8 : Nat) : Int) + (8) = ((16 : Nat) : Int) := ⟨by decide +kernel, rfl, rfl⟩
theorem dX9_readOutline_11 : decode cX9_readOutline 11 = .ok (.bipush (-100), 2) ∧ 11 + 2 = 13 := ⟨by decide +kernel, rfl⟩
theorem dX9_readOutline_13 : decode cX9_readOutline 13 = .ok (.iload_n 1, 1) ∧ 13 + 1 = 14 := ⟨by decide +kernel, rfl⟩
theorem dX9_readOutline_14 : decode cX9_readOutline 14 = .ok (.isub, 1) ∧ 14 + 1 = 15 := ⟨by decide +kernel, rfl⟩
theorem dX9_readOutline_15 : decode cX9_readOutline 15 = .ok (.ireturn, 1) ∧ 15 + 1 = 16 := ⟨by decide +kernel, rfl⟩
theorem dX9_readOutline_16 : decode cX9_readOutline 16 = .ok (.aload_n 0, 1) ∧ 16 + 1 = 17 := ⟨by decide +kernel, rfl⟩
theorem dX9_readOutline_17 : decode cX9_readOutline 17 = .ok (.invokevirtual 105, 3) ∧ 17 + 3 = 20 := ⟨by decide +kernel, rfl⟩
theorem dX9_readOutline_20 : decode cX9_readOutline 20 = .ok (.iconst 0, 1) ∧ 20 + 1 = 21 := ⟨by decide +kernel, rfl⟩
theorem dX9_readOutline_21 : decode cX9_readOutline 21 = .ok (.istore_n 2, 1) ∧ 21 + 1 = 22 := ⟨by decide +kernel, rfl⟩
theorem dX9_readOutline_22 : decode cX9_readOutline 22 = .ok (.iload_n 2, 1) ∧ 22 + 1 = 23 := ⟨by decide +kernel, rfl⟩
theorem dX9_readOutline_23 : decode cX9_readOutline 23 = .ok (.bipush 40, 2) ∧ 23 + 2 = 25 := ⟨by decide +kernel, rfl⟩
theorem dX9_readOutline_25 : decode cX9_readOutline 25 = .ok (.if_icmp .gt 30, 3) ∧ 25 + 3 = 28 ∧ ((25 : Nat) : Int) + (30) = ((55 : Nat) : Int) := ⟨by decide +kernel, rfl, rfl⟩
theorem dX9_readOutline_28 : decode cX9_readOutline 28 = .ok (.iconst 0, 1) ∧ 28 + 1 = 29 := ⟨by decide +kernel, rfl⟩
theorem dX9_readOutline_29 : decode cX9_readOutline 29 = .ok (.istore_n 3, 1) ∧ 29 + 1 = 30 := ⟨by decide +kernel, rfl⟩
theorem dX9_readOutline_30 : decode cX9_readOutline 30 = .ok (.iload_n 3, 1) ∧ 30 + 1 = 31 := ⟨by decide +kernel, rfl⟩
theorem dX9_readOutline_31 : decode cX9_readOutline 31 = .ok (.bipush 52, 2) ∧ 31 + 2 = 33 := ⟨by decide +kernel, rfl⟩
theorem dX9_readOutline_33 : decode cX9_readOutline 33 = .ok (.if_icmp .ge 16, 3) ∧ 33 + 3 = 36 ∧ ((33 : Nat) : Int) + (16) = ((49 : Nat) : Int) := ⟨by decide +kernel, rfl, rfl⟩
theorem dX9_readOutline_36 : decode cX9_readOutline 36 = .ok (.aload_n 0, 1) ∧ 36 + 1 = 37 := ⟨by decide +kernel, rfl⟩
theorem dX9_readOutline_37 : decode cX9_readOutline 37 = .ok (.iload_n 2, 1) ∧ 37 + 1 = 38 := ⟨by decide +kernel, rfl⟩
theorem dX9_readOutline_38 : decode cX9_readOutline 38 = .ok (.iload_n 3, 1) ∧ 38 + 1 = 39 := ⟨by decide +kernel, rfl⟩
theorem dX9_readOutline_39 : decode cX9_readOutline 39 = .ok (.iconst 0, 1) ∧ 39 + 1 = 40 := ⟨by decide +kernel, rfl⟩
theorem dX9_readOutline_40 : decode cX9_readOutline 40 = .ok (.invokevirtual 91, 3) ∧ 40 + 3 = 43 := ⟨by decide +kernel, rfl⟩
theorem dX9_readOutline_43 : decode cX9_readOutline 43 = .ok (.iinc 3 1, 3) ∧ 43 + 3 = 46 := ⟨by decide +kernel, rfl⟩
theorem dX9_readOutline_46 : decode cX9_readOutline 46 = .ok (.goto (-16), 3) ∧ 46 + 3 = 49 ∧ ((46 : Nat) : Int) + (-16) = ((30 : Nat) : Int) := ⟨by decide +kernel, rfl, rfl⟩
theorem dX9_readOutline_49 : decode cX9_readOutline 49 = .ok (.iinc 2 1, 3) ∧ 49 + 3 = 52 := ⟨by decide +kernel, rfl⟩
theorem dX9_readOutline_52 : decode cX9_readOutline 52 = .ok (.goto (-30), 3) ∧ 52 + 3 = 55 ∧ ((52 : Nat) : Int) + (-30) = ((22 : Nat) : Int) := ⟨by decide +kernel, rfl, rfl⟩
theorem dX9_readOutline_55 : decode cX9_readOutline 55 = .ok (.aload_n 0, 1) ∧ 55 + 1 = 56 := ⟨by decide +kernel, rfl⟩
theorem dX9_readOutline_56 : decode cX9_readOutline 56 = .ok (.iconst 0, 1) ∧ 56 + 1 = 57 := ⟨by decide +kernel, rfl⟩
theorem dX9_readOutline_57 : decode cX9_readOutline 57 = .ok (.iconst 0, 1) ∧ 57 + 1 = 58 := ⟨by decide +kernel, rfl⟩
theorem dX9_readOutline_58 : decode cX9_readOutline 58 = .ok (.iconst 1, 1) ∧ 58 + 1 = 59 := ⟨by decide +kernel, rfl⟩
theorem dX9_readOutline_59 : decode cX9_readOutline 59 = .ok (.invokevirtual 91, 3) ∧ 59 + 3 = 62 := ⟨by decide +kernel, rfl⟩
theorem dX9_readOutline_62 : decode cX9_readOutline 62 = .ok (.aload_n 0, 1) ∧ 62 + 1 = 63 := ⟨by decide +kernel, rfl⟩
theorem dX9_readOutline_63 : decode cX9_readOutline 63 = .ok (.getfield 7, 3) ∧ 63 + 3 = 66 := ⟨by decide +kernel, rfl⟩
theorem dX9_readOutline_66 : decode cX9_readOutline 66 = .ok (.iconst 0, 1) ∧ 66 + 1 = 67 := ⟨by decide +kernel, rfl⟩
theorem dX9_readOutline_67 : decode cX9_readOutline 67 = .ok (.aload_n 0, 1) ∧ 67 + 1 = 68 := ⟨by decide +kernel, rfl⟩
theorem dX9_readOutline_68 : decode cX9_readOutline 68 = .ok (.getfield 167, 3) ∧ 68 + 3 = 71 := ⟨by decide +kernel, rfl⟩
theorem dX9_readOutline_71 : decode cX9_readOutline 71 = .ok (.iastore, 1) ∧ 71 + 1 = 72 := ⟨by decide +kernel, rfl⟩
theorem dX9_readOutline_72 : decode cX9_readOutline 72 = .ok (.iconst 0, 1) ∧ 72 + 1 = 73 := ⟨by decide +kernel, rfl⟩
theorem dX9_readOutline_73 : decode cX9_readOutline 73 = .ok (.istore_n 2, 1) ∧ 73 + 1 = 74 := ⟨by decide +kernel, rfl⟩
theorem dX9_readOutline_74 : decode cX9_readOutline 74 = .ok (.iload_n 2, 1) ∧ 74 + 1 = 75 := ⟨by decide +kernel, rfl⟩
theorem dX9_readOutline_75 : decode cX9_readOutline 75 = .ok (.aload_n 0, 1) ∧ 75 + 1 = 76 := ⟨by decide +kernel, rfl⟩
theorem dX9_readOutline_76 : decode cX9_readOutline 76 = .ok (.getfield 167, 3) ∧ 76 + 3 = 79 := ⟨by decide +kernel, rfl⟩
theorem dX9_readOutline_79 : decode cX9_readOutline 79 = .ok (.if_icmp .gt 73, 3) ∧ 79 + 3 = 82 ∧ ((79 : Nat) : Int) + (73) = ((152 : Nat) : Int) := ⟨by decide +kernel, rfl, rfl⟩
theorem dX9_readOutline_82 : decode cX9_readOutline 82 = .ok (.aload_n 0, 1) ∧ 82 + 1 = 83 := ⟨by decide +kernel, rfl⟩
theorem dX9_readOutline_83 : decode cX9_readOutline 83 = .ok (.iload_n 2, 1) ∧ 83 + 1 = 84 := ⟨by decide +kernel, rfl⟩
theorem dX9_readOutline_84 : decode cX9_readOutline 84 = .ok (.iconst 0, 1) ∧ 84 + 1 = 85 := ⟨by decide +kernel, rfl⟩
theorem dX9_readOutline_85 : decode cX9_readOutline 85 = .ok (.iconst 1, 1) ∧ 85 + 1 = 86 := ⟨by decide +kernel, rfl⟩
theorem dX9_readOutline_86 : decode cX9_readOutline 86 = .ok (.invokevirtual 91, 3) ∧ 86 + 3 = 89 := ⟨by decide +kernel, rfl⟩
theorem dX9_readOutline_89 : decode cX9_readOutline 89 = .ok (.iload_n 2, 1) ∧ 89 + 1 = 90 := ⟨by decide +kernel, rfl⟩
theorem dX9_readOutline_90 : decode cX9_readOutline 90 = .ok (.ifCond .le 22, 3) ∧ 90 + 3 = 93 ∧ ((90 : Nat) : Int) + (22) = ((112 : Nat) : Int) := ⟨by decide +kernel, rfl, rfl⟩
theorem dX9_readOutline_93 : decode cX9_readOutline 93 = .ok (.aload_n 0, 1) ∧ 93 + 1 = 94 := ⟨by decide +kernel, rfl⟩
theorem dX9_readOutline_94 : decode cX9_readOutline 94 = .ok (.iload_n 2, 1) ∧ 94 + 1 = 95 := ⟨by decide +kernel, rfl⟩
theorem dX9_readOutline_95 : decode cX9_readOutline 95 = .ok (.iconst 1, 1) ∧ 95 + 1 = 96 := ⟨by decide +kernel, rfl⟩
theorem dX9_readOutline_96 : decode cX9_readOutline 96 = .ok (.iconst 1, 1) ∧ 96 + 1 = 97 := ⟨by decide +kernel, rfl⟩
theorem dX9_readOutline_97 : decode cX9_readOutline 97 = .ok (.invokevirtual 91, 3) ∧ 97 + 3 = 100 := ⟨by decide +kernel, rfl⟩
theorem dX9_readOutline_100 : decode cX9_readOutline 100 = .ok (.aload_n 0, 1) ∧ 100 + 1 = 101 := ⟨by decide +kernel, rfl⟩
theorem dX9_readOutline_101 : decode cX9_readOutline 101 = .ok (.iload_n 2, 1) ∧ 101 + 1 = 102 := ⟨by decide +kernel, rfl⟩
theorem dX9_readOutline_102 : decode cX9_readOutline 102 = .ok (.iconst 2, 1) ∧ 102 + 1 = 103 := ⟨by decide +kernel, rfl⟩
theorem dX9_readOutline_103 : decode cX9_readOutline 103 = .ok (.aload_n 0, 1) ∧ 103 + 1 = 104 := ⟨by decide +kernel, rfl⟩
theorem dX9_readOutline_104 : decode cX9_readOutline 104 = .ok (.getfield 48, 3) ∧ 104 + 3 = 107 := ⟨by decide +kernel, rfl⟩
theorem dX9_readOutline_107 : decode cX9_readOutline 107 = .ok (.iload_n 2, 1) ∧ 107 + 1 = 108 := ⟨by decide +kernel, rfl⟩
theorem dX9_readOutline_108 : decode cX9_readOutline 108 = .ok (.iaload, 1) ∧ 108 + 1 = 109 := ⟨by decide +kernel, rfl⟩
theorem dX9_readOutline_109 : decode cX9_readOutline 109 = .ok (.invokevirtual 91, 3) ∧ 109 + 3 = 112 := ⟨by decide +kernel, rfl⟩
theorem dX9_readOutline_112 : decode cX9_readOutline 112 = .ok (.iconst 0, 1) ∧ 112 + 1 = 113 := ⟨by decide +kernel, rfl⟩
theorem dX9_readOutline_113 : decode cX9_readOutline 113 = .ok (.istore_n 3, 1) ∧ 113 + 1 = 114 := ⟨by decide +kernel, rfl⟩
theorem dX9_readOutline_114 : decode cX9_readOutline 114 = .ok (.iload_n 3, 1) ∧ 114 + 1 = 115 := ⟨by decide +kernel, rfl⟩
theorem dX9_readOutline_115 : decode cX9_readOutline 115 = .ok (.aload_n 0, 1) ∧ 115 + 1 = 116 := ⟨by decide +kernel, rfl⟩
theorem dX9_readOutline_116 : decode cX9_readOutline 116 = .ok (.getfield 51, 3) ∧ 116 + 3 = 119 := ⟨by decide +kernel, rfl⟩
theorem dX9_readOutline_119 : decode cX9_readOutline 119 = .ok (.iload_n 2, 1) ∧ 119 + 1 = 120 := ⟨by decide +kernel, rfl⟩
theorem dX9_readOutline_120 : decode cX9_readOutline 120 = .ok (.iaload, 1) ∧ 120 + 1 = 121 := ⟨by decide +kernel, rfl⟩
theorem dX9_readOutline_121 : decode cX9_readOutline 121 = .ok (.if_icmp .ge 25, 3) ∧ 121 + 3 = 124 ∧ ((121 : Nat) : Int) + (25) = ((146 : Nat) : Int) := ⟨by decide +kernel, rfl, rfl⟩
theorem dX9_readOutline_124 : decode cX9_readOutline 124 = .ok (.aload_n 0, 1) ∧ 124 + 1 = 125 := ⟨by decide +kernel, rfl⟩
theorem dX9_readOutline_125 : decode cX9_readOutline 125 = .ok (.iload_n 2, 1) ∧ 125 + 1 = 126 := ⟨by decide +kernel, rfl⟩
theorem dX9_readOutline_126 : decode cX9_readOutline 126 = .ok (.aload_n 0, 1) ∧ 126 + 1 = 127 := ⟨by decide +kernel, rfl⟩
theorem dX9_readOutline_127 : decode cX9_readOutline 127 = .ok (.getfield 54, 3) ∧ 127 + 3 = 130 := ⟨by decide +kernel, rfl⟩
theorem dX9_readOutline_130 : decode cX9_readOutline 130 = .ok (.bipush 28, 2) ∧ 130 + 2 = 132 := ⟨by decide +kernel, rfl⟩
theorem dX9_readOutline_132 : decode cX9_readOutline 132 = .ok (.iload_n 2, 1) ∧ 132 + 1 = 133 := ⟨by decide +kernel, rfl⟩
theorem dX9_readOutline_133 : decode cX9_readOutline 133 = .ok (.imul, 1) ∧ 133 + 1 = 134 := ⟨by decide +kernel, rfl⟩
theorem dX9_readOutline_134 : decode cX9_readOutline 134 = .ok (.iload_n 3, 1) ∧ 134 + 1 = 135 := ⟨by decide +kernel, rfl⟩
theorem dX9_readOutline_135 : decode cX9_readOutline 135 = .ok (.iadd, 1) ∧ 135 + 1 = 136 := ⟨by decide +kernel, rfl⟩
theorem dX9_readOutline_136 : decode cX9_readOutline 136 = .ok (.iaload, 1) ∧ 136 + 1 = 137 := ⟨by decide +kernel, rfl⟩
theorem dX9_readOutline_137 : decode cX9_readOutline 137 = .ok (.invokevirtual 115, 3) ∧ 137 + 3 = 140 := ⟨by decide +kernel, rfl⟩
theorem dX9_readOutline_140 : decode cX9_readOutline 140 = .ok (.iinc 3 1, 3) ∧ 140 + 3 = 143 := ⟨by decide +kernel, rfl⟩
theorem dX9_readOutline_143 : decode cX9_readOutline 143 = .ok (.goto (-29), 3) ∧ 143 + 3 = 146 ∧ ((143 : Nat) : Int) + (-29) = ((114 : Nat) : Int) := ⟨by decide +kernel, rfl, rfl⟩
theorem dX9_readOutline_146 : decode cX9_readOutline 146 = .ok (.iinc 2 1, 3) ∧ 146 + 3 = 149 := ⟨by decide +kernel, rfl⟩
theorem dX9_readOutline_149 : decode cX9_readOutline 149 = .ok (.goto (-75), 3) ∧ 149 + 3 = 152 ∧ ((149 : Nat) : Int) + (-75) = ((74 : Nat) : Int) := ⟨by decide +kernel, rfl, rfl⟩
theorem dX9_readOutline_152 : decode cX9_readOutline 152 = .ok (.aload_n 0, 1) ∧ 152 + 1 = 153 := ⟨by decide +kernel, rfl⟩
theorem dX9_readOutline_153 : decode cX9_readOutline 153 = .ok (.invokevirtual 119, 3) ∧ 153 + 3 = 156 := ⟨by decide +kernel, rfl⟩
theorem dX9_readOutline_156 : decode cX9_readOutline 156 = .ok (.ifCond .ne 10, 3) ∧ 156 + 3 = 159 ∧ ((156 : Nat) : Int) + (10) = ((166 : Nat) : Int) := ⟨by decide +kernel, rfl, rfl⟩
theorem dX9_readOutline_159 : decode cX9_readOutline 159 = .ok (.aload_n 0, 1) ∧ 159 + 1 = 160 := ⟨by decide +kernel, rfl⟩
theorem dX9_readOutline_160 : decode cX9_readOutline 160 = .ok (.invokevirtual 123, 3) ∧ 160 + 3 = 163 := ⟨by decide +kernel, rfl⟩
theorem dX9_readOutline_163 : decode cX9_readOutline 163 = .ok (.bipush (-4), 2) ∧ 163 + 2 = 165 := ⟨by decide +kernel, rfl⟩
theorem dX9_readOutline_165 : decode cX9_readOutline 165 = .ok (.ireturn, 1) ∧ 165 + 1 = 166 := ⟨by decide +kernel, rfl⟩
theorem dX9_readOutline_166 : decode cX9_readOutline 166 = .ok (.aload_n 0, 1) ∧ 166 + 1 = 167 := ⟨by decide +kernel, rfl⟩
theorem dX9_readOutline_167 : decode cX9_readOutline 167 = .ok (.invokevirtual 126, 3) ∧ 167 + 3 = 170 := ⟨by decide +kernel, rfl⟩
theorem dX9_readOutline_170 : decode cX9_readOutline 170 = .ok (.iconst 0, 1) ∧ 170 + 1 = 171 := ⟨by decide +kernel, rfl⟩
theorem dX9_readOutline_171 : decode cX9_readOutline 171 = .ok (.istore_n 2, 1) ∧ 171 + 1 = 172 := ⟨by decide +kernel, rfl⟩
theorem dX9_readOutline_172 : decode cX9_readOutline 172 = .ok (.iload_n 2, 1) ∧ 172 + 1 = 173 := ⟨by decide +kernel, rfl⟩
theorem dX9_readOutline_173 : decode cX9_readOutline 173 = .ok (.aload_n 0, 1) ∧ 173 + 1 = 174 := ⟨by decide +kernel, rfl⟩
theorem dX9_readOutline_174 : decode cX9_readOutline 174 = .ok (.getfield 7, 3) ∧ 174 + 3 = 177 := ⟨by decide +kernel, rfl⟩
theorem dX9_readOutline_177 : decode cX9_readOutline 177 = .ok (.iconst 1, 1) ∧ 177 + 1 = 178 := ⟨by decide +kernel, rfl⟩
theorem dX9_readOutline_178 : decode cX9_readOutline 178 = .ok (.iaload, 1) ∧ 178 + 1 = 179 := ⟨by decide +kernel, rfl⟩
theorem dX9_readOutline_179 : decode cX9_readOutline 179 = .ok (.if_icmp .ge 24, 3) ∧ 179 + 3 = 182 ∧ ((179 : Nat) : Int) + (24) = ((203 : Nat) : Int) := ⟨by decide +kernel, rfl, rfl⟩
theorem dX9_readOutline_182 : decode cX9_readOutline 182 = .ok (.aload_n 0, 1) ∧ 182 + 1 = 183 := ⟨by decide +kernel, rfl⟩
theorem dX9_readOutline_183 : decode cX9_readOutline 183 = .ok (.getfield 7, 3) ∧ 183 + 3 = 186 := ⟨by decide +kernel, rfl⟩
theorem dX9_readOutline_186 : decode cX9_readOutline 186 = .ok (.sipush 2134, 3) ∧ 186 + 3 = 189 := ⟨by decide +kernel, rfl⟩
theorem dX9_readOutline_189 : decode cX9_readOutline 189 = .ok (.iconst 3, 1) ∧ 189 + 1 = 190 := ⟨by decide +kernel, rfl⟩
theorem dX9_readOutline_190 : decode cX9_readOutline 190 = .ok (.iload_n 2, 1) ∧ 190 + 1 = 191 := ⟨by decide +kernel, rfl⟩
theorem dX9_readOutline_191 : decode cX9_readOutline 191 = .ok (.imul, 1) ∧ 191 + 1 = 192 := ⟨by decide +kernel, rfl⟩
theorem dX9_readOutline_192 : decode cX9_readOutline 192 = .ok (.iadd, 1) ∧ 192 + 1 = 193 := ⟨by decide +kernel, rfl⟩
theorem dX9_readOutline_193 : decode cX9_readOutline 193 = .ok (.iconst 2, 1) ∧ 193 + 1 = 194 := ⟨by decide +kernel, rfl⟩
theorem dX9_readOutline_194 : decode cX9_readOutline 194 = .ok (.iadd, 1) ∧ 194 + 1 = 195 := ⟨by decide +kernel, rfl⟩
theorem dX9_readOutline_195 : decode cX9_readOutline 195 = .ok (.iconst 0, 1) ∧ 195 + 1 = 196 := ⟨by decide +kernel, rfl⟩
theorem dX9_readOutline_196 : decode cX9_readOutline 196 = .ok (.iastore, 1) ∧ 196 + 1 = 197 := ⟨by decide +kernel, rfl⟩
theorem dX9_readOutline_197 : decode cX9_readOutline 197 = .ok (.iinc 2 1, 3) ∧ 197 + 3 = 200 := ⟨by decide +kernel, rfl⟩
theorem dX9_readOutline_200 : decode cX9_readOutline 200 = .ok (.goto (-28), 3) ∧ 200 + 3 = 203 ∧ ((200 : Nat) : Int) + (-28) = ((172 : Nat) : Int) := ⟨by decide +kernel, rfl, rfl⟩
theorem dX9_readOutline_203 : decode cX9_readOutline 203 = .ok (.aload_n 0, 1) ∧ 203 + 1 = 204 := ⟨by decide +kernel, rfl⟩
theorem dX9_readOutline_204 : decode cX9_readOutline 204 = .ok (.getfield 7, 3) ∧ 204 + 3 = 207 := ⟨by decide +kernel, rfl⟩
theorem dX9_readOutline_207 : decode cX9_readOutline 207 = .ok (.iconst 1, 1) ∧ 207 + 1 = 208 := ⟨by decide +kernel, rfl⟩
theorem dX9_readOutline_208 : decode cX9_readOutline 208 = .ok (.iaload, 1) ∧ 208 + 1 = 209 := ⟨by decide +kernel, rfl⟩
theorem dX9_readOutline_209 : decode cX9_readOutline 209 = .ok (.ireturn, 1) ∧ 209 + 1 = 210 := ⟨by decide +kernel, rfl⟩
theorem dX9_undo_0 : decode cX9_undo 0 = .ok (.aload_n 0, 1) ∧ 0 + 1 = 1 := ⟨by decide +kernel, rfl⟩
theorem dX9_undo_1 : decode cX9_undo 1 = .ok (.getfield 60, 3) ∧ 1 + 3 = 4 := ⟨by decide +kernel, rfl⟩
theorem dX9_undo_4 : decode cX9_undo 4 = .ok (.ifCond .ne 6, 3) ∧ 4 + 3 = 7 ∧ ((4 : Nat) : Int) + (6) = ((10 : Nat) : Int) := ⟨by decide +kernel, rfl, rfl⟩
theorem dX9_undo_7 : decode cX9_undo 7 = .ok (.bipush (-6), 2) ∧ 7 + 2 = 9 := ⟨by decide +kernel, rfl⟩
theorem dX9_undo_9 : decode cX9_undo 9 = .ok (.ireturn, 1) ∧ 9 + 1 = 10 := ⟨by decide +kernel, rfl⟩
theorem dX9_undo_10 : decode cX9_undo 10 = .ok (.aload_n 0, 1) ∧ 10 + 1 = 11 := ⟨by decide +kernel, rfl⟩
theorem dX9_undo_11 : decode cX9_undo 11 = .ok (.dup, 1) ∧ 11 + 1 = 12 := ⟨by decide +kernel, rfl⟩
theorem dX9_undo_12 : decode cX9_undo 12 = .ok (.getfield 60, 3) ∧ 12 + 3 = 15 := ⟨by decide +kernel, rfl⟩
theorem dX9_undo_15 : decode cX9_undo 15 = .ok (.iconst 1, 1) ∧ 15 + 1 = 16 := ⟨by decide +kernel, rfl⟩
theorem dX9_undo_16 : decode cX9_undo 16 = .ok (.isub, 1) ∧ 16 + 1 = 17 := ⟨by decide +kernel, rfl⟩
theorem dX9_undo_17 : decode cX9_undo 17 = .ok (.putfield 60, 3) ∧ 17 + 3 = 20 := ⟨by decide +kernel, rfl⟩
theorem dX9_undo_20 : decode cX9_undo 20 = .ok (.iconst 0, 1) ∧ 20 + 1 = 21 := ⟨by decide +kernel, rfl⟩
theorem dX9_undo_21 : decode cX9_undo 21 = .ok (.istore_n 1, 1) ∧ 21 + 1 = 22 := ⟨by decide +kernel, rfl⟩
theorem dX9_undo_22 : decode cX9_undo 22 = .ok (.iload_n 1, 1) ∧ 22 + 1 = 23 := ⟨by decide +kernel, rfl⟩
theorem dX9_undo_23 : decode cX9_undo 23 = .ok (.sipush 2494, 3) ∧ 23 + 3 = 26 := ⟨by decide +kernel, rfl⟩
theorem dX9_undo_26 : decode cX9_undo 26 = .ok (.if_icmp .ge 30, 3) ∧ 26 + 3 = 29 ∧ ((26 : Nat) : Int) + (30) = ((56 : Nat) : Int) := ⟨by decide +kernel, rfl, rfl⟩
theorem dX9_undo_29 : decode cX9_undo 29 = .ok (.aload_n 0, 1) ∧ 29 + 1 = 30 := ⟨by decide +kernel, rfl⟩
theorem dX9_undo_30 : decode cX9_undo 30 = .ok (.getfield 7, 3) ∧ 30 + 3 = 33 := ⟨by decide +kernel, rfl⟩
theorem dX9_undo_33 : decode cX9_undo 33 = .ok (.iload_n 1, 1) ∧ 33 + 1 = 34 := ⟨by decide +kernel, rfl⟩
theorem dX9_undo_34 : decode cX9_undo 34 = .ok (.aload_n 0, 1) ∧ 34 + 1 = 35 := ⟨by decide +kernel, rfl⟩
theorem dX9_undo_35 : decode cX9_undo 35 = .ok (.getfield 13, 3) ∧ 35 + 3 = 38 := ⟨by decide +kernel, rfl⟩
theorem dX9_undo_38 : decode cX9_undo 38 = .ok (.sipush 2494, 3) ∧ 38 + 3 = 41 := ⟨by decide +kernel, rfl⟩
theorem dX9_undo_41 : decode cX9_undo 41 = .ok (.aload_n 0, 1) ∧ 41 + 1 = 42 := ⟨by decide +kernel, rfl⟩
theorem dX9_undo_42 : decode cX9_undo 42 = .ok (.getfield 60, 3) ∧ 42 + 3 = 45 := ⟨by decide +kernel, rfl⟩
theorem dX9_undo_45 : decode cX9_undo 45 = .ok (.imul, 1) ∧ 45 + 1 = 46 := ⟨by decide +kernel, rfl⟩
theorem dX9_undo_46 : decode cX9_undo 46 = .ok (.iload_n 1, 1) ∧ 46 + 1 = 47 := ⟨by decide +kernel, rfl⟩
theorem dX9_undo_47 : decode cX9_undo 47 = .ok (.iadd, 1) ∧ 47 + 1 = 48 := ⟨by decide +kernel, rfl⟩
theorem dX9_undo_48 : decode cX9_undo 48 = .ok (.iaload, 1) ∧ 48 + 1 = 49 := ⟨by decide +kernel, rfl⟩
theorem dX9_undo_49 : decode cX9_undo 49 = .ok (.iastore, 1) ∧ 49 + 1 = 50 := ⟨by decide +kernel, rfl⟩
theorem dX9_undo_50 : decode cX9_undo 50 = .ok (.iinc 1 1, 3) ∧ 50 + 3 = 53 := ⟨by decide +kernel, rfl⟩
theorem dX9_undo_53 : decode cX9_undo 53 = .ok (.goto (-31), 3) ∧ 53 + 3 = 56 ∧ ((53 : Nat) : Int) + (-31) = ((22 : Nat) : Int) := ⟨by decide +kernel, rfl, rfl⟩
theorem dX9_undo_56 : decode cX9_undo 56 = .ok (.aload_n 0, 1) ∧ 56 + 1 = 57 := ⟨by decide +kernel, rfl⟩
theorem dX9_undo_57 : decode cX9_undo 57 = .ok (.getfield 60, 3) ∧ 57 + 3 = 60 := ⟨by decide +kernel, rfl⟩
theorem dX9_undo_60 : decode cX9_undo 60 = .ok (.ireturn, 1) ∧ 60 + 1 = 61 := ⟨by decide +kernel, rfl⟩
theorem dX9_keep_0 : decode cX9_keep 0 = .ok (.iconst 0, 1) ∧ 0 + 1 = 1 := ⟨by decide +kernel, rfl⟩
theorem dX9_keep_1 : decode cX9_keep 1 = .ok (.istore_n 1, 1) ∧ 1 + 1 = 2 := ⟨by decide +kernel, rfl⟩
theorem dX9_keep_2 : decode cX9_keep 2 = .ok (.iload_n 1, 1) ∧ 2 + 1 = 3 := ⟨by decide +kernel, rfl⟩
theorem dX9_keep_3 : decode cX9_keep 3 = .ok (.sipush 2494, 3) ∧ 3 + 3 = 6 := ⟨by decide +kernel, rfl⟩
theorem dX9_keep_6 : decode cX9_keep 6 = .ok (.if_icmp .ge 21, 3) ∧ 6 + 3 = 9 ∧ ((6 : Nat) : Int) + (21) = ((27 : Nat) : Int) := ⟨by decide +kernel, rfl, rfl⟩
theorem dX9_keep_9 : decode cX9_keep 9 = .ok (.aload_n 0, 1) ∧ 9 + 1 = 10 := ⟨by decide +kernel, rfl⟩
theorem dX9_keep_10 : decode cX9_keep 10 = .ok (.getfield 16, 3) ∧ 10 + 3 = 13 := ⟨by decide +kernel, rfl⟩
theorem dX9_keep_13 : decode cX9_keep 13 = .ok (.iload_n 1, 1) ∧ 13 + 1 = 14 := ⟨by decide +kernel, rfl⟩
theorem dX9_keep_14 : decode cX9_keep 14 = .ok (.aload_n 0, 1) ∧ 14 + 1 = 15 := ⟨by decide +kernel, rfl⟩
theorem dX9_keep_15 : decode cX9_keep 15 = .ok (.getfield 7, 3) ∧ 15 + 3 = 18 := ⟨by decide +kernel, rfl⟩
theorem dX9_keep_18 : decode cX9_keep 18 = .ok (.iload_n 1, 1) ∧ 18 + 1 = 19 := ⟨by decide +kernel, rfl⟩
theorem dX9_keep_19 : decode cX9_keep 19 = .ok (.iaload, 1) ∧ 19 + 1 = 20 := ⟨by decide +kernel, rfl⟩
theorem dX9_keep_20 : decode cX9_keep 20 = .ok (.iastore, 1) ∧ 20 + 1 = 21 := ⟨by decide +kernel, rfl⟩
theorem dX9_keep_21 : decode cX9_keep 21 = .ok (.iinc 1 1, 3) ∧ 21 + 3 = 24 := ⟨by decide +kernel, rfl⟩
theorem dX9_keep_24 : decode cX9_keep 24 = .ok (.goto (-22), 3) ∧ 24 + 3 = 27 ∧ ((24 : Nat) : Int) + (-22) = ((2 : Nat) : Int) := ⟨by decide +kernel, rfl, rfl⟩
theorem dX9_keep_27 : decode cX9_keep 27 = .ok (.aload_n 0, 1) ∧ 27 + 1 = 28 := ⟨by decide +kernel, rfl⟩
theorem dX9_keep_28 : decode cX9_keep 28 = .ok (.iconst 1, 1) ∧ 28 + 1 = 29 := ⟨by decide +kernel, rfl⟩
theorem dX9_keep_29 : decode cX9_keep 29 = .ok (.putfield 179, 3) ∧ 29 + 3 = 32 := ⟨by decide +kernel, rfl⟩
theorem dX9_keep_32 : decode cX9_keep 32 = .ok (.aload_n 0, 1) ∧ 32 + 1 = 33 := ⟨by decide +kernel, rfl⟩
theorem dX9_keep_33 : decode cX9_keep 33 = .ok (.invokevirtual 154, 3) ∧ 33 + 3 = 36 := ⟨by decide +kernel, rfl⟩
theorem dX9_keep_36 : decode cX9_keep 36 = .ok (.ireturn, 1) ∧ 36 + 1 = 37 := ⟨by decide +kernel, rfl⟩
theorem dX9_restore_0 : decode cX9_restore 0 = .ok (.aload_n 0, 1) ∧ 0 + 1 = 1 := ⟨by decide +kernel, rfl⟩
theorem dX9_restore_1 : decode cX9_restore 1 = .ok (.getfield 179, 3) ∧ 1 + 3 = 4 := ⟨by decide +kernel, rfl⟩
theorem dX9_restore_4 : decode cX9_restore 4 = .ok (.ifCond .ne 6, 3) ∧ 4 + 3 = 7 ∧ ((4 : Nat) : Int) + (6) = ((10 : Nat) : Int) := ⟨by decide +kernel, rfl, rfl⟩
theorem dX9_restore_7 : decode cX9_restore 7 = .ok (.bipush (-6), 2) ∧ 7 + 2 = 9 := ⟨by decide +kernel, rfl⟩
theorem dX9_restore_9 : decode cX9_restore 9 = .ok (.ireturn, 1) ∧ 9 + 1 = 10 := ⟨by decide +kernel, rfl⟩
theorem dX9_restore_10 : decode cX9_restore 10 = .ok (.aload_n 0, 1) ∧ 10 + 1 = 11 := ⟨by decide +kernel, rfl⟩
theorem dX9_restore_11 : decode cX9_restore 11 = .ok (.invokevirtual 105, 3) ∧ 11 + 3 = 14 := ⟨by decide +kernel, rfl⟩
theorem dX9_restore_14 : decode cX9_restore 14 = .ok (.aload_n 0, 1) ∧ 14 + 1 = 15 := ⟨by decide +kernel, rfl⟩
theorem dX9_restore_15 : decode cX9_restore 15 = .ok (.invokevirtual 126, 3) ∧ 15 + 3 = 18 := ⟨by decide +kernel, rfl⟩
theorem dX9_restore_18 : decode cX9_restore 18 = .ok (.iconst 0, 1) ∧ 18 + 1 = 19 := ⟨by decide +kernel, rfl⟩
theorem dX9_restore_19 : decode cX9_restore 19 = .ok (.istore_n 1, 1) ∧ 19 + 1 = 20 := ⟨by decide +kernel, rfl⟩
theorem dX9_restore_20 : decode cX9_restore 20 = .ok (.iload_n 1, 1) ∧ 20 + 1 = 21 := ⟨by decide +kernel, rfl⟩
theorem dX9_restore_21 : decode cX9_restore 21 = .ok (.sipush 2494, 3) ∧ 21 + 3 = 24 := ⟨by decide +kernel, rfl⟩
theorem dX9_restore_24 : decode cX9_restore 24 = .ok (.if_icmp .ge 21, 3) ∧ 24 + 3 = 27 ∧ ((24 : Nat) : Int) + (21) = ((45 : Nat) : Int) := ⟨by decide +kernel, rfl, rfl⟩
theorem dX9_restore_27 : decode cX9_restore 27 = .ok (.aload_n 0, 1) ∧ 27 + 1 = 28 := ⟨by decide +kernel, rfl⟩
theorem dX9_restore_28 : decode cX9_restore 28 = .ok (.getfield 7, 3) ∧ 28 + 3 = 31 := ⟨by decide +kernel, rfl⟩
theorem dX9_restore_31 : decode cX9_restore 31 = .ok (.iload_n 1, 1) ∧ 31 + 1 = 32 := ⟨by decide +kernel, rfl⟩
theorem dX9_restore_32 : decode cX9_restore 32 = .ok (.aload_n 0, 1) ∧ 32 + 1 = 33 := ⟨by decide +kernel, rfl⟩
theorem dX9_restore_33 : decode cX9_restore 33 = .ok (.getfield 16, 3) ∧ 33 + 3 = 36 := ⟨by decide +kernel, rfl⟩
theorem dX9_restore_36 : decode cX9_restore 36 = .ok (.iload_n 1, 1) ∧ 36 + 1 = 37 := ⟨by decide +kernel, rfl⟩
theorem dX9_restore_37 : decode cX9_restore 37 = .ok (.iaload, 1) ∧ 37 + 1 = 38 := ⟨by decide +kernel, rfl⟩
theorem dX9_restore_38 : decode cX9_restore 38 = .ok (.iastore, 1) ∧ 38 + 1 = 39 := ⟨by decide +kernel, rfl⟩
theorem dX9_restore_39 : decode cX9_restore 39 = .ok (.iinc 1 1, 3) ∧ 39 + 3 = 42 := ⟨by decide +kernel, rfl⟩
theorem dX9_restore_42 : decode cX9_restore 42 = .ok (.goto (-22), 3) ∧ 42 + 3 = 45 ∧ ((42 : Nat) : Int) + (-22) = ((20 : Nat) : Int) := ⟨by decide +kernel, rfl, rfl⟩
theorem dX9_restore_45 : decode cX9_restore 45 = .ok (.aload_n 0, 1) ∧ 45 + 1 = 46 := ⟨by decide +kernel, rfl⟩
theorem dX9_restore_46 : decode cX9_restore 46 = .ok (.invokevirtual 154, 3) ∧ 46 + 3 = 49 := ⟨by decide +kernel, rfl⟩
theorem dX9_restore_49 : decode cX9_restore 49 = .ok (.ireturn, 1) ∧ 49 + 1 = 50 := ⟨by decide +kernel, rfl⟩
theorem dX9_rowsWithin_0 : decode cX9_rowsWithin 0 = .ok (.iconst 0, 1) ∧ 0 + 1 = 1 := ⟨by decide +kernel, rfl⟩
theorem dX9_rowsWithin_1 : decode cX9_rowsWithin 1 = .ok (.istore_n 2, 1) ∧ 1 + 1 = 2 := ⟨by decide +kernel, rfl⟩
theorem dX9_rowsWithin_2 : decode cX9_rowsWithin 2 = .ok (.iload_n 1, 1) ∧ 2 + 1 = 3 := ⟨by decide +kernel, rfl⟩
theorem dX9_rowsWithin_3 : decode cX9_rowsWithin 3 = .ok (.iconst 1, 1) ∧ 3 + 1 = 4 := ⟨by decide +kernel, rfl⟩
theorem dX9_rowsWithin_4 : decode cX9_rowsWithin 4 = .ok (.iadd, 1) ∧ 4 + 1 = 5 := ⟨by decide +kernel, rfl⟩
theorem dX9_rowsWithin_5 : decode cX9_rowsWithin 5 = .ok (.istore_n 3, 1) ∧ 5 + 1 = 6 := ⟨by decide +kernel, rfl⟩
theorem dX9_rowsWithin_6 : decode cX9_rowsWithin 6 = .ok (.iload_n 3, 1) ∧ 6 + 1 = 7 := ⟨by decide +kernel, rfl⟩
theorem dX9_rowsWithin_7 : decode cX9_rowsWithin 7 = .ok (.aload_n 0, 1) ∧ 7 + 1 = 8 := ⟨by decide +kernel, rfl⟩
theorem dX9_rowsWithin_8 : decode cX9_rowsWithin 8 = .ok (.getfield 7, 3) ∧ 8 + 3 = 11 := ⟨by decide +kernel, rfl⟩
theorem dX9_rowsWithin_11 : decode cX9_rowsWithin 11 = .ok (.iconst 1, 1) ∧ 11 + 1 = 12 := ⟨by decide +kernel, rfl⟩
theorem dX9_rowsWithin_12 : decode cX9_rowsWithin 12 = .ok (.iaload, 1) ∧ 12 + 1 = 13 := ⟨by decide +kernel, rfl⟩
theorem dX9_rowsWithin_13 : decode cX9_rowsWithin 13 = .ok (.if_icmp .ge 40, 3) ∧ 13 + 3 = 16 ∧ ((13 : Nat) : Int) + (40) = ((53 : Nat) : Int) := ⟨by decide +kernel, rfl, rfl⟩
theorem dX9_rowsWithin_16 : decode cX9_rowsWithin 16 = .ok (.aload_n 0, 1) ∧ 16 + 1 = 17 := ⟨by decide +kernel, rfl⟩
theorem dX9_rowsWithin_17 : decode cX9_rowsWithin 17 = .ok (.iload_n 3, 1) ∧ 17 + 1 = 18 := ⟨by decide +kernel, rfl⟩
theorem dX9_rowsWithin_18 : decode cX9_rowsWithin 18 = .ok (.iconst 1, 1) ∧ 18 + 1 = 19 := ⟨by decide +kernel, rfl⟩
theorem dX9_rowsWithin_19 : decode cX9_rowsWithin 19 = .ok (.invokevirtual 77, 3) ∧ 19 + 3 = 22 := ⟨by decide +kernel, rfl⟩
theorem dX9_rowsWithin_22 : decode cX9_rowsWithin 22 = .ok (.aload_n 0, 1) ∧ 22 + 1 = 23 := ⟨by decide +kernel, rfl⟩
theorem dX9_rowsWithin_23 : decode cX9_rowsWithin 23 = .ok (.iload_n 1, 1) ∧ 23 + 1 = 24 := ⟨by decide +kernel, rfl⟩
theorem dX9_rowsWithin_24 : decode cX9_rowsWithin 24 = .ok (.iconst 1, 1) ∧ 24 + 1 = 25 := ⟨by decide +kernel, rfl⟩
theorem dX9_rowsWithin_25 : decode cX9_rowsWithin 25 = .ok (.invokevirtual 77, 3) ∧ 25 + 3 = 28 := ⟨by decide +kernel, rfl⟩
theorem dX9_rowsWithin_28 : decode cX9_rowsWithin 28 = .ok (.if_icmp .le 25, 3) ∧ 28 + 3 = 31 ∧ ((28 : Nat) : Int) + (25) = ((53 : Nat) : Int) := ⟨by decide +kernel, rfl, rfl⟩
theorem dX9_rowsWithin_31 : decode cX9_rowsWithin 31 = .ok (.iload_n 2, 1) ∧ 31 + 1 = 32 := ⟨by decide +kernel, rfl⟩
theorem dX9_rowsWithin_32 : decode cX9_rowsWithin 32 = .ok (.aload_n 0, 1) ∧ 32 + 1 = 33 := ⟨by decide +kernel, rfl⟩
theorem dX9_rowsWithin_33 : decode cX9_rowsWithin 33 = .ok (.iload_n 3, 1) ∧ 33 + 1 = 34 := ⟨by decide +kernel, rfl⟩
theorem dX9_rowsWithin_34 : decode cX9_rowsWithin 34 = .ok (.invokevirtual 80, 3) ∧ 34 + 3 = 37 := ⟨by decide +kernel, rfl⟩
theorem dX9_rowsWithin_37 : decode cX9_rowsWithin 37 = .ok (.ifCond .eq 7, 3) ∧ 37 + 3 = 40 ∧ ((37 : Nat) : Int) + (7) = ((44 : Nat) : Int) := ⟨by decide +kernel, rfl, rfl⟩
theorem dX9_rowsWithin_40 : decode cX9_rowsWithin 40 = .ok (.iconst 1, 1) ∧ 40 + 1 = 41 := ⟨by decide +kernel, rfl⟩
theorem dX9_rowsWithin_41 : decode cX9_rowsWithin 41 = .ok (.goto 4, 3) ∧ 41 + 3 = 44 ∧ ((41 : Nat) : Int) + (4) = ((45 : Nat) : Int) := ⟨by decide +kernel, rfl, rfl⟩
theorem dX9_rowsWithin_44 : decode cX9_rowsWithin 44 = .ok (.iconst 0, 1) ∧ 44 + 1 = 45 := ⟨by decide +kernel, rfl⟩
theorem dX9_rowsWithin_45 : decode cX9_rowsWithin 45 = .ok (.iadd, 1) ∧ 45 + 1 = 46 := ⟨by decide +kernel, rfl⟩
theorem dX9_rowsWithin_46 : decode cX9_rowsWithin 46 = .ok (.istore_n 2, 1) ∧ 46 + 1 = 47 := ⟨by decide +kernel, rfl⟩
theorem dX9_rowsWithin_47 : decode cX9_rowsWithin 47 = .ok (.iinc 3 1, 3) ∧ 47 + 3 = 50 := ⟨by decide +kernel, rfl⟩
theorem dX9_rowsWithin_50 : decode cX9_rowsWithin 50 = .ok (.goto (-44), 3) ∧ 50 + 3 = 53 ∧ ((50 : Nat) : Int) + (-44) = ((6 : Nat) : Int) := ⟨by decide +kernel, rfl, rfl⟩
theorem dX9_rowsWithin_53 : decode cX9_rowsWithin 53 = .ok (.iload_n 2, 1) ∧ 53 + 1 = 54 := ⟨by decide +kernel, rfl⟩
theorem dX9_rowsWithin_54 : decode cX9_rowsWithin 54 = .ok (.ireturn, 1) ∧ 54 + 1 = 55 := ⟨by decide +kernel, rfl⟩
theorem dX9_row_0 : decode cX9_row 0 = .ok (.aload_n 0, 1) ∧ 0 + 1 = 1 := ⟨by decide +kernel, rfl⟩
theorem dX9_row_1 : decode cX9_row 1 = .ok (.iload_n 1, 1) ∧ 1 + 1 = 2 := ⟨by decide +kernel, rfl⟩
theorem dX9_row_2 : decode cX9_row 2 = .ok (.invokevirtual 88, 3) ∧ 2 + 3 = 5 := ⟨by decide +kernel, rfl⟩
theorem dX9_row_5 : decode cX9_row 5 = .ok (.istore_n 3, 1) ∧ 5 + 1 = 6 := ⟨by decide +kernel, rfl⟩
theorem dX9_row_6 : decode cX9_row 6 = .ok (.iload_n 3, 1) ∧ 6 + 1 = 7 := ⟨by decide +kernel, rfl⟩
theorem dX9_row_7 : decode cX9_row 7 = .ok (.bipush (-6), 2) ∧ 7 + 2 = 9 := ⟨by decide +kernel, rfl⟩
theorem dX9_row_9 : decode cX9_row 9 = .ok (.if_icmp .ne 6, 3) ∧ 9 + 3 = 12 ∧ ((9 : Nat) : Int) + (6) = ((15 : Nat) : Int) := ⟨by decide +kernel, rfl, rfl⟩
theorem dX9_row_12 : decode cX9_row 12 = .ok (.bipush (-2), 2) ∧ 12 + 2 = 14 := ⟨by decide +kernel, rfl⟩
theorem dX9_row_14 : decode cX9_row 14 = .ok (.ireturn, 1) ∧ 14 + 1 = 15 := ⟨by decide +kernel, rfl⟩
theorem dX9_row_15 : decode cX9_row 15 = .ok (.aload_n 0, 1) ∧ 15 + 1 = 16 := ⟨by decide +kernel, rfl⟩
theorem dX9_row_16 : decode cX9_row 16 = .ok (.iload_n 3, 1) ∧ 16 + 1 = 17 := ⟨by decide +kernel, rfl⟩
theorem dX9_row_17 : decode cX9_row 17 = .ok (.iconst 0, 1) ∧ 17 + 1 = 18 := ⟨by decide +kernel, rfl⟩
theorem dX9_row_18 : decode cX9_row 18 = .ok (.invokevirtual 77, 3) ∧ 18 + 3 = 21 := ⟨by decide +kernel, rfl⟩
theorem dX9_row_21 : decode cX9_row 21 = .ok (.istore 4, 2) ∧ 21 + 2 = 23 := ⟨by decide +kernel, rfl⟩
theorem dX9_row_23 : decode cX9_row 23 = .ok (.iload_n 2, 1) ∧ 23 + 1 = 24 := ⟨by decide +kernel, rfl⟩
theorem dX9_row_24 : decode cX9_row 24 = .ok (.tableswitch 134 0 8 #[52, 55, 62, 74, 83, 90, 99, 106, 128], 52) ∧ 24 + 52 = 76 := ⟨by decide +kernel, rfl⟩
theorem dX9_row_76 : decode cX9_row 76 = .ok (.iload 4, 2) ∧ 76 + 2 = 78 := ⟨by decide +kernel, rfl⟩
theorem dX9_row_78 : decode cX9_row 78 = .ok (.ireturn, 1) ∧ 78 + 1 = 79 := ⟨by decide +kernel, rfl⟩
theorem dX9_row_79 : decode cX9_row 79 = .ok (.aload_n 0, 1) ∧ 79 + 1 = 80 := ⟨by decide +kernel, rfl⟩
theorem dX9_row_80 : decode cX9_row 80 = .ok (.iload_n 3, 1) ∧ 80 + 1 = 81 := ⟨by decide +kernel, rfl⟩
theorem dX9_row_81 : decode cX9_row 81 = .ok (.iconst 1, 1) ∧ 81 + 1 = 82 := ⟨by decide +kernel, rfl⟩
theorem dX9_row_82 : decode cX9_row 82 = .ok (.invokevirtual 77, 3) ∧ 82 + 3 = 85 := ⟨by decide +kernel, rfl⟩
theorem dX9_row_85 : decode cX9_row 85 = .ok (.ireturn, 1) ∧ 85 + 1 = 86 := ⟨by decide +kernel, rfl⟩
theorem dX9_row_86 : decode cX9_row 86 = .ok (.aload_n 0, 1) ∧ 86 + 1 = 87 := ⟨by decide +kernel, rfl⟩
theorem dX9_row_87 : decode cX9_row 87 = .ok (.aload_n 0, 1) ∧ 87 + 1 = 88 := ⟨by decide +kernel, rfl⟩
theorem dX9_row_88 : decode cX9_row 88 = .ok (.iload_n 3, 1) ∧ 88 + 1 = 89 := ⟨by decide +kernel, rfl⟩
theorem dX9_row_89 : decode cX9_row 89 = .ok (.invokevirtual 142, 3) ∧ 89 + 3 = 92 := ⟨by decide +kernel, rfl⟩
theorem dX9_row_92 : decode cX9_row 92 = .ok (.iload 4, 2) ∧ 92 + 2 = 94 := ⟨by decide +kernel, rfl⟩
theorem dX9_row_94 : decode cX9_row 94 = .ok (.invokevirtual 132, 3) ∧ 94 + 3 = 97 := ⟨by decide +kernel, rfl⟩
theorem dX9_row_97 : decode cX9_row 97 = .ok (.ireturn, 1) ∧ 97 + 1 = 98 := ⟨by decide +kernel, rfl⟩
theorem dX9_row_98 : decode cX9_row 98 = .ok (.aload_n 0, 1) ∧ 98 + 1 = 99 := ⟨by decide +kernel, rfl⟩
theorem dX9_row_99 : decode cX9_row 99 = .ok (.iload 4, 2) ∧ 99 + 2 = 101 := ⟨by decide +kernel, rfl⟩
theorem dX9_row_101 : decode cX9_row 101 = .ok (.bipush 11, 2) ∧ 101 + 2 = 103 := ⟨by decide +kernel, rfl⟩
theorem dX9_row_103 : decode cX9_row 103 = .ok (.invokevirtual 64, 3) ∧ 103 + 3 = 106 := ⟨by decide +kernel, rfl⟩
theorem dX9_row_106 : decode cX9_row 106 = .ok (.ireturn, 1) ∧ 106 + 1 = 107 := ⟨by decide +kernel, rfl⟩
theorem dX9_row_107 : decode cX9_row 107 = .ok (.aload_n 0, 1) ∧ 107 + 1 = 108 := ⟨by decide +kernel, rfl⟩
theorem dX9_row_108 : decode cX9_row 108 = .ok (.iload_n 3, 1) ∧ 108 + 1 = 109 := ⟨by decide +kernel, rfl⟩
theorem dX9_row_109 : decode cX9_row 109 = .ok (.iconst 2, 1) ∧ 109 + 1 = 110 := ⟨by decide +kernel, rfl⟩
theorem dX9_row_110 : decode cX9_row 110 = .ok (.invokevirtual 77, 3) ∧ 110 + 3 = 113 := ⟨by decide +kernel, rfl⟩
theorem dX9_row_113 : decode cX9_row 113 = .ok (.ireturn, 1) ∧ 113 + 1 = 114 := ⟨by decide +kernel, rfl⟩
theorem dX9_row_114 : decode cX9_row 114 = .ok (.aload_n 0, 1) ∧ 114 + 1 = 115 := ⟨by decide +kernel, rfl⟩
theorem dX9_row_115 : decode cX9_row 115 = .ok (.iload 4, 2) ∧ 115 + 2 = 117 := ⟨by decide +kernel, rfl⟩
theorem dX9_row_117 : decode cX9_row 117 = .ok (.bipush 10, 2) ∧ 117 + 2 = 119 := ⟨by decide +kernel, rfl⟩
theorem dX9_row_119 : decode cX9_row 119 = .ok (.invokevirtual 64, 3) ∧ 119 + 3 = 122 := ⟨by decide +kernel, rfl⟩
theorem dX9_row_122 : decode cX9_row 122 = .ok (.ireturn, 1) ∧ 122 + 1 = 123 := ⟨by decide +kernel, rfl⟩
theorem dX9_row_123 : decode cX9_row 123 = .ok (.aload_n 0, 1) ∧ 123 + 1 = 124 := ⟨by decide +kernel, rfl⟩
theorem dX9_row_124 : decode cX9_row 124 = .ok (.iload 4, 2) ∧ 124 + 2 = 126 := ⟨by decide +kernel, rfl⟩
theorem dX9_row_126 : decode cX9_row 126 = .ok (.invokevirtual 139, 3) ∧ 126 + 3 = 129 := ⟨by decide +kernel, rfl⟩
theorem dX9_row_129 : decode cX9_row 129 = .ok (.ireturn, 1) ∧ 129 + 1 = 130 := ⟨by decide +kernel, rfl⟩
theorem dX9_row_130 : decode cX9_row 130 = .ok (.aload_n 0, 1) ∧ 130 + 1 = 131 := ⟨by decide +kernel, rfl⟩
theorem dX9_row_131 : decode cX9_row 131 = .ok (.iload_n 3, 1) ∧ 131 + 1 = 132 := ⟨by decide +kernel, rfl⟩
theorem dX9_row_132 : decode cX9_row 132 = .ok (.invokevirtual 84, 3) ∧ 132 + 3 = 135 := ⟨by decide +kernel, rfl⟩
theorem dX9_row_135 : decode cX9_row 135 = .ok (.ifCond .ge 7, 3) ∧ 135 + 3 = 138 ∧ ((135 : Nat) : Int) + (7) = ((142 : Nat) : Int) := ⟨by decide +kernel, rfl, rfl⟩
theorem dX9_row_138 : decode cX9_row 138 = .ok (.iconst (-1), 1) ∧ 138 + 1 = 139 := ⟨by decide +kernel, rfl⟩
theorem dX9_row_139 : decode cX9_row 139 = .ok (.goto 12, 3) ∧ 139 + 3 = 142 ∧ ((139 : Nat) : Int) + (12) = ((151 : Nat) : Int) := ⟨by decide +kernel, rfl, rfl⟩
theorem dX9_row_142 : decode cX9_row 142 = .ok (.aload_n 0, 1) ∧ 142 + 1 = 143 := ⟨by decide +kernel, rfl⟩
theorem dX9_row_143 : decode cX9_row 143 = .ok (.aload_n 0, 1) ∧ 143 + 1 = 144 := ⟨by decide +kernel, rfl⟩
theorem dX9_row_144 : decode cX9_row 144 = .ok (.iload_n 3, 1) ∧ 144 + 1 = 145 := ⟨by decide +kernel, rfl⟩
theorem dX9_row_145 : decode cX9_row 145 = .ok (.invokevirtual 84, 3) ∧ 145 + 3 = 148 := ⟨by decide +kernel, rfl⟩
theorem dX9_row_148 : decode cX9_row 148 = .ok (.invokevirtual 164, 3) ∧ 148 + 3 = 151 := ⟨by decide +kernel, rfl⟩
theorem dX9_row_151 : decode cX9_row 151 = .ok (.ireturn, 1) ∧ 151 + 1 = 152 := ⟨by decide +kernel, rfl⟩
theorem dX9_row_152 : decode cX9_row 152 = .ok (.aload_n 0, 1) ∧ 152 + 1 = 153 := ⟨by decide +kernel, rfl⟩
theorem dX9_row_153 : decode cX9_row 153 = .ok (.iload_n 3, 1) ∧ 153 + 1 = 154 := ⟨by decide +kernel, rfl⟩
theorem dX9_row_154 : decode cX9_row 154 = .ok (.invokevirtual 183, 3) ∧ 154 + 3 = 157 := ⟨by decide +kernel, rfl⟩
theorem dX9_row_157 : decode cX9_row 157 = .ok (.ireturn, 1) ∧ 157 + 1 = 158 := ⟨by decide +kernel, rfl⟩
theorem dX9_row_158 : decode cX9_row 158 = .ok (.bipush (-3), 2) ∧ 158 + 2 = 160 := ⟨by decide +kernel, rfl⟩
theorem dX9_row_160 : decode cX9_row 160 = .ok (.ireturn, 1) ∧ 160 + 1 = 161 := ⟨by decide +kernel, rfl⟩
theorem dX9_number_0 : decode cX9_number 0 = .ok (.aload_n 0, 1) ∧ 0 + 1 = 1 := ⟨by decide +kernel, rfl⟩
theorem dX9_number_1 : decode cX9_number 1 = .ok (.iload_n 1, 1) ∧ 1 + 1 = 2 := ⟨by decide +kernel, rfl⟩
theorem dX9_number_2 : decode cX9_number 2 = .ok (.invokevirtual 88, 3) ∧ 2 + 3 = 5 := ⟨by decide +kernel, rfl⟩
theorem dX9_number_5 : decode cX9_number 5 = .ok (.istore_n 3, 1) ∧ 5 + 1 = 6 := ⟨by decide +kernel, rfl⟩
theorem dX9_number_6 : decode cX9_number 6 = .ok (.iload_n 3, 1) ∧ 6 + 1 = 7 := ⟨by decide +kernel, rfl⟩
theorem dX9_number_7 : decode cX9_number 7 = .ok (.bipush (-6), 2) ∧ 7 + 2 = 9 := ⟨by decide +kernel, rfl⟩
theorem dX9_number_9 : decode cX9_number 9 = .ok (.if_icmp .ne 6, 3) ∧ 9 + 3 = 12 ∧ ((9 : Nat) : Int) + (6) = ((15 : Nat) : Int) := ⟨by decide +kernel, rfl, rfl⟩
theorem dX9_number_12 : decode cX9_number 12 = .ok (.bipush (-2), 2) ∧ 12 + 2 = 14 := ⟨by decide +kernel, rfl⟩
theorem dX9_number_14 : decode cX9_number 14 = .ok (.ireturn, 1) ∧ 14 + 1 = 15 := ⟨by decide +kernel, rfl⟩
theorem dX9_number_15 : decode cX9_number 15 = .ok (.iload_n 2, 1) ∧ 15 + 1 = 16 := ⟨by decide +kernel, rfl⟩
theorem dX9_number_16 : decode cX9_number 16 = .ok (.iconst 1, 1) ∧ 16 + 1 = 17 := ⟨by decide +kernel, rfl⟩
theorem dX9_number_17 : decode cX9_number 17 = .ok (.if_icmp .ge 6, 3) ∧ 17 + 3 = 20 ∧ ((17 : Nat) : Int) + (6) = ((23 : Nat) : Int) := ⟨by decide +kernel, rfl, rfl⟩
theorem dX9_number_20 : decode cX9_number 20 = .ok (.bipush (-3), 2) ∧ 20 + 2 = 22 := ⟨by decide +kernel, rfl⟩
theorem dX9_number_22 : decode cX9_number 22 = .ok (.ireturn, 1) ∧ 22 + 1 = 23 := ⟨by decide +kernel, rfl⟩
theorem dX9_number_23 : decode cX9_number 23 = .ok (.iload_n 2, 1) ∧ 23 + 1 = 24 := ⟨by decide +kernel, rfl⟩
theorem dX9_number_24 : decode cX9_number 24 = .ok (.aload_n 0, 1) ∧ 24 + 1 = 25 := ⟨by decide +kernel, rfl⟩
theorem dX9_number_25 : decode cX9_number 25 = .ok (.iload_n 3, 1) ∧ 25 + 1 = 26 := ⟨by decide +kernel, rfl⟩
theorem dX9_number_26 : decode cX9_number 26 = .ok (.iconst 1, 1) ∧ 26 + 1 = 27 := ⟨by decide +kernel, rfl⟩
theorem dX9_number_27 : decode cX9_number 27 = .ok (.invokevirtual 77, 3) ∧ 27 + 3 = 30 := ⟨by decide +kernel, rfl⟩
theorem dX9_number_30 : decode cX9_number 30 = .ok (.if_icmp .le 6, 3) ∧ 30 + 3 = 33 ∧ ((30 : Nat) : Int) + (6) = ((36 : Nat) : Int) := ⟨by decide +kernel, rfl, rfl⟩
theorem dX9_number_33 : decode cX9_number 33 = .ok (.bipush (-6), 2) ∧ 33 + 2 = 35 := ⟨by decide +kernel, rfl⟩
theorem dX9_number_35 : decode cX9_number 35 = .ok (.ireturn, 1) ∧ 35 + 1 = 36 := ⟨by decide +kernel, rfl⟩
theorem dX9_number_36 : decode cX9_number 36 = .ok (.aload_n 0, 1) ∧ 36 + 1 = 37 := ⟨by decide +kernel, rfl⟩
theorem dX9_number_37 : decode cX9_number 37 = .ok (.iload_n 3, 1) ∧ 37 + 1 = 38 := ⟨by decide +kernel, rfl⟩
theorem dX9_number_38 : decode cX9_number 38 = .ok (.iconst 1, 1) ∧ 38 + 1 = 39 := ⟨by decide +kernel, rfl⟩
theorem dX9_number_39 : decode cX9_number 39 = .ok (.invokevirtual 77, 3) ∧ 39 + 3 = 42 := ⟨by decide +kernel, rfl⟩
theorem dX9_number_42 : decode cX9_number 42 = .ok (.iload_n 2, 1) ∧ 42 + 1 = 43 := ⟨by decide +kernel, rfl⟩
theorem dX9_number_43 : decode cX9_number 43 = .ok (.if_icmp .le 12, 3) ∧ 43 + 3 = 46 ∧ ((43 : Nat) : Int) + (12) = ((55 : Nat) : Int) := ⟨by decide +kernel, rfl, rfl⟩
theorem dX9_number_46 : decode cX9_number 46 = .ok (.aload_n 0, 1) ∧ 46 + 1 = 47 := ⟨by decide +kernel, rfl⟩
theorem dX9_number_47 : decode cX9_number 47 = .ok (.iload_n 3, 1) ∧ 47 + 1 = 48 := ⟨by decide +kernel, rfl⟩
theorem dX9_number_48 : decode cX9_number 48 = .ok (.invokevirtual 84, 3) ∧ 48 + 3 = 51 := ⟨by decide +kernel, rfl⟩
theorem dX9_number_51 : decode cX9_number 51 = .ok (.istore_n 3, 1) ∧ 51 + 1 = 52 := ⟨by decide +kernel, rfl⟩
theorem dX9_number_52 : decode cX9_number 52 = .ok (.goto (-16), 3) ∧ 52 + 3 = 55 ∧ ((52 : Nat) : Int) + (-16) = ((36 : Nat) : Int) := ⟨by decide +kernel, rfl, rfl⟩
theorem dX9_number_55 : decode cX9_number 55 = .ok (.aload_n 0, 1) ∧ 55 + 1 = 56 := ⟨by decide +kernel, rfl⟩
theorem dX9_number_56 : decode cX9_number 56 = .ok (.aload_n 0, 1) ∧ 56 + 1 = 57 := ⟨by decide +kernel, rfl⟩
theorem dX9_number_57 : decode cX9_number 57 = .ok (.iload_n 3, 1) ∧ 57 + 1 = 58 := ⟨by decide +kernel, rfl⟩
theorem dX9_number_58 : decode cX9_number 58 = .ok (.invokevirtual 142, 3) ∧ 58 + 3 = 61 := ⟨by decide +kernel, rfl⟩
theorem dX9_number_61 : decode cX9_number 61 = .ok (.aload_n 0, 1) ∧ 61 + 1 = 62 := ⟨by decide +kernel, rfl⟩
theorem dX9_number_62 : decode cX9_number 62 = .ok (.iload_n 3, 1) ∧ 62 + 1 = 63 := ⟨by decide +kernel, rfl⟩
theorem dX9_number_63 : decode cX9_number 63 = .ok (.iconst 0, 1) ∧ 63 + 1 = 64 := ⟨by decide +kernel, rfl⟩
theorem dX9_number_64 : decode cX9_number 64 = .ok (.invokevirtual 77, 3) ∧ 64 + 3 = 67 := ⟨by decide +kernel, rfl⟩
theorem dX9_number_67 : decode cX9_number 67 = .ok (.invokevirtual 132, 3) ∧ 67 + 3 = 70 := ⟨by decide +kernel, rfl⟩
theorem dX9_number_70 : decode cX9_number 70 = .ok (.iconst 1, 1) ∧ 70 + 1 = 71 := ⟨by decide +kernel, rfl⟩
theorem dX9_number_71 : decode cX9_number 71 = .ok (.iadd, 1) ∧ 71 + 1 = 72 := ⟨by decide +kernel, rfl⟩
theorem dX9_number_72 : decode cX9_number 72 = .ok (.ireturn, 1) ∧ 72 + 1 = 73 := ⟨by decide +kernel, rfl⟩
theorem dX9_charAt_0 : decode cX9_charAt 0 = .ok (.aload_n 0, 1) ∧ 0 + 1 = 1 := ⟨by decide +kernel, rfl⟩
theorem dX9_charAt_1 : decode cX9_charAt 1 = .ok (.iload_n 1, 1) ∧ 1 + 1 = 2 := ⟨by decide +kernel, rfl⟩
theorem dX9_charAt_2 : decode cX9_charAt 2 = .ok (.invokevirtual 88, 3) ∧ 2 + 3 = 5 := ⟨by decide +kernel, rfl⟩
theorem dX9_charAt_5 : decode cX9_charAt 5 = .ok (.istore_n 3, 1) ∧ 5 + 1 = 6 := ⟨by decide +kernel, rfl⟩
theorem dX9_charAt_6 : decode cX9_charAt 6 = .ok (.iload_n 3, 1) ∧ 6 + 1 = 7 := ⟨by decide +kernel, rfl⟩
theorem dX9_charAt_7 : decode cX9_charAt 7 = .ok (.bipush (-6), 2) ∧ 7 + 2 = 9 := ⟨by decide +kernel, rfl⟩
theorem dX9_charAt_9 : decode cX9_charAt 9 = .ok (.if_icmp .ne 6, 3) ∧ 9 + 3 = 12 ∧ ((9 : Nat) : Int) + (6) = ((15 : Nat) : Int) := ⟨by decide +kernel, rfl, rfl⟩
theorem dX9_charAt_12 : decode cX9_charAt 12 = .ok (.bipush (-2), 2) ∧ 12 + 2 = 14 := ⟨by decide +kernel, rfl⟩
theorem dX9_charAt_14 : decode cX9_charAt 14 = .ok (.ireturn, 1) ∧ 14 + 1 = 15 := ⟨by decide +kernel, rfl⟩
theorem dX9_charAt_15 : decode cX9_charAt 15 = .ok (.iload_n 2, 1) ∧ 15 + 1 = 16 := ⟨by decide +kernel, rfl⟩
theorem dX9_charAt_16 : decode cX9_charAt 16 = .ok (.ifCond .ge 6, 3) ∧ 16 + 3 = 19 ∧ ((16 : Nat) : Int) + (6) = ((22 : Nat) : Int) := ⟨by decide +kernel, rfl, rfl⟩
theorem dX9_charAt_19 : decode cX9_charAt 19 = .ok (.bipush (-3), 2) ∧ 19 + 2 = 21 := ⟨by decide +kernel, rfl⟩
theorem dX9_charAt_21 : decode cX9_charAt 21 = .ok (.ireturn, 1) ∧ 21 + 1 = 22 := ⟨by decide +kernel, rfl⟩
theorem dX9_charAt_22 : decode cX9_charAt 22 = .ok (.aload_n 0, 1) ∧ 22 + 1 = 23 := ⟨by decide +kernel, rfl⟩
theorem dX9_charAt_23 : decode cX9_charAt 23 = .ok (.iload_n 3, 1) ∧ 23 + 1 = 24 := ⟨by decide +kernel, rfl⟩
theorem dX9_charAt_24 : decode cX9_charAt 24 = .ok (.iconst 0, 1) ∧ 24 + 1 = 25 := ⟨by decide +kernel, rfl⟩
theorem dX9_charAt_25 : decode cX9_charAt 25 = .ok (.invokevirtual 77, 3) ∧ 25 + 3 = 28 := ⟨by decide +kernel, rfl⟩
theorem dX9_charAt_28 : decode cX9_charAt 28 = .ok (.istore 4, 2) ∧ 28 + 2 = 30 := ⟨by decide +kernel, rfl⟩
theorem dX9_charAt_30 : decode cX9_charAt 30 = .ok (.iload_n 2, 1) ∧ 30 + 1 = 31 := ⟨by decide +kernel, rfl⟩
theorem dX9_charAt_31 : decode cX9_charAt 31 = .ok (.aload_n 0, 1) ∧ 31 + 1 = 32 := ⟨by decide +kernel, rfl⟩
theorem dX9_charAt_32 : decode cX9_charAt 32 = .ok (.iload 4, 2) ∧ 32 + 2 = 34 := ⟨by decide +kernel, rfl⟩
theorem dX9_charAt_34 : decode cX9_charAt 34 = .ok (.iconst 1, 1) ∧ 34 + 1 = 35 := ⟨by decide +kernel, rfl⟩
theorem dX9_charAt_35 : decode cX9_charAt 35 = .ok (.invokevirtual 64, 3) ∧ 35 + 3 = 38 := ⟨by decide +kernel, rfl⟩
theorem dX9_charAt_38 : decode cX9_charAt 38 = .ok (.if_icmp .ge 15, 3) ∧ 38 + 3 = 41 ∧ ((38 : Nat) : Int) + (15) = ((53 : Nat) : Int) := ⟨by decide +kernel, rfl, rfl⟩
theorem dX9_charAt_41 : decode cX9_charAt 41 = .ok (.aload_n 0, 1) ∧ 41 + 1 = 42 := ⟨by decide +kernel, rfl⟩
theorem dX9_charAt_42 : decode cX9_charAt 42 = .ok (.iload 4, 2) ∧ 42 + 2 = 44 := ⟨by decide +kernel, rfl⟩
theorem dX9_charAt_44 : decode cX9_charAt 44 = .ok (.iconst 2, 1) ∧ 44 + 1 = 45 := ⟨by decide +kernel, rfl⟩
theorem dX9_charAt_45 : decode cX9_charAt 45 = .ok (.iload_n 2, 1) ∧ 45 + 1 = 46 := ⟨by decide +kernel, rfl⟩
theorem dX9_charAt_46 : decode cX9_charAt 46 = .ok (.iadd, 1) ∧ 46 + 1 = 47 := ⟨by decide +kernel, rfl⟩
theorem dX9_charAt_47 : decode cX9_charAt 47 = .ok (.invokevirtual 64, 3) ∧ 47 + 3 = 50 := ⟨by decide +kernel, rfl⟩
theorem dX9_charAt_50 : decode cX9_charAt 50 = .ok (.goto 5, 3) ∧ 50 + 3 = 53 ∧ ((50 : Nat) : Int) + (5) = ((55 : Nat) : Int) := ⟨by decide +kernel, rfl, rfl⟩
theorem dX9_charAt_53 : decode cX9_charAt 53 = .ok (.bipush (-6), 2) ∧ 53 + 2 = 55 := ⟨by decide +kernel, rfl⟩
theorem dX9_charAt_55 : decode cX9_charAt 55 = .ok (.ireturn, 1) ∧ 55 + 1 = 56 := ⟨by decide +kernel, rfl⟩
theorem dX9_parents_0 : decode cX9_parents 0 = .ok (.iconst 0, 1) ∧ 0 + 1 = 1 := ⟨by decide +kernel, rfl⟩
theorem dX9_parents_1 : decode cX9_parents 1 = .ok (.istore_n 2, 1) ∧ 1 + 1 = 2 := ⟨by decide +kernel, rfl⟩
theorem dX9_parents_2 : decode cX9_parents 2 = .ok (.iconst 0, 1) ∧ 2 + 1 = 3 := ⟨by decide +kernel, rfl⟩
theorem dX9_parents_3 : decode cX9_parents 3 = .ok (.istore_n 3, 1) ∧ 3 + 1 = 4 := ⟨by decide +kernel, rfl⟩
theorem dX9_parents_4 : decode cX9_parents 4 = .ok (.iload_n 3, 1) ∧ 4 + 1 = 5 := ⟨by decide +kernel, rfl⟩
theorem dX9_parents_5 : decode cX9_parents 5 = .ok (.aload_n 0, 1) ∧ 5 + 1 = 6 := ⟨by decide +kernel, rfl⟩
theorem dX9_parents_6 : decode cX9_parents 6 = .ok (.getfield 7, 3) ∧ 6 + 3 = 9 := ⟨by decide +kernel, rfl⟩
theorem dX9_parents_9 : decode cX9_parents 9 = .ok (.iconst 0, 1) ∧ 9 + 1 = 10 := ⟨by decide +kernel, rfl⟩
theorem dX9_parents_10 : decode cX9_parents 10 = .ok (.iaload, 1) ∧ 10 + 1 = 11 := ⟨by decide +kernel, rfl⟩
theorem dX9_parents_11 : decode cX9_parents 11 = .ok (.if_icmp .gt 38, 3) ∧ 11 + 3 = 14 ∧ ((11 : Nat) : Int) + (38) = ((49 : Nat) : Int) := ⟨by decide +kernel, rfl, rfl⟩
theorem dX9_parents_14 : decode cX9_parents 14 = .ok (.iload_n 2, 1) ∧ 14 + 1 = 15 := ⟨by decide +kernel, rfl⟩
theorem dX9_parents_15 : decode cX9_parents 15 = .ok (.aload_n 0, 1) ∧ 15 + 1 = 16 := ⟨by decide +kernel, rfl⟩
theorem dX9_parents_16 : decode cX9_parents 16 = .ok (.iload_n 3, 1) ∧ 16 + 1 = 17 := ⟨by decide +kernel, rfl⟩
theorem dX9_parents_17 : decode cX9_parents 17 = .ok (.iconst 0, 1) ∧ 17 + 1 = 18 := ⟨by decide +kernel, rfl⟩
theorem dX9_parents_18 : decode cX9_parents 18 = .ok (.invokevirtual 64, 3) ∧ 18 + 3 = 21 := ⟨by decide +kernel, rfl⟩
theorem dX9_parents_21 : decode cX9_parents 21 = .ok (.iconst 1, 1) ∧ 21 + 1 = 22 := ⟨by decide +kernel, rfl⟩
theorem dX9_parents_22 : decode cX9_parents 22 = .ok (.if_icmp .ne 18, 3) ∧ 22 + 3 = 25 ∧ ((22 : Nat) : Int) + (18) = ((40 : Nat) : Int) := ⟨by decide +kernel, rfl, rfl⟩
theorem dX9_parents_25 : decode cX9_parents 25 = .ok (.aload_n 0, 1) ∧ 25 + 1 = 26 := ⟨by decide +kernel, rfl⟩
theorem dX9_parents_26 : decode cX9_parents 26 = .ok (.iload_n 3, 1) ∧ 26 + 1 = 27 := ⟨by decide +kernel, rfl⟩
theorem dX9_parents_27 : decode cX9_parents 27 = .ok (.iload_n 1, 1) ∧ 27 + 1 = 28 := ⟨by decide +kernel, rfl⟩
theorem dX9_parents_28 : decode cX9_parents 28 = .ok (.invokevirtual 132, 3) ∧ 28 + 3 = 31 := ⟨by decide +kernel, rfl⟩
theorem dX9_parents_31 : decode cX9_parents 31 = .ok (.bipush (-6), 2) ∧ 31 + 2 = 33 := ⟨by decide +kernel, rfl⟩
theorem dX9_parents_33 : decode cX9_parents 33 = .ok (.if_icmp .eq 7, 3) ∧ 33 + 3 = 36 ∧ ((33 : Nat) : Int) + (7) = ((40 : Nat) : Int) := ⟨by decide +kernel, rfl, rfl⟩
theorem dX9_parents_36 : decode cX9_parents 36 = .ok (.iconst 1, 1) ∧ 36 + 1 = 37 := ⟨by decide +kernel, rfl⟩
theorem dX9_parents_37 : decode cX9_parents 37 = .ok (.goto 4, 3) ∧ 37 + 3 = 40 ∧ ((37 : Nat) : Int) + (4) = ((41 : Nat) : Int) := ⟨by decide +kernel, rfl, rfl⟩
theorem dX9_parents_40 : decode cX9_parents 40 = .ok (.iconst 0, 1) ∧ 40 + 1 = 41 := ⟨by decide +kernel, rfl⟩
theorem dX9_parents_41 : decode cX9_parents 41 = .ok (.iadd, 1) ∧ 41 + 1 = 42 := ⟨by decide +kernel, rfl⟩
theorem dX9_parents_42 : decode cX9_parents 42 = .ok (.istore_n 2, 1) ∧ 42 + 1 = 43 := ⟨by decide +kernel, rfl⟩
theorem dX9_parents_43 : decode cX9_parents 43 = .ok (.iinc 3 1, 3) ∧ 43 + 3 = 46 := ⟨by decide +kernel, rfl⟩
theorem dX9_parents_46 : decode cX9_parents 46 = .ok (.goto (-42), 3) ∧ 46 + 3 = 49 ∧ ((46 : Nat) : Int) + (-42) = ((4 : Nat) : Int) := ⟨by decide +kernel, rfl, rfl⟩
theorem dX9_parents_49 : decode cX9_parents 49 = .ok (.iload_n 2, 1) ∧ 49 + 1 = 50 := ⟨by decide +kernel, rfl⟩
theorem dX9_parents_50 : decode cX9_parents 50 = .ok (.ireturn, 1) ∧ 50 + 1 = 51 := ⟨by decide +kernel, rfl⟩
theorem dX9_seenPlaces_0 : decode cX9_seenPlaces 0 = .ok (.iconst 0, 1) ∧ 0 + 1 = 1 := ⟨by decide +kernel, rfl⟩
theorem dX9_seenPlaces_1 : decode cX9_seenPlaces 1 = .ok (.istore_n 2, 1) ∧ 1 + 1 = 2 := ⟨by decide +kernel, rfl⟩
theorem dX9_seenPlaces_2 : decode cX9_seenPlaces 2 = .ok (.iconst 0, 1) ∧ 2 + 1 = 3 := ⟨by decide +kernel, rfl⟩
theorem dX9_seenPlaces_3 : decode cX9_seenPlaces 3 = .ok (.istore_n 3, 1) ∧ 3 + 1 = 4 := ⟨by decide +kernel, rfl⟩
theorem dX9_seenPlaces_4 : decode cX9_seenPlaces 4 = .ok (.iload_n 3, 1) ∧ 4 + 1 = 5 := ⟨by decide +kernel, rfl⟩
theorem dX9_seenPlaces_5 : decode cX9_seenPlaces 5 = .ok (.aload_n 0, 1) ∧ 5 + 1 = 6 := ⟨by decide +kernel, rfl⟩
theorem dX9_seenPlaces_6 : decode cX9_seenPlaces 6 = .ok (.getfield 7, 3) ∧ 6 + 3 = 9 := ⟨by decide +kernel, rfl⟩
theorem dX9_seenPlaces_9 : decode cX9_seenPlaces 9 = .ok (.iconst 1, 1) ∧ 9 + 1 = 10 := ⟨by decide +kernel, rfl⟩
theorem dX9_seenPlaces_10 : decode cX9_seenPlaces 10 = .ok (.iaload, 1) ∧ 10 + 1 = 11 := ⟨by decide +kernel, rfl⟩
theorem dX9_seenPlaces_11 : decode cX9_seenPlaces 11 = .ok (.if_icmp .ge 35, 3) ∧ 11 + 3 = 14 ∧ ((11 : Nat) : Int) + (35) = ((46 : Nat) : Int) := ⟨by decide +kernel, rfl, rfl⟩
theorem dX9_seenPlaces_14 : decode cX9_seenPlaces 14 = .ok (.iload_n 2, 1) ∧ 14 + 1 = 15 := ⟨by decide +kernel, rfl⟩
theorem dX9_seenPlaces_15 : decode cX9_seenPlaces 15 = .ok (.aload_n 0, 1) ∧ 15 + 1 = 16 := ⟨by decide +kernel, rfl⟩
theorem dX9_seenPlaces_16 : decode cX9_seenPlaces 16 = .ok (.iload_n 3, 1) ∧ 16 + 1 = 17 := ⟨by decide +kernel, rfl⟩
theorem dX9_seenPlaces_17 : decode cX9_seenPlaces 17 = .ok (.iconst 0, 1) ∧ 17 + 1 = 18 := ⟨by decide +kernel, rfl⟩
theorem dX9_seenPlaces_18 : decode cX9_seenPlaces 18 = .ok (.invokevirtual 77, 3) ∧ 18 + 3 = 21 := ⟨by decide +kernel, rfl⟩
theorem dX9_seenPlaces_21 : decode cX9_seenPlaces 21 = .ok (.iload_n 1, 1) ∧ 21 + 1 = 22 := ⟨by decide +kernel, rfl⟩
theorem dX9_seenPlaces_22 : decode cX9_seenPlaces 22 = .ok (.if_icmp .ne 15, 3) ∧ 22 + 3 = 25 ∧ ((22 : Nat) : Int) + (15) = ((37 : Nat) : Int) := ⟨by decide +kernel, rfl, rfl⟩
theorem dX9_seenPlaces_25 : decode cX9_seenPlaces 25 = .ok (.aload_n 0, 1) ∧ 25 + 1 = 26 := ⟨by decide +kernel, rfl⟩
theorem dX9_seenPlaces_26 : decode cX9_seenPlaces 26 = .ok (.iload_n 3, 1) ∧ 26 + 1 = 27 := ⟨by decide +kernel, rfl⟩
theorem dX9_seenPlaces_27 : decode cX9_seenPlaces 27 = .ok (.invokevirtual 80, 3) ∧ 27 + 3 = 30 := ⟨by decide +kernel, rfl⟩
theorem dX9_seenPlaces_30 : decode cX9_seenPlaces 30 = .ok (.ifCond .eq 7, 3) ∧ 30 + 3 = 33 ∧ ((30 : Nat) : Int) + (7) = ((37 : Nat) : Int) := ⟨by decide +kernel, rfl, rfl⟩
theorem dX9_seenPlaces_33 : decode cX9_seenPlaces 33 = .ok (.iconst 1, 1) ∧ 33 + 1 = 34 := ⟨by decide +kernel, rfl⟩
theorem dX9_seenPlaces_34 : decode cX9_seenPlaces 34 = .ok (.goto 4, 3) ∧ 34 + 3 = 37 ∧ ((34 : Nat) : Int) + (4) = ((38 : Nat) : Int) := ⟨by decide +kernel, rfl, rfl⟩
theorem dX9_seenPlaces_37 : decode cX9_seenPlaces 37 = .ok (.iconst 0, 1) ∧ 37 + 1 = 38 := ⟨by decide +kernel, rfl⟩
theorem dX9_seenPlaces_38 : decode cX9_seenPlaces 38 = .ok (.iadd, 1) ∧ 38 + 1 = 39 := ⟨by decide +kernel, rfl⟩
theorem dX9_seenPlaces_39 : decode cX9_seenPlaces 39 = .ok (.istore_n 2, 1) ∧ 39 + 1 = 40 := ⟨by decide +kernel, rfl⟩
theorem dX9_seenPlaces_40 : decode cX9_seenPlaces 40 = .ok (.iinc 3 1, 3) ∧ 40 + 3 = 43 := ⟨by decide +kernel, rfl⟩
theorem dX9_seenPlaces_43 : decode cX9_seenPlaces 43 = .ok (.goto (-39), 3) ∧ 43 + 3 = 46 ∧ ((43 : Nat) : Int) + (-39) = ((4 : Nat) : Int) := ⟨by decide +kernel, rfl, rfl⟩
theorem dX9_seenPlaces_46 : decode cX9_seenPlaces 46 = .ok (.iload_n 2, 1) ∧ 46 + 1 = 47 := ⟨by decide +kernel, rfl⟩
theorem dX9_seenPlaces_47 : decode cX9_seenPlaces 47 = .ok (.ireturn, 1) ∧ 47 + 1 = 48 := ⟨by decide +kernel, rfl⟩
theorem dX9_firstRow_0 : decode cX9_firstRow 0 = .ok (.iconst 0, 1) ∧ 0 + 1 = 1 := ⟨by decide +kernel, rfl⟩
theorem dX9_firstRow_1 : decode cX9_firstRow 1 = .ok (.istore_n 2, 1) ∧ 1 + 1 = 2 := ⟨by decide +kernel, rfl⟩
theorem dX9_firstRow_2 : decode cX9_firstRow 2 = .ok (.iload_n 2, 1) ∧ 2 + 1 = 3 := ⟨by decide +kernel, rfl⟩
theorem dX9_firstRow_3 : decode cX9_firstRow 3 = .ok (.aload_n 0, 1) ∧ 3 + 1 = 4 := ⟨by decide +kernel, rfl⟩
theorem dX9_firstRow_4 : decode cX9_firstRow 4 = .ok (.getfield 7, 3) ∧ 4 + 3 = 7 := ⟨by decide +kernel, rfl⟩
theorem dX9_firstRow_7 : decode cX9_firstRow 7 = .ok (.iconst 1, 1) ∧ 7 + 1 = 8 := ⟨by decide +kernel, rfl⟩
theorem dX9_firstRow_8 : decode cX9_firstRow 8 = .ok (.iaload, 1) ∧ 8 + 1 = 9 := ⟨by decide +kernel, rfl⟩
theorem dX9_firstRow_9 : decode cX9_firstRow 9 = .ok (.if_icmp .ge 33, 3) ∧ 9 + 3 = 12 ∧ ((9 : Nat) : Int) + (33) = ((42 : Nat) : Int) := ⟨by decide +kernel, rfl, rfl⟩
theorem dX9_firstRow_12 : decode cX9_firstRow 12 = .ok (.aload_n 0, 1) ∧ 12 + 1 = 13 := ⟨by decide +kernel, rfl⟩
theorem dX9_firstRow_13 : decode cX9_firstRow 13 = .ok (.iload_n 2, 1) ∧ 13 + 1 = 14 := ⟨by decide +kernel, rfl⟩
theorem dX9_firstRow_14 : decode cX9_firstRow 14 = .ok (.iconst 0, 1) ∧ 14 + 1 = 15 := ⟨by decide +kernel, rfl⟩
theorem dX9_firstRow_15 : decode cX9_firstRow 15 = .ok (.invokevirtual 77, 3) ∧ 15 + 3 = 18 := ⟨by decide +kernel, rfl⟩
theorem dX9_firstRow_18 : decode cX9_firstRow 18 = .ok (.iload_n 1, 1) ∧ 18 + 1 = 19 := ⟨by decide +kernel, rfl⟩
theorem dX9_firstRow_19 : decode cX9_firstRow 19 = .ok (.if_icmp .ne 17, 3) ∧ 19 + 3 = 22 ∧ ((19 : Nat) : Int) + (17) = ((36 : Nat) : Int) := ⟨by decide +kernel, rfl, rfl⟩
theorem dX9_firstRow_22 : decode cX9_firstRow 22 = .ok (.aload_n 0, 1) ∧ 22 + 1 = 23 := ⟨by decide +kernel, rfl⟩
theorem dX9_firstRow_23 : decode cX9_firstRow 23 = .ok (.iload_n 2, 1) ∧ 23 + 1 = 24 := ⟨by decide +kernel, rfl⟩
theorem dX9_firstRow_24 : decode cX9_firstRow 24 = .ok (.invokevirtual 80, 3) ∧ 24 + 3 = 27 := ⟨by decide +kernel, rfl⟩
theorem dX9_firstRow_27 : decode cX9_firstRow 27 = .ok (.ifCond .eq 9, 3) ∧ 27 + 3 = 30 ∧ ((27 : Nat) : Int) + (9) = ((36 : Nat) : Int) := ⟨by decide +kernel, rfl, rfl⟩
theorem dX9_firstRow_30 : decode cX9_firstRow 30 = .ok (.aload_n 0, 1) ∧ 30 + 1 = 31 := ⟨by decide +kernel, rfl⟩
theorem dX9_firstRow_31 : decode cX9_firstRow 31 = .ok (.iload_n 2, 1) ∧ 31 + 1 = 32 := ⟨by decide +kernel, rfl⟩
theorem dX9_firstRow_32 : decode cX9_firstRow 32 = .ok (.invokevirtual 164, 3) ∧ 32 + 3 = 35 := ⟨by decide +kernel, rfl⟩
theorem dX9_firstRow_35 : decode cX9_firstRow 35 = .ok (.ireturn, 1) ∧ 35 + 1 = 36 := ⟨by decide +kernel, rfl⟩
theorem dX9_firstRow_36 : decode cX9_firstRow 36 = .ok (.iinc 2 1, 3) ∧ 36 + 3 = 39 := ⟨by decide +kernel, rfl⟩
theorem dX9_firstRow_39 : decode cX9_firstRow 39 = .ok (.goto (-37), 3) ∧ 39 + 3 = 42 ∧ ((39 : Nat) : Int) + (-37) = ((2 : Nat) : Int) := ⟨by decide +kernel, rfl, rfl⟩
theorem dX9_firstRow_42 : decode cX9_firstRow 42 = .ok (.bipush (-6), 2) ∧ 42 + 2 = 44 := ⟨by decide +kernel, rfl⟩
theorem dX9_firstRow_44 : decode cX9_firstRow 44 = .ok (.ireturn, 1) ∧ 44 + 1 = 45 := ⟨by decide +kernel, rfl⟩
theorem dX9_node_0 : decode cX9_node 0 = .ok (.aload_n 0, 1) ∧ 0 + 1 = 1 := ⟨by decide +kernel, rfl⟩
theorem dX9_node_1 : decode cX9_node 1 = .ok (.iload_n 1, 1) ∧ 1 + 1 = 2 := ⟨by decide +kernel, rfl⟩
theorem dX9_node_2 : decode cX9_node 2 = .ok (.invokevirtual 158, 3) ∧ 2 + 3 = 5 := ⟨by decide +kernel, rfl⟩
theorem dX9_node_5 : decode cX9_node 5 = .ok (.ifCond .ne 6, 3) ∧ 5 + 3 = 8 ∧ ((5 : Nat) : Int) + (6) = ((11 : Nat) : Int) := ⟨by decide +kernel, rfl, rfl⟩
theorem dX9_node_8 : decode cX9_node 8 = .ok (.bipush (-2), 2) ∧ 8 + 2 = 10 := ⟨by decide +kernel, rfl⟩
theorem dX9_node_10 : decode cX9_node 10 = .ok (.ireturn, 1) ∧ 10 + 1 = 11 := ⟨by decide +kernel, rfl⟩
theorem dX9_node_11 : decode cX9_node 11 = .ok (.iload_n 2, 1) ∧ 11 + 1 = 12 := ⟨by decide +kernel, rfl⟩
theorem dX9_node_12 : decode cX9_node 12 = .ok (.tableswitch 103 0 7 #[48, 54, 60, 66, 74, 82, 88, 95], 48) ∧ 12 + 48 = 60 := ⟨by decide +kernel, rfl⟩
theorem dX9_node_60 : decode cX9_node 60 = .ok (.aload_n 0, 1) ∧ 60 + 1 = 61 := ⟨by decide +kernel, rfl⟩
theorem dX9_node_61 : decode cX9_node 61 = .ok (.iload_n 1, 1) ∧ 61 + 1 = 62 := ⟨by decide +kernel, rfl⟩
theorem dX9_node_62 : decode cX9_node 62 = .ok (.invokevirtual 186, 3) ∧ 62 + 3 = 65 := ⟨by decide +kernel, rfl⟩
theorem dX9_node_65 : decode cX9_node 65 = .ok (.ireturn, 1) ∧ 65 + 1 = 66 := ⟨by decide +kernel, rfl⟩
theorem dX9_node_66 : decode cX9_node 66 = .ok (.aload_n 0, 1) ∧ 66 + 1 = 67 := ⟨by decide +kernel, rfl⟩
theorem dX9_node_67 : decode cX9_node 67 = .ok (.iload_n 1, 1) ∧ 67 + 1 = 68 := ⟨by decide +kernel, rfl⟩
theorem dX9_node_68 : decode cX9_node 68 = .ok (.invokevirtual 139, 3) ∧ 68 + 3 = 71 := ⟨by decide +kernel, rfl⟩
theorem dX9_node_71 : decode cX9_node 71 = .ok (.ireturn, 1) ∧ 71 + 1 = 72 := ⟨by decide +kernel, rfl⟩
theorem dX9_node_72 : decode cX9_node 72 = .ok (.aload_n 0, 1) ∧ 72 + 1 = 73 := ⟨by decide +kernel, rfl⟩
theorem dX9_node_73 : decode cX9_node 73 = .ok (.iload_n 1, 1) ∧ 73 + 1 = 74 := ⟨by decide +kernel, rfl⟩
theorem dX9_node_74 : decode cX9_node 74 = .ok (.invokevirtual 189, 3) ∧ 74 + 3 = 77 := ⟨by decide +kernel, rfl⟩
theorem dX9_node_77 : decode cX9_node 77 = .ok (.ireturn, 1) ∧ 77 + 1 = 78 := ⟨by decide +kernel, rfl⟩
theorem dX9_node_78 : decode cX9_node 78 = .ok (.aload_n 0, 1) ∧ 78 + 1 = 79 := ⟨by decide +kernel, rfl⟩
theorem dX9_node_79 : decode cX9_node 79 = .ok (.iload_n 1, 1) ∧ 79 + 1 = 80 := ⟨by decide +kernel, rfl⟩
theorem dX9_node_80 : decode cX9_node 80 = .ok (.bipush 11, 2) ∧ 80 + 2 = 82 := ⟨by decide +kernel, rfl⟩
theorem dX9_node_82 : decode cX9_node 82 = .ok (.invokevirtual 64, 3) ∧ 82 + 3 = 85 := ⟨by decide +kernel, rfl⟩
theorem dX9_node_85 : decode cX9_node 85 = .ok (.ireturn, 1) ∧ 85 + 1 = 86 := ⟨by decide +kernel, rfl⟩
theorem dX9_node_86 : decode cX9_node 86 = .ok (.aload_n 0, 1) ∧ 86 + 1 = 87 := ⟨by decide +kernel, rfl⟩
theorem dX9_node_87 : decode cX9_node 87 = .ok (.iload_n 1, 1) ∧ 87 + 1 = 88 := ⟨by decide +kernel, rfl⟩
theorem dX9_node_88 : decode cX9_node 88 = .ok (.bipush 10, 2) ∧ 88 + 2 = 90 := ⟨by decide +kernel, rfl⟩
theorem dX9_node_90 : decode cX9_node 90 = .ok (.invokevirtual 64, 3) ∧ 90 + 3 = 93 := ⟨by decide +kernel, rfl⟩
theorem dX9_node_93 : decode cX9_node 93 = .ok (.ireturn, 1) ∧ 93 + 1 = 94 := ⟨by decide +kernel, rfl⟩
theorem dX9_node_94 : decode cX9_node 94 = .ok (.aload_n 0, 1) ∧ 94 + 1 = 95 := ⟨by decide +kernel, rfl⟩
theorem dX9_node_95 : decode cX9_node 95 = .ok (.iload_n 1, 1) ∧ 95 + 1 = 96 := ⟨by decide +kernel, rfl⟩
theorem dX9_node_96 : decode cX9_node 96 = .ok (.invokevirtual 192, 3) ∧ 96 + 3 = 99 := ⟨by decide +kernel, rfl⟩
theorem dX9_node_99 : decode cX9_node 99 = .ok (.ireturn, 1) ∧ 99 + 1 = 100 := ⟨by decide +kernel, rfl⟩
theorem dX9_node_100 : decode cX9_node 100 = .ok (.aload_n 0, 1) ∧ 100 + 1 = 101 := ⟨by decide +kernel, rfl⟩
theorem dX9_node_101 : decode cX9_node 101 = .ok (.iload_n 1, 1) ∧ 101 + 1 = 102 := ⟨by decide +kernel, rfl⟩
theorem dX9_node_102 : decode cX9_node 102 = .ok (.iconst 1, 1) ∧ 102 + 1 = 103 := ⟨by decide +kernel, rfl⟩
theorem dX9_node_103 : decode cX9_node 103 = .ok (.invokevirtual 64, 3) ∧ 103 + 3 = 106 := ⟨by decide +kernel, rfl⟩
theorem dX9_node_106 : decode cX9_node 106 = .ok (.ireturn, 1) ∧ 106 + 1 = 107 := ⟨by decide +kernel, rfl⟩
theorem dX9_node_107 : decode cX9_node 107 = .ok (.aload_n 0, 1) ∧ 107 + 1 = 108 := ⟨by decide +kernel, rfl⟩
theorem dX9_node_108 : decode cX9_node 108 = .ok (.iload_n 1, 1) ∧ 108 + 1 = 109 := ⟨by decide +kernel, rfl⟩
theorem dX9_node_109 : decode cX9_node 109 = .ok (.invokevirtual 129, 3) ∧ 109 + 3 = 112 := ⟨by decide +kernel, rfl⟩
theorem dX9_node_112 : decode cX9_node 112 = .ok (.iconst 1, 1) ∧ 112 + 1 = 113 := ⟨by decide +kernel, rfl⟩
theorem dX9_node_113 : decode cX9_node 113 = .ok (.isub, 1) ∧ 113 + 1 = 114 := ⟨by decide +kernel, rfl⟩
theorem dX9_node_114 : decode cX9_node 114 = .ok (.ireturn, 1) ∧ 114 + 1 = 115 := ⟨by decide +kernel, rfl⟩
theorem dX9_node_115 : decode cX9_node 115 = .ok (.bipush (-3), 2) ∧ 115 + 2 = 117 := ⟨by decide +kernel, rfl⟩
theorem dX9_node_117 : decode cX9_node 117 = .ok (.ireturn, 1) ∧ 117 + 1 = 118 := ⟨by decide +kernel, rfl⟩
theorem dX9_nextMarked_0 : decode cX9_nextMarked 0 = .ok (.aload_n 0, 1) ∧ 0 + 1 = 1 := ⟨by decide +kernel, rfl⟩
theorem dX9_nextMarked_1 : decode cX9_nextMarked 1 = .ok (.iload_n 1, 1) ∧ 1 + 1 = 2 := ⟨by decide +kernel, rfl⟩
theorem dX9_nextMarked_2 : decode cX9_nextMarked 2 = .ok (.invokevirtual 98, 3) ∧ 2 + 3 = 5 := ⟨by decide +kernel, rfl⟩
theorem dX9_nextMarked_5 : decode cX9_nextMarked 5 = .ok (.bipush (-6), 2) ∧ 5 + 2 = 7 := ⟨by decide +kernel, rfl⟩
theorem dX9_nextMarked_7 : decode cX9_nextMarked 7 = .ok (.if_icmp .ne 6, 3) ∧ 7 + 3 = 10 ∧ ((7 : Nat) : Int) + (6) = ((13 : Nat) : Int) := ⟨by decide +kernel, rfl, rfl⟩
theorem dX9_nextMarked_10 : decode cX9_nextMarked 10 = .ok (.bipush (-2), 2) ∧ 10 + 2 = 12 := ⟨by decide +kernel, rfl⟩
theorem dX9_nextMarked_12 : decode cX9_nextMarked 12 = .ok (.ireturn, 1) ∧ 12 + 1 = 13 := ⟨by decide +kernel, rfl⟩
theorem dX9_nextMarked_13 : decode cX9_nextMarked 13 = .ok (.iload_n 2, 1) ∧ 13 + 1 = 14 := ⟨by decide +kernel, rfl⟩
theorem dX9_nextMarked_14 : decode cX9_nextMarked 14 = .ok (.iconst 0, 1) ∧ 14 + 1 = 15 := ⟨by decide +kernel, rfl⟩
theorem dX9_nextMarked_15 : decode cX9_nextMarked 15 = .ok (.iconst 4, 1) ∧ 15 + 1 = 16 := ⟨by decide +kernel, rfl⟩
theorem dX9_nextMarked_16 : decode cX9_nextMarked 16 = .ok (.invokestatic 101, 3) ∧ 16 + 3 = 19 := ⟨by decide +kernel, rfl⟩
theorem dX9_nextMarked_19 : decode cX9_nextMarked 19 = .ok (.ifCond .ne 6, 3) ∧ 19 + 3 = 22 ∧ ((19 : Nat) : Int) + (6) = ((25 : Nat) : Int) := ⟨by decide +kernel, rfl, rfl⟩
theorem dX9_nextMarked_22 : decode cX9_nextMarked 22 = .ok (.bipush (-3), 2) ∧ 22 + 2 = 24 := ⟨by decide +kernel, rfl⟩
theorem dX9_nextMarked_24 : decode cX9_nextMarked 24 = .ok (.ireturn, 1) ∧ 24 + 1 = 25 := ⟨by decide +kernel, rfl⟩
theorem dX9_nextMarked_25 : decode cX9_nextMarked 25 = .ok (.aload_n 0, 1) ∧ 25 + 1 = 26 := ⟨by decide +kernel, rfl⟩
theorem dX9_nextMarked_26 : decode cX9_nextMarked 26 = .ok (.invokevirtual 154, 3) ∧ 26 + 3 = 29 := ⟨by decide +kernel, rfl⟩
theorem dX9_nextMarked_29 : decode cX9_nextMarked 29 = .ok (.istore_n 3, 1) ∧ 29 + 1 = 30 := ⟨by decide +kernel, rfl⟩
theorem dX9_nextMarked_30 : decode cX9_nextMarked 30 = .ok (.iload_n 1, 1) ∧ 30 + 1 = 31 := ⟨by decide +kernel, rfl⟩
theorem dX9_nextMarked_31 : decode cX9_nextMarked 31 = .ok (.iconst 1, 1) ∧ 31 + 1 = 32 := ⟨by decide +kernel, rfl⟩
theorem dX9_nextMarked_32 : decode cX9_nextMarked 32 = .ok (.iadd, 1) ∧ 32 + 1 = 33 := ⟨by decide +kernel, rfl⟩
theorem dX9_nextMarked_33 : decode cX9_nextMarked 33 = .ok (.istore 4, 2) ∧ 33 + 2 = 35 := ⟨by decide +kernel, rfl⟩
theorem dX9_nextMarked_35 : decode cX9_nextMarked 35 = .ok (.iload 4, 2) ∧ 35 + 2 = 37 := ⟨by decide +kernel, rfl⟩
theorem dX9_nextMarked_37 : decode cX9_nextMarked 37 = .ok (.iload_n 3, 1) ∧ 37 + 1 = 38 := ⟨by decide +kernel, rfl⟩
theorem dX9_nextMarked_38 : decode cX9_nextMarked 38 = .ok (.if_icmp .ge 32, 3) ∧ 38 + 3 = 41 ∧ ((38 : Nat) : Int) + (32) = ((70 : Nat) : Int) := ⟨by decide +kernel, rfl, rfl⟩
theorem dX9_nextMarked_41 : decode cX9_nextMarked 41 = .ok (.aload_n 0, 1) ∧ 41 + 1 = 42 := ⟨by decide +kernel, rfl⟩
theorem dX9_nextMarked_42 : decode cX9_nextMarked 42 = .ok (.aload_n 0, 1) ∧ 42 + 1 = 43 := ⟨by decide +kernel, rfl⟩
theorem dX9_nextMarked_43 : decode cX9_nextMarked 43 = .ok (.iload 4, 2) ∧ 43 + 2 = 45 := ⟨by decide +kernel, rfl⟩
theorem dX9_nextMarked_45 : decode cX9_nextMarked 45 = .ok (.invokevirtual 98, 3) ∧ 45 + 3 = 48 := ⟨by decide +kernel, rfl⟩
theorem dX9_nextMarked_48 : decode cX9_nextMarked 48 = .ok (.bipush 10, 2) ∧ 48 + 2 = 50 := ⟨by decide +kernel, rfl⟩
theorem dX9_nextMarked_50 : decode cX9_nextMarked 50 = .ok (.invokevirtual 64, 3) ∧ 50 + 3 = 53 := ⟨by decide +kernel, rfl⟩
theorem dX9_nextMarked_53 : decode cX9_nextMarked 53 = .ok (.iload_n 2, 1) ∧ 53 + 1 = 54 := ⟨by decide +kernel, rfl⟩
theorem dX9_nextMarked_54 : decode cX9_nextMarked 54 = .ok (.ishr, 1) ∧ 54 + 1 = 55 := ⟨by decide +kernel, rfl⟩
theorem dX9_nextMarked_55 : decode cX9_nextMarked 55 = .ok (.iconst 1, 1) ∧ 55 + 1 = 56 := ⟨by decide +kernel, rfl⟩
theorem dX9_nextMarked_56 : decode cX9_nextMarked 56 = .ok (.iand, 1) ∧ 56 + 1 = 57 := ⟨by decide +kernel, rfl⟩
theorem dX9_nextMarked_57 : decode cX9_nextMarked 57 = .ok (.iconst 1, 1) ∧ 57 + 1 = 58 := ⟨by decide +kernel, rfl⟩
theorem dX9_nextMarked_58 : decode cX9_nextMarked 58 = .ok (.if_icmp .ne 6, 3) ∧ 58 + 3 = 61 ∧ ((58 : Nat) : Int) + (6) = ((64 : Nat) : Int) := ⟨by decide +kernel, rfl, rfl⟩
theorem dX9_nextMarked_61 : decode cX9_nextMarked 61 = .ok (.iload 4, 2) ∧ 61 + 2 = 63 := ⟨by decide +kernel, rfl⟩
theorem dX9_nextMarked_63 : decode cX9_nextMarked 63 = .ok (.ireturn, 1) ∧ 63 + 1 = 64 := ⟨by decide +kernel, rfl⟩
theorem dX9_nextMarked_64 : decode cX9_nextMarked 64 = .ok (.iinc 4 1, 3) ∧ 64 + 3 = 67 := ⟨by decide +kernel, rfl⟩
theorem dX9_nextMarked_67 : decode cX9_nextMarked 67 = .ok (.goto (-32), 3) ∧ 67 + 3 = 70 ∧ ((67 : Nat) : Int) + (-32) = ((35 : Nat) : Int) := ⟨by decide +kernel, rfl, rfl⟩
theorem dX9_nextMarked_70 : decode cX9_nextMarked 70 = .ok (.bipush (-6), 2) ∧ 70 + 2 = 72 := ⟨by decide +kernel, rfl⟩
theorem dX9_nextMarked_72 : decode cX9_nextMarked 72 = .ok (.ireturn, 1) ∧ 72 + 1 = 73 := ⟨by decide +kernel, rfl⟩
theorem dX9_find_0 : decode cX9_find 0 = .ok (.aload_n 0, 1) ∧ 0 + 1 = 1 := ⟨by decide +kernel, rfl⟩
theorem dX9_find_1 : decode cX9_find 1 = .ok (.iload_n 1, 1) ∧ 1 + 1 = 2 := ⟨by decide +kernel, rfl⟩
theorem dX9_find_2 : decode cX9_find 2 = .ok (.invokevirtual 98, 3) ∧ 2 + 3 = 5 := ⟨by decide +kernel, rfl⟩
theorem dX9_find_5 : decode cX9_find 5 = .ok (.bipush (-6), 2) ∧ 5 + 2 = 7 := ⟨by decide +kernel, rfl⟩
theorem dX9_find_7 : decode cX9_find 7 = .ok (.if_icmp .ne 6, 3) ∧ 7 + 3 = 10 ∧ ((7 : Nat) : Int) + (6) = ((13 : Nat) : Int) := ⟨by decide +kernel, rfl, rfl⟩
theorem dX9_find_10 : decode cX9_find 10 = .ok (.bipush (-2), 2) ∧ 10 + 2 = 12 := ⟨by decide +kernel, rfl⟩
theorem dX9_find_12 : decode cX9_find 12 = .ok (.ireturn, 1) ∧ 12 + 1 = 13 := ⟨by decide +kernel, rfl⟩
theorem dX9_find_13 : decode cX9_find 13 = .ok (.aload_n 0, 1) ∧ 13 + 1 = 14 := ⟨by decide +kernel, rfl⟩
theorem dX9_find_14 : decode cX9_find 14 = .ok (.invokevirtual 154, 3) ∧ 14 + 3 = 17 := ⟨by decide +kernel, rfl⟩
theorem dX9_find_17 : decode cX9_find 17 = .ok (.istore_n 2, 1) ∧ 17 + 1 = 18 := ⟨by decide +kernel, rfl⟩
theorem dX9_find_18 : decode cX9_find 18 = .ok (.iload_n 1, 1) ∧ 18 + 1 = 19 := ⟨by decide +kernel, rfl⟩
theorem dX9_find_19 : decode cX9_find 19 = .ok (.iconst 1, 1) ∧ 19 + 1 = 20 := ⟨by decide +kernel, rfl⟩
theorem dX9_find_20 : decode cX9_find 20 = .ok (.iadd, 1) ∧ 20 + 1 = 21 := ⟨by decide +kernel, rfl⟩
theorem dX9_find_21 : decode cX9_find 21 = .ok (.istore_n 3, 1) ∧ 21 + 1 = 22 := ⟨by decide +kernel, rfl⟩
theorem dX9_find_22 : decode cX9_find 22 = .ok (.iload_n 3, 1) ∧ 22 + 1 = 23 := ⟨by decide +kernel, rfl⟩
theorem dX9_find_23 : decode cX9_find 23 = .ok (.iload_n 2, 1) ∧ 23 + 1 = 24 := ⟨by decide +kernel, rfl⟩
theorem dX9_find_24 : decode cX9_find 24 = .ok (.if_icmp .ge 23, 3) ∧ 24 + 3 = 27 ∧ ((24 : Nat) : Int) + (23) = ((47 : Nat) : Int) := ⟨by decide +kernel, rfl, rfl⟩
theorem dX9_find_27 : decode cX9_find 27 = .ok (.aload_n 0, 1) ∧ 27 + 1 = 28 := ⟨by decide +kernel, rfl⟩
theorem dX9_find_28 : decode cX9_find 28 = .ok (.aload_n 0, 1) ∧ 28 + 1 = 29 := ⟨by decide +kernel, rfl⟩
theorem dX9_find_29 : decode cX9_find 29 = .ok (.iload_n 3, 1) ∧ 29 + 1 = 30 := ⟨by decide +kernel, rfl⟩
theorem dX9_find_30 : decode cX9_find 30 = .ok (.invokevirtual 98, 3) ∧ 30 + 3 = 33 := ⟨by decide +kernel, rfl⟩
theorem dX9_find_33 : decode cX9_find 33 = .ok (.invokevirtual 148, 3) ∧ 33 + 3 = 36 := ⟨by decide +kernel, rfl⟩
theorem dX9_find_36 : decode cX9_find 36 = .ok (.ifCond .eq 5, 3) ∧ 36 + 3 = 39 ∧ ((36 : Nat) : Int) + (5) = ((41 : Nat) : Int) := ⟨by decide +kernel, rfl, rfl⟩
theorem dX9_find_39 : decode cX9_find 39 = .ok (.iload_n 3, 1) ∧ 39 + 1 = 40 := ⟨by decide +kernel, rfl⟩
theorem dX9_find_40 : decode cX9_find 40 = .ok (.ireturn, 1) ∧ 40 + 1 = 41 := ⟨by decide +kernel, rfl⟩
theorem dX9_find_41 : decode cX9_find 41 = .ok (.iinc 3 1, 3) ∧ 41 + 3 = 44 := ⟨by decide +kernel, rfl⟩
theorem dX9_find_44 : decode cX9_find 44 = .ok (.goto (-22), 3) ∧ 44 + 3 = 47 ∧ ((44 : Nat) : Int) + (-22) = ((22 : Nat) : Int) := ⟨by decide +kernel, rfl, rfl⟩
theorem dX9_find_47 : decode cX9_find 47 = .ok (.bipush (-6), 2) ∧ 47 + 2 = 49 := ⟨by decide +kernel, rfl⟩
theorem dX9_find_49 : decode cX9_find 49 = .ok (.ireturn, 1) ∧ 49 + 1 = 50 := ⟨by decide +kernel, rfl⟩
theorem dX9_nodes_0 : decode cX9_nodes 0 = .ok (.iconst 0, 1) ∧ 0 + 1 = 1 := ⟨by decide +kernel, rfl⟩
theorem dX9_nodes_1 : decode cX9_nodes 1 = .ok (.istore_n 2, 1) ∧ 1 + 1 = 2 := ⟨by decide +kernel, rfl⟩
theorem dX9_nodes_2 : decode cX9_nodes 2 = .ok (.iconst 1, 1) ∧ 2 + 1 = 3 := ⟨by decide +kernel, rfl⟩
theorem dX9_nodes_3 : decode cX9_nodes 3 = .ok (.istore_n 3, 1) ∧ 3 + 1 = 4 := ⟨by decide +kernel, rfl⟩
theorem dX9_nodes_4 : decode cX9_nodes 4 = .ok (.iload_n 3, 1) ∧ 4 + 1 = 5 := ⟨by decide +kernel, rfl⟩
theorem dX9_nodes_5 : decode cX9_nodes 5 = .ok (.aload_n 0, 1) ∧ 5 + 1 = 6 := ⟨by decide +kernel, rfl⟩
theorem dX9_nodes_6 : decode cX9_nodes 6 = .ok (.getfield 7, 3) ∧ 6 + 3 = 9 := ⟨by decide +kernel, rfl⟩
theorem dX9_nodes_9 : decode cX9_nodes 9 = .ok (.iconst 0, 1) ∧ 9 + 1 = 10 := ⟨by decide +kernel, rfl⟩
theorem dX9_nodes_10 : decode cX9_nodes 10 = .ok (.iaload, 1) ∧ 10 + 1 = 11 := ⟨by decide +kernel, rfl⟩
theorem dX9_nodes_11 : decode cX9_nodes 11 = .ok (.if_icmp .gt 40, 3) ∧ 11 + 3 = 14 ∧ ((11 : Nat) : Int) + (40) = ((51 : Nat) : Int) := ⟨by decide +kernel, rfl, rfl⟩
theorem dX9_nodes_14 : decode cX9_nodes 14 = .ok (.iload_n 2, 1) ∧ 14 + 1 = 15 := ⟨by decide +kernel, rfl⟩
theorem dX9_nodes_15 : decode cX9_nodes 15 = .ok (.aload_n 0, 1) ∧ 15 + 1 = 16 := ⟨by decide +kernel, rfl⟩
theorem dX9_nodes_16 : decode cX9_nodes 16 = .ok (.iload_n 3, 1) ∧ 16 + 1 = 17 := ⟨by decide +kernel, rfl⟩
theorem dX9_nodes_17 : decode cX9_nodes 17 = .ok (.iconst 0, 1) ∧ 17 + 1 = 18 := ⟨by decide +kernel, rfl⟩
theorem dX9_nodes_18 : decode cX9_nodes 18 = .ok (.invokevirtual 64, 3) ∧ 18 + 3 = 21 := ⟨by decide +kernel, rfl⟩
theorem dX9_nodes_21 : decode cX9_nodes 21 = .ok (.iconst 1, 1) ∧ 21 + 1 = 22 := ⟨by decide +kernel, rfl⟩
theorem dX9_nodes_22 : decode cX9_nodes 22 = .ok (.if_icmp .ne 20, 3) ∧ 22 + 3 = 25 ∧ ((22 : Nat) : Int) + (20) = ((42 : Nat) : Int) := ⟨by decide +kernel, rfl, rfl⟩
theorem dX9_nodes_25 : decode cX9_nodes 25 = .ok (.iload_n 1, 1) ∧ 25 + 1 = 26 := ⟨by decide +kernel, rfl⟩
theorem dX9_nodes_26 : decode cX9_nodes 26 = .ok (.ifCond .eq 12, 3) ∧ 26 + 3 = 29 ∧ ((26 : Nat) : Int) + (12) = ((38 : Nat) : Int) := ⟨by decide +kernel, rfl, rfl⟩
theorem dX9_nodes_29 : decode cX9_nodes 29 = .ok (.aload_n 0, 1) ∧ 29 + 1 = 30 := ⟨by decide +kernel, rfl⟩
theorem dX9_nodes_30 : decode cX9_nodes 30 = .ok (.iload_n 3, 1) ∧ 30 + 1 = 31 := ⟨by decide +kernel, rfl⟩
theorem dX9_nodes_31 : decode cX9_nodes 31 = .ok (.invokevirtual 186, 3) ∧ 31 + 3 = 34 := ⟨by decide +kernel, rfl⟩
theorem dX9_nodes_34 : decode cX9_nodes 34 = .ok (.iconst 1, 1) ∧ 34 + 1 = 35 := ⟨by decide +kernel, rfl⟩
theorem dX9_nodes_35 : decode cX9_nodes 35 = .ok (.if_icmp .le 7, 3) ∧ 35 + 3 = 38 ∧ ((35 : Nat) : Int) + (7) = ((42 : Nat) : Int) := ⟨by decide +kernel, rfl, rfl⟩
theorem dX9_nodes_38 : decode cX9_nodes 38 = .ok (.iconst 1, 1) ∧ 38 + 1 = 39 := ⟨by decide +kernel, rfl⟩
theorem dX9_nodes_39 : decode cX9_nodes 39 = .ok (.goto 4, 3) ∧ 39 + 3 = 42 ∧ ((39 : Nat) : Int) + (4) = ((43 : Nat) : Int) := ⟨by decide +kernel, rfl, rfl⟩
theorem dX9_nodes_42 : decode cX9_nodes 42 = .ok (.iconst 0, 1) ∧ 42 + 1 = 43 := ⟨by decide +kernel, rfl⟩
theorem dX9_nodes_43 : decode cX9_nodes 43 = .ok (.iadd, 1) ∧ 43 + 1 = 44 := ⟨by decide +kernel, rfl⟩
theorem dX9_nodes_44 : decode cX9_nodes 44 = .ok (.istore_n 2, 1) ∧ 44 + 1 = 45 := ⟨by decide +kernel, rfl⟩
theorem dX9_nodes_45 : decode cX9_nodes 45 = .ok (.iinc 3 1, 3) ∧ 45 + 3 = 48 := ⟨by decide +kernel, rfl⟩
theorem dX9_nodes_48 : decode cX9_nodes 48 = .ok (.goto (-44), 3) ∧ 48 + 3 = 51 ∧ ((48 : Nat) : Int) + (-44) = ((4 : Nat) : Int) := ⟨by decide +kernel, rfl, rfl⟩
theorem dX9_nodes_51 : decode cX9_nodes 51 = .ok (.iload_n 2, 1) ∧ 51 + 1 = 52 := ⟨by decide +kernel, rfl⟩
theorem dX9_nodes_52 : decode cX9_nodes 52 = .ok (.ireturn, 1) ∧ 52 + 1 = 53 := ⟨by decide +kernel, rfl⟩
theorem dX9_foldedPlaces_0 : decode cX9_foldedPlaces 0 = .ok (.iconst 0, 1) ∧ 0 + 1 = 1 := ⟨by decide +kernel, rfl⟩
theorem dX9_foldedPlaces_1 : decode cX9_foldedPlaces 1 = .ok (.istore_n 1, 1) ∧ 1 + 1 = 2 := ⟨by decide +kernel, rfl⟩
theorem dX9_foldedPlaces_2 : decode cX9_foldedPlaces 2 = .ok (.iconst 0, 1) ∧ 2 + 1 = 3 := ⟨by decide +kernel, rfl⟩
theorem dX9_foldedPlaces_3 : decode cX9_foldedPlaces 3 = .ok (.istore_n 2, 1) ∧ 3 + 1 = 4 := ⟨by decide +kernel, rfl⟩
theorem dX9_foldedPlaces_4 : decode cX9_foldedPlaces 4 = .ok (.iload_n 2, 1) ∧ 4 + 1 = 5 := ⟨by decide +kernel, rfl⟩
theorem dX9_foldedPlaces_5 : decode cX9_foldedPlaces 5 = .ok (.aload_n 0, 1) ∧ 5 + 1 = 6 := ⟨by decide +kernel, rfl⟩
theorem dX9_foldedPlaces_6 : decode cX9_foldedPlaces 6 = .ok (.getfield 7, 3) ∧ 6 + 3 = 9 := ⟨by decide +kernel, rfl⟩
theorem dX9_foldedPlaces_9 : decode cX9_foldedPlaces 9 = .ok (.iconst 1, 1) ∧ 9 + 1 = 10 := ⟨by decide +kernel, rfl⟩
theorem dX9_foldedPlaces_10 : decode cX9_foldedPlaces 10 = .ok (.iaload, 1) ∧ 10 + 1 = 11 := ⟨by decide +kernel, rfl⟩
theorem dX9_foldedPlaces_11 : decode cX9_foldedPlaces 11 = .ok (.if_icmp .ge 18, 3) ∧ 11 + 3 = 14 ∧ ((11 : Nat) : Int) + (18) = ((29 : Nat) : Int) := ⟨by decide +kernel, rfl, rfl⟩
theorem dX9_foldedPlaces_14 : decode cX9_foldedPlaces 14 = .ok (.iload_n 1, 1) ∧ 14 + 1 = 15 := ⟨by decide +kernel, rfl⟩
theorem dX9_foldedPlaces_15 : decode cX9_foldedPlaces 15 = .ok (.aload_n 0, 1) ∧ 15 + 1 = 16 := ⟨by decide +kernel, rfl⟩
theorem dX9_foldedPlaces_16 : decode cX9_foldedPlaces 16 = .ok (.iload_n 2, 1) ∧ 16 + 1 = 17 := ⟨by decide +kernel, rfl⟩
theorem dX9_foldedPlaces_17 : decode cX9_foldedPlaces 17 = .ok (.iconst 2, 1) ∧ 17 + 1 = 18 := ⟨by decide +kernel, rfl⟩
theorem dX9_foldedPlaces_18 : decode cX9_foldedPlaces 18 = .ok (.invokevirtual 77, 3) ∧ 18 + 3 = 21 := ⟨by decide +kernel, rfl⟩
theorem dX9_foldedPlaces_21 : decode cX9_foldedPlaces 21 = .ok (.iadd, 1) ∧ 21 + 1 = 22 := ⟨by decide +kernel, rfl⟩
theorem dX9_foldedPlaces_22 : decode cX9_foldedPlaces 22 = .ok (.istore_n 1, 1) ∧ 22 + 1 = 23 := ⟨by decide +kernel, rfl⟩
theorem dX9_foldedPlaces_23 : decode cX9_foldedPlaces 23 = .ok (.iinc 2 1, 3) ∧ 23 + 3 = 26 := ⟨by decide +kernel, rfl⟩
theorem dX9_foldedPlaces_26 : decode cX9_foldedPlaces 26 = .ok (.goto (-22), 3) ∧ 26 + 3 = 29 ∧ ((26 : Nat) : Int) + (-22) = ((4 : Nat) : Int) := ⟨by decide +kernel, rfl, rfl⟩
theorem dX9_foldedPlaces_29 : decode cX9_foldedPlaces 29 = .ok (.iload_n 1, 1) ∧ 29 + 1 = 30 := ⟨by decide +kernel, rfl⟩
theorem dX9_foldedPlaces_30 : decode cX9_foldedPlaces 30 = .ok (.ireturn, 1) ∧ 30 + 1 = 31 := ⟨by decide +kernel, rfl⟩
theorem dX9_greatestLevel_0 : decode cX9_greatestLevel 0 = .ok (.iconst 0, 1) ∧ 0 + 1 = 1 := ⟨by decide +kernel, rfl⟩
theorem dX9_greatestLevel_1 : decode cX9_greatestLevel 1 = .ok (.istore_n 1, 1) ∧ 1 + 1 = 2 := ⟨by decide +kernel, rfl⟩
theorem dX9_greatestLevel_2 : decode cX9_greatestLevel 2 = .ok (.iconst 0, 1) ∧ 2 + 1 = 3 := ⟨by decide +kernel, rfl⟩
theorem dX9_greatestLevel_3 : decode cX9_greatestLevel 3 = .ok (.istore_n 2, 1) ∧ 3 + 1 = 4 := ⟨by decide +kernel, rfl⟩
theorem dX9_greatestLevel_4 : decode cX9_greatestLevel 4 = .ok (.iload_n 2, 1) ∧ 4 + 1 = 5 := ⟨by decide +kernel, rfl⟩
theorem dX9_greatestLevel_5 : decode cX9_greatestLevel 5 = .ok (.aload_n 0, 1) ∧ 5 + 1 = 6 := ⟨by decide +kernel, rfl⟩
theorem dX9_greatestLevel_6 : decode cX9_greatestLevel 6 = .ok (.getfield 7, 3) ∧ 6 + 3 = 9 := ⟨by decide +kernel, rfl⟩
theorem dX9_greatestLevel_9 : decode cX9_greatestLevel 9 = .ok (.iconst 1, 1) ∧ 9 + 1 = 10 := ⟨by decide +kernel, rfl⟩
theorem dX9_greatestLevel_10 : decode cX9_greatestLevel 10 = .ok (.iaload, 1) ∧ 10 + 1 = 11 := ⟨by decide +kernel, rfl⟩
theorem dX9_greatestLevel_11 : decode cX9_greatestLevel 11 = .ok (.if_icmp .ge 30, 3) ∧ 11 + 3 = 14 ∧ ((11 : Nat) : Int) + (30) = ((41 : Nat) : Int) := ⟨by decide +kernel, rfl, rfl⟩
theorem dX9_greatestLevel_14 : decode cX9_greatestLevel 14 = .ok (.aload_n 0, 1) ∧ 14 + 1 = 15 := ⟨by decide +kernel, rfl⟩
theorem dX9_greatestLevel_15 : decode cX9_greatestLevel 15 = .ok (.iload_n 2, 1) ∧ 15 + 1 = 16 := ⟨by decide +kernel, rfl⟩
theorem dX9_greatestLevel_16 : decode cX9_greatestLevel 16 = .ok (.iconst 1, 1) ∧ 16 + 1 = 17 := ⟨by decide +kernel, rfl⟩
theorem dX9_greatestLevel_17 : decode cX9_greatestLevel 17 = .ok (.invokevirtual 77, 3) ∧ 17 + 3 = 20 := ⟨by decide +kernel, rfl⟩
theorem dX9_greatestLevel_20 : decode cX9_greatestLevel 20 = .ok (.iload_n 1, 1) ∧ 20 + 1 = 21 := ⟨by decide +kernel, rfl⟩
theorem dX9_greatestLevel_21 : decode cX9_greatestLevel 21 = .ok (.if_icmp .le 12, 3) ∧ 21 + 3 = 24 ∧ ((21 : Nat) : Int) + (12) = ((33 : Nat) : Int) := ⟨by decide +kernel, rfl, rfl⟩
theorem dX9_greatestLevel_24 : decode cX9_greatestLevel 24 = .ok (.aload_n 0, 1) ∧ 24 + 1 = 25 := ⟨by decide +kernel, rfl⟩
theorem dX9_greatestLevel_25 : decode cX9_greatestLevel 25 = .ok (.iload_n 2, 1) ∧ 25 + 1 = 26 := ⟨by decide +kernel, rfl⟩
theorem dX9_greatestLevel_26 : decode cX9_greatestLevel 26 = .ok (.iconst 1, 1) ∧ 26 + 1 = 27 := ⟨by decide +kernel, rfl⟩
theorem dX9_greatestLevel_27 : decode cX9_greatestLevel 27 = .ok (.invokevirtual 77, 3) ∧ 27 + 3 = 30 := ⟨by decide +kernel, rfl⟩
theorem dX9_greatestLevel_30 : decode cX9_greatestLevel 30 = .ok (.goto 4, 3) ∧ 30 + 3 = 33 ∧ ((30 : Nat) : Int) + (4) = ((34 : Nat) : Int) := ⟨by decide +kernel, rfl, rfl⟩
theorem dX9_greatestLevel_33 : decode cX9_greatestLevel 33 = .ok (.iload_n 1, 1) ∧ 33 + 1 = 34 := ⟨by decide +kernel, rfl⟩
theorem dX9_greatestLevel_34 : decode cX9_greatestLevel 34 = .ok (.istore_n 1, 1) ∧ 34 + 1 = 35 := ⟨by decide +kernel, rfl⟩
theorem dX9_greatestLevel_35 : decode cX9_greatestLevel 35 = .ok (.iinc 2 1, 3) ∧ 35 + 3 = 38 := ⟨by decide +kernel, rfl⟩
theorem dX9_greatestLevel_38 : decode cX9_greatestLevel 38 = .ok (.goto (-34), 3) ∧ 38 + 3 = 41 ∧ ((38 : Nat) : Int) + (-34) = ((4 : Nat) : Int) := ⟨by decide +kernel, rfl, rfl⟩
theorem dX9_greatestLevel_41 : decode cX9_greatestLevel 41 = .ok (.iload_n 1, 1) ∧ 41 + 1 = 42 := ⟨by decide +kernel, rfl⟩
theorem dX9_greatestLevel_42 : decode cX9_greatestLevel 42 = .ok (.ireturn, 1) ∧ 42 + 1 = 43 := ⟨by decide +kernel, rfl⟩
theorem dX9_count_0 : decode cX9_count 0 = .ok (.iload_n 1, 1) ∧ 0 + 1 = 1 := ⟨by decide +kernel, rfl⟩
theorem dX9_count_1 : decode cX9_count 1 = .ok (.tableswitch 102 0 8 #[51, 57, 64, 71, 76, 81, 87, 92, 97], 51) ∧ 1 + 51 = 52 := ⟨by decide +kernel, rfl⟩
theorem dX9_count_52 : decode cX9_count 52 = .ok (.aload_n 0, 1) ∧ 52 + 1 = 53 := ⟨by decide +kernel, rfl⟩
theorem dX9_count_53 : decode cX9_count 53 = .ok (.iconst 0, 1) ∧ 53 + 1 = 54 := ⟨by decide +kernel, rfl⟩
theorem dX9_count_54 : decode cX9_count 54 = .ok (.invokevirtual 195, 3) ∧ 54 + 3 = 57 := ⟨by decide +kernel, rfl⟩
theorem dX9_count_57 : decode cX9_count 57 = .ok (.ireturn, 1) ∧ 57 + 1 = 58 := ⟨by decide +kernel, rfl⟩
theorem dX9_count_58 : decode cX9_count 58 = .ok (.aload_n 0, 1) ∧ 58 + 1 = 59 := ⟨by decide +kernel, rfl⟩
theorem dX9_count_59 : decode cX9_count 59 = .ok (.getfield 7, 3) ∧ 59 + 3 = 62 := ⟨by decide +kernel, rfl⟩
theorem dX9_count_62 : decode cX9_count 62 = .ok (.iconst 0, 1) ∧ 62 + 1 = 63 := ⟨by decide +kernel, rfl⟩
theorem dX9_count_63 : decode cX9_count 63 = .ok (.iaload, 1) ∧ 63 + 1 = 64 := ⟨by decide +kernel, rfl⟩
theorem dX9_count_64 : decode cX9_count 64 = .ok (.ireturn, 1) ∧ 64 + 1 = 65 := ⟨by decide +kernel, rfl⟩
theorem dX9_count_65 : decode cX9_count 65 = .ok (.aload_n 0, 1) ∧ 65 + 1 = 66 := ⟨by decide +kernel, rfl⟩
theorem dX9_count_66 : decode cX9_count 66 = .ok (.getfield 7, 3) ∧ 66 + 3 = 69 := ⟨by decide +kernel, rfl⟩
theorem dX9_count_69 : decode cX9_count 69 = .ok (.iconst 1, 1) ∧ 69 + 1 = 70 := ⟨by decide +kernel, rfl⟩
theorem dX9_count_70 : decode cX9_count 70 = .ok (.iaload, 1) ∧ 70 + 1 = 71 := ⟨by decide +kernel, rfl⟩
theorem dX9_count_71 : decode cX9_count 71 = .ok (.ireturn, 1) ∧ 71 + 1 = 72 := ⟨by decide +kernel, rfl⟩
theorem dX9_count_72 : decode cX9_count 72 = .ok (.aload_n 0, 1) ∧ 72 + 1 = 73 := ⟨by decide +kernel, rfl⟩
theorem dX9_count_73 : decode cX9_count 73 = .ok (.invokevirtual 154, 3) ∧ 73 + 3 = 76 := ⟨by decide +kernel, rfl⟩
theorem dX9_count_76 : decode cX9_count 76 = .ok (.ireturn, 1) ∧ 76 + 1 = 77 := ⟨by decide +kernel, rfl⟩
theorem dX9_count_77 : decode cX9_count 77 = .ok (.aload_n 0, 1) ∧ 77 + 1 = 78 := ⟨by decide +kernel, rfl⟩
theorem dX9_count_78 : decode cX9_count 78 = .ok (.invokevirtual 199, 3) ∧ 78 + 3 = 81 := ⟨by decide +kernel, rfl⟩
theorem dX9_count_81 : decode cX9_count 81 = .ok (.ireturn, 1) ∧ 81 + 1 = 82 := ⟨by decide +kernel, rfl⟩
theorem dX9_count_82 : decode cX9_count 82 = .ok (.aload_n 0, 1) ∧ 82 + 1 = 83 := ⟨by decide +kernel, rfl⟩
theorem dX9_count_83 : decode cX9_count 83 = .ok (.iconst 1, 1) ∧ 83 + 1 = 84 := ⟨by decide +kernel, rfl⟩
theorem dX9_count_84 : decode cX9_count 84 = .ok (.invokevirtual 195, 3) ∧ 84 + 3 = 87 := ⟨by decide +kernel, rfl⟩
theorem dX9_count_87 : decode cX9_count 87 = .ok (.ireturn, 1) ∧ 87 + 1 = 88 := ⟨by decide +kernel, rfl⟩
theorem dX9_count_88 : decode cX9_count 88 = .ok (.aload_n 0, 1) ∧ 88 + 1 = 89 := ⟨by decide +kernel, rfl⟩
theorem dX9_count_89 : decode cX9_count 89 = .ok (.invokevirtual 202, 3) ∧ 89 + 3 = 92 := ⟨by decide +kernel, rfl⟩
theorem dX9_count_92 : decode cX9_count 92 = .ok (.ireturn, 1) ∧ 92 + 1 = 93 := ⟨by decide +kernel, rfl⟩
theorem dX9_count_93 : decode cX9_count 93 = .ok (.aload_n 0, 1) ∧ 93 + 1 = 94 := ⟨by decide +kernel, rfl⟩
theorem dX9_count_94 : decode cX9_count 94 = .ok (.getfield 60, 3) ∧ 94 + 3 = 97 := ⟨by decide +kernel, rfl⟩
theorem dX9_count_97 : decode cX9_count 97 = .ok (.ireturn, 1) ∧ 97 + 1 = 98 := ⟨by decide +kernel, rfl⟩
theorem dX9_count_98 : decode cX9_count 98 = .ok (.aload_n 0, 1) ∧ 98 + 1 = 99 := ⟨by decide +kernel, rfl⟩
theorem dX9_count_99 : decode cX9_count 99 = .ok (.getfield 95, 3) ∧ 99 + 3 = 102 := ⟨by decide +kernel, rfl⟩
theorem dX9_count_102 : decode cX9_count 102 = .ok (.ireturn, 1) ∧ 102 + 1 = 103 := ⟨by decide +kernel, rfl⟩
theorem dX9_count_103 : decode cX9_count 103 = .ok (.bipush (-3), 2) ∧ 103 + 2 = 105 := ⟨by decide +kernel, rfl⟩
theorem dX9_count_105 : decode cX9_count 105 = .ok (.ireturn, 1) ∧ 105 + 1 = 106 := ⟨by decide +kernel, rfl⟩
theorem dJ13_bitCount_95d88_0 : decode cJ13_bitCount_95d88 0 = .ok (.lload_n 0, 1) ∧ 0 + 1 = 1 := ⟨by decide +kernel, rfl⟩
theorem dJ13_bitCount_95d88_1 : decode cJ13_bitCount_95d88 1 = .ok (.lload_n 0, 1) ∧ 1 + 1 = 2 := ⟨by decide +kernel, rfl⟩
theorem dJ13_bitCount_95d88_2 : decode cJ13_bitCount_95d88 2 = .ok (.iconst 1, 1) ∧ 2 + 1 = 3 := ⟨by decide +kernel, rfl⟩
theorem dJ13_bitCount_95d88_3 : decode cJ13_bitCount_95d88 3 = .ok (.lushr, 1) ∧ 3 + 1 = 4 := ⟨by decide +kernel, rfl⟩
theorem dJ13_bitCount_95d88_4 : decode cJ13_bitCount_95d88 4 = .ok (.ldc2_w 314, 3) ∧ 4 + 3 = 7 := ⟨by decide +kernel, rfl⟩
theorem dJ13_bitCount_95d88_7 : decode cJ13_bitCount_95d88 7 = .ok (.land, 1) ∧ 7 + 1 = 8 := ⟨by decide +kernel, rfl⟩
theorem dJ13_bitCount_95d88_8 : decode cJ13_bitCount_95d88 8 = .ok (.lsub, 1) ∧ 8 + 1 = 9 := ⟨by decide +kernel, rfl⟩
theorem dJ13_bitCount_95d88_9 : decode cJ13_bitCount_95d88 9 = .ok (.lstore_n 0, 1) ∧ 9 + 1 = 10 := ⟨by decide +kernel, rfl⟩
theorem dJ13_bitCount_95d88_10 : decode cJ13_bitCount_95d88 10 = .ok (.lload_n 0, 1) ∧ 10 + 1 = 11 := ⟨by decide +kernel, rfl⟩
theorem dJ13_bitCount_95d88_11 : decode cJ13_bitCount_95d88 11 = .ok (.ldc2_w 316, 3) ∧ 11 + 3 = 14 := ⟨by decide +kernel, rfl⟩
theorem dJ13_bitCount_95d88_14 : decode cJ13_bitCount_95d88 14 = .ok (.land, 1) ∧ 14 + 1 = 15 := ⟨by decide +kernel, rfl⟩
theorem dJ13_bitCount_95d88_15 : decode cJ13_bitCount_95d88 15 = .ok (.lload_n 0, 1) ∧ 15 + 1 = 16 := ⟨by decide +kernel, rfl⟩
theorem dJ13_bitCount_95d88_16 : decode cJ13_bitCount_95d88 16 = .ok (.iconst 2, 1) ∧ 16 + 1 = 17 := ⟨by decide +kernel, rfl⟩
theorem dJ13_bitCount_95d88_17 : decode cJ13_bitCount_95d88 17 = .ok (.lushr, 1) ∧ 17 + 1 = 18 := ⟨by decide +kernel, rfl⟩
theorem dJ13_bitCount_95d88_18 : decode cJ13_bitCount_95d88 18 = .ok (.ldc2_w 316, 3) ∧ 18 + 3 = 21 := ⟨by decide +kernel, rfl⟩
theorem dJ13_bitCount_95d88_21 : decode cJ13_bitCount_95d88 21 = .ok (.land, 1) ∧ 21 + 1 = 22 := ⟨by decide +kernel, rfl⟩
theorem dJ13_bitCount_95d88_22 : decode cJ13_bitCount_95d88 22 = .ok (.ladd, 1) ∧ 22 + 1 = 23 := ⟨by decide +kernel, rfl⟩
theorem dJ13_bitCount_95d88_23 : decode cJ13_bitCount_95d88 23 = .ok (.lstore_n 0, 1) ∧ 23 + 1 = 24 := ⟨by decide +kernel, rfl⟩
theorem dJ13_bitCount_95d88_24 : decode cJ13_bitCount_95d88 24 = .ok (.lload_n 0, 1) ∧ 24 + 1 = 25 := ⟨by decide +kernel, rfl⟩
theorem dJ13_bitCount_95d88_25 : decode cJ13_bitCount_95d88 25 = .ok (.lload_n 0, 1) ∧ 25 + 1 = 26 := ⟨by decide +kernel, rfl⟩
theorem dJ13_bitCount_95d88_26 : decode cJ13_bitCount_95d88 26 = .ok (.iconst 4, 1) ∧ 26 + 1 = 27 := ⟨by decide +kernel, rfl⟩
theorem dJ13_bitCount_95d88_27 : decode cJ13_bitCount_95d88 27 = .ok (.lushr, 1) ∧ 27 + 1 = 28 := ⟨by decide +kernel, rfl⟩
theorem dJ13_bitCount_95d88_28 : decode cJ13_bitCount_95d88 28 = .ok (.ladd, 1) ∧ 28 + 1 = 29 := ⟨by decide +kernel, rfl⟩
theorem dJ13_bitCount_95d88_29 : decode cJ13_bitCount_95d88 29 = .ok (.ldc2_w 318, 3) ∧ 29 + 3 = 32 := ⟨by decide +kernel, rfl⟩
theorem dJ13_bitCount_95d88_32 : decode cJ13_bitCount_95d88 32 = .ok (.land, 1) ∧ 32 + 1 = 33 := ⟨by decide +kernel, rfl⟩
theorem dJ13_bitCount_95d88_33 : decode cJ13_bitCount_95d88 33 = .ok (.lstore_n 0, 1) ∧ 33 + 1 = 34 := ⟨by decide +kernel, rfl⟩
theorem dJ13_bitCount_95d88_34 : decode cJ13_bitCount_95d88 34 = .ok (.lload_n 0, 1) ∧ 34 + 1 = 35 := ⟨by decide +kernel, rfl⟩
theorem dJ13_bitCount_95d88_35 : decode cJ13_bitCount_95d88 35 = .ok (.lload_n 0, 1) ∧ 35 + 1 = 36 := ⟨by decide +kernel, rfl⟩
theorem dJ13_bitCount_95d88_36 : decode cJ13_bitCount_95d88 36 = .ok (.bipush 8, 2) ∧ 36 + 2 = 38 := ⟨by decide +kernel, rfl⟩
theorem dJ13_bitCount_95d88_38 : decode cJ13_bitCount_95d88 38 = .ok (.lushr, 1) ∧ 38 + 1 = 39 := ⟨by decide +kernel, rfl⟩
theorem dJ13_bitCount_95d88_39 : decode cJ13_bitCount_95d88 39 = .ok (.ladd, 1) ∧ 39 + 1 = 40 := ⟨by decide +kernel, rfl⟩
theorem dJ13_bitCount_95d88_40 : decode cJ13_bitCount_95d88 40 = .ok (.lstore_n 0, 1) ∧ 40 + 1 = 41 := ⟨by decide +kernel, rfl⟩
theorem dJ13_bitCount_95d88_41 : decode cJ13_bitCount_95d88 41 = .ok (.lload_n 0, 1) ∧ 41 + 1 = 42 := ⟨by decide +kernel, rfl⟩
theorem dJ13_bitCount_95d88_42 : decode cJ13_bitCount_95d88 42 = .ok (.lload_n 0, 1) ∧ 42 + 1 = 43 := ⟨by decide +kernel, rfl⟩
theorem dJ13_bitCount_95d88_43 : decode cJ13_bitCount_95d88 43 = .ok (.bipush 16, 2) ∧ 43 + 2 = 45 := ⟨by decide +kernel, rfl⟩
theorem dJ13_bitCount_95d88_45 : decode cJ13_bitCount_95d88 45 = .ok (.lushr, 1) ∧ 45 + 1 = 46 := ⟨by decide +kernel, rfl⟩
theorem dJ13_bitCount_95d88_46 : decode cJ13_bitCount_95d88 46 = .ok (.ladd, 1) ∧ 46 + 1 = 47 := ⟨by decide +kernel, rfl⟩
theorem dJ13_bitCount_95d88_47 : decode cJ13_bitCount_95d88 47 = .ok (.lstore_n 0, 1) ∧ 47 + 1 = 48 := ⟨by decide +kernel, rfl⟩
theorem dJ13_bitCount_95d88_48 : decode cJ13_bitCount_95d88 48 = .ok (.lload_n 0, 1) ∧ 48 + 1 = 49 := ⟨by decide +kernel, rfl⟩
theorem dJ13_bitCount_95d88_49 : decode cJ13_bitCount_95d88 49 = .ok (.lload_n 0, 1) ∧ 49 + 1 = 50 := ⟨by decide +kernel, rfl⟩
theorem dJ13_bitCount_95d88_50 : decode cJ13_bitCount_95d88 50 = .ok (.bipush 32, 2) ∧ 50 + 2 = 52 := ⟨by decide +kernel, rfl⟩
theorem dJ13_bitCount_95d88_52 : decode cJ13_bitCount_95d88 52 = .ok (.lushr, 1) ∧ 52 + 1 = 53 := ⟨by decide +kernel, rfl⟩
theorem dJ13_bitCount_95d88_53 : decode cJ13_bitCount_95d88 53 = .ok (.ladd, 1) ∧ 53 + 1 = 54 := ⟨by decide +kernel, rfl⟩
theorem dJ13_bitCount_95d88_54 : decode cJ13_bitCount_95d88 54 = .ok (.lstore_n 0, 1) ∧ 54 + 1 = 55 := ⟨by decide +kernel, rfl⟩
theorem dJ13_bitCount_95d88_55 : decode cJ13_bitCount_95d88 55 = .ok (.lload_n 0, 1) ∧ 55 + 1 = 56 := ⟨by decide +kernel, rfl⟩
theorem dJ13_bitCount_95d88_56 : decode cJ13_bitCount_95d88 56 = .ok (.l2i, 1) ∧ 56 + 1 = 57 := ⟨by decide +kernel, rfl⟩
theorem dJ13_bitCount_95d88_57 : decode cJ13_bitCount_95d88 57 = .ok (.bipush 127, 2) ∧ 57 + 2 = 59 := ⟨by decide +kernel, rfl⟩
theorem dJ13_bitCount_95d88_59 : decode cJ13_bitCount_95d88 59 = .ok (.iand, 1) ∧ 59 + 1 = 60 := ⟨by decide +kernel, rfl⟩
theorem dJ13_bitCount_95d88_60 : decode cJ13_bitCount_95d88 60 = .ok (.ireturn, 1) ∧ 60 + 1 = 61 := ⟨by decide +kernel, rfl⟩
theorem dJ9_floorMod_7cf53_0 : decode cJ9_floorMod_7cf53 0 = .ok (.iload_n 0, 1) ∧ 0 + 1 = 1 := ⟨by decide +kernel, rfl⟩
theorem dJ9_floorMod_7cf53_1 : decode cJ9_floorMod_7cf53 1 = .ok (.iload_n 1, 1) ∧ 1 + 1 = 2 := ⟨by decide +kernel, rfl⟩
theorem dJ9_floorMod_7cf53_2 : decode cJ9_floorMod_7cf53 2 = .ok (.irem, 1) ∧ 2 + 1 = 3 := ⟨by decide +kernel, rfl⟩
theorem dJ9_floorMod_7cf53_3 : decode cJ9_floorMod_7cf53 3 = .ok (.istore_n 2, 1) ∧ 3 + 1 = 4 := ⟨by decide +kernel, rfl⟩
theorem dJ9_floorMod_7cf53_4 : decode cJ9_floorMod_7cf53 4 = .ok (.iload_n 0, 1) ∧ 4 + 1 = 5 := ⟨by decide +kernel, rfl⟩
theorem dJ9_floorMod_7cf53_5 : decode cJ9_floorMod_7cf53 5 = .ok (.iload_n 1, 1) ∧ 5 + 1 = 6 := ⟨by decide +kernel, rfl⟩
theorem dJ9_floorMod_7cf53_6 : decode cJ9_floorMod_7cf53 6 = .ok (.ixor, 1) ∧ 6 + 1 = 7 := ⟨by decide +kernel, rfl⟩
theorem dJ9_floorMod_7cf53_7 : decode cJ9_floorMod_7cf53 7 = .ok (.ifCond .ge 11, 3) ∧ 7 + 3 = 10 ∧ ((7 : Nat) : Int) + (11) = ((18 : Nat) : Int) := ⟨by decide +kernel, rfl, rfl⟩
theorem dJ9_floorMod_7cf53_10 : decode cJ9_floorMod_7cf53 10 = .ok (.iload_n 2, 1) ∧ 10 + 1 = 11 := ⟨by decide +kernel, rfl⟩
theorem dJ9_floorMod_7cf53_11 : decode cJ9_floorMod_7cf53 11 = .ok (.ifCond .eq 7, 3) ∧ 11 + 3 = 14 ∧ ((11 : Nat) : Int) + (7) = ((18 : Nat) : Int) := ⟨by decide +kernel, rfl, rfl⟩
theorem dJ9_floorMod_7cf53_14 : decode cJ9_floorMod_7cf53 14 = .ok (.iload_n 2, 1) ∧ 14 + 1 = 15 := ⟨by decide +kernel, rfl⟩
theorem dJ9_floorMod_7cf53_15 : decode cJ9_floorMod_7cf53 15 = .ok (.iload_n 1, 1) ∧ 15 + 1 = 16 := ⟨by decide +kernel, rfl⟩
theorem dJ9_floorMod_7cf53_16 : decode cJ9_floorMod_7cf53 16 = .ok (.iadd, 1) ∧ 16 + 1 = 17 := ⟨by decide +kernel, rfl⟩
theorem dJ9_floorMod_7cf53_17 : decode cJ9_floorMod_7cf53 17 = .ok (.ireturn, 1) ∧ 17 + 1 = 18 := ⟨by decide +kernel, rfl⟩
theorem dJ9_floorMod_7cf53_18 : decode cJ9_floorMod_7cf53 18 = .ok (.iload_n 2, 1) ∧ 18 + 1 = 19 := ⟨by decide +kernel, rfl⟩
theorem dJ9_floorMod_7cf53_19 : decode cJ9_floorMod_7cf53 19 = .ok (.ireturn, 1) ∧ 19 + 1 = 20 := ⟨by decide +kernel, rfl⟩
theorem dJ9_abs_0f7a4_0 : decode cJ9_abs_0f7a4 0 = .ok (.iload_n 0, 1) ∧ 0 + 1 = 1 := ⟨by decide +kernel, rfl⟩
theorem dJ9_abs_0f7a4_1 : decode cJ9_abs_0f7a4 1 = .ok (.ifCond .ge 8, 3) ∧ 1 + 3 = 4 ∧ ((1 : Nat) : Int) + (8) = ((9 : Nat) : Int) := ⟨by decide +kernel, rfl, rfl⟩
theorem dJ9_abs_0f7a4_4 : decode cJ9_abs_0f7a4 4 = .ok (.iload_n 0, 1) ∧ 4 + 1 = 5 := ⟨by decide +kernel, rfl⟩
theorem dJ9_abs_0f7a4_5 : decode cJ9_abs_0f7a4 5 = .ok (.ineg, 1) ∧ 5 + 1 = 6 := ⟨by decide +kernel, rfl⟩
theorem dJ9_abs_0f7a4_6 : decode cJ9_abs_0f7a4 6 = .ok (.goto 4, 3) ∧ 6 + 3 = 9 ∧ ((6 : Nat) : Int) + (4) = ((10 : Nat) : Int) := ⟨by decide +kernel, rfl, rfl⟩
theorem dJ9_abs_0f7a4_9 : decode cJ9_abs_0f7a4 9 = .ok (.iload_n 0, 1) ∧ 9 + 1 = 10 := ⟨by decide +kernel, rfl⟩
theorem dJ9_abs_0f7a4_10 : decode cJ9_abs_0f7a4 10 = .ok (.ireturn, 1) ∧ 10 + 1 = 11 := ⟨by decide +kernel, rfl⟩
theorem dJ9_max_7cf53_0 : decode cJ9_max_7cf53 0 = .ok (.iload_n 0, 1) ∧ 0 + 1 = 1 := ⟨by decide +kernel, rfl⟩
theorem dJ9_max_7cf53_1 : decode cJ9_max_7cf53 1 = .ok (.iload_n 1, 1) ∧ 1 + 1 = 2 := ⟨by decide +kernel, rfl⟩
theorem dJ9_max_7cf53_2 : decode cJ9_max_7cf53 2 = .ok (.if_icmp .lt 7, 3) ∧ 2 + 3 = 5 ∧ ((2 : Nat) : Int) + (7) = ((9 : Nat) : Int) := ⟨by decide +kernel, rfl, rfl⟩
theorem dJ9_max_7cf53_5 : decode cJ9_max_7cf53 5 = .ok (.iload_n 0, 1) ∧ 5 + 1 = 6 := ⟨by decide +kernel, rfl⟩
theorem dJ9_max_7cf53_6 : decode cJ9_max_7cf53 6 = .ok (.goto 4, 3) ∧ 6 + 3 = 9 ∧ ((6 : Nat) : Int) + (4) = ((10 : Nat) : Int) := ⟨by decide +kernel, rfl, rfl⟩
theorem dJ9_max_7cf53_9 : decode cJ9_max_7cf53 9 = .ok (.iload_n 1, 1) ∧ 9 + 1 = 10 := ⟨by decide +kernel, rfl⟩
theorem dJ9_max_7cf53_10 : decode cJ9_max_7cf53 10 = .ok (.ireturn, 1) ∧ 10 + 1 = 11 := ⟨by decide +kernel, rfl⟩
theorem dJ9_min_7cf53_0 : decode cJ9_min_7cf53 0 = .ok (.iload_n 0, 1) ∧ 0 + 1 = 1 := ⟨by decide +kernel, rfl⟩
theorem dJ9_min_7cf53_1 : decode cJ9_min_7cf53 1 = .ok (.iload_n 1, 1) ∧ 1 + 1 = 2 := ⟨by decide +kernel, rfl⟩
theorem dJ9_min_7cf53_2 : decode cJ9_min_7cf53 2 = .ok (.if_icmp .gt 7, 3) ∧ 2 + 3 = 5 ∧ ((2 : Nat) : Int) + (7) = ((9 : Nat) : Int) := ⟨by decide +kernel, rfl, rfl⟩
theorem dJ9_min_7cf53_5 : decode cJ9_min_7cf53 5 = .ok (.iload_n 0, 1) ∧ 5 + 1 = 6 := ⟨by decide +kernel, rfl⟩
theorem dJ9_min_7cf53_6 : decode cJ9_min_7cf53 6 = .ok (.goto 4, 3) ∧ 6 + 3 = 9 ∧ ((6 : Nat) : Int) + (4) = ((10 : Nat) : Int) := ⟨by decide +kernel, rfl, rfl⟩
theorem dJ9_min_7cf53_9 : decode cJ9_min_7cf53 9 = .ok (.iload_n 1, 1) ∧ 9 + 1 = 10 := ⟨by decide +kernel, rfl⟩
theorem dJ9_min_7cf53_10 : decode cJ9_min_7cf53 10 = .ok (.ireturn, 1) ∧ 10 + 1 = 11 := ⟨by decide +kernel, rfl⟩
theorem dL_law_0 : decode cL_law 0 = .ok (.new 7, 3) ∧ 0 + 3 = 3 := ⟨by decide +kernel, rfl⟩
theorem dL_law_3 : decode cL_law 3 = .ok (.dup, 1) ∧ 3 + 1 = 4 := ⟨by decide +kernel, rfl⟩
theorem dL_law_4 : decode cL_law 4 = .ok (.invokespecial 9, 3) ∧ 4 + 3 = 7 := ⟨by decide +kernel, rfl⟩
theorem dL_law_7 : decode cL_law 7 = .ok (.astore_n 1, 1) ∧ 7 + 1 = 8 := ⟨by decide +kernel, rfl⟩
theorem dL_law_8 : decode cL_law 8 = .ok (.new 10, 3) ∧ 8 + 3 = 11 := ⟨by decide +kernel, rfl⟩
theorem dL_law_11 : decode cL_law 11 = .ok (.dup, 1) ∧ 11 + 1 = 12 := ⟨by decide +kernel, rfl⟩
theorem dL_law_12 : decode cL_law 12 = .ok (.invokespecial 12, 3) ∧ 12 + 3 = 15 := ⟨by decide +kernel, rfl⟩
theorem dL_law_15 : decode cL_law 15 = .ok (.astore_n 2, 1) ∧ 15 + 1 = 16 := ⟨by decide +kernel, rfl⟩
theorem dL_law_16 : decode cL_law 16 = .ok (.iconst 0, 1) ∧ 16 + 1 = 17 := ⟨by decide +kernel, rfl⟩
theorem dL_law_17 : decode cL_law 17 = .ok (.istore_n 3, 1) ∧ 17 + 1 = 18 := ⟨by decide +kernel, rfl⟩
theorem dL_law_18 : decode cL_law 18 = .ok (.iload_n 3, 1) ∧ 18 + 1 = 19 := ⟨by decide +kernel, rfl⟩
theorem dL_law_19 : decode cL_law 19 = .ok (.aload_n 0, 1) ∧ 19 + 1 = 20 := ⟨by decide +kernel, rfl⟩
theorem dL_law_20 : decode cL_law 20 = .ok (.arraylength, 1) ∧ 20 + 1 = 21 := ⟨by decide +kernel, rfl⟩
theorem dL_law_21 : decode cL_law 21 = .ok (.iconst 3, 1) ∧ 21 + 1 = 22 := ⟨by decide +kernel, rfl⟩
theorem dL_law_22 : decode cL_law 22 = .ok (.isub, 1) ∧ 22 + 1 = 23 := ⟨by decide +kernel, rfl⟩
theorem dL_law_23 : decode cL_law 23 = .ok (.if_icmp .gt 720, 3) ∧ 23 + 3 = 26 ∧ ((23 : Nat) : Int) + (720) = ((743 : Nat) : Int) := ⟨by decide +kernel, rfl, rfl⟩
theorem dL_law_26 : decode cL_law 26 = .ok (.aload_n 0, 1) ∧ 26 + 1 = 27 := ⟨by decide +kernel, rfl⟩
theorem dL_law_27 : decode cL_law 27 = .ok (.iload_n 3, 1) ∧ 27 + 1 = 28 := ⟨by decide +kernel, rfl⟩
theorem dL_law_28 : decode cL_law 28 = .ok (.iaload, 1) ∧ 28 + 1 = 29 := ⟨by decide +kernel, rfl⟩
theorem dL_law_29 : decode cL_law 29 = .ok (.bipush 31, 2) ∧ 29 + 2 = 31 := ⟨by decide +kernel, rfl⟩
theorem dL_law_31 : decode cL_law 31 = .ok (.iand, 1) ∧ 31 + 1 = 32 := ⟨by decide +kernel, rfl⟩
theorem dL_law_32 : decode cL_law 32 = .ok (.tableswitch 705 0 22 #[108, 131, 164, 197, 220, 253, 276, 309, 358, 381, 404, 429, 442, 455, 468, 481, 494, 527, 560, 593, 626, 659, 682], 108) ∧ 32 + 108 = 140 := ⟨by decide +kernel, rfl⟩
theorem dL_law_140 : decode cL_law 140 = .ok (.aload_n 1, 1) ∧ 140 + 1 = 141 := ⟨by decide +kernel, rfl⟩
theorem dL_law_141 : decode cL_law 141 = .ok (.aload_n 0, 1) ∧ 141 + 1 = 142 := ⟨by decide +kernel, rfl⟩
theorem dL_law_142 : decode cL_law 142 = .ok (.iload_n 3, 1) ∧ 142 + 1 = 143 := ⟨by decide +kernel, rfl⟩
theorem dL_law_143 : decode cL_law 143 = .ok (.iconst 1, 1) ∧ 143 + 1 = 144 := ⟨by decide +kernel, rfl⟩
theorem dL_law_144 : decode cL_law 144 = .ok (.iadd, 1) ∧ 144 + 1 = 145 := ⟨by decide +kernel, rfl⟩
theorem dL_law_145 : decode cL_law 145 = .ok (.iaload, 1) ∧ 145 + 1 = 146 := ⟨by decide +kernel, rfl⟩
theorem dL_law_146 : decode cL_law 146 = .ok (.invokevirtual 13, 3) ∧ 146 + 3 = 149 := ⟨by decide +kernel, rfl⟩
theorem dL_law_149 : decode cL_law 149 = .ok (.aload_n 2, 1) ∧ 149 + 1 = 150 := ⟨by decide +kernel, rfl⟩
theorem dL_law_150 : decode cL_law 150 = .ok (.aload_n 0, 1) ∧ 150 + 1 = 151 := ⟨by decide +kernel, rfl⟩
theorem dL_law_151 : decode cL_law 151 = .ok (.iload_n 3, 1) ∧ 151 + 1 = 152 := ⟨by decide +kernel, rfl⟩
theorem dL_law_152 : decode cL_law 152 = .ok (.iconst 1, 1) ∧ 152 + 1 = 153 := ⟨by decide +kernel, rfl⟩
theorem dL_law_153 : decode cL_law 153 = .ok (.iadd, 1) ∧ 153 + 1 = 154 := ⟨by decide +kernel, rfl⟩
theorem dL_law_154 : decode cL_law 154 = .ok (.iaload, 1) ∧ 154 + 1 = 155 := ⟨by decide +kernel, rfl⟩
theorem dL_law_155 : decode cL_law 155 = .ok (.invokevirtual 17, 3) ∧ 155 + 3 = 158 := ⟨by decide +kernel, rfl⟩
theorem dL_law_158 : decode cL_law 158 = .ok (.if_icmp .eq 579, 3) ∧ 158 + 3 = 161 ∧ ((158 : Nat) : Int) + (579) = ((737 : Nat) : Int) := ⟨by decide +kernel, rfl, rfl⟩
theorem dL_law_161 : decode cL_law 161 = .ok (.iconst 0, 1) ∧ 161 + 1 = 162 := ⟨by decide +kernel, rfl⟩
theorem dL_law_162 : decode cL_law 162 = .ok (.ireturn, 1) ∧ 162 + 1 = 163 := ⟨by decide +kernel, rfl⟩
theorem dL_law_163 : decode cL_law 163 = .ok (.aload_n 1, 1) ∧ 163 + 1 = 164 := ⟨by decide +kernel, rfl⟩
theorem dL_law_164 : decode cL_law 164 = .ok (.aload_n 0, 1) ∧ 164 + 1 = 165 := ⟨by decide +kernel, rfl⟩
theorem dL_law_165 : decode cL_law 165 = .ok (.iload_n 3, 1) ∧ 165 + 1 = 166 := ⟨by decide +kernel, rfl⟩
theorem dL_law_166 : decode cL_law 166 = .ok (.iconst 1, 1) ∧ 166 + 1 = 167 := ⟨by decide +kernel, rfl⟩
theorem dL_law_167 : decode cL_law 167 = .ok (.iadd, 1) ∧ 167 + 1 = 168 := ⟨by decide +kernel, rfl⟩
theorem dL_law_168 : decode cL_law 168 = .ok (.iaload, 1) ∧ 168 + 1 = 169 := ⟨by decide +kernel, rfl⟩
theorem dL_law_169 : decode cL_law 169 = .ok (.aload_n 0, 1) ∧ 169 + 1 = 170 := ⟨by decide +kernel, rfl⟩
theorem dL_law_170 : decode cL_law 170 = .ok (.iload_n 3, 1) ∧ 170 + 1 = 171 := ⟨by decide +kernel, rfl⟩
theorem dL_law_171 : decode cL_law 171 = .ok (.iconst 2, 1) ∧ 171 + 1 = 172 := ⟨by decide +kernel, rfl⟩
theorem dL_law_172 : decode cL_law 172 = .ok (.iadd, 1) ∧ 172 + 1 = 173 := ⟨by decide +kernel, rfl⟩
theorem dL_law_173 : decode cL_law 173 = .ok (.iaload, 1) ∧ 173 + 1 = 174 := ⟨by decide +kernel, rfl⟩
theorem dL_law_174 : decode cL_law 174 = .ok (.invokevirtual 18, 3) ∧ 174 + 3 = 177 := ⟨by decide +kernel, rfl⟩
theorem dL_law_177 : decode cL_law 177 = .ok (.aload_n 2, 1) ∧ 177 + 1 = 178 := ⟨by decide +kernel, rfl⟩
theorem dL_law_178 : decode cL_law 178 = .ok (.aload_n 0, 1) ∧ 178 + 1 = 179 := ⟨by decide +kernel, rfl⟩
theorem dL_law_179 : decode cL_law 179 = .ok (.iload_n 3, 1) ∧ 179 + 1 = 180 := ⟨by decide +kernel, rfl⟩
theorem dL_law_180 : decode cL_law 180 = .ok (.iconst 1, 1) ∧ 180 + 1 = 181 := ⟨by decide +kernel, rfl⟩
theorem dL_law_181 : decode cL_law 181 = .ok (.iadd, 1) ∧ 181 + 1 = 182 := ⟨by decide +kernel, rfl⟩
theorem dL_law_182 : decode cL_law 182 = .ok (.iaload, 1) ∧ 182 + 1 = 183 := ⟨by decide +kernel, rfl⟩
theorem dL_law_183 : decode cL_law 183 = .ok (.aload_n 0, 1) ∧ 183 + 1 = 184 := ⟨by decide +kernel, rfl⟩
theorem dL_law_184 : decode cL_law 184 = .ok (.iload_n 3, 1) ∧ 184 + 1 = 185 := ⟨by decide +kernel, rfl⟩
theorem dL_law_185 : decode cL_law 185 = .ok (.iconst 2, 1) ∧ 185 + 1 = 186 := ⟨by decide +kernel, rfl⟩
theorem dL_law_186 : decode cL_law 186 = .ok (.iadd, 1) ∧ 186 + 1 = 187 := ⟨by decide +kernel, rfl⟩
theorem dL_law_187 : decode cL_law 187 = .ok (.iaload, 1) ∧ 187 + 1 = 188 := ⟨by decide +kernel, rfl⟩
theorem dL_law_188 : decode cL_law 188 = .ok (.invokevirtual 22, 3) ∧ 188 + 3 = 191 := ⟨by decide +kernel, rfl⟩
theorem dL_law_191 : decode cL_law 191 = .ok (.if_icmp .eq 546, 3) ∧ 191 + 3 = 194 ∧ ((191 : Nat) : Int) + (546) = ((737 : Nat) : Int) := ⟨by decide +kernel, rfl, rfl⟩
theorem dL_law_194 : decode cL_law 194 = .ok (.iconst 0, 1) ∧ 194 + 1 = 195 := ⟨by decide +kernel, rfl⟩
theorem dL_law_195 : decode cL_law 195 = .ok (.ireturn, 1) ∧ 195 + 1 = 196 := ⟨by decide +kernel, rfl⟩
theorem dL_law_196 : decode cL_law 196 = .ok (.aload_n 1, 1) ∧ 196 + 1 = 197 := ⟨by decide +kernel, rfl⟩
theorem dL_law_197 : decode cL_law 197 = .ok (.aload_n 0, 1) ∧ 197 + 1 = 198 := ⟨by decide +kernel, rfl⟩
theorem dL_law_198 : decode cL_law 198 = .ok (.iload_n 3, 1) ∧ 198 + 1 = 199 := ⟨by decide +kernel, rfl⟩
theorem dL_law_199 : decode cL_law 199 = .ok (.iconst 1, 1) ∧ 199 + 1 = 200 := ⟨by decide +kernel, rfl⟩
theorem dL_law_200 : decode cL_law 200 = .ok (.iadd, 1) ∧ 200 + 1 = 201 := ⟨by decide +kernel, rfl⟩
theorem dL_law_201 : decode cL_law 201 = .ok (.iaload, 1) ∧ 201 + 1 = 202 := ⟨by decide +kernel, rfl⟩
theorem dL_law_202 : decode cL_law 202 = .ok (.aload_n 0, 1) ∧ 202 + 1 = 203 := ⟨by decide +kernel, rfl⟩
theorem dL_law_203 : decode cL_law 203 = .ok (.iload_n 3, 1) ∧ 203 + 1 = 204 := ⟨by decide +kernel, rfl⟩
theorem dL_law_204 : decode cL_law 204 = .ok (.iconst 2, 1) ∧ 204 + 1 = 205 := ⟨by decide +kernel, rfl⟩
theorem dL_law_205 : decode cL_law 205 = .ok (.iadd, 1) ∧ 205 + 1 = 206 := ⟨by decide +kernel, rfl⟩
theorem dL_law_206 : decode cL_law 206 = .ok (.iaload, 1) ∧ 206 + 1 = 207 := ⟨by decide +kernel, rfl⟩
theorem dL_law_207 : decode cL_law 207 = .ok (.invokevirtual 23, 3) ∧ 207 + 3 = 210 := ⟨by decide +kernel, rfl⟩
theorem dL_law_210 : decode cL_law 210 = .ok (.aload_n 2, 1) ∧ 210 + 1 = 211 := ⟨by decide +kernel, rfl⟩
theorem dL_law_211 : decode cL_law 211 = .ok (.aload_n 0, 1) ∧ 211 + 1 = 212 := ⟨by decide +kernel, rfl⟩
theorem dL_law_212 : decode cL_law 212 = .ok (.iload_n 3, 1) ∧ 212 + 1 = 213 := ⟨by decide +kernel, rfl⟩
theorem dL_law_213 : decode cL_law 213 = .ok (.iconst 1, 1) ∧ 213 + 1 = 214 := ⟨by decide +kernel, rfl⟩
theorem dL_law_214 : decode cL_law 214 = .ok (.iadd, 1) ∧ 214 + 1 = 215 := ⟨by decide +kernel, rfl⟩
theorem dL_law_215 : decode cL_law 215 = .ok (.iaload, 1) ∧ 215 + 1 = 216 := ⟨by decide +kernel, rfl⟩
theorem dL_law_216 : decode cL_law 216 = .ok (.aload_n 0, 1) ∧ 216 + 1 = 217 := ⟨by decide +kernel, rfl⟩
theorem dL_law_217 : decode cL_law 217 = .ok (.iload_n 3, 1) ∧ 217 + 1 = 218 := ⟨by decide +kernel, rfl⟩
theorem dL_law_218 : decode cL_law 218 = .ok (.iconst 2, 1) ∧ 218 + 1 = 219 := ⟨by decide +kernel, rfl⟩
theorem dL_law_219 : decode cL_law 219 = .ok (.iadd, 1) ∧ 219 + 1 = 220 := ⟨by decide +kernel, rfl⟩
theorem dL_law_220 : decode cL_law 220 = .ok (.iaload, 1) ∧ 220 + 1 = 221 := ⟨by decide +kernel, rfl⟩
theorem dL_law_221 : decode cL_law 221 = .ok (.invokevirtual 26, 3) ∧ 221 + 3 = 224 := ⟨by decide +kernel, rfl⟩
theorem dL_law_224 : decode cL_law 224 = .ok (.if_icmp .eq 513, 3) ∧ 224 + 3 = 227 ∧ ((224 : Nat) : Int) + (513) = ((737 : Nat) : Int) := ⟨by decide +kernel, rfl, rfl⟩
theorem dL_law_227 : decode cL_law 227 = .ok (.iconst 0, 1) ∧ 227 + 1 = 228 := ⟨by decide +kernel, rfl⟩
theorem dL_law_228 : decode cL_law 228 = .ok (.ireturn, 1) ∧ 228 + 1 = 229 := ⟨by decide +kernel, rfl⟩
theorem dL_law_229 : decode cL_law 229 = .ok (.aload_n 1, 1) ∧ 229 + 1 = 230 := ⟨by decide +kernel, rfl⟩
theorem dL_law_230 : decode cL_law 230 = .ok (.aload_n 0, 1) ∧ 230 + 1 = 231 := ⟨by decide +kernel, rfl⟩
theorem dL_law_231 : decode cL_law 231 = .ok (.iload_n 3, 1) ∧ 231 + 1 = 232 := ⟨by decide +kernel, rfl⟩
theorem dL_law_232 : decode cL_law 232 = .ok (.iconst 1, 1) ∧ 232 + 1 = 233 := ⟨by decide +kernel, rfl⟩
theorem dL_law_233 : decode cL_law 233 = .ok (.iadd, 1) ∧ 233 + 1 = 234 := ⟨by decide +kernel, rfl⟩
theorem dL_law_234 : decode cL_law 234 = .ok (.iaload, 1) ∧ 234 + 1 = 235 := ⟨by decide +kernel, rfl⟩
theorem dL_law_235 : decode cL_law 235 = .ok (.invokevirtual 27, 3) ∧ 235 + 3 = 238 := ⟨by decide +kernel, rfl⟩
theorem dL_law_238 : decode cL_law 238 = .ok (.aload_n 2, 1) ∧ 238 + 1 = 239 := ⟨by decide +kernel, rfl⟩
theorem dL_law_239 : decode cL_law 239 = .ok (.aload_n 0, 1) ∧ 239 + 1 = 240 := ⟨by decide +kernel, rfl⟩
theorem dL_law_240 : decode cL_law 240 = .ok (.iload_n 3, 1) ∧ 240 + 1 = 241 := ⟨by decide +kernel, rfl⟩
theorem dL_law_241 : decode cL_law 241 = .ok (.iconst 1, 1) ∧ 241 + 1 = 242 := ⟨by decide +kernel, rfl⟩
theorem dL_law_242 : decode cL_law 242 = .ok (.iadd, 1) ∧ 242 + 1 = 243 := ⟨by decide +kernel, rfl⟩
theorem dL_law_243 : decode cL_law 243 = .ok (.iaload, 1) ∧ 243 + 1 = 244 := ⟨by decide +kernel, rfl⟩
theorem dL_law_244 : decode cL_law 244 = .ok (.invokevirtual 30, 3) ∧ 244 + 3 = 247 := ⟨by decide +kernel, rfl⟩
theorem dL_law_247 : decode cL_law 247 = .ok (.if_icmp .eq 490, 3) ∧ 247 + 3 = 250 ∧ ((247 : Nat) : Int) + (490) = ((737 : Nat) : Int) := ⟨by decide +kernel, rfl, rfl⟩
theorem dL_law_250 : decode cL_law 250 = .ok (.iconst 0, 1) ∧ 250 + 1 = 251 := ⟨by decide +kernel, rfl⟩
theorem dL_law_251 : decode cL_law 251 = .ok (.ireturn, 1) ∧ 251 + 1 = 252 := ⟨by decide +kernel, rfl⟩
theorem dL_law_252 : decode cL_law 252 = .ok (.aload_n 1, 1) ∧ 252 + 1 = 253 := ⟨by decide +kernel, rfl⟩
theorem dL_law_253 : decode cL_law 253 = .ok (.aload_n 0, 1) ∧ 253 + 1 = 254 := ⟨by decide +kernel, rfl⟩
theorem dL_law_254 : decode cL_law 254 = .ok (.iload_n 3, 1) ∧ 254 + 1 = 255 := ⟨by decide +kernel, rfl⟩
theorem dL_law_255 : decode cL_law 255 = .ok (.iconst 1, 1) ∧ 255 + 1 = 256 := ⟨by decide +kernel, rfl⟩
theorem dL_law_256 : decode cL_law 256 = .ok (.iadd, 1) ∧ 256 + 1 = 257 := ⟨by decide +kernel, rfl⟩
theorem dL_law_257 : decode cL_law 257 = .ok (.iaload, 1) ∧ 257 + 1 = 258 := ⟨by decide +kernel, rfl⟩
theorem dL_law_258 : decode cL_law 258 = .ok (.aload_n 0, 1) ∧ 258 + 1 = 259 := ⟨by decide +kernel, rfl⟩
theorem dL_law_259 : decode cL_law 259 = .ok (.iload_n 3, 1) ∧ 259 + 1 = 260 := ⟨by decide +kernel, rfl⟩
theorem dL_law_260 : decode cL_law 260 = .ok (.iconst 2, 1) ∧ 260 + 1 = 261 := ⟨by decide +kernel, rfl⟩
theorem dL_law_261 : decode cL_law 261 = .ok (.iadd, 1) ∧ 261 + 1 = 262 := ⟨by decide +kernel, rfl⟩
theorem dL_law_262 : decode cL_law 262 = .ok (.iaload, 1) ∧ 262 + 1 = 263 := ⟨by decide +kernel, rfl⟩
theorem dL_law_263 : decode cL_law 263 = .ok (.invokevirtual 31, 3) ∧ 263 + 3 = 266 := ⟨by decide +kernel, rfl⟩
theorem dL_law_266 : decode cL_law 266 = .ok (.aload_n 2, 1) ∧ 266 + 1 = 267 := ⟨by decide +kernel, rfl⟩
theorem dL_law_267 : decode cL_law 267 = .ok (.aload_n 0, 1) ∧ 267 + 1 = 268 := ⟨by decide +kernel, rfl⟩
theorem dL_law_268 : decode cL_law 268 = .ok (.iload_n 3, 1) ∧ 268 + 1 = 269 := ⟨by decide +kernel, rfl⟩
theorem dL_law_269 : decode cL_law 269 = .ok (.iconst 1, 1) ∧ 269 + 1 = 270 := ⟨by decide +kernel, rfl⟩
theorem dL_law_270 : decode cL_law 270 = .ok (.iadd, 1) ∧ 270 + 1 = 271 := ⟨by decide +kernel, rfl⟩
theorem dL_law_271 : decode cL_law 271 = .ok (.iaload, 1) ∧ 271 + 1 = 272 := ⟨by decide +kernel, rfl⟩
theorem dL_law_272 : decode cL_law 272 = .ok (.aload_n 0, 1) ∧ 272 + 1 = 273 := ⟨by decide +kernel, rfl⟩
theorem dL_law_273 : decode cL_law 273 = .ok (.iload_n 3, 1) ∧ 273 + 1 = 274 := ⟨by decide +kernel, rfl⟩
theorem dL_law_274 : decode cL_law 274 = .ok (.iconst 2, 1) ∧ 274 + 1 = 275 := ⟨by decide +kernel, rfl⟩
theorem dL_law_275 : decode cL_law 275 = .ok (.iadd, 1) ∧ 275 + 1 = 276 := ⟨by decide +kernel, rfl⟩
theorem dL_law_276 : decode cL_law 276 = .ok (.iaload, 1) ∧ 276 + 1 = 277 := ⟨by decide +kernel, rfl⟩
theorem dL_law_277 : decode cL_law 277 = .ok (.invokevirtual 34, 3) ∧ 277 + 3 = 280 := ⟨by decide +kernel, rfl⟩
theorem dL_law_280 : decode cL_law 280 = .ok (.if_icmp .eq 457, 3) ∧ 280 + 3 = 283 ∧ ((280 : Nat) : Int) + (457) = ((737 : Nat) : Int) := ⟨by decide +kernel, rfl, rfl⟩
theorem dL_law_283 : decode cL_law 283 = .ok (.iconst 0, 1) ∧ 283 + 1 = 284 := ⟨by decide +kernel, rfl⟩
theorem dL_law_284 : decode cL_law 284 = .ok (.ireturn, 1) ∧ 284 + 1 = 285 := ⟨by decide +kernel, rfl⟩
theorem dL_law_285 : decode cL_law 285 = .ok (.aload_n 1, 1) ∧ 285 + 1 = 286 := ⟨by decide +kernel, rfl⟩
theorem dL_law_286 : decode cL_law 286 = .ok (.aload_n 0, 1) ∧ 286 + 1 = 287 := ⟨by decide +kernel, rfl⟩
theorem dL_law_287 : decode cL_law 287 = .ok (.iload_n 3, 1) ∧ 287 + 1 = 288 := ⟨by decide +kernel, rfl⟩
theorem dL_law_288 : decode cL_law 288 = .ok (.iconst 1, 1) ∧ 288 + 1 = 289 := ⟨by decide +kernel, rfl⟩
theorem dL_law_289 : decode cL_law 289 = .ok (.iadd, 1) ∧ 289 + 1 = 290 := ⟨by decide +kernel, rfl⟩
theorem dL_law_290 : decode cL_law 290 = .ok (.iaload, 1) ∧ 290 + 1 = 291 := ⟨by decide +kernel, rfl⟩
theorem dL_law_291 : decode cL_law 291 = .ok (.invokevirtual 35, 3) ∧ 291 + 3 = 294 := ⟨by decide +kernel, rfl⟩
theorem dL_law_294 : decode cL_law 294 = .ok (.aload_n 2, 1) ∧ 294 + 1 = 295 := ⟨by decide +kernel, rfl⟩
theorem dL_law_295 : decode cL_law 295 = .ok (.aload_n 0, 1) ∧ 295 + 1 = 296 := ⟨by decide +kernel, rfl⟩
theorem dL_law_296 : decode cL_law 296 = .ok (.iload_n 3, 1) ∧ 296 + 1 = 297 := ⟨by decide +kernel, rfl⟩
theorem dL_law_297 : decode cL_law 297 = .ok (.iconst 1, 1) ∧ 297 + 1 = 298 := ⟨by decide +kernel, rfl⟩
theorem dL_law_298 : decode cL_law 298 = .ok (.iadd, 1) ∧ 298 + 1 = 299 := ⟨by decide +kernel, rfl⟩
theorem dL_law_299 : decode cL_law 299 = .ok (.iaload, 1) ∧ 299 + 1 = 300 := ⟨by decide +kernel, rfl⟩
theorem dL_law_300 : decode cL_law 300 = .ok (.invokevirtual 38, 3) ∧ 300 + 3 = 303 := ⟨by decide +kernel, rfl⟩
theorem dL_law_303 : decode cL_law 303 = .ok (.if_icmp .eq 434, 3) ∧ 303 + 3 = 306 ∧ ((303 : Nat) : Int) + (434) = ((737 : Nat) : Int) := ⟨by decide +kernel, rfl, rfl⟩
theorem dL_law_306 : decode cL_law 306 = .ok (.iconst 0, 1) ∧ 306 + 1 = 307 := ⟨by decide +kernel, rfl⟩
theorem dL_law_307 : decode cL_law 307 = .ok (.ireturn, 1) ∧ 307 + 1 = 308 := ⟨by decide +kernel, rfl⟩
theorem dL_law_308 : decode cL_law 308 = .ok (.aload_n 1, 1) ∧ 308 + 1 = 309 := ⟨by decide +kernel, rfl⟩
theorem dL_law_309 : decode cL_law 309 = .ok (.aload_n 0, 1) ∧ 309 + 1 = 310 := ⟨by decide +kernel, rfl⟩
theorem dL_law_310 : decode cL_law 310 = .ok (.iload_n 3, 1) ∧ 310 + 1 = 311 := ⟨by decide +kernel, rfl⟩
theorem dL_law_311 : decode cL_law 311 = .ok (.iconst 1, 1) ∧ 311 + 1 = 312 := ⟨by decide +kernel, rfl⟩
theorem dL_law_312 : decode cL_law 312 = .ok (.iadd, 1) ∧ 312 + 1 = 313 := ⟨by decide +kernel, rfl⟩
theorem dL_law_313 : decode cL_law 313 = .ok (.iaload, 1) ∧ 313 + 1 = 314 := ⟨by decide +kernel, rfl⟩
theorem dL_law_314 : decode cL_law 314 = .ok (.aload_n 0, 1) ∧ 314 + 1 = 315 := ⟨by decide +kernel, rfl⟩
theorem dL_law_315 : decode cL_law 315 = .ok (.iload_n 3, 1) ∧ 315 + 1 = 316 := ⟨by decide +kernel, rfl⟩
theorem dL_law_316 : decode cL_law 316 = .ok (.iconst 2, 1) ∧ 316 + 1 = 317 := ⟨by decide +kernel, rfl⟩
theorem dL_law_317 : decode cL_law 317 = .ok (.iadd, 1) ∧ 317 + 1 = 318 := ⟨by decide +kernel, rfl⟩
theorem dL_law_318 : decode cL_law 318 = .ok (.iaload, 1) ∧ 318 + 1 = 319 := ⟨by decide +kernel, rfl⟩
theorem dL_law_319 : decode cL_law 319 = .ok (.invokevirtual 39, 3) ∧ 319 + 3 = 322 := ⟨by decide +kernel, rfl⟩
theorem dL_law_322 : decode cL_law 322 = .ok (.aload_n 2, 1) ∧ 322 + 1 = 323 := ⟨by decide +kernel, rfl⟩
theorem dL_law_323 : decode cL_law 323 = .ok (.aload_n 0, 1) ∧ 323 + 1 = 324 := ⟨by decide +kernel, rfl⟩
theorem dL_law_324 : decode cL_law 324 = .ok (.iload_n 3, 1) ∧ 324 + 1 = 325 := ⟨by decide +kernel, rfl⟩
theorem dL_law_325 : decode cL_law 325 = .ok (.iconst 1, 1) ∧ 325 + 1 = 326 := ⟨by decide +kernel, rfl⟩
theorem dL_law_326 : decode cL_law 326 = .ok (.iadd, 1) ∧ 326 + 1 = 327 := ⟨by decide +kernel, rfl⟩
theorem dL_law_327 : decode cL_law 327 = .ok (.iaload, 1) ∧ 327 + 1 = 328 := ⟨by decide +kernel, rfl⟩
theorem dL_law_328 : decode cL_law 328 = .ok (.aload_n 0, 1) ∧ 328 + 1 = 329 := ⟨by decide +kernel, rfl⟩
theorem dL_law_329 : decode cL_law 329 = .ok (.iload_n 3, 1) ∧ 329 + 1 = 330 := ⟨by decide +kernel, rfl⟩
theorem dL_law_330 : decode cL_law 330 = .ok (.iconst 2, 1) ∧ 330 + 1 = 331 := ⟨by decide +kernel, rfl⟩
theorem dL_law_331 : decode cL_law 331 = .ok (.iadd, 1) ∧ 331 + 1 = 332 := ⟨by decide +kernel, rfl⟩
theorem dL_law_332 : decode cL_law 332 = .ok (.iaload, 1) ∧ 332 + 1 = 333 := ⟨by decide +kernel, rfl⟩
theorem dL_law_333 : decode cL_law 333 = .ok (.invokevirtual 42, 3) ∧ 333 + 3 = 336 := ⟨by decide +kernel, rfl⟩
theorem dL_law_336 : decode cL_law 336 = .ok (.if_icmp .eq 401, 3) ∧ 336 + 3 = 339 ∧ ((336 : Nat) : Int) + (401) = ((737 : Nat) : Int) := ⟨by decide +kernel, rfl, rfl⟩
theorem dL_law_339 : decode cL_law 339 = .ok (.iconst 0, 1) ∧ 339 + 1 = 340 := ⟨by decide +kernel, rfl⟩
theorem dL_law_340 : decode cL_law 340 = .ok (.ireturn, 1) ∧ 340 + 1 = 341 := ⟨by decide +kernel, rfl⟩
theorem dL_law_341 : decode cL_law 341 = .ok (.aload_n 1, 1) ∧ 341 + 1 = 342 := ⟨by decide +kernel, rfl⟩
theorem dL_law_342 : decode cL_law 342 = .ok (.aload_n 0, 1) ∧ 342 + 1 = 343 := ⟨by decide +kernel, rfl⟩
theorem dL_law_343 : decode cL_law 343 = .ok (.iload_n 3, 1) ∧ 343 + 1 = 344 := ⟨by decide +kernel, rfl⟩
theorem dL_law_344 : decode cL_law 344 = .ok (.iconst 1, 1) ∧ 344 + 1 = 345 := ⟨by decide +kernel, rfl⟩
theorem dL_law_345 : decode cL_law 345 = .ok (.iadd, 1) ∧ 345 + 1 = 346 := ⟨by decide +kernel, rfl⟩
theorem dL_law_346 : decode cL_law 346 = .ok (.iaload, 1) ∧ 346 + 1 = 347 := ⟨by decide +kernel, rfl⟩
theorem dL_law_347 : decode cL_law 347 = .ok (.aload_n 0, 1) ∧ 347 + 1 = 348 := ⟨by decide +kernel, rfl⟩
theorem dL_law_348 : decode cL_law 348 = .ok (.iload_n 3, 1) ∧ 348 + 1 = 349 := ⟨by decide +kernel, rfl⟩
theorem dL_law_349 : decode cL_law 349 = .ok (.iconst 2, 1) ∧ 349 + 1 = 350 := ⟨by decide +kernel, rfl⟩
theorem dL_law_350 : decode cL_law 350 = .ok (.iadd, 1) ∧ 350 + 1 = 351 := ⟨by decide +kernel, rfl⟩
theorem dL_law_351 : decode cL_law 351 = .ok (.iaload, 1) ∧ 351 + 1 = 352 := ⟨by decide +kernel, rfl⟩
theorem dL_law_352 : decode cL_law 352 = .ok (.ifCond .eq 7, 3) ∧ 352 + 3 = 355 ∧ ((352 : Nat) : Int) + (7) = ((359 : Nat) : Int) := ⟨by decide +kernel, rfl, rfl⟩
theorem dL_law_355 : decode cL_law 355 = .ok (.iconst 1, 1) ∧ 355 + 1 = 356 := ⟨by decide +kernel, rfl⟩
theorem dL_law_356 : decode cL_law 356 = .ok (.goto 4, 3) ∧ 356 + 3 = 359 ∧ ((356 : Nat) : Int) + (4) = ((360 : Nat) : Int) := ⟨by decide +kernel, rfl, rfl⟩
theorem dL_law_359 : decode cL_law 359 = .ok (.iconst 0, 1) ∧ 359 + 1 = 360 := ⟨by decide +kernel, rfl⟩
theorem dL_law_360 : decode cL_law 360 = .ok (.invokevirtual 43, 3) ∧ 360 + 3 = 363 := ⟨by decide +kernel, rfl⟩
theorem dL_law_363 : decode cL_law 363 = .ok (.aload_n 2, 1) ∧ 363 + 1 = 364 := ⟨by decide +kernel, rfl⟩
theorem dL_law_364 : decode cL_law 364 = .ok (.aload_n 0, 1) ∧ 364 + 1 = 365 := ⟨by decide +kernel, rfl⟩
theorem dL_law_365 : decode cL_law 365 = .ok (.iload_n 3, 1) ∧ 365 + 1 = 366 := ⟨by decide +kernel, rfl⟩
theorem dL_law_366 : decode cL_law 366 = .ok (.iconst 1, 1) ∧ 366 + 1 = 367 := ⟨by decide +kernel, rfl⟩
theorem dL_law_367 : decode cL_law 367 = .ok (.iadd, 1) ∧ 367 + 1 = 368 := ⟨by decide +kernel, rfl⟩
theorem dL_law_368 : decode cL_law 368 = .ok (.iaload, 1) ∧ 368 + 1 = 369 := ⟨by decide +kernel, rfl⟩
theorem dL_law_369 : decode cL_law 369 = .ok (.aload_n 0, 1) ∧ 369 + 1 = 370 := ⟨by decide +kernel, rfl⟩
theorem dL_law_370 : decode cL_law 370 = .ok (.iload_n 3, 1) ∧ 370 + 1 = 371 := ⟨by decide +kernel, rfl⟩
theorem dL_law_371 : decode cL_law 371 = .ok (.iconst 2, 1) ∧ 371 + 1 = 372 := ⟨by decide +kernel, rfl⟩
theorem dL_law_372 : decode cL_law 372 = .ok (.iadd, 1) ∧ 372 + 1 = 373 := ⟨by decide +kernel, rfl⟩
theorem dL_law_373 : decode cL_law 373 = .ok (.iaload, 1) ∧ 373 + 1 = 374 := ⟨by decide +kernel, rfl⟩
theorem dL_law_374 : decode cL_law 374 = .ok (.ifCond .eq 7, 3) ∧ 374 + 3 = 377 ∧ ((374 : Nat) : Int) + (7) = ((381 : Nat) : Int) := ⟨by decide +kernel, rfl, rfl⟩
theorem dL_law_377 : decode cL_law 377 = .ok (.iconst 1, 1) ∧ 377 + 1 = 378 := ⟨by decide +kernel, rfl⟩
theorem dL_law_378 : decode cL_law 378 = .ok (.goto 4, 3) ∧ 378 + 3 = 381 ∧ ((378 : Nat) : Int) + (4) = ((382 : Nat) : Int) := ⟨by decide +kernel, rfl, rfl⟩
theorem dL_law_381 : decode cL_law 381 = .ok (.iconst 0, 1) ∧ 381 + 1 = 382 := ⟨by decide +kernel, rfl⟩
theorem dL_law_382 : decode cL_law 382 = .ok (.invokevirtual 47, 3) ∧ 382 + 3 = 385 := ⟨by decide +kernel, rfl⟩
theorem dL_law_385 : decode cL_law 385 = .ok (.if_icmp .eq 352, 3) ∧ 385 + 3 = 388 ∧ ((385 : Nat) : Int) + (352) = ((737 : Nat) : Int) := ⟨by decide +kernel, rfl, rfl⟩
theorem dL_law_388 : decode cL_law 388 = .ok (.iconst 0, 1) ∧ 388 + 1 = 389 := ⟨by decide +kernel, rfl⟩
theorem dL_law_389 : decode cL_law 389 = .ok (.ireturn, 1) ∧ 389 + 1 = 390 := ⟨by decide +kernel, rfl⟩
theorem dL_law_390 : decode cL_law 390 = .ok (.aload_n 1, 1) ∧ 390 + 1 = 391 := ⟨by decide +kernel, rfl⟩
theorem dL_law_391 : decode cL_law 391 = .ok (.aload_n 0, 1) ∧ 391 + 1 = 392 := ⟨by decide +kernel, rfl⟩
theorem dL_law_392 : decode cL_law 392 = .ok (.iload_n 3, 1) ∧ 392 + 1 = 393 := ⟨by decide +kernel, rfl⟩
theorem dL_law_393 : decode cL_law 393 = .ok (.iconst 1, 1) ∧ 393 + 1 = 394 := ⟨by decide +kernel, rfl⟩
theorem dL_law_394 : decode cL_law 394 = .ok (.iadd, 1) ∧ 394 + 1 = 395 := ⟨by decide +kernel, rfl⟩
theorem dL_law_395 : decode cL_law 395 = .ok (.iaload, 1) ∧ 395 + 1 = 396 := ⟨by decide +kernel, rfl⟩
theorem dL_law_396 : decode cL_law 396 = .ok (.invokevirtual 48, 3) ∧ 396 + 3 = 399 := ⟨by decide +kernel, rfl⟩
theorem dL_law_399 : decode cL_law 399 = .ok (.aload_n 2, 1) ∧ 399 + 1 = 400 := ⟨by decide +kernel, rfl⟩
theorem dL_law_400 : decode cL_law 400 = .ok (.aload_n 0, 1) ∧ 400 + 1 = 401 := ⟨by decide +kernel, rfl⟩
theorem dL_law_401 : decode cL_law 401 = .ok (.iload_n 3, 1) ∧ 401 + 1 = 402 := ⟨by decide +kernel, rfl⟩
theorem dL_law_402 : decode cL_law 402 = .ok (.iconst 1, 1) ∧ 402 + 1 = 403 := ⟨by decide +kernel, rfl⟩
theorem dL_law_403 : decode cL_law 403 = .ok (.iadd, 1) ∧ 403 + 1 = 404 := ⟨by decide +kernel, rfl⟩
theorem dL_law_404 : decode cL_law 404 = .ok (.iaload, 1) ∧ 404 + 1 = 405 := ⟨by decide +kernel, rfl⟩
theorem dL_law_405 : decode cL_law 405 = .ok (.invokevirtual 51, 3) ∧ 405 + 3 = 408 := ⟨by decide +kernel, rfl⟩
theorem dL_law_408 : decode cL_law 408 = .ok (.if_icmp .eq 329, 3) ∧ 408 + 3 = 411 ∧ ((408 : Nat) : Int) + (329) = ((737 : Nat) : Int) := ⟨by decide +kernel, rfl, rfl⟩
theorem dL_law_411 : decode cL_law 411 = .ok (.iconst 0, 1) ∧ 411 + 1 = 412 := ⟨by decide +kernel, rfl⟩
theorem dL_law_412 : decode cL_law 412 = .ok (.ireturn, 1) ∧ 412 + 1 = 413 := ⟨by decide +kernel, rfl⟩
theorem dL_law_413 : decode cL_law 413 = .ok (.aload_n 1, 1) ∧ 413 + 1 = 414 := ⟨by decide +kernel, rfl⟩
theorem dL_law_414 : decode cL_law 414 = .ok (.aload_n 0, 1) ∧ 414 + 1 = 415 := ⟨by decide +kernel, rfl⟩
theorem dL_law_415 : decode cL_law 415 = .ok (.iload_n 3, 1) ∧ 415 + 1 = 416 := ⟨by decide +kernel, rfl⟩
theorem dL_law_416 : decode cL_law 416 = .ok (.iconst 1, 1) ∧ 416 + 1 = 417 := ⟨by decide +kernel, rfl⟩
theorem dL_law_417 : decode cL_law 417 = .ok (.iadd, 1) ∧ 417 + 1 = 418 := ⟨by decide +kernel, rfl⟩
theorem dL_law_418 : decode cL_law 418 = .ok (.iaload, 1) ∧ 418 + 1 = 419 := ⟨by decide +kernel, rfl⟩
theorem dL_law_419 : decode cL_law 419 = .ok (.invokevirtual 52, 3) ∧ 419 + 3 = 422 := ⟨by decide +kernel, rfl⟩
theorem dL_law_422 : decode cL_law 422 = .ok (.aload_n 2, 1) ∧ 422 + 1 = 423 := ⟨by decide +kernel, rfl⟩
theorem dL_law_423 : decode cL_law 423 = .ok (.aload_n 0, 1) ∧ 423 + 1 = 424 := ⟨by decide +kernel, rfl⟩
theorem dL_law_424 : decode cL_law 424 = .ok (.iload_n 3, 1) ∧ 424 + 1 = 425 := ⟨by decide +kernel, rfl⟩
theorem dL_law_425 : decode cL_law 425 = .ok (.iconst 1, 1) ∧ 425 + 1 = 426 := ⟨by decide +kernel, rfl⟩
theorem dL_law_426 : decode cL_law 426 = .ok (.iadd, 1) ∧ 426 + 1 = 427 := ⟨by decide +kernel, rfl⟩
theorem dL_law_427 : decode cL_law 427 = .ok (.iaload, 1) ∧ 427 + 1 = 428 := ⟨by decide +kernel, rfl⟩
theorem dL_law_428 : decode cL_law 428 = .ok (.invokevirtual 55, 3) ∧ 428 + 3 = 431 := ⟨by decide +kernel, rfl⟩
theorem dL_law_431 : decode cL_law 431 = .ok (.if_icmp .eq 306, 3) ∧ 431 + 3 = 434 ∧ ((431 : Nat) : Int) + (306) = ((737 : Nat) : Int) := ⟨by decide +kernel, rfl, rfl⟩
theorem dL_law_434 : decode cL_law 434 = .ok (.iconst 0, 1) ∧ 434 + 1 = 435 := ⟨by decide +kernel, rfl⟩
theorem dL_law_435 : decode cL_law 435 = .ok (.ireturn, 1) ∧ 435 + 1 = 436 := ⟨by decide +kernel, rfl⟩
theorem dL_law_436 : decode cL_law 436 = .ok (.aload_n 1, 1) ∧ 436 + 1 = 437 := ⟨by decide +kernel, rfl⟩
theorem dL_law_437 : decode cL_law 437 = .ok (.aload_n 0, 1) ∧ 437 + 1 = 438 := ⟨by decide +kernel, rfl⟩
theorem dL_law_438 : decode cL_law 438 = .ok (.iload_n 3, 1) ∧ 438 + 1 = 439 := ⟨by decide +kernel, rfl⟩
theorem dL_law_439 : decode cL_law 439 = .ok (.iconst 1, 1) ∧ 439 + 1 = 440 := ⟨by decide +kernel, rfl⟩
theorem dL_law_440 : decode cL_law 440 = .ok (.iadd, 1) ∧ 440 + 1 = 441 := ⟨by decide +kernel, rfl⟩
theorem dL_law_441 : decode cL_law 441 = .ok (.iaload, 1) ∧ 441 + 1 = 442 := ⟨by decide +kernel, rfl⟩
theorem dL_law_442 : decode cL_law 442 = .ok (.i2c, 1) ∧ 442 + 1 = 443 := ⟨by decide +kernel, rfl⟩
theorem dL_law_443 : decode cL_law 443 = .ok (.invokevirtual 56, 3) ∧ 443 + 3 = 446 := ⟨by decide +kernel, rfl⟩
theorem dL_law_446 : decode cL_law 446 = .ok (.aload_n 2, 1) ∧ 446 + 1 = 447 := ⟨by decide +kernel, rfl⟩
theorem dL_law_447 : decode cL_law 447 = .ok (.aload_n 0, 1) ∧ 447 + 1 = 448 := ⟨by decide +kernel, rfl⟩
theorem dL_law_448 : decode cL_law 448 = .ok (.iload_n 3, 1) ∧ 448 + 1 = 449 := ⟨by decide +kernel, rfl⟩
theorem dL_law_449 : decode cL_law 449 = .ok (.iconst 1, 1) ∧ 449 + 1 = 450 := ⟨by decide +kernel, rfl⟩
theorem dL_law_450 : decode cL_law 450 = .ok (.iadd, 1) ∧ 450 + 1 = 451 := ⟨by decide +kernel, rfl⟩
theorem dL_law_451 : decode cL_law 451 = .ok (.iaload, 1) ∧ 451 + 1 = 452 := ⟨by decide +kernel, rfl⟩
theorem dL_law_452 : decode cL_law 452 = .ok (.i2c, 1) ∧ 452 + 1 = 453 := ⟨by decide +kernel, rfl⟩
theorem dL_law_453 : decode cL_law 453 = .ok (.invokevirtual 60, 3) ∧ 453 + 3 = 456 := ⟨by decide +kernel, rfl⟩
theorem dL_law_456 : decode cL_law 456 = .ok (.if_icmp .eq 281, 3) ∧ 456 + 3 = 459 ∧ ((456 : Nat) : Int) + (281) = ((737 : Nat) : Int) := ⟨by decide +kernel, rfl, rfl⟩
theorem dL_law_459 : decode cL_law 459 = .ok (.iconst 0, 1) ∧ 459 + 1 = 460 := ⟨by decide +kernel, rfl⟩
theorem dL_law_460 : decode cL_law 460 = .ok (.ireturn, 1) ∧ 460 + 1 = 461 := ⟨by decide +kernel, rfl⟩
theorem dL_law_461 : decode cL_law 461 = .ok (.aload_n 1, 1) ∧ 461 + 1 = 462 := ⟨by decide +kernel, rfl⟩
theorem dL_law_462 : decode cL_law 462 = .ok (.invokevirtual 61, 3) ∧ 462 + 3 = 465 := ⟨by decide +kernel, rfl⟩
theorem dL_law_465 : decode cL_law 465 = .ok (.aload_n 2, 1) ∧ 465 + 1 = 466 := ⟨by decide +kernel, rfl⟩
theorem dL_law_466 : decode cL_law 466 = .ok (.invokevirtual 65, 3) ∧ 466 + 3 = 469 := ⟨by decide +kernel, rfl⟩
theorem dL_law_469 : decode cL_law 469 = .ok (.if_icmp .eq 268, 3) ∧ 469 + 3 = 472 ∧ ((469 : Nat) : Int) + (268) = ((737 : Nat) : Int) := ⟨by decide +kernel, rfl, rfl⟩
theorem dL_law_472 : decode cL_law 472 = .ok (.iconst 0, 1) ∧ 472 + 1 = 473 := ⟨by decide +kernel, rfl⟩
theorem dL_law_473 : decode cL_law 473 = .ok (.ireturn, 1) ∧ 473 + 1 = 474 := ⟨by decide +kernel, rfl⟩
theorem dL_law_474 : decode cL_law 474 = .ok (.aload_n 1, 1) ∧ 474 + 1 = 475 := ⟨by decide +kernel, rfl⟩
theorem dL_law_475 : decode cL_law 475 = .ok (.invokevirtual 66, 3) ∧ 475 + 3 = 478 := ⟨by decide +kernel, rfl⟩
theorem dL_law_478 : decode cL_law 478 = .ok (.aload_n 2, 1) ∧ 478 + 1 = 479 := ⟨by decide +kernel, rfl⟩
theorem dL_law_479 : decode cL_law 479 = .ok (.invokevirtual 69, 3) ∧ 479 + 3 = 482 := ⟨by decide +kernel, rfl⟩
theorem dL_law_482 : decode cL_law 482 = .ok (.if_icmp .eq 255, 3) ∧ 482 + 3 = 485 ∧ ((482 : Nat) : Int) + (255) = ((737 : Nat) : Int) := ⟨by decide +kernel, rfl, rfl⟩
theorem dL_law_485 : decode cL_law 485 = .ok (.iconst 0, 1) ∧ 485 + 1 = 486 := ⟨by decide +kernel, rfl⟩
theorem dL_law_486 : decode cL_law 486 = .ok (.ireturn, 1) ∧ 486 + 1 = 487 := ⟨by decide +kernel, rfl⟩
theorem dL_law_487 : decode cL_law 487 = .ok (.aload_n 1, 1) ∧ 487 + 1 = 488 := ⟨by decide +kernel, rfl⟩
theorem dL_law_488 : decode cL_law 488 = .ok (.invokevirtual 70, 3) ∧ 488 + 3 = 491 := ⟨by decide +kernel, rfl⟩
theorem dL_law_491 : decode cL_law 491 = .ok (.aload_n 2, 1) ∧ 491 + 1 = 492 := ⟨by decide +kernel, rfl⟩
theorem dL_law_492 : decode cL_law 492 = .ok (.invokevirtual 73, 3) ∧ 492 + 3 = 495 := ⟨by decide +kernel, rfl⟩
theorem dL_law_495 : decode cL_law 495 = .ok (.if_icmp .eq 242, 3) ∧ 495 + 3 = 498 ∧ ((495 : Nat) : Int) + (242) = ((737 : Nat) : Int) := ⟨by decide +kernel, rfl, rfl⟩
theorem dL_law_498 : decode cL_law 498 = .ok (.iconst 0, 1) ∧ 498 + 1 = 499 := ⟨by decide +kernel, rfl⟩
theorem dL_law_499 : decode cL_law 499 = .ok (.ireturn, 1) ∧ 499 + 1 = 500 := ⟨by decide +kernel, rfl⟩
theorem dL_law_500 : decode cL_law 500 = .ok (.aload_n 1, 1) ∧ 500 + 1 = 501 := ⟨by decide +kernel, rfl⟩
theorem dL_law_501 : decode cL_law 501 = .ok (.invokevirtual 74, 3) ∧ 501 + 3 = 504 := ⟨by decide +kernel, rfl⟩
theorem dL_law_504 : decode cL_law 504 = .ok (.aload_n 2, 1) ∧ 504 + 1 = 505 := ⟨by decide +kernel, rfl⟩
theorem dL_law_505 : decode cL_law 505 = .ok (.invokevirtual 77, 3) ∧ 505 + 3 = 508 := ⟨by decide +kernel, rfl⟩
theorem dL_law_508 : decode cL_law 508 = .ok (.if_icmp .eq 229, 3) ∧ 508 + 3 = 511 ∧ ((508 : Nat) : Int) + (229) = ((737 : Nat) : Int) := ⟨by decide +kernel, rfl, rfl⟩
theorem dL_law_511 : decode cL_law 511 = .ok (.iconst 0, 1) ∧ 511 + 1 = 512 := ⟨by decide +kernel, rfl⟩
theorem dL_law_512 : decode cL_law 512 = .ok (.ireturn, 1) ∧ 512 + 1 = 513 := ⟨by decide +kernel, rfl⟩
theorem dL_law_513 : decode cL_law 513 = .ok (.aload_n 1, 1) ∧ 513 + 1 = 514 := ⟨by decide +kernel, rfl⟩
theorem dL_law_514 : decode cL_law 514 = .ok (.invokevirtual 78, 3) ∧ 514 + 3 = 517 := ⟨by decide +kernel, rfl⟩
theorem dL_law_517 : decode cL_law 517 = .ok (.aload_n 2, 1) ∧ 517 + 1 = 518 := ⟨by decide +kernel, rfl⟩
theorem dL_law_518 : decode cL_law 518 = .ok (.invokevirtual 81, 3) ∧ 518 + 3 = 521 := ⟨by decide +kernel, rfl⟩
theorem dL_law_521 : decode cL_law 521 = .ok (.if_icmp .eq 216, 3) ∧ 521 + 3 = 524 ∧ ((521 : Nat) : Int) + (216) = ((737 : Nat) : Int) := ⟨by decide +kernel, rfl, rfl⟩
theorem dL_law_524 : decode cL_law 524 = .ok (.iconst 0, 1) ∧ 524 + 1 = 525 := ⟨by decide +kernel, rfl⟩
theorem dL_law_525 : decode cL_law 525 = .ok (.ireturn, 1) ∧ 525 + 1 = 526 := ⟨by decide +kernel, rfl⟩
theorem dL_law_526 : decode cL_law 526 = .ok (.aload_n 1, 1) ∧ 526 + 1 = 527 := ⟨by decide +kernel, rfl⟩
theorem dL_law_527 : decode cL_law 527 = .ok (.aload_n 0, 1) ∧ 527 + 1 = 528 := ⟨by decide +kernel, rfl⟩
theorem dL_law_528 : decode cL_law 528 = .ok (.iload_n 3, 1) ∧ 528 + 1 = 529 := ⟨by decide +kernel, rfl⟩
theorem dL_law_529 : decode cL_law 529 = .ok (.iconst 1, 1) ∧ 529 + 1 = 530 := ⟨by decide +kernel, rfl⟩
theorem dL_law_530 : decode cL_law 530 = .ok (.iadd, 1) ∧ 530 + 1 = 531 := ⟨by decide +kernel, rfl⟩
theorem dL_law_531 : decode cL_law 531 = .ok (.iaload, 1) ∧ 531 + 1 = 532 := ⟨by decide +kernel, rfl⟩
theorem dL_law_532 : decode cL_law 532 = .ok (.aload_n 0, 1) ∧ 532 + 1 = 533 := ⟨by decide +kernel, rfl⟩
theorem dL_law_533 : decode cL_law 533 = .ok (.iload_n 3, 1) ∧ 533 + 1 = 534 := ⟨by decide +kernel, rfl⟩
theorem dL_law_534 : decode cL_law 534 = .ok (.iconst 2, 1) ∧ 534 + 1 = 535 := ⟨by decide +kernel, rfl⟩
theorem dL_law_535 : decode cL_law 535 = .ok (.iadd, 1) ∧ 535 + 1 = 536 := ⟨by decide +kernel, rfl⟩
theorem dL_law_536 : decode cL_law 536 = .ok (.iaload, 1) ∧ 536 + 1 = 537 := ⟨by decide +kernel, rfl⟩
theorem dL_law_537 : decode cL_law 537 = .ok (.invokevirtual 82, 3) ∧ 537 + 3 = 540 := ⟨by decide +kernel, rfl⟩
theorem dL_law_540 : decode cL_law 540 = .ok (.aload_n 2, 1) ∧ 540 + 1 = 541 := ⟨by decide +kernel, rfl⟩
theorem dL_law_541 : decode cL_law 541 = .ok (.aload_n 0, 1) ∧ 541 + 1 = 542 := ⟨by decide +kernel, rfl⟩
theorem dL_law_542 : decode cL_law 542 = .ok (.iload_n 3, 1) ∧ 542 + 1 = 543 := ⟨by decide +kernel, rfl⟩
theorem dL_law_543 : decode cL_law 543 = .ok (.iconst 1, 1) ∧ 543 + 1 = 544 := ⟨by decide +kernel, rfl⟩
theorem dL_law_544 : decode cL_law 544 = .ok (.iadd, 1) ∧ 544 + 1 = 545 := ⟨by decide +kernel, rfl⟩
theorem dL_law_545 : decode cL_law 545 = .ok (.iaload, 1) ∧ 545 + 1 = 546 := ⟨by decide +kernel, rfl⟩
theorem dL_law_546 : decode cL_law 546 = .ok (.aload_n 0, 1) ∧ 546 + 1 = 547 := ⟨by decide +kernel, rfl⟩
theorem dL_law_547 : decode cL_law 547 = .ok (.iload_n 3, 1) ∧ 547 + 1 = 548 := ⟨by decide +kernel, rfl⟩
theorem dL_law_548 : decode cL_law 548 = .ok (.iconst 2, 1) ∧ 548 + 1 = 549 := ⟨by decide +kernel, rfl⟩
theorem dL_law_549 : decode cL_law 549 = .ok (.iadd, 1) ∧ 549 + 1 = 550 := ⟨by decide +kernel, rfl⟩
theorem dL_law_550 : decode cL_law 550 = .ok (.iaload, 1) ∧ 550 + 1 = 551 := ⟨by decide +kernel, rfl⟩
theorem dL_law_551 : decode cL_law 551 = .ok (.invokevirtual 85, 3) ∧ 551 + 3 = 554 := ⟨by decide +kernel, rfl⟩
theorem dL_law_554 : decode cL_law 554 = .ok (.if_icmp .eq 183, 3) ∧ 554 + 3 = 557 ∧ ((554 : Nat) : Int) + (183) = ((737 : Nat) : Int) := ⟨by decide +kernel, rfl, rfl⟩
theorem dL_law_557 : decode cL_law 557 = .ok (.iconst 0, 1) ∧ 557 + 1 = 558 := ⟨by decide +kernel, rfl⟩
theorem dL_law_558 : decode cL_law 558 = .ok (.ireturn, 1) ∧ 558 + 1 = 559 := ⟨by decide +kernel, rfl⟩
theorem dL_law_559 : decode cL_law 559 = .ok (.aload_n 1, 1) ∧ 559 + 1 = 560 := ⟨by decide +kernel, rfl⟩
theorem dL_law_560 : decode cL_law 560 = .ok (.aload_n 0, 1) ∧ 560 + 1 = 561 := ⟨by decide +kernel, rfl⟩
theorem dL_law_561 : decode cL_law 561 = .ok (.iload_n 3, 1) ∧ 561 + 1 = 562 := ⟨by decide +kernel, rfl⟩
theorem dL_law_562 : decode cL_law 562 = .ok (.iconst 1, 1) ∧ 562 + 1 = 563 := ⟨by decide +kernel, rfl⟩
theorem dL_law_563 : decode cL_law 563 = .ok (.iadd, 1) ∧ 563 + 1 = 564 := ⟨by decide +kernel, rfl⟩
theorem dL_law_564 : decode cL_law 564 = .ok (.iaload, 1) ∧ 564 + 1 = 565 := ⟨by decide +kernel, rfl⟩
theorem dL_law_565 : decode cL_law 565 = .ok (.aload_n 0, 1) ∧ 565 + 1 = 566 := ⟨by decide +kernel, rfl⟩
theorem dL_law_566 : decode cL_law 566 = .ok (.iload_n 3, 1) ∧ 566 + 1 = 567 := ⟨by decide +kernel, rfl⟩
theorem dL_law_567 : decode cL_law 567 = .ok (.iconst 2, 1) ∧ 567 + 1 = 568 := ⟨by decide +kernel, rfl⟩
theorem dL_law_568 : decode cL_law 568 = .ok (.iadd, 1) ∧ 568 + 1 = 569 := ⟨by decide +kernel, rfl⟩
theorem dL_law_569 : decode cL_law 569 = .ok (.iaload, 1) ∧ 569 + 1 = 570 := ⟨by decide +kernel, rfl⟩
theorem dL_law_570 : decode cL_law 570 = .ok (.invokevirtual 86, 3) ∧ 570 + 3 = 573 := ⟨by decide +kernel, rfl⟩
theorem dL_law_573 : decode cL_law 573 = .ok (.aload_n 2, 1) ∧ 573 + 1 = 574 := ⟨by decide +kernel, rfl⟩
theorem dL_law_574 : decode cL_law 574 = .ok (.aload_n 0, 1) ∧ 574 + 1 = 575 := ⟨by decide +kernel, rfl⟩
theorem dL_law_575 : decode cL_law 575 = .ok (.iload_n 3, 1) ∧ 575 + 1 = 576 := ⟨by decide +kernel, rfl⟩
theorem dL_law_576 : decode cL_law 576 = .ok (.iconst 1, 1) ∧ 576 + 1 = 577 := ⟨by decide +kernel, rfl⟩
theorem dL_law_577 : decode cL_law 577 = .ok (.iadd, 1) ∧ 577 + 1 = 578 := ⟨by decide +kernel, rfl⟩
theorem dL_law_578 : decode cL_law 578 = .ok (.iaload, 1) ∧ 578 + 1 = 579 := ⟨by decide +kernel, rfl⟩
theorem dL_law_579 : decode cL_law 579 = .ok (.aload_n 0, 1) ∧ 579 + 1 = 580 := ⟨by decide +kernel, rfl⟩
theorem dL_law_580 : decode cL_law 580 = .ok (.iload_n 3, 1) ∧ 580 + 1 = 581 := ⟨by decide +kernel, rfl⟩
theorem dL_law_581 : decode cL_law 581 = .ok (.iconst 2, 1) ∧ 581 + 1 = 582 := ⟨by decide +kernel, rfl⟩
theorem dL_law_582 : decode cL_law 582 = .ok (.iadd, 1) ∧ 582 + 1 = 583 := ⟨by decide +kernel, rfl⟩
theorem dL_law_583 : decode cL_law 583 = .ok (.iaload, 1) ∧ 583 + 1 = 584 := ⟨by decide +kernel, rfl⟩
theorem dL_law_584 : decode cL_law 584 = .ok (.invokevirtual 89, 3) ∧ 584 + 3 = 587 := ⟨by decide +kernel, rfl⟩
theorem dL_law_587 : decode cL_law 587 = .ok (.if_icmp .eq 150, 3) ∧ 587 + 3 = 590 ∧ ((587 : Nat) : Int) + (150) = ((737 : Nat) : Int) := ⟨by decide +kernel, rfl, rfl⟩
theorem dL_law_590 : decode cL_law 590 = .ok (.iconst 0, 1) ∧ 590 + 1 = 591 := ⟨by decide +kernel, rfl⟩
theorem dL_law_591 : decode cL_law 591 = .ok (.ireturn, 1) ∧ 591 + 1 = 592 := ⟨by decide +kernel, rfl⟩
theorem dL_law_592 : decode cL_law 592 = .ok (.aload_n 1, 1) ∧ 592 + 1 = 593 := ⟨by decide +kernel, rfl⟩
theorem dL_law_593 : decode cL_law 593 = .ok (.aload_n 0, 1) ∧ 593 + 1 = 594 := ⟨by decide +kernel, rfl⟩
theorem dL_law_594 : decode cL_law 594 = .ok (.iload_n 3, 1) ∧ 594 + 1 = 595 := ⟨by decide +kernel, rfl⟩
theorem dL_law_595 : decode cL_law 595 = .ok (.iconst 1, 1) ∧ 595 + 1 = 596 := ⟨by decide +kernel, rfl⟩
theorem dL_law_596 : decode cL_law 596 = .ok (.iadd, 1) ∧ 596 + 1 = 597 := ⟨by decide +kernel, rfl⟩
theorem dL_law_597 : decode cL_law 597 = .ok (.iaload, 1) ∧ 597 + 1 = 598 := ⟨by decide +kernel, rfl⟩
theorem dL_law_598 : decode cL_law 598 = .ok (.aload_n 0, 1) ∧ 598 + 1 = 599 := ⟨by decide +kernel, rfl⟩
theorem dL_law_599 : decode cL_law 599 = .ok (.iload_n 3, 1) ∧ 599 + 1 = 600 := ⟨by decide +kernel, rfl⟩
theorem dL_law_600 : decode cL_law 600 = .ok (.iconst 2, 1) ∧ 600 + 1 = 601 := ⟨by decide +kernel, rfl⟩
theorem dL_law_601 : decode cL_law 601 = .ok (.iadd, 1) ∧ 601 + 1 = 602 := ⟨by decide +kernel, rfl⟩
theorem dL_law_602 : decode cL_law 602 = .ok (.iaload, 1) ∧ 602 + 1 = 603 := ⟨by decide +kernel, rfl⟩
theorem dL_law_603 : decode cL_law 603 = .ok (.invokevirtual 90, 3) ∧ 603 + 3 = 606 := ⟨by decide +kernel, rfl⟩
theorem dL_law_606 : decode cL_law 606 = .ok (.aload_n 2, 1) ∧ 606 + 1 = 607 := ⟨by decide +kernel, rfl⟩
theorem dL_law_607 : decode cL_law 607 = .ok (.aload_n 0, 1) ∧ 607 + 1 = 608 := ⟨by decide +kernel, rfl⟩
theorem dL_law_608 : decode cL_law 608 = .ok (.iload_n 3, 1) ∧ 608 + 1 = 609 := ⟨by decide +kernel, rfl⟩
theorem dL_law_609 : decode cL_law 609 = .ok (.iconst 1, 1) ∧ 609 + 1 = 610 := ⟨by decide +kernel, rfl⟩
theorem dL_law_610 : decode cL_law 610 = .ok (.iadd, 1) ∧ 610 + 1 = 611 := ⟨by decide +kernel, rfl⟩
theorem dL_law_611 : decode cL_law 611 = .ok (.iaload, 1) ∧ 611 + 1 = 612 := ⟨by decide +kernel, rfl⟩
theorem dL_law_612 : decode cL_law 612 = .ok (.aload_n 0, 1) ∧ 612 + 1 = 613 := ⟨by decide +kernel, rfl⟩
theorem dL_law_613 : decode cL_law 613 = .ok (.iload_n 3, 1) ∧ 613 + 1 = 614 := ⟨by decide +kernel, rfl⟩
theorem dL_law_614 : decode cL_law 614 = .ok (.iconst 2, 1) ∧ 614 + 1 = 615 := ⟨by decide +kernel, rfl⟩
theorem dL_law_615 : decode cL_law 615 = .ok (.iadd, 1) ∧ 615 + 1 = 616 := ⟨by decide +kernel, rfl⟩
theorem dL_law_616 : decode cL_law 616 = .ok (.iaload, 1) ∧ 616 + 1 = 617 := ⟨by decide +kernel, rfl⟩
theorem dL_law_617 : decode cL_law 617 = .ok (.invokevirtual 93, 3) ∧ 617 + 3 = 620 := ⟨by decide +kernel, rfl⟩
theorem dL_law_620 : decode cL_law 620 = .ok (.if_icmp .eq 117, 3) ∧ 620 + 3 = 623 ∧ ((620 : Nat) : Int) + (117) = ((737 : Nat) : Int) := ⟨by decide +kernel, rfl, rfl⟩
theorem dL_law_623 : decode cL_law 623 = .ok (.iconst 0, 1) ∧ 623 + 1 = 624 := ⟨by decide +kernel, rfl⟩
theorem dL_law_624 : decode cL_law 624 = .ok (.ireturn, 1) ∧ 624 + 1 = 625 := ⟨by decide +kernel, rfl⟩
theorem dL_law_625 : decode cL_law 625 = .ok (.aload_n 1, 1) ∧ 625 + 1 = 626 := ⟨by decide +kernel, rfl⟩
theorem dL_law_626 : decode cL_law 626 = .ok (.aload_n 0, 1) ∧ 626 + 1 = 627 := ⟨by decide +kernel, rfl⟩
theorem dL_law_627 : decode cL_law 627 = .ok (.iload_n 3, 1) ∧ 627 + 1 = 628 := ⟨by decide +kernel, rfl⟩
theorem dL_law_628 : decode cL_law 628 = .ok (.iconst 1, 1) ∧ 628 + 1 = 629 := ⟨by decide +kernel, rfl⟩
theorem dL_law_629 : decode cL_law 629 = .ok (.iadd, 1) ∧ 629 + 1 = 630 := ⟨by decide +kernel, rfl⟩
theorem dL_law_630 : decode cL_law 630 = .ok (.iaload, 1) ∧ 630 + 1 = 631 := ⟨by decide +kernel, rfl⟩
theorem dL_law_631 : decode cL_law 631 = .ok (.aload_n 0, 1) ∧ 631 + 1 = 632 := ⟨by decide +kernel, rfl⟩
theorem dL_law_632 : decode cL_law 632 = .ok (.iload_n 3, 1) ∧ 632 + 1 = 633 := ⟨by decide +kernel, rfl⟩
theorem dL_law_633 : decode cL_law 633 = .ok (.iconst 2, 1) ∧ 633 + 1 = 634 := ⟨by decide +kernel, rfl⟩
theorem dL_law_634 : decode cL_law 634 = .ok (.iadd, 1) ∧ 634 + 1 = 635 := ⟨by decide +kernel, rfl⟩
theorem dL_law_635 : decode cL_law 635 = .ok (.iaload, 1) ∧ 635 + 1 = 636 := ⟨by decide +kernel, rfl⟩
theorem dL_law_636 : decode cL_law 636 = .ok (.invokevirtual 94, 3) ∧ 636 + 3 = 639 := ⟨by decide +kernel, rfl⟩
theorem dL_law_639 : decode cL_law 639 = .ok (.aload_n 2, 1) ∧ 639 + 1 = 640 := ⟨by decide +kernel, rfl⟩
theorem dL_law_640 : decode cL_law 640 = .ok (.aload_n 0, 1) ∧ 640 + 1 = 641 := ⟨by decide +kernel, rfl⟩
theorem dL_law_641 : decode cL_law 641 = .ok (.iload_n 3, 1) ∧ 641 + 1 = 642 := ⟨by decide +kernel, rfl⟩
theorem dL_law_642 : decode cL_law 642 = .ok (.iconst 1, 1) ∧ 642 + 1 = 643 := ⟨by decide +kernel, rfl⟩
theorem dL_law_643 : decode cL_law 643 = .ok (.iadd, 1) ∧ 643 + 1 = 644 := ⟨by decide +kernel, rfl⟩
theorem dL_law_644 : decode cL_law 644 = .ok (.iaload, 1) ∧ 644 + 1 = 645 := ⟨by decide +kernel, rfl⟩
theorem dL_law_645 : decode cL_law 645 = .ok (.aload_n 0, 1) ∧ 645 + 1 = 646 := ⟨by decide +kernel, rfl⟩
theorem dL_law_646 : decode cL_law 646 = .ok (.iload_n 3, 1) ∧ 646 + 1 = 647 := ⟨by decide +kernel, rfl⟩
theorem dL_law_647 : decode cL_law 647 = .ok (.iconst 2, 1) ∧ 647 + 1 = 648 := ⟨by decide +kernel, rfl⟩
theorem dL_law_648 : decode cL_law 648 = .ok (.iadd, 1) ∧ 648 + 1 = 649 := ⟨by decide +kernel, rfl⟩
theorem dL_law_649 : decode cL_law 649 = .ok (.iaload, 1) ∧ 649 + 1 = 650 := ⟨by decide +kernel, rfl⟩
theorem dL_law_650 : decode cL_law 650 = .ok (.invokevirtual 97, 3) ∧ 650 + 3 = 653 := ⟨by decide +kernel, rfl⟩
theorem dL_law_653 : decode cL_law 653 = .ok (.if_icmp .eq 84, 3) ∧ 653 + 3 = 656 ∧ ((653 : Nat) : Int) + (84) = ((737 : Nat) : Int) := ⟨by decide +kernel, rfl, rfl⟩
theorem dL_law_656 : decode cL_law 656 = .ok (.iconst 0, 1) ∧ 656 + 1 = 657 := ⟨by decide +kernel, rfl⟩
theorem dL_law_657 : decode cL_law 657 = .ok (.ireturn, 1) ∧ 657 + 1 = 658 := ⟨by decide +kernel, rfl⟩
theorem dL_law_658 : decode cL_law 658 = .ok (.aload_n 1, 1) ∧ 658 + 1 = 659 := ⟨by decide +kernel, rfl⟩
theorem dL_law_659 : decode cL_law 659 = .ok (.aload_n 0, 1) ∧ 659 + 1 = 660 := ⟨by decide +kernel, rfl⟩
theorem dL_law_660 : decode cL_law 660 = .ok (.iload_n 3, 1) ∧ 660 + 1 = 661 := ⟨by decide +kernel, rfl⟩
theorem dL_law_661 : decode cL_law 661 = .ok (.iconst 1, 1) ∧ 661 + 1 = 662 := ⟨by decide +kernel, rfl⟩
theorem dL_law_662 : decode cL_law 662 = .ok (.iadd, 1) ∧ 662 + 1 = 663 := ⟨by decide +kernel, rfl⟩
theorem dL_law_663 : decode cL_law 663 = .ok (.iaload, 1) ∧ 663 + 1 = 664 := ⟨by decide +kernel, rfl⟩
theorem dL_law_664 : decode cL_law 664 = .ok (.aload_n 0, 1) ∧ 664 + 1 = 665 := ⟨by decide +kernel, rfl⟩
theorem dL_law_665 : decode cL_law 665 = .ok (.iload_n 3, 1) ∧ 665 + 1 = 666 := ⟨by decide +kernel, rfl⟩
theorem dL_law_666 : decode cL_law 666 = .ok (.iconst 2, 1) ∧ 666 + 1 = 667 := ⟨by decide +kernel, rfl⟩
theorem dL_law_667 : decode cL_law 667 = .ok (.iadd, 1) ∧ 667 + 1 = 668 := ⟨by decide +kernel, rfl⟩
theorem dL_law_668 : decode cL_law 668 = .ok (.iaload, 1) ∧ 668 + 1 = 669 := ⟨by decide +kernel, rfl⟩
theorem dL_law_669 : decode cL_law 669 = .ok (.invokevirtual 98, 3) ∧ 669 + 3 = 672 := ⟨by decide +kernel, rfl⟩
theorem dL_law_672 : decode cL_law 672 = .ok (.aload_n 2, 1) ∧ 672 + 1 = 673 := ⟨by decide +kernel, rfl⟩
theorem dL_law_673 : decode cL_law 673 = .ok (.aload_n 0, 1) ∧ 673 + 1 = 674 := ⟨by decide +kernel, rfl⟩
theorem dL_law_674 : decode cL_law 674 = .ok (.iload_n 3, 1) ∧ 674 + 1 = 675 := ⟨by decide +kernel, rfl⟩
theorem dL_law_675 : decode cL_law 675 = .ok (.iconst 1, 1) ∧ 675 + 1 = 676 := ⟨by decide +kernel, rfl⟩
theorem dL_law_676 : decode cL_law 676 = .ok (.iadd, 1) ∧ 676 + 1 = 677 := ⟨by decide +kernel, rfl⟩
theorem dL_law_677 : decode cL_law 677 = .ok (.iaload, 1) ∧ 677 + 1 = 678 := ⟨by decide +kernel, rfl⟩
theorem dL_law_678 : decode cL_law 678 = .ok (.aload_n 0, 1) ∧ 678 + 1 = 679 := ⟨by decide +kernel, rfl⟩
theorem dL_law_679 : decode cL_law 679 = .ok (.iload_n 3, 1) ∧ 679 + 1 = 680 := ⟨by decide +kernel, rfl⟩
theorem dL_law_680 : decode cL_law 680 = .ok (.iconst 2, 1) ∧ 680 + 1 = 681 := ⟨by decide +kernel, rfl⟩
theorem dL_law_681 : decode cL_law 681 = .ok (.iadd, 1) ∧ 681 + 1 = 682 := ⟨by decide +kernel, rfl⟩
theorem dL_law_682 : decode cL_law 682 = .ok (.iaload, 1) ∧ 682 + 1 = 683 := ⟨by decide +kernel, rfl⟩
theorem dL_law_683 : decode cL_law 683 = .ok (.invokevirtual 101, 3) ∧ 683 + 3 = 686 := ⟨by decide +kernel, rfl⟩
theorem dL_law_686 : decode cL_law 686 = .ok (.if_icmp .eq 51, 3) ∧ 686 + 3 = 689 ∧ ((686 : Nat) : Int) + (51) = ((737 : Nat) : Int) := ⟨by decide +kernel, rfl, rfl⟩
theorem dL_law_689 : decode cL_law 689 = .ok (.iconst 0, 1) ∧ 689 + 1 = 690 := ⟨by decide +kernel, rfl⟩
theorem dL_law_690 : decode cL_law 690 = .ok (.ireturn, 1) ∧ 690 + 1 = 691 := ⟨by decide +kernel, rfl⟩
theorem dL_law_691 : decode cL_law 691 = .ok (.aload_n 1, 1) ∧ 691 + 1 = 692 := ⟨by decide +kernel, rfl⟩
theorem dL_law_692 : decode cL_law 692 = .ok (.aload_n 0, 1) ∧ 692 + 1 = 693 := ⟨by decide +kernel, rfl⟩
theorem dL_law_693 : decode cL_law 693 = .ok (.iload_n 3, 1) ∧ 693 + 1 = 694 := ⟨by decide +kernel, rfl⟩
theorem dL_law_694 : decode cL_law 694 = .ok (.iconst 1, 1) ∧ 694 + 1 = 695 := ⟨by decide +kernel, rfl⟩
theorem dL_law_695 : decode cL_law 695 = .ok (.iadd, 1) ∧ 695 + 1 = 696 := ⟨by decide +kernel, rfl⟩
theorem dL_law_696 : decode cL_law 696 = .ok (.iaload, 1) ∧ 696 + 1 = 697 := ⟨by decide +kernel, rfl⟩
theorem dL_law_697 : decode cL_law 697 = .ok (.invokevirtual 102, 3) ∧ 697 + 3 = 700 := ⟨by decide +kernel, rfl⟩
theorem dL_law_700 : decode cL_law 700 = .ok (.aload_n 2, 1) ∧ 700 + 1 = 701 := ⟨by decide +kernel, rfl⟩
theorem dL_law_701 : decode cL_law 701 = .ok (.aload_n 0, 1) ∧ 701 + 1 = 702 := ⟨by decide +kernel, rfl⟩
theorem dL_law_702 : decode cL_law 702 = .ok (.iload_n 3, 1) ∧ 702 + 1 = 703 := ⟨by decide +kernel, rfl⟩
theorem dL_law_703 : decode cL_law 703 = .ok (.iconst 1, 1) ∧ 703 + 1 = 704 := ⟨by decide +kernel, rfl⟩
theorem dL_law_704 : decode cL_law 704 = .ok (.iadd, 1) ∧ 704 + 1 = 705 := ⟨by decide +kernel, rfl⟩
theorem dL_law_705 : decode cL_law 705 = .ok (.iaload, 1) ∧ 705 + 1 = 706 := ⟨by decide +kernel, rfl⟩
theorem dL_law_706 : decode cL_law 706 = .ok (.invokevirtual 105, 3) ∧ 706 + 3 = 709 := ⟨by decide +kernel, rfl⟩
theorem dL_law_709 : decode cL_law 709 = .ok (.if_icmp .eq 28, 3) ∧ 709 + 3 = 712 ∧ ((709 : Nat) : Int) + (28) = ((737 : Nat) : Int) := ⟨by decide +kernel, rfl, rfl⟩
theorem dL_law_712 : decode cL_law 712 = .ok (.iconst 0, 1) ∧ 712 + 1 = 713 := ⟨by decide +kernel, rfl⟩
theorem dL_law_713 : decode cL_law 713 = .ok (.ireturn, 1) ∧ 713 + 1 = 714 := ⟨by decide +kernel, rfl⟩
theorem dL_law_714 : decode cL_law 714 = .ok (.aload_n 1, 1) ∧ 714 + 1 = 715 := ⟨by decide +kernel, rfl⟩
theorem dL_law_715 : decode cL_law 715 = .ok (.aload_n 0, 1) ∧ 715 + 1 = 716 := ⟨by decide +kernel, rfl⟩
theorem dL_law_716 : decode cL_law 716 = .ok (.iload_n 3, 1) ∧ 716 + 1 = 717 := ⟨by decide +kernel, rfl⟩
theorem dL_law_717 : decode cL_law 717 = .ok (.iconst 1, 1) ∧ 717 + 1 = 718 := ⟨by decide +kernel, rfl⟩
theorem dL_law_718 : decode cL_law 718 = .ok (.iadd, 1) ∧ 718 + 1 = 719 := ⟨by decide +kernel, rfl⟩
theorem dL_law_719 : decode cL_law 719 = .ok (.iaload, 1) ∧ 719 + 1 = 720 := ⟨by decide +kernel, rfl⟩
theorem dL_law_720 : decode cL_law 720 = .ok (.invokevirtual 106, 3) ∧ 720 + 3 = 723 := ⟨by decide +kernel, rfl⟩
theorem dL_law_723 : decode cL_law 723 = .ok (.aload_n 2, 1) ∧ 723 + 1 = 724 := ⟨by decide +kernel, rfl⟩
theorem dL_law_724 : decode cL_law 724 = .ok (.aload_n 0, 1) ∧ 724 + 1 = 725 := ⟨by decide +kernel, rfl⟩
theorem dL_law_725 : decode cL_law 725 = .ok (.iload_n 3, 1) ∧ 725 + 1 = 726 := ⟨by decide +kernel, rfl⟩
theorem dL_law_726 : decode cL_law 726 = .ok (.iconst 1, 1) ∧ 726 + 1 = 727 := ⟨by decide +kernel, rfl⟩
theorem dL_law_727 : decode cL_law 727 = .ok (.iadd, 1) ∧ 727 + 1 = 728 := ⟨by decide +kernel, rfl⟩
theorem dL_law_728 : decode cL_law 728 = .ok (.iaload, 1) ∧ 728 + 1 = 729 := ⟨by decide +kernel, rfl⟩
theorem dL_law_729 : decode cL_law 729 = .ok (.invokevirtual 109, 3) ∧ 729 + 3 = 732 := ⟨by decide +kernel, rfl⟩
theorem dL_law_732 : decode cL_law 732 = .ok (.if_icmp .eq 5, 3) ∧ 732 + 3 = 735 ∧ ((732 : Nat) : Int) + (5) = ((737 : Nat) : Int) := ⟨by decide +kernel, rfl, rfl⟩
theorem dL_law_735 : decode cL_law 735 = .ok (.iconst 0, 1) ∧ 735 + 1 = 736 := ⟨by decide +kernel, rfl⟩
theorem dL_law_736 : decode cL_law 736 = .ok (.ireturn, 1) ∧ 736 + 1 = 737 := ⟨by decide +kernel, rfl⟩
theorem dL_law_737 : decode cL_law 737 = .ok (.iinc 3 3, 3) ∧ 737 + 3 = 740 := ⟨by decide +kernel, rfl⟩
theorem dL_law_740 : decode cL_law 740 = .ok (.goto (-722), 3) ∧ 740 + 3 = 743 ∧ ((740 : Nat) : Int) + (-722) = ((18 : Nat) : Int) := ⟨by decide +kernel, rfl, rfl⟩
theorem dL_law_743 : decode cL_law 743 = .ok (.iconst 1, 1) ∧ 743 + 1 = 744 := ⟨by decide +kernel, rfl⟩
theorem dL_law_744 : decode cL_law 744 = .ok (.ireturn, 1) ∧ 744 + 1 = 745 := ⟨by decide +kernel, rfl⟩
end
section
/-! THE X LAYER. A world h : Nat → Option AC says which cells are known; XX is the weakest precondition at a place of a method; CC is a method's contract. -/
def zI (z : Int) : Int32 := Int32.ofInt z
abbrev inR (z : Int) : Prop := -2147483648 ≤ z ∧ z < 2147483648
theorem zI_add (a b : Int) : zI a + zI b = zI (a + b) := (Int32.ofInt_add a b).symm
theorem zI_sub (a b : Int) : zI a - zI b = zI (a - b) := (Int32.ofInt_sub a b).symm
theorem zI_mul (a b : Int) : zI a * zI b = zI (a * b) := (Int32.ofInt_mul a b).symm
theorem zI_neg (a : Int) : - zI a = zI (-a) := (Int32.ofInt_neg a).symm
theorem zI_toInt {z : Int} (h : inR z) : (zI z).toInt = z := Int32.toInt_ofInt_of_le h.1 h.2
theorem zI_of (x : Int32) : ∃ z : Int, inR z ∧ x = zI z := ⟨x.toInt, ⟨Int32.le_toInt x, Int32.toInt_lt x⟩, (Int32.ofInt_toInt x).symm⟩
theorem zI_inj {a b : Int} (ha : inR a) (hb : inR b) : zI a = zI b ↔ a = b := ⟨fun h => by rw [← zI_toInt ha, ← zI_toInt hb, h], fun h => by rw [h]⟩
theorem zI_lt {a b : Int} (ha : inR a) (hb : inR b) : zI a < zI b ↔ a < b := by rw [Int32.lt_iff_toInt_lt, zI_toInt ha, zI_toInt hb]
theorem zI_le {a b : Int} (ha : inR a) (hb : inR b) : zI a ≤ zI b ↔ a ≤ b := by rw [Int32.le_iff_toInt_le, zI_toInt ha, zI_toInt hb]
theorem zI_clamp {a : Int} (ha : inR a) : (zI a).toNatClampNeg = a.toNat := Int32.toNatClampNeg_ofInt_of_le ha.1 ha.2
theorem zI_0 : zI 0 = 0 := by decide
theorem zI_1 : zI 1 = 1 := by decide
theorem zI_nat (n : Nat) : zI (n : Int) = Int32.ofNat n := Int32.ofInt_eq_ofNat
theorem zI_vin {i : Int} {n : Nat} (hn : n < 2147483648) (h0 : 0 ≤ i) (h1 : i < n) : vp_in (zI i) n := by
  have hr : inR i := ⟨by omega, by omega⟩
  unfold vp_in
  rw [show (0 : Int32) = zI 0 from zI_0.symm, zI_lt hr ⟨by omega, by omega⟩, zI_clamp hr]
  omega
-- the world
abbrev AC : Type := (Nat × Nat × (Nat → Int)) ⊕ ((Nat × Nat × (Nat → Option Nat)) ⊕ (Nat × List Value))
abbrev AH : Type := Nat → Option AC
abbrev xZ (t n : Nat) (g : Nat → Int) : AC := .inl (t, n, g)
abbrev xR (t n : Nat) (g : Nat → Option Nat) : AC := .inr (.inl (t, n, g))
abbrev xO (ci : Nat) (fs : List Value) : AC := .inr (.inr (ci, fs))
def hU (h : AH) (a : Nat) (e : AC) : AH := fun q => if q = a then some e else h q
theorem hU_s (h : AH) (a : Nat) (e : AC) : hU h a e a = some e := if_pos rfl
theorem hU_n {h : AH} {a q : Nat} {e : AC} (n : q ≠ a) : hU h a e q = h q := if_neg n
def zU (g : Nat → Int) (k : Nat) (x : Int) : Nat → Int := fun j => if j = k then x else g j
theorem zU_s (g : Nat → Int) (k : Nat) (x : Int) : zU g k x k = x := if_pos rfl
theorem zU_n {g : Nat → Int} {k j : Nat} {x : Int} (n : j ≠ k) : zU g k x j = g j := if_neg n
def zC (f g : Nat → Int) (n : Nat) : Nat → Int := fun j => if j < n then f j else g j
theorem zC_in {f g : Nat → Int} {n j : Nat} (h : j < n) : zC f g n j = f j := if_pos h
abbrev XD : Type := va_G × (Nat → ClassId)
def xty (D : XD) : List (ClassId × FieldType) := [(D.2 0, .int), (D.2 1, .char), (D.2 2, .boolean), (D.2 3, .object "CloneOutline$State")]
abbrev xcl : List vw_C := [(RX0, TX0, 3), (RX1, TX1, 3), (RX2, TX2, 4), (RX3, TX3, 4), (RX4, TX4, 5), (RX5, TX5, 3), (RX6, TX6, 3), (RX7, TX7, 2), (RX8, TX8, 8), (RX9, TX9, 20)]
def xE (D : XD) (e : AC) : va_E := match e with
  | .inl (t, n, g) => .inl (D.2 t, n, .inl (fun j => zI (g j)))
  | .inr (.inl (t, n, g)) => .inl (D.2 t, n, .inr (.inr (.inr (.inr g))))
  | .inr (.inr (ci, fs)) => .inr (ci, fs)
def HR (lo : Nat) (D : XD) (h : AH) (H : Heap) : Prop := ∃ ws : va_W, va_P D.1 xcl ws H ∧ va_D (fun q => lo ≤ q) ws ∧ ∀ a e, h a = some e → (a, xE D e) ∈ ws
theorem HR.get {lo : Nat} {D : XD} {h : AH} {H : Heap} (hh : HR lo D h H) : ∃ ws : va_W, va_P D.1 xcl ws H ∧ va_D (fun q => lo ≤ q) ws ∧ ∀ a e, h a = some e → ∃ k : Nat, ws[k]? = some (a, xE D e) := by
  obtain ⟨ws, h1, h2, h3⟩ := hh
  exact ⟨ws, h1, h2, fun a e q => List.getElem?_of_mem (h3 a e q)⟩
theorem HR.lt {lo : Nat} {D : XD} {h : AH} {H : Heap} (hh : HR lo D h H) {a : Nat} {e : AC} (he : h a = some e) : a < H.size := by
  obtain ⟨ws, h1, h2, h3⟩ := hh.get
  obtain ⟨k, hk⟩ := h3 a e he
  exact (h1 k _ hk).lt
theorem HR.set {lo : Nat} {D : XD} {h : AH} {H1 : Heap} {ws : va_W} {k a : Nat} {e0 : va_E} (e : AC) (hk : ws[k]? = some (a, e0)) (h3 : ∀ a e, h a = some e → ∃ k : Nat, ws[k]? = some (a, xE D e)) (p : va_P D.1 xcl (ws.set k (a, xE D e)) H1) (d : va_D (fun q => lo ≤ q) (ws.set k (a, xE D e))) : HR lo D (hU h a e) H1 := by
  have hl := (List.getElem?_eq_some_iff.mp hk).1
  refine ⟨_, p, d, fun b e' hb => ?_⟩
  by_cases hab : b = a
  · subst hab
    rw [hU_s] at hb
    cases hb
    exact List.mem_of_getElem? (List.getElem?_set_self hl)
  · rw [hU_n hab] at hb
    obtain ⟨j, hj⟩ := h3 b e' hb
    have hne : k ≠ j := fun q => by subst q; rw [hk] at hj; cases hj; exact hab rfl
    exact List.mem_of_getElem? (i := j) (by rw [List.getElem?_set_ne hne]; exact hj)
theorem HR.push {lo : Nat} {D : XD} {h : AH} {H H1 : Heap} {a : Nat} (e : AC) (hh : HR lo D h H) (hs : H.size = a) (hlo : lo ≤ a) (hk : ∀ q, q < a → H1[q]? = H[q]?) (he : va_at D.1 xcl (a, xE D e) H1) : HR lo D (hU h a e) H1 := by
  obtain ⟨ws, h1, h2, h3⟩ := hh
  refine ⟨ws ++ [(a, xE D e)], ((h1.kept (fun k q hq => hk q.1 (by rw [← hs]; exact (h1 k q hq).lt))).app (fun k q hq => ?_)), h2.push h1 hs.symm hlo, fun b e' hb => ?_⟩
  · have hz : k < 1 := (List.getElem?_eq_some_iff.mp hq).1
    rw [show k = 0 by omega] at hq
    cases hq
    exact he
  · by_cases hab : b = a
    · subst hab
      rw [hU_s] at hb
      cases hb
      exact List.mem_append_right _ (List.mem_singleton.mpr rfl)
    · rw [hU_n hab] at hb
      exact List.mem_append_left _ (h3 b e' hb)
-- the locals
def xhas (la : Array Slot) (n : Nat) (ls : List (Option Value)) : Prop := la.size = n ∧ lv_wf la ∧ ∀ (i : Nat) (v : Value), ls[i]? = some (some v) → la[i]? = some (Slot.val v)
def xas : Nat → List (Option Value) → List (Nat × Value)
  | _, [] => []
  | k, none :: l => xas (k + 1) l
  | k, some v :: l => (k, v) :: xas (k + 1) l
theorem xas_mem : ∀ (ls : List (Option Value)) (k j : Nat) (v : Value), (j, v) ∈ xas k ls ↔ k ≤ j ∧ ls[j - k]? = some (some v)
  | [], k, j, v => by simp [xas]
  | none :: l, k, j, v => by
    rw [xas, xas_mem l (k + 1) j v]
    constructor
    · rintro ⟨h1, h2⟩
      refine ⟨by omega, ?_⟩
      rw [show j - k = (j - (k + 1)) + 1 by omega, List.getElem?_cons_succ]
      exact h2
    · rintro ⟨h1, h2⟩
      rcases Nat.eq_or_lt_of_le h1 with h | h
      · rw [h, Nat.sub_self] at h2
        simp at h2
      · rw [show j - k = (j - (k + 1)) + 1 by omega, List.getElem?_cons_succ] at h2
        exact ⟨by omega, h2⟩
  | some x :: l, k, j, v => by
    rw [xas, List.mem_cons, xas_mem l (k + 1) j v]
    constructor
    · rintro (h | ⟨h1, h2⟩)
      · cases h
        exact ⟨Nat.le_refl _, by rw [Nat.sub_self]; rfl⟩
      · refine ⟨by omega, ?_⟩
        rw [show j - k = (j - (k + 1)) + 1 by omega, List.getElem?_cons_succ]
        exact h2
    · rintro ⟨h1, h2⟩
      rcases Nat.eq_or_lt_of_le h1 with h | h
      · subst h
        rw [Nat.sub_self] at h2
        simp at h2
        exact Or.inl (by rw [h2])
      · rw [show j - k = (j - (k + 1)) + 1 by omega, List.getElem?_cons_succ] at h2
        exact Or.inr ⟨by omega, h2⟩
theorem xhas.lv {la : Array Slot} {n : Nat} {ls : List (Option Value)} (h : xhas la n ls) : lv_has la n (xas 0 ls) := ⟨h.1, h.2.1, fun q hq => h.2.2 q.1 q.2 (by have := (xas_mem ls 0 q.1 q.2).mp hq; simpa using this)⟩
/-- storing a value of one slot behind no long -/
def xst : List (Option Value) → Nat → Value → List (Option Value)
  | [], _, _ => []
  | _ :: l, 0, v => some v :: l
  | x :: l, i + 1, v => x :: xst l i v
def xno2 : List (Option Value) → Nat → Bool
  | [], _ => true
  | _ :: _, 0 => true
  | [_], 1 => true
  | some v :: _ :: _, 1 => v.category == 1
  | none :: _ :: _, 1 => true
  | _ :: l, i + 2 => xno2 l (i + 1)
theorem xst_get : ∀ (ls : List (Option Value)) (i j : Nat) (v w : Value), (xst ls i v)[j]? = some (some w) → (j = i ∧ w = v) ∨ (j ≠ i ∧ ls[j]? = some (some w))
  | [], i, j, v, w, h => by simp [xst] at h
  | x :: l, 0, j, v, w, h => by
    cases j with
    | zero => simp [xst] at h; exact Or.inl ⟨rfl, h.symm⟩
    | succ j => rw [xst, List.getElem?_cons_succ] at h; exact Or.inr ⟨by omega, by rw [List.getElem?_cons_succ]; exact h⟩
  | x :: l, i + 1, j, v, w, h => by
    cases j with
    | zero => exact Or.inr ⟨by omega, h⟩
    | succ j =>
      rw [xst, List.getElem?_cons_succ] at h
      rcases xst_get l i j v w h with ⟨a, b⟩ | ⟨a, b⟩
      · exact Or.inl ⟨by omega, b⟩
      · exact Or.inr ⟨by omega, by rw [List.getElem?_cons_succ]; exact b⟩
theorem xno2_get : ∀ (ls : List (Option Value)) (i j : Nat) (w : Value), xno2 ls i = true → ls[j]? = some (some w) → j + 1 = i → i < ls.length → w.category = 1
  | [], i, j, w, _, h, _, _ => by simp at h
  | [x], i, j, w, _, _, e, hl => by
    simp at hl
    omega
  | x :: y :: l, 0, j, w, _, _, e, _ => by omega
  | some v :: y :: l, 1, j, w, hn, h, e, _ => by
    have : j = 0 := by omega
    subst this
    simp at h
    subst h
    simpa [xno2] using hn
  | none :: y :: l, 1, j, w, hn, h, e, _ => by
    have : j = 0 := by omega
    subst this
    simp at h
  | x :: y :: l, i + 2, j, w, hn, h, e, hl => by
    have : j = (j - 1) + 1 := by omega
    rw [this, List.getElem?_cons_succ] at h
    exact xno2_get (y :: l) (i + 1) (j - 1) w (by cases x <;> simpa [xno2] using hn) h (by omega) (by simp at hl ⊢; omega)
theorem xst_sub {ls : List (Option Value)} {i : Nat} {v : Value} (h2 : xno2 ls i = true) (hi : i < ls.length) : ∀ q ∈ xas 0 (xst ls i v), q ∈ (i, v) :: (xas 0 ls).filter (fun q => !(q.1 == i) && !(q.1 + 1 == i && q.2.category == 2)) := by
  rintro ⟨j, w⟩ hq
  have h := (xas_mem _ 0 j w).mp hq
  rw [Nat.sub_zero] at h
  rcases xst_get ls i j v w h.2 with ⟨rfl, rfl⟩ | ⟨a, b⟩
  · exact List.mem_cons_self
  · refine List.mem_cons_of_mem _ (List.mem_filter.mpr ⟨(xas_mem ls 0 j w).mpr ⟨Nat.zero_le _, by rw [Nat.sub_zero]; exact b⟩, ?_⟩)
    simp only [Bool.and_eq_true, Bool.not_eq_true', beq_eq_false_iff_ne, ne_eq, Bool.and_eq_false_iff]
    refine ⟨a, ?_⟩
    by_cases e : j + 1 = i
    · exact Or.inr (by rw [xno2_get ls i j w h2 b e hi]; decide)
    · exact Or.inl e
theorem xhas.of {la : Array Slot} {n : Nat} {ls : List (Option Value)} {l : List (Nat × Value)} (h : lv_has la n l) (hs : ∀ q ∈ xas 0 ls, q ∈ l) : xhas la n ls := ⟨h.1, h.2.1, fun i v hv => h.2.2 (i, v) (hs (i, v) ((xas_mem ls 0 i v).mpr ⟨Nat.zero_le _, by rw [Nat.sub_zero]; exact hv⟩))⟩
theorem xhas.less {la : Array Slot} {n : Nat} {ls ls' : List (Option Value)} (h : xhas la n ls) (hs : ∀ (i : Nat) (v : Value), ls'[i]? = some (some v) → ls[i]? = some (some v)) : xhas la n ls' := ⟨h.1, h.2.1, fun i v hv => h.2.2 i v (hs i v hv)⟩
-- the words
def xgood (w : Cond) : Bool := goodWord w
def TG : List Cond := lw_tbl.filter xgood
def NW : List Cond := [.methodLinkNest "CloneOutline" 9 yX7_init "CloneOutline", .methodLinkNest "CloneOutline" 18 yX4_init "CloneOutline", .methodLinkNest "CloneOutline" 25 yX5_init "CloneOutline", .methodLinkNest "CloneOutline$History" 17 yX6_init "CloneOutline", .methodLinkNest "CloneOutline$State" 11 yX2_init "CloneOutline", .methodLinkNest "CloneOutline$State" 20 yX1_init "CloneOutline", .methodLinkNest "CloneOutline$State" 27 yX3_init "CloneOutline", .methodLinkNest "CloneOutline" 39 yX6_init "CloneOutline", .methodLinkNest "CloneOutline$Nodes" 54 yX8_isMark "CloneOutline", .arrayOver (.object "CloneOutline$State")]
theorem NW_nest : ∀ w ∈ NW, (∃ a i x h, w = .methodLinkNest a i x h) ∨ w = .arrayOver (.object "CloneOutline$State") := by
  intro w hw
  simp only [NW, List.mem_cons, List.not_mem_nil, or_false] at hw
  rcases hw with rfl | rfl | rfl | rfl | rfl | rfl | rfl | rfl | rfl | rfl <;> first | exact Or.inr rfl | exact Or.inl ⟨_, _, _, _, rfl⟩
theorem NW_warm {s U : State} (hW : s.WarmedH U.vm) (h : ∀ w ∈ NW, va_Nw w s) : ∀ w ∈ NW, va_Nw w U := by
  intro w hw
  have h1 := h w hw
  rcases NW_nest w hw with ⟨a, i, x, hh, rfl⟩ | rfl
  · exact va_Nw.warmM hW h1
  · exact va_AO.moved (u := s) hW.alike h1
theorem TG_warm {args a' : Array Value} {s U : State} (hW : s.WarmedH U.vm) (h : ∀ w ∈ TG, w.before args s = true) : ∀ w ∈ TG, w.before a' U = true := by
  intro w hw
  exact word_at hW (good_of_word (List.mem_filter.mp hw).2) (h w hw)
theorem TG_in {w : Cond} (h : w ∈ lw_tbl) (hg : xgood w = true) : w ∈ TG := List.mem_filter.mpr ⟨h, hg⟩
abbrev MD : Type := MethodName × ByteArray × Nat × Option FieldType
def Cx (M : MD) (lo : Nat) (D : XD) (p : Program) (s : State) (m : MethodId) (args : Array Value) (meth : Method) (c : Code) : Prop :=
  p.tables.exec = Jvm.exec ∧ c.code = M.2.1 ∧ c.maxLocals = M.2.2.1 ∧ meth.sig.returnType = M.2.2.2 ∧ s.vm.findClass M.1.cls = some m.cls ∧ (∀ w ∈ TG, w.before args s = true) ∧ (∀ w ∈ NW, va_Nw w s) ∧ meth.locks = false ∧ meth.name = M.1.name ∧ va_K D.1 xcl (xty D) s ∧ lo ≤ s.heap.size
abbrev XG : Type := Nat → XD → Array Value → State → Prop
abbrev XZ : Type := Nat → XD → List Frame → Array Value → State → State → Prop
def XX (M : MD) (R : Room) (G : XG) (Z : XZ) (nc ns sz : Nat) (h : AH) (pc : Nat) (ls : List (Option Value)) (st : List Value) : Prop :=
  ∀ ⦃p : Program⦄ ⦃l : Launch⦄ ⦃e : Env⦄ ⦃s : State⦄ ⦃m : MethodId⦄ ⦃args : Array Value⦄ ⦃below : List Frame⦄ ⦃meth : Method⦄ ⦃c : Code⦄ ⦃lo : Nat⦄ ⦃D : XD⦄ ⦃H : Heap⦄ ⦃locs : List Loc⦄ ⦃la : Array Slot⦄, Cx M lo D p s m args meth c → G lo D args s → xhas la M.2.2.1 ls → HR lo D h H → (H.size = sz ∧ s.heap.size + nc = sz) → va_S (fun q => lo ≤ q) s.heap H locs →
  W p l e R s m args below meth c H locs nc ns (Z lo D below args s) (F0 m pc la st)
def xrm (d mc ms : Nat) : Room := { frames := d, cells := mc, slots := ms, locals := 40 * d }
def xB (lo : Nat) (D : XD) (sz : Nat) (h : AH) (U : State) : Prop := U.heap.size = sz ∧ HR lo D h U.heap ∧ va_K D.1 xcl (xty D) U ∧ (∀ w ∈ NW, va_Nw w U) ∧ lo ≤ sz
def xQ (lo : Nat) (D : XD) (mc : Nat) (Q : Option Value → AH → Prop) : Array Value → State → Outcome → State → Prop := fun _ st oc t => ∃ v h', oc = .returned v ∧ Q v h' ∧ HR lo D h' t.heap ∧ t.heap.size = st.heap.size + mc ∧ va_F (fun q => lo ≤ q) st t
def CC (M : MD) (d mc ms : Nat) (args : List Value) (sz : Nat) (h : AH) (Q : Option Value → AH → Prop) : Prop :=
  ∀ (l : Launch) (lo : Nat) (D : XD), Met l M.1 (Cond.code M.1 M.2.1 M.2.2.1 M.2.2.2 :: TG) (xrm d mc ms) (va_Pc args (xB lo D sz h)) (xQ lo D mc Q) mc ms (fun q => lo ≤ q)
def zMet (Q : Option Value → AH → Prop) (mc ms : Nat) : XZ := fun lo D below args s => MQ below (xQ lo D mc Q) args s mc ms (fun q => lo ≤ q)
def gTrue : XG := fun _ _ _ _ => True
abbrev XM (M : MD) (d mc ms : Nat) (Q : Option Value → AH → Prop) (nc ns sz : Nat) (h : AH) (pc : Nat) (ls : List (Option Value)) (st : List Value) : Prop := XX M (xrm d mc ms) gTrue (zMet Q mc ms) nc ns sz h pc ls st
theorem CC.mono {M : MD} {d mc ms : Nat} {args : List Value} {sz : Nat} {h : AH} {Q Q' : Option Value → AH → Prop} (hc : CC M d mc ms args sz h Q) (hq : ∀ v h', Q v h' → Q' v h') : CC M d mc ms args sz h Q' := by
  intro l lo D p e ha hcl hk s m ar below hf happ hP hK
  obtain ⟨k, o, h1, h2, h3, h4⟩ := hc l lo D p e ha hcl hk s m ar below hf happ hP hK
  refine ⟨k, o, h1, h2, h3, ?_⟩
  obtain ⟨⟨v, h', q1, q2, q3⟩, q4⟩ := h4
  exact ⟨⟨v, h', q1, hq _ _ q2, q3⟩, q4⟩
end
section
section
variable {M : MD} {R : Room} {G : XG} {Z : XZ} {nc ns sz : Nat} {h : AH} {pc pc' : Nat} {ls : List (Option Value)} {st : List Value}
theorem x_iconst {n : Int} (hd : decode M.2.1 pc = .ok (.iconst n, 1) ∧ pc + 1 = pc') (k : XX M R G Z nc ns sz h pc' ls (.int (zI n) :: st)) : XX M R G Z nc ns sz h pc ls st := by
  intro p l e s m args below meth c lo D H locs la C g hl hh hs hS
  obtain ⟨hd, rfl⟩ := hd
  exact lv_iconst C.1 C.2.1 hd rfl (k C g hl hh hs hS)

theorem x_bipush {n : Int} (hd : decode M.2.1 pc = .ok (.bipush n, 2) ∧ pc + 2 = pc') (hv : (Int8.ofInt n).toInt32 = zI n) (k : XX M R G Z nc ns sz h pc' ls (.int (zI n) :: st)) : XX M R G Z nc ns sz h pc ls st := by
  intro p l e s m args below meth c lo D H locs la C g hl hh hs hS
  obtain ⟨hd, rfl⟩ := hd
  refine lv_bipush C.1 C.2.1 hd ?_ (k C g hl hh hs hS)
  exact hv

theorem x_sipush {n : Int} (hd : decode M.2.1 pc = .ok (.sipush n, 3) ∧ pc + 3 = pc') (hv : (Int16.ofInt n).toInt32 = zI n) (k : XX M R G Z nc ns sz h pc' ls (.int (zI n) :: st)) : XX M R G Z nc ns sz h pc ls st := by
  intro p l e s m args below meth c lo D H locs la C g hl hh hs hS
  obtain ⟨hd, rfl⟩ := hd
  refine lv_sipush C.1 C.2.1 hd ?_ (k C g hl hh hs hS)
  exact hv

theorem x_lconst {n : Fin 2} {v : Int64} (hd : decode M.2.1 pc = .ok (.lconst n, 1) ∧ pc + 1 = pc') (hv : Int64.ofNat (n : Nat) = v) (k : XX M R G Z nc ns sz h pc' ls (.long v :: st)) : XX M R G Z nc ns sz h pc ls st := by
  intro p l e s m args below meth c lo D H locs la C g hl hh hs hS
  obtain ⟨hd, rfl⟩ := hd
  exact lv_lconst C.1 C.2.1 hd hv (k C g hl hh hs hS)

theorem x_ldc2 {index : Nat} {v : Int64} (hd : decode M.2.1 pc = .ok (.ldc2_w index, 3) ∧ pc + 3 = pc') (hv : Cond.constantLong M.1.cls index v ∈ TG) (k : XX M R G Z nc ns sz h pc' ls (.long v :: st)) : XX M R G Z nc ns sz h pc ls st := by
  intro p l e s m args below meth c lo D H locs la C g hl hh hs hS
  obtain ⟨hd, rfl⟩ := hd
  exact lv_ldc2 C.1 C.2.1 C.2.2.2.2.1 (C.2.2.2.2.2.1 _ hv) hd (k C g hl hh hs hS)

theorem x_iload_n {k0 : Fin 4} {x : Int32} (hd : decode M.2.1 pc = .ok (.iload_n k0, 1) ∧ pc + 1 = pc') (hv : ls[(k0 : Nat)]? = some (some (.int x))) (k : XX M R G Z nc ns sz h pc' ls (.int x :: st)) : XX M R G Z nc ns sz h pc ls st := by
  intro p l e s m args below meth c lo D H locs la C g hl hh hs hS
  obtain ⟨hd, rfl⟩ := hd
  exact lv_iload_n C.1 C.2.1 hd rfl (hl.2.2 _ _ hv) (k C g hl hh hs hS)

theorem x_iload {i : Nat} {x : Int32} (hd : decode M.2.1 pc = .ok (.iload i, 2) ∧ pc + 2 = pc') (hv : ls[i]? = some (some (.int x))) (k : XX M R G Z nc ns sz h pc' ls (.int x :: st)) : XX M R G Z nc ns sz h pc ls st := by
  intro p l e s m args below meth c lo D H locs la C g hl hh hs hS
  obtain ⟨hd, rfl⟩ := hd
  exact lv_iload C.1 C.2.1 hd (hl.2.2 _ _ hv) (k C g hl hh hs hS)

theorem x_lload_n {k0 : Fin 4} {x : Int64} (hd : decode M.2.1 pc = .ok (.lload_n k0, 1) ∧ pc + 1 = pc') (hv : ls[(k0 : Nat)]? = some (some (.long x))) (k : XX M R G Z nc ns sz h pc' ls (.long x :: st)) : XX M R G Z nc ns sz h pc ls st := by
  intro p l e s m args below meth c lo D H locs la C g hl hh hs hS
  obtain ⟨hd, rfl⟩ := hd
  exact lv_lload_n C.1 C.2.1 hd rfl (hl.2.2 _ _ hv) (k C g hl hh hs hS)

theorem x_lload {i : Nat} {x : Int64} (hd : decode M.2.1 pc = .ok (.lload i, 2) ∧ pc + 2 = pc') (hv : ls[i]? = some (some (.long x))) (k : XX M R G Z nc ns sz h pc' ls (.long x :: st)) : XX M R G Z nc ns sz h pc ls st := by
  intro p l e s m args below meth c lo D H locs la C g hl hh hs hS
  obtain ⟨hd, rfl⟩ := hd
  exact lv_lload C.1 C.2.1 hd (hl.2.2 _ _ hv) (k C g hl hh hs hS)

theorem x_aload_n {k0 : Fin 4} {x : Nat} (hd : decode M.2.1 pc = .ok (.aload_n k0, 1) ∧ pc + 1 = pc') (hv : ls[(k0 : Nat)]? = some (some (.ref x))) (k : XX M R G Z nc ns sz h pc' ls (.ref x :: st)) : XX M R G Z nc ns sz h pc ls st := by
  intro p l e s m args below meth c lo D H locs la C g hl hh hs hS
  obtain ⟨hd, rfl⟩ := hd
  exact lv_aload_n C.1 C.2.1 hd rfl (hl.2.2 _ _ hv) (k C g hl hh hs hS)

theorem x_aload {i : Nat} {x : Nat} (hd : decode M.2.1 pc = .ok (.aload i, 2) ∧ pc + 2 = pc') (hv : ls[i]? = some (some (.ref x))) (k : XX M R G Z nc ns sz h pc' ls (.ref x :: st)) : XX M R G Z nc ns sz h pc ls st := by
  intro p l e s m args below meth c lo D H locs la C g hl hh hs hS
  obtain ⟨hd, rfl⟩ := hd
  exact lv_aload C.1 C.2.1 hd (hl.2.2 _ _ hv) (k C g hl hh hs hS)

theorem x_istore_n {k0 : Fin 4} {x : Int32} (hd : decode M.2.1 pc = .ok (.istore_n k0, 1) ∧ pc + 1 = pc') (hn : Nat.blt (k0 : Nat) ls.length = true) (h2 : xno2 ls (k0 : Nat) = true) (hM : ls.length = M.2.2.1) (k : XX M R G Z nc ns sz h pc' (xst ls (k0 : Nat) (.int x)) st) : XX M R G Z nc ns sz h pc ls (.int x :: st) := by
  intro p l e s m args below meth c lo D H locs la C g hl hh hs hS
  obtain ⟨hd, rfl⟩ := hd
  have hn' : (k0 : Nat) < ls.length := Nat.blt_eq.mp hn
  refine lv_istore_n C.1 C.2.1 hd rfl hl.lv (by rw [← hM]; exact hn') rfl (fun la' hl' => ?_)
  exact k C g (xhas.of hl' (xst_sub h2 hn')) hh hs hS

theorem x_istore {i : Nat} {x : Int32} (hd : decode M.2.1 pc = .ok (.istore i, 2) ∧ pc + 2 = pc') (hn : Nat.blt i ls.length = true) (h2 : xno2 ls i = true) (hM : ls.length = M.2.2.1) (k : XX M R G Z nc ns sz h pc' (xst ls i (.int x)) st) : XX M R G Z nc ns sz h pc ls (.int x :: st) := by
  intro p l e s m args below meth c lo D H locs la C g hl hh hs hS
  obtain ⟨hd, rfl⟩ := hd
  have hn' : i < ls.length := Nat.blt_eq.mp hn
  refine lv_istore C.1 C.2.1 hd hl.lv (by rw [← hM]; exact hn') rfl (fun la' hl' => ?_)
  exact k C g (xhas.of hl' (xst_sub h2 hn')) hh hs hS

theorem x_astore_n {k0 : Fin 4} {x : Nat} (hd : decode M.2.1 pc = .ok (.astore_n k0, 1) ∧ pc + 1 = pc') (hn : Nat.blt (k0 : Nat) ls.length = true) (h2 : xno2 ls (k0 : Nat) = true) (hM : ls.length = M.2.2.1) (k : XX M R G Z nc ns sz h pc' (xst ls (k0 : Nat) (.ref x)) st) : XX M R G Z nc ns sz h pc ls (.ref x :: st) := by
  intro p l e s m args below meth c lo D H locs la C g hl hh hs hS
  obtain ⟨hd, rfl⟩ := hd
  have hn' : (k0 : Nat) < ls.length := Nat.blt_eq.mp hn
  refine lv_astore_n C.1 C.2.1 hd rfl hl.lv (by rw [← hM]; exact hn') rfl (fun la' hl' => ?_)
  exact k C g (xhas.of hl' (xst_sub h2 hn')) hh hs hS

theorem x_astore {i : Nat} {x : Nat} (hd : decode M.2.1 pc = .ok (.astore i, 2) ∧ pc + 2 = pc') (hn : Nat.blt i ls.length = true) (h2 : xno2 ls i = true) (hM : ls.length = M.2.2.1) (k : XX M R G Z nc ns sz h pc' (xst ls i (.ref x)) st) : XX M R G Z nc ns sz h pc ls (.ref x :: st) := by
  intro p l e s m args below meth c lo D H locs la C g hl hh hs hS
  obtain ⟨hd, rfl⟩ := hd
  have hn' : i < ls.length := Nat.blt_eq.mp hn
  refine lv_astore C.1 C.2.1 hd hl.lv (by rw [← hM]; exact hn') rfl (fun la' hl' => ?_)
  exact k C g (xhas.of hl' (xst_sub h2 hn')) hh hs hS

/-- a long: its second place is unknown afterwards -/
def xst2 (ls : List (Option Value)) (i : Nat) (v : Value) : List (Option Value) := (xst ls i v).set (i + 1) none
theorem xst2_sub {ls : List (Option Value)} {i : Nat} {v : Value} (h2 : xno2 ls i = true) (hi : i < ls.length) : ∀ q ∈ xas 0 (xst2 ls i v), q ∈ (i, v) :: (xas 0 ls).filter (fun q => !(q.1 == i) && (!(q.1 == i + 1) && !(q.1 + 1 == i && q.2.category == 2))) := by
  rintro ⟨j, w⟩ hq
  have h := (xas_mem _ 0 j w).mp hq
  rw [Nat.sub_zero] at h
  have hne : j ≠ i + 1 := by
    rintro rfl
    have h' := h.2
    unfold xst2 at h'
    rw [List.getElem?_set] at h'
    simp at h'
  have h3 : (xst ls i v)[j]? = some (some w) := by
    have h' := h.2
    unfold xst2 at h'
    rwa [List.getElem?_set_ne (Ne.symm hne)] at h'
  rcases xst_get ls i j v w h3 with ⟨rfl, rfl⟩ | ⟨a, b⟩
  · exact List.mem_cons_self
  · refine List.mem_cons_of_mem _ (List.mem_filter.mpr ⟨(xas_mem ls 0 j w).mpr ⟨Nat.zero_le _, by rw [Nat.sub_zero]; exact b⟩, ?_⟩)
    simp only [Bool.and_eq_true, Bool.not_eq_true', beq_eq_false_iff_ne, ne_eq, Bool.and_eq_false_iff]
    refine ⟨a, hne, ?_⟩
    by_cases e : j + 1 = i
    · exact Or.inr (by rw [xno2_get ls i j w h2 b e hi]; decide)
    · exact Or.inl e
theorem x_lstore_n {k0 : Fin 4} {x : Int64} (hd : decode M.2.1 pc = .ok (.lstore_n k0, 1) ∧ pc + 1 = pc') (hn : Nat.blt ((k0 : Nat) + 1) ls.length = true) (h2 : xno2 ls (k0 : Nat) = true) (hM : ls.length = M.2.2.1) (k : XX M R G Z nc ns sz h pc' (xst2 ls (k0 : Nat) (.long x)) st) : XX M R G Z nc ns sz h pc ls (.long x :: st) := by
  intro p l e s m args below meth c lo D H locs la C g hl hh hs hS
  obtain ⟨hd, rfl⟩ := hd
  have hn' : (k0 : Nat) + 1 < ls.length := Nat.blt_eq.mp hn
  refine lv_lstore_n C.1 C.2.1 hd rfl hl.lv (by rw [← hM]; exact hn') rfl (fun la' hl' => ?_)
  exact k C g (xhas.of hl' (xst2_sub h2 (by omega))) hh hs hS
theorem x_iinc {i : Nat} {n : Int} {z : Int} (hd : decode M.2.1 pc = .ok (.iinc i n, 3) ∧ pc + 3 = pc') (hv : ls[i]? = some (some (.int (zI z)))) (h2 : xno2 ls i = true) (hM : ls.length = M.2.2.1) (k : XX M R G Z nc ns sz h pc' (xst ls i (.int (zI (z + n)))) st) : XX M R G Z nc ns sz h pc ls st := by
  intro p l e s m args below meth c lo D H locs la C g hl hh hs hS
  obtain ⟨hd, rfl⟩ := hd
  have hn' : i < ls.length := (List.getElem?_eq_some_iff.mp hv).1
  have hmem : (i, Value.int (zI z)) ∈ xas 0 ls := (xas_mem ls 0 i _).mpr ⟨Nat.zero_le _, by rw [Nat.sub_zero]; exact hv⟩
  obtain ⟨j, hj⟩ := List.getElem?_of_mem hmem
  refine lv_iinc C.1 C.2.1 hd hl.lv hj (zI_add z n) (by rw [← hM]; exact hn') rfl (fun la' hl' => ?_)
  exact k C g (xhas.of hl' (xst_sub h2 hn')) hh hs hS

theorem x_iadd {a b : Int} (hd : decode M.2.1 pc = .ok (.iadd, 1) ∧ pc + 1 = pc') (k : XX M R G Z nc ns sz h pc' ls (.int (zI (a + b)) :: st)) : XX M R G Z nc ns sz h pc ls (.int (zI b) :: .int (zI a) :: st) := by
  intro p l e s m args below meth c lo D H locs la C g hl hh hs hS
  obtain ⟨hd, rfl⟩ := hd
  refine lv_iadd C.1 C.2.1 hd ?_
  rw [zI_add]
  exact k C g hl hh hs hS

theorem x_isub {a b : Int} (hd : decode M.2.1 pc = .ok (.isub, 1) ∧ pc + 1 = pc') (k : XX M R G Z nc ns sz h pc' ls (.int (zI (a - b)) :: st)) : XX M R G Z nc ns sz h pc ls (.int (zI b) :: .int (zI a) :: st) := by
  intro p l e s m args below meth c lo D H locs la C g hl hh hs hS
  obtain ⟨hd, rfl⟩ := hd
  refine lv_isub C.1 C.2.1 hd ?_
  rw [zI_sub]
  exact k C g hl hh hs hS

theorem x_imul {a b : Int} (hd : decode M.2.1 pc = .ok (.imul, 1) ∧ pc + 1 = pc') (k : XX M R G Z nc ns sz h pc' ls (.int (zI (a * b)) :: st)) : XX M R G Z nc ns sz h pc ls (.int (zI b) :: .int (zI a) :: st) := by
  intro p l e s m args below meth c lo D H locs la C g hl hh hs hS
  obtain ⟨hd, rfl⟩ := hd
  refine lv_imul C.1 C.2.1 hd ?_
  rw [zI_mul]
  exact k C g hl hh hs hS

theorem x_ineg {a : Int} (hd : decode M.2.1 pc = .ok (.ineg, 1) ∧ pc + 1 = pc') (k : XX M R G Z nc ns sz h pc' ls (.int (zI (-a)) :: st)) : XX M R G Z nc ns sz h pc ls (.int (zI a) :: st) := by
  intro p l e s m args below meth c lo D H locs la C g hl hh hs hS
  obtain ⟨hd, rfl⟩ := hd
  refine lv_ineg C.1 C.2.1 hd ?_
  rw [zI_neg]
  exact k C g hl hh hs hS

theorem x_iand {x y : Int32} {z : Int} (hd : decode M.2.1 pc = .ok (.iand, 1) ∧ pc + 1 = pc') (hv : x &&& y = zI z) (k : XX M R G Z nc ns sz h pc' ls (.int (zI z) :: st)) : XX M R G Z nc ns sz h pc ls (.int y :: .int x :: st) := by
  intro p l e s m args below meth c lo D H locs la C g hl hh hs hS
  obtain ⟨hd, rfl⟩ := hd
  refine lv_iand C.1 C.2.1 hd ?_
  rw [hv]
  exact k C g hl hh hs hS

theorem x_ixor {x y : Int32} {z : Int} (hd : decode M.2.1 pc = .ok (.ixor, 1) ∧ pc + 1 = pc') (hv : x ^^^ y = zI z) (k : XX M R G Z nc ns sz h pc' ls (.int (zI z) :: st)) : XX M R G Z nc ns sz h pc ls (.int y :: .int x :: st) := by
  intro p l e s m args below meth c lo D H locs la C g hl hh hs hS
  obtain ⟨hd, rfl⟩ := hd
  refine lv_ixor C.1 C.2.1 hd ?_
  rw [hv]
  exact k C g hl hh hs hS

theorem x_ishl {x y : Int32} {z : Int} (hd : decode M.2.1 pc = .ok (.ishl, 1) ∧ pc + 1 = pc') (hv : x <<< (y &&& 31) = zI z) (k : XX M R G Z nc ns sz h pc' ls (.int (zI z) :: st)) : XX M R G Z nc ns sz h pc ls (.int y :: .int x :: st) := by
  intro p l e s m args below meth c lo D H locs la C g hl hh hs hS
  obtain ⟨hd, rfl⟩ := hd
  refine lv_ishl C.1 C.2.1 hd ?_
  rw [hv]
  exact k C g hl hh hs hS

theorem x_ishr {x y : Int32} {z : Int} (hd : decode M.2.1 pc = .ok (.ishr, 1) ∧ pc + 1 = pc') (hv : x >>> (y &&& 31) = zI z) (k : XX M R G Z nc ns sz h pc' ls (.int (zI z) :: st)) : XX M R G Z nc ns sz h pc ls (.int y :: .int x :: st) := by
  intro p l e s m args below meth c lo D H locs la C g hl hh hs hS
  obtain ⟨hd, rfl⟩ := hd
  refine lv_ishr C.1 C.2.1 hd ?_
  rw [hv]
  exact k C g hl hh hs hS

theorem x_irem {x y : Int32} {z : Int} (hd : decode M.2.1 pc = .ok (.irem, 1) ∧ pc + 1 = pc') (hy : ¬ y = 0) (hv : x - x / y * y = zI z) (k : XX M R G Z nc ns sz h pc' ls (.int (zI z) :: st)) : XX M R G Z nc ns sz h pc ls (.int y :: .int x :: st) := by
  intro p l e s m args below meth c lo D H locs la C g hl hh hs hS
  obtain ⟨hd, rfl⟩ := hd
  refine lv_irem C.1 C.2.1 hd hy ?_
  rw [hv]
  exact k C g hl hh hs hS

theorem x_ladd {x y v : Int64} (hd : decode M.2.1 pc = .ok (.ladd, 1) ∧ pc + 1 = pc') (hv : x + y = v) (k : XX M R G Z nc ns sz h pc' ls (.long v :: st)) : XX M R G Z nc ns sz h pc ls (.long y :: .long x :: st) := by
  intro p l e s m args below meth c lo D H locs la C g hl hh hs hS
  obtain ⟨hd, rfl⟩ := hd
  refine lv_ladd C.1 C.2.1 hd ?_
  rw [hv]
  exact k C g hl hh hs hS

theorem x_lsub {x y v : Int64} (hd : decode M.2.1 pc = .ok (.lsub, 1) ∧ pc + 1 = pc') (hv : x - y = v) (k : XX M R G Z nc ns sz h pc' ls (.long v :: st)) : XX M R G Z nc ns sz h pc ls (.long y :: .long x :: st) := by
  intro p l e s m args below meth c lo D H locs la C g hl hh hs hS
  obtain ⟨hd, rfl⟩ := hd
  refine lv_lsub C.1 C.2.1 hd ?_
  rw [hv]
  exact k C g hl hh hs hS

theorem x_land {x y v : Int64} (hd : decode M.2.1 pc = .ok (.land, 1) ∧ pc + 1 = pc') (hv : x &&& y = v) (k : XX M R G Z nc ns sz h pc' ls (.long v :: st)) : XX M R G Z nc ns sz h pc ls (.long y :: .long x :: st) := by
  intro p l e s m args below meth c lo D H locs la C g hl hh hs hS
  obtain ⟨hd, rfl⟩ := hd
  refine lv_land C.1 C.2.1 hd ?_
  rw [hv]
  exact k C g hl hh hs hS

theorem x_lor {x y v : Int64} (hd : decode M.2.1 pc = .ok (.lor, 1) ∧ pc + 1 = pc') (hv : x ||| y = v) (k : XX M R G Z nc ns sz h pc' ls (.long v :: st)) : XX M R G Z nc ns sz h pc ls (.long y :: .long x :: st) := by
  intro p l e s m args below meth c lo D H locs la C g hl hh hs hS
  obtain ⟨hd, rfl⟩ := hd
  refine lv_lor C.1 C.2.1 hd ?_
  rw [hv]
  exact k C g hl hh hs hS

theorem x_lxor {x y v : Int64} (hd : decode M.2.1 pc = .ok (.lxor, 1) ∧ pc + 1 = pc') (hv : x ^^^ y = v) (k : XX M R G Z nc ns sz h pc' ls (.long v :: st)) : XX M R G Z nc ns sz h pc ls (.long y :: .long x :: st) := by
  intro p l e s m args below meth c lo D H locs la C g hl hh hs hS
  obtain ⟨hd, rfl⟩ := hd
  refine lv_lxor C.1 C.2.1 hd ?_
  rw [hv]
  exact k C g hl hh hs hS

theorem x_lushr {x v : Int64} {y : Int32} (hd : decode M.2.1 pc = .ok (.lushr, 1) ∧ pc + 1 = pc') (hv : (x.toUInt64 >>> (y.toInt64.toUInt64 &&& Int64.toUInt64 63)).toInt64 = v) (k : XX M R G Z nc ns sz h pc' ls (.long v :: st)) : XX M R G Z nc ns sz h pc ls (.int y :: .long x :: st) := by
  intro p l e s m args below meth c lo D H locs la C g hl hh hs hS
  obtain ⟨hd, rfl⟩ := hd
  exact lv_lushr C.1 C.2.1 hd hv (k C g hl hh hs hS)

theorem x_lshl {x v : Int64} {y : Int32} (hd : decode M.2.1 pc = .ok (.lshl, 1) ∧ pc + 1 = pc') (hv : x <<< (y.toInt64 &&& 63) = v) (k : XX M R G Z nc ns sz h pc' ls (.long v :: st)) : XX M R G Z nc ns sz h pc ls (.int y :: .long x :: st) := by
  intro p l e s m args below meth c lo D H locs la C g hl hh hs hS
  obtain ⟨hd, rfl⟩ := hd
  exact lv_lshl C.1 C.2.1 hd hv (k C g hl hh hs hS)

theorem x_lshr {x v : Int64} {y : Int32} (hd : decode M.2.1 pc = .ok (.lshr, 1) ∧ pc + 1 = pc') (hv : x >>> (y.toInt64 &&& 63) = v) (k : XX M R G Z nc ns sz h pc' ls (.long v :: st)) : XX M R G Z nc ns sz h pc ls (.int y :: .long x :: st) := by
  intro p l e s m args below meth c lo D H locs la C g hl hh hs hS
  obtain ⟨hd, rfl⟩ := hd
  exact lv_lshr C.1 C.2.1 hd hv (k C g hl hh hs hS)

theorem x_lcmp {x y : Int64} {z : Int} (hd : decode M.2.1 pc = .ok (.lcmp, 1) ∧ pc + 1 = pc') (hv : lg_cmp x y = zI z) (k : XX M R G Z nc ns sz h pc' ls (.int (zI z) :: st)) : XX M R G Z nc ns sz h pc ls (.long y :: .long x :: st) := by
  intro p l e s m args below meth c lo D H locs la C g hl hh hs hS
  obtain ⟨hd, rfl⟩ := hd
  refine W.lcmp C.1 C.2.1 hd ?_
  rw [hv]
  exact k C g hl hh hs hS

theorem x_l2i {x : Int64} {z : Int} (hd : decode M.2.1 pc = .ok (.l2i, 1) ∧ pc + 1 = pc') (hv : x.toInt32 = zI z) (k : XX M R G Z nc ns sz h pc' ls (.int (zI z) :: st)) : XX M R G Z nc ns sz h pc ls (.long x :: st) := by
  intro p l e s m args below meth c lo D H locs la C g hl hh hs hS
  obtain ⟨hd, rfl⟩ := hd
  exact lv_l2i C.1 C.2.1 hd hv (k C g hl hh hs hS)

theorem x_i2c {x : Int32} {z : Int} (hd : decode M.2.1 pc = .ok (.i2c, 1) ∧ pc + 1 = pc') (hv : (x.toUInt32 % 65536).toInt32 = zI z) (k : XX M R G Z nc ns sz h pc' ls (.int (zI z) :: st)) : XX M R G Z nc ns sz h pc ls (.int x :: st) := by
  intro p l e s m args below meth c lo D H locs la C g hl hh hs hS
  obtain ⟨hd, rfl⟩ := hd
  exact lv_i2c C.1 C.2.1 hd hv (k C g hl hh hs hS)

theorem x_dup {v : Value} (hd : decode M.2.1 pc = .ok (.dup, 1) ∧ pc + 1 = pc') (hv : v.category = 1) (k : XX M R G Z nc ns sz h pc' ls (v :: v :: st)) : XX M R G Z nc ns sz h pc ls (v :: st) := by
  intro p l e s m args below meth c lo D H locs la C g hl hh hs hS
  obtain ⟨hd, rfl⟩ := hd
  exact lv_dup C.1 C.2.1 hd hv (k C g hl hh hs hS)

theorem x_pop {v : Value} (hd : decode M.2.1 pc = .ok (.pop, 1) ∧ pc + 1 = pc') (hv : v.category = 1) (k : XX M R G Z nc ns sz h pc' ls st) : XX M R G Z nc ns sz h pc ls (v :: st) := by
  intro p l e s m args below meth c lo D H locs la C g hl hh hs hS
  obtain ⟨hd, rfl⟩ := hd
  exact lv_pop C.1 C.2.1 hd hv (k C g hl hh hs hS)

theorem x_dup2 {v u : Value} (hd : decode M.2.1 pc = .ok (.dup2, 1) ∧ pc + 1 = pc') (hv : v.category = 1) (hu : u.category = 1) (k : XX M R G Z nc ns sz h pc' ls (v :: u :: v :: u :: st)) : XX M R G Z nc ns sz h pc ls (v :: u :: st) := by
  intro p l e s m args below meth c lo D H locs la C g hl hh hs hS
  obtain ⟨hd, rfl⟩ := hd
  exact lv_dup2_11 C.1 C.2.1 hd hv hu (k C g hl hh hs hS)

/-- what a branch asks, in the form of the kit's row -/
theorem x_icmp_eq {a b : Int} {off : Int} {tgt : Nat} (hd : decode M.2.1 pc = .ok (.if_icmp .eq off, 3) ∧ pc + 3 = pc' ∧ ((pc : Nat) : Int) + off = ((tgt : Nat) : Int)) (ha : inR a) (hb : inR b) (kt : a = b → XX M R G Z nc ns sz h tgt ls st) (kf : ¬ (a = b) → XX M R G Z nc ns sz h pc' ls st) : XX M R G Z nc ns sz h pc ls (.int (zI b) :: .int (zI a) :: st) := by
  intro p l e s m args below meth c lo D H locs la C g hl hh hs hS
  obtain ⟨hd, rfl, ht⟩ := hd
  have key : (zI a = zI b) ↔ (a = b) := zI_inj ha hb
  exact lv_icmp_eq C.1 C.2.1 hd ht (fun q => kt (key.mp q) C g hl hh hs hS) (fun q => kf ((fun z => q (key.mpr z))) C g hl hh hs hS)

theorem x_if_eq {a : Int} {off : Int} {tgt : Nat} (hd : decode M.2.1 pc = .ok (.ifCond .eq off, 3) ∧ pc + 3 = pc' ∧ ((pc : Nat) : Int) + off = ((tgt : Nat) : Int)) (ha : inR a) (kt : a = 0 → XX M R G Z nc ns sz h tgt ls st) (kf : ¬ (a = 0) → XX M R G Z nc ns sz h pc' ls st) : XX M R G Z nc ns sz h pc ls (.int (zI a) :: st) := by
  intro p l e s m args below meth c lo D H locs la C g hl hh hs hS
  obtain ⟨hd, rfl, ht⟩ := hd
  have hb : inR 0 := ⟨by decide, by decide⟩
  have key : (zI a = 0) ↔ (a = 0) := by
    have q := zI_inj ha hb
    rwa [zI_0] at q
  exact lv_if_eq C.1 C.2.1 hd ht (fun q => kt (key.mp q) C g hl hh hs hS) (fun q => kf ((fun z => q (key.mpr z))) C g hl hh hs hS)

theorem x_icmp_ne {a b : Int} {off : Int} {tgt : Nat} (hd : decode M.2.1 pc = .ok (.if_icmp .ne off, 3) ∧ pc + 3 = pc' ∧ ((pc : Nat) : Int) + off = ((tgt : Nat) : Int)) (ha : inR a) (hb : inR b) (kt : ¬ a = b → XX M R G Z nc ns sz h tgt ls st) (kf : a = b → XX M R G Z nc ns sz h pc' ls st) : XX M R G Z nc ns sz h pc ls (.int (zI b) :: .int (zI a) :: st) := by
  intro p l e s m args below meth c lo D H locs la C g hl hh hs hS
  obtain ⟨hd, rfl, ht⟩ := hd
  have key : (¬ zI a = zI b) ↔ (¬ a = b) := not_congr (zI_inj ha hb)
  exact lv_icmp_ne C.1 C.2.1 hd ht (fun q => kt (key.mp q) C g hl hh hs hS) (fun q => kf ((Classical.byContradiction fun z => key.mpr z q)) C g hl hh hs hS)

theorem x_if_ne {a : Int} {off : Int} {tgt : Nat} (hd : decode M.2.1 pc = .ok (.ifCond .ne off, 3) ∧ pc + 3 = pc' ∧ ((pc : Nat) : Int) + off = ((tgt : Nat) : Int)) (ha : inR a) (kt : ¬ a = 0 → XX M R G Z nc ns sz h tgt ls st) (kf : a = 0 → XX M R G Z nc ns sz h pc' ls st) : XX M R G Z nc ns sz h pc ls (.int (zI a) :: st) := by
  intro p l e s m args below meth c lo D H locs la C g hl hh hs hS
  obtain ⟨hd, rfl, ht⟩ := hd
  have hb : inR 0 := ⟨by decide, by decide⟩
  have key : (¬ zI a = 0) ↔ (¬ a = 0) := by
    have q := not_congr (zI_inj ha hb)
    rwa [zI_0] at q
  exact lv_if_ne C.1 C.2.1 hd ht (fun q => kt (key.mp q) C g hl hh hs hS) (fun q => kf ((Classical.byContradiction fun z => key.mpr z q)) C g hl hh hs hS)

theorem x_icmp_lt {a b : Int} {off : Int} {tgt : Nat} (hd : decode M.2.1 pc = .ok (.if_icmp .lt off, 3) ∧ pc + 3 = pc' ∧ ((pc : Nat) : Int) + off = ((tgt : Nat) : Int)) (ha : inR a) (hb : inR b) (kt : a < b → XX M R G Z nc ns sz h tgt ls st) (kf : ¬ (a < b) → XX M R G Z nc ns sz h pc' ls st) : XX M R G Z nc ns sz h pc ls (.int (zI b) :: .int (zI a) :: st) := by
  intro p l e s m args below meth c lo D H locs la C g hl hh hs hS
  obtain ⟨hd, rfl, ht⟩ := hd
  have key : (zI a < zI b) ↔ (a < b) := zI_lt ha hb
  exact lv_icmp_lt C.1 C.2.1 hd ht (fun q => kt (key.mp q) C g hl hh hs hS) (fun q => kf ((fun z => q (key.mpr z))) C g hl hh hs hS)

theorem x_if_lt {a : Int} {off : Int} {tgt : Nat} (hd : decode M.2.1 pc = .ok (.ifCond .lt off, 3) ∧ pc + 3 = pc' ∧ ((pc : Nat) : Int) + off = ((tgt : Nat) : Int)) (ha : inR a) (kt : a < 0 → XX M R G Z nc ns sz h tgt ls st) (kf : ¬ (a < 0) → XX M R G Z nc ns sz h pc' ls st) : XX M R G Z nc ns sz h pc ls (.int (zI a) :: st) := by
  intro p l e s m args below meth c lo D H locs la C g hl hh hs hS
  obtain ⟨hd, rfl, ht⟩ := hd
  have hb : inR 0 := ⟨by decide, by decide⟩
  have key : (zI a < 0) ↔ (a < 0) := by
    have q := zI_lt ha hb
    rwa [zI_0] at q
  exact lv_if_lt C.1 C.2.1 hd ht (fun q => kt (key.mp q) C g hl hh hs hS) (fun q => kf ((fun z => q (key.mpr z))) C g hl hh hs hS)

theorem x_icmp_ge {a b : Int} {off : Int} {tgt : Nat} (hd : decode M.2.1 pc = .ok (.if_icmp .ge off, 3) ∧ pc + 3 = pc' ∧ ((pc : Nat) : Int) + off = ((tgt : Nat) : Int)) (ha : inR a) (hb : inR b) (kt : b ≤ a → XX M R G Z nc ns sz h tgt ls st) (kf : ¬ (b ≤ a) → XX M R G Z nc ns sz h pc' ls st) : XX M R G Z nc ns sz h pc ls (.int (zI b) :: .int (zI a) :: st) := by
  intro p l e s m args below meth c lo D H locs la C g hl hh hs hS
  obtain ⟨hd, rfl, ht⟩ := hd
  have key : (zI b ≤ zI a) ↔ (b ≤ a) := zI_le hb ha
  exact lv_icmp_ge C.1 C.2.1 hd ht (fun q => kt (key.mp q) C g hl hh hs hS) (fun q => kf ((fun z => q (key.mpr z))) C g hl hh hs hS)

theorem x_if_ge {a : Int} {off : Int} {tgt : Nat} (hd : decode M.2.1 pc = .ok (.ifCond .ge off, 3) ∧ pc + 3 = pc' ∧ ((pc : Nat) : Int) + off = ((tgt : Nat) : Int)) (ha : inR a) (kt : 0 ≤ a → XX M R G Z nc ns sz h tgt ls st) (kf : ¬ (0 ≤ a) → XX M R G Z nc ns sz h pc' ls st) : XX M R G Z nc ns sz h pc ls (.int (zI a) :: st) := by
  intro p l e s m args below meth c lo D H locs la C g hl hh hs hS
  obtain ⟨hd, rfl, ht⟩ := hd
  have hb : inR 0 := ⟨by decide, by decide⟩
  have key : (0 ≤ zI a) ↔ (0 ≤ a) := by
    have q := zI_le hb ha
    rwa [zI_0] at q
  exact lv_if_ge C.1 C.2.1 hd ht (fun q => kt (key.mp q) C g hl hh hs hS) (fun q => kf ((fun z => q (key.mpr z))) C g hl hh hs hS)

theorem x_icmp_gt {a b : Int} {off : Int} {tgt : Nat} (hd : decode M.2.1 pc = .ok (.if_icmp .gt off, 3) ∧ pc + 3 = pc' ∧ ((pc : Nat) : Int) + off = ((tgt : Nat) : Int)) (ha : inR a) (hb : inR b) (kt : b < a → XX M R G Z nc ns sz h tgt ls st) (kf : ¬ (b < a) → XX M R G Z nc ns sz h pc' ls st) : XX M R G Z nc ns sz h pc ls (.int (zI b) :: .int (zI a) :: st) := by
  intro p l e s m args below meth c lo D H locs la C g hl hh hs hS
  obtain ⟨hd, rfl, ht⟩ := hd
  have key : (zI b < zI a) ↔ (b < a) := zI_lt hb ha
  exact lv_icmp_gt C.1 C.2.1 hd ht (fun q => kt (key.mp q) C g hl hh hs hS) (fun q => kf ((fun z => q (key.mpr z))) C g hl hh hs hS)

theorem x_if_gt {a : Int} {off : Int} {tgt : Nat} (hd : decode M.2.1 pc = .ok (.ifCond .gt off, 3) ∧ pc + 3 = pc' ∧ ((pc : Nat) : Int) + off = ((tgt : Nat) : Int)) (ha : inR a) (kt : 0 < a → XX M R G Z nc ns sz h tgt ls st) (kf : ¬ (0 < a) → XX M R G Z nc ns sz h pc' ls st) : XX M R G Z nc ns sz h pc ls (.int (zI a) :: st) := by
  intro p l e s m args below meth c lo D H locs la C g hl hh hs hS
  obtain ⟨hd, rfl, ht⟩ := hd
  have hb : inR 0 := ⟨by decide, by decide⟩
  have key : (0 < zI a) ↔ (0 < a) := by
    have q := zI_lt hb ha
    rwa [zI_0] at q
  exact lv_if_gt C.1 C.2.1 hd ht (fun q => kt (key.mp q) C g hl hh hs hS) (fun q => kf ((fun z => q (key.mpr z))) C g hl hh hs hS)

theorem x_icmp_le {a b : Int} {off : Int} {tgt : Nat} (hd : decode M.2.1 pc = .ok (.if_icmp .le off, 3) ∧ pc + 3 = pc' ∧ ((pc : Nat) : Int) + off = ((tgt : Nat) : Int)) (ha : inR a) (hb : inR b) (kt : a ≤ b → XX M R G Z nc ns sz h tgt ls st) (kf : ¬ (a ≤ b) → XX M R G Z nc ns sz h pc' ls st) : XX M R G Z nc ns sz h pc ls (.int (zI b) :: .int (zI a) :: st) := by
  intro p l e s m args below meth c lo D H locs la C g hl hh hs hS
  obtain ⟨hd, rfl, ht⟩ := hd
  have key : (zI a ≤ zI b) ↔ (a ≤ b) := zI_le ha hb
  exact lv_icmp_le C.1 C.2.1 hd ht (fun q => kt (key.mp q) C g hl hh hs hS) (fun q => kf ((fun z => q (key.mpr z))) C g hl hh hs hS)

theorem x_if_le {a : Int} {off : Int} {tgt : Nat} (hd : decode M.2.1 pc = .ok (.ifCond .le off, 3) ∧ pc + 3 = pc' ∧ ((pc : Nat) : Int) + off = ((tgt : Nat) : Int)) (ha : inR a) (kt : a ≤ 0 → XX M R G Z nc ns sz h tgt ls st) (kf : ¬ (a ≤ 0) → XX M R G Z nc ns sz h pc' ls st) : XX M R G Z nc ns sz h pc ls (.int (zI a) :: st) := by
  intro p l e s m args below meth c lo D H locs la C g hl hh hs hS
  obtain ⟨hd, rfl, ht⟩ := hd
  have hb : inR 0 := ⟨by decide, by decide⟩
  have key : (zI a ≤ 0) ↔ (a ≤ 0) := by
    have q := zI_le ha hb
    rwa [zI_0] at q
  exact lv_if_le C.1 C.2.1 hd ht (fun q => kt (key.mp q) C g hl hh hs hS) (fun q => kf ((fun z => q (key.mpr z))) C g hl hh hs hS)

/-- a branch on a truth value that was answered -/
theorem x_ifB_eq {P : Prop} {dP : Decidable P} {off : Int} {tgt : Nat} (hd : decode M.2.1 pc = .ok (.ifCond .eq off, 3) ∧ pc + 3 = pc' ∧ ((pc : Nat) : Int) + off = ((tgt : Nat) : Int)) (kt : ¬ P → XX M R G Z nc ns sz h tgt ls st) (kf : P → XX M R G Z nc ns sz h pc' ls st) : XX M R G Z nc ns sz h pc ls (.int (zI (if P then 1 else 0)) :: st) := by
  by_cases hP : P
  · rw [if_pos hP]
    exact x_if_eq hd ⟨by decide, by decide⟩ (fun q => absurd q (by decide)) (fun _ => kf hP)
  · rw [if_neg hP]
    exact x_if_eq hd ⟨by decide, by decide⟩ (fun _ => kt hP) (fun q => absurd rfl q)
theorem x_ifB_ne {P : Prop} {dP : Decidable P} {off : Int} {tgt : Nat} (hd : decode M.2.1 pc = .ok (.ifCond .ne off, 3) ∧ pc + 3 = pc' ∧ ((pc : Nat) : Int) + off = ((tgt : Nat) : Int)) (kt : P → XX M R G Z nc ns sz h tgt ls st) (kf : ¬ P → XX M R G Z nc ns sz h pc' ls st) : XX M R G Z nc ns sz h pc ls (.int (zI (if P then 1 else 0)) :: st) := by
  by_cases hP : P
  · rw [if_pos hP]
    exact x_if_ne hd ⟨by decide, by decide⟩ (fun _ => kt hP) (fun q => absurd q (by decide))
  · rw [if_neg hP]
    exact x_if_ne hd ⟨by decide, by decide⟩ (fun q => absurd rfl q) (fun _ => kf hP)
theorem x_goto {off : Int} {tgt : Nat} (hd : decode M.2.1 pc = .ok (.goto off, 3) ∧ pc + 3 = pc' ∧ ((pc : Nat) : Int) + off = ((tgt : Nat) : Int)) (k : XX M R G Z nc ns sz h tgt ls st) : XX M R G Z nc ns sz h pc ls st := by
  intro p l e s m args below meth c lo D H locs la C g hl hh hs hS
  exact lv_goto C.1 C.2.1 hd.1 hd.2.2 (k C g hl hh hs hS)
theorem x_tableOut {dflt lo0 hi : Int} {offs : Array Int} {len : Nat} {a : Int} (tgt : Nat) (hd : decode M.2.1 pc = .ok (.tableswitch dflt lo0 hi offs, len) ∧ pc + len = pc') (ha : inR a) (hx : a < lo0 ∨ hi < a) (ht : ((pc : Nat) : Int) + dflt = ((tgt : Nat) : Int)) (k : XX M R G Z nc ns sz h tgt ls st) : XX M R G Z nc ns sz h pc ls (.int (zI a) :: st) := by
  intro p l e s m args below meth c lo D H locs la C g hl hh hs hS
  exact lv_tableOut C.1 C.2.1 hd.1 (by rw [zI_toInt ha]; exact hx) ht (k C g hl hh hs hS)
theorem x_tableIn {dflt lo0 hi : Int} {offs : Array Int} {len : Nat} {off : Int} (a : Int) (tgt : Nat) (hd : decode M.2.1 pc = .ok (.tableswitch dflt lo0 hi offs, len) ∧ pc + len = pc') (ha : inR a) (h1 : ¬ a < lo0) (h2 : ¬ hi < a) (ho : offs[(a - lo0).toNat]? = some off) (ht : ((pc : Nat) : Int) + off = ((tgt : Nat) : Int)) (k : XX M R G Z nc ns sz h tgt ls st) : XX M R G Z nc ns sz h pc ls (.int (zI a) :: st) := by
  intro p l e s m args below meth c lo D H locs la C g hl hh hs hS
  exact lv_tableIn C.1 C.2.1 hd.1 (by rw [zI_toInt ha]; exact h1) (by rw [zI_toInt ha]; exact h2) (by rw [zI_toInt ha]; exact ho) ht (k C g hl hh hs hS)
theorem x_locals {ls' : List (Option Value)} (hs' : ∀ (i : Nat) (v : Value), ls'[i]? = some (some v) → ls[i]? = some (some v)) (k : XX M R G Z nc ns sz h pc ls' st) : XX M R G Z nc ns sz h pc ls st := by
  intro p l e s m args below meth c lo D H locs la C g hl hh hs hS
  exact k C g (hl.less hs') hh hs hS

end
end
section
theorem xty_0 (D : XD) : (xty D)[0]? = some (D.2 0, .int) := rfl
theorem xty_1 (D : XD) : (xty D)[1]? = some (D.2 1, .char) := rfl
theorem xty_2 (D : XD) : (xty D)[2]? = some (D.2 2, .boolean) := rfl
theorem xty_3 (D : XD) : (xty D)[3]? = some (D.2 3, .object "CloneOutline$State") := rfl
/-- a field, as an instruction of a class reaches it: which class of xcl, which slot, what type -/
def FA (own : String) (idx ci k : Nat) (fin : Bool) (ty : FieldType) : Prop :=
  ∃ (C : String) (T : u_T) (N : Nat) (t0 : Nat → FieldType), xcl[ci]? = some (C, T, N) ∧ k < N ∧ Cond.fieldLink own idx C (T k).2.1 (T k).2.2.1 ∈ TG ∧ (T k).1 = C ∧ (T k).2.2.2 = fin ∧ parseFieldDescriptor (T k).2.2.1 = some ty ∧ (∀ w ∈ u_ws C T N, w ∈ TG) ∧ (∀ k, k < N → parseFieldDescriptor (T k).2.2.1 = some (t0 k)) ∧ (∀ a, a < N → ∀ b, b < N → a ≠ b → (T a).2.1 ≠ (T b).2.1)
/-- a method, as an instruction of a class reaches it -/
def MLw (own : String) (idx : Nat) (M' : MD) (n : Nat) : Prop :=
  Cond.methodLink own idx M'.1 ∈ TG ∧ Cond.initialized M'.1.cls ∈ TG ∧ Cond.code M'.1 M'.2.1 M'.2.2.1 M'.2.2.2 ∈ TG ∧ (M'.1.cls ≠ "java/lang/invoke/MethodHandle" ∧ M'.1.cls ≠ "java/lang/invoke/VarHandle") ∧ (parseMethodDescriptor M'.1.desc).map (fun d => d.parameters.length) = some n
def MV (own : String) (idx : Nat) (M' : MD) (n : Nat) : Prop := MLw own idx M' n ∧ Cond.instanceMethod M'.1 ∈ TG ∧ Cond.selects M'.1.cls M'.1 M'.1 ∈ TG
def MS (own : String) (idx : Nat) (M' : MD) (n : Nat) : Prop := MLw own idx M' n ∧ Cond.static M'.1 ∈ TG
def MI (own : String) (idx : Nat) (M' : MD) (n : Nat) : Prop := MLw own idx M' n ∧ Cond.instanceMethod M'.1 ∈ TG ∧ M'.1.name = "<init>" ∧ M'.2.2.2 = none
def MLn (own : String) (idx : Nat) (M' : MD) (n : Nat) : Prop :=
  Cond.methodLinkNest own idx M'.1 "CloneOutline" ∈ NW ∧ Cond.initialized M'.1.cls ∈ TG ∧ Cond.code M'.1 M'.2.1 M'.2.2.1 M'.2.2.2 ∈ TG ∧ (M'.1.cls ≠ "java/lang/invoke/MethodHandle" ∧ M'.1.cls ≠ "java/lang/invoke/VarHandle") ∧ (parseMethodDescriptor M'.1.desc).map (fun d => d.parameters.length) = some n
def MSn (own : String) (idx : Nat) (M' : MD) (n : Nat) : Prop := MLn own idx M' n ∧ Cond.static M'.1 ∈ TG
def MIn (own : String) (idx : Nat) (M' : MD) (n : Nat) : Prop := MLn own idx M' n ∧ Cond.instanceMethod M'.1 ∈ TG ∧ M'.1.name = "<init>" ∧ M'.2.2.2 = none
section
variable {M : MD} {R : Room} {G : XG} {Z : XZ} {nc ns sz : Nat} {h : AH} {pc pc' : Nat} {ls : List (Option Value)} {st : List Value}
theorem x_get {idx ci k a : Nat} {fin : Bool} {ty : FieldType} {fs : List Value} {v : Value} (hd : decode M.2.1 pc = .ok (.getfield idx, 3) ∧ pc + 3 = pc') (hf : FA M.1.cls idx ci k fin ty) (he : h a = some (xO ci fs)) (hv : fs[k]? = some v) (kk : XX M R G Z nc ns sz h pc' ls (v :: st)) : XX M R G Z nc ns sz h pc ls (.ref a :: st) := by
  intro p l e s m args below meth c lo D H locs la C g hl hh hs hS
  obtain ⟨hd, rfl⟩ := hd
  obtain ⟨Cn, T, N, t0, f1, f2, f3, f4, f5, f6, f7, f8, f9⟩ := hf
  obtain ⟨ws, p1, p2, p3⟩ := hh.get
  obtain ⟨q0, hq⟩ := p3 a _ he
  exact va_get (Ts := TG) C.1 C.2.1 C.2.2.2.2.2.1 f7 C.2.2.2.2.1 C.2.2.2.2.2.2.2.2.2.1 p1 q0 hq f1 k f2 (C.2.2.2.2.2.1 _ f3) (fun x hx => by rw [f4] at hx; exact hx) hv hd (kk C g hl hh hs hS)
theorem x_put {idx ci k a : Nat} {ty : FieldType} {fs : List Value} {v : Value} (hd : decode M.2.1 pc = .ok (.putfield idx, 3) ∧ pc + 3 = pc') (hf : FA M.1.cls idx ci k false ty) (he : h a = some (xO ci fs)) (hn : narrow ty v = v) (hfit : fits ty v = true) (hk : Nat.blt k fs.length = true) (kk : XX M R G Z nc ns sz (hU h a (xO ci (fs.set k v))) pc' ls st) : XX M R G Z nc ns sz h pc ls (v :: .ref a :: st) := by
  intro p l e s m args below meth c lo D H locs la C g hl hh hs hS
  obtain ⟨hd, rfl⟩ := hd
  obtain ⟨Cn, T, N, t0, f1, f2, f3, f4, f5, f6, f7, f8, f9⟩ := hf
  obtain ⟨ws, p1, p2, p3⟩ := hh.get
  obtain ⟨q0, hq⟩ := p3 a _ he
  have hK := C.2.2.2.2.2.2.2.2.2.1
  have hts := C.2.2.2.2.2.1
  have hap := va_apart (own := Cn) hts f7 t0 f8 f9 hK f1
  obtain ⟨r, h1, cell, q1, q2, q3, q4⟩ := p1 q0 _ hq
  have hr : r = (Cn, T, N) := Option.some.inj (h1.symm.trans f1)
  subst hr
  obtain ⟨hSl, hfc, kC, hkC, hkind⟩ := hK.1 ci _ f1
  obtain ⟨cf, kf, fi, f, hi, hsl⟩ := hSl k f2
  have hlay := hts _ (f7 _ (u_in_lay f2))
  unfold u_lay at hlay
  rw [if_neg (by rw [f5]; decide)] at hlay
  have hst := (u_facts hfc hkC (u_lays hts f7 f2) hi).1
  have h6 := u_store hfc hkC hkind hlay hi f6 hn hfit
  refine W.putK C.1 C.2.1 (f := f) ⟨C.2.2.2.2.1, hts _ f3, ⟨_, _, _, by rw [f4] at hi; exact hi⟩, hst⟩ (by rw [q2]; exact h6) q1 q3 (by rw [hsl]; exact k2_hasslot (q4 k f2)) rfl rfl hd fun H' e1 e2 e3 => ?_
  rw [hsl] at e1 ⊢
  exact kk C g hl (HR.set (e := xO ci (fs.set k v)) hq p3 (p1.set p2 hq ⟨_, f1, t_OB.to (V := updV (vp_V fs) k v) ⟨_, e1, q2, q3, t_set q4 hap f2 v⟩ (fun j _ => vp_updV_set (Nat.blt_eq.mp hk) v j)⟩ e3) (p2.set hq)) ⟨e2.trans hs.1, hs.2⟩ (hS.put e2 e3 (p2.2 q0 _ hq))
theorem x_putF {idx ci k a : Nat} {ty : FieldType} {fs : List Value} {v : Value} (hd : decode M.2.1 pc = .ok (.putfield idx, 3) ∧ pc + 3 = pc') (hf : FA M.1.cls idx ci k true ty) (hin : M.1.name = "<init>") (hcn : (xcl[ci]?).map (fun q => q.1) = some M.1.cls) (he : h a = some (xO ci fs)) (hn : narrow ty v = v) (hfit : fits ty v = true) (hk : Nat.blt k fs.length = true) (kk : XX M R G Z nc ns sz (hU h a (xO ci (fs.set k v))) pc' ls st) : XX M R G Z nc ns sz h pc ls (v :: .ref a :: st) := by
  intro p l e s m args below meth c lo D H locs la C g hl hh hs hS
  obtain ⟨hd, rfl⟩ := hd
  obtain ⟨Cn, T, N, t0, f1, f2, f3, f4, f5, f6, f7, f8, f9⟩ := hf
  obtain ⟨ws, p1, p2, p3⟩ := hh.get
  obtain ⟨q0, hq⟩ := p3 a _ he
  have hK := C.2.2.2.2.2.2.2.2.2.1
  have hts := C.2.2.2.2.2.1
  have hap := va_apart (own := Cn) hts f7 t0 f8 f9 hK f1
  obtain ⟨r, h1, cell, q1, q2, q3, q4⟩ := p1 q0 _ hq
  have hr : r = (Cn, T, N) := Option.some.inj (h1.symm.trans f1)
  subst hr
  obtain ⟨hSl, hfc, kC, hkC, hkind⟩ := hK.1 ci _ f1
  obtain ⟨cf, kf, fi, f, hi, hsl⟩ := hSl k f2
  have hlay := hts _ (f7 _ (u_in_lay f2))
  unfold u_lay at hlay
  rw [if_pos f5] at hlay
  have hst := (u_facts hfc hkC (u_lays hts f7 f2) hi).1
  have hown : Cn = M.1.cls := by
    rw [f1] at hcn
    exact Option.some.inj hcn
  have hcf : m.cls = cf := by
    obtain ⟨_, _, c', _, _, _, -, -, hf', -, -, -, hown2, -⟩ := Cond.laysFinal_spec hlay
    have e1 : c' = cf := by have := hi.symm.trans hf'; simp at this; exact this.1.symm
    rw [f4, hown] at hown2
    rw [← e1]; exact Option.some.inj (C.2.2.2.2.1.symm.trans hown2)
  have h6 := u_fits hfc hkC hkind (Or.inr hlay) hi f6 hn hfit
  refine W.putFinK C.1 C.2.1 C.2.2.2.2.1 (hts _ f3) (by rw [f4] at hi; exact hi) hst hcf (C.2.2.2.2.2.2.2.2.1.trans hin) (by rw [q2]; exact h6) q1 q3 (by rw [hsl]; exact k2_hasslot (q4 k f2)) rfl rfl hd fun H' e1 e2 e3 => ?_
  rw [hsl] at e1 ⊢
  exact kk C g hl (HR.set (e := xO ci (fs.set k v)) hq p3 (p1.set p2 hq ⟨_, f1, t_OB.to (V := updV (vp_V fs) k v) ⟨_, e1, q2, q3, t_set q4 hap f2 v⟩ (fun j _ => vp_updV_set (Nat.blt_eq.mp hk) v j)⟩ e3) (p2.set hq)) ⟨e2.trans hs.1, hs.2⟩ (hS.put e2 e3 (p2.2 q0 _ hq))
theorem x_iald {a n : Nat} {f : Nat → Int} {i : Int} (hd : decode M.2.1 pc = .ok (.iaload, 1) ∧ pc + 1 = pc') (he : h a = some (xZ 0 n f)) (hN : Nat.blt n 2147483648 = true) (h0 : 0 ≤ i) (h1 : i < (n : Int)) (kk : XX M R G Z nc ns sz h pc' ls (.int (zI (f i.toNat)) :: st)) : XX M R G Z nc ns sz h pc ls (.int (zI i) :: .ref a :: st) := by
  intro p l e s m args below meth c lo D H locs la C g hl hh hs hS
  obtain ⟨hd, rfl⟩ := hd
  obtain ⟨ws, p1, p2, p3⟩ := hh.get
  obtain ⟨q0, hq⟩ := p3 a _ he
  have hN' : n < 2147483648 := Nat.blt_eq.mp hN
  refine va_iald C.1 C.2.1 C.2.2.2.2.2.2.2.2.2.1 p1 q0 0 hq (xty_0 D) (zI_vin hN' h0 h1) hd ?_
  rw [zI_clamp ⟨by omega, by omega⟩]
  exact kk C g hl hh hs hS
theorem x_cald {a n : Nat} {f : Nat → Int} {i : Int} (hd : decode M.2.1 pc = .ok (.caload, 1) ∧ pc + 1 = pc') (he : h a = some (xZ 1 n f)) (hN : Nat.blt n 2147483648 = true) (h0 : 0 ≤ i) (h1 : i < (n : Int)) (kk : XX M R G Z nc ns sz h pc' ls (.int (zI (f i.toNat)) :: st)) : XX M R G Z nc ns sz h pc ls (.int (zI i) :: .ref a :: st) := by
  intro p l e s m args below meth c lo D H locs la C g hl hh hs hS
  obtain ⟨hd, rfl⟩ := hd
  obtain ⟨ws, p1, p2, p3⟩ := hh.get
  obtain ⟨q0, hq⟩ := p3 a _ he
  have hN' : n < 2147483648 := Nat.blt_eq.mp hN
  refine va_cald C.1 C.2.1 C.2.2.2.2.2.2.2.2.2.1 p1 q0 1 hq (xty_1 D) (zI_vin hN' h0 h1) hd ?_
  rw [zI_clamp ⟨by omega, by omega⟩]
  exact kk C g hl hh hs hS
theorem x_zald {a n : Nat} {f : Nat → Int} {i : Int} (hd : decode M.2.1 pc = .ok (.baload, 1) ∧ pc + 1 = pc') (he : h a = some (xZ 2 n f)) (hN : Nat.blt n 2147483648 = true) (h0 : 0 ≤ i) (h1 : i < (n : Int)) (kk : XX M R G Z nc ns sz h pc' ls (.int (zI (f i.toNat)) :: st)) : XX M R G Z nc ns sz h pc ls (.int (zI i) :: .ref a :: st) := by
  intro p l e s m args below meth c lo D H locs la C g hl hh hs hS
  obtain ⟨hd, rfl⟩ := hd
  obtain ⟨ws, p1, p2, p3⟩ := hh.get
  obtain ⟨q0, hq⟩ := p3 a _ he
  have hN' : n < 2147483648 := Nat.blt_eq.mp hN
  refine va_zald C.1 C.2.1 C.2.2.2.2.2.2.2.2.2.1 p1 q0 2 hq (xty_2 D) (zI_vin hN' h0 h1) hd ?_
  rw [zI_clamp ⟨by omega, by omega⟩]
  exact kk C g hl hh hs hS
theorem x_iast {a n : Nat} {f : Nat → Int} {i x : Int} (hd : decode M.2.1 pc = .ok (.iastore, 1) ∧ pc + 1 = pc') (he : h a = some (xZ 0 n f)) (hN : Nat.blt n 2147483648 = true) (h0 : 0 ≤ i) (h1 : i < (n : Int)) (kk : XX M R G Z nc ns sz (hU h a (xZ 0 n (zU f i.toNat x))) pc' ls st) : XX M R G Z nc ns sz h pc ls (.int (zI x) :: .int (zI i) :: .ref a :: st) := by
  intro p l e s m args below meth c lo D H locs la C g hl hh hs hS
  obtain ⟨hd, rfl⟩ := hd
  obtain ⟨ws, p1, p2, p3⟩ := hh.get
  obtain ⟨q0, hq⟩ := p3 a _ he
  have hN' : n < 2147483648 := Nat.blt_eq.mp hN
  have hin := zI_vin hN' h0 h1
  have hci : (zI i).toNatClampNeg = i.toNat := zI_clamp ⟨by omega, by omega⟩
  refine W.iast C.1 C.2.1 (p1 q0 _ hq) ((C.2.2.2.2.2.2.2.2.2.1.2 0 _ (xty_0 D)).1 n (fun j => .int (zI (f j)))) (fun q => by cases q) (by show ¬ (_ < 0 ∨ (arrV _ _ _).slots.size ≤ _); rw [arrV_size]; exact hin) rfl rfl hd fun H1 e z oq => ?_
  refine kk C g hl (HR.set (e := xZ 0 n (zU f i.toNat x)) hq p3 (p1.set p2 hq ?_ oq) (p2.set hq)) ⟨z.trans hs.1, hs.2⟩ (hS.put z oq (p2.2 q0 _ hq))
  show H1[a]? = some (vp_cell _ _)
  rw [e]
  rw [vp_cell_i, vp_cell_i, arrV_store]
  congr 2
  funext q
  rw [hci]
  by_cases hq : q = i.toNat
  · subst hq
    simp [updV, zU]
  · simp [updV, zU, hq]
theorem x_cast {a n : Nat} {f : Nat → Int} {i x : Int} (hd : decode M.2.1 pc = .ok (.castore, 1) ∧ pc + 1 = pc') (he : h a = some (xZ 1 n f)) (hN : Nat.blt n 2147483648 = true) (h0 : 0 ≤ i) (h1 : i < (n : Int)) (hx : narrow .char (.int (zI x)) = .int (zI x)) (kk : XX M R G Z nc ns sz (hU h a (xZ 1 n (zU f i.toNat x))) pc' ls st) : XX M R G Z nc ns sz h pc ls (.int (zI x) :: .int (zI i) :: .ref a :: st) := by
  intro p l e s m args below meth c lo D H locs la C g hl hh hs hS
  obtain ⟨hd, rfl⟩ := hd
  obtain ⟨ws, p1, p2, p3⟩ := hh.get
  obtain ⟨q0, hq⟩ := p3 a _ he
  have hN' : n < 2147483648 := Nat.blt_eq.mp hN
  have hin := zI_vin hN' h0 h1
  have hci : (zI i).toNatClampNeg = i.toNat := zI_clamp ⟨by omega, by omega⟩
  refine W.cast C.1 C.2.1 (p1 q0 _ hq) ((C.2.2.2.2.2.2.2.2.2.1.2 1 _ (xty_1 D)).1 n (fun j => .int (zI (f j)))) (fun q => by cases q) (by show ¬ (_ < 0 ∨ (arrV _ _ _).slots.size ≤ _); rw [arrV_size]; exact hin) rfl rfl hd fun H1 e z oq => ?_
  refine kk C g hl (HR.set (e := xZ 1 n (zU f i.toNat x)) hq p3 (p1.set p2 hq ?_ oq) (p2.set hq)) ⟨z.trans hs.1, hs.2⟩ (hS.put z oq (p2.2 q0 _ hq))
  show H1[a]? = some (vp_cell _ _)
  rw [e]
  rw [vp_cell_i, vp_cell_i, arrV_store]
  congr 2
  funext q
  rw [hci]
  by_cases hq : q = i.toNat
  · subst hq
    simp [updV, zU]
    exact hx
  · simp [updV, zU, hq]
theorem x_zast {a n : Nat} {f : Nat → Int} {i x : Int} (hd : decode M.2.1 pc = .ok (.bastore, 1) ∧ pc + 1 = pc') (he : h a = some (xZ 2 n f)) (hN : Nat.blt n 2147483648 = true) (h0 : 0 ≤ i) (h1 : i < (n : Int)) (hx : narrow .boolean (.int (zI x)) = .int (zI x)) (kk : XX M R G Z nc ns sz (hU h a (xZ 2 n (zU f i.toNat x))) pc' ls st) : XX M R G Z nc ns sz h pc ls (.int (zI x) :: .int (zI i) :: .ref a :: st) := by
  intro p l e s m args below meth c lo D H locs la C g hl hh hs hS
  obtain ⟨hd, rfl⟩ := hd
  obtain ⟨ws, p1, p2, p3⟩ := hh.get
  obtain ⟨q0, hq⟩ := p3 a _ he
  have hN' : n < 2147483648 := Nat.blt_eq.mp hN
  have hin := zI_vin hN' h0 h1
  have hci : (zI i).toNatClampNeg = i.toNat := zI_clamp ⟨by omega, by omega⟩
  refine W.zast C.1 C.2.1 (p1 q0 _ hq) ((C.2.2.2.2.2.2.2.2.2.1.2 2 _ (xty_2 D)).1 n (fun j => .int (zI (f j)))) (fun q => by cases q) (by show ¬ (_ < 0 ∨ (arrV _ _ _).slots.size ≤ _); rw [arrV_size]; exact hin) rfl rfl hd fun H1 e z oq => ?_
  refine kk C g hl (HR.set (e := xZ 2 n (zU f i.toNat x)) hq p3 (p1.set p2 hq ?_ oq) (p2.set hq)) ⟨z.trans hs.1, hs.2⟩ (hS.put z oq (p2.2 q0 _ hq))
  show H1[a]? = some (vp_cell _ _)
  rw [e]
  rw [vp_cell_i, vp_cell_i, arrV_store]
  congr 2
  funext q
  rw [hci]
  by_cases hq : q = i.toNat
  · subst hq
    simp [updV, zU]
    exact hx
  · simp [updV, zU, hq]


end
end
section
section
variable {M : MD} {R : Room} {G : XG} {Z : XZ} {nc ns sz : Nat} {h : AH} {pc pc' : Nat} {ls : List (Option Value)} {st : List Value}
theorem x_alen {a n t : Nat} {f : Nat → Int} (hd : decode M.2.1 pc = .ok (.arraylength, 1) ∧ pc + 1 = pc') (he : h a = some (xZ t n f)) (ht : Nat.blt t 3 = true) (kk : XX M R G Z nc ns sz h pc' ls (.int (zI (n : Int)) :: st)) : XX M R G Z nc ns sz h pc ls (.ref a :: st) := by
  intro p l e s m args below meth c lo D H locs la C g hl hh hs hS
  obtain ⟨hd, rfl⟩ := hd
  obtain ⟨ws, p1, p2, p3⟩ := hh.get
  obtain ⟨q0, hq⟩ := p3 a _ he
  have ht' : t < 3 := Nat.blt_eq.mp ht
  have key : ∃ ty, (xty D)[t]? = some (D.2 t, ty) := by
    rcases (show t = 0 ∨ t = 1 ∨ t = 2 by omega) with rfl | rfl | rfl
    · exact ⟨_, rfl⟩
    · exact ⟨_, rfl⟩
    · exact ⟨_, rfl⟩
  obtain ⟨ty, hty⟩ := key
  exact va_alen C.1 C.2.1 C.2.2.2.2.2.2.2.2.2.1 p1 q0 t hq hty (zI_nat n).symm hd (kk C g hl hh hs hS)
theorem x_aald {a n b : Nat} {f : Nat → Option Nat} {i : Int} (hd : decode M.2.1 pc = .ok (.aaload, 1) ∧ pc + 1 = pc') (he : h a = some (xR 3 n f)) (hN : Nat.blt n 2147483648 = true) (h0 : 0 ≤ i) (h1 : i < (n : Int)) (hb : f i.toNat = some b) (kk : XX M R G Z nc ns sz h pc' ls (.ref b :: st)) : XX M R G Z nc ns sz h pc ls (.int (zI i) :: .ref a :: st) := by
  intro p l e s m args below meth c lo D H locs la C g hl hh hs hS
  obtain ⟨hd, rfl⟩ := hd
  obtain ⟨ws, p1, p2, p3⟩ := hh.get
  obtain ⟨q0, hq⟩ := p3 a _ he
  have hN' : n < 2147483648 := Nat.blt_eq.mp hN
  refine va_aldq C.1 C.2.1 C.2.2.2.2.2.2.2.2.2.1 p1 q0 3 hq (xty_3 D) (zI_vin hN' h0 h1) hd ?_
  rw [zI_clamp ⟨by omega, by omega⟩, hb]
  exact kk C g hl hh hs hS
theorem x_aast {a n b : Nat} {f : Nat → Option Nat} {fs : List Value} {i : Int} (hd : decode M.2.1 pc = .ok (.aastore, 1) ∧ pc + 1 = pc') (he : h a = some (xR 3 n f)) (hN : Nat.blt n 2147483648 = true) (h0 : 0 ≤ i) (h1 : i < (n : Int)) (hb : h b = some (xO 6 fs)) (kk : XX M R G Z nc ns sz (hU h a (xR 3 n (va_up f i.toNat (some b)))) pc' ls st) : XX M R G Z nc ns sz h pc ls (.ref b :: .int (zI i) :: .ref a :: st) := by
  intro p l e s m args below meth c lo D H locs la C g hl hh hs hS
  obtain ⟨hd, rfl⟩ := hd
  obtain ⟨ws, p1, p2, p3⟩ := hh.get
  obtain ⟨q0, hq⟩ := p3 a _ he
  obtain ⟨qk, hqk⟩ := p3 b _ hb
  have hN' : n < 2147483648 := Nat.blt_eq.mp hN
  have hin := zI_vin hN' h0 h1
  have hci : (zI i).toNatClampNeg = i.toNat := zI_clamp ⟨by omega, by omega⟩
  have hK := C.2.2.2.2.2.2.2.2.2.1
  have hlt : (zI i).toNatClampNeg < n := Nat.not_le.mp fun q => hin (Or.inr q)
  have hn0 : ¬ zI i < 0 := fun q => hin (Or.inl q)
  obtain ⟨r', hr', cellV, g1, g2, g3, -⟩ := p1 qk _ hqk
  have hcls := (hK.1 6 (RX6, TX6, 3) rfl).2
  obtain ⟨kA, comp, k1, k2, k3, -⟩ := (hK.2 3 _ (xty_3 D)).2
  have hcomp : comp = D.1.1 6 := Option.some.inj (k3.symm.trans hcls.1)
  subst hcomp
  obtain ⟨kC, hkC, -⟩ := hcls.2
  refine W.aast C.1 C.2.1 (p1 q0 _ hq) (fun q h => by cases h) (fun h => by cases h) k1 k2 rfl hkC ⟨hn0, by show _ < (arrV _ _ _).slots.size; rw [arrV_size]; exact hlt⟩ g1 (fun q h => by rw [g3] at h; cases h) (by rw [g2]; exact hkC) (by rw [g2]; exact va_assign hcls) rfl rfl hd fun H1 e z oq => ?_
  refine kk C g hl (HR.set (e := xR 3 n (va_up f i.toNat (some b))) hq p3 (p1.set p2 hq ?_ oq) (p2.set hq)) ⟨z.trans hs.1, hs.2⟩ (hS.put z oq (p2.2 q0 _ hq))
  show H1[a]? = some (vp_cell _ _)
  rw [e]
  rw [vp_cell_q, vp_cell_q, arrV_store]
  congr 2
  funext q
  rw [hci]
  by_cases hq : q = i.toNat
  · subst hq
    simp [updV, va_up, va_rf]
  · simp [updV, va_up, hq]
/-- System.arraycopy(src, 0, dst, 0, n) of int rows -/
theorem x_copy {idx a0 a n0 n1 : Nat} {f f1 : Nat → Int} {n : Int} (hd : decode M.2.1 pc = .ok (.invokestatic idx, 3) ∧ pc + 3 = pc') (hml : Cond.methodLink M.1.cls idx arraycopyName ∈ TG) (hnat : Cond.native arraycopyName ∈ TG) (hsta : Cond.static arraycopyName ∈ TG) (hini : Cond.initialized "java/lang/System" ∈ TG) (ha0 : h a0 = some (xZ 0 n0 f)) (ha1 : h a = some (xZ 0 n1 f1)) (hN : Nat.blt n0 2147483648 = true) (hn : 0 ≤ n) (h4 : n ≤ n0) (h5 : n ≤ n1)
    (hR : 1 ≤ R.frames ∧ (st.map fun v => v.category).sum + (nativeFrameWords "java/lang/System" "arraycopy" 5 + 11) ≤ R.locals)
    (kk : XX M R G Z nc ns sz (hU h a (xZ 0 n1 (zC f f1 n.toNat))) pc' ls st) : XX M R G Z nc ns sz h pc ls (.int (zI n) :: .int (zI 0) :: .ref a :: .int (zI 0) :: .ref a0 :: st) := by
  intro p l e s m args below meth c lo D H locs la C g hl hh hs hS
  obtain ⟨hd, rfl⟩ := hd
  obtain ⟨ws, p1, p2, p3⟩ := hh.get
  obtain ⟨q0, hq0⟩ := p3 a0 _ ha0
  obtain ⟨q1, hq1⟩ := p3 a _ ha1
  have hN' : n0 < 2147483648 := Nat.blt_eq.mp hN
  have hK := C.2.2.2.2.2.2.2.2.2.1
  have hts := C.2.2.2.2.2.1
  have hrn : inR n := ⟨by omega, by omega⟩
  have c0 : (zI 0).toNatClampNeg = 0 := by decide
  have cn : (zI n).toNatClampNeg = n.toNat := zI_clamp hrn
  have t0 : (zI 0).toInt = 0 := by decide
  have tn : (zI n).toInt = n := zI_toInt hrn
  have z0 : ¬ zI 0 < 0 := by decide
  have zn : ¬ zI n < 0 := by
    rw [← zI_0, zI_lt hrn ⟨by decide, by decide⟩]
    omega
  intro T hT X
  have hc0 : H[a0]? = some (vp_cell (D.2 0) (n0, .inl (fun j => zI (f j)))) := p1 q0 _ hq0
  have hc1 : H[a]? = some (vp_cell (D.2 0) (n1, .inl (fun j => zI (f1 j)))) := p1 q1 _ hq1
  obtain ⟨-, k0, hk0, cm0, hkk0⟩ := (hK.2 0 _ (xty_0 D)).1 n0 (fun j => .int (zI (f j)))
  obtain ⟨-, k1, hk1, cm1, hkk1⟩ := (hK.2 0 _ (xty_0 D)).1 n1 (fun j => .int (zI (f1 j)))
  obtain ⟨vm', X', step⟩ := X.arraycopy C.1 C.2.2.2.2.1 (hts _ hml) (hts _ hnat) (hts _ hsta) (hts _ hini) (src := a0) (dst := a) (cs := vp_cell (D.2 0) (n0, .inl (fun j => zI (f j)))) (cd := vp_cell (D.2 0) (n1, .inl (fun j => zI (f1 j)))) (srcPos := zI 0) (destPos := zI 0) (n := zI n) (by rw [hT]; exact hc0) (by rw [hT]; exact hc1)
    (fun _ h => by cases h) (fun _ h => by cases h) (fun h => by cases h) (fun h => by cases h) hk0 hk1 hkk0 hkk1 (by simp [refKind]) z0 z0 zn
    (by rw [t0, tn]; show ¬ _ > ((arrV (D.2 0) n0 (fun j => .int (zI (f j)))).slots.size : Int); rw [arrV_size]; omega)
    (by rw [t0, tn]; show ¬ _ > ((arrV (D.2 0) n1 (fun j => .int (zI (f1 j)))).slots.size : Int); rw [arrV_size]; omega)
    (fun vm₁ _ i hi => by
      have e : (vp_cell (D.2 0) (n0, .inl (fun j => zI (f j)))).slots.getD ((zI 0).toNatClampNeg + i) .null = .int (zI (f ((zI 0).toNatClampNeg + i))) := by
        show (arrV (D.2 0) n0 (fun j => .int (zI (f j)))).slots.getD _ _ = _
        rw [Array.getD_eq_getD_getElem?, arrV_read _ _ (by rw [c0]; rw [cn] at hi; omega)]
        rfl
      refine ⟨?_, ?_⟩
      · rw [e]
        rfl
      · rw [e]
        exact trivial)
    (g := F0 m pc la (.int (zI n) :: .int (zI 0) :: .ref a :: .int (zI 0) :: .ref a0 :: st)) rfl (by rw [C.2.2.1]; exact hl.1) (rest := st) rfl (by rw [C.2.1]; exact hd) hR.1 (by show 2 * 0 + _ + _ ≤ _; omega)
  have e1 : copied (vp_cell (D.2 0) (n0, .inl (fun j => zI (f j)))) (vp_cell (D.2 0) (n1, .inl (fun j => zI (f1 j)))) (zI 0) (zI 0) (zI n) = vp_cell (D.2 0) (n1, .inl (fun j => zI (zC f f1 n.toNat j))) := by
    have q := va_copied (fun z => .int z) (D.2 0) (D.2 0) (n0 := n0) (n1 := n1) (sp := (zI 0).toNatClampNeg) (dp := (zI 0).toNatClampNeg) (n := (zI n).toNatClampNeg) (fun j => zI (f j)) (fun j => zI (f1 j)) (by rw [c0, cn]; omega)
    refine Eq.trans q ?_
    rw [c0, cn]
    show _ = arrV _ _ (fun j => Value.int (zI (zC f f1 n.toNat j)))
    congr 1
    funext j
    unfold va_cpy zC
    by_cases hj : j < n.toNat
    · simp [hj]
    · simp [hj]
  rw [e1] at X' step
  have hlt : a < H.size := (Array.getElem?_eq_some_iff.mp hc1).1
  have hheap : ((T.setVm vm').setCell a (vp_cell (D.2 0) (n1, .inl (fun j => zI (zC f f1 n.toNat j))))).heap = H.setIfInBounds a (vp_cell (D.2 0) (n1, .inl (fun j => zI (zC f f1 n.toNat j)))) := by rw [← hT]; rfl
  have oq : ∀ q : Nat, q ≠ a → (H.setIfInBounds a (vp_cell (D.2 0) (n1, .inl (fun j => zI (zC f f1 n.toNat j)))))[q]? = H[q]? := fun q hq => by simp [Array.getElem?_setIfInBounds, Ne.symm hq]
  obtain ⟨t, a1, b1⟩ := kk C g hl (HR.set (e := xZ 0 n1 (zC f f1 n.toNat)) hq1 p3 (p1.set p2 hq1 (show (H.setIfInBounds a _)[a]? = some _ by simp [Array.getElem?_setIfInBounds, hlt]) oq) (p2.set hq1)) ⟨by simp; exact hs.1, hs.2⟩ ⟨by simp; exact hS.1, fun q g1 g2 => by
      rw [oq q (fun e => g2 (by rw [e]; exact p2.2 q1 _ hq1))]
      exact hS.2.1 q g1 g2, fun q hq => by
      rcases List.mem_append.mp hq with h | h
      · exact hS.2.2 q h
      · obtain ⟨z, -, hz⟩ := List.mem_map.mp h
        rw [← hz]
        exact p2.2 q1 _ hq1⟩ _ hheap X'
  exact ⟨t, step t a1, b1⟩
-- new cells
theorem x_newa {n : Nat} {t : Nat} {at0 : ArrayType} {ty : FieldType} {z : Int} (hd : decode M.2.1 pc = .ok (.newarray at0, 2) ∧ pc + 2 = pc') (hac : Cond.arrayClass ty ∈ TG) (hty : newarray.typeOf at0 = ty) (ht : ∀ D : XD, (xty D)[t]? = some (D.2 t, ty)) (hp : ∀ C, ty ≠ .object C) (hdv : defaultValue ty = .int 0) (hz : z = (n : Int)) (hn : n < 2147483648) (hb : n * componentBytes ty ≤ 536870912) (hR : nc + 1 ≤ R.cells ∧ ns + n ≤ R.slots)
    (kk : XX M R G Z (nc + 1) (ns + n) (sz + 1) (hU h sz (xZ t n (fun _ => 0))) pc' ls (.ref sz :: st)) : XX M R G Z nc ns sz h pc ls (.int (zI z) :: st) := by
  intro p l e s m args below meth c lo D H locs la C g hl hh hs hS
  obtain ⟨hd, rfl⟩ := hd
  subst hz
  have hK := C.2.2.2.2.2.2.2.2.2.1
  have hts := C.2.2.2.2.2.1
  have hr : inR (n : Int) := ⟨by omega, by omega⟩
  refine va_newaK C.1 C.2.1 (by rw [hty]; exact hts _ hac) rfl hd rfl (by rw [← zI_0, zI_lt hr ⟨by decide, by decide⟩]; omega) (by rw [zI_clamp hr]; exact Int.toNat_natCast n) (by rw [hty]; exact hb) hR.1 hR.2 hs.1 fun H' cA e1 z1 o1 hAr hnm => ?_
  have hcA : cA = D.2 t := by
    have h2 := (hK.2 t _ (ht D)).2
    rw [hty] at hnm
    cases ty with
    | object Cc => exact absurd rfl (hp Cc)
    | _ => exact Option.some.inj (hnm.symm.trans h2)
  subst hcA
  have hlo : lo ≤ sz := by
    rw [← hs.1]
    exact Nat.le_trans C.2.2.2.2.2.2.2.2.2.2 hS.1
  refine kk C g hl (hh.push (xZ t n (fun _ => 0)) hs.1 hlo o1 ?_) ⟨z1, by rw [← hs.2]; omega⟩ ⟨by rw [z1, ← hs.1]; exact Nat.le_succ_of_le hS.1, fun q h1 h2 => (o1 q (by rw [← hs.1]; exact Nat.lt_of_lt_of_le h1 hS.1)).trans (hS.2.1 q h1 h2), hS.2.2⟩
  show H'[sz]? = some (vp_cell _ _)
  rw [e1, hty, hdv, ← zI_0]
  rfl
theorem x_newR {n : Nat} {idx : Nat} {z : Int} (hd : decode M.2.1 pc = .ok (.anewarray idx, 3) ∧ pc + 3 = pc') (hcl : Cond.classLink M.1.cls idx "CloneOutline$State" ∈ TG) (hov : Cond.arrayOver (.object "CloneOutline$State") ∈ NW) (hz : z = (n : Int)) (hn : n < 2147483648) (hb : n * 4 ≤ 536870912) (hR : nc + 1 ≤ R.cells ∧ ns + n ≤ R.slots)
    (kk : XX M R G Z (nc + 1) (ns + n) (sz + 1) (hU h sz (xR 3 n (fun _ => none))) pc' ls (.ref sz :: st)) : XX M R G Z nc ns sz h pc ls (.int (zI z) :: st) := by
  intro p l e s m args below meth c lo D H locs la C g hl hh hs hS
  obtain ⟨hd, rfl⟩ := hd
  subst hz
  have hK := C.2.2.2.2.2.2.2.2.2.1
  have hts := C.2.2.2.2.2.1
  have hr : inR (n : Int) := ⟨by omega, by omega⟩
  have hcn : (zI (n : Int)).toNatClampNeg = n := by rw [zI_clamp hr]; exact Int.toNat_natCast n
  refine W.anew C.1 C.2.1 C.2.2.2.2.1 (hts _ hcl) (va_AO.use (C.2.2.2.2.2.2.1 _ hov)) rfl hd rfl (by rw [← zI_0, zI_lt hr ⟨by decide, by decide⟩]; omega) (by rw [hcn]; exact hb) hR.1 (by rw [hcn]; exact hR.2) fun cA kA comp f1 f2 f3 f4 => ?_
  rw [hcn]
  have hcA : cA = D.2 3 := by
    obtain ⟨kA', comp', g1, g2, g3, g4⟩ := (hK.2 3 _ (xty_3 D)).2
    exact Option.some.inj (f1.symm.trans g4)
  subst hcA
  have hlo : lo ≤ sz := by
    rw [← hs.1]
    exact Nat.le_trans C.2.2.2.2.2.2.2.2.2.2 hS.1
  generalize hH1 : H.push ({ cls := D.2 3, slots := Array.replicate n .null, vm := .none } : Cell) = H1
  have z1 : H1.size = H.size + 1 := by rw [← hH1, Array.size_push]
  have e1 : H1[H.size]? = some (arrV (D.2 3) n (fun _ => .null)) := by rw [← hH1, Array.getElem?_push_size, ← arrV_new]
  have o1 : ∀ q : Nat, q < H.size → H1[q]? = H[q]? := fun q hq => by rw [← hH1, Array.getElem?_push, if_neg (Nat.ne_of_lt hq)]
  rw [hs.1] at z1 e1 o1 ⊢
  refine kk C g hl (hh.push (xR 3 n (fun _ => none)) hs.1 hlo o1 ?_) ⟨z1, by rw [← hs.2]; omega⟩ ⟨by rw [z1, ← hs.1]; exact Nat.le_succ_of_le hS.1, fun q h1 h2 => (o1 q (by rw [← hs.1]; exact Nat.lt_of_lt_of_le h1 hS.1)).trans (hS.2.1 q h1 h2), hS.2.2⟩
  show H1[sz]? = some (vp_cell _ _)
  rw [vp_cell_q]
  exact e1
/-- a class whose objects are made here -/
def NA (own : String) (idx ci : Nat) (fs : List Value) : Prop := ∃ (Cn : String) (T : u_T) (N : Nat) (t0 : Nat → FieldType), xcl[ci]? = some (Cn, T, N) ∧ N = fs.length ∧ Cond.classLink own idx Cn ∈ TG ∧ Cond.instantiable Cn N ∈ TG ∧ Cond.initialized Cn ∈ TG ∧ (∀ w ∈ u_ws Cn T N, w ∈ TG) ∧ (∀ k, k < N → parseFieldDescriptor (T k).2.2.1 = some (t0 k)) ∧ ∀ j, j < N → defaultValue (t0 j) = vp_V fs j
theorem x_new {idx ci : Nat} {fs : List Value} (hd : decode M.2.1 pc = .ok (.new idx, 3) ∧ pc + 3 = pc') (hN : NA M.1.cls idx ci fs) (hR : nc + 1 ≤ R.cells ∧ ns + fs.length ≤ R.slots)
    (kk : XX M R G Z (nc + 1) (ns + fs.length) (sz + 1) (hU h sz (xO ci fs)) pc' ls (.ref sz :: st)) : XX M R G Z nc ns sz h pc ls st := by
  intro p l e s m args below meth c lo D H locs la C g hl hh hs hS
  obtain ⟨hd, rfl⟩ := hd
  obtain ⟨Cn, T, N, t0, n1, rfl, n3, n4, n5, n6, n7, n8⟩ := hN
  have hK := C.2.2.2.2.2.2.2.2.2.1
  have hts := C.2.2.2.2.2.1
  have hKn := hK.1 ci _ n1
  have hlo : lo ≤ sz := by
    rw [← hs.1]
    exact Nat.le_trans C.2.2.2.2.2.2.2.2.2.2 hS.1
  refine W.newcK C.1 C.2.1 C.2.2.2.2.1 (hts _ n3) (hts _ n4) (hts _ n5) rfl hd hR.1 hR.2 hKn.2.1 hs.1 fun H1 kC hkC e1 z1 o1 => ?_
  refine kk C g hl (hh.push (xO ci fs) hs.1 hlo o1 ?_) ⟨z1, by rw [← hs.2]; omega⟩ ⟨by rw [z1, ← hs.1]; exact Nat.le_succ_of_le hS.1, fun q h1 h2 => (o1 q (by rw [← hs.1]; exact Nat.lt_of_lt_of_le h1 hS.1)).trans (hS.2.1 q h1 h2), hS.2.2⟩
  exact ⟨_, n1, (u_born t0 hts n6 hKn hkC e1 n7).to n8⟩
theorem x_objInit {idx a : Nat} (hd : decode M.2.1 pc = .ok (.invokespecial idx, 3) ∧ pc + 3 = pc') (h1 : Cond.methodLink M.1.cls idx objectInit ∈ TG) (h2 : Cond.instanceMethod objectInit ∈ TG) (h3 : Cond.code objectInit ⟨#[0xb1]⟩ 1 none ∈ TG) (hR : 1 ≤ R.frames ∧ (st.map fun v => v.category).sum + 12 ≤ R.locals) (kk : XX M R G Z nc ns sz h pc' ls st) : XX M R G Z nc ns sz h pc ls (.ref a :: st) := by
  intro p l e s m args below meth c lo D H locs la C g hl hh hs hS
  obtain ⟨hd, rfl⟩ := hd
  have hts := C.2.2.2.2.2.1
  exact W.objInit C.1 C.2.1 C.2.2.2.2.1 (hts _ h1) (hts _ h2) (hts _ h3) rfl (by rw [C.2.2.1]; exact hl.1) rfl hd hR.1 (by show 2 * 0 + _ + _ ≤ _; omega) (kk C g hl hh hs hS)
theorem x_widen {nc' ns' : Nat} (h1 : nc = nc') (h2 : ns ≤ ns') (kk : XX M R G Z nc' ns' sz h pc ls st) : XX M R G Z nc ns sz h pc ls st := by
  intro p l e s m args below meth c lo D H locs la C g hl hh hs hS
  subst h1
  exact W.widen (Nat.le_refl _) h2 (kk C g hl hh hs hS)
end
-- a method's start and end
theorem Met.ofWF {l : Launch} {y : MethodName} {ws ws' : List Cond} {rm : Room} {Pc : Array Value → State → Prop} {Qc : Array Value → State → Outcome → State → Prop} {mc ms : Nat} {free : Addr → Prop} {cc : ByteArray} {maxL : Nat} {ret : Option FieldType}
    (hy : plainFor y = true) (hw : ws = Cond.code y cc maxL ret :: ws')
    (body : ∀ p e s m args below meth c s₁, BodyLoose p l y (headSpec ws rm) cc maxL ret e s m args below meth c s₁ → c.maxLocals = maxL → Pc args s →
      W p l e (headSpec ws rm).room s m args below meth c s.heap [] 0 0 (MQ below Qc args s mc ms free) (entryFrame m args maxL)) : Met l y ws rm Pc Qc mc ms free := by
  refine MetFree.of_bodySF (code := cc) (maxLocals := maxL) (ret := ret) hy ?_ ?_
  · intro args s m h hn
    obtain ⟨meth, c, h1, h2, h3, h4, h5, h6, -, -⟩ := Cond.code_spec hn (atoms_spec (ws := ws) h _ (by rw [hw]; exact List.mem_cons_self))
    exact ⟨meth, c, h1, h2, h3, h4, h5, h6⟩
  · intro p e s m args below meth c s₁ B hml hP _
    have hh0 : s₁.heap = s.heap := by rw [B.state]; rfl
    obtain ⟨t, a1, o, b1, b2, b3⟩ := body p e s m args below meth c s₁ B hml hP s₁ hh0 (Stand.of_body B)
    exact ⟨t, o, a1, b1, b2, ⟨b3.1, b3.2⟩⟩
theorem CC.intro {M : MD} {d mc ms : Nat} {args : List Value} {sz : Nat} {h : AH} {Q : Option Value → AH → Prop} (ls : List (Option Value)) (hp : plainFor M.1 = true) (he : xas 0 ls = lv_args 0 args) (hn : Nat.ble (lg_sl args).length M.2.2.1 = true) (kk : XM M d mc ms Q 0 0 sz h 0 ls []) : CC M d mc ms args sz h Q := by
  intro l lo D
  refine Met.ofWF (cc := M.2.1) (maxL := M.2.2.1) (ret := M.2.2.2) hp rfl ?_
  intro p e s m ar below meth c s₁ B hml hv
  obtain ⟨rfl, hsz, hh, hK, hNW, hlo⟩ := hv
  have hts := atoms_spec (ws := Cond.code M.1 M.2.1 M.2.2.1 M.2.2.2 :: TG) B.pre
  have C : Cx M lo D p s m args.toArray meth c := ⟨B.exec, B.bytes, hml, B.returns, findClass_of_methodNamed B.named, fun w hw => hts w (List.mem_cons_of_mem _ hw), hNW, B.notSynchronized, (name_of_methodNamed B.named B.method).1, hK, by rw [hsz]; exact hlo⟩
  have hl := lv_entry args (n := M.2.2.1) (Nat.ble_eq.mp hn)
  rw [lg_entry_eq]
  refine kk C trivial (xhas.of hl (fun q hq => by rw [he] at hq; exact hq)) hh ⟨hsz, by omega⟩ va_S.rf
theorem xQ_end {M : MD} {lo : Nat} {D : XD} {p : Program} {s t : State} {m : MethodId} {args : Array Value} {meth : Method} {c : Code} {H : Heap} {locs : List Loc} {nc sz : Nat} {h : AH} {Q : Option Value → AH → Prop} {v : Option Value} (hh : HR lo D h H) (hs : H.size = sz ∧ s.heap.size + nc = sz) (hS : va_S (fun q => lo ≤ q) s.heap H locs) (hq : Q v h) (ht : t.heap = H) : xQ lo D nc Q args s (.returned v) t := ⟨v, h, rfl, hq, by rw [ht]; exact hh, by rw [ht, hs.1]; exact hs.2.symm, hS.F ht⟩
section
variable {M : MD} {R : Room} {G : XG} {nc ns sz : Nat} {h : AH} {pc pc' : Nat} {ls : List (Option Value)} {Q : Option Value → AH → Prop}
theorem x_ireturn {z : Int} (hd : decode M.2.1 pc = .ok (.ireturn, 1) ∧ pc + 1 = pc') (hr : M.2.2.2 = some .int) (hq : Q (some (.int (zI z))) h) : XX M R G (zMet Q nc ns) nc ns sz h pc ls [.int (zI z)] := by
  intro p l e s m args below meth c lo D H locs la C g hl hh hs hS
  exact W.iret C.1 C.2.1 (C.2.2.2.1.trans hr) (fun t ht hW => xQ_end (M := M) (p := p) (m := m) (meth := meth) (c := c) hh hs hS hq ht) hS.2.2 hd.1 C.2.2.2.2.2.2.2.1
theorem x_zreturn {z : Int} (hd : decode M.2.1 pc = .ok (.ireturn, 1) ∧ pc + 1 = pc') (hr : M.2.2.2 = some .boolean) (hz : z = 0 ∨ z = 1) (hq : Q (some (.int (zI z))) h) : XX M R G (zMet Q nc ns) nc ns sz h pc ls [.int (zI z)] := by
  intro p l e s m args below meth c lo D H locs la C g hl hh hs hS
  exact W.zret C.1 C.2.1 (C.2.2.2.1.trans hr) (by rcases hz with rfl | rfl <;> decide) (fun t ht hW => xQ_end (M := M) (p := p) (m := m) (meth := meth) (c := c) hh hs hS hq ht) hS.2.2 hd.1 C.2.2.2.2.2.2.2.1
theorem x_lreturn {z : Int64} (hd : decode M.2.1 pc = .ok (.lreturn, 1) ∧ pc + 1 = pc') (hr : M.2.2.2 = some .long) (hq : Q (some (.long z)) h) : XX M R G (zMet Q nc ns) nc ns sz h pc ls [.long z] := by
  intro p l e s m args below meth c lo D H locs la C g hl hh hs hS
  exact W.lret C.1 C.2.1 (C.2.2.2.1.trans hr) (fun t ht hW => xQ_end (M := M) (p := p) (m := m) (meth := meth) (c := c) hh hs hS hq ht) hS.2.2 hd.1 C.2.2.2.2.2.2.2.1
theorem x_vreturn (hd : decode M.2.1 pc = .ok (.return_, 1) ∧ pc + 1 = pc') (hr : M.2.2.2 = none) (hq : Q none h) : XX M R G (zMet Q nc ns) nc ns sz h pc ls [] := by
  intro p l e s m args below meth c lo D H locs la C g hl hh hs hS
  exact W.vret C.1 C.2.1 (C.2.2.2.1.trans hr) (fun t ht hW => xQ_end (M := M) (p := p) (m := m) (meth := meth) (c := c) hh hs hS hq ht) hS.2.2 hd.1 C.2.2.2.2.2.2.2.1
end
-- calls
theorem xB_blind {lo : Nat} {D : XD} {sz : Nat} {h : AH} {args : List Value} : FrameBlind (va_Pc args (xB lo D sz h)) := fun a U g mk q => by
  obtain ⟨e0, e1, e2, e3, e4, e5⟩ := q
  refine ⟨e0, e1, e2, va_K.moved (u := U) (U := U.calling g mk a) (Vm.Alike.refl U.vm) e3, fun w hw => ?_, e5⟩
  rcases NW_nest w hw with ⟨a1, i1, x1, h1, rfl⟩ | rfl
  · exact va_Nw.same (u := U) rfl rfl (e4 _ hw)
  · exact va_AO.moved (u := U) (U := U.calling g mk a) (Vm.Alike.refl U.vm) (e4 _ hw)
theorem x_pre {M : MD} {lo : Nat} {D : XD} {p : Program} {s : State} {m : MethodId} {args : Array Value} {meth : Method} {c : Code} {H : Heap} {locs : List Loc} {sz : Nat} {h : AH} {As : List Value} (C : Cx M lo D p s m args meth c) (hh : HR lo D h H) (hs : H.size = sz) (hS : va_S (fun q => lo ≤ q) s.heap H locs) : ∀ U : State, U.heap = H → s.WarmedH U.vm → va_Pc As (xB lo D sz h) As.toArray U := fun U hU hW => ⟨rfl, by rw [hU]; exact hs, by rw [hU]; exact hh, va_K.moved hW.alike C.2.2.2.2.2.2.2.2.2.1, NW_warm hW C.2.2.2.2.2.2.1, by rw [← hs]; exact Nat.le_trans C.2.2.2.2.2.2.2.2.2.2 hS.1⟩
theorem x_ws {M M' : MD} {lo : Nat} {D : XD} {p : Program} {s : State} {m : MethodId} {args : Array Value} {meth : Method} {c : Code} (C : Cx M lo D p s m args meth c) (hc : Cond.code M'.1 M'.2.1 M'.2.2.1 M'.2.2.2 ∈ TG) : ∀ w ∈ (Cond.code M'.1 M'.2.1 M'.2.2.1 M'.2.2.2 :: TG), ∀ (a' : Array Value) (U : State), s.WarmedH U.vm → w.before a' U = true := by
  intro w hw a' U hW
  rcases List.mem_cons.mp hw with rfl | hw
  · exact TG_warm hW C.2.2.2.2.2.1 _ hc
  · exact TG_warm hW C.2.2.2.2.2.1 _ hw
theorem x_args {n : Nat} {y : MethodName} (h : (parseMethodDescriptor y.desc).map (fun d => d.parameters.length) = some n) : ∀ sig, parseMethodDescriptor y.desc = some sig → n = sig.parameters.length := fun sig hs => by
  rw [hs] at h
  exact (Option.some.inj h).symm
section
variable {M M' : MD} {R : Room} {G : XG} {Z : XZ} {nc ns sz mc ms d n idx : Nat} {h : AH} {pc pc' : Nat} {ls : List (Option Value)} {st stk As : List Value} {Q' : Option Value → AH → Prop}
theorem x_back {p : Program} {l : Launch} {e : Env} {s : State} {m : MethodId} {args : Array Value} {below : List Frame} {meth : Method} {c : Code} {H : Heap} {locs : List Loc} {lo : Nat} {D : XD} {la : Array Slot} {a : Array Value} {g0 : JFrame} (hr : va_Run p l e R s m args below meth c H locs nc ns mc ms g0 st (xQ lo D mc Q' a) (fun q => lo ≤ q)) (hg0 : g0 = F0 m pc la stk) (C : Cx M lo D p s m args meth c) (g : G lo D args s) (hl : xhas la M.2.2.1 ls) (hs : H.size = sz ∧ s.heap.size + nc = sz) (hS : va_S (fun q => lo ≤ q) s.heap H locs)
    (kk : ∀ v h', Q' v h' → XX M R G Z (nc + mc) (ns + ms) (sz + mc) h' (pc + 3) ls (v.toList ++ st)) : W p l e R s m args below meth c H locs nc ns (Z lo D below args s) g0 := by
  subst hg0
  intro T hT X
  obtain ⟨v, st₀, t, T', L, e0, X', hL, e1, e2, ⟨v', h', r1, r2, r3, r4, r5⟩, st'⟩ := hr T hT X
  cases r1
  obtain ⟨t2, a1, b1⟩ := kk v h' r2 C g hl (H := T'.heap) (locs := locs ++ L) (by rw [e1]; exact r3) ⟨by rw [e1, r4, e0, hs.1], by rw [← hs.2]; omega⟩ ⟨by rw [e1, r4, e0]; exact Nat.le_trans hS.1 (Nat.le_add_right _ _), fun q h1 h2 => by
      rw [e1, r5.2 q (by rw [e0]; exact Nat.lt_of_lt_of_le h1 hS.1) h2, e0]
      exact hS.2.1 q h1 h2, fun q hq => by
      rcases List.mem_append.mp hq with h | h
      · exact hS.2.2 q h
      · exact hL q h⟩ T' rfl X'
  exact ⟨t2, st' t2 a1, b1⟩
theorem x_callV {a ci : Nat} {fs : List Value} (hd : decode M.2.1 pc = .ok (.invokevirtual idx, 3) ∧ pc + 3 = pc') (hm : MV M.1.cls idx M' n) (hc : CC M' d mc ms (.ref a :: As) sz h Q') (he : h a = some (xO ci fs)) (hci : (xcl[ci]?).map (fun q => q.1) = some M'.1.cls) (hn : As.length = n) (hst : stk = As.reverse ++ .ref a :: st) (hW : Nat.ble (st.map fun v => v.category).sum 8 = true)
    (hR : (d + 1 ≤ R.frames ∧ 8 + (M'.2.2.1 + 11) + 40 * d ≤ R.locals) ∧ nc + mc ≤ R.cells ∧ ns + ms ≤ R.slots)
    (kk : ∀ v h', Q' v h' → XX M R G Z (nc + mc) (ns + ms) (sz + mc) h' pc' ls (v.toList ++ st)) : XX M R G Z nc ns sz h pc ls stk := by
  intro p l e s m args below meth c lo D H locs la C g hl hh hs hS
  obtain ⟨hd, rfl⟩ := hd
  obtain ⟨⟨m1, m2, m3, m4, m5⟩, m7, m8⟩ := hm
  have hts := C.2.2.2.2.2.1
  obtain ⟨ws, p1, p2, p3⟩ := hh.get
  obtain ⟨q0, hq⟩ := p3 a _ he
  obtain ⟨q, hq1, hq2⟩ := Option.map_eq_some_iff.mp hci
  have hrc := va_recv C.2.2.2.2.2.2.2.2.2.1 p1 hq1 hq
  rw [hq2] at hrc
  exact x_back (va_runV (Ts := TG) (own := M.1.cls) (C := M'.1.cls) (b := a) (As := As) (rest := st) (g := F0 m pc la stk) ⟨C.1, C.2.1, C.2.2.1, C.2.2.2.2.1, hts⟩ (hc l lo D) ⟨⟨rfl, rfl, hR.1.1, hR.1.2, x_ws C m3, List.mem_cons_self, hts _ m3, hts _ m2, m4, x_args m5, hts _ m1⟩, hts _ m7, hts _ m8⟩ ⟨xB_blind, hrc, x_pre C hh hs.1 hS⟩ rfl hn hl.1 hst (lv_room (Nat.ble_eq.mp hW)) hd hR.2) rfl C g hl hs hS kk
theorem x_callS (hd : decode M.2.1 pc = .ok (.invokestatic idx, 3) ∧ pc + 3 = pc') (hm : MS M.1.cls idx M' n) (hc : CC M' d mc ms As sz h Q') (hn : As.length = n) (hst : stk = As.reverse ++ st) (hW : Nat.ble (st.map fun v => v.category).sum 8 = true)
    (hR : (d + 1 ≤ R.frames ∧ 8 + (M'.2.2.1 + 11) + 40 * d ≤ R.locals) ∧ nc + mc ≤ R.cells ∧ ns + ms ≤ R.slots)
    (kk : ∀ v h', Q' v h' → XX M R G Z (nc + mc) (ns + ms) (sz + mc) h' pc' ls (v.toList ++ st)) : XX M R G Z nc ns sz h pc ls stk := by
  intro p l e s m args below meth c lo D H locs la C g hl hh hs hS
  obtain ⟨hd, rfl⟩ := hd
  obtain ⟨⟨m1, m2, m3, m4, m5⟩, m7⟩ := hm
  have hts := C.2.2.2.2.2.1
  exact x_back (va_runS (Ts := TG) (own := M.1.cls) (As := As) (rest := st) (g := F0 m pc la stk) ⟨C.1, C.2.1, C.2.2.1, C.2.2.2.2.1, hts⟩ (hc l lo D) ⟨⟨rfl, rfl, hR.1.1, hR.1.2, x_ws C m3, List.mem_cons_self, hts _ m3, hts _ m2, m4, x_args m5, hts _ m1⟩, hts _ m7⟩ ⟨xB_blind, x_pre C hh hs.1 hS⟩ rfl hn hl.1 hst (lv_room (Nat.ble_eq.mp hW)) hd hR.2) rfl C g hl hs hS kk
theorem x_callI {a : Nat} (hd : decode M.2.1 pc = .ok (.invokespecial idx, 3) ∧ pc + 3 = pc') (hm : MI M.1.cls idx M' n) (hc : CC M' d mc ms (.ref a :: As) sz h Q') (hn : As.length = n) (hst : stk = As.reverse ++ .ref a :: st) (hW : Nat.ble (st.map fun v => v.category).sum 8 = true)
    (hR : (d + 1 ≤ R.frames ∧ 8 + (M'.2.2.1 + 11) + 40 * d ≤ R.locals) ∧ nc + mc ≤ R.cells ∧ ns + ms ≤ R.slots)
    (kk : ∀ v h', Q' v h' → XX M R G Z (nc + mc) (ns + ms) (sz + mc) h' pc' ls (v.toList ++ st)) : XX M R G Z nc ns sz h pc ls stk := by
  intro p l e s m args below meth c lo D H locs la C g hl hh hs hS
  obtain ⟨hd, rfl⟩ := hd
  obtain ⟨⟨m1, m2, m3, m4, m5⟩, m7, m8, m9⟩ := hm
  have hts := C.2.2.2.2.2.1
  have hc' := hc l lo D
  rw [m9] at hc' m3
  exact x_back (va_runI (Ts := TG) (own := M.1.cls) (b := a) (As := As) (rest := st) (g := F0 m pc la stk) ⟨C.1, C.2.1, C.2.2.1, C.2.2.2.2.1, hts⟩ hc' ⟨⟨rfl, rfl, hR.1.1, hR.1.2, by have := x_ws C (M' := (M'.1, M'.2.1, M'.2.2.1, none)) m3; exact this, List.mem_cons_self, hts _ m3, hts _ m2, m4, x_args m5, hts _ m1⟩, m8, hts _ m7⟩ ⟨xB_blind, x_pre C hh hs.1 hS⟩ rfl hn hl.1 hst (lv_room (Nat.ble_eq.mp hW)) hd hR.2) rfl C g hl hs hS kk
theorem x_callSn (hd : decode M.2.1 pc = .ok (.invokestatic idx, 3) ∧ pc + 3 = pc') (hm : MSn M.1.cls idx M' n) (hc : CC M' d mc ms As sz h Q') (hn : As.length = n) (hst : stk = As.reverse ++ st) (hW : Nat.ble (st.map fun v => v.category).sum 8 = true)
    (hR : (d + 1 ≤ R.frames ∧ 8 + (M'.2.2.1 + 11) + 40 * d ≤ R.locals) ∧ nc + mc ≤ R.cells ∧ ns + ms ≤ R.slots)
    (kk : ∀ v h', Q' v h' → XX M R G Z (nc + mc) (ns + ms) (sz + mc) h' pc' ls (v.toList ++ st)) : XX M R G Z nc ns sz h pc ls stk := by
  intro p l e s m args below meth c lo D H locs la C g hl hh hs hS
  obtain ⟨hd, rfl⟩ := hd
  obtain ⟨⟨m1, m2, m3, m4, m5⟩, m7⟩ := hm
  have hts := C.2.2.2.2.2.1
  exact x_back (va_runSN (Ts := TG) (own := M.1.cls) (host := "CloneOutline") (As := As) (rest := st) (g := F0 m pc la stk) ⟨C.1, C.2.1, C.2.2.1, C.2.2.2.2.1, hts⟩ (hc l lo D) ⟨⟨⟨rfl, rfl, hR.1.1, hR.1.2, x_ws C m3, List.mem_cons_self⟩, hts _ m3, hts _ m2, m4, x_args m5, va_Nw.use rfl (C.2.2.2.2.2.2.1 _ m1)⟩, hts _ m7, trivial⟩ ⟨xB_blind, x_pre C hh hs.1 hS⟩ rfl hn hl.1 hst (lv_room (Nat.ble_eq.mp hW)) hd hR.2) rfl C g hl hs hS kk
theorem x_callIn {a : Nat} (hd : decode M.2.1 pc = .ok (.invokespecial idx, 3) ∧ pc + 3 = pc') (hm : MIn M.1.cls idx M' n) (hc : CC M' d mc ms (.ref a :: As) sz h Q') (hn : As.length = n) (hst : stk = As.reverse ++ .ref a :: st) (hW : Nat.ble (st.map fun v => v.category).sum 8 = true)
    (hR : (d + 1 ≤ R.frames ∧ 8 + (M'.2.2.1 + 11) + 40 * d ≤ R.locals) ∧ nc + mc ≤ R.cells ∧ ns + ms ≤ R.slots)
    (kk : ∀ v h', Q' v h' → XX M R G Z (nc + mc) (ns + ms) (sz + mc) h' pc' ls (v.toList ++ st)) : XX M R G Z nc ns sz h pc ls stk := by
  intro p l e s m args below meth c lo D H locs la C g hl hh hs hS
  obtain ⟨hd, rfl⟩ := hd
  obtain ⟨⟨m1, m2, m3, m4, m5⟩, m7, m8, m9⟩ := hm
  have hts := C.2.2.2.2.2.1
  have hc' := hc l lo D
  rw [m9] at hc' m3
  exact x_back (va_runIN (Ts := TG) (own := M.1.cls) (host := "CloneOutline") (b := a) (As := As) (rest := st) (g := F0 m pc la stk) ⟨C.1, C.2.1, C.2.2.1, C.2.2.2.2.1, hts⟩ hc' ⟨⟨⟨rfl, rfl, hR.1.1, hR.1.2, by have := x_ws C (M' := (M'.1, M'.2.1, M'.2.2.1, none)) m3; exact this, List.mem_cons_self⟩, hts _ m3, hts _ m2, m4, x_args m5, va_Nw.use rfl (C.2.2.2.2.2.2.1 _ m1)⟩, m8, hts _ m7⟩ ⟨xB_blind, x_pre C hh hs.1 hS⟩ rfl hn hl.1 hst (lv_room (Nat.ble_eq.mp hW)) hd hR.2) rfl C g hl hs hS kk
end
end
section
theorem wX0_tbl : ∀ w ∈ u_ws RX0 TX0 3, w ∈ lw_tbl := by decide +kernel
theorem wX0_good : (u_ws RX0 TX0 3).all xgood = true := by decide +kernel
theorem wX0_in : ∀ w ∈ u_ws RX0 TX0 3, w ∈ TG := fun w hw => TG_in (wX0_tbl w hw) (List.all_eq_true.mp wX0_good w hw)
theorem wX1_tbl : ∀ w ∈ u_ws RX1 TX1 3, w ∈ lw_tbl := by decide +kernel
theorem wX1_good : (u_ws RX1 TX1 3).all xgood = true := by decide +kernel
theorem wX1_in : ∀ w ∈ u_ws RX1 TX1 3, w ∈ TG := fun w hw => TG_in (wX1_tbl w hw) (List.all_eq_true.mp wX1_good w hw)
theorem wX2_tbl : ∀ w ∈ u_ws RX2 TX2 4, w ∈ lw_tbl := by decide +kernel
theorem wX2_good : (u_ws RX2 TX2 4).all xgood = true := by decide +kernel
theorem wX2_in : ∀ w ∈ u_ws RX2 TX2 4, w ∈ TG := fun w hw => TG_in (wX2_tbl w hw) (List.all_eq_true.mp wX2_good w hw)
theorem wX3_tbl : ∀ w ∈ u_ws RX3 TX3 4, w ∈ lw_tbl := by decide +kernel
theorem wX3_good : (u_ws RX3 TX3 4).all xgood = true := by decide +kernel
theorem wX3_in : ∀ w ∈ u_ws RX3 TX3 4, w ∈ TG := fun w hw => TG_in (wX3_tbl w hw) (List.all_eq_true.mp wX3_good w hw)
theorem wX4_tbl : ∀ w ∈ u_ws RX4 TX4 5, w ∈ lw_tbl := by decide +kernel
theorem wX4_good : (u_ws RX4 TX4 5).all xgood = true := by decide +kernel
theorem wX4_in : ∀ w ∈ u_ws RX4 TX4 5, w ∈ TG := fun w hw => TG_in (wX4_tbl w hw) (List.all_eq_true.mp wX4_good w hw)
theorem wX5_tbl : ∀ w ∈ u_ws RX5 TX5 3, w ∈ lw_tbl := by decide +kernel
theorem wX5_good : (u_ws RX5 TX5 3).all xgood = true := by decide +kernel
theorem wX5_in : ∀ w ∈ u_ws RX5 TX5 3, w ∈ TG := fun w hw => TG_in (wX5_tbl w hw) (List.all_eq_true.mp wX5_good w hw)
theorem wX6_tbl : ∀ w ∈ u_ws RX6 TX6 3, w ∈ lw_tbl := by decide +kernel
theorem wX6_good : (u_ws RX6 TX6 3).all xgood = true := by decide +kernel
theorem wX6_in : ∀ w ∈ u_ws RX6 TX6 3, w ∈ TG := fun w hw => TG_in (wX6_tbl w hw) (List.all_eq_true.mp wX6_good w hw)
theorem wX7_tbl : ∀ w ∈ u_ws RX7 TX7 2, w ∈ lw_tbl := by decide +kernel
theorem wX7_good : (u_ws RX7 TX7 2).all xgood = true := by decide +kernel
theorem wX7_in : ∀ w ∈ u_ws RX7 TX7 2, w ∈ TG := fun w hw => TG_in (wX7_tbl w hw) (List.all_eq_true.mp wX7_good w hw)
theorem wX8_tbl : ∀ w ∈ u_ws RX8 TX8 8, w ∈ lw_tbl := by decide +kernel
theorem wX8_good : (u_ws RX8 TX8 8).all xgood = true := by decide +kernel
theorem wX8_in : ∀ w ∈ u_ws RX8 TX8 8, w ∈ TG := fun w hw => TG_in (wX8_tbl w hw) (List.all_eq_true.mp wX8_good w hw)
theorem wX9_tbl : ∀ w ∈ u_ws RX9 TX9 20, w ∈ lw_tbl := by decide +kernel
theorem wX9_good : (u_ws RX9 TX9 20).all xgood = true := by decide +kernel
theorem wX9_in : ∀ w ∈ u_ws RX9 TX9 20, w ∈ TG := fun w hw => TG_in (wX9_tbl w hw) (List.all_eq_true.mp wX9_good w hw)
theorem fX7_9 : FA RX7 9 7 0 true (.array .int) := ⟨RX7, TX7, 2, tyX7, rfl, by decide, TG_in (List.mem_append_right _ (List.mem_of_getElem? (i := 28) (by decide +kernel))) (by decide +kernel), rfl, rfl, tyX7_ok 0 (by decide), wX7_in, tyX7_ok, nmX7⟩
theorem fX7_15 : FA RX7 15 7 1 false .int := ⟨RX7, TX7, 2, tyX7, rfl, by decide, TG_in (List.mem_append_right _ (List.mem_of_getElem? (i := 29) (by decide +kernel))) (by decide +kernel), rfl, rfl, tyX7_ok 1 (by decide), wX7_in, tyX7_ok, nmX7⟩
theorem fX4_21 : FA RX4 21 7 1 false .int := ⟨RX7, TX7, 2, tyX7, rfl, by decide, TG_in (List.mem_append_right _ (List.mem_of_getElem? (i := 30) (by decide +kernel))) (by decide +kernel), rfl, rfl, tyX7_ok 1 (by decide), wX7_in, tyX7_ok, nmX7⟩
theorem fX2_41 : FA RX2 41 7 1 false .int := ⟨RX7, TX7, 2, tyX7, rfl, by decide, TG_in (List.mem_append_right _ (List.mem_of_getElem? (i := 31) (by decide +kernel))) (by decide +kernel), rfl, rfl, tyX7_ok 1 (by decide), wX7_in, tyX7_ok, nmX7⟩
theorem fX8_189 : FA RX8 189 7 1 false .int := ⟨RX7, TX7, 2, tyX7, rfl, by decide, TG_in (List.mem_append_right _ (List.mem_of_getElem? (i := 32) (by decide +kernel))) (by decide +kernel), rfl, rfl, tyX7_ok 1 (by decide), wX7_in, tyX7_ok, nmX7⟩
theorem fX4_9 : FA RX4 9 4 0 true (.array .int) := ⟨RX4, TX4, 5, tyX4, rfl, by decide, TG_in (List.mem_append_right _ (List.mem_of_getElem? (i := 45) (by decide +kernel))) (by decide +kernel), rfl, rfl, tyX4_ok 0 (by decide), wX4_in, tyX4_ok, nmX4⟩
theorem fX4_15 : FA RX4 15 4 1 true (.array .int) := ⟨RX4, TX4, 5, tyX4, rfl, by decide, TG_in (List.mem_append_right _ (List.mem_of_getElem? (i := 46) (by decide +kernel))) (by decide +kernel), rfl, rfl, tyX4_ok 1 (by decide), wX4_in, tyX4_ok, nmX4⟩
theorem fX4_43 : FA RX4 43 4 2 false .int := ⟨RX4, TX4, 5, tyX4, rfl, by decide, TG_in (List.mem_append_right _ (List.mem_of_getElem? (i := 47) (by decide +kernel))) (by decide +kernel), rfl, rfl, tyX4_ok 2 (by decide), wX4_in, tyX4_ok, nmX4⟩
theorem fX4_31 : FA RX4 31 4 3 false .boolean := ⟨RX4, TX4, 5, tyX4, rfl, by decide, TG_in (List.mem_append_right _ (List.mem_of_getElem? (i := 48) (by decide +kernel))) (by decide +kernel), rfl, rfl, tyX4_ok 3 (by decide), wX4_in, tyX4_ok, nmX4⟩
theorem fX4_46 : FA RX4 46 4 4 false .int := ⟨RX4, TX4, 5, tyX4, rfl, by decide, TG_in (List.mem_append_right _ (List.mem_of_getElem? (i := 49) (by decide +kernel))) (by decide +kernel), rfl, rfl, tyX4_ok 4 (by decide), wX4_in, tyX4_ok, nmX4⟩
theorem fX5_9 : FA RX5 9 5 0 true (.array .int) := ⟨RX5, TX5, 3, tyX5, rfl, by decide, TG_in (List.mem_append_right _ (List.mem_of_getElem? (i := 67) (by decide +kernel))) (by decide +kernel), rfl, rfl, tyX5_ok 0 (by decide), wX5_in, tyX5_ok, nmX5⟩
theorem fX5_15 : FA RX5 15 5 1 true (.array .int) := ⟨RX5, TX5, 3, tyX5, rfl, by decide, TG_in (List.mem_append_right _ (List.mem_of_getElem? (i := 68) (by decide +kernel))) (by decide +kernel), rfl, rfl, tyX5_ok 1 (by decide), wX5_in, tyX5_ok, nmX5⟩
theorem fX5_18 : FA RX5 18 5 2 false .int := ⟨RX5, TX5, 3, tyX5, rfl, by decide, TG_in (List.mem_append_right _ (List.mem_of_getElem? (i := 69) (by decide +kernel))) (by decide +kernel), rfl, rfl, tyX5_ok 2 (by decide), wX5_in, tyX5_ok, nmX5⟩
theorem fX8_170 : FA RX8 170 5 2 false .int := ⟨RX5, TX5, 3, tyX5, rfl, by decide, TG_in (List.mem_append_right _ (List.mem_of_getElem? (i := 70) (by decide +kernel))) (by decide +kernel), rfl, rfl, tyX5_ok 2 (by decide), wX5_in, tyX5_ok, nmX5⟩
theorem fX2_9 : FA RX2 9 2 0 true (.array .int) := ⟨RX2, TX2, 4, tyX2, rfl, by decide, TG_in (List.mem_append_right _ (List.mem_of_getElem? (i := 97) (by decide +kernel))) (by decide +kernel), rfl, rfl, tyX2_ok 0 (by decide), wX2_in, tyX2_ok, nmX2⟩
theorem fX2_15 : FA RX2 15 2 1 true (.array .int) := ⟨RX2, TX2, 4, tyX2, rfl, by decide, TG_in (List.mem_append_right _ (List.mem_of_getElem? (i := 98) (by decide +kernel))) (by decide +kernel), rfl, rfl, tyX2_ok 1 (by decide), wX2_in, tyX2_ok, nmX2⟩
theorem fX2_18 : FA RX2 18 2 2 true (.array .int) := ⟨RX2, TX2, 4, tyX2, rfl, by decide, TG_in (List.mem_append_right _ (List.mem_of_getElem? (i := 99) (by decide +kernel))) (by decide +kernel), rfl, rfl, tyX2_ok 2 (by decide), wX2_in, tyX2_ok, nmX2⟩
theorem fX2_21 : FA RX2 21 2 3 false .int := ⟨RX2, TX2, 4, tyX2, rfl, by decide, TG_in (List.mem_append_right _ (List.mem_of_getElem? (i := 100) (by decide +kernel))) (by decide +kernel), rfl, rfl, tyX2_ok 3 (by decide), wX2_in, tyX2_ok, nmX2⟩
theorem fX8_66 : FA RX8 66 2 3 false .int := ⟨RX2, TX2, 4, tyX2, rfl, by decide, TG_in (List.mem_append_right _ (List.mem_of_getElem? (i := 101) (by decide +kernel))) (by decide +kernel), rfl, rfl, tyX2_ok 3 (by decide), wX2_in, tyX2_ok, nmX2⟩
theorem fX6_42 : FA RX6 42 2 3 false .int := ⟨RX2, TX2, 4, tyX2, rfl, by decide, TG_in (List.mem_append_right _ (List.mem_of_getElem? (i := 102) (by decide +kernel))) (by decide +kernel), rfl, rfl, tyX2_ok 3 (by decide), wX2_in, tyX2_ok, nmX2⟩
theorem fX1_9 : FA RX1 9 1 0 true (.array .int) := ⟨RX1, TX1, 3, tyX1, rfl, by decide, TG_in (List.mem_append_right _ (List.mem_of_getElem? (i := 118) (by decide +kernel))) (by decide +kernel), rfl, rfl, tyX1_ok 0 (by decide), wX1_in, tyX1_ok, nmX1⟩
theorem fX6_58 : FA RX6 58 1 0 true (.array .int) := ⟨RX1, TX1, 3, tyX1, rfl, by decide, TG_in (List.mem_append_right _ (List.mem_of_getElem? (i := 119) (by decide +kernel))) (by decide +kernel), rfl, rfl, tyX1_ok 0 (by decide), wX1_in, tyX1_ok, nmX1⟩
theorem fX1_15 : FA RX1 15 1 1 true (.array .int) := ⟨RX1, TX1, 3, tyX1, rfl, by decide, TG_in (List.mem_append_right _ (List.mem_of_getElem? (i := 120) (by decide +kernel))) (by decide +kernel), rfl, rfl, tyX1_ok 1 (by decide), wX1_in, tyX1_ok, nmX1⟩
theorem fX6_62 : FA RX6 62 1 1 true (.array .int) := ⟨RX1, TX1, 3, tyX1, rfl, by decide, TG_in (List.mem_append_right _ (List.mem_of_getElem? (i := 121) (by decide +kernel))) (by decide +kernel), rfl, rfl, tyX1_ok 1 (by decide), wX1_in, tyX1_ok, nmX1⟩
theorem fX1_18 : FA RX1 18 1 2 false .int := ⟨RX1, TX1, 3, tyX1, rfl, by decide, TG_in (List.mem_append_right _ (List.mem_of_getElem? (i := 122) (by decide +kernel))) (by decide +kernel), rfl, rfl, tyX1_ok 2 (by decide), wX1_in, tyX1_ok, nmX1⟩
theorem fX6_46 : FA RX6 46 1 2 false .int := ⟨RX1, TX1, 3, tyX1, rfl, by decide, TG_in (List.mem_append_right _ (List.mem_of_getElem? (i := 123) (by decide +kernel))) (by decide +kernel), rfl, rfl, tyX1_ok 2 (by decide), wX1_in, tyX1_ok, nmX1⟩
theorem fX3_9 : FA RX3 9 3 0 true (.array .int) := ⟨RX3, TX3, 4, tyX3, rfl, by decide, TG_in (List.mem_append_right _ (List.mem_of_getElem? (i := 137) (by decide +kernel))) (by decide +kernel), rfl, rfl, tyX3_ok 0 (by decide), wX3_in, tyX3_ok, nmX3⟩
theorem fX3_15 : FA RX3 15 3 1 true (.array .int) := ⟨RX3, TX3, 4, tyX3, rfl, by decide, TG_in (List.mem_append_right _ (List.mem_of_getElem? (i := 138) (by decide +kernel))) (by decide +kernel), rfl, rfl, tyX3_ok 1 (by decide), wX3_in, tyX3_ok, nmX3⟩
theorem fX5_25 : FA RX5 25 3 1 true (.array .int) := ⟨RX3, TX3, 4, tyX3, rfl, by decide, TG_in (List.mem_append_right _ (List.mem_of_getElem? (i := 139) (by decide +kernel))) (by decide +kernel), rfl, rfl, tyX3_ok 1 (by decide), wX3_in, tyX3_ok, nmX3⟩
theorem fX3_18 : FA RX3 18 3 2 true (.array .int) := ⟨RX3, TX3, 4, tyX3, rfl, by decide, TG_in (List.mem_append_right _ (List.mem_of_getElem? (i := 140) (by decide +kernel))) (by decide +kernel), rfl, rfl, tyX3_ok 2 (by decide), wX3_in, tyX3_ok, nmX3⟩
theorem fX5_28 : FA RX5 28 3 2 true (.array .int) := ⟨RX3, TX3, 4, tyX3, rfl, by decide, TG_in (List.mem_append_right _ (List.mem_of_getElem? (i := 141) (by decide +kernel))) (by decide +kernel), rfl, rfl, tyX3_ok 2 (by decide), wX3_in, tyX3_ok, nmX3⟩
theorem fX3_21 : FA RX3 21 3 3 false .int := ⟨RX3, TX3, 4, tyX3, rfl, by decide, TG_in (List.mem_append_right _ (List.mem_of_getElem? (i := 142) (by decide +kernel))) (by decide +kernel), rfl, rfl, tyX3_ok 3 (by decide), wX3_in, tyX3_ok, nmX3⟩
theorem fX5_22 : FA RX5 22 3 3 false .int := ⟨RX3, TX3, 4, tyX3, rfl, by decide, TG_in (List.mem_append_right _ (List.mem_of_getElem? (i := 143) (by decide +kernel))) (by decide +kernel), rfl, rfl, tyX3_ok 3 (by decide), wX3_in, tyX3_ok, nmX3⟩
theorem fX6_49 : FA RX6 49 3 3 false .int := ⟨RX3, TX3, 4, tyX3, rfl, by decide, TG_in (List.mem_append_right _ (List.mem_of_getElem? (i := 144) (by decide +kernel))) (by decide +kernel), rfl, rfl, tyX3_ok 3 (by decide), wX3_in, tyX3_ok, nmX3⟩
theorem fX8_202 : FA RX8 202 3 3 false .int := ⟨RX3, TX3, 4, tyX3, rfl, by decide, TG_in (List.mem_append_right _ (List.mem_of_getElem? (i := 145) (by decide +kernel))) (by decide +kernel), rfl, rfl, tyX3_ok 3 (by decide), wX3_in, tyX3_ok, nmX3⟩
theorem fX6_12 : FA RX6 12 6 0 true (.object "CloneOutline$Nodes") := ⟨RX6, TX6, 3, tyX6, rfl, by decide, TG_in (List.mem_append_right _ (List.mem_of_getElem? (i := 155) (by decide +kernel))) (by decide +kernel), rfl, rfl, tyX6_ok 0 (by decide), wX6_in, tyX6_ok, nmX6⟩
theorem fX8_62 : FA RX8 62 6 0 true (.object "CloneOutline$Nodes") := ⟨RX6, TX6, 3, tyX6, rfl, by decide, TG_in (List.mem_append_right _ (List.mem_of_getElem? (i := 156) (by decide +kernel))) (by decide +kernel), rfl, rfl, tyX6_ok 0 (by decide), wX6_in, tyX6_ok, nmX6⟩
theorem fX4_49 : FA RX4 49 6 0 true (.object "CloneOutline$Nodes") := ⟨RX6, TX6, 3, tyX6, rfl, by decide, TG_in (List.mem_append_right _ (List.mem_of_getElem? (i := 157) (by decide +kernel))) (by decide +kernel), rfl, rfl, tyX6_ok 0 (by decide), wX6_in, tyX6_ok, nmX6⟩
theorem fX6_21 : FA RX6 21 6 1 true (.object "CloneOutline$Links") := ⟨RX6, TX6, 3, tyX6, rfl, by decide, TG_in (List.mem_append_right _ (List.mem_of_getElem? (i := 158) (by decide +kernel))) (by decide +kernel), rfl, rfl, tyX6_ok 1 (by decide), wX6_in, tyX6_ok, nmX6⟩
theorem fX8_103 : FA RX8 103 6 1 true (.object "CloneOutline$Links") := ⟨RX6, TX6, 3, tyX6, rfl, by decide, TG_in (List.mem_append_right _ (List.mem_of_getElem? (i := 159) (by decide +kernel))) (by decide +kernel), rfl, rfl, tyX6_ok 1 (by decide), wX6_in, tyX6_ok, nmX6⟩
theorem fX4_68 : FA RX4 68 6 1 true (.object "CloneOutline$Links") := ⟨RX6, TX6, 3, tyX6, rfl, by decide, TG_in (List.mem_append_right _ (List.mem_of_getElem? (i := 160) (by decide +kernel))) (by decide +kernel), rfl, rfl, tyX6_ok 1 (by decide), wX6_in, tyX6_ok, nmX6⟩
theorem fX6_28 : FA RX6 28 6 2 true (.object "CloneOutline$Places") := ⟨RX6, TX6, 3, tyX6, rfl, by decide, TG_in (List.mem_append_right _ (List.mem_of_getElem? (i := 161) (by decide +kernel))) (by decide +kernel), rfl, rfl, tyX6_ok 2 (by decide), wX6_in, tyX6_ok, nmX6⟩
theorem fX8_84 : FA RX8 84 6 2 true (.object "CloneOutline$Places") := ⟨RX6, TX6, 3, tyX6, rfl, by decide, TG_in (List.mem_append_right _ (List.mem_of_getElem? (i := 162) (by decide +kernel))) (by decide +kernel), rfl, rfl, tyX6_ok 2 (by decide), wX6_in, tyX6_ok, nmX6⟩
theorem fX0_11 : FA RX0 11 0 0 true (.array (.object "CloneOutline$State")) := ⟨RX0, TX0, 3, tyX0, rfl, by decide, TG_in (List.mem_append_right _ (List.mem_of_getElem? (i := 170) (by decide +kernel))) (by decide +kernel), rfl, rfl, tyX0_ok 0 (by decide), wX0_in, tyX0_ok, nmX0⟩
theorem fX0_22 : FA RX0 22 0 1 false .int := ⟨RX0, TX0, 3, tyX0, rfl, by decide, TG_in (List.mem_append_right _ (List.mem_of_getElem? (i := 171) (by decide +kernel))) (by decide +kernel), rfl, rfl, tyX0_ok 1 (by decide), wX0_in, tyX0_ok, nmX0⟩
theorem fX0_18 : FA RX0 18 0 2 false .int := ⟨RX0, TX0, 3, tyX0, rfl, by decide, TG_in (List.mem_append_right _ (List.mem_of_getElem? (i := 172) (by decide +kernel))) (by decide +kernel), rfl, rfl, tyX0_ok 2 (by decide), wX0_in, tyX0_ok, nmX0⟩
theorem fX8_211 : FA RX8 211 0 2 false .int := ⟨RX0, TX0, 3, tyX0, rfl, by decide, TG_in (List.mem_append_right _ (List.mem_of_getElem? (i := 173) (by decide +kernel))) (by decide +kernel), rfl, rfl, tyX0_ok 2 (by decide), wX0_in, tyX0_ok, nmX0⟩
theorem fX8_10 : FA RX8 10 8 0 true (.object "CloneOutline$Typed") := ⟨RX8, TX8, 8, tyX8, rfl, by decide, TG_in (List.mem_append_right _ (List.mem_of_getElem? (i := 183) (by decide +kernel))) (by decide +kernel), rfl, rfl, tyX8_ok 0 (by decide), wX8_in, tyX8_ok, nmX8⟩
theorem fX8_19 : FA RX8 19 8 1 true (.object "CloneOutline$Reader") := ⟨RX8, TX8, 8, tyX8, rfl, by decide, TG_in (List.mem_append_right _ (List.mem_of_getElem? (i := 184) (by decide +kernel))) (by decide +kernel), rfl, rfl, tyX8_ok 1 (by decide), wX8_in, tyX8_ok, nmX8⟩
theorem fX8_26 : FA RX8 26 8 2 true (.object "CloneOutline$Rows") := ⟨RX8, TX8, 8, tyX8, rfl, by decide, TG_in (List.mem_append_right _ (List.mem_of_getElem? (i := 185) (by decide +kernel))) (by decide +kernel), rfl, rfl, tyX8_ok 2 (by decide), wX8_in, tyX8_ok, nmX8⟩
theorem fX8_33 : FA RX8 33 8 3 true (.object "CloneOutline$History") := ⟨RX8, TX8, 8, tyX8, rfl, by decide, TG_in (List.mem_append_right _ (List.mem_of_getElem? (i := 186) (by decide +kernel))) (by decide +kernel), rfl, rfl, tyX8_ok 3 (by decide), wX8_in, tyX8_ok, nmX8⟩
theorem fX8_40 : FA RX8 40 8 4 true (.object "CloneOutline$State") := ⟨RX8, TX8, 8, tyX8, rfl, by decide, TG_in (List.mem_append_right _ (List.mem_of_getElem? (i := 187) (by decide +kernel))) (by decide +kernel), rfl, rfl, tyX8_ok 4 (by decide), wX8_in, tyX8_ok, nmX8⟩
theorem fX8_44 : FA RX8 44 8 5 false .boolean := ⟨RX8, TX8, 8, tyX8, rfl, by decide, TG_in (List.mem_append_right _ (List.mem_of_getElem? (i := 188) (by decide +kernel))) (by decide +kernel), rfl, rfl, tyX8_ok 5 (by decide), wX8_in, tyX8_ok, nmX8⟩
theorem fX8_48 : FA RX8 48 8 6 false (.object "CloneOutline$State") := ⟨RX8, TX8, 8, tyX8, rfl, by decide, TG_in (List.mem_append_right _ (List.mem_of_getElem? (i := 189) (by decide +kernel))) (by decide +kernel), rfl, rfl, tyX8_ok 6 (by decide), wX8_in, tyX8_ok, nmX8⟩
theorem fX8_51 : FA RX8 51 8 7 false (.object "CloneOutline$State") := ⟨RX8, TX8, 8, tyX8, rfl, by decide, TG_in (List.mem_append_right _ (List.mem_of_getElem? (i := 190) (by decide +kernel))) (by decide +kernel), rfl, rfl, tyX8_ok 7 (by decide), wX8_in, tyX8_ok, nmX8⟩
theorem fX9_7 : FA RX9 7 9 0 true (.array .int) := ⟨RX9, TX9, 20, tyX9, rfl, by decide, TG_in (List.mem_append_right _ (List.mem_of_getElem? (i := 633) (by decide +kernel))) (by decide +kernel), rfl, rfl, tyX9_ok 0 (by decide), wX9_in, tyX9_ok, nmX9⟩
theorem fX9_13 : FA RX9 13 9 1 true (.array .int) := ⟨RX9, TX9, 20, tyX9, rfl, by decide, TG_in (List.mem_append_right _ (List.mem_of_getElem? (i := 634) (by decide +kernel))) (by decide +kernel), rfl, rfl, tyX9_ok 1 (by decide), wX9_in, tyX9_ok, nmX9⟩
theorem fX9_60 : FA RX9 60 9 2 false .int := ⟨RX9, TX9, 20, tyX9, rfl, by decide, TG_in (List.mem_append_right _ (List.mem_of_getElem? (i := 635) (by decide +kernel))) (by decide +kernel), rfl, rfl, tyX9_ok 2 (by decide), wX9_in, tyX9_ok, nmX9⟩
theorem fX9_16 : FA RX9 16 9 3 true (.array .int) := ⟨RX9, TX9, 20, tyX9, rfl, by decide, TG_in (List.mem_append_right _ (List.mem_of_getElem? (i := 636) (by decide +kernel))) (by decide +kernel), rfl, rfl, tyX9_ok 3 (by decide), wX9_in, tyX9_ok, nmX9⟩
theorem fX9_179 : FA RX9 179 9 4 false .boolean := ⟨RX9, TX9, 20, tyX9, rfl, by decide, TG_in (List.mem_append_right _ (List.mem_of_getElem? (i := 637) (by decide +kernel))) (by decide +kernel), rfl, rfl, tyX9_ok 4 (by decide), wX9_in, tyX9_ok, nmX9⟩
theorem fX9_19 : FA RX9 19 9 5 true (.array .int) := ⟨RX9, TX9, 20, tyX9, rfl, by decide, TG_in (List.mem_append_right _ (List.mem_of_getElem? (i := 638) (by decide +kernel))) (by decide +kernel), rfl, rfl, tyX9_ok 5 (by decide), wX9_in, tyX9_ok, nmX9⟩
theorem fX9_22 : FA RX9 22 9 6 true (.array .int) := ⟨RX9, TX9, 20, tyX9, rfl, by decide, TG_in (List.mem_append_right _ (List.mem_of_getElem? (i := 639) (by decide +kernel))) (by decide +kernel), rfl, rfl, tyX9_ok 6 (by decide), wX9_in, tyX9_ok, nmX9⟩
theorem fX9_25 : FA RX9 25 9 7 true (.array .int) := ⟨RX9, TX9, 20, tyX9, rfl, by decide, TG_in (List.mem_append_right _ (List.mem_of_getElem? (i := 640) (by decide +kernel))) (by decide +kernel), rfl, rfl, tyX9_ok 7 (by decide), wX9_in, tyX9_ok, nmX9⟩
theorem fX9_28 : FA RX9 28 9 8 true (.array .int) := ⟨RX9, TX9, 20, tyX9, rfl, by decide, TG_in (List.mem_append_right _ (List.mem_of_getElem? (i := 641) (by decide +kernel))) (by decide +kernel), rfl, rfl, tyX9_ok 8 (by decide), wX9_in, tyX9_ok, nmX9⟩
theorem fX9_31 : FA RX9 31 9 9 true (.array .int) := ⟨RX9, TX9, 20, tyX9, rfl, by decide, TG_in (List.mem_append_right _ (List.mem_of_getElem? (i := 642) (by decide +kernel))) (by decide +kernel), rfl, rfl, tyX9_ok 9 (by decide), wX9_in, tyX9_ok, nmX9⟩
theorem fX9_34 : FA RX9 34 9 10 true (.array .boolean) := ⟨RX9, TX9, 20, tyX9, rfl, by decide, TG_in (List.mem_append_right _ (List.mem_of_getElem? (i := 643) (by decide +kernel))) (by decide +kernel), rfl, rfl, tyX9_ok 10 (by decide), wX9_in, tyX9_ok, nmX9⟩
theorem fX9_38 : FA RX9 38 9 11 true (.array .int) := ⟨RX9, TX9, 20, tyX9, rfl, by decide, TG_in (List.mem_append_right _ (List.mem_of_getElem? (i := 644) (by decide +kernel))) (by decide +kernel), rfl, rfl, tyX9_ok 11 (by decide), wX9_in, tyX9_ok, nmX9⟩
theorem fX9_95 : FA RX9 95 9 12 false .int := ⟨RX9, TX9, 20, tyX9, rfl, by decide, TG_in (List.mem_append_right _ (List.mem_of_getElem? (i := 645) (by decide +kernel))) (by decide +kernel), rfl, rfl, tyX9_ok 12 (by decide), wX9_in, tyX9_ok, nmX9⟩
theorem fX9_41 : FA RX9 41 9 13 true (.array .char) := ⟨RX9, TX9, 20, tyX9, rfl, by decide, TG_in (List.mem_append_right _ (List.mem_of_getElem? (i := 646) (by decide +kernel))) (by decide +kernel), rfl, rfl, tyX9_ok 13 (by decide), wX9_in, tyX9_ok, nmX9⟩
theorem fX9_45 : FA RX9 45 9 14 true (.array .int) := ⟨RX9, TX9, 20, tyX9, rfl, by decide, TG_in (List.mem_append_right _ (List.mem_of_getElem? (i := 647) (by decide +kernel))) (by decide +kernel), rfl, rfl, tyX9_ok 14 (by decide), wX9_in, tyX9_ok, nmX9⟩
theorem fX9_167 : FA RX9 167 9 15 false .int := ⟨RX9, TX9, 20, tyX9, rfl, by decide, TG_in (List.mem_append_right _ (List.mem_of_getElem? (i := 648) (by decide +kernel))) (by decide +kernel), rfl, rfl, tyX9_ok 15 (by decide), wX9_in, tyX9_ok, nmX9⟩
theorem fX9_48 : FA RX9 48 9 16 true (.array .int) := ⟨RX9, TX9, 20, tyX9, rfl, by decide, TG_in (List.mem_append_right _ (List.mem_of_getElem? (i := 649) (by decide +kernel))) (by decide +kernel), rfl, rfl, tyX9_ok 16 (by decide), wX9_in, tyX9_ok, nmX9⟩
theorem fX9_51 : FA RX9 51 9 17 true (.array .int) := ⟨RX9, TX9, 20, tyX9, rfl, by decide, TG_in (List.mem_append_right _ (List.mem_of_getElem? (i := 650) (by decide +kernel))) (by decide +kernel), rfl, rfl, tyX9_ok 17 (by decide), wX9_in, tyX9_ok, nmX9⟩
theorem fX9_54 : FA RX9 54 9 18 true (.array .int) := ⟨RX9, TX9, 20, tyX9, rfl, by decide, TG_in (List.mem_append_right _ (List.mem_of_getElem? (i := 651) (by decide +kernel))) (by decide +kernel), rfl, rfl, tyX9_ok 18 (by decide), wX9_in, tyX9_ok, nmX9⟩
theorem fX9_57 : FA RX9 57 9 19 true (.array .int) := ⟨RX9, TX9, 20, tyX9, rfl, by decide, TG_in (List.mem_append_right _ (List.mem_of_getElem? (i := 652) (by decide +kernel))) (by decide +kernel), rfl, rfl, tyX9_ok 19 (by decide), wX9_in, tyX9_ok, nmX9⟩
abbrev mX8_init : MD := (yX8_init, cX8_init, 1, none)
theorem kcX8_init : Cond.code mX8_init.1 mX8_init.2.1 mX8_init.2.2.1 mX8_init.2.2.2 ∈ TG := TG_in (List.mem_append_right _ (List.mem_of_getElem? (i := 18) (by decide +kernel))) (by decide +kernel)
abbrev mX7_init : MD := (yX7_init, cX7_init, 1, none)
theorem kcX7_init : Cond.code mX7_init.1 mX7_init.2.1 mX7_init.2.2.1 mX7_init.2.2.2 ∈ TG := TG_in (List.mem_append_right _ (List.mem_of_getElem? (i := 26) (by decide +kernel))) (by decide +kernel)
abbrev mX4_init : MD := (yX4_init, cX4_init, 1, none)
theorem kcX4_init : Cond.code mX4_init.1 mX4_init.2.1 mX4_init.2.2.1 mX4_init.2.2.2 ∈ TG := TG_in (List.mem_append_right _ (List.mem_of_getElem? (i := 43) (by decide +kernel))) (by decide +kernel)
abbrev mX5_init : MD := (yX5_init, cX5_init, 1, none)
theorem kcX5_init : Cond.code mX5_init.1 mX5_init.2.1 mX5_init.2.2.1 mX5_init.2.2.2 ∈ TG := TG_in (List.mem_append_right _ (List.mem_of_getElem? (i := 65) (by decide +kernel))) (by decide +kernel)
abbrev mX0_init : MD := (yX0_init, cX0_init, 2, none)
theorem kcX0_init : Cond.code mX0_init.1 mX0_init.2.1 mX0_init.2.2.1 mX0_init.2.2.2 ∈ TG := TG_in (List.mem_append_right _ (List.mem_of_getElem? (i := 82) (by decide +kernel))) (by decide +kernel)
abbrev mX6_init : MD := (yX6_init, cX6_init, 1, none)
theorem kcX6_init : Cond.code mX6_init.1 mX6_init.2.1 mX6_init.2.2.1 mX6_init.2.2.2 ∈ TG := TG_in (List.mem_append_right _ (List.mem_of_getElem? (i := 89) (by decide +kernel))) (by decide +kernel)
abbrev mX2_init : MD := (yX2_init, cX2_init, 1, none)
theorem kcX2_init : Cond.code mX2_init.1 mX2_init.2.1 mX2_init.2.2.1 mX2_init.2.2.2 ∈ TG := TG_in (List.mem_append_right _ (List.mem_of_getElem? (i := 95) (by decide +kernel))) (by decide +kernel)
abbrev mX1_init : MD := (yX1_init, cX1_init, 1, none)
theorem kcX1_init : Cond.code mX1_init.1 mX1_init.2.1 mX1_init.2.2.1 mX1_init.2.2.2 ∈ TG := TG_in (List.mem_append_right _ (List.mem_of_getElem? (i := 116) (by decide +kernel))) (by decide +kernel)
abbrev mX3_init : MD := (yX3_init, cX3_init, 1, none)
theorem kcX3_init : Cond.code mX3_init.1 mX3_init.2.1 mX3_init.2.2.1 mX3_init.2.2.2 ∈ TG := TG_in (List.mem_append_right _ (List.mem_of_getElem? (i := 135) (by decide +kernel))) (by decide +kernel)
abbrev mX8_add : MD := (yX8_add, cX8_add, 4, (some .int))
theorem kcX8_add : Cond.code mX8_add.1 mX8_add.2.1 mX8_add.2.2.1 mX8_add.2.2.2 ∈ TG := TG_in (List.mem_append_right _ (List.mem_of_getElem? (i := 211) (by decide +kernel))) (by decide +kernel)
abbrev mX8_placeOrRoot : MD := (yX8_placeOrRoot, cX8_placeOrRoot, 2, (some .int))
theorem kcX8_placeOrRoot : Cond.code mX8_placeOrRoot.1 mX8_placeOrRoot.2.1 mX8_placeOrRoot.2.2.1 mX8_placeOrRoot.2.2.2 ∈ TG := TG_in (List.mem_append_right _ (List.mem_of_getElem? (i := 215) (by decide +kernel))) (by decide +kernel)
abbrev mX5_placeOf : MD := (yX5_placeOf, cX5_placeOf, 2, (some .int))
theorem kcX5_placeOf : Cond.code mX5_placeOf.1 mX5_placeOf.2.1 mX5_placeOf.2.2.1 mX5_placeOf.2.2.2 ∈ TG := TG_in (List.mem_append_right _ (List.mem_of_getElem? (i := 219) (by decide +kernel))) (by decide +kernel)
abbrev mX7_fitsNode : MD := (yX7_fitsNode, cX7_fitsNode, 1, (some .boolean))
theorem kcX7_fitsNode : Cond.code mX7_fitsNode.1 mX7_fitsNode.2.1 mX7_fitsNode.2.2.1 mX7_fitsNode.2.2.2 ∈ TG := TG_in (List.mem_append_right _ (List.mem_of_getElem? (i := 223) (by decide +kernel))) (by decide +kernel)
abbrev mX6_copyFrom : MD := (yX6_copyFrom, cX6_copyFrom, 2, none)
theorem kcX6_copyFrom : Cond.code mX6_copyFrom.1 mX6_copyFrom.2.1 mX6_copyFrom.2.2.1 mX6_copyFrom.2.2.2 ∈ TG := TG_in (List.mem_append_right _ (List.mem_of_getElem? (i := 227) (by decide +kernel))) (by decide +kernel)
abbrev mX2_copyFrom : MD := (yX2_copyFrom, cX2_copyFrom, 2, none)
theorem kcX2_copyFrom : Cond.code mX2_copyFrom.1 mX2_copyFrom.2.1 mX2_copyFrom.2.2.1 mX2_copyFrom.2.2.2 ∈ TG := TG_in (List.mem_append_right _ (List.mem_of_getElem? (i := 231) (by decide +kernel))) (by decide +kernel)
abbrev mX1_copyFrom : MD := (yX1_copyFrom, cX1_copyFrom, 2, none)
theorem kcX1_copyFrom : Cond.code mX1_copyFrom.1 mX1_copyFrom.2.1 mX1_copyFrom.2.2.1 mX1_copyFrom.2.2.2 ∈ TG := TG_in (List.mem_append_right _ (List.mem_of_getElem? (i := 238) (by decide +kernel))) (by decide +kernel)
abbrev mX3_copyFrom : MD := (yX3_copyFrom, cX3_copyFrom, 2, none)
theorem kcX3_copyFrom : Cond.code mX3_copyFrom.1 mX3_copyFrom.2.1 mX3_copyFrom.2.2.1 mX3_copyFrom.2.2.2 ∈ TG := TG_in (List.mem_append_right _ (List.mem_of_getElem? (i := 243) (by decide +kernel))) (by decide +kernel)
abbrev mX2_makeNode : MD := (yX2_makeNode, cX2_makeNode, 1, (some .int))
theorem kcX2_makeNode : Cond.code mX2_makeNode.1 mX2_makeNode.2.1 mX2_makeNode.2.2.1 mX2_makeNode.2.2.2 ∈ TG := TG_in (List.mem_append_right _ (List.mem_of_getElem? (i := 248) (by decide +kernel))) (by decide +kernel)
abbrev mX2_setText : MD := (yX2_setText, cX2_setText, 4, none)
theorem kcX2_setText : Cond.code mX2_setText.1 mX2_setText.2.1 mX2_setText.2.2.1 mX2_setText.2.2.2 ∈ TG := TG_in (List.mem_append_right _ (List.mem_of_getElem? (i := 252) (by decide +kernel))) (by decide +kernel)
abbrev mX2_isNumber : MD := (yX2_isNumber, cX2_isNumber, 1, (some .boolean))
theorem kcX2_isNumber : Cond.code mX2_isNumber.1 mX2_isNumber.2.1 mX2_isNumber.2.2.1 mX2_isNumber.2.2.2 ∈ TG := TG_in (List.mem_append_right _ (List.mem_of_getElem? (i := 255) (by decide +kernel))) (by decide +kernel)
abbrev mX7_codeAt : MD := (yX7_codeAt, cX7_codeAt, 2, (some .int))
theorem kcX7_codeAt : Cond.code mX7_codeAt.1 mX7_codeAt.2.1 mX7_codeAt.2.2.1 mX7_codeAt.2.2.2 ∈ TG := TG_in (List.mem_append_right _ (List.mem_of_getElem? (i := 260) (by decide +kernel))) (by decide +kernel)
abbrev mX3_nodeOf : MD := (yX3_nodeOf, cX3_nodeOf, 2, (some .int))
theorem kcX3_nodeOf : Cond.code mX3_nodeOf.1 mX3_nodeOf.2.1 mX3_nodeOf.2.2.1 mX3_nodeOf.2.2.2 ∈ TG := TG_in (List.mem_append_right _ (List.mem_of_getElem? (i := 264) (by decide +kernel))) (by decide +kernel)
abbrev mX3_isThere : MD := (yX3_isThere, cX3_isThere, 2, (some .boolean))
theorem kcX3_isThere : Cond.code mX3_isThere.1 mX3_isThere.2.1 mX3_isThere.2.2.1 mX3_isThere.2.2.2 ∈ TG := TG_in (List.mem_append_right _ (List.mem_of_getElem? (i := 268) (by decide +kernel))) (by decide +kernel)
abbrev mX8_attach : MD := (yX8_attach, cX8_attach, 3, (some .int))
theorem kcX8_attach : Cond.code mX8_attach.1 mX8_attach.2.1 mX8_attach.2.2.1 mX8_attach.2.2.2 ∈ TG := TG_in (List.mem_append_right _ (List.mem_of_getElem? (i := 272) (by decide +kernel))) (by decide +kernel)
abbrev mX1_append : MD := (yX1_append, cX1_append, 3, (some .boolean))
theorem kcX1_append : Cond.code mX1_append.1 mX1_append.2.1 mX1_append.2.2.1 mX1_append.2.2.2 ∈ TG := TG_in (List.mem_append_right _ (List.mem_of_getElem? (i := 276) (by decide +kernel))) (by decide +kernel)
abbrev mX6_placeAgain : MD := (yX6_placeAgain, cX6_placeAgain, 2, (some .boolean))
theorem kcX6_placeAgain : Cond.code mX6_placeAgain.1 mX6_placeAgain.2.1 mX6_placeAgain.2.2.1 mX6_placeAgain.2.2.2 ∈ TG := TG_in (List.mem_append_right _ (List.mem_of_getElem? (i := 280) (by decide +kernel))) (by decide +kernel)
abbrev mX6_grow : MD := (yX6_grow, cX6_grow, 11, (some .boolean))
theorem kcX6_grow : Cond.code mX6_grow.1 mX6_grow.2.1 mX6_grow.2.2.1 mX6_grow.2.2.2 ∈ TG := TG_in (List.mem_append_right _ (List.mem_of_getElem? (i := 283) (by decide +kernel))) (by decide +kernel)
abbrev mX3_childPlace : MD := (yX3_childPlace, cX3_childPlace, 5, (some .int))
theorem kcX3_childPlace : Cond.code mX3_childPlace.1 mX3_childPlace.2.1 mX3_childPlace.2.2.1 mX3_childPlace.2.2.2 ∈ TG := TG_in (List.mem_append_right _ (List.mem_of_getElem? (i := 288) (by decide +kernel))) (by decide +kernel)
abbrev mX3_levelOf : MD := (yX3_levelOf, cX3_levelOf, 2, (some .int))
theorem kcX3_levelOf : Cond.code mX3_levelOf.1 mX3_levelOf.2.1 mX3_levelOf.2.2.1 mX3_levelOf.2.2.2 ∈ TG := TG_in (List.mem_append_right _ (List.mem_of_getElem? (i := 292) (by decide +kernel))) (by decide +kernel)
abbrev mX3_foldOf : MD := (yX3_foldOf, cX3_foldOf, 2, (some .int))
theorem kcX3_foldOf : Cond.code mX3_foldOf.1 mX3_foldOf.2.1 mX3_foldOf.2.2.1 mX3_foldOf.2.2.2 ∈ TG := TG_in (List.mem_append_right _ (List.mem_of_getElem? (i := 296) (by decide +kernel))) (by decide +kernel)
abbrev mX3_append : MD := (yX3_append, cX3_append, 4, (some .int))
theorem kcX3_append : Cond.code mX3_append.1 mX3_append.2.1 mX3_append.2.2.1 mX3_append.2.2.2 ∈ TG := TG_in (List.mem_append_right _ (List.mem_of_getElem? (i := 300) (by decide +kernel))) (by decide +kernel)
abbrev mX8_accept : MD := (yX8_accept, cX8_accept, 2, none)
theorem kcX8_accept : Cond.code mX8_accept.1 mX8_accept.2.1 mX8_accept.2.2.1 mX8_accept.2.2.2 ∈ TG := TG_in (List.mem_append_right _ (List.mem_of_getElem? (i := 304) (by decide +kernel))) (by decide +kernel)
abbrev mX0_push : MD := (yX0_push, cX0_push, 2, none)
theorem kcX0_push : Cond.code mX0_push.1 mX0_push.2.1 mX0_push.2.2.1 mX0_push.2.2.2 ∈ TG := TG_in (List.mem_append_right _ (List.mem_of_getElem? (i := 308) (by decide +kernel))) (by decide +kernel)
abbrev mJ9_floorMod_7cf53 : MD := (yJ9_floorMod_7cf53, cJ9_floorMod_7cf53, 3, (some .int))
theorem kcJ9_floorMod_7cf53 : Cond.code mJ9_floorMod_7cf53.1 mJ9_floorMod_7cf53.2.1 mJ9_floorMod_7cf53.2.2.1 mJ9_floorMod_7cf53.2.2.2 ∈ TG := TG_in (List.mem_append_right _ (List.mem_of_getElem? (i := 311) (by decide +kernel))) (by decide +kernel)
abbrev mX5_refresh : MD := (yX5_refresh, cX5_refresh, 5, none)
theorem kcX5_refresh : Cond.code mX5_refresh.1 mX5_refresh.2.1 mX5_refresh.2.2.1 mX5_refresh.2.2.2 ∈ TG := TG_in (List.mem_append_right _ (List.mem_of_getElem? (i := 316) (by decide +kernel))) (by decide +kernel)
abbrev mX3_countOf : MD := (yX3_countOf, cX3_countOf, 4, (some .int))
theorem kcX3_countOf : Cond.code mX3_countOf.1 mX3_countOf.2.1 mX3_countOf.2.2.1 mX3_countOf.2.2.2 ∈ TG := TG_in (List.mem_append_right _ (List.mem_of_getElem? (i := 320) (by decide +kernel))) (by decide +kernel)
abbrev mX8_cloneTo : MD := (yX8_cloneTo, cX8_cloneTo, 4, (some .int))
theorem kcX8_cloneTo : Cond.code mX8_cloneTo.1 mX8_cloneTo.2.1 mX8_cloneTo.2.2.1 mX8_cloneTo.2.2.2 ∈ TG := TG_in (List.mem_append_right _ (List.mem_of_getElem? (i := 324) (by decide +kernel))) (by decide +kernel)
abbrev mX8_refusalOfParent : MD := (yX8_refusalOfParent, cX8_refusalOfParent, 9, (some .int))
theorem kcX8_refusalOfParent : Cond.code mX8_refusalOfParent.1 mX8_refusalOfParent.2.1 mX8_refusalOfParent.2.2.1 mX8_refusalOfParent.2.2.2 ∈ TG := TG_in (List.mem_append_right _ (List.mem_of_getElem? (i := 328) (by decide +kernel))) (by decide +kernel)
abbrev mX3_nodesWithin : MD := (yX3_nodesWithin, cX3_nodesWithin, 6, (some .long))
theorem kcX3_nodesWithin : Cond.code mX3_nodesWithin.1 mX3_nodesWithin.2.1 mX3_nodesWithin.2.2.1 mX3_nodesWithin.2.2.2 ∈ TG := TG_in (List.mem_append_right _ (List.mem_of_getElem? (i := 332) (by decide +kernel))) (by decide +kernel)
abbrev mX3_endOf : MD := (yX3_endOf, cX3_endOf, 4, (some .int))
theorem kcX3_endOf : Cond.code mX3_endOf.1 mX3_endOf.2.1 mX3_endOf.2.2.1 mX3_endOf.2.2.2 ∈ TG := TG_in (List.mem_append_right _ (List.mem_of_getElem? (i := 336) (by decide +kernel))) (by decide +kernel)
abbrev mJ9_max_7cf53 : MD := (yJ9_max_7cf53, cJ9_max_7cf53, 2, (some .int))
theorem kcJ9_max_7cf53 : Cond.code mJ9_max_7cf53.1 mJ9_max_7cf53.2.1 mJ9_max_7cf53.2.2.1 mJ9_max_7cf53.2.2.2 ∈ TG := TG_in (List.mem_append_right _ (List.mem_of_getElem? (i := 339) (by decide +kernel))) (by decide +kernel)
abbrev mX1_indexOf : MD := (yX1_indexOf, cX1_indexOf, 4, (some .int))
theorem kcX1_indexOf : Cond.code mX1_indexOf.1 mX1_indexOf.2.1 mX1_indexOf.2.2.1 mX1_indexOf.2.2.2 ∈ TG := TG_in (List.mem_append_right _ (List.mem_of_getElem? (i := 343) (by decide +kernel))) (by decide +kernel)
abbrev mX8_nodeOfRow : MD := (yX8_nodeOfRow, cX8_nodeOfRow, 2, (some .int))
theorem kcX8_nodeOfRow : Cond.code mX8_nodeOfRow.1 mX8_nodeOfRow.2.1 mX8_nodeOfRow.2.2.1 mX8_nodeOfRow.2.2.2 ∈ TG := TG_in (List.mem_append_right _ (List.mem_of_getElem? (i := 347) (by decide +kernel))) (by decide +kernel)
abbrev mX8_move : MD := (yX8_move, cX8_move, 5, (some .int))
theorem kcX8_move : Cond.code mX8_move.1 mX8_move.2.1 mX8_move.2.2.1 mX8_move.2.2.2 ∈ TG := TG_in (List.mem_append_right _ (List.mem_of_getElem? (i := 351) (by decide +kernel))) (by decide +kernel)
abbrev mX8_parentNodeOf : MD := (yX8_parentNodeOf, cX8_parentNodeOf, 2, (some .int))
theorem kcX8_parentNodeOf : Cond.code mX8_parentNodeOf.1 mX8_parentNodeOf.2.1 mX8_parentNodeOf.2.2.1 mX8_parentNodeOf.2.2.2 ∈ TG := TG_in (List.mem_append_right _ (List.mem_of_getElem? (i := 355) (by decide +kernel))) (by decide +kernel)
abbrev mX3_parentOf : MD := (yX3_parentOf, cX3_parentOf, 2, (some .int))
theorem kcX3_parentOf : Cond.code mX3_parentOf.1 mX3_parentOf.2.1 mX3_parentOf.2.2.1 mX3_parentOf.2.2.2 ∈ TG := TG_in (List.mem_append_right _ (List.mem_of_getElem? (i := 359) (by decide +kernel))) (by decide +kernel)
abbrev mX3_atLevel : MD := (yX3_atLevel, cX3_atLevel, 4, (some .int))
theorem kcX3_atLevel : Cond.code mX3_atLevel.1 mX3_atLevel.2.1 mX3_atLevel.2.2.1 mX3_atLevel.2.2.2 ∈ TG := TG_in (List.mem_append_right _ (List.mem_of_getElem? (i := 363) (by decide +kernel))) (by decide +kernel)
abbrev mJ9_min_7cf53 : MD := (yJ9_min_7cf53, cJ9_min_7cf53, 2, (some .int))
theorem kcJ9_min_7cf53 : Cond.code mJ9_min_7cf53.1 mJ9_min_7cf53.2.1 mJ9_min_7cf53.2.2.1 mJ9_min_7cf53.2.2.2 ∈ TG := TG_in (List.mem_append_right _ (List.mem_of_getElem? (i := 366) (by decide +kernel))) (by decide +kernel)
abbrev mX1_drop : MD := (yX1_drop, cX1_drop, 5, none)
theorem kcX1_drop : Cond.code mX1_drop.1 mX1_drop.2.1 mX1_drop.2.2.1 mX1_drop.2.2.2 ∈ TG := TG_in (List.mem_append_right _ (List.mem_of_getElem? (i := 370) (by decide +kernel))) (by decide +kernel)
abbrev mX8_cut : MD := (yX8_cut, cX8_cut, 4, (some .int))
theorem kcX8_cut : Cond.code mX8_cut.1 mX8_cut.2.1 mX8_cut.2.2.1 mX8_cut.2.2.2 ∈ TG := TG_in (List.mem_append_right _ (List.mem_of_getElem? (i := 375) (by decide +kernel))) (by decide +kernel)
abbrev mX3_nodeSet : MD := (yX3_nodeSet, cX3_nodeSet, 1, (some .long))
theorem kcX3_nodeSet : Cond.code mX3_nodeSet.1 mX3_nodeSet.2.1 mX3_nodeSet.2.2.1 mX3_nodeSet.2.2.2 ∈ TG := TG_in (List.mem_append_right _ (List.mem_of_getElem? (i := 379) (by decide +kernel))) (by decide +kernel)
abbrev mX6_dropVanished : MD := (yX6_dropVanished, cX6_dropVanished, 5, (some .int))
theorem kcX6_dropVanished : Cond.code mX6_dropVanished.1 mX6_dropVanished.2.1 mX6_dropVanished.2.2.1 mX6_dropVanished.2.2.2 ∈ TG := TG_in (List.mem_append_right _ (List.mem_of_getElem? (i := 384) (by decide +kernel))) (by decide +kernel)
abbrev mX1_keepParents : MD := (yX1_keepParents, cX1_keepParents, 5, none)
theorem kcX1_keepParents : Cond.code mX1_keepParents.1 mX1_keepParents.2.1 mX1_keepParents.2.2.1 mX1_keepParents.2.2.2 ∈ TG := TG_in (List.mem_append_right _ (List.mem_of_getElem? (i := 389) (by decide +kernel))) (by decide +kernel)
abbrev mJ13_bitCount_95d88 : MD := (yJ13_bitCount_95d88, cJ13_bitCount_95d88, 2, (some .int))
theorem kcJ13_bitCount_95d88 : Cond.code mJ13_bitCount_95d88.1 mJ13_bitCount_95d88.2.1 mJ13_bitCount_95d88.2.2.1 mJ13_bitCount_95d88.2.2.2 ∈ TG := TG_in (List.mem_append_right _ (List.mem_of_getElem? (i := 393) (by decide +kernel))) (by decide +kernel)
abbrev mX8_shift : MD := (yX8_shift, cX8_shift, 7, (some .int))
theorem kcX8_shift : Cond.code mX8_shift.1 mX8_shift.2.1 mX8_shift.2.2.1 mX8_shift.2.2.2 ∈ TG := TG_in (List.mem_append_right _ (List.mem_of_getElem? (i := 400) (by decide +kernel))) (by decide +kernel)
abbrev mX1_position : MD := (yX1_position, cX1_position, 5, (some .int))
theorem kcX1_position : Cond.code mX1_position.1 mX1_position.2.1 mX1_position.2.2.1 mX1_position.2.2.2 ∈ TG := TG_in (List.mem_append_right _ (List.mem_of_getElem? (i := 404) (by decide +kernel))) (by decide +kernel)
abbrev mX1_childCount : MD := (yX1_childCount, cX1_childCount, 4, (some .int))
theorem kcX1_childCount : Cond.code mX1_childCount.1 mX1_childCount.2.1 mX1_childCount.2.2.1 mX1_childCount.2.2.2 ∈ TG := TG_in (List.mem_append_right _ (List.mem_of_getElem? (i := 408) (by decide +kernel))) (by decide +kernel)
abbrev mX1_shiftChild : MD := (yX1_shiftChild, cX1_shiftChild, 8, none)
theorem kcX1_shiftChild : Cond.code mX1_shiftChild.1 mX1_shiftChild.2.1 mX1_shiftChild.2.2.1 mX1_shiftChild.2.2.2 ∈ TG := TG_in (List.mem_append_right _ (List.mem_of_getElem? (i := 412) (by decide +kernel))) (by decide +kernel)
abbrev mJ9_abs_0f7a4 : MD := (yJ9_abs_0f7a4, cJ9_abs_0f7a4, 1, (some .int))
theorem kcJ9_abs_0f7a4 : Cond.code mJ9_abs_0f7a4.1 mJ9_abs_0f7a4.2.1 mJ9_abs_0f7a4.2.2.1 mJ9_abs_0f7a4.2.2.2 ∈ TG := TG_in (List.mem_append_right _ (List.mem_of_getElem? (i := 415) (by decide +kernel))) (by decide +kernel)
abbrev mX8_edit : MD := (yX8_edit, cX8_edit, 4, (some .int))
theorem kcX8_edit : Cond.code mX8_edit.1 mX8_edit.2.1 mX8_edit.2.2.1 mX8_edit.2.2.2 ∈ TG := TG_in (List.mem_append_right _ (List.mem_of_getElem? (i := 419) (by decide +kernel))) (by decide +kernel)
abbrev mX2_hasText : MD := (yX2_hasText, cX2_hasText, 4, (some .boolean))
theorem kcX2_hasText : Cond.code mX2_hasText.1 mX2_hasText.2.1 mX2_hasText.2.2.1 mX2_hasText.2.2.2 ∈ TG := TG_in (List.mem_append_right _ (List.mem_of_getElem? (i := 423) (by decide +kernel))) (by decide +kernel)
abbrev mX2_lengthOf : MD := (yX2_lengthOf, cX2_lengthOf, 2, (some .int))
theorem kcX2_lengthOf : Cond.code mX2_lengthOf.1 mX2_lengthOf.2.1 mX2_lengthOf.2.2.1 mX2_lengthOf.2.2.2 ∈ TG := TG_in (List.mem_append_right _ (List.mem_of_getElem? (i := 427) (by decide +kernel))) (by decide +kernel)
abbrev mX2_codeAt : MD := (yX2_codeAt, cX2_codeAt, 4, (some .int))
theorem kcX2_codeAt : Cond.code mX2_codeAt.1 mX2_codeAt.2.1 mX2_codeAt.2.2.1 mX2_codeAt.2.2.2 ∈ TG := TG_in (List.mem_append_right _ (List.mem_of_getElem? (i := 431) (by decide +kernel))) (by decide +kernel)
abbrev mX8_mark : MD := (yX8_mark, cX8_mark, 5, (some .int))
theorem kcX8_mark : Cond.code mX8_mark.1 mX8_mark.2.1 mX8_mark.2.2.1 mX8_mark.2.2.2 ∈ TG := TG_in (List.mem_append_right _ (List.mem_of_getElem? (i := 435) (by decide +kernel))) (by decide +kernel)
abbrev mX8_isMark : MD := (yX8_isMark, cX8_isMark, 1, (some .boolean))
theorem kcX8_isMark : Cond.code mX8_isMark.1 mX8_isMark.2.1 mX8_isMark.2.2.1 mX8_isMark.2.2.2 ∈ TG := TG_in (List.mem_append_right _ (List.mem_of_getElem? (i := 438) (by decide +kernel))) (by decide +kernel)
abbrev mX2_toggleMark : MD := (yX2_toggleMark, cX2_toggleMark, 3, none)
theorem kcX2_toggleMark : Cond.code mX2_toggleMark.1 mX2_toggleMark.2.1 mX2_toggleMark.2.2.1 mX2_toggleMark.2.2.2 ∈ TG := TG_in (List.mem_append_right _ (List.mem_of_getElem? (i := 442) (by decide +kernel))) (by decide +kernel)
abbrev mX2_marksOf : MD := (yX2_marksOf, cX2_marksOf, 2, (some .int))
theorem kcX2_marksOf : Cond.code mX2_marksOf.1 mX2_marksOf.2.1 mX2_marksOf.2.2.1 mX2_marksOf.2.2.2 ∈ TG := TG_in (List.mem_append_right _ (List.mem_of_getElem? (i := 447) (by decide +kernel))) (by decide +kernel)
abbrev mX8_fold : MD := (yX8_fold, cX8_fold, 5, (some .int))
theorem kcX8_fold : Cond.code mX8_fold.1 mX8_fold.2.1 mX8_fold.2.2.1 mX8_fold.2.2.2 ∈ TG := TG_in (List.mem_append_right _ (List.mem_of_getElem? (i := 451) (by decide +kernel))) (by decide +kernel)
abbrev mX3_hasChildren : MD := (yX3_hasChildren, cX3_hasChildren, 2, (some .boolean))
theorem kcX3_hasChildren : Cond.code mX3_hasChildren.1 mX3_hasChildren.2.1 mX3_hasChildren.2.2.1 mX3_hasChildren.2.2.2 ∈ TG := TG_in (List.mem_append_right _ (List.mem_of_getElem? (i := 455) (by decide +kernel))) (by decide +kernel)
abbrev mX3_setFold : MD := (yX3_setFold, cX3_setFold, 3, none)
theorem kcX3_setFold : Cond.code mX3_setFold.1 mX3_setFold.2.1 mX3_setFold.2.2.1 mX3_setFold.2.2.2 ∈ TG := TG_in (List.mem_append_right _ (List.mem_of_getElem? (i := 460) (by decide +kernel))) (by decide +kernel)
abbrev mX8_foldLevel : MD := (yX8_foldLevel, cX8_foldLevel, 2, (some .int))
theorem kcX8_foldLevel : Cond.code mX8_foldLevel.1 mX8_foldLevel.2.1 mX8_foldLevel.2.2.1 mX8_foldLevel.2.2.2 ∈ TG := TG_in (List.mem_append_right _ (List.mem_of_getElem? (i := 464) (by decide +kernel))) (by decide +kernel)
abbrev mX3_foldAtLevel : MD := (yX3_foldAtLevel, cX3_foldAtLevel, 6, (some .boolean))
theorem kcX3_foldAtLevel : Cond.code mX3_foldAtLevel.1 mX3_foldAtLevel.2.1 mX3_foldAtLevel.2.2.1 mX3_foldAtLevel.2.2.2 ∈ TG := TG_in (List.mem_append_right _ (List.mem_of_getElem? (i := 468) (by decide +kernel))) (by decide +kernel)
abbrev mX8_show : MD := (yX8_show, cX8_show, 3, (some .int))
theorem kcX8_show : Cond.code mX8_show.1 mX8_show.2.1 mX8_show.2.2.1 mX8_show.2.2.2 ∈ TG := TG_in (List.mem_append_right _ (List.mem_of_getElem? (i := 473) (by decide +kernel))) (by decide +kernel)
abbrev mX3_firstOf : MD := (yX3_firstOf, cX3_firstOf, 3, (some .int))
theorem kcX3_firstOf : Cond.code mX3_firstOf.1 mX3_firstOf.2.1 mX3_firstOf.2.2.1 mX3_firstOf.2.2.2 ∈ TG := TG_in (List.mem_append_right _ (List.mem_of_getElem? (i := 477) (by decide +kernel))) (by decide +kernel)
abbrev mX3_unfoldAround : MD := (yX3_unfoldAround, cX3_unfoldAround, 5, (some .boolean))
theorem kcX3_unfoldAround : Cond.code mX3_unfoldAround.1 mX3_unfoldAround.2.1 mX3_unfoldAround.2.2.1 mX3_unfoldAround.2.2.2 ∈ TG := TG_in (List.mem_append_right _ (List.mem_of_getElem? (i := 481) (by decide +kernel))) (by decide +kernel)
abbrev mX5_rowOf : MD := (yX5_rowOf, cX5_rowOf, 2, (some .int))
theorem kcX5_rowOf : Cond.code mX5_rowOf.1 mX5_rowOf.2.1 mX5_rowOf.2.2.1 mX5_rowOf.2.2.2 ∈ TG := TG_in (List.mem_append_right _ (List.mem_of_getElem? (i := 485) (by decide +kernel))) (by decide +kernel)
abbrev mX8_type : MD := (yX8_type, cX8_type, 2, (some .int))
theorem kcX8_type : Cond.code mX8_type.1 mX8_type.2.1 mX8_type.2.2.1 mX8_type.2.2.2 ∈ TG := TG_in (List.mem_append_right _ (List.mem_of_getElem? (i := 489) (by decide +kernel))) (by decide +kernel)
abbrev mX7_append : MD := (yX7_append, cX7_append, 2, (some .boolean))
theorem kcX7_append : Cond.code mX7_append.1 mX7_append.2.1 mX7_append.2.2.1 mX7_append.2.2.2 ∈ TG := TG_in (List.mem_append_right _ (List.mem_of_getElem? (i := 493) (by decide +kernel))) (by decide +kernel)
abbrev mX8_clearText : MD := (yX8_clearText, cX8_clearText, 2, (some .int))
theorem kcX8_clearText : Cond.code mX8_clearText.1 mX8_clearText.2.1 mX8_clearText.2.2.1 mX8_clearText.2.2.2 ∈ TG := TG_in (List.mem_append_right _ (List.mem_of_getElem? (i := 497) (by decide +kernel))) (by decide +kernel)
abbrev mX8_readOutline : MD := (yX8_readOutline, cX8_readOutline, 2, (some .int))
theorem kcX8_readOutline : Cond.code mX8_readOutline.1 mX8_readOutline.2.1 mX8_readOutline.2.2.1 mX8_readOutline.2.2.2 ∈ TG := TG_in (List.mem_append_right _ (List.mem_of_getElem? (i := 501) (by decide +kernel))) (by decide +kernel)
abbrev mX6_clearNodes : MD := (yX6_clearNodes, cX6_clearNodes, 1, none)
theorem kcX6_clearNodes : Cond.code mX6_clearNodes.1 mX6_clearNodes.2.1 mX6_clearNodes.2.2.1 mX6_clearNodes.2.2.2 ∈ TG := TG_in (List.mem_append_right _ (List.mem_of_getElem? (i := 505) (by decide +kernel))) (by decide +kernel)
abbrev mX4_read : MD := (yX4_read, cX4_read, 6, (some .int))
theorem kcX4_read : Cond.code mX4_read.1 mX4_read.2.1 mX4_read.2.2.1 mX4_read.2.2.2 ∈ TG := TG_in (List.mem_append_right _ (List.mem_of_getElem? (i := 509) (by decide +kernel))) (by decide +kernel)
abbrev mX4_begin : MD := (yX4_begin, cX4_begin, 2, none)
theorem kcX4_begin : Cond.code mX4_begin.1 mX4_begin.2.1 mX4_begin.2.2.1 mX4_begin.2.2.2 ∈ TG := TG_in (List.mem_append_right _ (List.mem_of_getElem? (i := 513) (by decide +kernel))) (by decide +kernel)
abbrev mX4_takeLetter : MD := (yX4_takeLetter, cX4_takeLetter, 6, (some .boolean))
theorem kcX4_takeLetter : Cond.code mX4_takeLetter.1 mX4_takeLetter.2.1 mX4_takeLetter.2.2.1 mX4_takeLetter.2.2.2 ∈ TG := TG_in (List.mem_append_right _ (List.mem_of_getElem? (i := 518) (by decide +kernel))) (by decide +kernel)
abbrev mX2_setLetter : MD := (yX2_setLetter, cX2_setLetter, 3, none)
theorem kcX2_setLetter : Cond.code mX2_setLetter.1 mX2_setLetter.2.1 mX2_setLetter.2.2.1 mX2_setLetter.2.2.2 ∈ TG := TG_in (List.mem_append_right _ (List.mem_of_getElem? (i := 523) (by decide +kernel))) (by decide +kernel)
abbrev mX4_isOpen : MD := (yX4_isOpen, cX4_isOpen, 3, (some .boolean))
theorem kcX4_isOpen : Cond.code mX4_isOpen.1 mX4_isOpen.2.1 mX4_isOpen.2.2.1 mX4_isOpen.2.2.2 ∈ TG := TG_in (List.mem_append_right _ (List.mem_of_getElem? (i := 527) (by decide +kernel))) (by decide +kernel)
abbrev mX4_takeSign : MD := (yX4_takeSign, cX4_takeSign, 2, (some .boolean))
theorem kcX4_takeSign : Cond.code mX4_takeSign.1 mX4_takeSign.2.1 mX4_takeSign.2.2.1 mX4_takeSign.2.2.2 ∈ TG := TG_in (List.mem_append_right _ (List.mem_of_getElem? (i := 533) (by decide +kernel))) (by decide +kernel)
abbrev mX6_placeAnew : MD := (yX6_placeAnew, cX6_placeAnew, 1, (some .boolean))
theorem kcX6_placeAnew : Cond.code mX6_placeAnew.1 mX6_placeAnew.2.1 mX6_placeAnew.2.2.1 mX6_placeAnew.2.2.2 ∈ TG := TG_in (List.mem_append_right _ (List.mem_of_getElem? (i := 537) (by decide +kernel))) (by decide +kernel)
abbrev mX8_undo : MD := (yX8_undo, cX8_undo, 1, (some .int))
theorem kcX8_undo : Cond.code mX8_undo.1 mX8_undo.2.1 mX8_undo.2.2.1 mX8_undo.2.2.2 ∈ TG := TG_in (List.mem_append_right _ (List.mem_of_getElem? (i := 541) (by decide +kernel))) (by decide +kernel)
abbrev mX0_popInto : MD := (yX0_popInto, cX0_popInto, 2, (some .boolean))
theorem kcX0_popInto : Cond.code mX0_popInto.1 mX0_popInto.2.1 mX0_popInto.2.2.1 mX0_popInto.2.2.2 ∈ TG := TG_in (List.mem_append_right _ (List.mem_of_getElem? (i := 545) (by decide +kernel))) (by decide +kernel)
abbrev mX8_keep : MD := (yX8_keep, cX8_keep, 1, (some .int))
theorem kcX8_keep : Cond.code mX8_keep.1 mX8_keep.2.1 mX8_keep.2.2.1 mX8_keep.2.2.2 ∈ TG := TG_in (List.mem_append_right _ (List.mem_of_getElem? (i := 549) (by decide +kernel))) (by decide +kernel)
abbrev mX8_restore : MD := (yX8_restore, cX8_restore, 1, (some .int))
theorem kcX8_restore : Cond.code mX8_restore.1 mX8_restore.2.1 mX8_restore.2.2.1 mX8_restore.2.2.2 ∈ TG := TG_in (List.mem_append_right _ (List.mem_of_getElem? (i := 553) (by decide +kernel))) (by decide +kernel)
abbrev mX8_row : MD := (yX8_row, cX8_row, 6, (some .int))
theorem kcX8_row : Cond.code mX8_row.1 mX8_row.2.1 mX8_row.2.2.1 mX8_row.2.2.2 ∈ TG := TG_in (List.mem_append_right _ (List.mem_of_getElem? (i := 557) (by decide +kernel))) (by decide +kernel)
abbrev mX8_positionAt : MD := (yX8_positionAt, cX8_positionAt, 2, (some .int))
theorem kcX8_positionAt : Cond.code mX8_positionAt.1 mX8_positionAt.2.1 mX8_positionAt.2.2.1 mX8_positionAt.2.2.2 ∈ TG := TG_in (List.mem_append_right _ (List.mem_of_getElem? (i := 562) (by decide +kernel))) (by decide +kernel)
abbrev mX8_parentRow : MD := (yX8_parentRow, cX8_parentRow, 3, (some .int))
theorem kcX8_parentRow : Cond.code mX8_parentRow.1 mX8_parentRow.2.1 mX8_parentRow.2.2.1 mX8_parentRow.2.2.2 ∈ TG := TG_in (List.mem_append_right _ (List.mem_of_getElem? (i := 566) (by decide +kernel))) (by decide +kernel)
abbrev mX5_seenBetween : MD := (yX5_seenBetween, cX5_seenBetween, 5, (some .int))
theorem kcX5_seenBetween : Cond.code mX5_seenBetween.1 mX5_seenBetween.2.1 mX5_seenBetween.2.2.1 mX5_seenBetween.2.2.2 ∈ TG := TG_in (List.mem_append_right _ (List.mem_of_getElem? (i := 571) (by decide +kernel))) (by decide +kernel)
abbrev mX8_number : MD := (yX8_number, cX8_number, 4, (some .int))
theorem kcX8_number : Cond.code mX8_number.1 mX8_number.2.1 mX8_number.2.2.1 mX8_number.2.2.2 ∈ TG := TG_in (List.mem_append_right _ (List.mem_of_getElem? (i := 576) (by decide +kernel))) (by decide +kernel)
abbrev mX8_charAt : MD := (yX8_charAt, cX8_charAt, 5, (some .int))
theorem kcX8_charAt : Cond.code mX8_charAt.1 mX8_charAt.2.1 mX8_charAt.2.2.1 mX8_charAt.2.2.2 ∈ TG := TG_in (List.mem_append_right _ (List.mem_of_getElem? (i := 581) (by decide +kernel))) (by decide +kernel)
abbrev mX8_node : MD := (yX8_node, cX8_node, 5, (some .int))
theorem kcX8_node : Cond.code mX8_node.1 mX8_node.2.1 mX8_node.2.2.1 mX8_node.2.2.2 ∈ TG := TG_in (List.mem_append_right _ (List.mem_of_getElem? (i := 587) (by decide +kernel))) (by decide +kernel)
abbrev mX1_parentCount : MD := (yX1_parentCount, cX1_parentCount, 4, (some .int))
theorem kcX1_parentCount : Cond.code mX1_parentCount.1 mX1_parentCount.2.1 mX1_parentCount.2.2.1 mX1_parentCount.2.2.2 ∈ TG := TG_in (List.mem_append_right _ (List.mem_of_getElem? (i := 591) (by decide +kernel))) (by decide +kernel)
abbrev mX5_seenOf : MD := (yX5_seenOf, cX5_seenOf, 5, (some .int))
theorem kcX5_seenOf : Cond.code mX5_seenOf.1 mX5_seenOf.2.1 mX5_seenOf.2.2.1 mX5_seenOf.2.2.2 ∈ TG := TG_in (List.mem_append_right _ (List.mem_of_getElem? (i := 595) (by decide +kernel))) (by decide +kernel)
abbrev mX5_firstOf : MD := (yX5_firstOf, cX5_firstOf, 4, (some .int))
theorem kcX5_firstOf : Cond.code mX5_firstOf.1 mX5_firstOf.2.1 mX5_firstOf.2.2.1 mX5_firstOf.2.2.2 ∈ TG := TG_in (List.mem_append_right _ (List.mem_of_getElem? (i := 600) (by decide +kernel))) (by decide +kernel)
abbrev mX8_nextMarked : MD := (yX8_nextMarked, cX8_nextMarked, 4, (some .int))
theorem kcX8_nextMarked : Cond.code mX8_nextMarked.1 mX8_nextMarked.2.1 mX8_nextMarked.2.2.1 mX8_nextMarked.2.2.2 ∈ TG := TG_in (List.mem_append_right _ (List.mem_of_getElem? (i := 605) (by decide +kernel))) (by decide +kernel)
abbrev mX8_find : MD := (yX8_find, cX8_find, 3, (some .int))
theorem kcX8_find : Cond.code mX8_find.1 mX8_find.2.1 mX8_find.2.2.1 mX8_find.2.2.2 ∈ TG := TG_in (List.mem_append_right _ (List.mem_of_getElem? (i := 609) (by decide +kernel))) (by decide +kernel)
abbrev mX8_count : MD := (yX8_count, cX8_count, 2, (some .int))
theorem kcX8_count : Cond.code mX8_count.1 mX8_count.2.1 mX8_count.2.2.1 mX8_count.2.2.2 ∈ TG := TG_in (List.mem_append_right _ (List.mem_of_getElem? (i := 613) (by decide +kernel))) (by decide +kernel)
abbrev mX3_foldedCount : MD := (yX3_foldedCount, cX3_foldedCount, 3, (some .int))
theorem kcX3_foldedCount : Cond.code mX3_foldedCount.1 mX3_foldedCount.2.1 mX3_foldedCount.2.2.1 mX3_foldedCount.2.2.2 ∈ TG := TG_in (List.mem_append_right _ (List.mem_of_getElem? (i := 617) (by decide +kernel))) (by decide +kernel)
abbrev mX1_sharedCount : MD := (yX1_sharedCount, cX1_sharedCount, 3, (some .int))
theorem kcX1_sharedCount : Cond.code mX1_sharedCount.1 mX1_sharedCount.2.1 mX1_sharedCount.2.2.1 mX1_sharedCount.2.2.2 ∈ TG := TG_in (List.mem_append_right _ (List.mem_of_getElem? (i := 621) (by decide +kernel))) (by decide +kernel)
abbrev mX3_greatestLevel : MD := (yX3_greatestLevel, cX3_greatestLevel, 3, (some .int))
theorem kcX3_greatestLevel : Cond.code mX3_greatestLevel.1 mX3_greatestLevel.2.1 mX3_greatestLevel.2.2.1 mX3_greatestLevel.2.2.2 ∈ TG := TG_in (List.mem_append_right _ (List.mem_of_getElem? (i := 626) (by decide +kernel))) (by decide +kernel)
abbrev mX9_init : MD := (yX9_init, cX9_init, 1, none)
theorem kcX9_init : Cond.code mX9_init.1 mX9_init.2.1 mX9_init.2.2.1 mX9_init.2.2.2 ∈ TG := TG_in (List.mem_append_right _ (List.mem_of_getElem? (i := 631) (by decide +kernel))) (by decide +kernel)
abbrev mX9_add : MD := (yX9_add, cX9_add, 4, (some .int))
theorem kcX9_add : Cond.code mX9_add.1 mX9_add.2.1 mX9_add.2.2.1 mX9_add.2.2.2 ∈ TG := TG_in (List.mem_append_right _ (List.mem_of_getElem? (i := 699) (by decide +kernel))) (by decide +kernel)
abbrev mX9_nodeOf : MD := (yX9_nodeOf, cX9_nodeOf, 3, (some .int))
theorem kcX9_nodeOf : Cond.code mX9_nodeOf.1 mX9_nodeOf.2.1 mX9_nodeOf.2.2.1 mX9_nodeOf.2.2.2 ∈ TG := TG_in (List.mem_append_right _ (List.mem_of_getElem? (i := 703) (by decide +kernel))) (by decide +kernel)
abbrev mX9_placeOf : MD := (yX9_placeOf, cX9_placeOf, 4, (some .int))
theorem kcX9_placeOf : Cond.code mX9_placeOf.1 mX9_placeOf.2.1 mX9_placeOf.2.2.1 mX9_placeOf.2.2.2 ∈ TG := TG_in (List.mem_append_right _ (List.mem_of_getElem? (i := 707) (by decide +kernel))) (by decide +kernel)
abbrev mX9_isSeen : MD := (yX9_isSeen, cX9_isSeen, 4, (some .boolean))
theorem kcX9_isSeen : Cond.code mX9_isSeen.1 mX9_isSeen.2.1 mX9_isSeen.2.2.1 mX9_isSeen.2.2.2 ∈ TG := TG_in (List.mem_append_right _ (List.mem_of_getElem? (i := 711) (by decide +kernel))) (by decide +kernel)
abbrev mX9_at : MD := (yX9_at, cX9_at, 3, (some .int))
theorem kcX9_at : Cond.code mX9_at.1 mX9_at.2.1 mX9_at.2.2.1 mX9_at.2.2.2 ∈ TG := TG_in (List.mem_append_right _ (List.mem_of_getElem? (i := 715) (by decide +kernel))) (by decide +kernel)
abbrev mX9_in : MD := (yX9_in, cX9_in, 3, (some .boolean))
theorem kcX9_in : Cond.code mX9_in.1 mX9_in.2.1 mX9_in.2.2.1 mX9_in.2.2.2 ∈ TG := TG_in (List.mem_append_right _ (List.mem_of_getElem? (i := 718) (by decide +kernel))) (by decide +kernel)
abbrev mX9_takeSpare : MD := (yX9_takeSpare, cX9_takeSpare, 2, none)
theorem kcX9_takeSpare : Cond.code mX9_takeSpare.1 mX9_takeSpare.2.1 mX9_takeSpare.2.2.1 mX9_takeSpare.2.2.2 ∈ TG := TG_in (List.mem_append_right _ (List.mem_of_getElem? (i := 722) (by decide +kernel))) (by decide +kernel)
abbrev mX9_make : MD := (yX9_make, cX9_make, 3, none)
theorem kcX9_make : Cond.code mX9_make.1 mX9_make.2.1 mX9_make.2.2.1 mX9_make.2.2.2 ∈ TG := TG_in (List.mem_append_right _ (List.mem_of_getElem? (i := 726) (by decide +kernel))) (by decide +kernel)
abbrev mX9_to : MD := (yX9_to, cX9_to, 4, none)
theorem kcX9_to : Cond.code mX9_to.1 mX9_to.2.1 mX9_to.2.2.1 mX9_to.2.2.2 ∈ TG := TG_in (List.mem_append_right _ (List.mem_of_getElem? (i := 730) (by decide +kernel))) (by decide +kernel)
abbrev mX9_writeText : MD := (yX9_writeText, cX9_writeText, 3, none)
theorem kcX9_writeText : Cond.code mX9_writeText.1 mX9_writeText.2.1 mX9_writeText.2.2.1 mX9_writeText.2.2.2 ∈ TG := TG_in (List.mem_append_right _ (List.mem_of_getElem? (i := 734) (by decide +kernel))) (by decide +kernel)
abbrev mX9_addKid : MD := (yX9_addKid, cX9_addKid, 3, none)
theorem kcX9_addKid : Cond.code mX9_addKid.1 mX9_addKid.2.1 mX9_addKid.2.2.1 mX9_addKid.2.2.2 ∈ TG := TG_in (List.mem_append_right _ (List.mem_of_getElem? (i := 738) (by decide +kernel))) (by decide +kernel)
abbrev mX9_of : MD := (yX9_of, cX9_of, 3, (some .int))
theorem kcX9_of : Cond.code mX9_of.1 mX9_of.2.1 mX9_of.2.2.1 mX9_of.2.2.2 ∈ TG := TG_in (List.mem_append_right _ (List.mem_of_getElem? (i := 742) (by decide +kernel))) (by decide +kernel)
abbrev mX9_layPlaces : MD := (yX9_layPlaces, cX9_layPlaces, 5, (some .boolean))
theorem kcX9_layPlaces : Cond.code mX9_layPlaces.1 mX9_layPlaces.2.1 mX9_layPlaces.2.2.1 mX9_layPlaces.2.2.2 ∈ TG := TG_in (List.mem_append_right _ (List.mem_of_getElem? (i := 746) (by decide +kernel))) (by decide +kernel)
abbrev mX9_kid : MD := (yX9_kid, cX9_kid, 3, (some .int))
theorem kcX9_kid : Cond.code mX9_kid.1 mX9_kid.2.1 mX9_kid.2.2.1 mX9_kid.2.2.2 ∈ TG := TG_in (List.mem_append_right _ (List.mem_of_getElem? (i := 750) (by decide +kernel))) (by decide +kernel)
abbrev mX9_spareChild : MD := (yX9_spareChild, cX9_spareChild, 5, (some .int))
theorem kcX9_spareChild : Cond.code mX9_spareChild.1 mX9_spareChild.2.1 mX9_spareChild.2.2.1 mX9_spareChild.2.2.2 ∈ TG := TG_in (List.mem_append_right _ (List.mem_of_getElem? (i := 754) (by decide +kernel))) (by decide +kernel)
abbrev mX9_spareAt : MD := (yX9_spareAt, cX9_spareAt, 3, (some .int))
theorem kcX9_spareAt : Cond.code mX9_spareAt.1 mX9_spareAt.2.1 mX9_spareAt.2.2.1 mX9_spareAt.2.2.2 ∈ TG := TG_in (List.mem_append_right _ (List.mem_of_getElem? (i := 758) (by decide +kernel))) (by decide +kernel)
abbrev mX9_putBack : MD := (yX9_putBack, cX9_putBack, 2, none)
theorem kcX9_putBack : Cond.code mX9_putBack.1 mX9_putBack.2.1 mX9_putBack.2.2.1 mX9_putBack.2.2.2 ∈ TG := TG_in (List.mem_append_right _ (List.mem_of_getElem? (i := 762) (by decide +kernel))) (by decide +kernel)
abbrev mX9_record : MD := (yX9_record, cX9_record, 2, none)
theorem kcX9_record : Cond.code mX9_record.1 mX9_record.2.1 mX9_record.2.2.1 mX9_record.2.2.2 ∈ TG := TG_in (List.mem_append_right _ (List.mem_of_getElem? (i := 766) (by decide +kernel))) (by decide +kernel)
abbrev mX9_cloneTo : MD := (yX9_cloneTo, cX9_cloneTo, 6, (some .int))
theorem kcX9_cloneTo : Cond.code mX9_cloneTo.1 mX9_cloneTo.2.1 mX9_cloneTo.2.2.1 mX9_cloneTo.2.2.2 ∈ TG := TG_in (List.mem_append_right _ (List.mem_of_getElem? (i := 770) (by decide +kernel))) (by decide +kernel)
abbrev mX9_mayStand : MD := (yX9_mayStand, cX9_mayStand, 3, (some .boolean))
theorem kcX9_mayStand : Cond.code mX9_mayStand.1 mX9_mayStand.2.1 mX9_mayStand.2.2.1 mX9_mayStand.2.2.2 ∈ TG := TG_in (List.mem_append_right _ (List.mem_of_getElem? (i := 774) (by decide +kernel))) (by decide +kernel)
abbrev mX9_layWithin : MD := (yX9_layWithin, cX9_layWithin, 6, (some .int))
theorem kcX9_layWithin : Cond.code mX9_layWithin.1 mX9_layWithin.2.1 mX9_layWithin.2.2.1 mX9_layWithin.2.2.2 ∈ TG := TG_in (List.mem_append_right _ (List.mem_of_getElem? (i := 778) (by decide +kernel))) (by decide +kernel)
abbrev mX9_position : MD := (yX9_position, cX9_position, 4, (some .int))
theorem kcX9_position : Cond.code mX9_position.1 mX9_position.2.1 mX9_position.2.2.1 mX9_position.2.2.2 ∈ TG := TG_in (List.mem_append_right _ (List.mem_of_getElem? (i := 782) (by decide +kernel))) (by decide +kernel)
abbrev mX9_placesOf : MD := (yX9_placesOf, cX9_placesOf, 4, (some .int))
theorem kcX9_placesOf : Cond.code mX9_placesOf.1 mX9_placesOf.2.1 mX9_placesOf.2.2.1 mX9_placesOf.2.2.2 ∈ TG := TG_in (List.mem_append_right _ (List.mem_of_getElem? (i := 786) (by decide +kernel))) (by decide +kernel)
abbrev mX9_move : MD := (yX9_move, cX9_move, 7, (some .int))
theorem kcX9_move : Cond.code mX9_move.1 mX9_move.2.1 mX9_move.2.2.1 mX9_move.2.2.2 ∈ TG := TG_in (List.mem_append_right _ (List.mem_of_getElem? (i := 790) (by decide +kernel))) (by decide +kernel)
abbrev mX9_parent : MD := (yX9_parent, cX9_parent, 3, (some .int))
theorem kcX9_parent : Cond.code mX9_parent.1 mX9_parent.2.1 mX9_parent.2.2.1 mX9_parent.2.2.2 ∈ TG := TG_in (List.mem_append_right _ (List.mem_of_getElem? (i := 794) (by decide +kernel))) (by decide +kernel)
abbrev mX9_around : MD := (yX9_around, cX9_around, 3, (some .int))
theorem kcX9_around : Cond.code mX9_around.1 mX9_around.2.1 mX9_around.2.2.1 mX9_around.2.2.2 ∈ TG := TG_in (List.mem_append_right _ (List.mem_of_getElem? (i := 798) (by decide +kernel))) (by decide +kernel)
abbrev mX9_takeKid : MD := (yX9_takeKid, cX9_takeKid, 4, none)
theorem kcX9_takeKid : Cond.code mX9_takeKid.1 mX9_takeKid.2.1 mX9_takeKid.2.2.1 mX9_takeKid.2.2.2 ∈ TG := TG_in (List.mem_append_right _ (List.mem_of_getElem? (i := 802) (by decide +kernel))) (by decide +kernel)
abbrev mX9_cut : MD := (yX9_cut, cX9_cut, 7, (some .int))
theorem kcX9_cut : Cond.code mX9_cut.1 mX9_cut.2.1 mX9_cut.2.2.1 mX9_cut.2.2.2 ∈ TG := TG_in (List.mem_append_right _ (List.mem_of_getElem? (i := 806) (by decide +kernel))) (by decide +kernel)
abbrev mX9_shift : MD := (yX9_shift, cX9_shift, 10, (some .int))
theorem kcX9_shift : Cond.code mX9_shift.1 mX9_shift.2.1 mX9_shift.2.2.1 mX9_shift.2.2.2 ∈ TG := TG_in (List.mem_append_right _ (List.mem_of_getElem? (i := 810) (by decide +kernel))) (by decide +kernel)
abbrev mX9_edit : MD := (yX9_edit, cX9_edit, 4, (some .int))
theorem kcX9_edit : Cond.code mX9_edit.1 mX9_edit.2.1 mX9_edit.2.2.1 mX9_edit.2.2.2 ∈ TG := TG_in (List.mem_append_right _ (List.mem_of_getElem? (i := 814) (by decide +kernel))) (by decide +kernel)
abbrev mX9_hasText : MD := (yX9_hasText, cX9_hasText, 3, (some .boolean))
theorem kcX9_hasText : Cond.code mX9_hasText.1 mX9_hasText.2.1 mX9_hasText.2.2.1 mX9_hasText.2.2.2 ∈ TG := TG_in (List.mem_append_right _ (List.mem_of_getElem? (i := 818) (by decide +kernel))) (by decide +kernel)
abbrev mX9_mark : MD := (yX9_mark, cX9_mark, 5, (some .int))
theorem kcX9_mark : Cond.code mX9_mark.1 mX9_mark.2.1 mX9_mark.2.2.1 mX9_mark.2.2.2 ∈ TG := TG_in (List.mem_append_right _ (List.mem_of_getElem? (i := 822) (by decide +kernel))) (by decide +kernel)
abbrev mX9_fold : MD := (yX9_fold, cX9_fold, 5, (some .int))
theorem kcX9_fold : Cond.code mX9_fold.1 mX9_fold.2.1 mX9_fold.2.2.1 mX9_fold.2.2.2 ∈ TG := TG_in (List.mem_append_right _ (List.mem_of_getElem? (i := 826) (by decide +kernel))) (by decide +kernel)
abbrev mX9_hasKids : MD := (yX9_hasKids, cX9_hasKids, 2, (some .boolean))
theorem kcX9_hasKids : Cond.code mX9_hasKids.1 mX9_hasKids.2.1 mX9_hasKids.2.2.1 mX9_hasKids.2.2.2 ∈ TG := TG_in (List.mem_append_right _ (List.mem_of_getElem? (i := 830) (by decide +kernel))) (by decide +kernel)
abbrev mX9_rows : MD := (yX9_rows, cX9_rows, 3, (some .int))
theorem kcX9_rows : Cond.code mX9_rows.1 mX9_rows.2.1 mX9_rows.2.2.1 mX9_rows.2.2.2 ∈ TG := TG_in (List.mem_append_right _ (List.mem_of_getElem? (i := 834) (by decide +kernel))) (by decide +kernel)
abbrev mX9_foldLevel : MD := (yX9_foldLevel, cX9_foldLevel, 5, (some .int))
theorem kcX9_foldLevel : Cond.code mX9_foldLevel.1 mX9_foldLevel.2.1 mX9_foldLevel.2.2.1 mX9_foldLevel.2.2.2 ∈ TG := TG_in (List.mem_append_right _ (List.mem_of_getElem? (i := 838) (by decide +kernel))) (by decide +kernel)
abbrev mX9_show : MD := (yX9_show, cX9_show, 4, (some .int))
theorem kcX9_show : Cond.code mX9_show.1 mX9_show.2.1 mX9_show.2.2.1 mX9_show.2.2.2 ∈ TG := TG_in (List.mem_append_right _ (List.mem_of_getElem? (i := 842) (by decide +kernel))) (by decide +kernel)
abbrev mX9_isNode : MD := (yX9_isNode, cX9_isNode, 2, (some .boolean))
theorem kcX9_isNode : Cond.code mX9_isNode.1 mX9_isNode.2.1 mX9_isNode.2.2.1 mX9_isNode.2.2.2 ∈ TG := TG_in (List.mem_append_right _ (List.mem_of_getElem? (i := 846) (by decide +kernel))) (by decide +kernel)
abbrev mX9_firstPlace : MD := (yX9_firstPlace, cX9_firstPlace, 3, (some .int))
theorem kcX9_firstPlace : Cond.code mX9_firstPlace.1 mX9_firstPlace.2.1 mX9_firstPlace.2.2.1 mX9_firstPlace.2.2.2 ∈ TG := TG_in (List.mem_append_right _ (List.mem_of_getElem? (i := 850) (by decide +kernel))) (by decide +kernel)
abbrev mX9_rowOf : MD := (yX9_rowOf, cX9_rowOf, 4, (some .int))
theorem kcX9_rowOf : Cond.code mX9_rowOf.1 mX9_rowOf.2.1 mX9_rowOf.2.2.1 mX9_rowOf.2.2.2 ∈ TG := TG_in (List.mem_append_right _ (List.mem_of_getElem? (i := 854) (by decide +kernel))) (by decide +kernel)
abbrev mX9_type : MD := (yX9_type, cX9_type, 2, (some .int))
theorem kcX9_type : Cond.code mX9_type.1 mX9_type.2.1 mX9_type.2.2.1 mX9_type.2.2.2 ∈ TG := TG_in (List.mem_append_right _ (List.mem_of_getElem? (i := 858) (by decide +kernel))) (by decide +kernel)
abbrev mX9_clearText : MD := (yX9_clearText, cX9_clearText, 2, (some .int))
theorem kcX9_clearText : Cond.code mX9_clearText.1 mX9_clearText.2.1 mX9_clearText.2.2.1 mX9_clearText.2.2.2 ∈ TG := TG_in (List.mem_append_right _ (List.mem_of_getElem? (i := 862) (by decide +kernel))) (by decide +kernel)
abbrev mX9_readOutline : MD := (yX9_readOutline, cX9_readOutline, 4, (some .int))
theorem kcX9_readOutline : Cond.code mX9_readOutline.1 mX9_readOutline.2.1 mX9_readOutline.2.2.1 mX9_readOutline.2.2.2 ∈ TG := TG_in (List.mem_append_right _ (List.mem_of_getElem? (i := 866) (by decide +kernel))) (by decide +kernel)
abbrev mX9_readsFault : MD := (yX9_readsFault, cX9_readsFault, 7, (some .int))
theorem kcX9_readsFault : Cond.code mX9_readsFault.1 mX9_readsFault.2.1 mX9_readsFault.2.2.1 mX9_readsFault.2.2.2 ∈ TG := TG_in (List.mem_append_right _ (List.mem_of_getElem? (i := 870) (by decide +kernel))) (by decide +kernel)
abbrev mX9_isOpen : MD := (yX9_isOpen, cX9_isOpen, 4, (some .boolean))
theorem kcX9_isOpen : Cond.code mX9_isOpen.1 mX9_isOpen.2.1 mX9_isOpen.2.2.1 mX9_isOpen.2.2.2 ∈ TG := TG_in (List.mem_append_right _ (List.mem_of_getElem? (i := 874) (by decide +kernel))) (by decide +kernel)
abbrev mX9_stands : MD := (yX9_stands, cX9_stands, 4, (some .boolean))
theorem kcX9_stands : Cond.code mX9_stands.1 mX9_stands.2.1 mX9_stands.2.2.1 mX9_stands.2.2.2 ∈ TG := TG_in (List.mem_append_right _ (List.mem_of_getElem? (i := 878) (by decide +kernel))) (by decide +kernel)
abbrev mX9_undo : MD := (yX9_undo, cX9_undo, 2, (some .int))
theorem kcX9_undo : Cond.code mX9_undo.1 mX9_undo.2.1 mX9_undo.2.2.1 mX9_undo.2.2.2 ∈ TG := TG_in (List.mem_append_right _ (List.mem_of_getElem? (i := 882) (by decide +kernel))) (by decide +kernel)
abbrev mX9_keep : MD := (yX9_keep, cX9_keep, 2, (some .int))
theorem kcX9_keep : Cond.code mX9_keep.1 mX9_keep.2.1 mX9_keep.2.2.1 mX9_keep.2.2.2 ∈ TG := TG_in (List.mem_append_right _ (List.mem_of_getElem? (i := 886) (by decide +kernel))) (by decide +kernel)
abbrev mX9_restore : MD := (yX9_restore, cX9_restore, 2, (some .int))
theorem kcX9_restore : Cond.code mX9_restore.1 mX9_restore.2.1 mX9_restore.2.2.1 mX9_restore.2.2.2 ∈ TG := TG_in (List.mem_append_right _ (List.mem_of_getElem? (i := 890) (by decide +kernel))) (by decide +kernel)
abbrev mX9_row : MD := (yX9_row, cX9_row, 5, (some .int))
theorem kcX9_row : Cond.code mX9_row.1 mX9_row.2.1 mX9_row.2.2.1 mX9_row.2.2.2 ∈ TG := TG_in (List.mem_append_right _ (List.mem_of_getElem? (i := 894) (by decide +kernel))) (by decide +kernel)
abbrev mX9_rowsWithin : MD := (yX9_rowsWithin, cX9_rowsWithin, 4, (some .int))
theorem kcX9_rowsWithin : Cond.code mX9_rowsWithin.1 mX9_rowsWithin.2.1 mX9_rowsWithin.2.2.1 mX9_rowsWithin.2.2.2 ∈ TG := TG_in (List.mem_append_right _ (List.mem_of_getElem? (i := 898) (by decide +kernel))) (by decide +kernel)
abbrev mX9_number : MD := (yX9_number, cX9_number, 4, (some .int))
theorem kcX9_number : Cond.code mX9_number.1 mX9_number.2.1 mX9_number.2.2.1 mX9_number.2.2.2 ∈ TG := TG_in (List.mem_append_right _ (List.mem_of_getElem? (i := 902) (by decide +kernel))) (by decide +kernel)
abbrev mX9_charAt : MD := (yX9_charAt, cX9_charAt, 5, (some .int))
theorem kcX9_charAt : Cond.code mX9_charAt.1 mX9_charAt.2.1 mX9_charAt.2.2.1 mX9_charAt.2.2.2 ∈ TG := TG_in (List.mem_append_right _ (List.mem_of_getElem? (i := 906) (by decide +kernel))) (by decide +kernel)
abbrev mX9_node : MD := (yX9_node, cX9_node, 3, (some .int))
theorem kcX9_node : Cond.code mX9_node.1 mX9_node.2.1 mX9_node.2.2.1 mX9_node.2.2.2 ∈ TG := TG_in (List.mem_append_right _ (List.mem_of_getElem? (i := 910) (by decide +kernel))) (by decide +kernel)
abbrev mX9_parents : MD := (yX9_parents, cX9_parents, 4, (some .int))
theorem kcX9_parents : Cond.code mX9_parents.1 mX9_parents.2.1 mX9_parents.2.2.1 mX9_parents.2.2.2 ∈ TG := TG_in (List.mem_append_right _ (List.mem_of_getElem? (i := 914) (by decide +kernel))) (by decide +kernel)
abbrev mX9_seenPlaces : MD := (yX9_seenPlaces, cX9_seenPlaces, 4, (some .int))
theorem kcX9_seenPlaces : Cond.code mX9_seenPlaces.1 mX9_seenPlaces.2.1 mX9_seenPlaces.2.2.1 mX9_seenPlaces.2.2.2 ∈ TG := TG_in (List.mem_append_right _ (List.mem_of_getElem? (i := 918) (by decide +kernel))) (by decide +kernel)
abbrev mX9_firstRow : MD := (yX9_firstRow, cX9_firstRow, 3, (some .int))
theorem kcX9_firstRow : Cond.code mX9_firstRow.1 mX9_firstRow.2.1 mX9_firstRow.2.2.1 mX9_firstRow.2.2.2 ∈ TG := TG_in (List.mem_append_right _ (List.mem_of_getElem? (i := 922) (by decide +kernel))) (by decide +kernel)
abbrev mX9_nextMarked : MD := (yX9_nextMarked, cX9_nextMarked, 5, (some .int))
theorem kcX9_nextMarked : Cond.code mX9_nextMarked.1 mX9_nextMarked.2.1 mX9_nextMarked.2.2.1 mX9_nextMarked.2.2.2 ∈ TG := TG_in (List.mem_append_right _ (List.mem_of_getElem? (i := 926) (by decide +kernel))) (by decide +kernel)
abbrev mX9_find : MD := (yX9_find, cX9_find, 4, (some .int))
theorem kcX9_find : Cond.code mX9_find.1 mX9_find.2.1 mX9_find.2.2.1 mX9_find.2.2.2 ∈ TG := TG_in (List.mem_append_right _ (List.mem_of_getElem? (i := 930) (by decide +kernel))) (by decide +kernel)
abbrev mX9_count : MD := (yX9_count, cX9_count, 2, (some .int))
theorem kcX9_count : Cond.code mX9_count.1 mX9_count.2.1 mX9_count.2.2.1 mX9_count.2.2.2 ∈ TG := TG_in (List.mem_append_right _ (List.mem_of_getElem? (i := 934) (by decide +kernel))) (by decide +kernel)
abbrev mX9_nodes : MD := (yX9_nodes, cX9_nodes, 4, (some .int))
theorem kcX9_nodes : Cond.code mX9_nodes.1 mX9_nodes.2.1 mX9_nodes.2.2.1 mX9_nodes.2.2.2 ∈ TG := TG_in (List.mem_append_right _ (List.mem_of_getElem? (i := 938) (by decide +kernel))) (by decide +kernel)
abbrev mX9_foldedPlaces : MD := (yX9_foldedPlaces, cX9_foldedPlaces, 3, (some .int))
theorem kcX9_foldedPlaces : Cond.code mX9_foldedPlaces.1 mX9_foldedPlaces.2.1 mX9_foldedPlaces.2.2.1 mX9_foldedPlaces.2.2.2 ∈ TG := TG_in (List.mem_append_right _ (List.mem_of_getElem? (i := 942) (by decide +kernel))) (by decide +kernel)
abbrev mX9_greatestLevel : MD := (yX9_greatestLevel, cX9_greatestLevel, 3, (some .int))
theorem kcX9_greatestLevel : Cond.code mX9_greatestLevel.1 mX9_greatestLevel.2.1 mX9_greatestLevel.2.2.1 mX9_greatestLevel.2.2.2 ∈ TG := TG_in (List.mem_append_right _ (List.mem_of_getElem? (i := 946) (by decide +kernel))) (by decide +kernel)
theorem kiL : Cond.initialized RL ∈ TG := TG_in (List.mem_append_right _ (List.mem_of_getElem? (i := 0) (by decide +kernel))) (by decide +kernel)
theorem kiX8 : Cond.initialized RX8 ∈ TG := TG_in (List.mem_append_right _ (List.mem_of_getElem? (i := 1) (by decide +kernel))) (by decide +kernel)
theorem kiX7 : Cond.initialized RX7 ∈ TG := TG_in (List.mem_append_right _ (List.mem_of_getElem? (i := 2) (by decide +kernel))) (by decide +kernel)
theorem kiX4 : Cond.initialized RX4 ∈ TG := TG_in (List.mem_append_right _ (List.mem_of_getElem? (i := 3) (by decide +kernel))) (by decide +kernel)
theorem kiX5 : Cond.initialized RX5 ∈ TG := TG_in (List.mem_append_right _ (List.mem_of_getElem? (i := 4) (by decide +kernel))) (by decide +kernel)
theorem kiX0 : Cond.initialized RX0 ∈ TG := TG_in (List.mem_append_right _ (List.mem_of_getElem? (i := 5) (by decide +kernel))) (by decide +kernel)
theorem kiX6 : Cond.initialized RX6 ∈ TG := TG_in (List.mem_append_right _ (List.mem_of_getElem? (i := 6) (by decide +kernel))) (by decide +kernel)
theorem kiX2 : Cond.initialized RX2 ∈ TG := TG_in (List.mem_append_right _ (List.mem_of_getElem? (i := 7) (by decide +kernel))) (by decide +kernel)
theorem kiX1 : Cond.initialized RX1 ∈ TG := TG_in (List.mem_append_right _ (List.mem_of_getElem? (i := 8) (by decide +kernel))) (by decide +kernel)
theorem kiX3 : Cond.initialized RX3 ∈ TG := TG_in (List.mem_append_right _ (List.mem_of_getElem? (i := 9) (by decide +kernel))) (by decide +kernel)
theorem kiX9 : Cond.initialized RX9 ∈ TG := TG_in (List.mem_append_right _ (List.mem_of_getElem? (i := 10) (by decide +kernel))) (by decide +kernel)
theorem kiJ10 : Cond.initialized RJ10 ∈ TG := TG_in (List.mem_append_right _ (List.mem_of_getElem? (i := 11) (by decide +kernel))) (by decide +kernel)
theorem kiJ9 : Cond.initialized RJ9 ∈ TG := TG_in (List.mem_append_right _ (List.mem_of_getElem? (i := 12) (by decide +kernel))) (by decide +kernel)
theorem kiJ13 : Cond.initialized RJ13 ∈ TG := TG_in (List.mem_append_right _ (List.mem_of_getElem? (i := 13) (by decide +kernel))) (by decide +kernel)
theorem knX8_init : Cond.instanceMethod yX8_init ∈ TG := TG_in (List.mem_append_right _ (List.mem_of_getElem? (i := 17) (by decide +kernel))) (by decide +kernel)
theorem knX7_init : Cond.instanceMethod yX7_init ∈ TG := TG_in (List.mem_append_right _ (List.mem_of_getElem? (i := 25) (by decide +kernel))) (by decide +kernel)
theorem knX4_init : Cond.instanceMethod yX4_init ∈ TG := TG_in (List.mem_append_right _ (List.mem_of_getElem? (i := 42) (by decide +kernel))) (by decide +kernel)
theorem knX5_init : Cond.instanceMethod yX5_init ∈ TG := TG_in (List.mem_append_right _ (List.mem_of_getElem? (i := 64) (by decide +kernel))) (by decide +kernel)
theorem knX0_init : Cond.instanceMethod yX0_init ∈ TG := TG_in (List.mem_append_right _ (List.mem_of_getElem? (i := 81) (by decide +kernel))) (by decide +kernel)
theorem knX6_init : Cond.instanceMethod yX6_init ∈ TG := TG_in (List.mem_append_right _ (List.mem_of_getElem? (i := 88) (by decide +kernel))) (by decide +kernel)
theorem knX2_init : Cond.instanceMethod yX2_init ∈ TG := TG_in (List.mem_append_right _ (List.mem_of_getElem? (i := 94) (by decide +kernel))) (by decide +kernel)
theorem knX1_init : Cond.instanceMethod yX1_init ∈ TG := TG_in (List.mem_append_right _ (List.mem_of_getElem? (i := 115) (by decide +kernel))) (by decide +kernel)
theorem knX3_init : Cond.instanceMethod yX3_init ∈ TG := TG_in (List.mem_append_right _ (List.mem_of_getElem? (i := 134) (by decide +kernel))) (by decide +kernel)
theorem knX8_add : Cond.instanceMethod yX8_add ∈ TG := TG_in (List.mem_append_right _ (List.mem_of_getElem? (i := 209) (by decide +kernel))) (by decide +kernel)
theorem kvX8_add : Cond.selects yX8_add.cls yX8_add yX8_add ∈ TG := TG_in (List.mem_append_right _ (List.mem_of_getElem? (i := 210) (by decide +kernel))) (by decide +kernel)
theorem knX8_placeOrRoot : Cond.instanceMethod yX8_placeOrRoot ∈ TG := TG_in (List.mem_append_right _ (List.mem_of_getElem? (i := 214) (by decide +kernel))) (by decide +kernel)
theorem kvX8_placeOrRoot : Cond.selects yX8_placeOrRoot.cls yX8_placeOrRoot yX8_placeOrRoot ∈ TG := TG_in (List.mem_append_left _ (List.mem_of_getElem? (i := 0) (by decide +kernel))) (by decide +kernel)
theorem knX5_placeOf : Cond.instanceMethod yX5_placeOf ∈ TG := TG_in (List.mem_append_right _ (List.mem_of_getElem? (i := 217) (by decide +kernel))) (by decide +kernel)
theorem kvX5_placeOf : Cond.selects yX5_placeOf.cls yX5_placeOf yX5_placeOf ∈ TG := TG_in (List.mem_append_right _ (List.mem_of_getElem? (i := 218) (by decide +kernel))) (by decide +kernel)
theorem knX7_fitsNode : Cond.instanceMethod yX7_fitsNode ∈ TG := TG_in (List.mem_append_right _ (List.mem_of_getElem? (i := 221) (by decide +kernel))) (by decide +kernel)
theorem kvX7_fitsNode : Cond.selects yX7_fitsNode.cls yX7_fitsNode yX7_fitsNode ∈ TG := TG_in (List.mem_append_right _ (List.mem_of_getElem? (i := 222) (by decide +kernel))) (by decide +kernel)
theorem knX6_copyFrom : Cond.instanceMethod yX6_copyFrom ∈ TG := TG_in (List.mem_append_right _ (List.mem_of_getElem? (i := 225) (by decide +kernel))) (by decide +kernel)
theorem kvX6_copyFrom : Cond.selects yX6_copyFrom.cls yX6_copyFrom yX6_copyFrom ∈ TG := TG_in (List.mem_append_right _ (List.mem_of_getElem? (i := 226) (by decide +kernel))) (by decide +kernel)
theorem knX2_copyFrom : Cond.instanceMethod yX2_copyFrom ∈ TG := TG_in (List.mem_append_right _ (List.mem_of_getElem? (i := 229) (by decide +kernel))) (by decide +kernel)
theorem kvX2_copyFrom : Cond.selects yX2_copyFrom.cls yX2_copyFrom yX2_copyFrom ∈ TG := TG_in (List.mem_append_right _ (List.mem_of_getElem? (i := 230) (by decide +kernel))) (by decide +kernel)
theorem knX1_copyFrom : Cond.instanceMethod yX1_copyFrom ∈ TG := TG_in (List.mem_append_right _ (List.mem_of_getElem? (i := 236) (by decide +kernel))) (by decide +kernel)
theorem kvX1_copyFrom : Cond.selects yX1_copyFrom.cls yX1_copyFrom yX1_copyFrom ∈ TG := TG_in (List.mem_append_right _ (List.mem_of_getElem? (i := 237) (by decide +kernel))) (by decide +kernel)
theorem knX3_copyFrom : Cond.instanceMethod yX3_copyFrom ∈ TG := TG_in (List.mem_append_right _ (List.mem_of_getElem? (i := 241) (by decide +kernel))) (by decide +kernel)
theorem kvX3_copyFrom : Cond.selects yX3_copyFrom.cls yX3_copyFrom yX3_copyFrom ∈ TG := TG_in (List.mem_append_right _ (List.mem_of_getElem? (i := 242) (by decide +kernel))) (by decide +kernel)
theorem knX2_makeNode : Cond.instanceMethod yX2_makeNode ∈ TG := TG_in (List.mem_append_right _ (List.mem_of_getElem? (i := 246) (by decide +kernel))) (by decide +kernel)
theorem kvX2_makeNode : Cond.selects yX2_makeNode.cls yX2_makeNode yX2_makeNode ∈ TG := TG_in (List.mem_append_right _ (List.mem_of_getElem? (i := 247) (by decide +kernel))) (by decide +kernel)
theorem knX2_setText : Cond.instanceMethod yX2_setText ∈ TG := TG_in (List.mem_append_right _ (List.mem_of_getElem? (i := 250) (by decide +kernel))) (by decide +kernel)
theorem kvX2_setText : Cond.selects yX2_setText.cls yX2_setText yX2_setText ∈ TG := TG_in (List.mem_append_right _ (List.mem_of_getElem? (i := 251) (by decide +kernel))) (by decide +kernel)
theorem ksX2_isNumber : Cond.static yX2_isNumber ∈ TG := TG_in (List.mem_append_right _ (List.mem_of_getElem? (i := 254) (by decide +kernel))) (by decide +kernel)
theorem knX7_codeAt : Cond.instanceMethod yX7_codeAt ∈ TG := TG_in (List.mem_append_right _ (List.mem_of_getElem? (i := 258) (by decide +kernel))) (by decide +kernel)
theorem kvX7_codeAt : Cond.selects yX7_codeAt.cls yX7_codeAt yX7_codeAt ∈ TG := TG_in (List.mem_append_right _ (List.mem_of_getElem? (i := 259) (by decide +kernel))) (by decide +kernel)
theorem knX3_nodeOf : Cond.instanceMethod yX3_nodeOf ∈ TG := TG_in (List.mem_append_right _ (List.mem_of_getElem? (i := 262) (by decide +kernel))) (by decide +kernel)
theorem kvX3_nodeOf : Cond.selects yX3_nodeOf.cls yX3_nodeOf yX3_nodeOf ∈ TG := TG_in (List.mem_append_right _ (List.mem_of_getElem? (i := 263) (by decide +kernel))) (by decide +kernel)
theorem knX3_isThere : Cond.instanceMethod yX3_isThere ∈ TG := TG_in (List.mem_append_right _ (List.mem_of_getElem? (i := 267) (by decide +kernel))) (by decide +kernel)
theorem kvX3_isThere : Cond.selects yX3_isThere.cls yX3_isThere yX3_isThere ∈ TG := TG_in (List.mem_append_left _ (List.mem_of_getElem? (i := 1) (by decide +kernel))) (by decide +kernel)
theorem knX8_attach : Cond.instanceMethod yX8_attach ∈ TG := TG_in (List.mem_append_right _ (List.mem_of_getElem? (i := 271) (by decide +kernel))) (by decide +kernel)
theorem kvX8_attach : Cond.selects yX8_attach.cls yX8_attach yX8_attach ∈ TG := TG_in (List.mem_append_left _ (List.mem_of_getElem? (i := 2) (by decide +kernel))) (by decide +kernel)
theorem knX1_append : Cond.instanceMethod yX1_append ∈ TG := TG_in (List.mem_append_right _ (List.mem_of_getElem? (i := 274) (by decide +kernel))) (by decide +kernel)
theorem kvX1_append : Cond.selects yX1_append.cls yX1_append yX1_append ∈ TG := TG_in (List.mem_append_right _ (List.mem_of_getElem? (i := 275) (by decide +kernel))) (by decide +kernel)
theorem knX6_placeAgain : Cond.instanceMethod yX6_placeAgain ∈ TG := TG_in (List.mem_append_right _ (List.mem_of_getElem? (i := 278) (by decide +kernel))) (by decide +kernel)
theorem kvX6_placeAgain : Cond.selects yX6_placeAgain.cls yX6_placeAgain yX6_placeAgain ∈ TG := TG_in (List.mem_append_right _ (List.mem_of_getElem? (i := 279) (by decide +kernel))) (by decide +kernel)
theorem ksX6_grow : Cond.static yX6_grow ∈ TG := TG_in (List.mem_append_right _ (List.mem_of_getElem? (i := 282) (by decide +kernel))) (by decide +kernel)
theorem knX3_childPlace : Cond.instanceMethod yX3_childPlace ∈ TG := TG_in (List.mem_append_right _ (List.mem_of_getElem? (i := 286) (by decide +kernel))) (by decide +kernel)
theorem kvX3_childPlace : Cond.selects yX3_childPlace.cls yX3_childPlace yX3_childPlace ∈ TG := TG_in (List.mem_append_right _ (List.mem_of_getElem? (i := 287) (by decide +kernel))) (by decide +kernel)
theorem knX3_levelOf : Cond.instanceMethod yX3_levelOf ∈ TG := TG_in (List.mem_append_right _ (List.mem_of_getElem? (i := 290) (by decide +kernel))) (by decide +kernel)
theorem kvX3_levelOf : Cond.selects yX3_levelOf.cls yX3_levelOf yX3_levelOf ∈ TG := TG_in (List.mem_append_right _ (List.mem_of_getElem? (i := 291) (by decide +kernel))) (by decide +kernel)
theorem knX3_foldOf : Cond.instanceMethod yX3_foldOf ∈ TG := TG_in (List.mem_append_right _ (List.mem_of_getElem? (i := 294) (by decide +kernel))) (by decide +kernel)
theorem kvX3_foldOf : Cond.selects yX3_foldOf.cls yX3_foldOf yX3_foldOf ∈ TG := TG_in (List.mem_append_right _ (List.mem_of_getElem? (i := 295) (by decide +kernel))) (by decide +kernel)
theorem knX3_append : Cond.instanceMethod yX3_append ∈ TG := TG_in (List.mem_append_right _ (List.mem_of_getElem? (i := 298) (by decide +kernel))) (by decide +kernel)
theorem kvX3_append : Cond.selects yX3_append.cls yX3_append yX3_append ∈ TG := TG_in (List.mem_append_right _ (List.mem_of_getElem? (i := 299) (by decide +kernel))) (by decide +kernel)
theorem knX8_accept : Cond.instanceMethod yX8_accept ∈ TG := TG_in (List.mem_append_right _ (List.mem_of_getElem? (i := 303) (by decide +kernel))) (by decide +kernel)
theorem kvX8_accept : Cond.selects yX8_accept.cls yX8_accept yX8_accept ∈ TG := TG_in (List.mem_append_left _ (List.mem_of_getElem? (i := 3) (by decide +kernel))) (by decide +kernel)
theorem knX0_push : Cond.instanceMethod yX0_push ∈ TG := TG_in (List.mem_append_right _ (List.mem_of_getElem? (i := 306) (by decide +kernel))) (by decide +kernel)
theorem kvX0_push : Cond.selects yX0_push.cls yX0_push yX0_push ∈ TG := TG_in (List.mem_append_right _ (List.mem_of_getElem? (i := 307) (by decide +kernel))) (by decide +kernel)
theorem ksJ9_floorMod_7cf53 : Cond.static yJ9_floorMod_7cf53 ∈ TG := TG_in (List.mem_append_right _ (List.mem_of_getElem? (i := 310) (by decide +kernel))) (by decide +kernel)
theorem knX5_refresh : Cond.instanceMethod yX5_refresh ∈ TG := TG_in (List.mem_append_right _ (List.mem_of_getElem? (i := 314) (by decide +kernel))) (by decide +kernel)
theorem kvX5_refresh : Cond.selects yX5_refresh.cls yX5_refresh yX5_refresh ∈ TG := TG_in (List.mem_append_right _ (List.mem_of_getElem? (i := 315) (by decide +kernel))) (by decide +kernel)
theorem knX3_countOf : Cond.instanceMethod yX3_countOf ∈ TG := TG_in (List.mem_append_right _ (List.mem_of_getElem? (i := 318) (by decide +kernel))) (by decide +kernel)
theorem kvX3_countOf : Cond.selects yX3_countOf.cls yX3_countOf yX3_countOf ∈ TG := TG_in (List.mem_append_right _ (List.mem_of_getElem? (i := 319) (by decide +kernel))) (by decide +kernel)
theorem knX8_cloneTo : Cond.instanceMethod yX8_cloneTo ∈ TG := TG_in (List.mem_append_right _ (List.mem_of_getElem? (i := 322) (by decide +kernel))) (by decide +kernel)
theorem kvX8_cloneTo : Cond.selects yX8_cloneTo.cls yX8_cloneTo yX8_cloneTo ∈ TG := TG_in (List.mem_append_right _ (List.mem_of_getElem? (i := 323) (by decide +kernel))) (by decide +kernel)
theorem knX8_refusalOfParent : Cond.instanceMethod yX8_refusalOfParent ∈ TG := TG_in (List.mem_append_right _ (List.mem_of_getElem? (i := 327) (by decide +kernel))) (by decide +kernel)
theorem kvX8_refusalOfParent : Cond.selects yX8_refusalOfParent.cls yX8_refusalOfParent yX8_refusalOfParent ∈ TG := TG_in (List.mem_append_left _ (List.mem_of_getElem? (i := 4) (by decide +kernel))) (by decide +kernel)
theorem knX3_nodesWithin : Cond.instanceMethod yX3_nodesWithin ∈ TG := TG_in (List.mem_append_right _ (List.mem_of_getElem? (i := 330) (by decide +kernel))) (by decide +kernel)
theorem kvX3_nodesWithin : Cond.selects yX3_nodesWithin.cls yX3_nodesWithin yX3_nodesWithin ∈ TG := TG_in (List.mem_append_right _ (List.mem_of_getElem? (i := 331) (by decide +kernel))) (by decide +kernel)
theorem knX3_endOf : Cond.instanceMethod yX3_endOf ∈ TG := TG_in (List.mem_append_right _ (List.mem_of_getElem? (i := 334) (by decide +kernel))) (by decide +kernel)
theorem kvX3_endOf : Cond.selects yX3_endOf.cls yX3_endOf yX3_endOf ∈ TG := TG_in (List.mem_append_right _ (List.mem_of_getElem? (i := 335) (by decide +kernel))) (by decide +kernel)
theorem ksJ9_max_7cf53 : Cond.static yJ9_max_7cf53 ∈ TG := TG_in (List.mem_append_right _ (List.mem_of_getElem? (i := 338) (by decide +kernel))) (by decide +kernel)
theorem knX1_indexOf : Cond.instanceMethod yX1_indexOf ∈ TG := TG_in (List.mem_append_right _ (List.mem_of_getElem? (i := 341) (by decide +kernel))) (by decide +kernel)
theorem kvX1_indexOf : Cond.selects yX1_indexOf.cls yX1_indexOf yX1_indexOf ∈ TG := TG_in (List.mem_append_right _ (List.mem_of_getElem? (i := 342) (by decide +kernel))) (by decide +kernel)
theorem knX8_nodeOfRow : Cond.instanceMethod yX8_nodeOfRow ∈ TG := TG_in (List.mem_append_right _ (List.mem_of_getElem? (i := 346) (by decide +kernel))) (by decide +kernel)
theorem kvX8_nodeOfRow : Cond.selects yX8_nodeOfRow.cls yX8_nodeOfRow yX8_nodeOfRow ∈ TG := TG_in (List.mem_append_left _ (List.mem_of_getElem? (i := 5) (by decide +kernel))) (by decide +kernel)
theorem knX8_move : Cond.instanceMethod yX8_move ∈ TG := TG_in (List.mem_append_right _ (List.mem_of_getElem? (i := 349) (by decide +kernel))) (by decide +kernel)
theorem kvX8_move : Cond.selects yX8_move.cls yX8_move yX8_move ∈ TG := TG_in (List.mem_append_right _ (List.mem_of_getElem? (i := 350) (by decide +kernel))) (by decide +kernel)
theorem knX8_parentNodeOf : Cond.instanceMethod yX8_parentNodeOf ∈ TG := TG_in (List.mem_append_right _ (List.mem_of_getElem? (i := 354) (by decide +kernel))) (by decide +kernel)
theorem kvX8_parentNodeOf : Cond.selects yX8_parentNodeOf.cls yX8_parentNodeOf yX8_parentNodeOf ∈ TG := TG_in (List.mem_append_left _ (List.mem_of_getElem? (i := 6) (by decide +kernel))) (by decide +kernel)
theorem knX3_parentOf : Cond.instanceMethod yX3_parentOf ∈ TG := TG_in (List.mem_append_right _ (List.mem_of_getElem? (i := 357) (by decide +kernel))) (by decide +kernel)
theorem kvX3_parentOf : Cond.selects yX3_parentOf.cls yX3_parentOf yX3_parentOf ∈ TG := TG_in (List.mem_append_right _ (List.mem_of_getElem? (i := 358) (by decide +kernel))) (by decide +kernel)
theorem knX3_atLevel : Cond.instanceMethod yX3_atLevel ∈ TG := TG_in (List.mem_append_right _ (List.mem_of_getElem? (i := 361) (by decide +kernel))) (by decide +kernel)
theorem kvX3_atLevel : Cond.selects yX3_atLevel.cls yX3_atLevel yX3_atLevel ∈ TG := TG_in (List.mem_append_right _ (List.mem_of_getElem? (i := 362) (by decide +kernel))) (by decide +kernel)
theorem ksJ9_min_7cf53 : Cond.static yJ9_min_7cf53 ∈ TG := TG_in (List.mem_append_right _ (List.mem_of_getElem? (i := 365) (by decide +kernel))) (by decide +kernel)
theorem knX1_drop : Cond.instanceMethod yX1_drop ∈ TG := TG_in (List.mem_append_right _ (List.mem_of_getElem? (i := 368) (by decide +kernel))) (by decide +kernel)
theorem kvX1_drop : Cond.selects yX1_drop.cls yX1_drop yX1_drop ∈ TG := TG_in (List.mem_append_right _ (List.mem_of_getElem? (i := 369) (by decide +kernel))) (by decide +kernel)
theorem knX8_cut : Cond.instanceMethod yX8_cut ∈ TG := TG_in (List.mem_append_right _ (List.mem_of_getElem? (i := 373) (by decide +kernel))) (by decide +kernel)
theorem kvX8_cut : Cond.selects yX8_cut.cls yX8_cut yX8_cut ∈ TG := TG_in (List.mem_append_right _ (List.mem_of_getElem? (i := 374) (by decide +kernel))) (by decide +kernel)
theorem knX3_nodeSet : Cond.instanceMethod yX3_nodeSet ∈ TG := TG_in (List.mem_append_right _ (List.mem_of_getElem? (i := 377) (by decide +kernel))) (by decide +kernel)
theorem kvX3_nodeSet : Cond.selects yX3_nodeSet.cls yX3_nodeSet yX3_nodeSet ∈ TG := TG_in (List.mem_append_right _ (List.mem_of_getElem? (i := 378) (by decide +kernel))) (by decide +kernel)
theorem knX6_dropVanished : Cond.instanceMethod yX6_dropVanished ∈ TG := TG_in (List.mem_append_right _ (List.mem_of_getElem? (i := 382) (by decide +kernel))) (by decide +kernel)
theorem kvX6_dropVanished : Cond.selects yX6_dropVanished.cls yX6_dropVanished yX6_dropVanished ∈ TG := TG_in (List.mem_append_right _ (List.mem_of_getElem? (i := 383) (by decide +kernel))) (by decide +kernel)
theorem knX1_keepParents : Cond.instanceMethod yX1_keepParents ∈ TG := TG_in (List.mem_append_right _ (List.mem_of_getElem? (i := 387) (by decide +kernel))) (by decide +kernel)
theorem kvX1_keepParents : Cond.selects yX1_keepParents.cls yX1_keepParents yX1_keepParents ∈ TG := TG_in (List.mem_append_right _ (List.mem_of_getElem? (i := 388) (by decide +kernel))) (by decide +kernel)
theorem ksJ13_bitCount_95d88 : Cond.static yJ13_bitCount_95d88 ∈ TG := TG_in (List.mem_append_right _ (List.mem_of_getElem? (i := 392) (by decide +kernel))) (by decide +kernel)
theorem knX8_shift : Cond.instanceMethod yX8_shift ∈ TG := TG_in (List.mem_append_right _ (List.mem_of_getElem? (i := 398) (by decide +kernel))) (by decide +kernel)
theorem kvX8_shift : Cond.selects yX8_shift.cls yX8_shift yX8_shift ∈ TG := TG_in (List.mem_append_right _ (List.mem_of_getElem? (i := 399) (by decide +kernel))) (by decide +kernel)
theorem knX1_position : Cond.instanceMethod yX1_position ∈ TG := TG_in (List.mem_append_right _ (List.mem_of_getElem? (i := 402) (by decide +kernel))) (by decide +kernel)
theorem kvX1_position : Cond.selects yX1_position.cls yX1_position yX1_position ∈ TG := TG_in (List.mem_append_right _ (List.mem_of_getElem? (i := 403) (by decide +kernel))) (by decide +kernel)
theorem knX1_childCount : Cond.instanceMethod yX1_childCount ∈ TG := TG_in (List.mem_append_right _ (List.mem_of_getElem? (i := 406) (by decide +kernel))) (by decide +kernel)
theorem kvX1_childCount : Cond.selects yX1_childCount.cls yX1_childCount yX1_childCount ∈ TG := TG_in (List.mem_append_right _ (List.mem_of_getElem? (i := 407) (by decide +kernel))) (by decide +kernel)
theorem knX1_shiftChild : Cond.instanceMethod yX1_shiftChild ∈ TG := TG_in (List.mem_append_right _ (List.mem_of_getElem? (i := 410) (by decide +kernel))) (by decide +kernel)
theorem kvX1_shiftChild : Cond.selects yX1_shiftChild.cls yX1_shiftChild yX1_shiftChild ∈ TG := TG_in (List.mem_append_right _ (List.mem_of_getElem? (i := 411) (by decide +kernel))) (by decide +kernel)
theorem ksJ9_abs_0f7a4 : Cond.static yJ9_abs_0f7a4 ∈ TG := TG_in (List.mem_append_right _ (List.mem_of_getElem? (i := 414) (by decide +kernel))) (by decide +kernel)
theorem knX8_edit : Cond.instanceMethod yX8_edit ∈ TG := TG_in (List.mem_append_right _ (List.mem_of_getElem? (i := 417) (by decide +kernel))) (by decide +kernel)
theorem kvX8_edit : Cond.selects yX8_edit.cls yX8_edit yX8_edit ∈ TG := TG_in (List.mem_append_right _ (List.mem_of_getElem? (i := 418) (by decide +kernel))) (by decide +kernel)
theorem knX2_hasText : Cond.instanceMethod yX2_hasText ∈ TG := TG_in (List.mem_append_right _ (List.mem_of_getElem? (i := 421) (by decide +kernel))) (by decide +kernel)
theorem kvX2_hasText : Cond.selects yX2_hasText.cls yX2_hasText yX2_hasText ∈ TG := TG_in (List.mem_append_right _ (List.mem_of_getElem? (i := 422) (by decide +kernel))) (by decide +kernel)
theorem knX2_lengthOf : Cond.instanceMethod yX2_lengthOf ∈ TG := TG_in (List.mem_append_right _ (List.mem_of_getElem? (i := 425) (by decide +kernel))) (by decide +kernel)
theorem kvX2_lengthOf : Cond.selects yX2_lengthOf.cls yX2_lengthOf yX2_lengthOf ∈ TG := TG_in (List.mem_append_right _ (List.mem_of_getElem? (i := 426) (by decide +kernel))) (by decide +kernel)
theorem knX2_codeAt : Cond.instanceMethod yX2_codeAt ∈ TG := TG_in (List.mem_append_right _ (List.mem_of_getElem? (i := 429) (by decide +kernel))) (by decide +kernel)
theorem kvX2_codeAt : Cond.selects yX2_codeAt.cls yX2_codeAt yX2_codeAt ∈ TG := TG_in (List.mem_append_right _ (List.mem_of_getElem? (i := 430) (by decide +kernel))) (by decide +kernel)
theorem knX8_mark : Cond.instanceMethod yX8_mark ∈ TG := TG_in (List.mem_append_right _ (List.mem_of_getElem? (i := 433) (by decide +kernel))) (by decide +kernel)
theorem kvX8_mark : Cond.selects yX8_mark.cls yX8_mark yX8_mark ∈ TG := TG_in (List.mem_append_right _ (List.mem_of_getElem? (i := 434) (by decide +kernel))) (by decide +kernel)
theorem ksX8_isMark : Cond.static yX8_isMark ∈ TG := TG_in (List.mem_append_right _ (List.mem_of_getElem? (i := 437) (by decide +kernel))) (by decide +kernel)
theorem knX2_toggleMark : Cond.instanceMethod yX2_toggleMark ∈ TG := TG_in (List.mem_append_right _ (List.mem_of_getElem? (i := 440) (by decide +kernel))) (by decide +kernel)
theorem kvX2_toggleMark : Cond.selects yX2_toggleMark.cls yX2_toggleMark yX2_toggleMark ∈ TG := TG_in (List.mem_append_right _ (List.mem_of_getElem? (i := 441) (by decide +kernel))) (by decide +kernel)
theorem knX2_marksOf : Cond.instanceMethod yX2_marksOf ∈ TG := TG_in (List.mem_append_right _ (List.mem_of_getElem? (i := 445) (by decide +kernel))) (by decide +kernel)
theorem kvX2_marksOf : Cond.selects yX2_marksOf.cls yX2_marksOf yX2_marksOf ∈ TG := TG_in (List.mem_append_right _ (List.mem_of_getElem? (i := 446) (by decide +kernel))) (by decide +kernel)
theorem knX8_fold : Cond.instanceMethod yX8_fold ∈ TG := TG_in (List.mem_append_right _ (List.mem_of_getElem? (i := 449) (by decide +kernel))) (by decide +kernel)
theorem kvX8_fold : Cond.selects yX8_fold.cls yX8_fold yX8_fold ∈ TG := TG_in (List.mem_append_right _ (List.mem_of_getElem? (i := 450) (by decide +kernel))) (by decide +kernel)
theorem knX3_hasChildren : Cond.instanceMethod yX3_hasChildren ∈ TG := TG_in (List.mem_append_right _ (List.mem_of_getElem? (i := 453) (by decide +kernel))) (by decide +kernel)
theorem kvX3_hasChildren : Cond.selects yX3_hasChildren.cls yX3_hasChildren yX3_hasChildren ∈ TG := TG_in (List.mem_append_right _ (List.mem_of_getElem? (i := 454) (by decide +kernel))) (by decide +kernel)
theorem knX3_setFold : Cond.instanceMethod yX3_setFold ∈ TG := TG_in (List.mem_append_right _ (List.mem_of_getElem? (i := 458) (by decide +kernel))) (by decide +kernel)
theorem kvX3_setFold : Cond.selects yX3_setFold.cls yX3_setFold yX3_setFold ∈ TG := TG_in (List.mem_append_right _ (List.mem_of_getElem? (i := 459) (by decide +kernel))) (by decide +kernel)
theorem knX8_foldLevel : Cond.instanceMethod yX8_foldLevel ∈ TG := TG_in (List.mem_append_right _ (List.mem_of_getElem? (i := 462) (by decide +kernel))) (by decide +kernel)
theorem kvX8_foldLevel : Cond.selects yX8_foldLevel.cls yX8_foldLevel yX8_foldLevel ∈ TG := TG_in (List.mem_append_right _ (List.mem_of_getElem? (i := 463) (by decide +kernel))) (by decide +kernel)
theorem knX3_foldAtLevel : Cond.instanceMethod yX3_foldAtLevel ∈ TG := TG_in (List.mem_append_right _ (List.mem_of_getElem? (i := 466) (by decide +kernel))) (by decide +kernel)
theorem kvX3_foldAtLevel : Cond.selects yX3_foldAtLevel.cls yX3_foldAtLevel yX3_foldAtLevel ∈ TG := TG_in (List.mem_append_right _ (List.mem_of_getElem? (i := 467) (by decide +kernel))) (by decide +kernel)
theorem knX8_show : Cond.instanceMethod yX8_show ∈ TG := TG_in (List.mem_append_right _ (List.mem_of_getElem? (i := 471) (by decide +kernel))) (by decide +kernel)
theorem kvX8_show : Cond.selects yX8_show.cls yX8_show yX8_show ∈ TG := TG_in (List.mem_append_right _ (List.mem_of_getElem? (i := 472) (by decide +kernel))) (by decide +kernel)
theorem knX3_firstOf : Cond.instanceMethod yX3_firstOf ∈ TG := TG_in (List.mem_append_right _ (List.mem_of_getElem? (i := 475) (by decide +kernel))) (by decide +kernel)
theorem kvX3_firstOf : Cond.selects yX3_firstOf.cls yX3_firstOf yX3_firstOf ∈ TG := TG_in (List.mem_append_right _ (List.mem_of_getElem? (i := 476) (by decide +kernel))) (by decide +kernel)
theorem knX3_unfoldAround : Cond.instanceMethod yX3_unfoldAround ∈ TG := TG_in (List.mem_append_right _ (List.mem_of_getElem? (i := 479) (by decide +kernel))) (by decide +kernel)
theorem kvX3_unfoldAround : Cond.selects yX3_unfoldAround.cls yX3_unfoldAround yX3_unfoldAround ∈ TG := TG_in (List.mem_append_right _ (List.mem_of_getElem? (i := 480) (by decide +kernel))) (by decide +kernel)
theorem knX5_rowOf : Cond.instanceMethod yX5_rowOf ∈ TG := TG_in (List.mem_append_right _ (List.mem_of_getElem? (i := 483) (by decide +kernel))) (by decide +kernel)
theorem kvX5_rowOf : Cond.selects yX5_rowOf.cls yX5_rowOf yX5_rowOf ∈ TG := TG_in (List.mem_append_right _ (List.mem_of_getElem? (i := 484) (by decide +kernel))) (by decide +kernel)
theorem knX8_type : Cond.instanceMethod yX8_type ∈ TG := TG_in (List.mem_append_right _ (List.mem_of_getElem? (i := 487) (by decide +kernel))) (by decide +kernel)
theorem kvX8_type : Cond.selects yX8_type.cls yX8_type yX8_type ∈ TG := TG_in (List.mem_append_right _ (List.mem_of_getElem? (i := 488) (by decide +kernel))) (by decide +kernel)
theorem knX7_append : Cond.instanceMethod yX7_append ∈ TG := TG_in (List.mem_append_right _ (List.mem_of_getElem? (i := 491) (by decide +kernel))) (by decide +kernel)
theorem kvX7_append : Cond.selects yX7_append.cls yX7_append yX7_append ∈ TG := TG_in (List.mem_append_right _ (List.mem_of_getElem? (i := 492) (by decide +kernel))) (by decide +kernel)
theorem knX8_clearText : Cond.instanceMethod yX8_clearText ∈ TG := TG_in (List.mem_append_right _ (List.mem_of_getElem? (i := 495) (by decide +kernel))) (by decide +kernel)
theorem kvX8_clearText : Cond.selects yX8_clearText.cls yX8_clearText yX8_clearText ∈ TG := TG_in (List.mem_append_right _ (List.mem_of_getElem? (i := 496) (by decide +kernel))) (by decide +kernel)
theorem knX8_readOutline : Cond.instanceMethod yX8_readOutline ∈ TG := TG_in (List.mem_append_right _ (List.mem_of_getElem? (i := 499) (by decide +kernel))) (by decide +kernel)
theorem kvX8_readOutline : Cond.selects yX8_readOutline.cls yX8_readOutline yX8_readOutline ∈ TG := TG_in (List.mem_append_right _ (List.mem_of_getElem? (i := 500) (by decide +kernel))) (by decide +kernel)
theorem knX6_clearNodes : Cond.instanceMethod yX6_clearNodes ∈ TG := TG_in (List.mem_append_right _ (List.mem_of_getElem? (i := 503) (by decide +kernel))) (by decide +kernel)
theorem kvX6_clearNodes : Cond.selects yX6_clearNodes.cls yX6_clearNodes yX6_clearNodes ∈ TG := TG_in (List.mem_append_right _ (List.mem_of_getElem? (i := 504) (by decide +kernel))) (by decide +kernel)
theorem knX4_read : Cond.instanceMethod yX4_read ∈ TG := TG_in (List.mem_append_right _ (List.mem_of_getElem? (i := 507) (by decide +kernel))) (by decide +kernel)
theorem kvX4_read : Cond.selects yX4_read.cls yX4_read yX4_read ∈ TG := TG_in (List.mem_append_right _ (List.mem_of_getElem? (i := 508) (by decide +kernel))) (by decide +kernel)
theorem knX4_begin : Cond.instanceMethod yX4_begin ∈ TG := TG_in (List.mem_append_right _ (List.mem_of_getElem? (i := 512) (by decide +kernel))) (by decide +kernel)
theorem kvX4_begin : Cond.selects yX4_begin.cls yX4_begin yX4_begin ∈ TG := TG_in (List.mem_append_left _ (List.mem_of_getElem? (i := 7) (by decide +kernel))) (by decide +kernel)
theorem knX4_takeLetter : Cond.instanceMethod yX4_takeLetter ∈ TG := TG_in (List.mem_append_right _ (List.mem_of_getElem? (i := 517) (by decide +kernel))) (by decide +kernel)
theorem kvX4_takeLetter : Cond.selects yX4_takeLetter.cls yX4_takeLetter yX4_takeLetter ∈ TG := TG_in (List.mem_append_left _ (List.mem_of_getElem? (i := 8) (by decide +kernel))) (by decide +kernel)
theorem knX2_setLetter : Cond.instanceMethod yX2_setLetter ∈ TG := TG_in (List.mem_append_right _ (List.mem_of_getElem? (i := 521) (by decide +kernel))) (by decide +kernel)
theorem kvX2_setLetter : Cond.selects yX2_setLetter.cls yX2_setLetter yX2_setLetter ∈ TG := TG_in (List.mem_append_right _ (List.mem_of_getElem? (i := 522) (by decide +kernel))) (by decide +kernel)
theorem knX4_isOpen : Cond.instanceMethod yX4_isOpen ∈ TG := TG_in (List.mem_append_right _ (List.mem_of_getElem? (i := 526) (by decide +kernel))) (by decide +kernel)
theorem kvX4_isOpen : Cond.selects yX4_isOpen.cls yX4_isOpen yX4_isOpen ∈ TG := TG_in (List.mem_append_left _ (List.mem_of_getElem? (i := 9) (by decide +kernel))) (by decide +kernel)
theorem knX4_takeSign : Cond.instanceMethod yX4_takeSign ∈ TG := TG_in (List.mem_append_right _ (List.mem_of_getElem? (i := 532) (by decide +kernel))) (by decide +kernel)
theorem kvX4_takeSign : Cond.selects yX4_takeSign.cls yX4_takeSign yX4_takeSign ∈ TG := TG_in (List.mem_append_left _ (List.mem_of_getElem? (i := 10) (by decide +kernel))) (by decide +kernel)
theorem knX6_placeAnew : Cond.instanceMethod yX6_placeAnew ∈ TG := TG_in (List.mem_append_right _ (List.mem_of_getElem? (i := 535) (by decide +kernel))) (by decide +kernel)
theorem kvX6_placeAnew : Cond.selects yX6_placeAnew.cls yX6_placeAnew yX6_placeAnew ∈ TG := TG_in (List.mem_append_right _ (List.mem_of_getElem? (i := 536) (by decide +kernel))) (by decide +kernel)
theorem knX8_undo : Cond.instanceMethod yX8_undo ∈ TG := TG_in (List.mem_append_right _ (List.mem_of_getElem? (i := 539) (by decide +kernel))) (by decide +kernel)
theorem kvX8_undo : Cond.selects yX8_undo.cls yX8_undo yX8_undo ∈ TG := TG_in (List.mem_append_right _ (List.mem_of_getElem? (i := 540) (by decide +kernel))) (by decide +kernel)
theorem knX0_popInto : Cond.instanceMethod yX0_popInto ∈ TG := TG_in (List.mem_append_right _ (List.mem_of_getElem? (i := 543) (by decide +kernel))) (by decide +kernel)
theorem kvX0_popInto : Cond.selects yX0_popInto.cls yX0_popInto yX0_popInto ∈ TG := TG_in (List.mem_append_right _ (List.mem_of_getElem? (i := 544) (by decide +kernel))) (by decide +kernel)
theorem knX8_keep : Cond.instanceMethod yX8_keep ∈ TG := TG_in (List.mem_append_right _ (List.mem_of_getElem? (i := 547) (by decide +kernel))) (by decide +kernel)
theorem kvX8_keep : Cond.selects yX8_keep.cls yX8_keep yX8_keep ∈ TG := TG_in (List.mem_append_right _ (List.mem_of_getElem? (i := 548) (by decide +kernel))) (by decide +kernel)
theorem knX8_restore : Cond.instanceMethod yX8_restore ∈ TG := TG_in (List.mem_append_right _ (List.mem_of_getElem? (i := 551) (by decide +kernel))) (by decide +kernel)
theorem kvX8_restore : Cond.selects yX8_restore.cls yX8_restore yX8_restore ∈ TG := TG_in (List.mem_append_right _ (List.mem_of_getElem? (i := 552) (by decide +kernel))) (by decide +kernel)
theorem knX8_row : Cond.instanceMethod yX8_row ∈ TG := TG_in (List.mem_append_right _ (List.mem_of_getElem? (i := 555) (by decide +kernel))) (by decide +kernel)
theorem kvX8_row : Cond.selects yX8_row.cls yX8_row yX8_row ∈ TG := TG_in (List.mem_append_right _ (List.mem_of_getElem? (i := 556) (by decide +kernel))) (by decide +kernel)
theorem knX8_positionAt : Cond.instanceMethod yX8_positionAt ∈ TG := TG_in (List.mem_append_right _ (List.mem_of_getElem? (i := 561) (by decide +kernel))) (by decide +kernel)
theorem kvX8_positionAt : Cond.selects yX8_positionAt.cls yX8_positionAt yX8_positionAt ∈ TG := TG_in (List.mem_append_left _ (List.mem_of_getElem? (i := 11) (by decide +kernel))) (by decide +kernel)
theorem knX8_parentRow : Cond.instanceMethod yX8_parentRow ∈ TG := TG_in (List.mem_append_right _ (List.mem_of_getElem? (i := 565) (by decide +kernel))) (by decide +kernel)
theorem kvX8_parentRow : Cond.selects yX8_parentRow.cls yX8_parentRow yX8_parentRow ∈ TG := TG_in (List.mem_append_left _ (List.mem_of_getElem? (i := 12) (by decide +kernel))) (by decide +kernel)
theorem knX5_seenBetween : Cond.instanceMethod yX5_seenBetween ∈ TG := TG_in (List.mem_append_right _ (List.mem_of_getElem? (i := 569) (by decide +kernel))) (by decide +kernel)
theorem kvX5_seenBetween : Cond.selects yX5_seenBetween.cls yX5_seenBetween yX5_seenBetween ∈ TG := TG_in (List.mem_append_right _ (List.mem_of_getElem? (i := 570) (by decide +kernel))) (by decide +kernel)
theorem knX8_number : Cond.instanceMethod yX8_number ∈ TG := TG_in (List.mem_append_right _ (List.mem_of_getElem? (i := 574) (by decide +kernel))) (by decide +kernel)
theorem kvX8_number : Cond.selects yX8_number.cls yX8_number yX8_number ∈ TG := TG_in (List.mem_append_right _ (List.mem_of_getElem? (i := 575) (by decide +kernel))) (by decide +kernel)
theorem knX8_charAt : Cond.instanceMethod yX8_charAt ∈ TG := TG_in (List.mem_append_right _ (List.mem_of_getElem? (i := 579) (by decide +kernel))) (by decide +kernel)
theorem kvX8_charAt : Cond.selects yX8_charAt.cls yX8_charAt yX8_charAt ∈ TG := TG_in (List.mem_append_right _ (List.mem_of_getElem? (i := 580) (by decide +kernel))) (by decide +kernel)
theorem knX8_node : Cond.instanceMethod yX8_node ∈ TG := TG_in (List.mem_append_right _ (List.mem_of_getElem? (i := 585) (by decide +kernel))) (by decide +kernel)
theorem kvX8_node : Cond.selects yX8_node.cls yX8_node yX8_node ∈ TG := TG_in (List.mem_append_right _ (List.mem_of_getElem? (i := 586) (by decide +kernel))) (by decide +kernel)
theorem knX1_parentCount : Cond.instanceMethod yX1_parentCount ∈ TG := TG_in (List.mem_append_right _ (List.mem_of_getElem? (i := 589) (by decide +kernel))) (by decide +kernel)
theorem kvX1_parentCount : Cond.selects yX1_parentCount.cls yX1_parentCount yX1_parentCount ∈ TG := TG_in (List.mem_append_right _ (List.mem_of_getElem? (i := 590) (by decide +kernel))) (by decide +kernel)
theorem knX5_seenOf : Cond.instanceMethod yX5_seenOf ∈ TG := TG_in (List.mem_append_right _ (List.mem_of_getElem? (i := 593) (by decide +kernel))) (by decide +kernel)
theorem kvX5_seenOf : Cond.selects yX5_seenOf.cls yX5_seenOf yX5_seenOf ∈ TG := TG_in (List.mem_append_right _ (List.mem_of_getElem? (i := 594) (by decide +kernel))) (by decide +kernel)
theorem knX5_firstOf : Cond.instanceMethod yX5_firstOf ∈ TG := TG_in (List.mem_append_right _ (List.mem_of_getElem? (i := 598) (by decide +kernel))) (by decide +kernel)
theorem kvX5_firstOf : Cond.selects yX5_firstOf.cls yX5_firstOf yX5_firstOf ∈ TG := TG_in (List.mem_append_right _ (List.mem_of_getElem? (i := 599) (by decide +kernel))) (by decide +kernel)
theorem knX8_nextMarked : Cond.instanceMethod yX8_nextMarked ∈ TG := TG_in (List.mem_append_right _ (List.mem_of_getElem? (i := 603) (by decide +kernel))) (by decide +kernel)
theorem kvX8_nextMarked : Cond.selects yX8_nextMarked.cls yX8_nextMarked yX8_nextMarked ∈ TG := TG_in (List.mem_append_right _ (List.mem_of_getElem? (i := 604) (by decide +kernel))) (by decide +kernel)
theorem knX8_find : Cond.instanceMethod yX8_find ∈ TG := TG_in (List.mem_append_right _ (List.mem_of_getElem? (i := 607) (by decide +kernel))) (by decide +kernel)
theorem kvX8_find : Cond.selects yX8_find.cls yX8_find yX8_find ∈ TG := TG_in (List.mem_append_right _ (List.mem_of_getElem? (i := 608) (by decide +kernel))) (by decide +kernel)
theorem knX8_count : Cond.instanceMethod yX8_count ∈ TG := TG_in (List.mem_append_right _ (List.mem_of_getElem? (i := 611) (by decide +kernel))) (by decide +kernel)
theorem kvX8_count : Cond.selects yX8_count.cls yX8_count yX8_count ∈ TG := TG_in (List.mem_append_right _ (List.mem_of_getElem? (i := 612) (by decide +kernel))) (by decide +kernel)
theorem knX3_foldedCount : Cond.instanceMethod yX3_foldedCount ∈ TG := TG_in (List.mem_append_right _ (List.mem_of_getElem? (i := 615) (by decide +kernel))) (by decide +kernel)
theorem kvX3_foldedCount : Cond.selects yX3_foldedCount.cls yX3_foldedCount yX3_foldedCount ∈ TG := TG_in (List.mem_append_right _ (List.mem_of_getElem? (i := 616) (by decide +kernel))) (by decide +kernel)
theorem knX1_sharedCount : Cond.instanceMethod yX1_sharedCount ∈ TG := TG_in (List.mem_append_right _ (List.mem_of_getElem? (i := 619) (by decide +kernel))) (by decide +kernel)
theorem kvX1_sharedCount : Cond.selects yX1_sharedCount.cls yX1_sharedCount yX1_sharedCount ∈ TG := TG_in (List.mem_append_right _ (List.mem_of_getElem? (i := 620) (by decide +kernel))) (by decide +kernel)
theorem knX3_greatestLevel : Cond.instanceMethod yX3_greatestLevel ∈ TG := TG_in (List.mem_append_right _ (List.mem_of_getElem? (i := 624) (by decide +kernel))) (by decide +kernel)
theorem kvX3_greatestLevel : Cond.selects yX3_greatestLevel.cls yX3_greatestLevel yX3_greatestLevel ∈ TG := TG_in (List.mem_append_right _ (List.mem_of_getElem? (i := 625) (by decide +kernel))) (by decide +kernel)
theorem knX9_init : Cond.instanceMethod yX9_init ∈ TG := TG_in (List.mem_append_right _ (List.mem_of_getElem? (i := 630) (by decide +kernel))) (by decide +kernel)
theorem knX9_add : Cond.instanceMethod yX9_add ∈ TG := TG_in (List.mem_append_right _ (List.mem_of_getElem? (i := 697) (by decide +kernel))) (by decide +kernel)
theorem kvX9_add : Cond.selects yX9_add.cls yX9_add yX9_add ∈ TG := TG_in (List.mem_append_right _ (List.mem_of_getElem? (i := 698) (by decide +kernel))) (by decide +kernel)
theorem knX9_nodeOf : Cond.instanceMethod yX9_nodeOf ∈ TG := TG_in (List.mem_append_right _ (List.mem_of_getElem? (i := 702) (by decide +kernel))) (by decide +kernel)
theorem kvX9_nodeOf : Cond.selects yX9_nodeOf.cls yX9_nodeOf yX9_nodeOf ∈ TG := TG_in (List.mem_append_left _ (List.mem_of_getElem? (i := 13) (by decide +kernel))) (by decide +kernel)
theorem knX9_placeOf : Cond.instanceMethod yX9_placeOf ∈ TG := TG_in (List.mem_append_right _ (List.mem_of_getElem? (i := 706) (by decide +kernel))) (by decide +kernel)
theorem kvX9_placeOf : Cond.selects yX9_placeOf.cls yX9_placeOf yX9_placeOf ∈ TG := TG_in (List.mem_append_left _ (List.mem_of_getElem? (i := 14) (by decide +kernel))) (by decide +kernel)
theorem knX9_isSeen : Cond.instanceMethod yX9_isSeen ∈ TG := TG_in (List.mem_append_right _ (List.mem_of_getElem? (i := 710) (by decide +kernel))) (by decide +kernel)
theorem kvX9_isSeen : Cond.selects yX9_isSeen.cls yX9_isSeen yX9_isSeen ∈ TG := TG_in (List.mem_append_left _ (List.mem_of_getElem? (i := 15) (by decide +kernel))) (by decide +kernel)
theorem knX9_at : Cond.instanceMethod yX9_at ∈ TG := TG_in (List.mem_append_right _ (List.mem_of_getElem? (i := 714) (by decide +kernel))) (by decide +kernel)
theorem kvX9_at : Cond.selects yX9_at.cls yX9_at yX9_at ∈ TG := TG_in (List.mem_append_left _ (List.mem_of_getElem? (i := 16) (by decide +kernel))) (by decide +kernel)
theorem ksX9_in : Cond.static yX9_in ∈ TG := TG_in (List.mem_append_right _ (List.mem_of_getElem? (i := 717) (by decide +kernel))) (by decide +kernel)
theorem knX9_takeSpare : Cond.instanceMethod yX9_takeSpare ∈ TG := TG_in (List.mem_append_right _ (List.mem_of_getElem? (i := 721) (by decide +kernel))) (by decide +kernel)
theorem kvX9_takeSpare : Cond.selects yX9_takeSpare.cls yX9_takeSpare yX9_takeSpare ∈ TG := TG_in (List.mem_append_left _ (List.mem_of_getElem? (i := 17) (by decide +kernel))) (by decide +kernel)
theorem knX9_make : Cond.instanceMethod yX9_make ∈ TG := TG_in (List.mem_append_right _ (List.mem_of_getElem? (i := 725) (by decide +kernel))) (by decide +kernel)
theorem kvX9_make : Cond.selects yX9_make.cls yX9_make yX9_make ∈ TG := TG_in (List.mem_append_left _ (List.mem_of_getElem? (i := 18) (by decide +kernel))) (by decide +kernel)
theorem knX9_to : Cond.instanceMethod yX9_to ∈ TG := TG_in (List.mem_append_right _ (List.mem_of_getElem? (i := 729) (by decide +kernel))) (by decide +kernel)
theorem kvX9_to : Cond.selects yX9_to.cls yX9_to yX9_to ∈ TG := TG_in (List.mem_append_left _ (List.mem_of_getElem? (i := 19) (by decide +kernel))) (by decide +kernel)
theorem knX9_writeText : Cond.instanceMethod yX9_writeText ∈ TG := TG_in (List.mem_append_right _ (List.mem_of_getElem? (i := 733) (by decide +kernel))) (by decide +kernel)
theorem kvX9_writeText : Cond.selects yX9_writeText.cls yX9_writeText yX9_writeText ∈ TG := TG_in (List.mem_append_left _ (List.mem_of_getElem? (i := 20) (by decide +kernel))) (by decide +kernel)
theorem knX9_addKid : Cond.instanceMethod yX9_addKid ∈ TG := TG_in (List.mem_append_right _ (List.mem_of_getElem? (i := 737) (by decide +kernel))) (by decide +kernel)
theorem kvX9_addKid : Cond.selects yX9_addKid.cls yX9_addKid yX9_addKid ∈ TG := TG_in (List.mem_append_left _ (List.mem_of_getElem? (i := 21) (by decide +kernel))) (by decide +kernel)
theorem knX9_of : Cond.instanceMethod yX9_of ∈ TG := TG_in (List.mem_append_right _ (List.mem_of_getElem? (i := 741) (by decide +kernel))) (by decide +kernel)
theorem kvX9_of : Cond.selects yX9_of.cls yX9_of yX9_of ∈ TG := TG_in (List.mem_append_left _ (List.mem_of_getElem? (i := 22) (by decide +kernel))) (by decide +kernel)
theorem knX9_layPlaces : Cond.instanceMethod yX9_layPlaces ∈ TG := TG_in (List.mem_append_right _ (List.mem_of_getElem? (i := 745) (by decide +kernel))) (by decide +kernel)
theorem kvX9_layPlaces : Cond.selects yX9_layPlaces.cls yX9_layPlaces yX9_layPlaces ∈ TG := TG_in (List.mem_append_left _ (List.mem_of_getElem? (i := 23) (by decide +kernel))) (by decide +kernel)
theorem knX9_kid : Cond.instanceMethod yX9_kid ∈ TG := TG_in (List.mem_append_right _ (List.mem_of_getElem? (i := 749) (by decide +kernel))) (by decide +kernel)
theorem kvX9_kid : Cond.selects yX9_kid.cls yX9_kid yX9_kid ∈ TG := TG_in (List.mem_append_left _ (List.mem_of_getElem? (i := 24) (by decide +kernel))) (by decide +kernel)
theorem knX9_spareChild : Cond.instanceMethod yX9_spareChild ∈ TG := TG_in (List.mem_append_right _ (List.mem_of_getElem? (i := 753) (by decide +kernel))) (by decide +kernel)
theorem kvX9_spareChild : Cond.selects yX9_spareChild.cls yX9_spareChild yX9_spareChild ∈ TG := TG_in (List.mem_append_left _ (List.mem_of_getElem? (i := 25) (by decide +kernel))) (by decide +kernel)
theorem knX9_spareAt : Cond.instanceMethod yX9_spareAt ∈ TG := TG_in (List.mem_append_right _ (List.mem_of_getElem? (i := 757) (by decide +kernel))) (by decide +kernel)
theorem kvX9_spareAt : Cond.selects yX9_spareAt.cls yX9_spareAt yX9_spareAt ∈ TG := TG_in (List.mem_append_left _ (List.mem_of_getElem? (i := 26) (by decide +kernel))) (by decide +kernel)
theorem knX9_putBack : Cond.instanceMethod yX9_putBack ∈ TG := TG_in (List.mem_append_right _ (List.mem_of_getElem? (i := 761) (by decide +kernel))) (by decide +kernel)
theorem kvX9_putBack : Cond.selects yX9_putBack.cls yX9_putBack yX9_putBack ∈ TG := TG_in (List.mem_append_left _ (List.mem_of_getElem? (i := 27) (by decide +kernel))) (by decide +kernel)
theorem knX9_record : Cond.instanceMethod yX9_record ∈ TG := TG_in (List.mem_append_right _ (List.mem_of_getElem? (i := 765) (by decide +kernel))) (by decide +kernel)
theorem kvX9_record : Cond.selects yX9_record.cls yX9_record yX9_record ∈ TG := TG_in (List.mem_append_left _ (List.mem_of_getElem? (i := 28) (by decide +kernel))) (by decide +kernel)
theorem knX9_cloneTo : Cond.instanceMethod yX9_cloneTo ∈ TG := TG_in (List.mem_append_right _ (List.mem_of_getElem? (i := 768) (by decide +kernel))) (by decide +kernel)
theorem kvX9_cloneTo : Cond.selects yX9_cloneTo.cls yX9_cloneTo yX9_cloneTo ∈ TG := TG_in (List.mem_append_right _ (List.mem_of_getElem? (i := 769) (by decide +kernel))) (by decide +kernel)
theorem knX9_mayStand : Cond.instanceMethod yX9_mayStand ∈ TG := TG_in (List.mem_append_right _ (List.mem_of_getElem? (i := 773) (by decide +kernel))) (by decide +kernel)
theorem kvX9_mayStand : Cond.selects yX9_mayStand.cls yX9_mayStand yX9_mayStand ∈ TG := TG_in (List.mem_append_left _ (List.mem_of_getElem? (i := 29) (by decide +kernel))) (by decide +kernel)
theorem knX9_layWithin : Cond.instanceMethod yX9_layWithin ∈ TG := TG_in (List.mem_append_right _ (List.mem_of_getElem? (i := 777) (by decide +kernel))) (by decide +kernel)
theorem kvX9_layWithin : Cond.selects yX9_layWithin.cls yX9_layWithin yX9_layWithin ∈ TG := TG_in (List.mem_append_left _ (List.mem_of_getElem? (i := 30) (by decide +kernel))) (by decide +kernel)
theorem knX9_position : Cond.instanceMethod yX9_position ∈ TG := TG_in (List.mem_append_right _ (List.mem_of_getElem? (i := 781) (by decide +kernel))) (by decide +kernel)
theorem kvX9_position : Cond.selects yX9_position.cls yX9_position yX9_position ∈ TG := TG_in (List.mem_append_left _ (List.mem_of_getElem? (i := 31) (by decide +kernel))) (by decide +kernel)
theorem knX9_placesOf : Cond.instanceMethod yX9_placesOf ∈ TG := TG_in (List.mem_append_right _ (List.mem_of_getElem? (i := 785) (by decide +kernel))) (by decide +kernel)
theorem kvX9_placesOf : Cond.selects yX9_placesOf.cls yX9_placesOf yX9_placesOf ∈ TG := TG_in (List.mem_append_left _ (List.mem_of_getElem? (i := 32) (by decide +kernel))) (by decide +kernel)
theorem knX9_move : Cond.instanceMethod yX9_move ∈ TG := TG_in (List.mem_append_right _ (List.mem_of_getElem? (i := 788) (by decide +kernel))) (by decide +kernel)
theorem kvX9_move : Cond.selects yX9_move.cls yX9_move yX9_move ∈ TG := TG_in (List.mem_append_right _ (List.mem_of_getElem? (i := 789) (by decide +kernel))) (by decide +kernel)
theorem knX9_parent : Cond.instanceMethod yX9_parent ∈ TG := TG_in (List.mem_append_right _ (List.mem_of_getElem? (i := 793) (by decide +kernel))) (by decide +kernel)
theorem kvX9_parent : Cond.selects yX9_parent.cls yX9_parent yX9_parent ∈ TG := TG_in (List.mem_append_left _ (List.mem_of_getElem? (i := 33) (by decide +kernel))) (by decide +kernel)
theorem knX9_around : Cond.instanceMethod yX9_around ∈ TG := TG_in (List.mem_append_right _ (List.mem_of_getElem? (i := 797) (by decide +kernel))) (by decide +kernel)
theorem kvX9_around : Cond.selects yX9_around.cls yX9_around yX9_around ∈ TG := TG_in (List.mem_append_left _ (List.mem_of_getElem? (i := 34) (by decide +kernel))) (by decide +kernel)
theorem knX9_takeKid : Cond.instanceMethod yX9_takeKid ∈ TG := TG_in (List.mem_append_right _ (List.mem_of_getElem? (i := 801) (by decide +kernel))) (by decide +kernel)
theorem kvX9_takeKid : Cond.selects yX9_takeKid.cls yX9_takeKid yX9_takeKid ∈ TG := TG_in (List.mem_append_left _ (List.mem_of_getElem? (i := 35) (by decide +kernel))) (by decide +kernel)
theorem knX9_cut : Cond.instanceMethod yX9_cut ∈ TG := TG_in (List.mem_append_right _ (List.mem_of_getElem? (i := 804) (by decide +kernel))) (by decide +kernel)
theorem kvX9_cut : Cond.selects yX9_cut.cls yX9_cut yX9_cut ∈ TG := TG_in (List.mem_append_right _ (List.mem_of_getElem? (i := 805) (by decide +kernel))) (by decide +kernel)
theorem knX9_shift : Cond.instanceMethod yX9_shift ∈ TG := TG_in (List.mem_append_right _ (List.mem_of_getElem? (i := 808) (by decide +kernel))) (by decide +kernel)
theorem kvX9_shift : Cond.selects yX9_shift.cls yX9_shift yX9_shift ∈ TG := TG_in (List.mem_append_right _ (List.mem_of_getElem? (i := 809) (by decide +kernel))) (by decide +kernel)
theorem knX9_edit : Cond.instanceMethod yX9_edit ∈ TG := TG_in (List.mem_append_right _ (List.mem_of_getElem? (i := 812) (by decide +kernel))) (by decide +kernel)
theorem kvX9_edit : Cond.selects yX9_edit.cls yX9_edit yX9_edit ∈ TG := TG_in (List.mem_append_right _ (List.mem_of_getElem? (i := 813) (by decide +kernel))) (by decide +kernel)
theorem knX9_hasText : Cond.instanceMethod yX9_hasText ∈ TG := TG_in (List.mem_append_right _ (List.mem_of_getElem? (i := 817) (by decide +kernel))) (by decide +kernel)
theorem kvX9_hasText : Cond.selects yX9_hasText.cls yX9_hasText yX9_hasText ∈ TG := TG_in (List.mem_append_left _ (List.mem_of_getElem? (i := 36) (by decide +kernel))) (by decide +kernel)
theorem knX9_mark : Cond.instanceMethod yX9_mark ∈ TG := TG_in (List.mem_append_right _ (List.mem_of_getElem? (i := 820) (by decide +kernel))) (by decide +kernel)
theorem kvX9_mark : Cond.selects yX9_mark.cls yX9_mark yX9_mark ∈ TG := TG_in (List.mem_append_right _ (List.mem_of_getElem? (i := 821) (by decide +kernel))) (by decide +kernel)
theorem knX9_fold : Cond.instanceMethod yX9_fold ∈ TG := TG_in (List.mem_append_right _ (List.mem_of_getElem? (i := 824) (by decide +kernel))) (by decide +kernel)
theorem kvX9_fold : Cond.selects yX9_fold.cls yX9_fold yX9_fold ∈ TG := TG_in (List.mem_append_right _ (List.mem_of_getElem? (i := 825) (by decide +kernel))) (by decide +kernel)
theorem knX9_hasKids : Cond.instanceMethod yX9_hasKids ∈ TG := TG_in (List.mem_append_right _ (List.mem_of_getElem? (i := 829) (by decide +kernel))) (by decide +kernel)
theorem kvX9_hasKids : Cond.selects yX9_hasKids.cls yX9_hasKids yX9_hasKids ∈ TG := TG_in (List.mem_append_left _ (List.mem_of_getElem? (i := 37) (by decide +kernel))) (by decide +kernel)
theorem knX9_rows : Cond.instanceMethod yX9_rows ∈ TG := TG_in (List.mem_append_right _ (List.mem_of_getElem? (i := 833) (by decide +kernel))) (by decide +kernel)
theorem kvX9_rows : Cond.selects yX9_rows.cls yX9_rows yX9_rows ∈ TG := TG_in (List.mem_append_left _ (List.mem_of_getElem? (i := 38) (by decide +kernel))) (by decide +kernel)
theorem knX9_foldLevel : Cond.instanceMethod yX9_foldLevel ∈ TG := TG_in (List.mem_append_right _ (List.mem_of_getElem? (i := 836) (by decide +kernel))) (by decide +kernel)
theorem kvX9_foldLevel : Cond.selects yX9_foldLevel.cls yX9_foldLevel yX9_foldLevel ∈ TG := TG_in (List.mem_append_right _ (List.mem_of_getElem? (i := 837) (by decide +kernel))) (by decide +kernel)
theorem knX9_show : Cond.instanceMethod yX9_show ∈ TG := TG_in (List.mem_append_right _ (List.mem_of_getElem? (i := 840) (by decide +kernel))) (by decide +kernel)
theorem kvX9_show : Cond.selects yX9_show.cls yX9_show yX9_show ∈ TG := TG_in (List.mem_append_right _ (List.mem_of_getElem? (i := 841) (by decide +kernel))) (by decide +kernel)
theorem knX9_isNode : Cond.instanceMethod yX9_isNode ∈ TG := TG_in (List.mem_append_right _ (List.mem_of_getElem? (i := 845) (by decide +kernel))) (by decide +kernel)
theorem kvX9_isNode : Cond.selects yX9_isNode.cls yX9_isNode yX9_isNode ∈ TG := TG_in (List.mem_append_left _ (List.mem_of_getElem? (i := 39) (by decide +kernel))) (by decide +kernel)
theorem knX9_firstPlace : Cond.instanceMethod yX9_firstPlace ∈ TG := TG_in (List.mem_append_right _ (List.mem_of_getElem? (i := 849) (by decide +kernel))) (by decide +kernel)
theorem kvX9_firstPlace : Cond.selects yX9_firstPlace.cls yX9_firstPlace yX9_firstPlace ∈ TG := TG_in (List.mem_append_left _ (List.mem_of_getElem? (i := 40) (by decide +kernel))) (by decide +kernel)
theorem knX9_rowOf : Cond.instanceMethod yX9_rowOf ∈ TG := TG_in (List.mem_append_right _ (List.mem_of_getElem? (i := 853) (by decide +kernel))) (by decide +kernel)
theorem kvX9_rowOf : Cond.selects yX9_rowOf.cls yX9_rowOf yX9_rowOf ∈ TG := TG_in (List.mem_append_left _ (List.mem_of_getElem? (i := 41) (by decide +kernel))) (by decide +kernel)
theorem knX9_type : Cond.instanceMethod yX9_type ∈ TG := TG_in (List.mem_append_right _ (List.mem_of_getElem? (i := 856) (by decide +kernel))) (by decide +kernel)
theorem kvX9_type : Cond.selects yX9_type.cls yX9_type yX9_type ∈ TG := TG_in (List.mem_append_right _ (List.mem_of_getElem? (i := 857) (by decide +kernel))) (by decide +kernel)
theorem knX9_clearText : Cond.instanceMethod yX9_clearText ∈ TG := TG_in (List.mem_append_right _ (List.mem_of_getElem? (i := 860) (by decide +kernel))) (by decide +kernel)
theorem kvX9_clearText : Cond.selects yX9_clearText.cls yX9_clearText yX9_clearText ∈ TG := TG_in (List.mem_append_right _ (List.mem_of_getElem? (i := 861) (by decide +kernel))) (by decide +kernel)
theorem knX9_readOutline : Cond.instanceMethod yX9_readOutline ∈ TG := TG_in (List.mem_append_right _ (List.mem_of_getElem? (i := 864) (by decide +kernel))) (by decide +kernel)
theorem kvX9_readOutline : Cond.selects yX9_readOutline.cls yX9_readOutline yX9_readOutline ∈ TG := TG_in (List.mem_append_right _ (List.mem_of_getElem? (i := 865) (by decide +kernel))) (by decide +kernel)
theorem knX9_readsFault : Cond.instanceMethod yX9_readsFault ∈ TG := TG_in (List.mem_append_right _ (List.mem_of_getElem? (i := 869) (by decide +kernel))) (by decide +kernel)
theorem kvX9_readsFault : Cond.selects yX9_readsFault.cls yX9_readsFault yX9_readsFault ∈ TG := TG_in (List.mem_append_left _ (List.mem_of_getElem? (i := 42) (by decide +kernel))) (by decide +kernel)
theorem knX9_isOpen : Cond.instanceMethod yX9_isOpen ∈ TG := TG_in (List.mem_append_right _ (List.mem_of_getElem? (i := 873) (by decide +kernel))) (by decide +kernel)
theorem kvX9_isOpen : Cond.selects yX9_isOpen.cls yX9_isOpen yX9_isOpen ∈ TG := TG_in (List.mem_append_left _ (List.mem_of_getElem? (i := 43) (by decide +kernel))) (by decide +kernel)
theorem knX9_stands : Cond.instanceMethod yX9_stands ∈ TG := TG_in (List.mem_append_right _ (List.mem_of_getElem? (i := 877) (by decide +kernel))) (by decide +kernel)
theorem kvX9_stands : Cond.selects yX9_stands.cls yX9_stands yX9_stands ∈ TG := TG_in (List.mem_append_left _ (List.mem_of_getElem? (i := 44) (by decide +kernel))) (by decide +kernel)
theorem knX9_undo : Cond.instanceMethod yX9_undo ∈ TG := TG_in (List.mem_append_right _ (List.mem_of_getElem? (i := 880) (by decide +kernel))) (by decide +kernel)
theorem kvX9_undo : Cond.selects yX9_undo.cls yX9_undo yX9_undo ∈ TG := TG_in (List.mem_append_right _ (List.mem_of_getElem? (i := 881) (by decide +kernel))) (by decide +kernel)
theorem knX9_keep : Cond.instanceMethod yX9_keep ∈ TG := TG_in (List.mem_append_right _ (List.mem_of_getElem? (i := 884) (by decide +kernel))) (by decide +kernel)
theorem kvX9_keep : Cond.selects yX9_keep.cls yX9_keep yX9_keep ∈ TG := TG_in (List.mem_append_right _ (List.mem_of_getElem? (i := 885) (by decide +kernel))) (by decide +kernel)
theorem knX9_restore : Cond.instanceMethod yX9_restore ∈ TG := TG_in (List.mem_append_right _ (List.mem_of_getElem? (i := 888) (by decide +kernel))) (by decide +kernel)
theorem kvX9_restore : Cond.selects yX9_restore.cls yX9_restore yX9_restore ∈ TG := TG_in (List.mem_append_right _ (List.mem_of_getElem? (i := 889) (by decide +kernel))) (by decide +kernel)
theorem knX9_row : Cond.instanceMethod yX9_row ∈ TG := TG_in (List.mem_append_right _ (List.mem_of_getElem? (i := 892) (by decide +kernel))) (by decide +kernel)
theorem kvX9_row : Cond.selects yX9_row.cls yX9_row yX9_row ∈ TG := TG_in (List.mem_append_right _ (List.mem_of_getElem? (i := 893) (by decide +kernel))) (by decide +kernel)
theorem knX9_rowsWithin : Cond.instanceMethod yX9_rowsWithin ∈ TG := TG_in (List.mem_append_right _ (List.mem_of_getElem? (i := 897) (by decide +kernel))) (by decide +kernel)
theorem kvX9_rowsWithin : Cond.selects yX9_rowsWithin.cls yX9_rowsWithin yX9_rowsWithin ∈ TG := TG_in (List.mem_append_left _ (List.mem_of_getElem? (i := 45) (by decide +kernel))) (by decide +kernel)
theorem knX9_number : Cond.instanceMethod yX9_number ∈ TG := TG_in (List.mem_append_right _ (List.mem_of_getElem? (i := 900) (by decide +kernel))) (by decide +kernel)
theorem kvX9_number : Cond.selects yX9_number.cls yX9_number yX9_number ∈ TG := TG_in (List.mem_append_right _ (List.mem_of_getElem? (i := 901) (by decide +kernel))) (by decide +kernel)
theorem knX9_charAt : Cond.instanceMethod yX9_charAt ∈ TG := TG_in (List.mem_append_right _ (List.mem_of_getElem? (i := 904) (by decide +kernel))) (by decide +kernel)
theorem kvX9_charAt : Cond.selects yX9_charAt.cls yX9_charAt yX9_charAt ∈ TG := TG_in (List.mem_append_right _ (List.mem_of_getElem? (i := 905) (by decide +kernel))) (by decide +kernel)
theorem knX9_node : Cond.instanceMethod yX9_node ∈ TG := TG_in (List.mem_append_right _ (List.mem_of_getElem? (i := 908) (by decide +kernel))) (by decide +kernel)
theorem kvX9_node : Cond.selects yX9_node.cls yX9_node yX9_node ∈ TG := TG_in (List.mem_append_right _ (List.mem_of_getElem? (i := 909) (by decide +kernel))) (by decide +kernel)
theorem knX9_parents : Cond.instanceMethod yX9_parents ∈ TG := TG_in (List.mem_append_right _ (List.mem_of_getElem? (i := 913) (by decide +kernel))) (by decide +kernel)
theorem kvX9_parents : Cond.selects yX9_parents.cls yX9_parents yX9_parents ∈ TG := TG_in (List.mem_append_left _ (List.mem_of_getElem? (i := 46) (by decide +kernel))) (by decide +kernel)
theorem knX9_seenPlaces : Cond.instanceMethod yX9_seenPlaces ∈ TG := TG_in (List.mem_append_right _ (List.mem_of_getElem? (i := 917) (by decide +kernel))) (by decide +kernel)
theorem kvX9_seenPlaces : Cond.selects yX9_seenPlaces.cls yX9_seenPlaces yX9_seenPlaces ∈ TG := TG_in (List.mem_append_left _ (List.mem_of_getElem? (i := 47) (by decide +kernel))) (by decide +kernel)
theorem knX9_firstRow : Cond.instanceMethod yX9_firstRow ∈ TG := TG_in (List.mem_append_right _ (List.mem_of_getElem? (i := 921) (by decide +kernel))) (by decide +kernel)
theorem kvX9_firstRow : Cond.selects yX9_firstRow.cls yX9_firstRow yX9_firstRow ∈ TG := TG_in (List.mem_append_left _ (List.mem_of_getElem? (i := 48) (by decide +kernel))) (by decide +kernel)
theorem knX9_nextMarked : Cond.instanceMethod yX9_nextMarked ∈ TG := TG_in (List.mem_append_right _ (List.mem_of_getElem? (i := 924) (by decide +kernel))) (by decide +kernel)
theorem kvX9_nextMarked : Cond.selects yX9_nextMarked.cls yX9_nextMarked yX9_nextMarked ∈ TG := TG_in (List.mem_append_right _ (List.mem_of_getElem? (i := 925) (by decide +kernel))) (by decide +kernel)
theorem knX9_find : Cond.instanceMethod yX9_find ∈ TG := TG_in (List.mem_append_right _ (List.mem_of_getElem? (i := 928) (by decide +kernel))) (by decide +kernel)
theorem kvX9_find : Cond.selects yX9_find.cls yX9_find yX9_find ∈ TG := TG_in (List.mem_append_right _ (List.mem_of_getElem? (i := 929) (by decide +kernel))) (by decide +kernel)
theorem knX9_count : Cond.instanceMethod yX9_count ∈ TG := TG_in (List.mem_append_right _ (List.mem_of_getElem? (i := 932) (by decide +kernel))) (by decide +kernel)
theorem kvX9_count : Cond.selects yX9_count.cls yX9_count yX9_count ∈ TG := TG_in (List.mem_append_right _ (List.mem_of_getElem? (i := 933) (by decide +kernel))) (by decide +kernel)
theorem knX9_nodes : Cond.instanceMethod yX9_nodes ∈ TG := TG_in (List.mem_append_right _ (List.mem_of_getElem? (i := 937) (by decide +kernel))) (by decide +kernel)
theorem kvX9_nodes : Cond.selects yX9_nodes.cls yX9_nodes yX9_nodes ∈ TG := TG_in (List.mem_append_left _ (List.mem_of_getElem? (i := 49) (by decide +kernel))) (by decide +kernel)
theorem knX9_foldedPlaces : Cond.instanceMethod yX9_foldedPlaces ∈ TG := TG_in (List.mem_append_right _ (List.mem_of_getElem? (i := 941) (by decide +kernel))) (by decide +kernel)
theorem kvX9_foldedPlaces : Cond.selects yX9_foldedPlaces.cls yX9_foldedPlaces yX9_foldedPlaces ∈ TG := TG_in (List.mem_append_left _ (List.mem_of_getElem? (i := 50) (by decide +kernel))) (by decide +kernel)
theorem knX9_greatestLevel : Cond.instanceMethod yX9_greatestLevel ∈ TG := TG_in (List.mem_append_right _ (List.mem_of_getElem? (i := 945) (by decide +kernel))) (by decide +kernel)
theorem kvX9_greatestLevel : Cond.selects yX9_greatestLevel.cls yX9_greatestLevel yX9_greatestLevel ∈ TG := TG_in (List.mem_append_left _ (List.mem_of_getElem? (i := 51) (by decide +kernel))) (by decide +kernel)
theorem lL_9 : MI RL 9 mX8_init 0 := ⟨⟨TG_in (List.mem_append_right _ (List.mem_of_getElem? (i := 16) (by decide +kernel))) (by decide +kernel), kiX8, kcX8_init, ⟨by decide +kernel, by decide +kernel⟩, by decide +kernel⟩, knX8_init, rfl, rfl⟩
theorem oiX8 : Cond.methodLink RX8 1 objectInit ∈ TG := TG_in (List.mem_append_right _ (List.mem_of_getElem? (i := 19) (by decide +kernel))) (by decide +kernel)
theorem lX8_9 : MIn RX8 9 mX7_init 0 := ⟨⟨(by decide +kernel), kiX7, kcX7_init, ⟨by decide +kernel, by decide +kernel⟩, by decide +kernel⟩, knX7_init, rfl, rfl⟩
theorem oiX7 : Cond.methodLink RX7 3 objectInit ∈ TG := TG_in (List.mem_append_right _ (List.mem_of_getElem? (i := 27) (by decide +kernel))) (by decide +kernel)
theorem lX8_18 : MIn RX8 18 mX4_init 0 := ⟨⟨(by decide +kernel), kiX4, kcX4_init, ⟨by decide +kernel, by decide +kernel⟩, by decide +kernel⟩, knX4_init, rfl, rfl⟩
theorem oiX4 : Cond.methodLink RX4 3 objectInit ∈ TG := TG_in (List.mem_append_right _ (List.mem_of_getElem? (i := 44) (by decide +kernel))) (by decide +kernel)
theorem lX8_25 : MIn RX8 25 mX5_init 0 := ⟨⟨(by decide +kernel), kiX5, kcX5_init, ⟨by decide +kernel, by decide +kernel⟩, by decide +kernel⟩, knX5_init, rfl, rfl⟩
theorem oiX5 : Cond.methodLink RX5 3 objectInit ∈ TG := TG_in (List.mem_append_right _ (List.mem_of_getElem? (i := 66) (by decide +kernel))) (by decide +kernel)
theorem lX8_32 : MI RX8 32 mX0_init 0 := ⟨⟨TG_in (List.mem_append_right _ (List.mem_of_getElem? (i := 80) (by decide +kernel))) (by decide +kernel), kiX0, kcX0_init, ⟨by decide +kernel, by decide +kernel⟩, by decide +kernel⟩, knX0_init, rfl, rfl⟩
theorem oiX0 : Cond.methodLink RX0 3 objectInit ∈ TG := TG_in (List.mem_append_right _ (List.mem_of_getElem? (i := 83) (by decide +kernel))) (by decide +kernel)
theorem lX0_17 : MIn RX0 17 mX6_init 0 := ⟨⟨(by decide +kernel), kiX6, kcX6_init, ⟨by decide +kernel, by decide +kernel⟩, by decide +kernel⟩, knX6_init, rfl, rfl⟩
theorem oiX6 : Cond.methodLink RX6 3 objectInit ∈ TG := TG_in (List.mem_append_right _ (List.mem_of_getElem? (i := 90) (by decide +kernel))) (by decide +kernel)
theorem lX6_11 : MIn RX6 11 mX2_init 0 := ⟨⟨(by decide +kernel), kiX2, kcX2_init, ⟨by decide +kernel, by decide +kernel⟩, by decide +kernel⟩, knX2_init, rfl, rfl⟩
theorem oiX2 : Cond.methodLink RX2 3 objectInit ∈ TG := TG_in (List.mem_append_right _ (List.mem_of_getElem? (i := 96) (by decide +kernel))) (by decide +kernel)
theorem lX6_20 : MIn RX6 20 mX1_init 0 := ⟨⟨(by decide +kernel), kiX1, kcX1_init, ⟨by decide +kernel, by decide +kernel⟩, by decide +kernel⟩, knX1_init, rfl, rfl⟩
theorem oiX1 : Cond.methodLink RX1 3 objectInit ∈ TG := TG_in (List.mem_append_right _ (List.mem_of_getElem? (i := 117) (by decide +kernel))) (by decide +kernel)
theorem lX6_27 : MIn RX6 27 mX3_init 0 := ⟨⟨(by decide +kernel), kiX3, kcX3_init, ⟨by decide +kernel, by decide +kernel⟩, by decide +kernel⟩, knX3_init, rfl, rfl⟩
theorem oiX3 : Cond.methodLink RX3 3 objectInit ∈ TG := TG_in (List.mem_append_right _ (List.mem_of_getElem? (i := 136) (by decide +kernel))) (by decide +kernel)
theorem lX8_39 : MIn RX8 39 mX6_init 0 := ⟨⟨(by decide +kernel), kiX6, kcX6_init, ⟨by decide +kernel, by decide +kernel⟩, by decide +kernel⟩, knX6_init, rfl, rfl⟩
theorem lL_13 : MV RL 13 mX8_add 1 := ⟨⟨TG_in (List.mem_append_right _ (List.mem_of_getElem? (i := 208) (by decide +kernel))) (by decide +kernel), kiX8, kcX8_add, ⟨by decide +kernel, by decide +kernel⟩, by decide +kernel⟩, knX8_add, kvX8_add⟩
theorem lX8_54 : MV RX8 54 mX8_placeOrRoot 1 := ⟨⟨TG_in (List.mem_append_right _ (List.mem_of_getElem? (i := 212) (by decide +kernel))) (by decide +kernel), kiX8, kcX8_placeOrRoot, ⟨by decide +kernel, by decide +kernel⟩, by decide +kernel⟩, knX8_placeOrRoot, kvX8_placeOrRoot⟩
theorem lX8_107 : MV RX8 107 mX5_placeOf 1 := ⟨⟨TG_in (List.mem_append_right _ (List.mem_of_getElem? (i := 216) (by decide +kernel))) (by decide +kernel), kiX5, kcX5_placeOf, ⟨by decide +kernel, by decide +kernel⟩, by decide +kernel⟩, knX5_placeOf, kvX5_placeOf⟩
theorem lX8_58 : MV RX8 58 mX7_fitsNode 0 := ⟨⟨TG_in (List.mem_append_right _ (List.mem_of_getElem? (i := 220) (by decide +kernel))) (by decide +kernel), kiX7, kcX7_fitsNode, ⟨by decide +kernel, by decide +kernel⟩, by decide +kernel⟩, knX7_fitsNode, kvX7_fitsNode⟩
theorem lX8_72 : MV RX8 72 mX6_copyFrom 1 := ⟨⟨TG_in (List.mem_append_right _ (List.mem_of_getElem? (i := 224) (by decide +kernel))) (by decide +kernel), kiX6, kcX6_copyFrom, ⟨by decide +kernel, by decide +kernel⟩, by decide +kernel⟩, knX6_copyFrom, kvX6_copyFrom⟩
theorem lX6_32 : MV RX6 32 mX2_copyFrom 1 := ⟨⟨TG_in (List.mem_append_right _ (List.mem_of_getElem? (i := 228) (by decide +kernel))) (by decide +kernel), kiX2, kcX2_copyFrom, ⟨by decide +kernel, by decide +kernel⟩, by decide +kernel⟩, knX2_copyFrom, kvX2_copyFrom⟩
theorem acX2 : Cond.methodLink RX2 25 arraycopyName ∈ TG := TG_in (List.mem_append_right _ (List.mem_of_getElem? (i := 232) (by decide +kernel))) (by decide +kernel)
theorem lX6_36 : MV RX6 36 mX1_copyFrom 1 := ⟨⟨TG_in (List.mem_append_right _ (List.mem_of_getElem? (i := 235) (by decide +kernel))) (by decide +kernel), kiX1, kcX1_copyFrom, ⟨by decide +kernel, by decide +kernel⟩, by decide +kernel⟩, knX1_copyFrom, kvX1_copyFrom⟩
theorem acX1 : Cond.methodLink RX1 22 arraycopyName ∈ TG := TG_in (List.mem_append_right _ (List.mem_of_getElem? (i := 239) (by decide +kernel))) (by decide +kernel)
theorem lX6_39 : MV RX6 39 mX3_copyFrom 1 := ⟨⟨TG_in (List.mem_append_right _ (List.mem_of_getElem? (i := 240) (by decide +kernel))) (by decide +kernel), kiX3, kcX3_copyFrom, ⟨by decide +kernel, by decide +kernel⟩, by decide +kernel⟩, knX3_copyFrom, kvX3_copyFrom⟩
theorem acX3 : Cond.methodLink RX3 25 arraycopyName ∈ TG := TG_in (List.mem_append_right _ (List.mem_of_getElem? (i := 244) (by decide +kernel))) (by decide +kernel)
theorem lX8_76 : MV RX8 76 mX2_makeNode 0 := ⟨⟨TG_in (List.mem_append_right _ (List.mem_of_getElem? (i := 245) (by decide +kernel))) (by decide +kernel), kiX2, kcX2_makeNode, ⟨by decide +kernel, by decide +kernel⟩, by decide +kernel⟩, knX2_makeNode, kvX2_makeNode⟩
theorem lX8_80 : MV RX8 80 mX2_setText 2 := ⟨⟨TG_in (List.mem_append_right _ (List.mem_of_getElem? (i := 249) (by decide +kernel))) (by decide +kernel), kiX2, kcX2_setText, ⟨by decide +kernel, by decide +kernel⟩, by decide +kernel⟩, knX2_setText, kvX2_setText⟩
theorem lX2_31 : MS RX2 31 mX2_isNumber 1 := ⟨⟨TG_in (List.mem_append_right _ (List.mem_of_getElem? (i := 253) (by decide +kernel))) (by decide +kernel), kiX2, kcX2_isNumber, ⟨by decide +kernel, by decide +kernel⟩, by decide +kernel⟩, ksX2_isNumber⟩
theorem lX2_35 : MV RX2 35 mX7_fitsNode 0 := ⟨⟨TG_in (List.mem_append_right _ (List.mem_of_getElem? (i := 256) (by decide +kernel))) (by decide +kernel), kiX7, kcX7_fitsNode, ⟨by decide +kernel, by decide +kernel⟩, by decide +kernel⟩, knX7_fitsNode, kvX7_fitsNode⟩
theorem lX2_44 : MV RX2 44 mX7_codeAt 1 := ⟨⟨TG_in (List.mem_append_right _ (List.mem_of_getElem? (i := 257) (by decide +kernel))) (by decide +kernel), kiX7, kcX7_codeAt, ⟨by decide +kernel, by decide +kernel⟩, by decide +kernel⟩, knX7_codeAt, kvX7_codeAt⟩
theorem lX8_88 : MV RX8 88 mX3_nodeOf 1 := ⟨⟨TG_in (List.mem_append_right _ (List.mem_of_getElem? (i := 261) (by decide +kernel))) (by decide +kernel), kiX3, kcX3_nodeOf, ⟨by decide +kernel, by decide +kernel⟩, by decide +kernel⟩, knX3_nodeOf, kvX3_nodeOf⟩
theorem lX3_35 : MV RX3 35 mX3_isThere 1 := ⟨⟨TG_in (List.mem_append_right _ (List.mem_of_getElem? (i := 265) (by decide +kernel))) (by decide +kernel), kiX3, kcX3_isThere, ⟨by decide +kernel, by decide +kernel⟩, by decide +kernel⟩, knX3_isThere, kvX3_isThere⟩
theorem lX8_93 : MV RX8 93 mX8_attach 2 := ⟨⟨TG_in (List.mem_append_right _ (List.mem_of_getElem? (i := 269) (by decide +kernel))) (by decide +kernel), kiX8, kcX8_attach, ⟨by decide +kernel, by decide +kernel⟩, by decide +kernel⟩, knX8_attach, kvX8_attach⟩
theorem lX8_269 : MV RX8 269 mX1_append 2 := ⟨⟨TG_in (List.mem_append_right _ (List.mem_of_getElem? (i := 273) (by decide +kernel))) (by decide +kernel), kiX1, kcX1_append, ⟨by decide +kernel, by decide +kernel⟩, by decide +kernel⟩, knX1_append, kvX1_append⟩
theorem lX8_119 : MV RX8 119 mX6_placeAgain 1 := ⟨⟨TG_in (List.mem_append_right _ (List.mem_of_getElem? (i := 277) (by decide +kernel))) (by decide +kernel), kiX6, kcX6_placeAgain, ⟨by decide +kernel, by decide +kernel⟩, by decide +kernel⟩, knX6_placeAgain, kvX6_placeAgain⟩
theorem lX6_50 : MS RX6 50 mX6_grow 5 := ⟨⟨TG_in (List.mem_append_right _ (List.mem_of_getElem? (i := 281) (by decide +kernel))) (by decide +kernel), kiX6, kcX6_grow, ⟨by decide +kernel, by decide +kernel⟩, by decide +kernel⟩, ksX6_grow⟩
theorem lX6_54 : MV RX6 54 mX3_nodeOf 1 := ⟨⟨TG_in (List.mem_append_right _ (List.mem_of_getElem? (i := 284) (by decide +kernel))) (by decide +kernel), kiX3, kcX3_nodeOf, ⟨by decide +kernel, by decide +kernel⟩, by decide +kernel⟩, knX3_nodeOf, kvX3_nodeOf⟩
theorem lX6_65 : MV RX6 65 mX3_childPlace 2 := ⟨⟨TG_in (List.mem_append_right _ (List.mem_of_getElem? (i := 285) (by decide +kernel))) (by decide +kernel), kiX3, kcX3_childPlace, ⟨by decide +kernel, by decide +kernel⟩, by decide +kernel⟩, knX3_childPlace, kvX3_childPlace⟩
theorem lX3_31 : MV RX3 31 mX3_levelOf 1 := ⟨⟨TG_in (List.mem_append_right _ (List.mem_of_getElem? (i := 289) (by decide +kernel))) (by decide +kernel), kiX3, kcX3_levelOf, ⟨by decide +kernel, by decide +kernel⟩, by decide +kernel⟩, knX3_levelOf, kvX3_levelOf⟩
theorem lX6_69 : MV RX6 69 mX3_foldOf 1 := ⟨⟨TG_in (List.mem_append_right _ (List.mem_of_getElem? (i := 293) (by decide +kernel))) (by decide +kernel), kiX3, kcX3_foldOf, ⟨by decide +kernel, by decide +kernel⟩, by decide +kernel⟩, knX3_foldOf, kvX3_foldOf⟩
theorem lX6_72 : MV RX6 72 mX3_append 3 := ⟨⟨TG_in (List.mem_append_right _ (List.mem_of_getElem? (i := 297) (by decide +kernel))) (by decide +kernel), kiX3, kcX3_append, ⟨by decide +kernel, by decide +kernel⟩, by decide +kernel⟩, knX3_append, kvX3_append⟩
theorem lX8_131 : MV RX8 131 mX8_accept 0 := ⟨⟨TG_in (List.mem_append_right _ (List.mem_of_getElem? (i := 301) (by decide +kernel))) (by decide +kernel), kiX8, kcX8_accept, ⟨by decide +kernel, by decide +kernel⟩, by decide +kernel⟩, knX8_accept, kvX8_accept⟩
theorem lX8_272 : MV RX8 272 mX0_push 1 := ⟨⟨TG_in (List.mem_append_right _ (List.mem_of_getElem? (i := 305) (by decide +kernel))) (by decide +kernel), kiX0, kcX0_push, ⟨by decide +kernel, by decide +kernel⟩, by decide +kernel⟩, knX0_push, kvX0_push⟩
theorem lX0_25 : MS RX0 25 mJ9_floorMod_7cf53 2 := ⟨⟨TG_in (List.mem_append_right _ (List.mem_of_getElem? (i := 309) (by decide +kernel))) (by decide +kernel), kiJ9, kcJ9_floorMod_7cf53, ⟨by decide +kernel, by decide +kernel⟩, by decide +kernel⟩, ksJ9_floorMod_7cf53⟩
theorem lX0_31 : MV RX0 31 mX6_copyFrom 1 := ⟨⟨TG_in (List.mem_append_right _ (List.mem_of_getElem? (i := 312) (by decide +kernel))) (by decide +kernel), kiX6, kcX6_copyFrom, ⟨by decide +kernel, by decide +kernel⟩, by decide +kernel⟩, knX6_copyFrom, kvX6_copyFrom⟩
theorem lX8_207 : MV RX8 207 mX5_refresh 1 := ⟨⟨TG_in (List.mem_append_right _ (List.mem_of_getElem? (i := 313) (by decide +kernel))) (by decide +kernel), kiX5, kcX5_refresh, ⟨by decide +kernel, by decide +kernel⟩, by decide +kernel⟩, knX5_refresh, kvX5_refresh⟩
theorem lX8_148 : MV RX8 148 mX3_countOf 1 := ⟨⟨TG_in (List.mem_append_right _ (List.mem_of_getElem? (i := 317) (by decide +kernel))) (by decide +kernel), kiX3, kcX3_countOf, ⟨by decide +kernel, by decide +kernel⟩, by decide +kernel⟩, knX3_countOf, kvX3_countOf⟩
theorem lL_18 : MV RL 18 mX8_cloneTo 2 := ⟨⟨TG_in (List.mem_append_right _ (List.mem_of_getElem? (i := 321) (by decide +kernel))) (by decide +kernel), kiX8, kcX8_cloneTo, ⟨by decide +kernel, by decide +kernel⟩, by decide +kernel⟩, knX8_cloneTo, kvX8_cloneTo⟩
theorem lX8_97 : MV RX8 97 mX8_refusalOfParent 2 := ⟨⟨TG_in (List.mem_append_right _ (List.mem_of_getElem? (i := 325) (by decide +kernel))) (by decide +kernel), kiX8, kcX8_refusalOfParent, ⟨by decide +kernel, by decide +kernel⟩, by decide +kernel⟩, knX8_refusalOfParent, kvX8_refusalOfParent⟩
theorem lX8_245 : MV RX8 245 mX3_nodesWithin 1 := ⟨⟨TG_in (List.mem_append_right _ (List.mem_of_getElem? (i := 329) (by decide +kernel))) (by decide +kernel), kiX3, kcX3_nodesWithin, ⟨by decide +kernel, by decide +kernel⟩, by decide +kernel⟩, knX3_nodesWithin, kvX3_nodesWithin⟩
theorem lX3_55 : MV RX3 55 mX3_endOf 1 := ⟨⟨TG_in (List.mem_append_right _ (List.mem_of_getElem? (i := 333) (by decide +kernel))) (by decide +kernel), kiX3, kcX3_endOf, ⟨by decide +kernel, by decide +kernel⟩, by decide +kernel⟩, knX3_endOf, kvX3_endOf⟩
theorem lX3_39 : MS RX3 39 mJ9_max_7cf53 2 := ⟨⟨TG_in (List.mem_append_right _ (List.mem_of_getElem? (i := 337) (by decide +kernel))) (by decide +kernel), kiJ9, kcJ9_max_7cf53, ⟨by decide +kernel, by decide +kernel⟩, by decide +kernel⟩, ksJ9_max_7cf53⟩
theorem lX8_266 : MV RX8 266 mX1_indexOf 2 := ⟨⟨TG_in (List.mem_append_right _ (List.mem_of_getElem? (i := 340) (by decide +kernel))) (by decide +kernel), kiX1, kcX1_indexOf, ⟨by decide +kernel, by decide +kernel⟩, by decide +kernel⟩, knX1_indexOf, kvX1_indexOf⟩
theorem lX8_100 : MV RX8 100 mX8_nodeOfRow 1 := ⟨⟨TG_in (List.mem_append_right _ (List.mem_of_getElem? (i := 344) (by decide +kernel))) (by decide +kernel), kiX8, kcX8_nodeOfRow, ⟨by decide +kernel, by decide +kernel⟩, by decide +kernel⟩, knX8_nodeOfRow, kvX8_nodeOfRow⟩
theorem lL_23 : MV RL 23 mX8_move 2 := ⟨⟨TG_in (List.mem_append_right _ (List.mem_of_getElem? (i := 348) (by decide +kernel))) (by decide +kernel), kiX8, kcX8_move, ⟨by decide +kernel, by decide +kernel⟩, by decide +kernel⟩, knX8_move, kvX8_move⟩
theorem lX8_110 : MV RX8 110 mX8_parentNodeOf 1 := ⟨⟨TG_in (List.mem_append_right _ (List.mem_of_getElem? (i := 352) (by decide +kernel))) (by decide +kernel), kiX8, kcX8_parentNodeOf, ⟨by decide +kernel, by decide +kernel⟩, by decide +kernel⟩, knX8_parentNodeOf, kvX8_parentNodeOf⟩
theorem lX8_263 : MV RX8 263 mX3_parentOf 1 := ⟨⟨TG_in (List.mem_append_right _ (List.mem_of_getElem? (i := 356) (by decide +kernel))) (by decide +kernel), kiX3, kcX3_parentOf, ⟨by decide +kernel, by decide +kernel⟩, by decide +kernel⟩, knX3_parentOf, kvX3_parentOf⟩
theorem lX3_48 : MV RX3 48 mX3_atLevel 2 := ⟨⟨TG_in (List.mem_append_right _ (List.mem_of_getElem? (i := 360) (by decide +kernel))) (by decide +kernel), kiX3, kcX3_atLevel, ⟨by decide +kernel, by decide +kernel⟩, by decide +kernel⟩, knX3_atLevel, kvX3_atLevel⟩
theorem lX3_45 : MS RX3 45 mJ9_min_7cf53 2 := ⟨⟨TG_in (List.mem_append_right _ (List.mem_of_getElem? (i := 364) (by decide +kernel))) (by decide +kernel), kiJ9, kcJ9_min_7cf53, ⟨by decide +kernel, by decide +kernel⟩, by decide +kernel⟩, ksJ9_min_7cf53⟩
theorem lX8_113 : MV RX8 113 mX1_drop 2 := ⟨⟨TG_in (List.mem_append_right _ (List.mem_of_getElem? (i := 367) (by decide +kernel))) (by decide +kernel), kiX1, kcX1_drop, ⟨by decide +kernel, by decide +kernel⟩, by decide +kernel⟩, knX1_drop, kvX1_drop⟩
theorem lX1_28 : MV RX1 28 mX1_indexOf 2 := ⟨⟨TG_in (List.mem_append_right _ (List.mem_of_getElem? (i := 371) (by decide +kernel))) (by decide +kernel), kiX1, kcX1_indexOf, ⟨by decide +kernel, by decide +kernel⟩, by decide +kernel⟩, knX1_indexOf, kvX1_indexOf⟩
theorem lL_27 : MV RL 27 mX8_cut 1 := ⟨⟨TG_in (List.mem_append_right _ (List.mem_of_getElem? (i := 372) (by decide +kernel))) (by decide +kernel), kiX8, kcX8_cut, ⟨by decide +kernel, by decide +kernel⟩, by decide +kernel⟩, knX8_cut, kvX8_cut⟩
theorem lX8_123 : MV RX8 123 mX3_nodeSet 0 := ⟨⟨TG_in (List.mem_append_right _ (List.mem_of_getElem? (i := 376) (by decide +kernel))) (by decide +kernel), kiX3, kcX3_nodeSet, ⟨by decide +kernel, by decide +kernel⟩, by decide +kernel⟩, knX3_nodeSet, kvX3_nodeSet⟩
theorem lX3_51 : MV RX3 51 mX3_nodesWithin 1 := ⟨⟨TG_in (List.mem_append_right _ (List.mem_of_getElem? (i := 380) (by decide +kernel))) (by decide +kernel), kiX3, kcX3_nodesWithin, ⟨by decide +kernel, by decide +kernel⟩, by decide +kernel⟩, knX3_nodesWithin, kvX3_nodesWithin⟩
theorem lX8_127 : MV RX8 127 mX6_dropVanished 1 := ⟨⟨TG_in (List.mem_append_right _ (List.mem_of_getElem? (i := 381) (by decide +kernel))) (by decide +kernel), kiX6, kcX6_dropVanished, ⟨by decide +kernel, by decide +kernel⟩, by decide +kernel⟩, knX6_dropVanished, kvX6_dropVanished⟩
theorem lX6_76 : MV RX6 76 mX3_nodeSet 0 := ⟨⟨TG_in (List.mem_append_right _ (List.mem_of_getElem? (i := 385) (by decide +kernel))) (by decide +kernel), kiX3, kcX3_nodeSet, ⟨by decide +kernel, by decide +kernel⟩, by decide +kernel⟩, knX3_nodeSet, kvX3_nodeSet⟩
theorem lX6_80 : MV RX6 80 mX1_keepParents 1 := ⟨⟨TG_in (List.mem_append_right _ (List.mem_of_getElem? (i := 386) (by decide +kernel))) (by decide +kernel), kiX1, kcX1_keepParents, ⟨by decide +kernel, by decide +kernel⟩, by decide +kernel⟩, knX1_keepParents, kvX1_keepParents⟩
theorem lX6_86 : MS RX6 86 mJ13_bitCount_95d88 1 := ⟨⟨TG_in (List.mem_append_right _ (List.mem_of_getElem? (i := 391) (by decide +kernel))) (by decide +kernel), kiJ13, kcJ13_bitCount_95d88, ⟨by decide +kernel, by decide +kernel⟩, by decide +kernel⟩, ksJ13_bitCount_95d88⟩
theorem lL_31 : MV RL 31 mX8_shift 2 := ⟨⟨TG_in (List.mem_append_right _ (List.mem_of_getElem? (i := 397) (by decide +kernel))) (by decide +kernel), kiX8, kcX8_shift, ⟨by decide +kernel, by decide +kernel⟩, by decide +kernel⟩, knX8_shift, kvX8_shift⟩
theorem lX8_134 : MV RX8 134 mX1_position 2 := ⟨⟨TG_in (List.mem_append_right _ (List.mem_of_getElem? (i := 401) (by decide +kernel))) (by decide +kernel), kiX1, kcX1_position, ⟨by decide +kernel, by decide +kernel⟩, by decide +kernel⟩, knX1_position, kvX1_position⟩
theorem lX8_137 : MV RX8 137 mX1_childCount 1 := ⟨⟨TG_in (List.mem_append_right _ (List.mem_of_getElem? (i := 405) (by decide +kernel))) (by decide +kernel), kiX1, kcX1_childCount, ⟨by decide +kernel, by decide +kernel⟩, by decide +kernel⟩, knX1_childCount, kvX1_childCount⟩
theorem lX8_140 : MV RX8 140 mX1_shiftChild 3 := ⟨⟨TG_in (List.mem_append_right _ (List.mem_of_getElem? (i := 409) (by decide +kernel))) (by decide +kernel), kiX1, kcX1_shiftChild, ⟨by decide +kernel, by decide +kernel⟩, by decide +kernel⟩, knX1_shiftChild, kvX1_shiftChild⟩
theorem lX1_36 : MS RX1 36 mJ9_abs_0f7a4 1 := ⟨⟨TG_in (List.mem_append_right _ (List.mem_of_getElem? (i := 413) (by decide +kernel))) (by decide +kernel), kiJ9, kcJ9_abs_0f7a4, ⟨by decide +kernel, by decide +kernel⟩, by decide +kernel⟩, ksJ9_abs_0f7a4⟩
theorem lL_35 : MV RL 35 mX8_edit 1 := ⟨⟨TG_in (List.mem_append_right _ (List.mem_of_getElem? (i := 416) (by decide +kernel))) (by decide +kernel), kiX8, kcX8_edit, ⟨by decide +kernel, by decide +kernel⟩, by decide +kernel⟩, knX8_edit, kvX8_edit⟩
theorem lX8_144 : MV RX8 144 mX2_hasText 2 := ⟨⟨TG_in (List.mem_append_right _ (List.mem_of_getElem? (i := 420) (by decide +kernel))) (by decide +kernel), kiX2, kcX2_hasText, ⟨by decide +kernel, by decide +kernel⟩, by decide +kernel⟩, knX2_hasText, kvX2_hasText⟩
theorem lX2_48 : MV RX2 48 mX2_lengthOf 1 := ⟨⟨TG_in (List.mem_append_right _ (List.mem_of_getElem? (i := 424) (by decide +kernel))) (by decide +kernel), kiX2, kcX2_lengthOf, ⟨by decide +kernel, by decide +kernel⟩, by decide +kernel⟩, knX2_lengthOf, kvX2_lengthOf⟩
theorem lX2_51 : MV RX2 51 mX2_codeAt 2 := ⟨⟨TG_in (List.mem_append_right _ (List.mem_of_getElem? (i := 428) (by decide +kernel))) (by decide +kernel), kiX2, kcX2_codeAt, ⟨by decide +kernel, by decide +kernel⟩, by decide +kernel⟩, knX2_codeAt, kvX2_codeAt⟩
theorem lL_39 : MV RL 39 mX8_mark 2 := ⟨⟨TG_in (List.mem_append_right _ (List.mem_of_getElem? (i := 432) (by decide +kernel))) (by decide +kernel), kiX8, kcX8_mark, ⟨by decide +kernel, by decide +kernel⟩, by decide +kernel⟩, knX8_mark, kvX8_mark⟩
theorem lX8_151 : MS RX8 151 mX8_isMark 1 := ⟨⟨TG_in (List.mem_append_right _ (List.mem_of_getElem? (i := 436) (by decide +kernel))) (by decide +kernel), kiX8, kcX8_isMark, ⟨by decide +kernel, by decide +kernel⟩, by decide +kernel⟩, ksX8_isMark⟩
theorem lX8_155 : MV RX8 155 mX2_toggleMark 2 := ⟨⟨TG_in (List.mem_append_right _ (List.mem_of_getElem? (i := 439) (by decide +kernel))) (by decide +kernel), kiX2, kcX2_toggleMark, ⟨by decide +kernel, by decide +kernel⟩, by decide +kernel⟩, knX2_toggleMark, kvX2_toggleMark⟩
theorem lX2_54 : MSn RX2 54 mX8_isMark 1 := ⟨⟨(by decide +kernel), kiX8, kcX8_isMark, ⟨by decide +kernel, by decide +kernel⟩, by decide +kernel⟩, ksX8_isMark⟩
theorem lX8_158 : MV RX8 158 mX2_marksOf 1 := ⟨⟨TG_in (List.mem_append_right _ (List.mem_of_getElem? (i := 444) (by decide +kernel))) (by decide +kernel), kiX2, kcX2_marksOf, ⟨by decide +kernel, by decide +kernel⟩, by decide +kernel⟩, knX2_marksOf, kvX2_marksOf⟩
theorem lL_43 : MV RL 43 mX8_fold 2 := ⟨⟨TG_in (List.mem_append_right _ (List.mem_of_getElem? (i := 448) (by decide +kernel))) (by decide +kernel), kiX8, kcX8_fold, ⟨by decide +kernel, by decide +kernel⟩, by decide +kernel⟩, knX8_fold, kvX8_fold⟩
theorem lX8_161 : MV RX8 161 mX3_hasChildren 1 := ⟨⟨TG_in (List.mem_append_right _ (List.mem_of_getElem? (i := 452) (by decide +kernel))) (by decide +kernel), kiX3, kcX3_hasChildren, ⟨by decide +kernel, by decide +kernel⟩, by decide +kernel⟩, knX3_hasChildren, kvX3_hasChildren⟩
theorem lX8_164 : MV RX8 164 mX3_foldOf 1 := ⟨⟨TG_in (List.mem_append_right _ (List.mem_of_getElem? (i := 456) (by decide +kernel))) (by decide +kernel), kiX3, kcX3_foldOf, ⟨by decide +kernel, by decide +kernel⟩, by decide +kernel⟩, knX3_foldOf, kvX3_foldOf⟩
theorem lX8_167 : MV RX8 167 mX3_setFold 2 := ⟨⟨TG_in (List.mem_append_right _ (List.mem_of_getElem? (i := 457) (by decide +kernel))) (by decide +kernel), kiX3, kcX3_setFold, ⟨by decide +kernel, by decide +kernel⟩, by decide +kernel⟩, knX3_setFold, kvX3_setFold⟩
theorem lL_48 : MV RL 48 mX8_foldLevel 1 := ⟨⟨TG_in (List.mem_append_right _ (List.mem_of_getElem? (i := 461) (by decide +kernel))) (by decide +kernel), kiX8, kcX8_foldLevel, ⟨by decide +kernel, by decide +kernel⟩, by decide +kernel⟩, knX8_foldLevel, kvX8_foldLevel⟩
theorem lX8_173 : MV RX8 173 mX3_foldAtLevel 1 := ⟨⟨TG_in (List.mem_append_right _ (List.mem_of_getElem? (i := 465) (by decide +kernel))) (by decide +kernel), kiX3, kcX3_foldAtLevel, ⟨by decide +kernel, by decide +kernel⟩, by decide +kernel⟩, knX3_foldAtLevel, kvX3_foldAtLevel⟩
theorem lX3_58 : MV RX3 58 mX3_hasChildren 1 := ⟨⟨TG_in (List.mem_append_right _ (List.mem_of_getElem? (i := 469) (by decide +kernel))) (by decide +kernel), kiX3, kcX3_hasChildren, ⟨by decide +kernel, by decide +kernel⟩, by decide +kernel⟩, knX3_hasChildren, kvX3_hasChildren⟩
theorem lL_52 : MV RL 52 mX8_show 1 := ⟨⟨TG_in (List.mem_append_right _ (List.mem_of_getElem? (i := 470) (by decide +kernel))) (by decide +kernel), kiX8, kcX8_show, ⟨by decide +kernel, by decide +kernel⟩, by decide +kernel⟩, knX8_show, kvX8_show⟩
theorem lX8_176 : MV RX8 176 mX3_firstOf 1 := ⟨⟨TG_in (List.mem_append_right _ (List.mem_of_getElem? (i := 474) (by decide +kernel))) (by decide +kernel), kiX3, kcX3_firstOf, ⟨by decide +kernel, by decide +kernel⟩, by decide +kernel⟩, knX3_firstOf, kvX3_firstOf⟩
theorem lX8_179 : MV RX8 179 mX3_unfoldAround 1 := ⟨⟨TG_in (List.mem_append_right _ (List.mem_of_getElem? (i := 478) (by decide +kernel))) (by decide +kernel), kiX3, kcX3_unfoldAround, ⟨by decide +kernel, by decide +kernel⟩, by decide +kernel⟩, knX3_unfoldAround, kvX3_unfoldAround⟩
theorem lX8_182 : MV RX8 182 mX5_rowOf 1 := ⟨⟨TG_in (List.mem_append_right _ (List.mem_of_getElem? (i := 482) (by decide +kernel))) (by decide +kernel), kiX5, kcX5_rowOf, ⟨by decide +kernel, by decide +kernel⟩, by decide +kernel⟩, knX5_rowOf, kvX5_rowOf⟩
theorem lL_56 : MV RL 56 mX8_type 1 := ⟨⟨TG_in (List.mem_append_right _ (List.mem_of_getElem? (i := 486) (by decide +kernel))) (by decide +kernel), kiX8, kcX8_type, ⟨by decide +kernel, by decide +kernel⟩, by decide +kernel⟩, knX8_type, kvX8_type⟩
theorem lX8_185 : MV RX8 185 mX7_append 1 := ⟨⟨TG_in (List.mem_append_right _ (List.mem_of_getElem? (i := 490) (by decide +kernel))) (by decide +kernel), kiX7, kcX7_append, ⟨by decide +kernel, by decide +kernel⟩, by decide +kernel⟩, knX7_append, kvX7_append⟩
theorem lL_61 : MV RL 61 mX8_clearText 0 := ⟨⟨TG_in (List.mem_append_right _ (List.mem_of_getElem? (i := 494) (by decide +kernel))) (by decide +kernel), kiX8, kcX8_clearText, ⟨by decide +kernel, by decide +kernel⟩, by decide +kernel⟩, knX8_clearText, kvX8_clearText⟩
theorem lL_66 : MV RL 66 mX8_readOutline 0 := ⟨⟨TG_in (List.mem_append_right _ (List.mem_of_getElem? (i := 498) (by decide +kernel))) (by decide +kernel), kiX8, kcX8_readOutline, ⟨by decide +kernel, by decide +kernel⟩, by decide +kernel⟩, knX8_readOutline, kvX8_readOutline⟩
theorem lX8_192 : MV RX8 192 mX6_clearNodes 0 := ⟨⟨TG_in (List.mem_append_right _ (List.mem_of_getElem? (i := 502) (by decide +kernel))) (by decide +kernel), kiX6, kcX6_clearNodes, ⟨by decide +kernel, by decide +kernel⟩, by decide +kernel⟩, knX6_clearNodes, kvX6_clearNodes⟩
theorem lX8_195 : MV RX8 195 mX4_read 2 := ⟨⟨TG_in (List.mem_append_right _ (List.mem_of_getElem? (i := 506) (by decide +kernel))) (by decide +kernel), kiX4, kcX4_read, ⟨by decide +kernel, by decide +kernel⟩, by decide +kernel⟩, knX4_read, kvX4_read⟩
theorem lX4_18 : MV RX4 18 mX4_begin 0 := ⟨⟨TG_in (List.mem_append_right _ (List.mem_of_getElem? (i := 510) (by decide +kernel))) (by decide +kernel), kiX4, kcX4_begin, ⟨by decide +kernel, by decide +kernel⟩, by decide +kernel⟩, knX4_begin, kvX4_begin⟩
theorem lX4_27 : MV RX4 27 mX7_codeAt 1 := ⟨⟨TG_in (List.mem_append_right _ (List.mem_of_getElem? (i := 514) (by decide +kernel))) (by decide +kernel), kiX7, kcX7_codeAt, ⟨by decide +kernel, by decide +kernel⟩, by decide +kernel⟩, knX7_codeAt, kvX7_codeAt⟩
theorem lX4_35 : MV RX4 35 mX4_takeLetter 2 := ⟨⟨TG_in (List.mem_append_right _ (List.mem_of_getElem? (i := 515) (by decide +kernel))) (by decide +kernel), kiX4, kcX4_takeLetter, ⟨by decide +kernel, by decide +kernel⟩, by decide +kernel⟩, knX4_takeLetter, kvX4_takeLetter⟩
theorem lX4_55 : MV RX4 55 mX2_makeNode 0 := ⟨⟨TG_in (List.mem_append_right _ (List.mem_of_getElem? (i := 519) (by decide +kernel))) (by decide +kernel), kiX2, kcX2_makeNode, ⟨by decide +kernel, by decide +kernel⟩, by decide +kernel⟩, knX2_makeNode, kvX2_makeNode⟩
theorem lX4_61 : MV RX4 61 mX2_setLetter 2 := ⟨⟨TG_in (List.mem_append_right _ (List.mem_of_getElem? (i := 520) (by decide +kernel))) (by decide +kernel), kiX2, kcX2_setLetter, ⟨by decide +kernel, by decide +kernel⟩, by decide +kernel⟩, knX2_setLetter, kvX2_setLetter⟩
theorem lX4_65 : MV RX4 65 mX4_isOpen 1 := ⟨⟨TG_in (List.mem_append_right _ (List.mem_of_getElem? (i := 524) (by decide +kernel))) (by decide +kernel), kiX4, kcX4_isOpen, ⟨by decide +kernel, by decide +kernel⟩, by decide +kernel⟩, knX4_isOpen, kvX4_isOpen⟩
theorem lX4_72 : MV RX4 72 mX1_indexOf 2 := ⟨⟨TG_in (List.mem_append_right _ (List.mem_of_getElem? (i := 528) (by decide +kernel))) (by decide +kernel), kiX1, kcX1_indexOf, ⟨by decide +kernel, by decide +kernel⟩, by decide +kernel⟩, knX1_indexOf, kvX1_indexOf⟩
theorem lX4_78 : MV RX4 78 mX1_append 2 := ⟨⟨TG_in (List.mem_append_right _ (List.mem_of_getElem? (i := 529) (by decide +kernel))) (by decide +kernel), kiX1, kcX1_append, ⟨by decide +kernel, by decide +kernel⟩, by decide +kernel⟩, knX1_append, kvX1_append⟩
theorem lX4_39 : MV RX4 39 mX4_takeSign 1 := ⟨⟨TG_in (List.mem_append_right _ (List.mem_of_getElem? (i := 530) (by decide +kernel))) (by decide +kernel), kiX4, kcX4_takeSign, ⟨by decide +kernel, by decide +kernel⟩, by decide +kernel⟩, knX4_takeSign, kvX4_takeSign⟩
theorem lX8_199 : MV RX8 199 mX6_placeAnew 0 := ⟨⟨TG_in (List.mem_append_right _ (List.mem_of_getElem? (i := 534) (by decide +kernel))) (by decide +kernel), kiX6, kcX6_placeAnew, ⟨by decide +kernel, by decide +kernel⟩, by decide +kernel⟩, knX6_placeAnew, kvX6_placeAnew⟩
theorem lL_70 : MV RL 70 mX8_undo 0 := ⟨⟨TG_in (List.mem_append_right _ (List.mem_of_getElem? (i := 538) (by decide +kernel))) (by decide +kernel), kiX8, kcX8_undo, ⟨by decide +kernel, by decide +kernel⟩, by decide +kernel⟩, knX8_undo, kvX8_undo⟩
theorem lX8_203 : MV RX8 203 mX0_popInto 1 := ⟨⟨TG_in (List.mem_append_right _ (List.mem_of_getElem? (i := 542) (by decide +kernel))) (by decide +kernel), kiX0, kcX0_popInto, ⟨by decide +kernel, by decide +kernel⟩, by decide +kernel⟩, knX0_popInto, kvX0_popInto⟩
theorem lL_74 : MV RL 74 mX8_keep 0 := ⟨⟨TG_in (List.mem_append_right _ (List.mem_of_getElem? (i := 546) (by decide +kernel))) (by decide +kernel), kiX8, kcX8_keep, ⟨by decide +kernel, by decide +kernel⟩, by decide +kernel⟩, knX8_keep, kvX8_keep⟩
theorem lL_78 : MV RL 78 mX8_restore 0 := ⟨⟨TG_in (List.mem_append_right _ (List.mem_of_getElem? (i := 550) (by decide +kernel))) (by decide +kernel), kiX8, kcX8_restore, ⟨by decide +kernel, by decide +kernel⟩, by decide +kernel⟩, knX8_restore, kvX8_restore⟩
theorem lL_82 : MV RL 82 mX8_row 2 := ⟨⟨TG_in (List.mem_append_right _ (List.mem_of_getElem? (i := 554) (by decide +kernel))) (by decide +kernel), kiX8, kcX8_row, ⟨by decide +kernel, by decide +kernel⟩, by decide +kernel⟩, knX8_row, kvX8_row⟩
theorem lX8_212 : MV RX8 212 mX3_levelOf 1 := ⟨⟨TG_in (List.mem_append_right _ (List.mem_of_getElem? (i := 558) (by decide +kernel))) (by decide +kernel), kiX3, kcX3_levelOf, ⟨by decide +kernel, by decide +kernel⟩, by decide +kernel⟩, knX3_levelOf, kvX3_levelOf⟩
theorem lX8_215 : MV RX8 215 mX8_positionAt 1 := ⟨⟨TG_in (List.mem_append_right _ (List.mem_of_getElem? (i := 559) (by decide +kernel))) (by decide +kernel), kiX8, kcX8_positionAt, ⟨by decide +kernel, by decide +kernel⟩, by decide +kernel⟩, knX8_positionAt, kvX8_positionAt⟩
theorem lX8_218 : MV RX8 218 mX8_parentRow 1 := ⟨⟨TG_in (List.mem_append_right _ (List.mem_of_getElem? (i := 563) (by decide +kernel))) (by decide +kernel), kiX8, kcX8_parentRow, ⟨by decide +kernel, by decide +kernel⟩, by decide +kernel⟩, knX8_parentRow, kvX8_parentRow⟩
theorem lX8_221 : MV RX8 221 mX3_endOf 1 := ⟨⟨TG_in (List.mem_append_right _ (List.mem_of_getElem? (i := 567) (by decide +kernel))) (by decide +kernel), kiX3, kcX3_endOf, ⟨by decide +kernel, by decide +kernel⟩, by decide +kernel⟩, knX3_endOf, kvX3_endOf⟩
theorem lX8_224 : MV RX8 224 mX5_seenBetween 2 := ⟨⟨TG_in (List.mem_append_right _ (List.mem_of_getElem? (i := 568) (by decide +kernel))) (by decide +kernel), kiX5, kcX5_seenBetween, ⟨by decide +kernel, by decide +kernel⟩, by decide +kernel⟩, knX5_seenBetween, kvX5_seenBetween⟩
theorem lX5_31 : MV RX5 31 mX5_rowOf 1 := ⟨⟨TG_in (List.mem_append_right _ (List.mem_of_getElem? (i := 572) (by decide +kernel))) (by decide +kernel), kiX5, kcX5_rowOf, ⟨by decide +kernel, by decide +kernel⟩, by decide +kernel⟩, knX5_rowOf, kvX5_rowOf⟩
theorem lL_86 : MV RL 86 mX8_number 2 := ⟨⟨TG_in (List.mem_append_right _ (List.mem_of_getElem? (i := 573) (by decide +kernel))) (by decide +kernel), kiX8, kcX8_number, ⟨by decide +kernel, by decide +kernel⟩, by decide +kernel⟩, knX8_number, kvX8_number⟩
theorem lX8_227 : MV RX8 227 mX3_atLevel 2 := ⟨⟨TG_in (List.mem_append_right _ (List.mem_of_getElem? (i := 577) (by decide +kernel))) (by decide +kernel), kiX3, kcX3_atLevel, ⟨by decide +kernel, by decide +kernel⟩, by decide +kernel⟩, knX3_atLevel, kvX3_atLevel⟩
theorem lL_90 : MV RL 90 mX8_charAt 2 := ⟨⟨TG_in (List.mem_append_right _ (List.mem_of_getElem? (i := 578) (by decide +kernel))) (by decide +kernel), kiX8, kcX8_charAt, ⟨by decide +kernel, by decide +kernel⟩, by decide +kernel⟩, knX8_charAt, kvX8_charAt⟩
theorem lX8_230 : MV RX8 230 mX2_lengthOf 1 := ⟨⟨TG_in (List.mem_append_right _ (List.mem_of_getElem? (i := 582) (by decide +kernel))) (by decide +kernel), kiX2, kcX2_lengthOf, ⟨by decide +kernel, by decide +kernel⟩, by decide +kernel⟩, knX2_lengthOf, kvX2_lengthOf⟩
theorem lX8_233 : MV RX8 233 mX2_codeAt 2 := ⟨⟨TG_in (List.mem_append_right _ (List.mem_of_getElem? (i := 583) (by decide +kernel))) (by decide +kernel), kiX2, kcX2_codeAt, ⟨by decide +kernel, by decide +kernel⟩, by decide +kernel⟩, knX2_codeAt, kvX2_codeAt⟩
theorem lL_94 : MV RL 94 mX8_node 2 := ⟨⟨TG_in (List.mem_append_right _ (List.mem_of_getElem? (i := 584) (by decide +kernel))) (by decide +kernel), kiX8, kcX8_node, ⟨by decide +kernel, by decide +kernel⟩, by decide +kernel⟩, knX8_node, kvX8_node⟩
theorem lX8_236 : MV RX8 236 mX1_parentCount 1 := ⟨⟨TG_in (List.mem_append_right _ (List.mem_of_getElem? (i := 588) (by decide +kernel))) (by decide +kernel), kiX1, kcX1_parentCount, ⟨by decide +kernel, by decide +kernel⟩, by decide +kernel⟩, knX1_parentCount, kvX1_parentCount⟩
theorem lX8_239 : MV RX8 239 mX5_seenOf 2 := ⟨⟨TG_in (List.mem_append_right _ (List.mem_of_getElem? (i := 592) (by decide +kernel))) (by decide +kernel), kiX5, kcX5_seenOf, ⟨by decide +kernel, by decide +kernel⟩, by decide +kernel⟩, knX5_seenOf, kvX5_seenOf⟩
theorem lX5_35 : MV RX5 35 mX3_nodeOf 1 := ⟨⟨TG_in (List.mem_append_right _ (List.mem_of_getElem? (i := 596) (by decide +kernel))) (by decide +kernel), kiX3, kcX3_nodeOf, ⟨by decide +kernel, by decide +kernel⟩, by decide +kernel⟩, knX3_nodeOf, kvX3_nodeOf⟩
theorem lX8_243 : MV RX8 243 mX5_firstOf 2 := ⟨⟨TG_in (List.mem_append_right _ (List.mem_of_getElem? (i := 597) (by decide +kernel))) (by decide +kernel), kiX5, kcX5_firstOf, ⟨by decide +kernel, by decide +kernel⟩, by decide +kernel⟩, knX5_firstOf, kvX5_firstOf⟩
theorem lX8_249 : MS RX8 249 mJ13_bitCount_95d88 1 := ⟨⟨TG_in (List.mem_append_right _ (List.mem_of_getElem? (i := 601) (by decide +kernel))) (by decide +kernel), kiJ13, kcJ13_bitCount_95d88, ⟨by decide +kernel, by decide +kernel⟩, by decide +kernel⟩, ksJ13_bitCount_95d88⟩
theorem lL_98 : MV RL 98 mX8_nextMarked 2 := ⟨⟨TG_in (List.mem_append_right _ (List.mem_of_getElem? (i := 602) (by decide +kernel))) (by decide +kernel), kiX8, kcX8_nextMarked, ⟨by decide +kernel, by decide +kernel⟩, by decide +kernel⟩, knX8_nextMarked, kvX8_nextMarked⟩
theorem lL_102 : MV RL 102 mX8_find 1 := ⟨⟨TG_in (List.mem_append_right _ (List.mem_of_getElem? (i := 606) (by decide +kernel))) (by decide +kernel), kiX8, kcX8_find, ⟨by decide +kernel, by decide +kernel⟩, by decide +kernel⟩, knX8_find, kvX8_find⟩
theorem lL_106 : MV RL 106 mX8_count 1 := ⟨⟨TG_in (List.mem_append_right _ (List.mem_of_getElem? (i := 610) (by decide +kernel))) (by decide +kernel), kiX8, kcX8_count, ⟨by decide +kernel, by decide +kernel⟩, by decide +kernel⟩, knX8_count, kvX8_count⟩
theorem lX8_254 : MV RX8 254 mX3_foldedCount 0 := ⟨⟨TG_in (List.mem_append_right _ (List.mem_of_getElem? (i := 614) (by decide +kernel))) (by decide +kernel), kiX3, kcX3_foldedCount, ⟨by decide +kernel, by decide +kernel⟩, by decide +kernel⟩, knX3_foldedCount, kvX3_foldedCount⟩
theorem lX8_257 : MV RX8 257 mX1_sharedCount 0 := ⟨⟨TG_in (List.mem_append_right _ (List.mem_of_getElem? (i := 618) (by decide +kernel))) (by decide +kernel), kiX1, kcX1_sharedCount, ⟨by decide +kernel, by decide +kernel⟩, by decide +kernel⟩, knX1_sharedCount, kvX1_sharedCount⟩
theorem lX1_32 : MV RX1 32 mX1_parentCount 1 := ⟨⟨TG_in (List.mem_append_right _ (List.mem_of_getElem? (i := 622) (by decide +kernel))) (by decide +kernel), kiX1, kcX1_parentCount, ⟨by decide +kernel, by decide +kernel⟩, by decide +kernel⟩, knX1_parentCount, kvX1_parentCount⟩
theorem lX8_260 : MV RX8 260 mX3_greatestLevel 0 := ⟨⟨TG_in (List.mem_append_right _ (List.mem_of_getElem? (i := 623) (by decide +kernel))) (by decide +kernel), kiX3, kcX3_greatestLevel, ⟨by decide +kernel, by decide +kernel⟩, by decide +kernel⟩, knX3_greatestLevel, kvX3_greatestLevel⟩
theorem lL_12 : MI RL 12 mX9_init 0 := ⟨⟨TG_in (List.mem_append_right _ (List.mem_of_getElem? (i := 629) (by decide +kernel))) (by decide +kernel), kiX9, kcX9_init, ⟨by decide +kernel, by decide +kernel⟩, by decide +kernel⟩, knX9_init, rfl, rfl⟩
theorem oiX9 : Cond.methodLink RX9 1 objectInit ∈ TG := TG_in (List.mem_append_right _ (List.mem_of_getElem? (i := 632) (by decide +kernel))) (by decide +kernel)
theorem lL_17 : MV RL 17 mX9_add 1 := ⟨⟨TG_in (List.mem_append_right _ (List.mem_of_getElem? (i := 696) (by decide +kernel))) (by decide +kernel), kiX9, kcX9_add, ⟨by decide +kernel, by decide +kernel⟩, by decide +kernel⟩, knX9_add, kvX9_add⟩
theorem lX9_98 : MV RX9 98 mX9_nodeOf 1 := ⟨⟨TG_in (List.mem_append_right _ (List.mem_of_getElem? (i := 700) (by decide +kernel))) (by decide +kernel), kiX9, kcX9_nodeOf, ⟨by decide +kernel, by decide +kernel⟩, by decide +kernel⟩, knX9_nodeOf, kvX9_nodeOf⟩
theorem lX9_88 : MV RX9 88 mX9_placeOf 1 := ⟨⟨TG_in (List.mem_append_right _ (List.mem_of_getElem? (i := 704) (by decide +kernel))) (by decide +kernel), kiX9, kcX9_placeOf, ⟨by decide +kernel, by decide +kernel⟩, by decide +kernel⟩, knX9_placeOf, kvX9_placeOf⟩
theorem lX9_80 : MV RX9 80 mX9_isSeen 1 := ⟨⟨TG_in (List.mem_append_right _ (List.mem_of_getElem? (i := 708) (by decide +kernel))) (by decide +kernel), kiX9, kcX9_isSeen, ⟨by decide +kernel, by decide +kernel⟩, by decide +kernel⟩, knX9_isSeen, kvX9_isSeen⟩
theorem lX9_77 : MV RX9 77 mX9_at 2 := ⟨⟨TG_in (List.mem_append_right _ (List.mem_of_getElem? (i := 712) (by decide +kernel))) (by decide +kernel), kiX9, kcX9_at, ⟨by decide +kernel, by decide +kernel⟩, by decide +kernel⟩, knX9_at, kvX9_at⟩
theorem lX9_101 : MS RX9 101 mX9_in 3 := ⟨⟨TG_in (List.mem_append_right _ (List.mem_of_getElem? (i := 716) (by decide +kernel))) (by decide +kernel), kiX9, kcX9_in, ⟨by decide +kernel, by decide +kernel⟩, by decide +kernel⟩, ksX9_in⟩
theorem lX9_105 : MV RX9 105 mX9_takeSpare 0 := ⟨⟨TG_in (List.mem_append_right _ (List.mem_of_getElem? (i := 719) (by decide +kernel))) (by decide +kernel), kiX9, kcX9_takeSpare, ⟨by decide +kernel, by decide +kernel⟩, by decide +kernel⟩, knX9_takeSpare, kvX9_takeSpare⟩
theorem lX9_108 : MV RX9 108 mX9_make 1 := ⟨⟨TG_in (List.mem_append_right _ (List.mem_of_getElem? (i := 723) (by decide +kernel))) (by decide +kernel), kiX9, kcX9_make, ⟨by decide +kernel, by decide +kernel⟩, by decide +kernel⟩, knX9_make, kvX9_make⟩
theorem lX9_91 : MV RX9 91 mX9_to 3 := ⟨⟨TG_in (List.mem_append_right _ (List.mem_of_getElem? (i := 727) (by decide +kernel))) (by decide +kernel), kiX9, kcX9_to, ⟨by decide +kernel, by decide +kernel⟩, by decide +kernel⟩, knX9_to, kvX9_to⟩
theorem lX9_112 : MV RX9 112 mX9_writeText 1 := ⟨⟨TG_in (List.mem_append_right _ (List.mem_of_getElem? (i := 731) (by decide +kernel))) (by decide +kernel), kiX9, kcX9_writeText, ⟨by decide +kernel, by decide +kernel⟩, by decide +kernel⟩, knX9_writeText, kvX9_writeText⟩
theorem lX9_115 : MV RX9 115 mX9_addKid 2 := ⟨⟨TG_in (List.mem_append_right _ (List.mem_of_getElem? (i := 735) (by decide +kernel))) (by decide +kernel), kiX9, kcX9_addKid, ⟨by decide +kernel, by decide +kernel⟩, by decide +kernel⟩, knX9_addKid, kvX9_addKid⟩
theorem lX9_64 : MV RX9 64 mX9_of 2 := ⟨⟨TG_in (List.mem_append_right _ (List.mem_of_getElem? (i := 739) (by decide +kernel))) (by decide +kernel), kiX9, kcX9_of, ⟨by decide +kernel, by decide +kernel⟩, by decide +kernel⟩, knX9_of, kvX9_of⟩
theorem lX9_119 : MV RX9 119 mX9_layPlaces 0 := ⟨⟨TG_in (List.mem_append_right _ (List.mem_of_getElem? (i := 743) (by decide +kernel))) (by decide +kernel), kiX9, kcX9_layPlaces, ⟨by decide +kernel, by decide +kernel⟩, by decide +kernel⟩, knX9_layPlaces, kvX9_layPlaces⟩
theorem lX9_71 : MV RX9 71 mX9_kid 2 := ⟨⟨TG_in (List.mem_append_right _ (List.mem_of_getElem? (i := 747) (by decide +kernel))) (by decide +kernel), kiX9, kcX9_kid, ⟨by decide +kernel, by decide +kernel⟩, by decide +kernel⟩, knX9_kid, kvX9_kid⟩
theorem lX9_74 : MV RX9 74 mX9_spareChild 2 := ⟨⟨TG_in (List.mem_append_right _ (List.mem_of_getElem? (i := 751) (by decide +kernel))) (by decide +kernel), kiX9, kcX9_spareChild, ⟨by decide +kernel, by decide +kernel⟩, by decide +kernel⟩, knX9_spareChild, kvX9_spareChild⟩
theorem lX9_68 : MV RX9 68 mX9_spareAt 2 := ⟨⟨TG_in (List.mem_append_right _ (List.mem_of_getElem? (i := 755) (by decide +kernel))) (by decide +kernel), kiX9, kcX9_spareAt, ⟨by decide +kernel, by decide +kernel⟩, by decide +kernel⟩, knX9_spareAt, kvX9_spareAt⟩
theorem lX9_123 : MV RX9 123 mX9_putBack 0 := ⟨⟨TG_in (List.mem_append_right _ (List.mem_of_getElem? (i := 759) (by decide +kernel))) (by decide +kernel), kiX9, kcX9_putBack, ⟨by decide +kernel, by decide +kernel⟩, by decide +kernel⟩, knX9_putBack, kvX9_putBack⟩
theorem lX9_126 : MV RX9 126 mX9_record 0 := ⟨⟨TG_in (List.mem_append_right _ (List.mem_of_getElem? (i := 763) (by decide +kernel))) (by decide +kernel), kiX9, kcX9_record, ⟨by decide +kernel, by decide +kernel⟩, by decide +kernel⟩, knX9_record, kvX9_record⟩
theorem lL_22 : MV RL 22 mX9_cloneTo 2 := ⟨⟨TG_in (List.mem_append_right _ (List.mem_of_getElem? (i := 767) (by decide +kernel))) (by decide +kernel), kiX9, kcX9_cloneTo, ⟨by decide +kernel, by decide +kernel⟩, by decide +kernel⟩, knX9_cloneTo, kvX9_cloneTo⟩
theorem lX9_135 : MV RX9 135 mX9_mayStand 2 := ⟨⟨TG_in (List.mem_append_right _ (List.mem_of_getElem? (i := 771) (by decide +kernel))) (by decide +kernel), kiX9, kcX9_mayStand, ⟨by decide +kernel, by decide +kernel⟩, by decide +kernel⟩, knX9_mayStand, kvX9_mayStand⟩
theorem lX9_129 : MV RX9 129 mX9_layWithin 1 := ⟨⟨TG_in (List.mem_append_right _ (List.mem_of_getElem? (i := 775) (by decide +kernel))) (by decide +kernel), kiX9, kcX9_layWithin, ⟨by decide +kernel, by decide +kernel⟩, by decide +kernel⟩, knX9_layWithin, kvX9_layWithin⟩
theorem lX9_132 : MV RX9 132 mX9_position 2 := ⟨⟨TG_in (List.mem_append_right _ (List.mem_of_getElem? (i := 779) (by decide +kernel))) (by decide +kernel), kiX9, kcX9_position, ⟨by decide +kernel, by decide +kernel⟩, by decide +kernel⟩, knX9_position, kvX9_position⟩
theorem lX9_139 : MV RX9 139 mX9_placesOf 1 := ⟨⟨TG_in (List.mem_append_right _ (List.mem_of_getElem? (i := 783) (by decide +kernel))) (by decide +kernel), kiX9, kcX9_placesOf, ⟨by decide +kernel, by decide +kernel⟩, by decide +kernel⟩, knX9_placesOf, kvX9_placesOf⟩
theorem lL_26 : MV RL 26 mX9_move 2 := ⟨⟨TG_in (List.mem_append_right _ (List.mem_of_getElem? (i := 787) (by decide +kernel))) (by decide +kernel), kiX9, kcX9_move, ⟨by decide +kernel, by decide +kernel⟩, by decide +kernel⟩, knX9_move, kvX9_move⟩
theorem lX9_142 : MV RX9 142 mX9_parent 1 := ⟨⟨TG_in (List.mem_append_right _ (List.mem_of_getElem? (i := 791) (by decide +kernel))) (by decide +kernel), kiX9, kcX9_parent, ⟨by decide +kernel, by decide +kernel⟩, by decide +kernel⟩, knX9_parent, kvX9_parent⟩
theorem lX9_84 : MV RX9 84 mX9_around 1 := ⟨⟨TG_in (List.mem_append_right _ (List.mem_of_getElem? (i := 795) (by decide +kernel))) (by decide +kernel), kiX9, kcX9_around, ⟨by decide +kernel, by decide +kernel⟩, by decide +kernel⟩, knX9_around, kvX9_around⟩
theorem lX9_145 : MV RX9 145 mX9_takeKid 2 := ⟨⟨TG_in (List.mem_append_right _ (List.mem_of_getElem? (i := 799) (by decide +kernel))) (by decide +kernel), kiX9, kcX9_takeKid, ⟨by decide +kernel, by decide +kernel⟩, by decide +kernel⟩, knX9_takeKid, kvX9_takeKid⟩
theorem lL_30 : MV RL 30 mX9_cut 1 := ⟨⟨TG_in (List.mem_append_right _ (List.mem_of_getElem? (i := 803) (by decide +kernel))) (by decide +kernel), kiX9, kcX9_cut, ⟨by decide +kernel, by decide +kernel⟩, by decide +kernel⟩, knX9_cut, kvX9_cut⟩
theorem lL_34 : MV RL 34 mX9_shift 2 := ⟨⟨TG_in (List.mem_append_right _ (List.mem_of_getElem? (i := 807) (by decide +kernel))) (by decide +kernel), kiX9, kcX9_shift, ⟨by decide +kernel, by decide +kernel⟩, by decide +kernel⟩, knX9_shift, kvX9_shift⟩
theorem lL_38 : MV RL 38 mX9_edit 1 := ⟨⟨TG_in (List.mem_append_right _ (List.mem_of_getElem? (i := 811) (by decide +kernel))) (by decide +kernel), kiX9, kcX9_edit, ⟨by decide +kernel, by decide +kernel⟩, by decide +kernel⟩, knX9_edit, kvX9_edit⟩
theorem lX9_148 : MV RX9 148 mX9_hasText 1 := ⟨⟨TG_in (List.mem_append_right _ (List.mem_of_getElem? (i := 815) (by decide +kernel))) (by decide +kernel), kiX9, kcX9_hasText, ⟨by decide +kernel, by decide +kernel⟩, by decide +kernel⟩, knX9_hasText, kvX9_hasText⟩
theorem lL_42 : MV RL 42 mX9_mark 2 := ⟨⟨TG_in (List.mem_append_right _ (List.mem_of_getElem? (i := 819) (by decide +kernel))) (by decide +kernel), kiX9, kcX9_mark, ⟨by decide +kernel, by decide +kernel⟩, by decide +kernel⟩, knX9_mark, kvX9_mark⟩
theorem lL_47 : MV RL 47 mX9_fold 2 := ⟨⟨TG_in (List.mem_append_right _ (List.mem_of_getElem? (i := 823) (by decide +kernel))) (by decide +kernel), kiX9, kcX9_fold, ⟨by decide +kernel, by decide +kernel⟩, by decide +kernel⟩, knX9_fold, kvX9_fold⟩
theorem lX9_151 : MV RX9 151 mX9_hasKids 1 := ⟨⟨TG_in (List.mem_append_right _ (List.mem_of_getElem? (i := 827) (by decide +kernel))) (by decide +kernel), kiX9, kcX9_hasKids, ⟨by decide +kernel, by decide +kernel⟩, by decide +kernel⟩, knX9_hasKids, kvX9_hasKids⟩
theorem lX9_154 : MV RX9 154 mX9_rows 0 := ⟨⟨TG_in (List.mem_append_right _ (List.mem_of_getElem? (i := 831) (by decide +kernel))) (by decide +kernel), kiX9, kcX9_rows, ⟨by decide +kernel, by decide +kernel⟩, by decide +kernel⟩, knX9_rows, kvX9_rows⟩
theorem lL_51 : MV RL 51 mX9_foldLevel 1 := ⟨⟨TG_in (List.mem_append_right _ (List.mem_of_getElem? (i := 835) (by decide +kernel))) (by decide +kernel), kiX9, kcX9_foldLevel, ⟨by decide +kernel, by decide +kernel⟩, by decide +kernel⟩, knX9_foldLevel, kvX9_foldLevel⟩
theorem lL_55 : MV RL 55 mX9_show 1 := ⟨⟨TG_in (List.mem_append_right _ (List.mem_of_getElem? (i := 839) (by decide +kernel))) (by decide +kernel), kiX9, kcX9_show, ⟨by decide +kernel, by decide +kernel⟩, by decide +kernel⟩, knX9_show, kvX9_show⟩
theorem lX9_158 : MV RX9 158 mX9_isNode 1 := ⟨⟨TG_in (List.mem_append_right _ (List.mem_of_getElem? (i := 843) (by decide +kernel))) (by decide +kernel), kiX9, kcX9_isNode, ⟨by decide +kernel, by decide +kernel⟩, by decide +kernel⟩, knX9_isNode, kvX9_isNode⟩
theorem lX9_161 : MV RX9 161 mX9_firstPlace 1 := ⟨⟨TG_in (List.mem_append_right _ (List.mem_of_getElem? (i := 847) (by decide +kernel))) (by decide +kernel), kiX9, kcX9_firstPlace, ⟨by decide +kernel, by decide +kernel⟩, by decide +kernel⟩, knX9_firstPlace, kvX9_firstPlace⟩
theorem lX9_164 : MV RX9 164 mX9_rowOf 1 := ⟨⟨TG_in (List.mem_append_right _ (List.mem_of_getElem? (i := 851) (by decide +kernel))) (by decide +kernel), kiX9, kcX9_rowOf, ⟨by decide +kernel, by decide +kernel⟩, by decide +kernel⟩, knX9_rowOf, kvX9_rowOf⟩
theorem lL_60 : MV RL 60 mX9_type 1 := ⟨⟨TG_in (List.mem_append_right _ (List.mem_of_getElem? (i := 855) (by decide +kernel))) (by decide +kernel), kiX9, kcX9_type, ⟨by decide +kernel, by decide +kernel⟩, by decide +kernel⟩, knX9_type, kvX9_type⟩
theorem lL_65 : MV RL 65 mX9_clearText 0 := ⟨⟨TG_in (List.mem_append_right _ (List.mem_of_getElem? (i := 859) (by decide +kernel))) (by decide +kernel), kiX9, kcX9_clearText, ⟨by decide +kernel, by decide +kernel⟩, by decide +kernel⟩, knX9_clearText, kvX9_clearText⟩
theorem lL_69 : MV RL 69 mX9_readOutline 0 := ⟨⟨TG_in (List.mem_append_right _ (List.mem_of_getElem? (i := 863) (by decide +kernel))) (by decide +kernel), kiX9, kcX9_readOutline, ⟨by decide +kernel, by decide +kernel⟩, by decide +kernel⟩, knX9_readOutline, kvX9_readOutline⟩
theorem lX9_176 : MV RX9 176 mX9_readsFault 0 := ⟨⟨TG_in (List.mem_append_right _ (List.mem_of_getElem? (i := 867) (by decide +kernel))) (by decide +kernel), kiX9, kcX9_readsFault, ⟨by decide +kernel, by decide +kernel⟩, by decide +kernel⟩, knX9_readsFault, kvX9_readsFault⟩
theorem lX9_170 : MV RX9 170 mX9_isOpen 2 := ⟨⟨TG_in (List.mem_append_right _ (List.mem_of_getElem? (i := 871) (by decide +kernel))) (by decide +kernel), kiX9, kcX9_isOpen, ⟨by decide +kernel, by decide +kernel⟩, by decide +kernel⟩, knX9_isOpen, kvX9_isOpen⟩
theorem lX9_173 : MV RX9 173 mX9_stands 2 := ⟨⟨TG_in (List.mem_append_right _ (List.mem_of_getElem? (i := 875) (by decide +kernel))) (by decide +kernel), kiX9, kcX9_stands, ⟨by decide +kernel, by decide +kernel⟩, by decide +kernel⟩, knX9_stands, kvX9_stands⟩
theorem lL_73 : MV RL 73 mX9_undo 0 := ⟨⟨TG_in (List.mem_append_right _ (List.mem_of_getElem? (i := 879) (by decide +kernel))) (by decide +kernel), kiX9, kcX9_undo, ⟨by decide +kernel, by decide +kernel⟩, by decide +kernel⟩, knX9_undo, kvX9_undo⟩
theorem lL_77 : MV RL 77 mX9_keep 0 := ⟨⟨TG_in (List.mem_append_right _ (List.mem_of_getElem? (i := 883) (by decide +kernel))) (by decide +kernel), kiX9, kcX9_keep, ⟨by decide +kernel, by decide +kernel⟩, by decide +kernel⟩, knX9_keep, kvX9_keep⟩
theorem lL_81 : MV RL 81 mX9_restore 0 := ⟨⟨TG_in (List.mem_append_right _ (List.mem_of_getElem? (i := 887) (by decide +kernel))) (by decide +kernel), kiX9, kcX9_restore, ⟨by decide +kernel, by decide +kernel⟩, by decide +kernel⟩, knX9_restore, kvX9_restore⟩
theorem lL_85 : MV RL 85 mX9_row 2 := ⟨⟨TG_in (List.mem_append_right _ (List.mem_of_getElem? (i := 891) (by decide +kernel))) (by decide +kernel), kiX9, kcX9_row, ⟨by decide +kernel, by decide +kernel⟩, by decide +kernel⟩, knX9_row, kvX9_row⟩
theorem lX9_183 : MV RX9 183 mX9_rowsWithin 1 := ⟨⟨TG_in (List.mem_append_right _ (List.mem_of_getElem? (i := 895) (by decide +kernel))) (by decide +kernel), kiX9, kcX9_rowsWithin, ⟨by decide +kernel, by decide +kernel⟩, by decide +kernel⟩, knX9_rowsWithin, kvX9_rowsWithin⟩
theorem lL_89 : MV RL 89 mX9_number 2 := ⟨⟨TG_in (List.mem_append_right _ (List.mem_of_getElem? (i := 899) (by decide +kernel))) (by decide +kernel), kiX9, kcX9_number, ⟨by decide +kernel, by decide +kernel⟩, by decide +kernel⟩, knX9_number, kvX9_number⟩
theorem lL_93 : MV RL 93 mX9_charAt 2 := ⟨⟨TG_in (List.mem_append_right _ (List.mem_of_getElem? (i := 903) (by decide +kernel))) (by decide +kernel), kiX9, kcX9_charAt, ⟨by decide +kernel, by decide +kernel⟩, by decide +kernel⟩, knX9_charAt, kvX9_charAt⟩
theorem lL_97 : MV RL 97 mX9_node 2 := ⟨⟨TG_in (List.mem_append_right _ (List.mem_of_getElem? (i := 907) (by decide +kernel))) (by decide +kernel), kiX9, kcX9_node, ⟨by decide +kernel, by decide +kernel⟩, by decide +kernel⟩, knX9_node, kvX9_node⟩
theorem lX9_186 : MV RX9 186 mX9_parents 1 := ⟨⟨TG_in (List.mem_append_right _ (List.mem_of_getElem? (i := 911) (by decide +kernel))) (by decide +kernel), kiX9, kcX9_parents, ⟨by decide +kernel, by decide +kernel⟩, by decide +kernel⟩, knX9_parents, kvX9_parents⟩
theorem lX9_189 : MV RX9 189 mX9_seenPlaces 1 := ⟨⟨TG_in (List.mem_append_right _ (List.mem_of_getElem? (i := 915) (by decide +kernel))) (by decide +kernel), kiX9, kcX9_seenPlaces, ⟨by decide +kernel, by decide +kernel⟩, by decide +kernel⟩, knX9_seenPlaces, kvX9_seenPlaces⟩
theorem lX9_192 : MV RX9 192 mX9_firstRow 1 := ⟨⟨TG_in (List.mem_append_right _ (List.mem_of_getElem? (i := 919) (by decide +kernel))) (by decide +kernel), kiX9, kcX9_firstRow, ⟨by decide +kernel, by decide +kernel⟩, by decide +kernel⟩, knX9_firstRow, kvX9_firstRow⟩
theorem lL_101 : MV RL 101 mX9_nextMarked 2 := ⟨⟨TG_in (List.mem_append_right _ (List.mem_of_getElem? (i := 923) (by decide +kernel))) (by decide +kernel), kiX9, kcX9_nextMarked, ⟨by decide +kernel, by decide +kernel⟩, by decide +kernel⟩, knX9_nextMarked, kvX9_nextMarked⟩
theorem lL_105 : MV RL 105 mX9_find 1 := ⟨⟨TG_in (List.mem_append_right _ (List.mem_of_getElem? (i := 927) (by decide +kernel))) (by decide +kernel), kiX9, kcX9_find, ⟨by decide +kernel, by decide +kernel⟩, by decide +kernel⟩, knX9_find, kvX9_find⟩
theorem lL_109 : MV RL 109 mX9_count 1 := ⟨⟨TG_in (List.mem_append_right _ (List.mem_of_getElem? (i := 931) (by decide +kernel))) (by decide +kernel), kiX9, kcX9_count, ⟨by decide +kernel, by decide +kernel⟩, by decide +kernel⟩, knX9_count, kvX9_count⟩
theorem lX9_195 : MV RX9 195 mX9_nodes 1 := ⟨⟨TG_in (List.mem_append_right _ (List.mem_of_getElem? (i := 935) (by decide +kernel))) (by decide +kernel), kiX9, kcX9_nodes, ⟨by decide +kernel, by decide +kernel⟩, by decide +kernel⟩, knX9_nodes, kvX9_nodes⟩
theorem lX9_199 : MV RX9 199 mX9_foldedPlaces 0 := ⟨⟨TG_in (List.mem_append_right _ (List.mem_of_getElem? (i := 939) (by decide +kernel))) (by decide +kernel), kiX9, kcX9_foldedPlaces, ⟨by decide +kernel, by decide +kernel⟩, by decide +kernel⟩, knX9_foldedPlaces, kvX9_foldedPlaces⟩
theorem lX9_202 : MV RX9 202 mX9_greatestLevel 0 := ⟨⟨TG_in (List.mem_append_right _ (List.mem_of_getElem? (i := 943) (by decide +kernel))) (by decide +kernel), kiX9, kcX9_greatestLevel, ⟨by decide +kernel, by decide +kernel⟩, by decide +kernel⟩, knX9_greatestLevel, kvX9_greatestLevel⟩
theorem k_ao : Cond.arrayOver (.object "CloneOutline$State") ∈ NW := by decide +kernel
theorem pfX8_init : plainFor mX8_init.1 = true := by decide +kernel
theorem pfX7_init : plainFor mX7_init.1 = true := by decide +kernel
theorem pfX4_init : plainFor mX4_init.1 = true := by decide +kernel
theorem pfX5_init : plainFor mX5_init.1 = true := by decide +kernel
theorem pfX0_init : plainFor mX0_init.1 = true := by decide +kernel
theorem pfX6_init : plainFor mX6_init.1 = true := by decide +kernel
theorem pfX2_init : plainFor mX2_init.1 = true := by decide +kernel
theorem pfX1_init : plainFor mX1_init.1 = true := by decide +kernel
theorem pfX3_init : plainFor mX3_init.1 = true := by decide +kernel
theorem pfX8_add : plainFor mX8_add.1 = true := by decide +kernel
theorem pfX8_placeOrRoot : plainFor mX8_placeOrRoot.1 = true := by decide +kernel
theorem pfX5_placeOf : plainFor mX5_placeOf.1 = true := by decide +kernel
theorem pfX7_fitsNode : plainFor mX7_fitsNode.1 = true := by decide +kernel
theorem pfX6_copyFrom : plainFor mX6_copyFrom.1 = true := by decide +kernel
theorem pfX2_copyFrom : plainFor mX2_copyFrom.1 = true := by decide +kernel
theorem pfX1_copyFrom : plainFor mX1_copyFrom.1 = true := by decide +kernel
theorem pfX3_copyFrom : plainFor mX3_copyFrom.1 = true := by decide +kernel
theorem pfX2_makeNode : plainFor mX2_makeNode.1 = true := by decide +kernel
theorem pfX2_setText : plainFor mX2_setText.1 = true := by decide +kernel
theorem pfX2_isNumber : plainFor mX2_isNumber.1 = true := by decide +kernel
theorem pfX7_codeAt : plainFor mX7_codeAt.1 = true := by decide +kernel
theorem pfX3_nodeOf : plainFor mX3_nodeOf.1 = true := by decide +kernel
theorem pfX3_isThere : plainFor mX3_isThere.1 = true := by decide +kernel
theorem pfX8_attach : plainFor mX8_attach.1 = true := by decide +kernel
theorem pfX1_append : plainFor mX1_append.1 = true := by decide +kernel
theorem pfX6_placeAgain : plainFor mX6_placeAgain.1 = true := by decide +kernel
theorem pfX6_grow : plainFor mX6_grow.1 = true := by decide +kernel
theorem pfX3_childPlace : plainFor mX3_childPlace.1 = true := by decide +kernel
theorem pfX3_levelOf : plainFor mX3_levelOf.1 = true := by decide +kernel
theorem pfX3_foldOf : plainFor mX3_foldOf.1 = true := by decide +kernel
theorem pfX3_append : plainFor mX3_append.1 = true := by decide +kernel
theorem pfX8_accept : plainFor mX8_accept.1 = true := by decide +kernel
theorem pfX0_push : plainFor mX0_push.1 = true := by decide +kernel
theorem pfJ9_floorMod_7cf53 : plainFor mJ9_floorMod_7cf53.1 = true := by decide +kernel
theorem pfX5_refresh : plainFor mX5_refresh.1 = true := by decide +kernel
theorem pfX3_countOf : plainFor mX3_countOf.1 = true := by decide +kernel
theorem pfX8_cloneTo : plainFor mX8_cloneTo.1 = true := by decide +kernel
theorem pfX8_refusalOfParent : plainFor mX8_refusalOfParent.1 = true := by decide +kernel
theorem pfX3_nodesWithin : plainFor mX3_nodesWithin.1 = true := by decide +kernel
theorem pfX3_endOf : plainFor mX3_endOf.1 = true := by decide +kernel
theorem pfJ9_max_7cf53 : plainFor mJ9_max_7cf53.1 = true := by decide +kernel
theorem pfX1_indexOf : plainFor mX1_indexOf.1 = true := by decide +kernel
theorem pfX8_nodeOfRow : plainFor mX8_nodeOfRow.1 = true := by decide +kernel
theorem pfX8_move : plainFor mX8_move.1 = true := by decide +kernel
theorem pfX8_parentNodeOf : plainFor mX8_parentNodeOf.1 = true := by decide +kernel
theorem pfX3_parentOf : plainFor mX3_parentOf.1 = true := by decide +kernel
theorem pfX3_atLevel : plainFor mX3_atLevel.1 = true := by decide +kernel
theorem pfJ9_min_7cf53 : plainFor mJ9_min_7cf53.1 = true := by decide +kernel
theorem pfX1_drop : plainFor mX1_drop.1 = true := by decide +kernel
theorem pfX8_cut : plainFor mX8_cut.1 = true := by decide +kernel
theorem pfX3_nodeSet : plainFor mX3_nodeSet.1 = true := by decide +kernel
theorem pfX6_dropVanished : plainFor mX6_dropVanished.1 = true := by decide +kernel
theorem pfX1_keepParents : plainFor mX1_keepParents.1 = true := by decide +kernel
theorem pfJ13_bitCount_95d88 : plainFor mJ13_bitCount_95d88.1 = true := by decide +kernel
theorem pfX8_shift : plainFor mX8_shift.1 = true := by decide +kernel
theorem pfX1_position : plainFor mX1_position.1 = true := by decide +kernel
theorem pfX1_childCount : plainFor mX1_childCount.1 = true := by decide +kernel
theorem pfX1_shiftChild : plainFor mX1_shiftChild.1 = true := by decide +kernel
theorem pfJ9_abs_0f7a4 : plainFor mJ9_abs_0f7a4.1 = true := by decide +kernel
theorem pfX8_edit : plainFor mX8_edit.1 = true := by decide +kernel
theorem pfX2_hasText : plainFor mX2_hasText.1 = true := by decide +kernel
theorem pfX2_lengthOf : plainFor mX2_lengthOf.1 = true := by decide +kernel
theorem pfX2_codeAt : plainFor mX2_codeAt.1 = true := by decide +kernel
theorem pfX8_mark : plainFor mX8_mark.1 = true := by decide +kernel
theorem pfX8_isMark : plainFor mX8_isMark.1 = true := by decide +kernel
theorem pfX2_toggleMark : plainFor mX2_toggleMark.1 = true := by decide +kernel
theorem pfX2_marksOf : plainFor mX2_marksOf.1 = true := by decide +kernel
theorem pfX8_fold : plainFor mX8_fold.1 = true := by decide +kernel
theorem pfX3_hasChildren : plainFor mX3_hasChildren.1 = true := by decide +kernel
theorem pfX3_setFold : plainFor mX3_setFold.1 = true := by decide +kernel
theorem pfX8_foldLevel : plainFor mX8_foldLevel.1 = true := by decide +kernel
theorem pfX3_foldAtLevel : plainFor mX3_foldAtLevel.1 = true := by decide +kernel
theorem pfX8_show : plainFor mX8_show.1 = true := by decide +kernel
theorem pfX3_firstOf : plainFor mX3_firstOf.1 = true := by decide +kernel
theorem pfX3_unfoldAround : plainFor mX3_unfoldAround.1 = true := by decide +kernel
theorem pfX5_rowOf : plainFor mX5_rowOf.1 = true := by decide +kernel
theorem pfX8_type : plainFor mX8_type.1 = true := by decide +kernel
theorem pfX7_append : plainFor mX7_append.1 = true := by decide +kernel
theorem pfX8_clearText : plainFor mX8_clearText.1 = true := by decide +kernel
theorem pfX8_readOutline : plainFor mX8_readOutline.1 = true := by decide +kernel
theorem pfX6_clearNodes : plainFor mX6_clearNodes.1 = true := by decide +kernel
theorem pfX4_read : plainFor mX4_read.1 = true := by decide +kernel
theorem pfX4_begin : plainFor mX4_begin.1 = true := by decide +kernel
theorem pfX4_takeLetter : plainFor mX4_takeLetter.1 = true := by decide +kernel
theorem pfX2_setLetter : plainFor mX2_setLetter.1 = true := by decide +kernel
theorem pfX4_isOpen : plainFor mX4_isOpen.1 = true := by decide +kernel
theorem pfX4_takeSign : plainFor mX4_takeSign.1 = true := by decide +kernel
theorem pfX6_placeAnew : plainFor mX6_placeAnew.1 = true := by decide +kernel
theorem pfX8_undo : plainFor mX8_undo.1 = true := by decide +kernel
theorem pfX0_popInto : plainFor mX0_popInto.1 = true := by decide +kernel
theorem pfX8_keep : plainFor mX8_keep.1 = true := by decide +kernel
theorem pfX8_restore : plainFor mX8_restore.1 = true := by decide +kernel
theorem pfX8_row : plainFor mX8_row.1 = true := by decide +kernel
theorem pfX8_positionAt : plainFor mX8_positionAt.1 = true := by decide +kernel
theorem pfX8_parentRow : plainFor mX8_parentRow.1 = true := by decide +kernel
theorem pfX5_seenBetween : plainFor mX5_seenBetween.1 = true := by decide +kernel
theorem pfX8_number : plainFor mX8_number.1 = true := by decide +kernel
theorem pfX8_charAt : plainFor mX8_charAt.1 = true := by decide +kernel
theorem pfX8_node : plainFor mX8_node.1 = true := by decide +kernel
theorem pfX1_parentCount : plainFor mX1_parentCount.1 = true := by decide +kernel
theorem pfX5_seenOf : plainFor mX5_seenOf.1 = true := by decide +kernel
theorem pfX5_firstOf : plainFor mX5_firstOf.1 = true := by decide +kernel
theorem pfX8_nextMarked : plainFor mX8_nextMarked.1 = true := by decide +kernel
theorem pfX8_find : plainFor mX8_find.1 = true := by decide +kernel
theorem pfX8_count : plainFor mX8_count.1 = true := by decide +kernel
theorem pfX3_foldedCount : plainFor mX3_foldedCount.1 = true := by decide +kernel
theorem pfX1_sharedCount : plainFor mX1_sharedCount.1 = true := by decide +kernel
theorem pfX3_greatestLevel : plainFor mX3_greatestLevel.1 = true := by decide +kernel
theorem pfX9_init : plainFor mX9_init.1 = true := by decide +kernel
theorem pfX9_add : plainFor mX9_add.1 = true := by decide +kernel
theorem pfX9_nodeOf : plainFor mX9_nodeOf.1 = true := by decide +kernel
theorem pfX9_placeOf : plainFor mX9_placeOf.1 = true := by decide +kernel
theorem pfX9_isSeen : plainFor mX9_isSeen.1 = true := by decide +kernel
theorem pfX9_at : plainFor mX9_at.1 = true := by decide +kernel
theorem pfX9_in : plainFor mX9_in.1 = true := by decide +kernel
theorem pfX9_takeSpare : plainFor mX9_takeSpare.1 = true := by decide +kernel
theorem pfX9_make : plainFor mX9_make.1 = true := by decide +kernel
theorem pfX9_to : plainFor mX9_to.1 = true := by decide +kernel
theorem pfX9_writeText : plainFor mX9_writeText.1 = true := by decide +kernel
theorem pfX9_addKid : plainFor mX9_addKid.1 = true := by decide +kernel
theorem pfX9_of : plainFor mX9_of.1 = true := by decide +kernel
theorem pfX9_layPlaces : plainFor mX9_layPlaces.1 = true := by decide +kernel
theorem pfX9_kid : plainFor mX9_kid.1 = true := by decide +kernel
theorem pfX9_spareChild : plainFor mX9_spareChild.1 = true := by decide +kernel
theorem pfX9_spareAt : plainFor mX9_spareAt.1 = true := by decide +kernel
theorem pfX9_putBack : plainFor mX9_putBack.1 = true := by decide +kernel
theorem pfX9_record : plainFor mX9_record.1 = true := by decide +kernel
theorem pfX9_cloneTo : plainFor mX9_cloneTo.1 = true := by decide +kernel
theorem pfX9_mayStand : plainFor mX9_mayStand.1 = true := by decide +kernel
theorem pfX9_layWithin : plainFor mX9_layWithin.1 = true := by decide +kernel
theorem pfX9_position : plainFor mX9_position.1 = true := by decide +kernel
theorem pfX9_placesOf : plainFor mX9_placesOf.1 = true := by decide +kernel
theorem pfX9_move : plainFor mX9_move.1 = true := by decide +kernel
theorem pfX9_parent : plainFor mX9_parent.1 = true := by decide +kernel
theorem pfX9_around : plainFor mX9_around.1 = true := by decide +kernel
theorem pfX9_takeKid : plainFor mX9_takeKid.1 = true := by decide +kernel
theorem pfX9_cut : plainFor mX9_cut.1 = true := by decide +kernel
theorem pfX9_shift : plainFor mX9_shift.1 = true := by decide +kernel
theorem pfX9_edit : plainFor mX9_edit.1 = true := by decide +kernel
theorem pfX9_hasText : plainFor mX9_hasText.1 = true := by decide +kernel
theorem pfX9_mark : plainFor mX9_mark.1 = true := by decide +kernel
theorem pfX9_fold : plainFor mX9_fold.1 = true := by decide +kernel
theorem pfX9_hasKids : plainFor mX9_hasKids.1 = true := by decide +kernel
theorem pfX9_rows : plainFor mX9_rows.1 = true := by decide +kernel
theorem pfX9_foldLevel : plainFor mX9_foldLevel.1 = true := by decide +kernel
theorem pfX9_show : plainFor mX9_show.1 = true := by decide +kernel
theorem pfX9_isNode : plainFor mX9_isNode.1 = true := by decide +kernel
theorem pfX9_firstPlace : plainFor mX9_firstPlace.1 = true := by decide +kernel
theorem pfX9_rowOf : plainFor mX9_rowOf.1 = true := by decide +kernel
theorem pfX9_type : plainFor mX9_type.1 = true := by decide +kernel
theorem pfX9_clearText : plainFor mX9_clearText.1 = true := by decide +kernel
theorem pfX9_readOutline : plainFor mX9_readOutline.1 = true := by decide +kernel
theorem pfX9_readsFault : plainFor mX9_readsFault.1 = true := by decide +kernel
theorem pfX9_isOpen : plainFor mX9_isOpen.1 = true := by decide +kernel
theorem pfX9_stands : plainFor mX9_stands.1 = true := by decide +kernel
theorem pfX9_undo : plainFor mX9_undo.1 = true := by decide +kernel
theorem pfX9_keep : plainFor mX9_keep.1 = true := by decide +kernel
theorem pfX9_restore : plainFor mX9_restore.1 = true := by decide +kernel
theorem pfX9_row : plainFor mX9_row.1 = true := by decide +kernel
theorem pfX9_rowsWithin : plainFor mX9_rowsWithin.1 = true := by decide +kernel
theorem pfX9_number : plainFor mX9_number.1 = true := by decide +kernel
theorem pfX9_charAt : plainFor mX9_charAt.1 = true := by decide +kernel
theorem pfX9_node : plainFor mX9_node.1 = true := by decide +kernel
theorem pfX9_parents : plainFor mX9_parents.1 = true := by decide +kernel
theorem pfX9_seenPlaces : plainFor mX9_seenPlaces.1 = true := by decide +kernel
theorem pfX9_firstRow : plainFor mX9_firstRow.1 = true := by decide +kernel
theorem pfX9_nextMarked : plainFor mX9_nextMarked.1 = true := by decide +kernel
theorem pfX9_find : plainFor mX9_find.1 = true := by decide +kernel
theorem pfX9_count : plainFor mX9_count.1 = true := by decide +kernel
theorem pfX9_nodes : plainFor mX9_nodes.1 = true := by decide +kernel
theorem pfX9_foldedPlaces : plainFor mX9_foldedPlaces.1 = true := by decide +kernel
theorem pfX9_greatestLevel : plainFor mX9_greatestLevel.1 = true := by decide +kernel
theorem k_oi : Cond.instanceMethod objectInit ∈ TG := TG_in (List.mem_append_right _ (List.mem_of_getElem? (i := 20) (by decide +kernel))) (by decide +kernel)
theorem k_oc : Cond.code objectInit ⟨#[0xb1]⟩ 1 none ∈ TG := TG_in (List.mem_append_right _ (List.mem_of_getElem? (i := 21) (by decide +kernel))) (by decide +kernel)
theorem k_nat : Cond.native arraycopyName ∈ TG := TG_in (List.mem_append_right _ (List.mem_of_getElem? (i := 234) (by decide +kernel))) (by decide +kernel)
theorem k_sta : Cond.static arraycopyName ∈ TG := TG_in (List.mem_append_right _ (List.mem_of_getElem? (i := 233) (by decide +kernel))) (by decide +kernel)
theorem k_sys : Cond.initialized "java/lang/System" ∈ TG := TG_in (List.mem_append_right _ (List.mem_of_getElem? (i := 11) (by decide +kernel))) (by decide +kernel)
theorem k_aI : Cond.arrayClass .int ∈ TG := TG_in (List.mem_append_right _ (List.mem_of_getElem? (i := 38) (by decide +kernel))) (by decide +kernel)
theorem k_aZ : Cond.arrayClass .boolean ∈ TG := TG_in (List.mem_append_right _ (List.mem_of_getElem? (i := 694) (by decide +kernel))) (by decide +kernel)
theorem k_aC : Cond.arrayClass .char ∈ TG := TG_in (List.mem_append_right _ (List.mem_of_getElem? (i := 695) (by decide +kernel))) (by decide +kernel)
theorem clX6_84 : Cond.constantLong RX6 84 (-1) ∈ TG := TG_in (List.mem_append_right _ (List.mem_of_getElem? (i := 390) (by decide +kernel))) (by decide +kernel)
theorem clJ13_314 : Cond.constantLong RJ13 314 (6148914691236517205) ∈ TG := TG_in (List.mem_append_right _ (List.mem_of_getElem? (i := 394) (by decide +kernel))) (by decide +kernel)
theorem clJ13_316 : Cond.constantLong RJ13 316 (3689348814741910323) ∈ TG := TG_in (List.mem_append_right _ (List.mem_of_getElem? (i := 395) (by decide +kernel))) (by decide +kernel)
theorem clJ13_318 : Cond.constantLong RJ13 318 (1085102592571150095) ∈ TG := TG_in (List.mem_append_right _ (List.mem_of_getElem? (i := 396) (by decide +kernel))) (by decide +kernel)
theorem nL_7 : NA RL 7 8 [.null, .null, .null, .null, .null, .int 0, .null, .null] := ⟨RX8, TX8, 8, tyX8, rfl, rfl, TG_in (List.mem_append_right _ (List.mem_of_getElem? (i := 14) (by decide +kernel))) (by decide +kernel), TG_in (List.mem_append_right _ (List.mem_of_getElem? (i := 15) (by decide +kernel))) (by decide +kernel), kiX8, wX8_in, tyX8_ok, fun j hj => by have : j < 8 := hj; (rcases (show j = 0 ∨ j = 1 ∨ j = 2 ∨ j = 3 ∨ j = 4 ∨ j = 5 ∨ j = 6 ∨ j = 7 by omega) with rfl | rfl | rfl | rfl | rfl | rfl | rfl | rfl <;> rfl)⟩
theorem nX8_7 : NA RX8 7 7 [.null, .int 0] := ⟨RX7, TX7, 2, tyX7, rfl, rfl, TG_in (List.mem_append_right _ (List.mem_of_getElem? (i := 22) (by decide +kernel))) (by decide +kernel), TG_in (List.mem_append_right _ (List.mem_of_getElem? (i := 23) (by decide +kernel))) (by decide +kernel), kiX7, wX7_in, tyX7_ok, fun j hj => by have : j < 2 := hj; (rcases (show j = 0 ∨ j = 1 by omega) with rfl | rfl <;> rfl)⟩
theorem nX8_16 : NA RX8 16 4 [.null, .null, .int 0, .int 0, .int 0] := ⟨RX4, TX4, 5, tyX4, rfl, rfl, TG_in (List.mem_append_right _ (List.mem_of_getElem? (i := 39) (by decide +kernel))) (by decide +kernel), TG_in (List.mem_append_right _ (List.mem_of_getElem? (i := 40) (by decide +kernel))) (by decide +kernel), kiX4, wX4_in, tyX4_ok, fun j hj => by have : j < 5 := hj; (rcases (show j = 0 ∨ j = 1 ∨ j = 2 ∨ j = 3 ∨ j = 4 by omega) with rfl | rfl | rfl | rfl | rfl <;> rfl)⟩
theorem nX8_23 : NA RX8 23 5 [.null, .null, .int 0] := ⟨RX5, TX5, 3, tyX5, rfl, rfl, TG_in (List.mem_append_right _ (List.mem_of_getElem? (i := 61) (by decide +kernel))) (by decide +kernel), TG_in (List.mem_append_right _ (List.mem_of_getElem? (i := 62) (by decide +kernel))) (by decide +kernel), kiX5, wX5_in, tyX5_ok, fun j hj => by have : j < 3 := hj; (rcases (show j = 0 ∨ j = 1 ∨ j = 2 by omega) with rfl | rfl | rfl <;> rfl)⟩
theorem nX8_30 : NA RX8 30 0 [.null, .int 0, .int 0] := ⟨RX0, TX0, 3, tyX0, rfl, rfl, TG_in (List.mem_append_right _ (List.mem_of_getElem? (i := 78) (by decide +kernel))) (by decide +kernel), TG_in (List.mem_append_right _ (List.mem_of_getElem? (i := 79) (by decide +kernel))) (by decide +kernel), kiX0, wX0_in, tyX0_ok, fun j hj => by have : j < 3 := hj; (rcases (show j = 0 ∨ j = 1 ∨ j = 2 by omega) with rfl | rfl | rfl <;> rfl)⟩
theorem clkX0_9 : Cond.classLink RX0 9 "CloneOutline$State" ∈ TG := TG_in (List.mem_append_right _ (List.mem_of_getElem? (i := 84) (by decide +kernel))) (by decide +kernel)
theorem nX0_9 : NA RX0 9 6 [.null, .null, .null] := ⟨RX6, TX6, 3, tyX6, rfl, rfl, TG_in (List.mem_append_right _ (List.mem_of_getElem? (i := 84) (by decide +kernel))) (by decide +kernel), TG_in (List.mem_append_right _ (List.mem_of_getElem? (i := 86) (by decide +kernel))) (by decide +kernel), kiX6, wX6_in, tyX6_ok, fun j hj => by have : j < 3 := hj; (rcases (show j = 0 ∨ j = 1 ∨ j = 2 by omega) with rfl | rfl | rfl <;> rfl)⟩
theorem nX6_9 : NA RX6 9 2 [.null, .null, .null, .int 0] := ⟨RX2, TX2, 4, tyX2, rfl, rfl, TG_in (List.mem_append_right _ (List.mem_of_getElem? (i := 91) (by decide +kernel))) (by decide +kernel), TG_in (List.mem_append_right _ (List.mem_of_getElem? (i := 92) (by decide +kernel))) (by decide +kernel), kiX2, wX2_in, tyX2_ok, fun j hj => by have : j < 4 := hj; (rcases (show j = 0 ∨ j = 1 ∨ j = 2 ∨ j = 3 by omega) with rfl | rfl | rfl | rfl <;> rfl)⟩
theorem nX6_18 : NA RX6 18 1 [.null, .null, .int 0] := ⟨RX1, TX1, 3, tyX1, rfl, rfl, TG_in (List.mem_append_right _ (List.mem_of_getElem? (i := 112) (by decide +kernel))) (by decide +kernel), TG_in (List.mem_append_right _ (List.mem_of_getElem? (i := 113) (by decide +kernel))) (by decide +kernel), kiX1, wX1_in, tyX1_ok, fun j hj => by have : j < 3 := hj; (rcases (show j = 0 ∨ j = 1 ∨ j = 2 by omega) with rfl | rfl | rfl <;> rfl)⟩
theorem nX6_25 : NA RX6 25 3 [.null, .null, .null, .int 0] := ⟨RX3, TX3, 4, tyX3, rfl, rfl, TG_in (List.mem_append_right _ (List.mem_of_getElem? (i := 131) (by decide +kernel))) (by decide +kernel), TG_in (List.mem_append_right _ (List.mem_of_getElem? (i := 132) (by decide +kernel))) (by decide +kernel), kiX3, wX3_in, tyX3_ok, fun j hj => by have : j < 4 := hj; (rcases (show j = 0 ∨ j = 1 ∨ j = 2 ∨ j = 3 by omega) with rfl | rfl | rfl | rfl <;> rfl)⟩
theorem nX8_37 : NA RX8 37 6 [.null, .null, .null] := ⟨RX6, TX6, 3, tyX6, rfl, rfl, TG_in (List.mem_append_right _ (List.mem_of_getElem? (i := 181) (by decide +kernel))) (by decide +kernel), TG_in (List.mem_append_right _ (List.mem_of_getElem? (i := 86) (by decide +kernel))) (by decide +kernel), kiX6, wX6_in, tyX6_ok, fun j hj => by have : j < 3 := hj; (rcases (show j = 0 ∨ j = 1 ∨ j = 2 by omega) with rfl | rfl | rfl <;> rfl)⟩
theorem nL_10 : NA RL 10 9 [.null, .null, .int 0, .null, .int 0, .null, .null, .null, .null, .null, .null, .null, .int 0, .null, .null, .int 0, .null, .null, .null, .null] := ⟨RX9, TX9, 20, tyX9, rfl, rfl, TG_in (List.mem_append_right _ (List.mem_of_getElem? (i := 627) (by decide +kernel))) (by decide +kernel), TG_in (List.mem_append_right _ (List.mem_of_getElem? (i := 628) (by decide +kernel))) (by decide +kernel), kiX9, wX9_in, tyX9_ok, fun j hj => by have : j < 20 := hj; (rcases (show j = 0 ∨ j = 1 ∨ j = 2 ∨ j = 3 ∨ j = 4 ∨ j = 5 ∨ j = 6 ∨ j = 7 ∨ j = 8 ∨ j = 9 ∨ j = 10 ∨ j = 11 ∨ j = 12 ∨ j = 13 ∨ j = 14 ∨ j = 15 ∨ j = 16 ∨ j = 17 ∨ j = 18 ∨ j = 19 by omega) with rfl | rfl | rfl | rfl | rfl | rfl | rfl | rfl | rfl | rfl | rfl | rfl | rfl | rfl | rfl | rfl | rfl | rfl | rfl | rfl <;> rfl)⟩
end
