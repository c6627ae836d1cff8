section
-- ===== PART A: goes FIRST, ahead of the names: the tables' words, and 'selects' of the private methods out of them =====
/-- a private method of a class that the tables say can be made, by its rows of tables_1 -/
def lw_okq (q : MethodName × Nat) : Prop := (q.1.cls ≠ "java/lang/invoke/MethodHandle" ∧ q.1.cls ≠ "java/lang/invoke/VarHandle") ∧ Cond.instantiable q.1.cls q.2 ∈ tables_1 ∧ Cond.privateMethod q.1 ∈ tables_1 ∧ Cond.instanceMethod q.1 ∈ tables_1
theorem lw_p0 : lw_okq (⟨"LightingDesk$CueBook", "placeFor", "(II)I"⟩, 2) := ⟨⟨by decide +kernel, by decide +kernel⟩, List.mem_of_getElem? (i := 59) (by decide +kernel), List.mem_of_getElem? (i := 234) (by decide +kernel), List.mem_of_getElem? (i := 235) (by decide +kernel)⟩
theorem lw_p1 : lw_okq (⟨"LightingDesk$CueBook", "isIn", "(II)Z"⟩, 2) := ⟨⟨by decide +kernel, by decide +kernel⟩, List.mem_of_getElem? (i := 59) (by decide +kernel), List.mem_of_getElem? (i := 242) (by decide +kernel), List.mem_of_getElem? (i := 243) (by decide +kernel)⟩
theorem lw_p2 : lw_okq (⟨"java/lang/Throwable", "fillInStackTrace", "(I)Ljava/lang/Throwable;"⟩, 6) := ⟨⟨by decide +kernel, by decide +kernel⟩, List.mem_of_getElem? (i := 330) (by decide +kernel), List.mem_of_getElem? (i := 328) (by decide +kernel), List.mem_of_getElem? (i := 329) (by decide +kernel)⟩
theorem lw_p3 : lw_okq (⟨"LightingDesk$CueBook", "insert", "(III)V"⟩, 2) := ⟨⟨by decide +kernel, by decide +kernel⟩, List.mem_of_getElem? (i := 59) (by decide +kernel), List.mem_of_getElem? (i := 378) (by decide +kernel), List.mem_of_getElem? (i := 379) (by decide +kernel)⟩
theorem lw_p4 : lw_okq (⟨"LightingDesk$CueBook", "keepChannels", "(ILLightingDesk$ValueRow;)V"⟩, 2) := ⟨⟨by decide +kernel, by decide +kernel⟩, List.mem_of_getElem? (i := 59) (by decide +kernel), List.mem_of_getElem? (i := 387) (by decide +kernel), List.mem_of_getElem? (i := 388) (by decide +kernel)⟩
theorem lw_p5 : lw_okq (⟨"LightingDesk$CueBook", "putAll", "(ILLightingDesk$ValueRow;)V"⟩, 2) := ⟨⟨by decide +kernel, by decide +kernel⟩, List.mem_of_getElem? (i := 59) (by decide +kernel), List.mem_of_getElem? (i := 408) (by decide +kernel), List.mem_of_getElem? (i := 409) (by decide +kernel)⟩
theorem lw_p6 : lw_okq (⟨"LightingDesk", "placeOrThrow", "(II)I"⟩, 7) := ⟨⟨by decide +kernel, by decide +kernel⟩, List.mem_of_getElem? (i := 19) (by decide +kernel), List.mem_of_getElem? (i := 436) (by decide +kernel), List.mem_of_getElem? (i := 437) (by decide +kernel)⟩
theorem lw_p7 : lw_okq (⟨"LightingDesk$CueBook", "takeOut", "(I)V"⟩, 2) := ⟨⟨by decide +kernel, by decide +kernel⟩, List.mem_of_getElem? (i := 59) (by decide +kernel), List.mem_of_getElem? (i := 478) (by decide +kernel), List.mem_of_getElem? (i := 479) (by decide +kernel)⟩
theorem lw_p8 : lw_okq (⟨"LightingDesk", "isTellable", "(I)Z"⟩, 7) := ⟨⟨by decide +kernel, by decide +kernel⟩, List.mem_of_getElem? (i := 19) (by decide +kernel), List.mem_of_getElem? (i := 568) (by decide +kernel), List.mem_of_getElem? (i := 569) (by decide +kernel)⟩
theorem lw_p9 : lw_okq (⟨"LightingDesk", "tell", "(I)V"⟩, 7) := ⟨⟨by decide +kernel, by decide +kernel⟩, List.mem_of_getElem? (i := 19) (by decide +kernel), List.mem_of_getElem? (i := 574) (by decide +kernel), List.mem_of_getElem? (i := 575) (by decide +kernel)⟩
theorem lw_p10 : lw_okq (⟨"LightingDesk", "earliestDue", "(I)I"⟩, 7) := ⟨⟨by decide +kernel, by decide +kernel⟩, List.mem_of_getElem? (i := 19) (by decide +kernel), List.mem_of_getElem? (i := 578) (by decide +kernel), List.mem_of_getElem? (i := 579) (by decide +kernel)⟩
theorem lw_p11 : lw_okq (⟨"LightingDesk", "followOn", "(LLightingDesk$Player;)V"⟩, 7) := ⟨⟨by decide +kernel, by decide +kernel⟩, List.mem_of_getElem? (i := 19) (by decide +kernel), List.mem_of_getElem? (i := 582) (by decide +kernel), List.mem_of_getElem? (i := 583) (by decide +kernel)⟩
theorem lw_p12 : lw_okq (⟨"LightingDesk", "startCue", "(LLightingDesk$Player;II)V"⟩, 7) := ⟨⟨by decide +kernel, by decide +kernel⟩, List.mem_of_getElem? (i := 19) (by decide +kernel), List.mem_of_getElem? (i := 587) (by decide +kernel), List.mem_of_getElem? (i := 588) (by decide +kernel)⟩
theorem lw_p13 : lw_okq (⟨"LightingDesk", "latestLevel", "(I)I"⟩, 7) := ⟨⟨by decide +kernel, by decide +kernel⟩, List.mem_of_getElem? (i := 19) (by decide +kernel), List.mem_of_getElem? (i := 610) (by decide +kernel), List.mem_of_getElem? (i := 611) (by decide +kernel)⟩
theorem lw_p14 : lw_okq (⟨"LightingDesk", "greatestLevel", "(I)I"⟩, 7) := ⟨⟨by decide +kernel, by decide +kernel⟩, List.mem_of_getElem? (i := 19) (by decide +kernel), List.mem_of_getElem? (i := 619) (by decide +kernel), List.mem_of_getElem? (i := 620) (by decide +kernel)⟩
theorem lw_p15 : lw_okq (⟨"LightingDeskModel", "find", "(II)I"⟩, 24) := ⟨⟨by decide +kernel, by decide +kernel⟩, List.mem_of_getElem? (i := 635) (by decide +kernel), List.mem_of_getElem? (i := 749) (by decide +kernel), List.mem_of_getElem? (i := 750) (by decide +kernel)⟩
def lw_privs_1 : List (MethodName × Nat) := [(⟨"LightingDesk$CueBook", "placeFor", "(II)I"⟩, 2), (⟨"LightingDesk$CueBook", "isIn", "(II)Z"⟩, 2), (⟨"java/lang/Throwable", "fillInStackTrace", "(I)Ljava/lang/Throwable;"⟩, 6), (⟨"LightingDesk$CueBook", "insert", "(III)V"⟩, 2), (⟨"LightingDesk$CueBook", "keepChannels", "(ILLightingDesk$ValueRow;)V"⟩, 2), (⟨"LightingDesk$CueBook", "putAll", "(ILLightingDesk$ValueRow;)V"⟩, 2), (⟨"LightingDesk", "placeOrThrow", "(II)I"⟩, 7), (⟨"LightingDesk$CueBook", "takeOut", "(I)V"⟩, 2), (⟨"LightingDesk", "isTellable", "(I)Z"⟩, 7), (⟨"LightingDesk", "tell", "(I)V"⟩, 7), (⟨"LightingDesk", "earliestDue", "(I)I"⟩, 7), (⟨"LightingDesk", "followOn", "(LLightingDesk$Player;)V"⟩, 7), (⟨"LightingDesk", "startCue", "(LLightingDesk$Player;II)V"⟩, 7), (⟨"LightingDesk", "latestLevel", "(I)I"⟩, 7), (⟨"LightingDesk", "greatestLevel", "(I)I"⟩, 7), (⟨"LightingDeskModel", "find", "(II)I"⟩, 24)]
theorem lw_r1 : ∀ q ∈ lw_privs_1, lw_okq q := List.forall_mem_cons.mpr ⟨lw_p0, List.forall_mem_cons.mpr ⟨lw_p1, List.forall_mem_cons.mpr ⟨lw_p2, List.forall_mem_cons.mpr ⟨lw_p3, List.forall_mem_cons.mpr ⟨lw_p4, List.forall_mem_cons.mpr ⟨lw_p5, List.forall_mem_cons.mpr ⟨lw_p6, List.forall_mem_cons.mpr ⟨lw_p7, List.forall_mem_cons.mpr ⟨lw_p8, List.forall_mem_cons.mpr ⟨lw_p9, List.forall_mem_cons.mpr ⟨lw_p10, List.forall_mem_cons.mpr ⟨lw_p11, List.forall_mem_cons.mpr ⟨lw_p12, List.forall_mem_cons.mpr ⟨lw_p13, List.forall_mem_cons.mpr ⟨lw_p14, List.forall_mem_cons.mpr ⟨lw_p15, fun _ h => absurd h List.not_mem_nil⟩⟩⟩⟩⟩⟩⟩⟩⟩⟩⟩⟩⟩⟩⟩⟩
theorem lw_p16 : lw_okq (⟨"LightingDeskModel", "above", "(II)I"⟩, 24) := ⟨⟨by decide +kernel, by decide +kernel⟩, List.mem_of_getElem? (i := 635) (by decide +kernel), List.mem_of_getElem? (i := 753) (by decide +kernel), List.mem_of_getElem? (i := 754) (by decide +kernel)⟩
theorem lw_p17 : lw_okq (⟨"LightingDeskModel", "moveOf", "(II)I"⟩, 24) := ⟨⟨by decide +kernel, by decide +kernel⟩, List.mem_of_getElem? (i := 635) (by decide +kernel), List.mem_of_getElem? (i := 757) (by decide +kernel), List.mem_of_getElem? (i := 758) (by decide +kernel)⟩
theorem lw_p18 : lw_okq (⟨"LightingDeskModel", "cueCount", "()I"⟩, 24) := ⟨⟨by decide +kernel, by decide +kernel⟩, List.mem_of_getElem? (i := 635) (by decide +kernel), List.mem_of_getElem? (i := 761) (by decide +kernel), List.mem_of_getElem? (i := 762) (by decide +kernel)⟩
theorem lw_p19 : lw_okq (⟨"LightingDeskModel", "moveCount", "()I"⟩, 24) := ⟨⟨by decide +kernel, by decide +kernel⟩, List.mem_of_getElem? (i := 635) (by decide +kernel), List.mem_of_getElem? (i := 765) (by decide +kernel), List.mem_of_getElem? (i := 766) (by decide +kernel)⟩
theorem lw_p20 : lw_okq (⟨"LightingDeskModel", "movesOf", "(I)I"⟩, 24) := ⟨⟨by decide +kernel, by decide +kernel⟩, List.mem_of_getElem? (i := 635) (by decide +kernel), List.mem_of_getElem? (i := 769) (by decide +kernel), List.mem_of_getElem? (i := 770) (by decide +kernel)⟩
theorem lw_p21 : lw_okq (⟨"LightingDeskModel", "keptMoves", "(I)I"⟩, 24) := ⟨⟨by decide +kernel, by decide +kernel⟩, List.mem_of_getElem? (i := 635) (by decide +kernel), List.mem_of_getElem? (i := 773) (by decide +kernel), List.mem_of_getElem? (i := 774) (by decide +kernel)⟩
theorem lw_p22 : lw_okq (⟨"LightingDeskModel", "note", "(I)V"⟩, 24) := ⟨⟨by decide +kernel, by decide +kernel⟩, List.mem_of_getElem? (i := 635) (by decide +kernel), List.mem_of_getElem? (i := 777) (by decide +kernel), List.mem_of_getElem? (i := 778) (by decide +kernel)⟩
theorem lw_p23 : lw_okq (⟨"LightingDeskModel", "tracked", "(III)I"⟩, 24) := ⟨⟨by decide +kernel, by decide +kernel⟩, List.mem_of_getElem? (i := 635) (by decide +kernel), List.mem_of_getElem? (i := 781) (by decide +kernel), List.mem_of_getElem? (i := 782) (by decide +kernel)⟩
theorem lw_p24 : lw_okq (⟨"LightingDeskModel", "sourceOf", "(III)I"⟩, 24) := ⟨⟨by decide +kernel, by decide +kernel⟩, List.mem_of_getElem? (i := 635) (by decide +kernel), List.mem_of_getElem? (i := 785) (by decide +kernel), List.mem_of_getElem? (i := 786) (by decide +kernel)⟩
theorem lw_p25 : lw_okq (⟨"LightingDeskModel", "below", "(II)I"⟩, 24) := ⟨⟨by decide +kernel, by decide +kernel⟩, List.mem_of_getElem? (i := 635) (by decide +kernel), List.mem_of_getElem? (i := 789) (by decide +kernel), List.mem_of_getElem? (i := 790) (by decide +kernel)⟩
theorem lw_p26 : lw_okq (⟨"LightingDeskModel", "make", "(II)I"⟩, 24) := ⟨⟨by decide +kernel, by decide +kernel⟩, List.mem_of_getElem? (i := 635) (by decide +kernel), List.mem_of_getElem? (i := 793) (by decide +kernel), List.mem_of_getElem? (i := 794) (by decide +kernel)⟩
theorem lw_p27 : lw_okq (⟨"LightingDeskModel", "put", "(III)V"⟩, 24) := ⟨⟨by decide +kernel, by decide +kernel⟩, List.mem_of_getElem? (i := 635) (by decide +kernel), List.mem_of_getElem? (i := 797) (by decide +kernel), List.mem_of_getElem? (i := 798) (by decide +kernel)⟩
theorem lw_p28 : lw_okq (⟨"LightingDeskModel", "keep", "(II)V"⟩, 24) := ⟨⟨by decide +kernel, by decide +kernel⟩, List.mem_of_getElem? (i := 635) (by decide +kernel), List.mem_of_getElem? (i := 801) (by decide +kernel), List.mem_of_getElem? (i := 802) (by decide +kernel)⟩
theorem lw_p29 : lw_okq (⟨"LightingDeskModel", "has", "(II)Z"⟩, 24) := ⟨⟨by decide +kernel, by decide +kernel⟩, List.mem_of_getElem? (i := 635) (by decide +kernel), List.mem_of_getElem? (i := 809) (by decide +kernel), List.mem_of_getElem? (i := 810) (by decide +kernel)⟩
theorem lw_p30 : lw_okq (⟨"LightingDeskModel", "lookOf", "(III)I"⟩, 24) := ⟨⟨by decide +kernel, by decide +kernel⟩, List.mem_of_getElem? (i := 635) (by decide +kernel), List.mem_of_getElem? (i := 836) (by decide +kernel), List.mem_of_getElem? (i := 837) (by decide +kernel)⟩
theorem lw_p31 : lw_okq (⟨"LightingDeskModel", "levelOf", "(II)I"⟩, 24) := ⟨⟨by decide +kernel, by decide +kernel⟩, List.mem_of_getElem? (i := 635) (by decide +kernel), List.mem_of_getElem? (i := 840) (by decide +kernel), List.mem_of_getElem? (i := 841) (by decide +kernel)⟩
def lw_privs_2 : List (MethodName × Nat) := [(⟨"LightingDeskModel", "above", "(II)I"⟩, 24), (⟨"LightingDeskModel", "moveOf", "(II)I"⟩, 24), (⟨"LightingDeskModel", "cueCount", "()I"⟩, 24), (⟨"LightingDeskModel", "moveCount", "()I"⟩, 24), (⟨"LightingDeskModel", "movesOf", "(I)I"⟩, 24), (⟨"LightingDeskModel", "keptMoves", "(I)I"⟩, 24), (⟨"LightingDeskModel", "note", "(I)V"⟩, 24), (⟨"LightingDeskModel", "tracked", "(III)I"⟩, 24), (⟨"LightingDeskModel", "sourceOf", "(III)I"⟩, 24), (⟨"LightingDeskModel", "below", "(II)I"⟩, 24), (⟨"LightingDeskModel", "make", "(II)I"⟩, 24), (⟨"LightingDeskModel", "put", "(III)V"⟩, 24), (⟨"LightingDeskModel", "keep", "(II)V"⟩, 24), (⟨"LightingDeskModel", "has", "(II)Z"⟩, 24), (⟨"LightingDeskModel", "lookOf", "(III)I"⟩, 24), (⟨"LightingDeskModel", "levelOf", "(II)I"⟩, 24)]
theorem lw_r2 : ∀ q ∈ lw_privs_2, lw_okq q := List.forall_mem_cons.mpr ⟨lw_p16, List.forall_mem_cons.mpr ⟨lw_p17, List.forall_mem_cons.mpr ⟨lw_p18, List.forall_mem_cons.mpr ⟨lw_p19, List.forall_mem_cons.mpr ⟨lw_p20, List.forall_mem_cons.mpr ⟨lw_p21, List.forall_mem_cons.mpr ⟨lw_p22, List.forall_mem_cons.mpr ⟨lw_p23, List.forall_mem_cons.mpr ⟨lw_p24, List.forall_mem_cons.mpr ⟨lw_p25, List.forall_mem_cons.mpr ⟨lw_p26, List.forall_mem_cons.mpr ⟨lw_p27, List.forall_mem_cons.mpr ⟨lw_p28, List.forall_mem_cons.mpr ⟨lw_p29, List.forall_mem_cons.mpr ⟨lw_p30, List.forall_mem_cons.mpr ⟨lw_p31, fun _ h => absurd h List.not_mem_nil⟩⟩⟩⟩⟩⟩⟩⟩⟩⟩⟩⟩⟩⟩⟩⟩
theorem lw_p32 : lw_okq (⟨"LightingDeskModel", "isTick", "(I)Z"⟩, 24) := ⟨⟨by decide +kernel, by decide +kernel⟩, List.mem_of_getElem? (i := 635) (by decide +kernel), List.mem_of_getElem? (i := 863) (by decide +kernel), List.mem_of_getElem? (i := 864) (by decide +kernel)⟩
theorem lw_p33 : lw_okq (⟨"LightingDeskModel", "tell", "(I)V"⟩, 24) := ⟨⟨by decide +kernel, by decide +kernel⟩, List.mem_of_getElem? (i := 635) (by decide +kernel), List.mem_of_getElem? (i := 868) (by decide +kernel), List.mem_of_getElem? (i := 869) (by decide +kernel)⟩
theorem lw_p34 : lw_okq (⟨"LightingDeskModel", "start", "(III)V"⟩, 24) := ⟨⟨by decide +kernel, by decide +kernel⟩, List.mem_of_getElem? (i := 635) (by decide +kernel), List.mem_of_getElem? (i := 872) (by decide +kernel), List.mem_of_getElem? (i := 873) (by decide +kernel)⟩
theorem lw_p35 : lw_okq (⟨"LightingDeskModel", "levelAt", "(III)I"⟩, 24) := ⟨⟨by decide +kernel, by decide +kernel⟩, List.mem_of_getElem? (i := 635) (by decide +kernel), List.mem_of_getElem? (i := 876) (by decide +kernel), List.mem_of_getElem? (i := 877) (by decide +kernel)⟩
theorem lw_p36 : lw_okq (⟨"LightingDeskModel", "merged", "(I)I"⟩, 24) := ⟨⟨by decide +kernel, by decide +kernel⟩, List.mem_of_getElem? (i := 635) (by decide +kernel), List.mem_of_getElem? (i := 888) (by decide +kernel), List.mem_of_getElem? (i := 889) (by decide +kernel)⟩
def lw_privs_3 : List (MethodName × Nat) := [(⟨"LightingDeskModel", "isTick", "(I)Z"⟩, 24), (⟨"LightingDeskModel", "tell", "(I)V"⟩, 24), (⟨"LightingDeskModel", "start", "(III)V"⟩, 24), (⟨"LightingDeskModel", "levelAt", "(III)I"⟩, 24), (⟨"LightingDeskModel", "merged", "(I)I"⟩, 24)]
theorem lw_r3 : ∀ q ∈ lw_privs_3, lw_okq q := List.forall_mem_cons.mpr ⟨lw_p32, List.forall_mem_cons.mpr ⟨lw_p33, List.forall_mem_cons.mpr ⟨lw_p34, List.forall_mem_cons.mpr ⟨lw_p35, List.forall_mem_cons.mpr ⟨lw_p36, fun _ h => absurd h List.not_mem_nil⟩⟩⟩⟩⟩
def lw_privs : List (MethodName × Nat) := lw_privs_1 ++ (lw_privs_2 ++ (lw_privs_3))
def lw_tbl : List Cond := k2_sels lw_privs ++ tables_1
theorem lw_privs_ok : ∀ q ∈ lw_privs, lw_okq q := by
  show ∀ q ∈ lw_privs_1 ++ (lw_privs_2 ++ (lw_privs_3)), lw_okq q
  exact List.forall_mem_append.mpr ⟨lw_r1, List.forall_mem_append.mpr ⟨lw_r2, lw_r3⟩⟩
end
section
/-! NAMES of methods and their code (printed by wip/gen/gen_names2.py) -/
abbrev y_D_init : MethodName := ⟨"LightingDesk", "<init>", "()V"⟩
abbrev b_D_init : ByteArray := prog_1_method_1_code
abbrev y_D_kind : MethodName := ⟨"LightingDesk", "kind", "(IZ)Z"⟩
abbrev b_D_kind : ByteArray := prog_1_method_2_code
abbrev y_D_set : MethodName := ⟨"LightingDesk", "set", "(II)Z"⟩
abbrev b_D_set : ByteArray := prog_1_method_3_code
abbrev y_D_use : MethodName := ⟨"LightingDesk", "use", "(II)Z"⟩
abbrev b_D_use : ByteArray := prog_1_method_4_code
abbrev y_D_release : MethodName := ⟨"LightingDesk", "release", "(I)I"⟩
abbrev b_D_release : ByteArray := prog_1_method_5_code
abbrev y_D_palette : MethodName := ⟨"LightingDesk", "palette", "(III)Z"⟩
abbrev b_D_palette : ByteArray := prog_1_method_6_code
abbrev y_D_record : MethodName := ⟨"LightingDesk", "record", "(IIZ)I"⟩
abbrev b_D_record : ByteArray := prog_1_method_7_code
abbrev y_D_update : MethodName := ⟨"LightingDesk", "update", "(II)I"⟩
abbrev b_D_update : ByteArray := prog_1_method_8_code
abbrev y_D_delete : MethodName := ⟨"LightingDesk", "delete", "(IIZ)I"⟩
abbrev b_D_delete : ByteArray := prog_1_method_9_code
abbrev y_D_block : MethodName := ⟨"LightingDesk", "block", "(IIZ)I"⟩
abbrev b_D_block : ByteArray := prog_1_method_10_code
abbrev y_D_times : MethodName := ⟨"LightingDesk", "times", "(IIII)Z"⟩
abbrev b_D_times : ByteArray := prog_1_method_11_code
abbrev y_D_delays : MethodName := ⟨"LightingDesk", "delays", "(IIII)Z"⟩
abbrev b_D_delays : ByteArray := prog_1_method_12_code
abbrev y_D_look : MethodName := ⟨"LightingDesk", "look", "(III)I"⟩
abbrev b_D_look : ByteArray := prog_1_method_13_code
abbrev y_D_source : MethodName := ⟨"LightingDesk", "source", "(III)I"⟩
abbrev b_D_source : ByteArray := prog_1_method_14_code
abbrev y_D_cue : MethodName := ⟨"LightingDesk", "cue", "(III)I"⟩
abbrev b_D_cue : ByteArray := prog_1_method_15_code
abbrev y_D_assign : MethodName := ⟨"LightingDesk", "assign", "(II)Z"⟩
abbrev b_D_assign : ByteArray := prog_1_method_16_code
abbrev y_D_go : MethodName := ⟨"LightingDesk", "go", "(IZI)I"⟩
abbrev b_D_go : ByteArray := prog_1_method_17_code
abbrev y_D_master : MethodName := ⟨"LightingDesk", "master", "(II)Z"⟩
abbrev b_D_master : ByteArray := prog_1_method_18_code
abbrev y_D_out : MethodName := ⟨"LightingDesk", "out", "(II)I"⟩
abbrev b_D_out : ByteArray := prog_1_method_19_code
abbrev y_D_playback : MethodName := ⟨"LightingDesk", "playback", "(II)I"⟩
abbrev b_D_playback : ByteArray := prog_1_method_20_code
abbrev y_D_count : MethodName := ⟨"LightingDesk", "count", "(I)I"⟩
abbrev b_D_count : ByteArray := prog_1_method_21_code
abbrev y_D_isChannel : MethodName := ⟨"LightingDesk", "isChannel", "(I)Z"⟩
abbrev b_D_isChannel : ByteArray := prog_1_method_22_code
abbrev y_D_isLevel : MethodName := ⟨"LightingDesk", "isLevel", "(I)Z"⟩
abbrev b_D_isLevel : ByteArray := prog_1_method_23_code
abbrev y_D_isPalette : MethodName := ⟨"LightingDesk", "isPalette", "(I)Z"⟩
abbrev b_D_isPalette : ByteArray := prog_1_method_24_code
abbrev y_D_isList : MethodName := ⟨"LightingDesk", "isList", "(I)Z"⟩
abbrev b_D_isList : ByteArray := prog_1_method_25_code
abbrev y_D_isNumber : MethodName := ⟨"LightingDesk", "isNumber", "(I)Z"⟩
abbrev b_D_isNumber : ByteArray := prog_1_method_26_code
abbrev y_D_isPlayback : MethodName := ⟨"LightingDesk", "isPlayback", "(I)Z"⟩
abbrev b_D_isPlayback : ByteArray := prog_1_method_27_code
abbrev y_D_isTime : MethodName := ⟨"LightingDesk", "isTime", "(I)Z"⟩
abbrev b_D_isTime : ByteArray := prog_1_method_28_code
abbrev y_D_placeOrThrow : MethodName := ⟨"LightingDesk", "placeOrThrow", "(II)I"⟩
abbrev b_D_placeOrThrow : ByteArray := prog_1_method_29_code
abbrev y_D_isTellable : MethodName := ⟨"LightingDesk", "isTellable", "(I)Z"⟩
abbrev b_D_isTellable : ByteArray := prog_1_method_30_code
abbrev y_D_tell : MethodName := ⟨"LightingDesk", "tell", "(I)V"⟩
abbrev b_D_tell : ByteArray := prog_1_method_31_code
abbrev y_D_earliestDue : MethodName := ⟨"LightingDesk", "earliestDue", "(I)I"⟩
abbrev b_D_earliestDue : ByteArray := prog_1_method_32_code
abbrev y_D_followOn : MethodName := ⟨"LightingDesk", "followOn", "(LLightingDesk$Player;)V"⟩
abbrev b_D_followOn : ByteArray := prog_1_method_33_code
abbrev y_D_startCue : MethodName := ⟨"LightingDesk", "startCue", "(LLightingDesk$Player;II)V"⟩
abbrev b_D_startCue : ByteArray := prog_1_method_34_code
abbrev y_D_greatestLevel : MethodName := ⟨"LightingDesk", "greatestLevel", "(I)I"⟩
abbrev b_D_greatestLevel : ByteArray := prog_1_method_35_code
abbrev y_D_latestLevel : MethodName := ⟨"LightingDesk", "latestLevel", "(I)I"⟩
abbrev b_D_latestLevel : ByteArray := prog_1_method_36_code
abbrev y_M_init : MethodName := ⟨"LightingDeskModel", "<init>", "()V"⟩
abbrev b_M_init : ByteArray := prog_8_method_1_code
abbrev y_M_thrown : MethodName := ⟨"LightingDeskModel", "thrown", "()I"⟩
abbrev b_M_thrown : ByteArray := prog_8_method_2_code
abbrev y_M_isChannel : MethodName := ⟨"LightingDeskModel", "isChannel", "(I)Z"⟩
abbrev b_M_isChannel : ByteArray := prog_8_method_3_code
abbrev y_M_isLevel : MethodName := ⟨"LightingDeskModel", "isLevel", "(I)Z"⟩
abbrev b_M_isLevel : ByteArray := prog_8_method_4_code
abbrev y_M_isTime : MethodName := ⟨"LightingDeskModel", "isTime", "(I)Z"⟩
abbrev b_M_isTime : ByteArray := prog_8_method_5_code
abbrev y_M_isPlayback : MethodName := ⟨"LightingDeskModel", "isPlayback", "(I)Z"⟩
abbrev b_M_isPlayback : ByteArray := prog_8_method_6_code
abbrev y_M_kind : MethodName := ⟨"LightingDeskModel", "kind", "(IZ)Z"⟩
abbrev b_M_kind : ByteArray := prog_8_method_7_code
abbrev y_M_set : MethodName := ⟨"LightingDeskModel", "set", "(II)Z"⟩
abbrev b_M_set : ByteArray := prog_8_method_8_code
abbrev y_M_use : MethodName := ⟨"LightingDeskModel", "use", "(II)Z"⟩
abbrev b_M_use : ByteArray := prog_8_method_9_code
abbrev y_M_release : MethodName := ⟨"LightingDeskModel", "release", "(I)I"⟩
abbrev b_M_release : ByteArray := prog_8_method_10_code
abbrev y_M_palette : MethodName := ⟨"LightingDeskModel", "palette", "(III)Z"⟩
abbrev b_M_palette : ByteArray := prog_8_method_11_code
abbrev y_M_levelOf : MethodName := ⟨"LightingDeskModel", "levelOf", "(II)I"⟩
abbrev b_M_levelOf : ByteArray := prog_8_method_12_code
abbrev y_M_find : MethodName := ⟨"LightingDeskModel", "find", "(II)I"⟩
abbrev b_M_find : ByteArray := prog_8_method_13_code
abbrev y_M_above : MethodName := ⟨"LightingDeskModel", "above", "(II)I"⟩
abbrev b_M_above : ByteArray := prog_8_method_14_code
abbrev y_M_below : MethodName := ⟨"LightingDeskModel", "below", "(II)I"⟩
abbrev b_M_below : ByteArray := prog_8_method_15_code
abbrev y_M_moveOf : MethodName := ⟨"LightingDeskModel", "moveOf", "(II)I"⟩
abbrev b_M_moveOf : ByteArray := prog_8_method_16_code
abbrev y_M_sourceOf : MethodName := ⟨"LightingDeskModel", "sourceOf", "(III)I"⟩
abbrev b_M_sourceOf : ByteArray := prog_8_method_17_code
abbrev y_M_tracked : MethodName := ⟨"LightingDeskModel", "tracked", "(III)I"⟩
abbrev b_M_tracked : ByteArray := prog_8_method_18_code
abbrev y_M_movesOf : MethodName := ⟨"LightingDeskModel", "movesOf", "(I)I"⟩
abbrev b_M_movesOf : ByteArray := prog_8_method_19_code
abbrev y_M_cueCount : MethodName := ⟨"LightingDeskModel", "cueCount", "()I"⟩
abbrev b_M_cueCount : ByteArray := prog_8_method_20_code
abbrev y_M_moveCount : MethodName := ⟨"LightingDeskModel", "moveCount", "()I"⟩
abbrev b_M_moveCount : ByteArray := prog_8_method_21_code
abbrev y_M_put : MethodName := ⟨"LightingDeskModel", "put", "(III)V"⟩
abbrev b_M_put : ByteArray := prog_8_method_22_code
abbrev y_M_note : MethodName := ⟨"LightingDeskModel", "note", "(I)V"⟩
abbrev b_M_note : ByteArray := prog_8_method_23_code
abbrev y_M_keep : MethodName := ⟨"LightingDeskModel", "keep", "(II)V"⟩
abbrev b_M_keep : ByteArray := prog_8_method_24_code
abbrev y_M_keptMoves : MethodName := ⟨"LightingDeskModel", "keptMoves", "(I)I"⟩
abbrev b_M_keptMoves : ByteArray := prog_8_method_25_code
abbrev y_M_make : MethodName := ⟨"LightingDeskModel", "make", "(II)I"⟩
abbrev b_M_make : ByteArray := prog_8_method_26_code
abbrev y_M_record : MethodName := ⟨"LightingDeskModel", "record", "(IIZ)I"⟩
abbrev b_M_record : ByteArray := prog_8_method_27_code
abbrev y_M_has : MethodName := ⟨"LightingDeskModel", "has", "(II)Z"⟩
abbrev b_M_has : ByteArray := prog_8_method_28_code
abbrev y_M_update : MethodName := ⟨"LightingDeskModel", "update", "(II)I"⟩
abbrev b_M_update : ByteArray := prog_8_method_29_code
abbrev y_M_delete : MethodName := ⟨"LightingDeskModel", "delete", "(IIZ)I"⟩
abbrev b_M_delete : ByteArray := prog_8_method_30_code
abbrev y_M_block : MethodName := ⟨"LightingDeskModel", "block", "(IIZ)I"⟩
abbrev b_M_block : ByteArray := prog_8_method_31_code
abbrev y_M_times : MethodName := ⟨"LightingDeskModel", "times", "(IIII)Z"⟩
abbrev b_M_times : ByteArray := prog_8_method_32_code
abbrev y_M_delays : MethodName := ⟨"LightingDeskModel", "delays", "(IIII)Z"⟩
abbrev b_M_delays : ByteArray := prog_8_method_33_code
abbrev y_M_lookOf : MethodName := ⟨"LightingDeskModel", "lookOf", "(III)I"⟩
abbrev b_M_lookOf : ByteArray := prog_8_method_34_code
abbrev y_M_look : MethodName := ⟨"LightingDeskModel", "look", "(III)I"⟩
abbrev b_M_look : ByteArray := prog_8_method_35_code
abbrev y_M_source : MethodName := ⟨"LightingDeskModel", "source", "(III)I"⟩
abbrev b_M_source : ByteArray := prog_8_method_36_code
abbrev y_M_cue : MethodName := ⟨"LightingDeskModel", "cue", "(III)I"⟩
abbrev b_M_cue : ByteArray := prog_8_method_37_code
abbrev y_M_assign : MethodName := ⟨"LightingDeskModel", "assign", "(II)Z"⟩
abbrev b_M_assign : ByteArray := prog_8_method_38_code
abbrev y_M_levelAt : MethodName := ⟨"LightingDeskModel", "levelAt", "(III)I"⟩
abbrev b_M_levelAt : ByteArray := prog_8_method_39_code
abbrev y_M_start : MethodName := ⟨"LightingDeskModel", "start", "(III)V"⟩
abbrev b_M_start : ByteArray := prog_8_method_40_code
abbrev y_M_tell : MethodName := ⟨"LightingDeskModel", "tell", "(I)V"⟩
abbrev b_M_tell : ByteArray := prog_8_method_41_code
abbrev y_M_isTick : MethodName := ⟨"LightingDeskModel", "isTick", "(I)Z"⟩
abbrev b_M_isTick : ByteArray := prog_8_method_42_code
abbrev y_M_go : MethodName := ⟨"LightingDeskModel", "go", "(IZI)I"⟩
abbrev b_M_go : ByteArray := prog_8_method_43_code
abbrev y_M_master : MethodName := ⟨"LightingDeskModel", "master", "(II)Z"⟩
abbrev b_M_master : ByteArray := prog_8_method_44_code
abbrev y_M_merged : MethodName := ⟨"LightingDeskModel", "merged", "(I)I"⟩
abbrev b_M_merged : ByteArray := prog_8_method_45_code
abbrev y_M_out : MethodName := ⟨"LightingDeskModel", "out", "(II)I"⟩
abbrev b_M_out : ByteArray := prog_8_method_46_code
abbrev y_M_playback : MethodName := ⟨"LightingDeskModel", "playback", "(II)I"⟩
abbrev b_M_playback : ByteArray := prog_8_method_47_code
abbrev y_M_count : MethodName := ⟨"LightingDeskModel", "count", "(I)I"⟩
abbrev b_M_count : ByteArray := prog_8_method_48_code
abbrev y_C_init : MethodName := ⟨"LightingDesk$Cue", "<init>", "()V"⟩
abbrev b_C_init : ByteArray := prog_2_method_1_code
abbrev y_C_beginAs : MethodName := ⟨"LightingDesk$Cue", "beginAs", "(II)V"⟩
abbrev b_C_beginAs : ByteArray := prog_2_method_2_code
abbrev y_C_isBefore : MethodName := ⟨"LightingDesk$Cue", "isBefore", "(II)Z"⟩
abbrev b_C_isBefore : ByteArray := prog_2_method_3_code
abbrev y_C_detail : MethodName := ⟨"LightingDesk$Cue", "detail", "(I)I"⟩
abbrev b_C_detail : ByteArray := prog_2_method_4_code
abbrev y_B_init : MethodName := ⟨"LightingDesk$CueBook", "<init>", "()V"⟩
abbrev b_B_init : ByteArray := prog_3_method_1_code
abbrev y_B_at : MethodName := ⟨"LightingDesk$CueBook", "at", "(I)LLightingDesk$Cue;"⟩
abbrev b_B_at : ByteArray := prog_3_method_2_code
abbrev y_B_moveCount : MethodName := ⟨"LightingDesk$CueBook", "moveCount", "()I"⟩
abbrev b_B_moveCount : ByteArray := prog_3_method_3_code
abbrev y_B_firstOf : MethodName := ⟨"LightingDesk$CueBook", "firstOf", "(I)I"⟩
abbrev b_B_firstOf : ByteArray := prog_3_method_4_code
abbrev y_B_lengthOf : MethodName := ⟨"LightingDesk$CueBook", "lengthOf", "(I)I"⟩
abbrev b_B_lengthOf : ByteArray := prog_3_method_5_code
abbrev y_B_find : MethodName := ⟨"LightingDesk$CueBook", "find", "(II)I"⟩
abbrev b_B_find : ByteArray := prog_3_method_6_code
abbrev y_B_placeAbove : MethodName := ⟨"LightingDesk$CueBook", "placeAbove", "(II)I"⟩
abbrev b_B_placeAbove : ByteArray := prog_3_method_7_code
abbrev y_B_placeBelow : MethodName := ⟨"LightingDesk$CueBook", "placeBelow", "(II)I"⟩
abbrev b_B_placeBelow : ByteArray := prog_3_method_8_code
abbrev y_B_sourceOf : MethodName := ⟨"LightingDesk$CueBook", "sourceOf", "(II)I"⟩
abbrev b_B_sourceOf : ByteArray := prog_3_method_9_code
abbrev y_B_trackedAt : MethodName := ⟨"LightingDesk$CueBook", "trackedAt", "(II)I"⟩
abbrev b_B_trackedAt : ByteArray := prog_3_method_10_code
abbrev y_B_recordCue : MethodName := ⟨"LightingDesk$CueBook", "recordCue", "(LLightingDesk$ValueRow;IIZ)I"⟩
abbrev b_B_recordCue : ByteArray := prog_3_method_11_code
abbrev y_B_updateSources : MethodName := ⟨"LightingDesk$CueBook", "updateSources", "(LLightingDesk$ValueRow;I)I"⟩
abbrev b_B_updateSources : ByteArray := prog_3_method_12_code
abbrev y_B_deleteCue : MethodName := ⟨"LightingDesk$CueBook", "deleteCue", "(IZ)I"⟩
abbrev b_B_deleteCue : ByteArray := prog_3_method_13_code
abbrev y_B_blockCue : MethodName := ⟨"LightingDesk$CueBook", "blockCue", "(I)I"⟩
abbrev b_B_blockCue : ByteArray := prog_3_method_14_code
abbrev y_B_unblockCue : MethodName := ⟨"LightingDesk$CueBook", "unblockCue", "(I)I"⟩
abbrev b_B_unblockCue : ByteArray := prog_3_method_15_code
abbrev y_B_keepChannels : MethodName := ⟨"LightingDesk$CueBook", "keepChannels", "(ILLightingDesk$ValueRow;)V"⟩
abbrev b_B_keepChannels : ByteArray := prog_3_method_16_code
abbrev y_B_putAll : MethodName := ⟨"LightingDesk$CueBook", "putAll", "(ILLightingDesk$ValueRow;)V"⟩
abbrev b_B_putAll : ByteArray := prog_3_method_17_code
abbrev y_B_orUnset : MethodName := ⟨"LightingDesk$CueBook", "orUnset", "(I)I"⟩
abbrev b_B_orUnset : ByteArray := prog_3_method_18_code
abbrev y_B_isIn : MethodName := ⟨"LightingDesk$CueBook", "isIn", "(II)Z"⟩
abbrev b_B_isIn : ByteArray := prog_3_method_19_code
abbrev y_B_placeFor : MethodName := ⟨"LightingDesk$CueBook", "placeFor", "(II)I"⟩
abbrev b_B_placeFor : ByteArray := prog_3_method_20_code
abbrev y_B_insert : MethodName := ⟨"LightingDesk$CueBook", "insert", "(III)V"⟩
abbrev b_B_insert : ByteArray := prog_3_method_21_code
abbrev y_B_takeOut : MethodName := ⟨"LightingDesk$CueBook", "takeOut", "(I)V"⟩
abbrev b_B_takeOut : ByteArray := prog_3_method_22_code
abbrev y_P_init : MethodName := ⟨"LightingDesk$PaletteBox", "<init>", "()V"⟩
abbrev b_P_init : ByteArray := prog_4_method_1_code
abbrev y_P_store : MethodName := ⟨"LightingDesk$PaletteBox", "store", "(III)V"⟩
abbrev b_P_store : ByteArray := prog_4_method_2_code
abbrev y_P_levelOf : MethodName := ⟨"LightingDesk$PaletteBox", "levelOf", "(II)I"⟩
abbrev b_P_levelOf : ByteArray := prog_4_method_3_code
abbrev y_Y_init : MethodName := ⟨"LightingDesk$Player", "<init>", "()V"⟩
abbrev b_Y_init : ByteArray := prog_5_method_1_code
abbrev y_Y_lookTick : MethodName := ⟨"LightingDesk$Player", "lookTick", "(I)I"⟩
abbrev b_Y_lookTick : ByteArray := prog_5_method_2_code
abbrev y_Y_levelAt : MethodName := ⟨"LightingDesk$Player", "levelAt", "(II)I"⟩
abbrev b_Y_levelAt : ByteArray := prog_5_method_3_code
abbrev y_Y_fade : MethodName := ⟨"LightingDesk$Player", "fade", "(IILLightingDesk$Cue;I)V"⟩
abbrev b_Y_fade : ByteArray := prog_5_method_4_code
abbrev y_V_init : MethodName := ⟨"LightingDesk$ValueRow", "<init>", "()V"⟩
abbrev b_V_init : ByteArray := prog_6_method_1_code
abbrev y_V_has : MethodName := ⟨"LightingDesk$ValueRow", "has", "(I)Z"⟩
abbrev b_V_has : ByteArray := prog_6_method_2_code
abbrev y_V_valueAt : MethodName := ⟨"LightingDesk$ValueRow", "valueAt", "(I)I"⟩
abbrev b_V_valueAt : ByteArray := prog_6_method_3_code
abbrev y_V_put : MethodName := ⟨"LightingDesk$ValueRow", "put", "(II)V"⟩
abbrev b_V_put : ByteArray := prog_6_method_4_code
abbrev y_V_drop : MethodName := ⟨"LightingDesk$ValueRow", "drop", "(I)V"⟩
abbrev b_V_drop : ByteArray := prog_6_method_5_code
abbrev y_V_dropAll : MethodName := ⟨"LightingDesk$ValueRow", "dropAll", "()V"⟩
abbrev b_V_dropAll : ByteArray := prog_6_method_6_code
abbrev y_V_lackedOf : MethodName := ⟨"LightingDesk$ValueRow", "lackedOf", "(LLightingDesk$ValueRow;)I"⟩
abbrev b_V_lackedOf : ByteArray := prog_6_method_7_code
abbrev y_L_record : MethodName := ⟨"LightingDeskLaw", "record", "(LLightingDesk;IIZ[J)I"⟩
abbrev b_L_record : ByteArray := method_3_code
abbrev y_L_update : MethodName := ⟨"LightingDeskLaw", "update", "(LLightingDesk;II[J)I"⟩
abbrev b_L_update : ByteArray := method_4_code
abbrev y_L_delete : MethodName := ⟨"LightingDeskLaw", "delete", "(LLightingDesk;IIZ[J)I"⟩
abbrev b_L_delete : ByteArray := method_5_code
abbrev y_L_block : MethodName := ⟨"LightingDeskLaw", "block", "(LLightingDesk;IIZ[J)I"⟩
abbrev b_L_block : ByteArray := method_6_code
abbrev y_L_look : MethodName := ⟨"LightingDeskLaw", "look", "(LLightingDesk;III[J)I"⟩
abbrev b_L_look : ByteArray := method_7_code
abbrev y_L_source : MethodName := ⟨"LightingDeskLaw", "source", "(LLightingDesk;III[J)I"⟩
abbrev b_L_source : ByteArray := method_8_code
abbrev y_L_cue : MethodName := ⟨"LightingDeskLaw", "cue", "(LLightingDesk;III[J)I"⟩
abbrev b_L_cue : ByteArray := method_9_code
abbrev y_L_go : MethodName := ⟨"LightingDeskLaw", "go", "(LLightingDesk;IZI[J)I"⟩
abbrev b_L_go : ByteArray := method_10_code
abbrev y_L_out : MethodName := ⟨"LightingDeskLaw", "out", "(LLightingDesk;II[J)I"⟩
abbrev b_L_out : ByteArray := method_11_code
abbrev y_L_playback : MethodName := ⟨"LightingDeskLaw", "playback", "(LLightingDesk;II[J)I"⟩
abbrev b_L_playback : ByteArray := method_12_code
abbrev y_JL_bitCount : MethodName := ⟨"java/lang/Long", "bitCount", "(J)I"⟩
abbrev b_JL_bitCount : ByteArray := prog_13_method_50_code
abbrev y_JM_max : MethodName := ⟨"java/lang/Math", "max", "(II)I"⟩
abbrev b_JM_max : ByteArray := prog_14_method_65_code
abbrev y_JA_fill : MethodName := ⟨"java/util/Arrays", "fill", "([II)V"⟩
abbrev b_JA_fill : ByteArray := prog_18_method_103_code
end
section
theorem d_D_init_0 : decode b_D_init 0 = .ok (.aload_n 0, 1) := by decide +kernel
theorem d_D_init_1 : decode b_D_init 1 = .ok (.invokespecial 3, 3) := by decide +kernel
theorem d_D_init_4 : decode b_D_init 4 = .ok (.aload_n 0, 1) := by decide +kernel
theorem d_D_init_5 : decode b_D_init 5 = .ok (.bipush 64, 2) := by decide +kernel
theorem d_D_init_7 : decode b_D_init 7 = .ok (.newarray .boolean, 2) := by decide +kernel
theorem d_D_init_9 : decode b_D_init 9 = .ok (.putfield 9, 3) := by decide +kernel
theorem d_D_init_12 : decode b_D_init 12 = .ok (.aload_n 0, 1) := by decide +kernel
theorem d_D_init_13 : decode b_D_init 13 = .ok (.new 13, 3) := by decide +kernel
theorem d_D_init_16 : decode b_D_init 16 = .ok (.dup, 1) := by decide +kernel
theorem d_D_init_17 : decode b_D_init 17 = .ok (.invokespecial 15, 3) := by decide +kernel
theorem d_D_init_20 : decode b_D_init 20 = .ok (.putfield 16, 3) := by decide +kernel
theorem d_D_init_23 : decode b_D_init 23 = .ok (.aload_n 0, 1) := by decide +kernel
theorem d_D_init_24 : decode b_D_init 24 = .ok (.new 20, 3) := by decide +kernel
theorem d_D_init_27 : decode b_D_init 27 = .ok (.dup, 1) := by decide +kernel
theorem d_D_init_28 : decode b_D_init 28 = .ok (.invokespecial 22, 3) := by decide +kernel
theorem d_D_init_31 : decode b_D_init 31 = .ok (.putfield 23, 3) := by decide +kernel
theorem d_D_init_34 : decode b_D_init 34 = .ok (.aload_n 0, 1) := by decide +kernel
theorem d_D_init_35 : decode b_D_init 35 = .ok (.new 27, 3) := by decide +kernel
theorem d_D_init_38 : decode b_D_init 38 = .ok (.dup, 1) := by decide +kernel
theorem d_D_init_39 : decode b_D_init 39 = .ok (.invokespecial 29, 3) := by decide +kernel
theorem d_D_init_42 : decode b_D_init 42 = .ok (.putfield 30, 3) := by decide +kernel
theorem d_D_init_45 : decode b_D_init 45 = .ok (.aload_n 0, 1) := by decide +kernel
theorem d_D_init_46 : decode b_D_init 46 = .ok (.bipush 6, 2) := by decide +kernel
theorem d_D_init_48 : decode b_D_init 48 = .ok (.anewarray 34, 3) := by decide +kernel
theorem d_D_init_51 : decode b_D_init 51 = .ok (.putfield 36, 3) := by decide +kernel
theorem d_D_init_54 : decode b_D_init 54 = .ok (.aload_n 0, 1) := by decide +kernel
theorem d_D_init_55 : decode b_D_init 55 = .ok (.iconst 0, 1) := by decide +kernel
theorem d_D_init_56 : decode b_D_init 56 = .ok (.putfield 40, 3) := by decide +kernel
theorem d_D_init_59 : decode b_D_init 59 = .ok (.aload_n 0, 1) := by decide +kernel
theorem d_D_init_60 : decode b_D_init 60 = .ok (.iconst 0, 1) := by decide +kernel
theorem d_D_init_61 : decode b_D_init 61 = .ok (.putfield 44, 3) := by decide +kernel
theorem d_D_init_64 : decode b_D_init 64 = .ok (.iconst 0, 1) := by decide +kernel
theorem d_D_init_65 : decode b_D_init 65 = .ok (.istore_n 1, 1) := by decide +kernel
theorem d_D_init_66 : decode b_D_init 66 = .ok (.iload_n 1, 1) := by decide +kernel
theorem d_D_init_67 : decode b_D_init 67 = .ok (.bipush 6, 2) := by decide +kernel
theorem d_D_init_69 : decode b_D_init 69 = .ok (.if_icmp .ge 22, 3) := by decide +kernel
theorem d_D_init_72 : decode b_D_init 72 = .ok (.aload_n 0, 1) := by decide +kernel
theorem d_D_init_73 : decode b_D_init 73 = .ok (.getfield 36, 3) := by decide +kernel
theorem d_D_init_76 : decode b_D_init 76 = .ok (.iload_n 1, 1) := by decide +kernel
theorem d_D_init_77 : decode b_D_init 77 = .ok (.new 34, 3) := by decide +kernel
theorem d_D_init_80 : decode b_D_init 80 = .ok (.dup, 1) := by decide +kernel
theorem d_D_init_81 : decode b_D_init 81 = .ok (.invokespecial 47, 3) := by decide +kernel
theorem d_D_init_84 : decode b_D_init 84 = .ok (.aastore, 1) := by decide +kernel
theorem d_D_init_85 : decode b_D_init 85 = .ok (.iinc 1 1, 3) := by decide +kernel
theorem d_D_init_88 : decode b_D_init 88 = .ok (.goto (-22), 3) := by decide +kernel
theorem d_D_init_91 : decode b_D_init 91 = .ok (.return_, 1) := by decide +kernel
theorem d_D_kind_0 : decode b_D_kind 0 = .ok (.iload_n 1, 1) := by decide +kernel
theorem d_D_kind_1 : decode b_D_kind 1 = .ok (.invokestatic 48, 3) := by decide +kernel
theorem d_D_kind_4 : decode b_D_kind 4 = .ok (.ifCond .ne 5, 3) := by decide +kernel
theorem d_D_kind_7 : decode b_D_kind 7 = .ok (.iconst 0, 1) := by decide +kernel
theorem d_D_kind_8 : decode b_D_kind 8 = .ok (.ireturn, 1) := by decide +kernel
theorem d_D_kind_9 : decode b_D_kind 9 = .ok (.aload_n 0, 1) := by decide +kernel
theorem d_D_kind_10 : decode b_D_kind 10 = .ok (.getfield 9, 3) := by decide +kernel
theorem d_D_kind_13 : decode b_D_kind 13 = .ok (.iload_n 1, 1) := by decide +kernel
theorem d_D_kind_14 : decode b_D_kind 14 = .ok (.iload_n 2, 1) := by decide +kernel
theorem d_D_kind_15 : decode b_D_kind 15 = .ok (.bastore, 1) := by decide +kernel
theorem d_D_kind_16 : decode b_D_kind 16 = .ok (.iconst 1, 1) := by decide +kernel
theorem d_D_kind_17 : decode b_D_kind 17 = .ok (.ireturn, 1) := by decide +kernel
theorem d_D_set_0 : decode b_D_set 0 = .ok (.iload_n 1, 1) := by decide +kernel
theorem d_D_set_1 : decode b_D_set 1 = .ok (.invokestatic 48, 3) := by decide +kernel
theorem d_D_set_4 : decode b_D_set 4 = .ok (.ifCond .eq 10, 3) := by decide +kernel
theorem d_D_set_7 : decode b_D_set 7 = .ok (.iload_n 2, 1) := by decide +kernel
theorem d_D_set_8 : decode b_D_set 8 = .ok (.invokestatic 52, 3) := by decide +kernel
theorem d_D_set_11 : decode b_D_set 11 = .ok (.ifCond .ne 5, 3) := by decide +kernel
theorem d_D_set_14 : decode b_D_set 14 = .ok (.iconst 0, 1) := by decide +kernel
theorem d_D_set_15 : decode b_D_set 15 = .ok (.ireturn, 1) := by decide +kernel
theorem d_D_set_16 : decode b_D_set 16 = .ok (.aload_n 0, 1) := by decide +kernel
theorem d_D_set_17 : decode b_D_set 17 = .ok (.getfield 16, 3) := by decide +kernel
theorem d_D_set_20 : decode b_D_set 20 = .ok (.iload_n 1, 1) := by decide +kernel
theorem d_D_set_21 : decode b_D_set 21 = .ok (.iload_n 2, 1) := by decide +kernel
theorem d_D_set_22 : decode b_D_set 22 = .ok (.invokevirtual 55, 3) := by decide +kernel
theorem d_D_set_25 : decode b_D_set 25 = .ok (.iconst 1, 1) := by decide +kernel
theorem d_D_set_26 : decode b_D_set 26 = .ok (.ireturn, 1) := by decide +kernel
theorem d_D_use_0 : decode b_D_use 0 = .ok (.iload_n 1, 1) := by decide +kernel
theorem d_D_use_1 : decode b_D_use 1 = .ok (.invokestatic 48, 3) := by decide +kernel
theorem d_D_use_4 : decode b_D_use 4 = .ok (.ifCond .eq 10, 3) := by decide +kernel
theorem d_D_use_7 : decode b_D_use 7 = .ok (.iload_n 2, 1) := by decide +kernel
theorem d_D_use_8 : decode b_D_use 8 = .ok (.invokestatic 59, 3) := by decide +kernel
theorem d_D_use_11 : decode b_D_use 11 = .ok (.ifCond .ne 5, 3) := by decide +kernel
theorem d_D_use_14 : decode b_D_use 14 = .ok (.iconst 0, 1) := by decide +kernel
theorem d_D_use_15 : decode b_D_use 15 = .ok (.ireturn, 1) := by decide +kernel
theorem d_D_use_16 : decode b_D_use 16 = .ok (.aload_n 0, 1) := by decide +kernel
theorem d_D_use_17 : decode b_D_use 17 = .ok (.getfield 16, 3) := by decide +kernel
theorem d_D_use_20 : decode b_D_use 20 = .ok (.iload_n 1, 1) := by decide +kernel
theorem d_D_use_21 : decode b_D_use 21 = .ok (.sipush 256, 3) := by decide +kernel
theorem d_D_use_24 : decode b_D_use 24 = .ok (.iload_n 2, 1) := by decide +kernel
theorem d_D_use_25 : decode b_D_use 25 = .ok (.iadd, 1) := by decide +kernel
theorem d_D_use_26 : decode b_D_use 26 = .ok (.invokevirtual 55, 3) := by decide +kernel
theorem d_D_use_29 : decode b_D_use 29 = .ok (.iconst 1, 1) := by decide +kernel
theorem d_D_use_30 : decode b_D_use 30 = .ok (.ireturn, 1) := by decide +kernel
theorem d_D_release_0 : decode b_D_release 0 = .ok (.aload_n 0, 1) := by decide +kernel
theorem d_D_release_1 : decode b_D_release 1 = .ok (.getfield 16, 3) := by decide +kernel
theorem d_D_release_4 : decode b_D_release 4 = .ok (.getfield 62, 3) := by decide +kernel
theorem d_D_release_7 : decode b_D_release 7 = .ok (.istore_n 2, 1) := by decide +kernel
theorem d_D_release_8 : decode b_D_release 8 = .ok (.iload_n 1, 1) := by decide +kernel
theorem d_D_release_9 : decode b_D_release 9 = .ok (.iconst (-1), 1) := by decide +kernel
theorem d_D_release_10 : decode b_D_release 10 = .ok (.if_icmp .ne 13, 3) := by decide +kernel
theorem d_D_release_13 : decode b_D_release 13 = .ok (.aload_n 0, 1) := by decide +kernel
theorem d_D_release_14 : decode b_D_release 14 = .ok (.getfield 16, 3) := by decide +kernel
theorem d_D_release_17 : decode b_D_release 17 = .ok (.invokevirtual 65, 3) := by decide +kernel
theorem d_D_release_20 : decode b_D_release 20 = .ok (.goto 18, 3) := by decide +kernel
theorem d_D_release_23 : decode b_D_release 23 = .ok (.iload_n 1, 1) := by decide +kernel
theorem d_D_release_24 : decode b_D_release 24 = .ok (.invokestatic 48, 3) := by decide +kernel
theorem d_D_release_27 : decode b_D_release 27 = .ok (.ifCond .eq 11, 3) := by decide +kernel
theorem d_D_release_30 : decode b_D_release 30 = .ok (.aload_n 0, 1) := by decide +kernel
theorem d_D_release_31 : decode b_D_release 31 = .ok (.getfield 16, 3) := by decide +kernel
theorem d_D_release_34 : decode b_D_release 34 = .ok (.iload_n 1, 1) := by decide +kernel
theorem d_D_release_35 : decode b_D_release 35 = .ok (.invokevirtual 68, 3) := by decide +kernel
theorem d_D_release_38 : decode b_D_release 38 = .ok (.iload_n 2, 1) := by decide +kernel
theorem d_D_release_39 : decode b_D_release 39 = .ok (.aload_n 0, 1) := by decide +kernel
theorem d_D_release_40 : decode b_D_release 40 = .ok (.getfield 16, 3) := by decide +kernel
theorem d_D_release_43 : decode b_D_release 43 = .ok (.getfield 62, 3) := by decide +kernel
theorem d_D_release_46 : decode b_D_release 46 = .ok (.isub, 1) := by decide +kernel
theorem d_D_release_47 : decode b_D_release 47 = .ok (.ireturn, 1) := by decide +kernel
theorem d_D_palette_0 : decode b_D_palette 0 = .ok (.iload_n 1, 1) := by decide +kernel
theorem d_D_palette_1 : decode b_D_palette 1 = .ok (.invokestatic 59, 3) := by decide +kernel
theorem d_D_palette_4 : decode b_D_palette 4 = .ok (.ifCond .eq 10, 3) := by decide +kernel
theorem d_D_palette_7 : decode b_D_palette 7 = .ok (.iload_n 2, 1) := by decide +kernel
theorem d_D_palette_8 : decode b_D_palette 8 = .ok (.invokestatic 48, 3) := by decide +kernel
theorem d_D_palette_11 : decode b_D_palette 11 = .ok (.ifCond .ne 5, 3) := by decide +kernel
theorem d_D_palette_14 : decode b_D_palette 14 = .ok (.iconst 0, 1) := by decide +kernel
theorem d_D_palette_15 : decode b_D_palette 15 = .ok (.ireturn, 1) := by decide +kernel
theorem d_D_palette_16 : decode b_D_palette 16 = .ok (.iload_n 3, 1) := by decide +kernel
theorem d_D_palette_17 : decode b_D_palette 17 = .ok (.iconst (-1), 1) := by decide +kernel
theorem d_D_palette_18 : decode b_D_palette 18 = .ok (.if_icmp .eq 12, 3) := by decide +kernel
theorem d_D_palette_21 : decode b_D_palette 21 = .ok (.iload_n 3, 1) := by decide +kernel
theorem d_D_palette_22 : decode b_D_palette 22 = .ok (.invokestatic 52, 3) := by decide +kernel
theorem d_D_palette_25 : decode b_D_palette 25 = .ok (.ifCond .ne 5, 3) := by decide +kernel
theorem d_D_palette_28 : decode b_D_palette 28 = .ok (.iconst 0, 1) := by decide +kernel
theorem d_D_palette_29 : decode b_D_palette 29 = .ok (.ireturn, 1) := by decide +kernel
theorem d_D_palette_30 : decode b_D_palette 30 = .ok (.aload_n 0, 1) := by decide +kernel
theorem d_D_palette_31 : decode b_D_palette 31 = .ok (.getfield 23, 3) := by decide +kernel
theorem d_D_palette_34 : decode b_D_palette 34 = .ok (.iload_n 1, 1) := by decide +kernel
theorem d_D_palette_35 : decode b_D_palette 35 = .ok (.iload_n 2, 1) := by decide +kernel
theorem d_D_palette_36 : decode b_D_palette 36 = .ok (.iload_n 3, 1) := by decide +kernel
theorem d_D_palette_37 : decode b_D_palette 37 = .ok (.invokevirtual 72, 3) := by decide +kernel
theorem d_D_palette_40 : decode b_D_palette 40 = .ok (.iconst 1, 1) := by decide +kernel
theorem d_D_palette_41 : decode b_D_palette 41 = .ok (.ireturn, 1) := by decide +kernel
theorem d_D_record_0 : decode b_D_record 0 = .ok (.iload_n 1, 1) := by decide +kernel
theorem d_D_record_1 : decode b_D_record 1 = .ok (.invokestatic 76, 3) := by decide +kernel
theorem d_D_record_4 : decode b_D_record 4 = .ok (.ifCond .eq 10, 3) := by decide +kernel
theorem d_D_record_7 : decode b_D_record 7 = .ok (.iload_n 2, 1) := by decide +kernel
theorem d_D_record_8 : decode b_D_record 8 = .ok (.invokestatic 79, 3) := by decide +kernel
theorem d_D_record_11 : decode b_D_record 11 = .ok (.ifCond .ne 13, 3) := by decide +kernel
theorem d_D_record_14 : decode b_D_record 14 = .ok (.new 82, 3) := by decide +kernel
theorem d_D_record_17 : decode b_D_record 17 = .ok (.dup, 1) := by decide +kernel
theorem d_D_record_18 : decode b_D_record 18 = .ok (.ldc 84, 2) := by decide +kernel
theorem d_D_record_20 : decode b_D_record 20 = .ok (.invokespecial 86, 3) := by decide +kernel
theorem d_D_record_23 : decode b_D_record 23 = .ok (.athrow, 1) := by decide +kernel
theorem d_D_record_24 : decode b_D_record 24 = .ok (.aload_n 0, 1) := by decide +kernel
theorem d_D_record_25 : decode b_D_record 25 = .ok (.getfield 30, 3) := by decide +kernel
theorem d_D_record_28 : decode b_D_record 28 = .ok (.aload_n 0, 1) := by decide +kernel
theorem d_D_record_29 : decode b_D_record 29 = .ok (.getfield 16, 3) := by decide +kernel
theorem d_D_record_32 : decode b_D_record 32 = .ok (.iload_n 1, 1) := by decide +kernel
theorem d_D_record_33 : decode b_D_record 33 = .ok (.iload_n 2, 1) := by decide +kernel
theorem d_D_record_34 : decode b_D_record 34 = .ok (.iload_n 3, 1) := by decide +kernel
theorem d_D_record_35 : decode b_D_record 35 = .ok (.invokevirtual 89, 3) := by decide +kernel
theorem d_D_record_38 : decode b_D_record 38 = .ok (.istore 4, 2) := by decide +kernel
theorem d_D_record_40 : decode b_D_record 40 = .ok (.iload 4, 2) := by decide +kernel
theorem d_D_record_42 : decode b_D_record 42 = .ok (.iconst (-1), 1) := by decide +kernel
theorem d_D_record_43 : decode b_D_record 43 = .ok (.if_icmp .ne 13, 3) := by decide +kernel
theorem d_D_record_46 : decode b_D_record 46 = .ok (.new 93, 3) := by decide +kernel
theorem d_D_record_49 : decode b_D_record 49 = .ok (.dup, 1) := by decide +kernel
theorem d_D_record_50 : decode b_D_record 50 = .ok (.ldc 95, 2) := by decide +kernel
theorem d_D_record_52 : decode b_D_record 52 = .ok (.invokespecial 97, 3) := by decide +kernel
theorem d_D_record_55 : decode b_D_record 55 = .ok (.athrow, 1) := by decide +kernel
theorem d_D_record_56 : decode b_D_record 56 = .ok (.iload 4, 2) := by decide +kernel
theorem d_D_record_58 : decode b_D_record 58 = .ok (.ireturn, 1) := by decide +kernel
theorem d_D_update_0 : decode b_D_update 0 = .ok (.aload_n 0, 1) := by decide +kernel
theorem d_D_update_1 : decode b_D_update 1 = .ok (.iload_n 1, 1) := by decide +kernel
theorem d_D_update_2 : decode b_D_update 2 = .ok (.iload_n 2, 1) := by decide +kernel
theorem d_D_update_3 : decode b_D_update 3 = .ok (.invokevirtual 98, 3) := by decide +kernel
theorem d_D_update_6 : decode b_D_update 6 = .ok (.istore_n 3, 1) := by decide +kernel
theorem d_D_update_7 : decode b_D_update 7 = .ok (.aload_n 0, 1) := by decide +kernel
theorem d_D_update_8 : decode b_D_update 8 = .ok (.getfield 30, 3) := by decide +kernel
theorem d_D_update_11 : decode b_D_update 11 = .ok (.aload_n 0, 1) := by decide +kernel
theorem d_D_update_12 : decode b_D_update 12 = .ok (.getfield 16, 3) := by decide +kernel
theorem d_D_update_15 : decode b_D_update 15 = .ok (.iload_n 3, 1) := by decide +kernel
theorem d_D_update_16 : decode b_D_update 16 = .ok (.invokevirtual 102, 3) := by decide +kernel
theorem d_D_update_19 : decode b_D_update 19 = .ok (.istore 4, 2) := by decide +kernel
theorem d_D_update_21 : decode b_D_update 21 = .ok (.iload 4, 2) := by decide +kernel
theorem d_D_update_23 : decode b_D_update 23 = .ok (.iconst (-1), 1) := by decide +kernel
theorem d_D_update_24 : decode b_D_update 24 = .ok (.if_icmp .ne 13, 3) := by decide +kernel
theorem d_D_update_27 : decode b_D_update 27 = .ok (.new 93, 3) := by decide +kernel
theorem d_D_update_30 : decode b_D_update 30 = .ok (.dup, 1) := by decide +kernel
theorem d_D_update_31 : decode b_D_update 31 = .ok (.ldc 106, 2) := by decide +kernel
theorem d_D_update_33 : decode b_D_update 33 = .ok (.invokespecial 97, 3) := by decide +kernel
theorem d_D_update_36 : decode b_D_update 36 = .ok (.athrow, 1) := by decide +kernel
theorem d_D_update_37 : decode b_D_update 37 = .ok (.iload 4, 2) := by decide +kernel
theorem d_D_update_39 : decode b_D_update 39 = .ok (.ireturn, 1) := by decide +kernel
theorem d_D_delete_0 : decode b_D_delete 0 = .ok (.aload_n 0, 1) := by decide +kernel
theorem d_D_delete_1 : decode b_D_delete 1 = .ok (.iload_n 1, 1) := by decide +kernel
theorem d_D_delete_2 : decode b_D_delete 2 = .ok (.iload_n 2, 1) := by decide +kernel
theorem d_D_delete_3 : decode b_D_delete 3 = .ok (.invokevirtual 98, 3) := by decide +kernel
theorem d_D_delete_6 : decode b_D_delete 6 = .ok (.istore 4, 2) := by decide +kernel
theorem d_D_delete_8 : decode b_D_delete 8 = .ok (.aload_n 0, 1) := by decide +kernel
theorem d_D_delete_9 : decode b_D_delete 9 = .ok (.getfield 30, 3) := by decide +kernel
theorem d_D_delete_12 : decode b_D_delete 12 = .ok (.iload 4, 2) := by decide +kernel
theorem d_D_delete_14 : decode b_D_delete 14 = .ok (.iload_n 3, 1) := by decide +kernel
theorem d_D_delete_15 : decode b_D_delete 15 = .ok (.invokevirtual 108, 3) := by decide +kernel
theorem d_D_delete_18 : decode b_D_delete 18 = .ok (.ireturn, 1) := by decide +kernel
theorem d_D_block_0 : decode b_D_block 0 = .ok (.aload_n 0, 1) := by decide +kernel
theorem d_D_block_1 : decode b_D_block 1 = .ok (.iload_n 1, 1) := by decide +kernel
theorem d_D_block_2 : decode b_D_block 2 = .ok (.iload_n 2, 1) := by decide +kernel
theorem d_D_block_3 : decode b_D_block 3 = .ok (.invokevirtual 98, 3) := by decide +kernel
theorem d_D_block_6 : decode b_D_block 6 = .ok (.istore 4, 2) := by decide +kernel
theorem d_D_block_8 : decode b_D_block 8 = .ok (.iload_n 3, 1) := by decide +kernel
theorem d_D_block_9 : decode b_D_block 9 = .ok (.ifCond .eq 15, 3) := by decide +kernel
theorem d_D_block_12 : decode b_D_block 12 = .ok (.aload_n 0, 1) := by decide +kernel
theorem d_D_block_13 : decode b_D_block 13 = .ok (.getfield 30, 3) := by decide +kernel
theorem d_D_block_16 : decode b_D_block 16 = .ok (.iload 4, 2) := by decide +kernel
theorem d_D_block_18 : decode b_D_block 18 = .ok (.invokevirtual 112, 3) := by decide +kernel
theorem d_D_block_21 : decode b_D_block 21 = .ok (.goto 12, 3) := by decide +kernel
theorem d_D_block_24 : decode b_D_block 24 = .ok (.aload_n 0, 1) := by decide +kernel
theorem d_D_block_25 : decode b_D_block 25 = .ok (.getfield 30, 3) := by decide +kernel
theorem d_D_block_28 : decode b_D_block 28 = .ok (.iload 4, 2) := by decide +kernel
theorem d_D_block_30 : decode b_D_block 30 = .ok (.invokevirtual 116, 3) := by decide +kernel
theorem d_D_block_33 : decode b_D_block 33 = .ok (.istore 5, 2) := by decide +kernel
theorem d_D_block_35 : decode b_D_block 35 = .ok (.iload 5, 2) := by decide +kernel
theorem d_D_block_37 : decode b_D_block 37 = .ok (.iconst (-1), 1) := by decide +kernel
theorem d_D_block_38 : decode b_D_block 38 = .ok (.if_icmp .ne 13, 3) := by decide +kernel
theorem d_D_block_41 : decode b_D_block 41 = .ok (.new 93, 3) := by decide +kernel
theorem d_D_block_44 : decode b_D_block 44 = .ok (.dup, 1) := by decide +kernel
theorem d_D_block_45 : decode b_D_block 45 = .ok (.ldc 106, 2) := by decide +kernel
theorem d_D_block_47 : decode b_D_block 47 = .ok (.invokespecial 97, 3) := by decide +kernel
theorem d_D_block_50 : decode b_D_block 50 = .ok (.athrow, 1) := by decide +kernel
theorem d_D_block_51 : decode b_D_block 51 = .ok (.iload 5, 2) := by decide +kernel
theorem d_D_block_53 : decode b_D_block 53 = .ok (.ireturn, 1) := by decide +kernel
theorem d_D_times_0 : decode b_D_times 0 = .ok (.aload_n 0, 1) := by decide +kernel
theorem d_D_times_1 : decode b_D_times 1 = .ok (.getfield 30, 3) := by decide +kernel
theorem d_D_times_4 : decode b_D_times 4 = .ok (.iload_n 1, 1) := by decide +kernel
theorem d_D_times_5 : decode b_D_times 5 = .ok (.iload_n 2, 1) := by decide +kernel
theorem d_D_times_6 : decode b_D_times 6 = .ok (.invokevirtual 119, 3) := by decide +kernel
theorem d_D_times_9 : decode b_D_times 9 = .ok (.istore 5, 2) := by decide +kernel
theorem d_D_times_11 : decode b_D_times 11 = .ok (.iload 5, 2) := by decide +kernel
theorem d_D_times_13 : decode b_D_times 13 = .ok (.iconst (-1), 1) := by decide +kernel
theorem d_D_times_14 : decode b_D_times 14 = .ok (.if_icmp .eq 18, 3) := by decide +kernel
theorem d_D_times_17 : decode b_D_times 17 = .ok (.iload_n 3, 1) := by decide +kernel
theorem d_D_times_18 : decode b_D_times 18 = .ok (.invokestatic 122, 3) := by decide +kernel
theorem d_D_times_21 : decode b_D_times 21 = .ok (.ifCond .eq 11, 3) := by decide +kernel
theorem d_D_times_24 : decode b_D_times 24 = .ok (.iload 4, 2) := by decide +kernel
theorem d_D_times_26 : decode b_D_times 26 = .ok (.invokestatic 122, 3) := by decide +kernel
theorem d_D_times_29 : decode b_D_times 29 = .ok (.ifCond .ne 5, 3) := by decide +kernel
theorem d_D_times_32 : decode b_D_times 32 = .ok (.iconst 0, 1) := by decide +kernel
theorem d_D_times_33 : decode b_D_times 33 = .ok (.ireturn, 1) := by decide +kernel
theorem d_D_times_34 : decode b_D_times 34 = .ok (.aload_n 0, 1) := by decide +kernel
theorem d_D_times_35 : decode b_D_times 35 = .ok (.getfield 30, 3) := by decide +kernel
theorem d_D_times_38 : decode b_D_times 38 = .ok (.iload 5, 2) := by decide +kernel
theorem d_D_times_40 : decode b_D_times 40 = .ok (.invokevirtual 125, 3) := by decide +kernel
theorem d_D_times_43 : decode b_D_times 43 = .ok (.astore 6, 2) := by decide +kernel
theorem d_D_times_45 : decode b_D_times 45 = .ok (.aload 6, 2) := by decide +kernel
theorem d_D_times_47 : decode b_D_times 47 = .ok (.iload_n 3, 1) := by decide +kernel
theorem d_D_times_48 : decode b_D_times 48 = .ok (.putfield 129, 3) := by decide +kernel
theorem d_D_times_51 : decode b_D_times 51 = .ok (.aload 6, 2) := by decide +kernel
theorem d_D_times_53 : decode b_D_times 53 = .ok (.iload 4, 2) := by decide +kernel
theorem d_D_times_55 : decode b_D_times 55 = .ok (.putfield 134, 3) := by decide +kernel
theorem d_D_times_58 : decode b_D_times 58 = .ok (.iconst 1, 1) := by decide +kernel
theorem d_D_times_59 : decode b_D_times 59 = .ok (.ireturn, 1) := by decide +kernel
theorem d_D_delays_0 : decode b_D_delays 0 = .ok (.aload_n 0, 1) := by decide +kernel
theorem d_D_delays_1 : decode b_D_delays 1 = .ok (.getfield 30, 3) := by decide +kernel
theorem d_D_delays_4 : decode b_D_delays 4 = .ok (.iload_n 1, 1) := by decide +kernel
theorem d_D_delays_5 : decode b_D_delays 5 = .ok (.iload_n 2, 1) := by decide +kernel
theorem d_D_delays_6 : decode b_D_delays 6 = .ok (.invokevirtual 119, 3) := by decide +kernel
theorem d_D_delays_9 : decode b_D_delays 9 = .ok (.istore 5, 2) := by decide +kernel
theorem d_D_delays_11 : decode b_D_delays 11 = .ok (.iload 5, 2) := by decide +kernel
theorem d_D_delays_13 : decode b_D_delays 13 = .ok (.iconst (-1), 1) := by decide +kernel
theorem d_D_delays_14 : decode b_D_delays 14 = .ok (.if_icmp .eq 10, 3) := by decide +kernel
theorem d_D_delays_17 : decode b_D_delays 17 = .ok (.iload_n 3, 1) := by decide +kernel
theorem d_D_delays_18 : decode b_D_delays 18 = .ok (.invokestatic 122, 3) := by decide +kernel
theorem d_D_delays_21 : decode b_D_delays 21 = .ok (.ifCond .ne 5, 3) := by decide +kernel
theorem d_D_delays_24 : decode b_D_delays 24 = .ok (.iconst 0, 1) := by decide +kernel
theorem d_D_delays_25 : decode b_D_delays 25 = .ok (.ireturn, 1) := by decide +kernel
theorem d_D_delays_26 : decode b_D_delays 26 = .ok (.iload 4, 2) := by decide +kernel
theorem d_D_delays_28 : decode b_D_delays 28 = .ok (.iconst (-1), 1) := by decide +kernel
theorem d_D_delays_29 : decode b_D_delays 29 = .ok (.if_icmp .eq 13, 3) := by decide +kernel
theorem d_D_delays_32 : decode b_D_delays 32 = .ok (.iload 4, 2) := by decide +kernel
theorem d_D_delays_34 : decode b_D_delays 34 = .ok (.invokestatic 122, 3) := by decide +kernel
theorem d_D_delays_37 : decode b_D_delays 37 = .ok (.ifCond .ne 5, 3) := by decide +kernel
theorem d_D_delays_40 : decode b_D_delays 40 = .ok (.iconst 0, 1) := by decide +kernel
theorem d_D_delays_41 : decode b_D_delays 41 = .ok (.ireturn, 1) := by decide +kernel
theorem d_D_delays_42 : decode b_D_delays 42 = .ok (.aload_n 0, 1) := by decide +kernel
theorem d_D_delays_43 : decode b_D_delays 43 = .ok (.getfield 30, 3) := by decide +kernel
theorem d_D_delays_46 : decode b_D_delays 46 = .ok (.iload 5, 2) := by decide +kernel
theorem d_D_delays_48 : decode b_D_delays 48 = .ok (.invokevirtual 125, 3) := by decide +kernel
theorem d_D_delays_51 : decode b_D_delays 51 = .ok (.astore 6, 2) := by decide +kernel
theorem d_D_delays_53 : decode b_D_delays 53 = .ok (.aload 6, 2) := by decide +kernel
theorem d_D_delays_55 : decode b_D_delays 55 = .ok (.iload_n 3, 1) := by decide +kernel
theorem d_D_delays_56 : decode b_D_delays 56 = .ok (.putfield 137, 3) := by decide +kernel
theorem d_D_delays_59 : decode b_D_delays 59 = .ok (.aload 6, 2) := by decide +kernel
theorem d_D_delays_61 : decode b_D_delays 61 = .ok (.iload 4, 2) := by decide +kernel
theorem d_D_delays_63 : decode b_D_delays 63 = .ok (.putfield 140, 3) := by decide +kernel
theorem d_D_delays_66 : decode b_D_delays 66 = .ok (.iconst 1, 1) := by decide +kernel
theorem d_D_delays_67 : decode b_D_delays 67 = .ok (.ireturn, 1) := by decide +kernel
theorem d_D_look_0 : decode b_D_look 0 = .ok (.aload_n 0, 1) := by decide +kernel
theorem d_D_look_1 : decode b_D_look 1 = .ok (.iload_n 1, 1) := by decide +kernel
theorem d_D_look_2 : decode b_D_look 2 = .ok (.iload_n 2, 1) := by decide +kernel
theorem d_D_look_3 : decode b_D_look 3 = .ok (.invokevirtual 98, 3) := by decide +kernel
theorem d_D_look_6 : decode b_D_look 6 = .ok (.istore 4, 2) := by decide +kernel
theorem d_D_look_8 : decode b_D_look 8 = .ok (.iload_n 3, 1) := by decide +kernel
theorem d_D_look_9 : decode b_D_look 9 = .ok (.invokestatic 48, 3) := by decide +kernel
theorem d_D_look_12 : decode b_D_look 12 = .ok (.ifCond .ne 13, 3) := by decide +kernel
theorem d_D_look_15 : decode b_D_look 15 = .ok (.new 143, 3) := by decide +kernel
theorem d_D_look_18 : decode b_D_look 18 = .ok (.dup, 1) := by decide +kernel
theorem d_D_look_19 : decode b_D_look 19 = .ok (.ldc 145, 2) := by decide +kernel
theorem d_D_look_21 : decode b_D_look 21 = .ok (.invokespecial 147, 3) := by decide +kernel
theorem d_D_look_24 : decode b_D_look 24 = .ok (.athrow, 1) := by decide +kernel
theorem d_D_look_25 : decode b_D_look 25 = .ok (.aload_n 0, 1) := by decide +kernel
theorem d_D_look_26 : decode b_D_look 26 = .ok (.getfield 23, 3) := by decide +kernel
theorem d_D_look_29 : decode b_D_look 29 = .ok (.aload_n 0, 1) := by decide +kernel
theorem d_D_look_30 : decode b_D_look 30 = .ok (.getfield 30, 3) := by decide +kernel
theorem d_D_look_33 : decode b_D_look 33 = .ok (.iload 4, 2) := by decide +kernel
theorem d_D_look_35 : decode b_D_look 35 = .ok (.iload_n 3, 1) := by decide +kernel
theorem d_D_look_36 : decode b_D_look 36 = .ok (.invokevirtual 148, 3) := by decide +kernel
theorem d_D_look_39 : decode b_D_look 39 = .ok (.iload_n 3, 1) := by decide +kernel
theorem d_D_look_40 : decode b_D_look 40 = .ok (.invokevirtual 151, 3) := by decide +kernel
theorem d_D_look_43 : decode b_D_look 43 = .ok (.ireturn, 1) := by decide +kernel
theorem d_D_source_0 : decode b_D_source 0 = .ok (.aload_n 0, 1) := by decide +kernel
theorem d_D_source_1 : decode b_D_source 1 = .ok (.iload_n 1, 1) := by decide +kernel
theorem d_D_source_2 : decode b_D_source 2 = .ok (.iload_n 2, 1) := by decide +kernel
theorem d_D_source_3 : decode b_D_source 3 = .ok (.invokevirtual 98, 3) := by decide +kernel
theorem d_D_source_6 : decode b_D_source 6 = .ok (.istore 4, 2) := by decide +kernel
theorem d_D_source_8 : decode b_D_source 8 = .ok (.iload_n 3, 1) := by decide +kernel
theorem d_D_source_9 : decode b_D_source 9 = .ok (.invokestatic 48, 3) := by decide +kernel
theorem d_D_source_12 : decode b_D_source 12 = .ok (.ifCond .ne 13, 3) := by decide +kernel
theorem d_D_source_15 : decode b_D_source 15 = .ok (.new 143, 3) := by decide +kernel
theorem d_D_source_18 : decode b_D_source 18 = .ok (.dup, 1) := by decide +kernel
theorem d_D_source_19 : decode b_D_source 19 = .ok (.ldc 145, 2) := by decide +kernel
theorem d_D_source_21 : decode b_D_source 21 = .ok (.invokespecial 147, 3) := by decide +kernel
theorem d_D_source_24 : decode b_D_source 24 = .ok (.athrow, 1) := by decide +kernel
theorem d_D_source_25 : decode b_D_source 25 = .ok (.aload_n 0, 1) := by decide +kernel
theorem d_D_source_26 : decode b_D_source 26 = .ok (.getfield 30, 3) := by decide +kernel
theorem d_D_source_29 : decode b_D_source 29 = .ok (.iload 4, 2) := by decide +kernel
theorem d_D_source_31 : decode b_D_source 31 = .ok (.iload_n 3, 1) := by decide +kernel
theorem d_D_source_32 : decode b_D_source 32 = .ok (.invokevirtual 154, 3) := by decide +kernel
theorem d_D_source_35 : decode b_D_source 35 = .ok (.istore 5, 2) := by decide +kernel
theorem d_D_source_37 : decode b_D_source 37 = .ok (.iload 5, 2) := by decide +kernel
theorem d_D_source_39 : decode b_D_source 39 = .ok (.iconst (-1), 1) := by decide +kernel
theorem d_D_source_40 : decode b_D_source 40 = .ok (.if_icmp .ne 7, 3) := by decide +kernel
theorem d_D_source_43 : decode b_D_source 43 = .ok (.iconst (-1), 1) := by decide +kernel
theorem d_D_source_44 : decode b_D_source 44 = .ok (.goto 15, 3) := by decide +kernel
theorem d_D_source_47 : decode b_D_source 47 = .ok (.aload_n 0, 1) := by decide +kernel
theorem d_D_source_48 : decode b_D_source 48 = .ok (.getfield 30, 3) := by decide +kernel
theorem d_D_source_51 : decode b_D_source 51 = .ok (.iload 5, 2) := by decide +kernel
theorem d_D_source_53 : decode b_D_source 53 = .ok (.invokevirtual 125, 3) := by decide +kernel
theorem d_D_source_56 : decode b_D_source 56 = .ok (.getfield 157, 3) := by decide +kernel
theorem d_D_source_59 : decode b_D_source 59 = .ok (.ireturn, 1) := by decide +kernel
theorem d_D_cue_0 : decode b_D_cue 0 = .ok (.iload_n 1, 1) := by decide +kernel
theorem d_D_cue_1 : decode b_D_cue 1 = .ok (.invokestatic 76, 3) := by decide +kernel
theorem d_D_cue_4 : decode b_D_cue 4 = .ok (.ifCond .ne 13, 3) := by decide +kernel
theorem d_D_cue_7 : decode b_D_cue 7 = .ok (.new 143, 3) := by decide +kernel
theorem d_D_cue_10 : decode b_D_cue 10 = .ok (.dup, 1) := by decide +kernel
theorem d_D_cue_11 : decode b_D_cue 11 = .ok (.ldc 160, 2) := by decide +kernel
theorem d_D_cue_13 : decode b_D_cue 13 = .ok (.invokespecial 147, 3) := by decide +kernel
theorem d_D_cue_16 : decode b_D_cue 16 = .ok (.athrow, 1) := by decide +kernel
theorem d_D_cue_17 : decode b_D_cue 17 = .ok (.aload_n 0, 1) := by decide +kernel
theorem d_D_cue_18 : decode b_D_cue 18 = .ok (.getfield 30, 3) := by decide +kernel
theorem d_D_cue_21 : decode b_D_cue 21 = .ok (.iload_n 1, 1) := by decide +kernel
theorem d_D_cue_22 : decode b_D_cue 22 = .ok (.invokevirtual 162, 3) := by decide +kernel
theorem d_D_cue_25 : decode b_D_cue 25 = .ok (.istore 4, 2) := by decide +kernel
theorem d_D_cue_27 : decode b_D_cue 27 = .ok (.iload_n 2, 1) := by decide +kernel
theorem d_D_cue_28 : decode b_D_cue 28 = .ok (.iconst (-1), 1) := by decide +kernel
theorem d_D_cue_29 : decode b_D_cue 29 = .ok (.if_icmp .ne 10, 3) := by decide +kernel
theorem d_D_cue_32 : decode b_D_cue 32 = .ok (.iload_n 3, 1) := by decide +kernel
theorem d_D_cue_33 : decode b_D_cue 33 = .ok (.ifCond .ne 6, 3) := by decide +kernel
theorem d_D_cue_36 : decode b_D_cue 36 = .ok (.iload 4, 2) := by decide +kernel
theorem d_D_cue_38 : decode b_D_cue 38 = .ok (.ireturn, 1) := by decide +kernel
theorem d_D_cue_39 : decode b_D_cue 39 = .ok (.iload_n 2, 1) := by decide +kernel
theorem d_D_cue_40 : decode b_D_cue 40 = .ok (.ifCond .lt 18, 3) := by decide +kernel
theorem d_D_cue_43 : decode b_D_cue 43 = .ok (.iload_n 2, 1) := by decide +kernel
theorem d_D_cue_44 : decode b_D_cue 44 = .ok (.iload 4, 2) := by decide +kernel
theorem d_D_cue_46 : decode b_D_cue 46 = .ok (.if_icmp .ge 12, 3) := by decide +kernel
theorem d_D_cue_49 : decode b_D_cue 49 = .ok (.iload_n 3, 1) := by decide +kernel
theorem d_D_cue_50 : decode b_D_cue 50 = .ok (.ifCond .lt 8, 3) := by decide +kernel
theorem d_D_cue_53 : decode b_D_cue 53 = .ok (.iload_n 3, 1) := by decide +kernel
theorem d_D_cue_54 : decode b_D_cue 54 = .ok (.iconst 5, 1) := by decide +kernel
theorem d_D_cue_55 : decode b_D_cue 55 = .ok (.if_icmp .le 13, 3) := by decide +kernel
theorem d_D_cue_58 : decode b_D_cue 58 = .ok (.new 143, 3) := by decide +kernel
theorem d_D_cue_61 : decode b_D_cue 61 = .ok (.dup, 1) := by decide +kernel
theorem d_D_cue_62 : decode b_D_cue 62 = .ok (.ldc 165, 2) := by decide +kernel
theorem d_D_cue_64 : decode b_D_cue 64 = .ok (.invokespecial 147, 3) := by decide +kernel
theorem d_D_cue_67 : decode b_D_cue 67 = .ok (.athrow, 1) := by decide +kernel
theorem d_D_cue_68 : decode b_D_cue 68 = .ok (.aload_n 0, 1) := by decide +kernel
theorem d_D_cue_69 : decode b_D_cue 69 = .ok (.getfield 30, 3) := by decide +kernel
theorem d_D_cue_72 : decode b_D_cue 72 = .ok (.aload_n 0, 1) := by decide +kernel
theorem d_D_cue_73 : decode b_D_cue 73 = .ok (.getfield 30, 3) := by decide +kernel
theorem d_D_cue_76 : decode b_D_cue 76 = .ok (.iload_n 1, 1) := by decide +kernel
theorem d_D_cue_77 : decode b_D_cue 77 = .ok (.invokevirtual 167, 3) := by decide +kernel
theorem d_D_cue_80 : decode b_D_cue 80 = .ok (.iload_n 2, 1) := by decide +kernel
theorem d_D_cue_81 : decode b_D_cue 81 = .ok (.iadd, 1) := by decide +kernel
theorem d_D_cue_82 : decode b_D_cue 82 = .ok (.invokevirtual 125, 3) := by decide +kernel
theorem d_D_cue_85 : decode b_D_cue 85 = .ok (.iload_n 3, 1) := by decide +kernel
theorem d_D_cue_86 : decode b_D_cue 86 = .ok (.invokevirtual 170, 3) := by decide +kernel
theorem d_D_cue_89 : decode b_D_cue 89 = .ok (.ireturn, 1) := by decide +kernel
theorem d_D_assign_0 : decode b_D_assign 0 = .ok (.iload_n 1, 1) := by decide +kernel
theorem d_D_assign_1 : decode b_D_assign 1 = .ok (.invokestatic 173, 3) := by decide +kernel
theorem d_D_assign_4 : decode b_D_assign 4 = .ok (.ifCond .eq 10, 3) := by decide +kernel
theorem d_D_assign_7 : decode b_D_assign 7 = .ok (.iload_n 2, 1) := by decide +kernel
theorem d_D_assign_8 : decode b_D_assign 8 = .ok (.invokestatic 76, 3) := by decide +kernel
theorem d_D_assign_11 : decode b_D_assign 11 = .ok (.ifCond .ne 5, 3) := by decide +kernel
theorem d_D_assign_14 : decode b_D_assign 14 = .ok (.iconst 0, 1) := by decide +kernel
theorem d_D_assign_15 : decode b_D_assign 15 = .ok (.ireturn, 1) := by decide +kernel
theorem d_D_assign_16 : decode b_D_assign 16 = .ok (.aload_n 0, 1) := by decide +kernel
theorem d_D_assign_17 : decode b_D_assign 17 = .ok (.getfield 36, 3) := by decide +kernel
theorem d_D_assign_20 : decode b_D_assign 20 = .ok (.iload_n 1, 1) := by decide +kernel
theorem d_D_assign_21 : decode b_D_assign 21 = .ok (.aaload, 1) := by decide +kernel
theorem d_D_assign_22 : decode b_D_assign 22 = .ok (.astore_n 3, 1) := by decide +kernel
theorem d_D_assign_23 : decode b_D_assign 23 = .ok (.aload_n 3, 1) := by decide +kernel
theorem d_D_assign_24 : decode b_D_assign 24 = .ok (.getfield 176, 3) := by decide +kernel
theorem d_D_assign_27 : decode b_D_assign 27 = .ok (.iconst (-1), 1) := by decide +kernel
theorem d_D_assign_28 : decode b_D_assign 28 = .ok (.if_icmp .eq 5, 3) := by decide +kernel
theorem d_D_assign_31 : decode b_D_assign 31 = .ok (.iconst 0, 1) := by decide +kernel
theorem d_D_assign_32 : decode b_D_assign 32 = .ok (.ireturn, 1) := by decide +kernel
theorem d_D_assign_33 : decode b_D_assign 33 = .ok (.aload_n 3, 1) := by decide +kernel
theorem d_D_assign_34 : decode b_D_assign 34 = .ok (.iload_n 2, 1) := by decide +kernel
theorem d_D_assign_35 : decode b_D_assign 35 = .ok (.putfield 179, 3) := by decide +kernel
theorem d_D_assign_38 : decode b_D_assign 38 = .ok (.iconst 1, 1) := by decide +kernel
theorem d_D_assign_39 : decode b_D_assign 39 = .ok (.ireturn, 1) := by decide +kernel
theorem d_D_go_0 : decode b_D_go 0 = .ok (.iload_n 1, 1) := by decide +kernel
theorem d_D_go_1 : decode b_D_go 1 = .ok (.invokestatic 173, 3) := by decide +kernel
theorem d_D_go_4 : decode b_D_go 4 = .ok (.ifCond .eq 11, 3) := by decide +kernel
theorem d_D_go_7 : decode b_D_go 7 = .ok (.aload_n 0, 1) := by decide +kernel
theorem d_D_go_8 : decode b_D_go 8 = .ok (.iload_n 3, 1) := by decide +kernel
theorem d_D_go_9 : decode b_D_go 9 = .ok (.invokevirtual 182, 3) := by decide +kernel
theorem d_D_go_12 : decode b_D_go 12 = .ok (.ifCond .ne 13, 3) := by decide +kernel
theorem d_D_go_15 : decode b_D_go 15 = .ok (.new 82, 3) := by decide +kernel
theorem d_D_go_18 : decode b_D_go 18 = .ok (.dup, 1) := by decide +kernel
theorem d_D_go_19 : decode b_D_go 19 = .ok (.ldc 185, 2) := by decide +kernel
theorem d_D_go_21 : decode b_D_go 21 = .ok (.invokespecial 86, 3) := by decide +kernel
theorem d_D_go_24 : decode b_D_go 24 = .ok (.athrow, 1) := by decide +kernel
theorem d_D_go_25 : decode b_D_go 25 = .ok (.aload_n 0, 1) := by decide +kernel
theorem d_D_go_26 : decode b_D_go 26 = .ok (.iload_n 3, 1) := by decide +kernel
theorem d_D_go_27 : decode b_D_go 27 = .ok (.invokevirtual 187, 3) := by decide +kernel
theorem d_D_go_30 : decode b_D_go 30 = .ok (.aload_n 0, 1) := by decide +kernel
theorem d_D_go_31 : decode b_D_go 31 = .ok (.getfield 36, 3) := by decide +kernel
theorem d_D_go_34 : decode b_D_go 34 = .ok (.iload_n 1, 1) := by decide +kernel
theorem d_D_go_35 : decode b_D_go 35 = .ok (.aaload, 1) := by decide +kernel
theorem d_D_go_36 : decode b_D_go 36 = .ok (.astore 4, 2) := by decide +kernel
theorem d_D_go_38 : decode b_D_go 38 = .ok (.iload_n 2, 1) := by decide +kernel
theorem d_D_go_39 : decode b_D_go 39 = .ok (.ifCond .eq 23, 3) := by decide +kernel
theorem d_D_go_42 : decode b_D_go 42 = .ok (.aload_n 0, 1) := by decide +kernel
theorem d_D_go_43 : decode b_D_go 43 = .ok (.getfield 30, 3) := by decide +kernel
theorem d_D_go_46 : decode b_D_go 46 = .ok (.aload 4, 2) := by decide +kernel
theorem d_D_go_48 : decode b_D_go 48 = .ok (.getfield 179, 3) := by decide +kernel
theorem d_D_go_51 : decode b_D_go 51 = .ok (.aload 4, 2) := by decide +kernel
theorem d_D_go_53 : decode b_D_go 53 = .ok (.getfield 190, 3) := by decide +kernel
theorem d_D_go_56 : decode b_D_go 56 = .ok (.invokevirtual 193, 3) := by decide +kernel
theorem d_D_go_59 : decode b_D_go 59 = .ok (.goto 20, 3) := by decide +kernel
theorem d_D_go_62 : decode b_D_go 62 = .ok (.aload_n 0, 1) := by decide +kernel
theorem d_D_go_63 : decode b_D_go 63 = .ok (.getfield 30, 3) := by decide +kernel
theorem d_D_go_66 : decode b_D_go 66 = .ok (.aload 4, 2) := by decide +kernel
theorem d_D_go_68 : decode b_D_go 68 = .ok (.getfield 179, 3) := by decide +kernel
theorem d_D_go_71 : decode b_D_go 71 = .ok (.aload 4, 2) := by decide +kernel
theorem d_D_go_73 : decode b_D_go 73 = .ok (.getfield 190, 3) := by decide +kernel
theorem d_D_go_76 : decode b_D_go 76 = .ok (.invokevirtual 196, 3) := by decide +kernel
theorem d_D_go_79 : decode b_D_go 79 = .ok (.istore 5, 2) := by decide +kernel
theorem d_D_go_81 : decode b_D_go 81 = .ok (.iload 5, 2) := by decide +kernel
theorem d_D_go_83 : decode b_D_go 83 = .ok (.iconst (-1), 1) := by decide +kernel
theorem d_D_go_84 : decode b_D_go 84 = .ok (.if_icmp .ne 13, 3) := by decide +kernel
theorem d_D_go_87 : decode b_D_go 87 = .ok (.new 199, 3) := by decide +kernel
theorem d_D_go_90 : decode b_D_go 90 = .ok (.dup, 1) := by decide +kernel
theorem d_D_go_91 : decode b_D_go 91 = .ok (.ldc 201, 2) := by decide +kernel
theorem d_D_go_93 : decode b_D_go 93 = .ok (.invokespecial 203, 3) := by decide +kernel
theorem d_D_go_96 : decode b_D_go 96 = .ok (.athrow, 1) := by decide +kernel
theorem d_D_go_97 : decode b_D_go 97 = .ok (.aload_n 0, 1) := by decide +kernel
theorem d_D_go_98 : decode b_D_go 98 = .ok (.aload 4, 2) := by decide +kernel
theorem d_D_go_100 : decode b_D_go 100 = .ok (.iload 5, 2) := by decide +kernel
theorem d_D_go_102 : decode b_D_go 102 = .ok (.iload_n 3, 1) := by decide +kernel
theorem d_D_go_103 : decode b_D_go 103 = .ok (.invokevirtual 204, 3) := by decide +kernel
theorem d_D_go_106 : decode b_D_go 106 = .ok (.aload 4, 2) := by decide +kernel
theorem d_D_go_108 : decode b_D_go 108 = .ok (.getfield 190, 3) := by decide +kernel
theorem d_D_go_111 : decode b_D_go 111 = .ok (.ireturn, 1) := by decide +kernel
theorem d_D_master_0 : decode b_D_master 0 = .ok (.iload_n 1, 1) := by decide +kernel
theorem d_D_master_1 : decode b_D_master 1 = .ok (.invokestatic 173, 3) := by decide +kernel
theorem d_D_master_4 : decode b_D_master 4 = .ok (.ifCond .eq 10, 3) := by decide +kernel
theorem d_D_master_7 : decode b_D_master 7 = .ok (.iload_n 2, 1) := by decide +kernel
theorem d_D_master_8 : decode b_D_master 8 = .ok (.invokestatic 52, 3) := by decide +kernel
theorem d_D_master_11 : decode b_D_master 11 = .ok (.ifCond .ne 5, 3) := by decide +kernel
theorem d_D_master_14 : decode b_D_master 14 = .ok (.iconst 0, 1) := by decide +kernel
theorem d_D_master_15 : decode b_D_master 15 = .ok (.ireturn, 1) := by decide +kernel
theorem d_D_master_16 : decode b_D_master 16 = .ok (.aload_n 0, 1) := by decide +kernel
theorem d_D_master_17 : decode b_D_master 17 = .ok (.getfield 36, 3) := by decide +kernel
theorem d_D_master_20 : decode b_D_master 20 = .ok (.iload_n 1, 1) := by decide +kernel
theorem d_D_master_21 : decode b_D_master 21 = .ok (.aaload, 1) := by decide +kernel
theorem d_D_master_22 : decode b_D_master 22 = .ok (.iload_n 2, 1) := by decide +kernel
theorem d_D_master_23 : decode b_D_master 23 = .ok (.putfield 208, 3) := by decide +kernel
theorem d_D_master_26 : decode b_D_master 26 = .ok (.iconst 1, 1) := by decide +kernel
theorem d_D_master_27 : decode b_D_master 27 = .ok (.ireturn, 1) := by decide +kernel
theorem d_D_out_0 : decode b_D_out 0 = .ok (.iload_n 1, 1) := by decide +kernel
theorem d_D_out_1 : decode b_D_out 1 = .ok (.invokestatic 48, 3) := by decide +kernel
theorem d_D_out_4 : decode b_D_out 4 = .ok (.ifCond .eq 11, 3) := by decide +kernel
theorem d_D_out_7 : decode b_D_out 7 = .ok (.aload_n 0, 1) := by decide +kernel
theorem d_D_out_8 : decode b_D_out 8 = .ok (.iload_n 2, 1) := by decide +kernel
theorem d_D_out_9 : decode b_D_out 9 = .ok (.invokevirtual 182, 3) := by decide +kernel
theorem d_D_out_12 : decode b_D_out 12 = .ok (.ifCond .ne 13, 3) := by decide +kernel
theorem d_D_out_15 : decode b_D_out 15 = .ok (.new 82, 3) := by decide +kernel
theorem d_D_out_18 : decode b_D_out 18 = .ok (.dup, 1) := by decide +kernel
theorem d_D_out_19 : decode b_D_out 19 = .ok (.ldc 211, 2) := by decide +kernel
theorem d_D_out_21 : decode b_D_out 21 = .ok (.invokespecial 86, 3) := by decide +kernel
theorem d_D_out_24 : decode b_D_out 24 = .ok (.athrow, 1) := by decide +kernel
theorem d_D_out_25 : decode b_D_out 25 = .ok (.aload_n 0, 1) := by decide +kernel
theorem d_D_out_26 : decode b_D_out 26 = .ok (.iload_n 2, 1) := by decide +kernel
theorem d_D_out_27 : decode b_D_out 27 = .ok (.invokevirtual 187, 3) := by decide +kernel
theorem d_D_out_30 : decode b_D_out 30 = .ok (.aload_n 0, 1) := by decide +kernel
theorem d_D_out_31 : decode b_D_out 31 = .ok (.getfield 23, 3) := by decide +kernel
theorem d_D_out_34 : decode b_D_out 34 = .ok (.aload_n 0, 1) := by decide +kernel
theorem d_D_out_35 : decode b_D_out 35 = .ok (.getfield 16, 3) := by decide +kernel
theorem d_D_out_38 : decode b_D_out 38 = .ok (.iload_n 1, 1) := by decide +kernel
theorem d_D_out_39 : decode b_D_out 39 = .ok (.invokevirtual 213, 3) := by decide +kernel
theorem d_D_out_42 : decode b_D_out 42 = .ok (.iload_n 1, 1) := by decide +kernel
theorem d_D_out_43 : decode b_D_out 43 = .ok (.invokevirtual 151, 3) := by decide +kernel
theorem d_D_out_46 : decode b_D_out 46 = .ok (.istore_n 3, 1) := by decide +kernel
theorem d_D_out_47 : decode b_D_out 47 = .ok (.iload_n 3, 1) := by decide +kernel
theorem d_D_out_48 : decode b_D_out 48 = .ok (.iconst (-1), 1) := by decide +kernel
theorem d_D_out_49 : decode b_D_out 49 = .ok (.if_icmp .eq 5, 3) := by decide +kernel
theorem d_D_out_52 : decode b_D_out 52 = .ok (.iload_n 3, 1) := by decide +kernel
theorem d_D_out_53 : decode b_D_out 53 = .ok (.ireturn, 1) := by decide +kernel
theorem d_D_out_54 : decode b_D_out 54 = .ok (.aload_n 0, 1) := by decide +kernel
theorem d_D_out_55 : decode b_D_out 55 = .ok (.getfield 9, 3) := by decide +kernel
theorem d_D_out_58 : decode b_D_out 58 = .ok (.iload_n 1, 1) := by decide +kernel
theorem d_D_out_59 : decode b_D_out 59 = .ok (.baload, 1) := by decide +kernel
theorem d_D_out_60 : decode b_D_out 60 = .ok (.ifCond .eq 11, 3) := by decide +kernel
theorem d_D_out_63 : decode b_D_out 63 = .ok (.aload_n 0, 1) := by decide +kernel
theorem d_D_out_64 : decode b_D_out 64 = .ok (.iload_n 1, 1) := by decide +kernel
theorem d_D_out_65 : decode b_D_out 65 = .ok (.invokevirtual 216, 3) := by decide +kernel
theorem d_D_out_68 : decode b_D_out 68 = .ok (.goto 8, 3) := by decide +kernel
theorem d_D_out_71 : decode b_D_out 71 = .ok (.aload_n 0, 1) := by decide +kernel
theorem d_D_out_72 : decode b_D_out 72 = .ok (.iload_n 1, 1) := by decide +kernel
theorem d_D_out_73 : decode b_D_out 73 = .ok (.invokevirtual 219, 3) := by decide +kernel
theorem d_D_out_76 : decode b_D_out 76 = .ok (.ireturn, 1) := by decide +kernel
theorem d_D_playback_0 : decode b_D_playback 0 = .ok (.iload_n 1, 1) := by decide +kernel
theorem d_D_playback_1 : decode b_D_playback 1 = .ok (.invokestatic 173, 3) := by decide +kernel
theorem d_D_playback_4 : decode b_D_playback 4 = .ok (.ifCond .ne 13, 3) := by decide +kernel
theorem d_D_playback_7 : decode b_D_playback 7 = .ok (.new 143, 3) := by decide +kernel
theorem d_D_playback_10 : decode b_D_playback 10 = .ok (.dup, 1) := by decide +kernel
theorem d_D_playback_11 : decode b_D_playback 11 = .ok (.ldc 222, 2) := by decide +kernel
theorem d_D_playback_13 : decode b_D_playback 13 = .ok (.invokespecial 147, 3) := by decide +kernel
theorem d_D_playback_16 : decode b_D_playback 16 = .ok (.athrow, 1) := by decide +kernel
theorem d_D_playback_17 : decode b_D_playback 17 = .ok (.aload_n 0, 1) := by decide +kernel
theorem d_D_playback_18 : decode b_D_playback 18 = .ok (.getfield 36, 3) := by decide +kernel
theorem d_D_playback_21 : decode b_D_playback 21 = .ok (.iload_n 1, 1) := by decide +kernel
theorem d_D_playback_22 : decode b_D_playback 22 = .ok (.aaload, 1) := by decide +kernel
theorem d_D_playback_23 : decode b_D_playback 23 = .ok (.astore_n 3, 1) := by decide +kernel
theorem d_D_playback_24 : decode b_D_playback 24 = .ok (.iload_n 2, 1) := by decide +kernel
theorem d_D_playback_25 : decode b_D_playback 25 = .ok (.tableswitch 60 0 4 #[35, 40, 45, 50, 55], 35) := by decide +kernel
theorem d_D_playback_60 : decode b_D_playback 60 = .ok (.aload_n 3, 1) := by decide +kernel
theorem d_D_playback_61 : decode b_D_playback 61 = .ok (.getfield 179, 3) := by decide +kernel
theorem d_D_playback_64 : decode b_D_playback 64 = .ok (.ireturn, 1) := by decide +kernel
theorem d_D_playback_65 : decode b_D_playback 65 = .ok (.aload_n 3, 1) := by decide +kernel
theorem d_D_playback_66 : decode b_D_playback 66 = .ok (.getfield 190, 3) := by decide +kernel
theorem d_D_playback_69 : decode b_D_playback 69 = .ok (.ireturn, 1) := by decide +kernel
theorem d_D_playback_70 : decode b_D_playback 70 = .ok (.aload_n 3, 1) := by decide +kernel
theorem d_D_playback_71 : decode b_D_playback 71 = .ok (.getfield 208, 3) := by decide +kernel
theorem d_D_playback_74 : decode b_D_playback 74 = .ok (.ireturn, 1) := by decide +kernel
theorem d_D_playback_75 : decode b_D_playback 75 = .ok (.aload_n 3, 1) := by decide +kernel
theorem d_D_playback_76 : decode b_D_playback 76 = .ok (.getfield 176, 3) := by decide +kernel
theorem d_D_playback_79 : decode b_D_playback 79 = .ok (.ireturn, 1) := by decide +kernel
theorem d_D_playback_80 : decode b_D_playback 80 = .ok (.aload_n 3, 1) := by decide +kernel
theorem d_D_playback_81 : decode b_D_playback 81 = .ok (.getfield 224, 3) := by decide +kernel
theorem d_D_playback_84 : decode b_D_playback 84 = .ok (.ireturn, 1) := by decide +kernel
theorem d_D_playback_85 : decode b_D_playback 85 = .ok (.iload_n 2, 1) := by decide +kernel
theorem d_D_playback_86 : decode b_D_playback 86 = .ok (.bipush 8, 2) := by decide +kernel
theorem d_D_playback_88 : decode b_D_playback 88 = .ok (.if_icmp .lt 9, 3) := by decide +kernel
theorem d_D_playback_91 : decode b_D_playback 91 = .ok (.iload_n 2, 1) := by decide +kernel
theorem d_D_playback_92 : decode b_D_playback 92 = .ok (.bipush 72, 2) := by decide +kernel
theorem d_D_playback_94 : decode b_D_playback 94 = .ok (.if_icmp .lt 13, 3) := by decide +kernel
theorem d_D_playback_97 : decode b_D_playback 97 = .ok (.new 143, 3) := by decide +kernel
theorem d_D_playback_100 : decode b_D_playback 100 = .ok (.dup, 1) := by decide +kernel
theorem d_D_playback_101 : decode b_D_playback 101 = .ok (.ldc 227, 2) := by decide +kernel
theorem d_D_playback_103 : decode b_D_playback 103 = .ok (.invokespecial 147, 3) := by decide +kernel
theorem d_D_playback_106 : decode b_D_playback 106 = .ok (.athrow, 1) := by decide +kernel
theorem d_D_playback_107 : decode b_D_playback 107 = .ok (.aload_n 3, 1) := by decide +kernel
theorem d_D_playback_108 : decode b_D_playback 108 = .ok (.iload_n 2, 1) := by decide +kernel
theorem d_D_playback_109 : decode b_D_playback 109 = .ok (.bipush 8, 2) := by decide +kernel
theorem d_D_playback_111 : decode b_D_playback 111 = .ok (.isub, 1) := by decide +kernel
theorem d_D_playback_112 : decode b_D_playback 112 = .ok (.aload_n 0, 1) := by decide +kernel
theorem d_D_playback_113 : decode b_D_playback 113 = .ok (.getfield 40, 3) := by decide +kernel
theorem d_D_playback_116 : decode b_D_playback 116 = .ok (.invokevirtual 229, 3) := by decide +kernel
theorem d_D_playback_119 : decode b_D_playback 119 = .ok (.ireturn, 1) := by decide +kernel
theorem d_D_count_0 : decode b_D_count 0 = .ok (.iload_n 1, 1) := by decide +kernel
theorem d_D_count_1 : decode b_D_count 1 = .ok (.tableswitch 69 0 4 #[35, 43, 51, 59, 64], 35) := by decide +kernel
theorem d_D_count_36 : decode b_D_count 36 = .ok (.aload_n 0, 1) := by decide +kernel
theorem d_D_count_37 : decode b_D_count 37 = .ok (.getfield 30, 3) := by decide +kernel
theorem d_D_count_40 : decode b_D_count 40 = .ok (.getfield 232, 3) := by decide +kernel
theorem d_D_count_43 : decode b_D_count 43 = .ok (.ireturn, 1) := by decide +kernel
theorem d_D_count_44 : decode b_D_count 44 = .ok (.aload_n 0, 1) := by decide +kernel
theorem d_D_count_45 : decode b_D_count 45 = .ok (.getfield 30, 3) := by decide +kernel
theorem d_D_count_48 : decode b_D_count 48 = .ok (.invokevirtual 235, 3) := by decide +kernel
theorem d_D_count_51 : decode b_D_count 51 = .ok (.ireturn, 1) := by decide +kernel
theorem d_D_count_52 : decode b_D_count 52 = .ok (.aload_n 0, 1) := by decide +kernel
theorem d_D_count_53 : decode b_D_count 53 = .ok (.getfield 16, 3) := by decide +kernel
theorem d_D_count_56 : decode b_D_count 56 = .ok (.getfield 62, 3) := by decide +kernel
theorem d_D_count_59 : decode b_D_count 59 = .ok (.ireturn, 1) := by decide +kernel
theorem d_D_count_60 : decode b_D_count 60 = .ok (.aload_n 0, 1) := by decide +kernel
theorem d_D_count_61 : decode b_D_count 61 = .ok (.getfield 40, 3) := by decide +kernel
theorem d_D_count_64 : decode b_D_count 64 = .ok (.ireturn, 1) := by decide +kernel
theorem d_D_count_65 : decode b_D_count 65 = .ok (.aload_n 0, 1) := by decide +kernel
theorem d_D_count_66 : decode b_D_count 66 = .ok (.getfield 44, 3) := by decide +kernel
theorem d_D_count_69 : decode b_D_count 69 = .ok (.ireturn, 1) := by decide +kernel
theorem d_D_count_70 : decode b_D_count 70 = .ok (.iconst (-1), 1) := by decide +kernel
theorem d_D_count_71 : decode b_D_count 71 = .ok (.ireturn, 1) := by decide +kernel
theorem d_D_isChannel_0 : decode b_D_isChannel 0 = .ok (.iload_n 0, 1) := by decide +kernel
theorem d_D_isChannel_1 : decode b_D_isChannel 1 = .ok (.ifCond .lt 13, 3) := by decide +kernel
theorem d_D_isChannel_4 : decode b_D_isChannel 4 = .ok (.iload_n 0, 1) := by decide +kernel
theorem d_D_isChannel_5 : decode b_D_isChannel 5 = .ok (.bipush 64, 2) := by decide +kernel
theorem d_D_isChannel_7 : decode b_D_isChannel 7 = .ok (.if_icmp .ge 7, 3) := by decide +kernel
theorem d_D_isChannel_10 : decode b_D_isChannel 10 = .ok (.iconst 1, 1) := by decide +kernel
theorem d_D_isChannel_11 : decode b_D_isChannel 11 = .ok (.goto 4, 3) := by decide +kernel
theorem d_D_isChannel_14 : decode b_D_isChannel 14 = .ok (.iconst 0, 1) := by decide +kernel
theorem d_D_isChannel_15 : decode b_D_isChannel 15 = .ok (.ireturn, 1) := by decide +kernel
theorem d_D_isLevel_0 : decode b_D_isLevel 0 = .ok (.iload_n 0, 1) := by decide +kernel
theorem d_D_isLevel_1 : decode b_D_isLevel 1 = .ok (.ifCond .lt 14, 3) := by decide +kernel
theorem d_D_isLevel_4 : decode b_D_isLevel 4 = .ok (.iload_n 0, 1) := by decide +kernel
theorem d_D_isLevel_5 : decode b_D_isLevel 5 = .ok (.sipush 255, 3) := by decide +kernel
theorem d_D_isLevel_8 : decode b_D_isLevel 8 = .ok (.if_icmp .gt 7, 3) := by decide +kernel
theorem d_D_isLevel_11 : decode b_D_isLevel 11 = .ok (.iconst 1, 1) := by decide +kernel
theorem d_D_isLevel_12 : decode b_D_isLevel 12 = .ok (.goto 4, 3) := by decide +kernel
theorem d_D_isLevel_15 : decode b_D_isLevel 15 = .ok (.iconst 0, 1) := by decide +kernel
theorem d_D_isLevel_16 : decode b_D_isLevel 16 = .ok (.ireturn, 1) := by decide +kernel
theorem d_D_isPalette_0 : decode b_D_isPalette 0 = .ok (.iload_n 0, 1) := by decide +kernel
theorem d_D_isPalette_1 : decode b_D_isPalette 1 = .ok (.ifCond .lt 13, 3) := by decide +kernel
theorem d_D_isPalette_4 : decode b_D_isPalette 4 = .ok (.iload_n 0, 1) := by decide +kernel
theorem d_D_isPalette_5 : decode b_D_isPalette 5 = .ok (.bipush 16, 2) := by decide +kernel
theorem d_D_isPalette_7 : decode b_D_isPalette 7 = .ok (.if_icmp .ge 7, 3) := by decide +kernel
theorem d_D_isPalette_10 : decode b_D_isPalette 10 = .ok (.iconst 1, 1) := by decide +kernel
theorem d_D_isPalette_11 : decode b_D_isPalette 11 = .ok (.goto 4, 3) := by decide +kernel
theorem d_D_isPalette_14 : decode b_D_isPalette 14 = .ok (.iconst 0, 1) := by decide +kernel
theorem d_D_isPalette_15 : decode b_D_isPalette 15 = .ok (.ireturn, 1) := by decide +kernel
theorem d_D_isList_0 : decode b_D_isList 0 = .ok (.iload_n 0, 1) := by decide +kernel
theorem d_D_isList_1 : decode b_D_isList 1 = .ok (.ifCond .lt 12, 3) := by decide +kernel
theorem d_D_isList_4 : decode b_D_isList 4 = .ok (.iload_n 0, 1) := by decide +kernel
theorem d_D_isList_5 : decode b_D_isList 5 = .ok (.iconst 4, 1) := by decide +kernel
theorem d_D_isList_6 : decode b_D_isList 6 = .ok (.if_icmp .ge 7, 3) := by decide +kernel
theorem d_D_isList_9 : decode b_D_isList 9 = .ok (.iconst 1, 1) := by decide +kernel
theorem d_D_isList_10 : decode b_D_isList 10 = .ok (.goto 4, 3) := by decide +kernel
theorem d_D_isList_13 : decode b_D_isList 13 = .ok (.iconst 0, 1) := by decide +kernel
theorem d_D_isList_14 : decode b_D_isList 14 = .ok (.ireturn, 1) := by decide +kernel
theorem d_D_isNumber_0 : decode b_D_isNumber 0 = .ok (.iload_n 0, 1) := by decide +kernel
theorem d_D_isNumber_1 : decode b_D_isNumber 1 = .ok (.iconst 1, 1) := by decide +kernel
theorem d_D_isNumber_2 : decode b_D_isNumber 2 = .ok (.if_icmp .lt 14, 3) := by decide +kernel
theorem d_D_isNumber_5 : decode b_D_isNumber 5 = .ok (.iload_n 0, 1) := by decide +kernel
theorem d_D_isNumber_6 : decode b_D_isNumber 6 = .ok (.sipush 9999, 3) := by decide +kernel
theorem d_D_isNumber_9 : decode b_D_isNumber 9 = .ok (.if_icmp .gt 7, 3) := by decide +kernel
theorem d_D_isNumber_12 : decode b_D_isNumber 12 = .ok (.iconst 1, 1) := by decide +kernel
theorem d_D_isNumber_13 : decode b_D_isNumber 13 = .ok (.goto 4, 3) := by decide +kernel
theorem d_D_isNumber_16 : decode b_D_isNumber 16 = .ok (.iconst 0, 1) := by decide +kernel
theorem d_D_isNumber_17 : decode b_D_isNumber 17 = .ok (.ireturn, 1) := by decide +kernel
theorem d_D_isPlayback_0 : decode b_D_isPlayback 0 = .ok (.iload_n 0, 1) := by decide +kernel
theorem d_D_isPlayback_1 : decode b_D_isPlayback 1 = .ok (.ifCond .lt 13, 3) := by decide +kernel
theorem d_D_isPlayback_4 : decode b_D_isPlayback 4 = .ok (.iload_n 0, 1) := by decide +kernel
theorem d_D_isPlayback_5 : decode b_D_isPlayback 5 = .ok (.bipush 6, 2) := by decide +kernel
theorem d_D_isPlayback_7 : decode b_D_isPlayback 7 = .ok (.if_icmp .ge 7, 3) := by decide +kernel
theorem d_D_isPlayback_10 : decode b_D_isPlayback 10 = .ok (.iconst 1, 1) := by decide +kernel
theorem d_D_isPlayback_11 : decode b_D_isPlayback 11 = .ok (.goto 4, 3) := by decide +kernel
theorem d_D_isPlayback_14 : decode b_D_isPlayback 14 = .ok (.iconst 0, 1) := by decide +kernel
theorem d_D_isPlayback_15 : decode b_D_isPlayback 15 = .ok (.ireturn, 1) := by decide +kernel
theorem d_D_isTime_0 : decode b_D_isTime 0 = .ok (.iload_n 0, 1) := by decide +kernel
theorem d_D_isTime_1 : decode b_D_isTime 1 = .ok (.ifCond .lt 14, 3) := by decide +kernel
theorem d_D_isTime_4 : decode b_D_isTime 4 = .ok (.iload_n 0, 1) := by decide +kernel
theorem d_D_isTime_5 : decode b_D_isTime 5 = .ok (.sipush 10000, 3) := by decide +kernel
theorem d_D_isTime_8 : decode b_D_isTime 8 = .ok (.if_icmp .gt 7, 3) := by decide +kernel
theorem d_D_isTime_11 : decode b_D_isTime 11 = .ok (.iconst 1, 1) := by decide +kernel
theorem d_D_isTime_12 : decode b_D_isTime 12 = .ok (.goto 4, 3) := by decide +kernel
theorem d_D_isTime_15 : decode b_D_isTime 15 = .ok (.iconst 0, 1) := by decide +kernel
theorem d_D_isTime_16 : decode b_D_isTime 16 = .ok (.ireturn, 1) := by decide +kernel
theorem d_D_placeOrThrow_0 : decode b_D_placeOrThrow 0 = .ok (.aload_n 0, 1) := by decide +kernel
theorem d_D_placeOrThrow_1 : decode b_D_placeOrThrow 1 = .ok (.getfield 30, 3) := by decide +kernel
theorem d_D_placeOrThrow_4 : decode b_D_placeOrThrow 4 = .ok (.iload_n 1, 1) := by decide +kernel
theorem d_D_placeOrThrow_5 : decode b_D_placeOrThrow 5 = .ok (.iload_n 2, 1) := by decide +kernel
theorem d_D_placeOrThrow_6 : decode b_D_placeOrThrow 6 = .ok (.invokevirtual 119, 3) := by decide +kernel
theorem d_D_placeOrThrow_9 : decode b_D_placeOrThrow 9 = .ok (.istore_n 3, 1) := by decide +kernel
theorem d_D_placeOrThrow_10 : decode b_D_placeOrThrow 10 = .ok (.iload_n 3, 1) := by decide +kernel
theorem d_D_placeOrThrow_11 : decode b_D_placeOrThrow 11 = .ok (.iconst (-1), 1) := by decide +kernel
theorem d_D_placeOrThrow_12 : decode b_D_placeOrThrow 12 = .ok (.if_icmp .ne 13, 3) := by decide +kernel
theorem d_D_placeOrThrow_15 : decode b_D_placeOrThrow 15 = .ok (.new 199, 3) := by decide +kernel
theorem d_D_placeOrThrow_18 : decode b_D_placeOrThrow 18 = .ok (.dup, 1) := by decide +kernel
theorem d_D_placeOrThrow_19 : decode b_D_placeOrThrow 19 = .ok (.ldc 239, 2) := by decide +kernel
theorem d_D_placeOrThrow_21 : decode b_D_placeOrThrow 21 = .ok (.invokespecial 203, 3) := by decide +kernel
theorem d_D_placeOrThrow_24 : decode b_D_placeOrThrow 24 = .ok (.athrow, 1) := by decide +kernel
theorem d_D_placeOrThrow_25 : decode b_D_placeOrThrow 25 = .ok (.iload_n 3, 1) := by decide +kernel
theorem d_D_placeOrThrow_26 : decode b_D_placeOrThrow 26 = .ok (.ireturn, 1) := by decide +kernel
theorem d_D_isTellable_0 : decode b_D_isTellable 0 = .ok (.iload_n 1, 1) := by decide +kernel
theorem d_D_isTellable_1 : decode b_D_isTellable 1 = .ok (.aload_n 0, 1) := by decide +kernel
theorem d_D_isTellable_2 : decode b_D_isTellable 2 = .ok (.getfield 40, 3) := by decide +kernel
theorem d_D_isTellable_5 : decode b_D_isTellable 5 = .ok (.if_icmp .lt 13, 3) := by decide +kernel
theorem d_D_isTellable_8 : decode b_D_isTellable 8 = .ok (.iload_n 1, 1) := by decide +kernel
theorem d_D_isTellable_9 : decode b_D_isTellable 9 = .ok (.ldc 241, 2) := by decide +kernel
theorem d_D_isTellable_11 : decode b_D_isTellable 11 = .ok (.if_icmp .gt 7, 3) := by decide +kernel
theorem d_D_isTellable_14 : decode b_D_isTellable 14 = .ok (.iconst 1, 1) := by decide +kernel
theorem d_D_isTellable_15 : decode b_D_isTellable 15 = .ok (.goto 4, 3) := by decide +kernel
theorem d_D_isTellable_18 : decode b_D_isTellable 18 = .ok (.iconst 0, 1) := by decide +kernel
theorem d_D_isTellable_19 : decode b_D_isTellable 19 = .ok (.ireturn, 1) := by decide +kernel
theorem d_D_tell_0 : decode b_D_tell 0 = .ok (.iconst 0, 1) := by decide +kernel
theorem d_D_tell_1 : decode b_D_tell 1 = .ok (.istore_n 2, 1) := by decide +kernel
theorem d_D_tell_2 : decode b_D_tell 2 = .ok (.iload_n 2, 1) := by decide +kernel
theorem d_D_tell_3 : decode b_D_tell 3 = .ok (.sipush 1000, 3) := by decide +kernel
theorem d_D_tell_6 : decode b_D_tell 6 = .ok (.if_icmp .ge 33, 3) := by decide +kernel
theorem d_D_tell_9 : decode b_D_tell 9 = .ok (.aload_n 0, 1) := by decide +kernel
theorem d_D_tell_10 : decode b_D_tell 10 = .ok (.iload_n 1, 1) := by decide +kernel
theorem d_D_tell_11 : decode b_D_tell 11 = .ok (.invokevirtual 242, 3) := by decide +kernel
theorem d_D_tell_14 : decode b_D_tell 14 = .ok (.istore_n 3, 1) := by decide +kernel
theorem d_D_tell_15 : decode b_D_tell 15 = .ok (.iload_n 3, 1) := by decide +kernel
theorem d_D_tell_16 : decode b_D_tell 16 = .ok (.iconst (-1), 1) := by decide +kernel
theorem d_D_tell_17 : decode b_D_tell 17 = .ok (.if_icmp .ne 6, 3) := by decide +kernel
theorem d_D_tell_20 : decode b_D_tell 20 = .ok (.goto 19, 3) := by decide +kernel
theorem d_D_tell_23 : decode b_D_tell 23 = .ok (.aload_n 0, 1) := by decide +kernel
theorem d_D_tell_24 : decode b_D_tell 24 = .ok (.aload_n 0, 1) := by decide +kernel
theorem d_D_tell_25 : decode b_D_tell 25 = .ok (.getfield 36, 3) := by decide +kernel
theorem d_D_tell_28 : decode b_D_tell 28 = .ok (.iload_n 3, 1) := by decide +kernel
theorem d_D_tell_29 : decode b_D_tell 29 = .ok (.aaload, 1) := by decide +kernel
theorem d_D_tell_30 : decode b_D_tell 30 = .ok (.invokevirtual 245, 3) := by decide +kernel
theorem d_D_tell_33 : decode b_D_tell 33 = .ok (.iinc 2 1, 3) := by decide +kernel
theorem d_D_tell_36 : decode b_D_tell 36 = .ok (.goto (-34), 3) := by decide +kernel
theorem d_D_tell_39 : decode b_D_tell 39 = .ok (.aload_n 0, 1) := by decide +kernel
theorem d_D_tell_40 : decode b_D_tell 40 = .ok (.iload_n 1, 1) := by decide +kernel
theorem d_D_tell_41 : decode b_D_tell 41 = .ok (.putfield 40, 3) := by decide +kernel
theorem d_D_tell_44 : decode b_D_tell 44 = .ok (.return_, 1) := by decide +kernel
theorem d_D_earliestDue_0 : decode b_D_earliestDue 0 = .ok (.iconst (-1), 1) := by decide +kernel
theorem d_D_earliestDue_1 : decode b_D_earliestDue 1 = .ok (.istore_n 2, 1) := by decide +kernel
theorem d_D_earliestDue_2 : decode b_D_earliestDue 2 = .ok (.iload_n 1, 1) := by decide +kernel
theorem d_D_earliestDue_3 : decode b_D_earliestDue 3 = .ok (.istore_n 3, 1) := by decide +kernel
theorem d_D_earliestDue_4 : decode b_D_earliestDue 4 = .ok (.iconst 0, 1) := by decide +kernel
theorem d_D_earliestDue_5 : decode b_D_earliestDue 5 = .ok (.istore 4, 2) := by decide +kernel
theorem d_D_earliestDue_7 : decode b_D_earliestDue 7 = .ok (.iload 4, 2) := by decide +kernel
theorem d_D_earliestDue_9 : decode b_D_earliestDue 9 = .ok (.bipush 6, 2) := by decide +kernel
theorem d_D_earliestDue_11 : decode b_D_earliestDue 11 = .ok (.if_icmp .ge 53, 3) := by decide +kernel
theorem d_D_earliestDue_14 : decode b_D_earliestDue 14 = .ok (.aload_n 0, 1) := by decide +kernel
theorem d_D_earliestDue_15 : decode b_D_earliestDue 15 = .ok (.getfield 36, 3) := by decide +kernel
theorem d_D_earliestDue_18 : decode b_D_earliestDue 18 = .ok (.iload 4, 2) := by decide +kernel
theorem d_D_earliestDue_20 : decode b_D_earliestDue 20 = .ok (.aaload, 1) := by decide +kernel
theorem d_D_earliestDue_21 : decode b_D_earliestDue 21 = .ok (.getfield 224, 3) := by decide +kernel
theorem d_D_earliestDue_24 : decode b_D_earliestDue 24 = .ok (.istore 5, 2) := by decide +kernel
theorem d_D_earliestDue_26 : decode b_D_earliestDue 26 = .ok (.iload 5, 2) := by decide +kernel
theorem d_D_earliestDue_28 : decode b_D_earliestDue 28 = .ok (.iconst (-1), 1) := by decide +kernel
theorem d_D_earliestDue_29 : decode b_D_earliestDue 29 = .ok (.if_icmp .eq 29, 3) := by decide +kernel
theorem d_D_earliestDue_32 : decode b_D_earliestDue 32 = .ok (.iload 5, 2) := by decide +kernel
theorem d_D_earliestDue_34 : decode b_D_earliestDue 34 = .ok (.iload_n 3, 1) := by decide +kernel
theorem d_D_earliestDue_35 : decode b_D_earliestDue 35 = .ok (.if_icmp .le 6, 3) := by decide +kernel
theorem d_D_earliestDue_38 : decode b_D_earliestDue 38 = .ok (.goto 20, 3) := by decide +kernel
theorem d_D_earliestDue_41 : decode b_D_earliestDue 41 = .ok (.iload_n 2, 1) := by decide +kernel
theorem d_D_earliestDue_42 : decode b_D_earliestDue 42 = .ok (.iconst (-1), 1) := by decide +kernel
theorem d_D_earliestDue_43 : decode b_D_earliestDue 43 = .ok (.if_icmp .eq 9, 3) := by decide +kernel
theorem d_D_earliestDue_46 : decode b_D_earliestDue 46 = .ok (.iload 5, 2) := by decide +kernel
theorem d_D_earliestDue_48 : decode b_D_earliestDue 48 = .ok (.iload_n 3, 1) := by decide +kernel
theorem d_D_earliestDue_49 : decode b_D_earliestDue 49 = .ok (.if_icmp .ge 9, 3) := by decide +kernel
theorem d_D_earliestDue_52 : decode b_D_earliestDue 52 = .ok (.iload 4, 2) := by decide +kernel
theorem d_D_earliestDue_54 : decode b_D_earliestDue 54 = .ok (.istore_n 2, 1) := by decide +kernel
theorem d_D_earliestDue_55 : decode b_D_earliestDue 55 = .ok (.iload 5, 2) := by decide +kernel
theorem d_D_earliestDue_57 : decode b_D_earliestDue 57 = .ok (.istore_n 3, 1) := by decide +kernel
theorem d_D_earliestDue_58 : decode b_D_earliestDue 58 = .ok (.iinc 4 1, 3) := by decide +kernel
theorem d_D_earliestDue_61 : decode b_D_earliestDue 61 = .ok (.goto (-54), 3) := by decide +kernel
theorem d_D_earliestDue_64 : decode b_D_earliestDue 64 = .ok (.iload_n 2, 1) := by decide +kernel
theorem d_D_earliestDue_65 : decode b_D_earliestDue 65 = .ok (.ireturn, 1) := by decide +kernel
theorem d_D_followOn_0 : decode b_D_followOn 0 = .ok (.aload_n 0, 1) := by decide +kernel
theorem d_D_followOn_1 : decode b_D_followOn 1 = .ok (.getfield 30, 3) := by decide +kernel
theorem d_D_followOn_4 : decode b_D_followOn 4 = .ok (.aload_n 1, 1) := by decide +kernel
theorem d_D_followOn_5 : decode b_D_followOn 5 = .ok (.getfield 179, 3) := by decide +kernel
theorem d_D_followOn_8 : decode b_D_followOn 8 = .ok (.aload_n 1, 1) := by decide +kernel
theorem d_D_followOn_9 : decode b_D_followOn 9 = .ok (.getfield 190, 3) := by decide +kernel
theorem d_D_followOn_12 : decode b_D_followOn 12 = .ok (.invokevirtual 196, 3) := by decide +kernel
theorem d_D_followOn_15 : decode b_D_followOn 15 = .ok (.istore_n 2, 1) := by decide +kernel
theorem d_D_followOn_16 : decode b_D_followOn 16 = .ok (.iload_n 2, 1) := by decide +kernel
theorem d_D_followOn_17 : decode b_D_followOn 17 = .ok (.iconst (-1), 1) := by decide +kernel
theorem d_D_followOn_18 : decode b_D_followOn 18 = .ok (.if_icmp .ne 11, 3) := by decide +kernel
theorem d_D_followOn_21 : decode b_D_followOn 21 = .ok (.aload_n 1, 1) := by decide +kernel
theorem d_D_followOn_22 : decode b_D_followOn 22 = .ok (.iconst (-1), 1) := by decide +kernel
theorem d_D_followOn_23 : decode b_D_followOn 23 = .ok (.putfield 224, 3) := by decide +kernel
theorem d_D_followOn_26 : decode b_D_followOn 26 = .ok (.goto 13, 3) := by decide +kernel
theorem d_D_followOn_29 : decode b_D_followOn 29 = .ok (.aload_n 0, 1) := by decide +kernel
theorem d_D_followOn_30 : decode b_D_followOn 30 = .ok (.aload_n 1, 1) := by decide +kernel
theorem d_D_followOn_31 : decode b_D_followOn 31 = .ok (.iload_n 2, 1) := by decide +kernel
theorem d_D_followOn_32 : decode b_D_followOn 32 = .ok (.aload_n 1, 1) := by decide +kernel
theorem d_D_followOn_33 : decode b_D_followOn 33 = .ok (.getfield 224, 3) := by decide +kernel
theorem d_D_followOn_36 : decode b_D_followOn 36 = .ok (.invokevirtual 204, 3) := by decide +kernel
theorem d_D_followOn_39 : decode b_D_followOn 39 = .ok (.return_, 1) := by decide +kernel
theorem d_D_startCue_0 : decode b_D_startCue 0 = .ok (.aload_n 0, 1) := by decide +kernel
theorem d_D_startCue_1 : decode b_D_startCue 1 = .ok (.getfield 30, 3) := by decide +kernel
theorem d_D_startCue_4 : decode b_D_startCue 4 = .ok (.iload_n 2, 1) := by decide +kernel
theorem d_D_startCue_5 : decode b_D_startCue 5 = .ok (.invokevirtual 125, 3) := by decide +kernel
theorem d_D_startCue_8 : decode b_D_startCue 8 = .ok (.astore 4, 2) := by decide +kernel
theorem d_D_startCue_10 : decode b_D_startCue 10 = .ok (.iconst 0, 1) := by decide +kernel
theorem d_D_startCue_11 : decode b_D_startCue 11 = .ok (.istore 5, 2) := by decide +kernel
theorem d_D_startCue_13 : decode b_D_startCue 13 = .ok (.iload 5, 2) := by decide +kernel
theorem d_D_startCue_15 : decode b_D_startCue 15 = .ok (.bipush 64, 2) := by decide +kernel
theorem d_D_startCue_17 : decode b_D_startCue 17 = .ok (.if_icmp .ge 47, 3) := by decide +kernel
theorem d_D_startCue_20 : decode b_D_startCue 20 = .ok (.aload_n 0, 1) := by decide +kernel
theorem d_D_startCue_21 : decode b_D_startCue 21 = .ok (.getfield 23, 3) := by decide +kernel
theorem d_D_startCue_24 : decode b_D_startCue 24 = .ok (.aload_n 0, 1) := by decide +kernel
theorem d_D_startCue_25 : decode b_D_startCue 25 = .ok (.getfield 30, 3) := by decide +kernel
theorem d_D_startCue_28 : decode b_D_startCue 28 = .ok (.iload_n 2, 1) := by decide +kernel
theorem d_D_startCue_29 : decode b_D_startCue 29 = .ok (.iload 5, 2) := by decide +kernel
theorem d_D_startCue_31 : decode b_D_startCue 31 = .ok (.invokevirtual 148, 3) := by decide +kernel
theorem d_D_startCue_34 : decode b_D_startCue 34 = .ok (.iload 5, 2) := by decide +kernel
theorem d_D_startCue_36 : decode b_D_startCue 36 = .ok (.invokevirtual 151, 3) := by decide +kernel
theorem d_D_startCue_39 : decode b_D_startCue 39 = .ok (.istore 6, 2) := by decide +kernel
theorem d_D_startCue_41 : decode b_D_startCue 41 = .ok (.iload 6, 2) := by decide +kernel
theorem d_D_startCue_43 : decode b_D_startCue 43 = .ok (.iconst (-1), 1) := by decide +kernel
theorem d_D_startCue_44 : decode b_D_startCue 44 = .ok (.if_icmp .eq 14, 3) := by decide +kernel
theorem d_D_startCue_47 : decode b_D_startCue 47 = .ok (.aload_n 1, 1) := by decide +kernel
theorem d_D_startCue_48 : decode b_D_startCue 48 = .ok (.iload 5, 2) := by decide +kernel
theorem d_D_startCue_50 : decode b_D_startCue 50 = .ok (.iload 6, 2) := by decide +kernel
theorem d_D_startCue_52 : decode b_D_startCue 52 = .ok (.aload 4, 2) := by decide +kernel
theorem d_D_startCue_54 : decode b_D_startCue 54 = .ok (.iload_n 3, 1) := by decide +kernel
theorem d_D_startCue_55 : decode b_D_startCue 55 = .ok (.invokevirtual 248, 3) := by decide +kernel
theorem d_D_startCue_58 : decode b_D_startCue 58 = .ok (.iinc 5 1, 3) := by decide +kernel
theorem d_D_startCue_61 : decode b_D_startCue 61 = .ok (.goto (-48), 3) := by decide +kernel
theorem d_D_startCue_64 : decode b_D_startCue 64 = .ok (.aload_n 1, 1) := by decide +kernel
theorem d_D_startCue_65 : decode b_D_startCue 65 = .ok (.aload 4, 2) := by decide +kernel
theorem d_D_startCue_67 : decode b_D_startCue 67 = .ok (.getfield 157, 3) := by decide +kernel
theorem d_D_startCue_70 : decode b_D_startCue 70 = .ok (.putfield 190, 3) := by decide +kernel
theorem d_D_startCue_73 : decode b_D_startCue 73 = .ok (.aload_n 1, 1) := by decide +kernel
theorem d_D_startCue_74 : decode b_D_startCue 74 = .ok (.iload_n 3, 1) := by decide +kernel
theorem d_D_startCue_75 : decode b_D_startCue 75 = .ok (.putfield 176, 3) := by decide +kernel
theorem d_D_startCue_78 : decode b_D_startCue 78 = .ok (.aload_n 1, 1) := by decide +kernel
theorem d_D_startCue_79 : decode b_D_startCue 79 = .ok (.aload 4, 2) := by decide +kernel
theorem d_D_startCue_81 : decode b_D_startCue 81 = .ok (.getfield 140, 3) := by decide +kernel
theorem d_D_startCue_84 : decode b_D_startCue 84 = .ok (.iconst (-1), 1) := by decide +kernel
theorem d_D_startCue_85 : decode b_D_startCue 85 = .ok (.if_icmp .ne 7, 3) := by decide +kernel
theorem d_D_startCue_88 : decode b_D_startCue 88 = .ok (.iconst (-1), 1) := by decide +kernel
theorem d_D_startCue_89 : decode b_D_startCue 89 = .ok (.goto 10, 3) := by decide +kernel
theorem d_D_startCue_92 : decode b_D_startCue 92 = .ok (.iload_n 3, 1) := by decide +kernel
theorem d_D_startCue_93 : decode b_D_startCue 93 = .ok (.aload 4, 2) := by decide +kernel
theorem d_D_startCue_95 : decode b_D_startCue 95 = .ok (.getfield 140, 3) := by decide +kernel
theorem d_D_startCue_98 : decode b_D_startCue 98 = .ok (.iadd, 1) := by decide +kernel
theorem d_D_startCue_99 : decode b_D_startCue 99 = .ok (.putfield 224, 3) := by decide +kernel
theorem d_D_startCue_102 : decode b_D_startCue 102 = .ok (.aload_n 0, 1) := by decide +kernel
theorem d_D_startCue_103 : decode b_D_startCue 103 = .ok (.dup, 1) := by decide +kernel
theorem d_D_startCue_104 : decode b_D_startCue 104 = .ok (.getfield 44, 3) := by decide +kernel
theorem d_D_startCue_107 : decode b_D_startCue 107 = .ok (.iconst 1, 1) := by decide +kernel
theorem d_D_startCue_108 : decode b_D_startCue 108 = .ok (.iadd, 1) := by decide +kernel
theorem d_D_startCue_109 : decode b_D_startCue 109 = .ok (.putfield 44, 3) := by decide +kernel
theorem d_D_startCue_112 : decode b_D_startCue 112 = .ok (.return_, 1) := by decide +kernel
theorem d_D_greatestLevel_0 : decode b_D_greatestLevel 0 = .ok (.iconst 0, 1) := by decide +kernel
theorem d_D_greatestLevel_1 : decode b_D_greatestLevel 1 = .ok (.istore_n 2, 1) := by decide +kernel
theorem d_D_greatestLevel_2 : decode b_D_greatestLevel 2 = .ok (.iconst 0, 1) := by decide +kernel
theorem d_D_greatestLevel_3 : decode b_D_greatestLevel 3 = .ok (.istore_n 3, 1) := by decide +kernel
theorem d_D_greatestLevel_4 : decode b_D_greatestLevel 4 = .ok (.iload_n 3, 1) := by decide +kernel
theorem d_D_greatestLevel_5 : decode b_D_greatestLevel 5 = .ok (.bipush 6, 2) := by decide +kernel
theorem d_D_greatestLevel_7 : decode b_D_greatestLevel 7 = .ok (.if_icmp .ge 46, 3) := by decide +kernel
theorem d_D_greatestLevel_10 : decode b_D_greatestLevel 10 = .ok (.aload_n 0, 1) := by decide +kernel
theorem d_D_greatestLevel_11 : decode b_D_greatestLevel 11 = .ok (.getfield 36, 3) := by decide +kernel
theorem d_D_greatestLevel_14 : decode b_D_greatestLevel 14 = .ok (.iload_n 3, 1) := by decide +kernel
theorem d_D_greatestLevel_15 : decode b_D_greatestLevel 15 = .ok (.aaload, 1) := by decide +kernel
theorem d_D_greatestLevel_16 : decode b_D_greatestLevel 16 = .ok (.iload_n 1, 1) := by decide +kernel
theorem d_D_greatestLevel_17 : decode b_D_greatestLevel 17 = .ok (.aload_n 0, 1) := by decide +kernel
theorem d_D_greatestLevel_18 : decode b_D_greatestLevel 18 = .ok (.getfield 40, 3) := by decide +kernel
theorem d_D_greatestLevel_21 : decode b_D_greatestLevel 21 = .ok (.invokevirtual 229, 3) := by decide +kernel
theorem d_D_greatestLevel_24 : decode b_D_greatestLevel 24 = .ok (.aload_n 0, 1) := by decide +kernel
theorem d_D_greatestLevel_25 : decode b_D_greatestLevel 25 = .ok (.getfield 36, 3) := by decide +kernel
theorem d_D_greatestLevel_28 : decode b_D_greatestLevel 28 = .ok (.iload_n 3, 1) := by decide +kernel
theorem d_D_greatestLevel_29 : decode b_D_greatestLevel 29 = .ok (.aaload, 1) := by decide +kernel
theorem d_D_greatestLevel_30 : decode b_D_greatestLevel 30 = .ok (.getfield 208, 3) := by decide +kernel
theorem d_D_greatestLevel_33 : decode b_D_greatestLevel 33 = .ok (.imul, 1) := by decide +kernel
theorem d_D_greatestLevel_34 : decode b_D_greatestLevel 34 = .ok (.sipush 255, 3) := by decide +kernel
theorem d_D_greatestLevel_37 : decode b_D_greatestLevel 37 = .ok (.idiv, 1) := by decide +kernel
theorem d_D_greatestLevel_38 : decode b_D_greatestLevel 38 = .ok (.istore 4, 2) := by decide +kernel
theorem d_D_greatestLevel_40 : decode b_D_greatestLevel 40 = .ok (.iload_n 2, 1) := by decide +kernel
theorem d_D_greatestLevel_41 : decode b_D_greatestLevel 41 = .ok (.iload 4, 2) := by decide +kernel
theorem d_D_greatestLevel_43 : decode b_D_greatestLevel 43 = .ok (.invokestatic 252, 3) := by decide +kernel
theorem d_D_greatestLevel_46 : decode b_D_greatestLevel 46 = .ok (.istore_n 2, 1) := by decide +kernel
theorem d_D_greatestLevel_47 : decode b_D_greatestLevel 47 = .ok (.iinc 3 1, 3) := by decide +kernel
theorem d_D_greatestLevel_50 : decode b_D_greatestLevel 50 = .ok (.goto (-46), 3) := by decide +kernel
theorem d_D_greatestLevel_53 : decode b_D_greatestLevel 53 = .ok (.iload_n 2, 1) := by decide +kernel
theorem d_D_greatestLevel_54 : decode b_D_greatestLevel 54 = .ok (.ireturn, 1) := by decide +kernel
theorem d_D_latestLevel_0 : decode b_D_latestLevel 0 = .ok (.iconst 0, 1) := by decide +kernel
theorem d_D_latestLevel_1 : decode b_D_latestLevel 1 = .ok (.istore_n 2, 1) := by decide +kernel
theorem d_D_latestLevel_2 : decode b_D_latestLevel 2 = .ok (.iconst 0, 1) := by decide +kernel
theorem d_D_latestLevel_3 : decode b_D_latestLevel 3 = .ok (.istore_n 3, 1) := by decide +kernel
theorem d_D_latestLevel_4 : decode b_D_latestLevel 4 = .ok (.iconst 0, 1) := by decide +kernel
theorem d_D_latestLevel_5 : decode b_D_latestLevel 5 = .ok (.istore 4, 2) := by decide +kernel
theorem d_D_latestLevel_7 : decode b_D_latestLevel 7 = .ok (.iload 4, 2) := by decide +kernel
theorem d_D_latestLevel_9 : decode b_D_latestLevel 9 = .ok (.bipush 6, 2) := by decide +kernel
theorem d_D_latestLevel_11 : decode b_D_latestLevel 11 = .ok (.if_icmp .ge 53, 3) := by decide +kernel
theorem d_D_latestLevel_14 : decode b_D_latestLevel 14 = .ok (.aload_n 0, 1) := by decide +kernel
theorem d_D_latestLevel_15 : decode b_D_latestLevel 15 = .ok (.getfield 36, 3) := by decide +kernel
theorem d_D_latestLevel_18 : decode b_D_latestLevel 18 = .ok (.iload 4, 2) := by decide +kernel
theorem d_D_latestLevel_20 : decode b_D_latestLevel 20 = .ok (.aaload, 1) := by decide +kernel
theorem d_D_latestLevel_21 : decode b_D_latestLevel 21 = .ok (.iload_n 1, 1) := by decide +kernel
theorem d_D_latestLevel_22 : decode b_D_latestLevel 22 = .ok (.invokevirtual 257, 3) := by decide +kernel
theorem d_D_latestLevel_25 : decode b_D_latestLevel 25 = .ok (.istore 5, 2) := by decide +kernel
theorem d_D_latestLevel_27 : decode b_D_latestLevel 27 = .ok (.iload 5, 2) := by decide +kernel
theorem d_D_latestLevel_29 : decode b_D_latestLevel 29 = .ok (.iconst (-1), 1) := by decide +kernel
theorem d_D_latestLevel_30 : decode b_D_latestLevel 30 = .ok (.if_icmp .eq 28, 3) := by decide +kernel
theorem d_D_latestLevel_33 : decode b_D_latestLevel 33 = .ok (.iload 5, 2) := by decide +kernel
theorem d_D_latestLevel_35 : decode b_D_latestLevel 35 = .ok (.iload_n 3, 1) := by decide +kernel
theorem d_D_latestLevel_36 : decode b_D_latestLevel 36 = .ok (.if_icmp .lt 22, 3) := by decide +kernel
theorem d_D_latestLevel_39 : decode b_D_latestLevel 39 = .ok (.iload 5, 2) := by decide +kernel
theorem d_D_latestLevel_41 : decode b_D_latestLevel 41 = .ok (.istore_n 3, 1) := by decide +kernel
theorem d_D_latestLevel_42 : decode b_D_latestLevel 42 = .ok (.aload_n 0, 1) := by decide +kernel
theorem d_D_latestLevel_43 : decode b_D_latestLevel 43 = .ok (.getfield 36, 3) := by decide +kernel
theorem d_D_latestLevel_46 : decode b_D_latestLevel 46 = .ok (.iload 4, 2) := by decide +kernel
theorem d_D_latestLevel_48 : decode b_D_latestLevel 48 = .ok (.aaload, 1) := by decide +kernel
theorem d_D_latestLevel_49 : decode b_D_latestLevel 49 = .ok (.iload_n 1, 1) := by decide +kernel
theorem d_D_latestLevel_50 : decode b_D_latestLevel 50 = .ok (.aload_n 0, 1) := by decide +kernel
theorem d_D_latestLevel_51 : decode b_D_latestLevel 51 = .ok (.getfield 40, 3) := by decide +kernel
theorem d_D_latestLevel_54 : decode b_D_latestLevel 54 = .ok (.invokevirtual 229, 3) := by decide +kernel
theorem d_D_latestLevel_57 : decode b_D_latestLevel 57 = .ok (.istore_n 2, 1) := by decide +kernel
theorem d_D_latestLevel_58 : decode b_D_latestLevel 58 = .ok (.iinc 4 1, 3) := by decide +kernel
theorem d_D_latestLevel_61 : decode b_D_latestLevel 61 = .ok (.goto (-54), 3) := by decide +kernel
theorem d_D_latestLevel_64 : decode b_D_latestLevel 64 = .ok (.iload_n 2, 1) := by decide +kernel
theorem d_D_latestLevel_65 : decode b_D_latestLevel 65 = .ok (.ireturn, 1) := by decide +kernel
theorem d_C_init_0 : decode b_C_init 0 = .ok (.aload_n 0, 1) := by decide +kernel
theorem d_C_init_1 : decode b_C_init 1 = .ok (.invokespecial 3, 3) := by decide +kernel
theorem d_C_init_4 : decode b_C_init 4 = .ok (.aload_n 0, 1) := by decide +kernel
theorem d_C_init_5 : decode b_C_init 5 = .ok (.new 9, 3) := by decide +kernel
theorem d_C_init_8 : decode b_C_init 8 = .ok (.dup, 1) := by decide +kernel
theorem d_C_init_9 : decode b_C_init 9 = .ok (.invokespecial 11, 3) := by decide +kernel
theorem d_C_init_12 : decode b_C_init 12 = .ok (.putfield 12, 3) := by decide +kernel
theorem d_C_init_15 : decode b_C_init 15 = .ok (.aload_n 0, 1) := by decide +kernel
theorem d_C_init_16 : decode b_C_init 16 = .ok (.iconst (-1), 1) := by decide +kernel
theorem d_C_init_17 : decode b_C_init 17 = .ok (.putfield 18, 3) := by decide +kernel
theorem d_C_init_20 : decode b_C_init 20 = .ok (.aload_n 0, 1) := by decide +kernel
theorem d_C_init_21 : decode b_C_init 21 = .ok (.iconst (-1), 1) := by decide +kernel
theorem d_C_init_22 : decode b_C_init 22 = .ok (.putfield 22, 3) := by decide +kernel
theorem d_C_init_25 : decode b_C_init 25 = .ok (.aload_n 0, 1) := by decide +kernel
theorem d_C_init_26 : decode b_C_init 26 = .ok (.iconst 0, 1) := by decide +kernel
theorem d_C_init_27 : decode b_C_init 27 = .ok (.putfield 25, 3) := by decide +kernel
theorem d_C_init_30 : decode b_C_init 30 = .ok (.aload_n 0, 1) := by decide +kernel
theorem d_C_init_31 : decode b_C_init 31 = .ok (.iconst 0, 1) := by decide +kernel
theorem d_C_init_32 : decode b_C_init 32 = .ok (.putfield 28, 3) := by decide +kernel
theorem d_C_init_35 : decode b_C_init 35 = .ok (.aload_n 0, 1) := by decide +kernel
theorem d_C_init_36 : decode b_C_init 36 = .ok (.iconst 0, 1) := by decide +kernel
theorem d_C_init_37 : decode b_C_init 37 = .ok (.putfield 31, 3) := by decide +kernel
theorem d_C_init_40 : decode b_C_init 40 = .ok (.aload_n 0, 1) := by decide +kernel
theorem d_C_init_41 : decode b_C_init 41 = .ok (.iconst (-1), 1) := by decide +kernel
theorem d_C_init_42 : decode b_C_init 42 = .ok (.putfield 34, 3) := by decide +kernel
theorem d_C_init_45 : decode b_C_init 45 = .ok (.return_, 1) := by decide +kernel
theorem d_C_beginAs_0 : decode b_C_beginAs 0 = .ok (.aload_n 0, 1) := by decide +kernel
theorem d_C_beginAs_1 : decode b_C_beginAs 1 = .ok (.iload_n 1, 1) := by decide +kernel
theorem d_C_beginAs_2 : decode b_C_beginAs 2 = .ok (.putfield 18, 3) := by decide +kernel
theorem d_C_beginAs_5 : decode b_C_beginAs 5 = .ok (.aload_n 0, 1) := by decide +kernel
theorem d_C_beginAs_6 : decode b_C_beginAs 6 = .ok (.iload_n 2, 1) := by decide +kernel
theorem d_C_beginAs_7 : decode b_C_beginAs 7 = .ok (.putfield 22, 3) := by decide +kernel
theorem d_C_beginAs_10 : decode b_C_beginAs 10 = .ok (.aload_n 0, 1) := by decide +kernel
theorem d_C_beginAs_11 : decode b_C_beginAs 11 = .ok (.iconst 0, 1) := by decide +kernel
theorem d_C_beginAs_12 : decode b_C_beginAs 12 = .ok (.putfield 25, 3) := by decide +kernel
theorem d_C_beginAs_15 : decode b_C_beginAs 15 = .ok (.aload_n 0, 1) := by decide +kernel
theorem d_C_beginAs_16 : decode b_C_beginAs 16 = .ok (.iconst 0, 1) := by decide +kernel
theorem d_C_beginAs_17 : decode b_C_beginAs 17 = .ok (.putfield 28, 3) := by decide +kernel
theorem d_C_beginAs_20 : decode b_C_beginAs 20 = .ok (.aload_n 0, 1) := by decide +kernel
theorem d_C_beginAs_21 : decode b_C_beginAs 21 = .ok (.iconst 0, 1) := by decide +kernel
theorem d_C_beginAs_22 : decode b_C_beginAs 22 = .ok (.putfield 31, 3) := by decide +kernel
theorem d_C_beginAs_25 : decode b_C_beginAs 25 = .ok (.aload_n 0, 1) := by decide +kernel
theorem d_C_beginAs_26 : decode b_C_beginAs 26 = .ok (.iconst (-1), 1) := by decide +kernel
theorem d_C_beginAs_27 : decode b_C_beginAs 27 = .ok (.putfield 34, 3) := by decide +kernel
theorem d_C_beginAs_30 : decode b_C_beginAs 30 = .ok (.aload_n 0, 1) := by decide +kernel
theorem d_C_beginAs_31 : decode b_C_beginAs 31 = .ok (.getfield 12, 3) := by decide +kernel
theorem d_C_beginAs_34 : decode b_C_beginAs 34 = .ok (.invokevirtual 37, 3) := by decide +kernel
theorem d_C_beginAs_37 : decode b_C_beginAs 37 = .ok (.return_, 1) := by decide +kernel
theorem d_C_isBefore_0 : decode b_C_isBefore 0 = .ok (.aload_n 0, 1) := by decide +kernel
theorem d_C_isBefore_1 : decode b_C_isBefore 1 = .ok (.getfield 18, 3) := by decide +kernel
theorem d_C_isBefore_4 : decode b_C_isBefore 4 = .ok (.iload_n 1, 1) := by decide +kernel
theorem d_C_isBefore_5 : decode b_C_isBefore 5 = .ok (.if_icmp .lt 19, 3) := by decide +kernel
theorem d_C_isBefore_8 : decode b_C_isBefore 8 = .ok (.aload_n 0, 1) := by decide +kernel
theorem d_C_isBefore_9 : decode b_C_isBefore 9 = .ok (.getfield 18, 3) := by decide +kernel
theorem d_C_isBefore_12 : decode b_C_isBefore 12 = .ok (.iload_n 1, 1) := by decide +kernel
theorem d_C_isBefore_13 : decode b_C_isBefore 13 = .ok (.if_icmp .ne 15, 3) := by decide +kernel
theorem d_C_isBefore_16 : decode b_C_isBefore 16 = .ok (.aload_n 0, 1) := by decide +kernel
theorem d_C_isBefore_17 : decode b_C_isBefore 17 = .ok (.getfield 22, 3) := by decide +kernel
theorem d_C_isBefore_20 : decode b_C_isBefore 20 = .ok (.iload_n 2, 1) := by decide +kernel
theorem d_C_isBefore_21 : decode b_C_isBefore 21 = .ok (.if_icmp .ge 7, 3) := by decide +kernel
theorem d_C_isBefore_24 : decode b_C_isBefore 24 = .ok (.iconst 1, 1) := by decide +kernel
theorem d_C_isBefore_25 : decode b_C_isBefore 25 = .ok (.goto 4, 3) := by decide +kernel
theorem d_C_isBefore_28 : decode b_C_isBefore 28 = .ok (.iconst 0, 1) := by decide +kernel
theorem d_C_isBefore_29 : decode b_C_isBefore 29 = .ok (.ireturn, 1) := by decide +kernel
theorem d_C_detail_0 : decode b_C_detail 0 = .ok (.iload_n 1, 1) := by decide +kernel
theorem d_C_detail_1 : decode b_C_detail 1 = .ok (.tableswitch 72 0 5 #[39, 44, 52, 57, 62, 67], 39) := by decide +kernel
theorem d_C_detail_40 : decode b_C_detail 40 = .ok (.aload_n 0, 1) := by decide +kernel
theorem d_C_detail_41 : decode b_C_detail 41 = .ok (.getfield 22, 3) := by decide +kernel
theorem d_C_detail_44 : decode b_C_detail 44 = .ok (.ireturn, 1) := by decide +kernel
theorem d_C_detail_45 : decode b_C_detail 45 = .ok (.aload_n 0, 1) := by decide +kernel
theorem d_C_detail_46 : decode b_C_detail 46 = .ok (.getfield 12, 3) := by decide +kernel
theorem d_C_detail_49 : decode b_C_detail 49 = .ok (.getfield 40, 3) := by decide +kernel
theorem d_C_detail_52 : decode b_C_detail 52 = .ok (.ireturn, 1) := by decide +kernel
theorem d_C_detail_53 : decode b_C_detail 53 = .ok (.aload_n 0, 1) := by decide +kernel
theorem d_C_detail_54 : decode b_C_detail 54 = .ok (.getfield 25, 3) := by decide +kernel
theorem d_C_detail_57 : decode b_C_detail 57 = .ok (.ireturn, 1) := by decide +kernel
theorem d_C_detail_58 : decode b_C_detail 58 = .ok (.aload_n 0, 1) := by decide +kernel
theorem d_C_detail_59 : decode b_C_detail 59 = .ok (.getfield 28, 3) := by decide +kernel
theorem d_C_detail_62 : decode b_C_detail 62 = .ok (.ireturn, 1) := by decide +kernel
theorem d_C_detail_63 : decode b_C_detail 63 = .ok (.aload_n 0, 1) := by decide +kernel
theorem d_C_detail_64 : decode b_C_detail 64 = .ok (.getfield 31, 3) := by decide +kernel
theorem d_C_detail_67 : decode b_C_detail 67 = .ok (.ireturn, 1) := by decide +kernel
theorem d_C_detail_68 : decode b_C_detail 68 = .ok (.aload_n 0, 1) := by decide +kernel
theorem d_C_detail_69 : decode b_C_detail 69 = .ok (.getfield 34, 3) := by decide +kernel
theorem d_C_detail_72 : decode b_C_detail 72 = .ok (.ireturn, 1) := by decide +kernel
theorem d_C_detail_73 : decode b_C_detail 73 = .ok (.iconst (-1), 1) := by decide +kernel
theorem d_C_detail_74 : decode b_C_detail 74 = .ok (.ireturn, 1) := by decide +kernel
theorem d_B_init_0 : decode b_B_init 0 = .ok (.aload_n 0, 1) := by decide +kernel
theorem d_B_init_1 : decode b_B_init 1 = .ok (.invokespecial 3, 3) := by decide +kernel
theorem d_B_init_4 : decode b_B_init 4 = .ok (.aload_n 0, 1) := by decide +kernel
theorem d_B_init_5 : decode b_B_init 5 = .ok (.bipush 40, 2) := by decide +kernel
theorem d_B_init_7 : decode b_B_init 7 = .ok (.anewarray 9, 3) := by decide +kernel
theorem d_B_init_10 : decode b_B_init 10 = .ok (.putfield 11, 3) := by decide +kernel
theorem d_B_init_13 : decode b_B_init 13 = .ok (.aload_n 0, 1) := by decide +kernel
theorem d_B_init_14 : decode b_B_init 14 = .ok (.iconst 0, 1) := by decide +kernel
theorem d_B_init_15 : decode b_B_init 15 = .ok (.putfield 17, 3) := by decide +kernel
theorem d_B_init_18 : decode b_B_init 18 = .ok (.iconst 0, 1) := by decide +kernel
theorem d_B_init_19 : decode b_B_init 19 = .ok (.istore_n 1, 1) := by decide +kernel
theorem d_B_init_20 : decode b_B_init 20 = .ok (.iload_n 1, 1) := by decide +kernel
theorem d_B_init_21 : decode b_B_init 21 = .ok (.bipush 40, 2) := by decide +kernel
theorem d_B_init_23 : decode b_B_init 23 = .ok (.if_icmp .ge 22, 3) := by decide +kernel
theorem d_B_init_26 : decode b_B_init 26 = .ok (.aload_n 0, 1) := by decide +kernel
theorem d_B_init_27 : decode b_B_init 27 = .ok (.getfield 11, 3) := by decide +kernel
theorem d_B_init_30 : decode b_B_init 30 = .ok (.iload_n 1, 1) := by decide +kernel
theorem d_B_init_31 : decode b_B_init 31 = .ok (.new 9, 3) := by decide +kernel
theorem d_B_init_34 : decode b_B_init 34 = .ok (.dup, 1) := by decide +kernel
theorem d_B_init_35 : decode b_B_init 35 = .ok (.invokespecial 21, 3) := by decide +kernel
theorem d_B_init_38 : decode b_B_init 38 = .ok (.aastore, 1) := by decide +kernel
theorem d_B_init_39 : decode b_B_init 39 = .ok (.iinc 1 1, 3) := by decide +kernel
theorem d_B_init_42 : decode b_B_init 42 = .ok (.goto (-22), 3) := by decide +kernel
theorem d_B_init_45 : decode b_B_init 45 = .ok (.return_, 1) := by decide +kernel
theorem d_B_at_0 : decode b_B_at 0 = .ok (.aload_n 0, 1) := by decide +kernel
theorem d_B_at_1 : decode b_B_at 1 = .ok (.getfield 11, 3) := by decide +kernel
theorem d_B_at_4 : decode b_B_at 4 = .ok (.iload_n 1, 1) := by decide +kernel
theorem d_B_at_5 : decode b_B_at 5 = .ok (.aaload, 1) := by decide +kernel
theorem d_B_at_6 : decode b_B_at 6 = .ok (.areturn, 1) := by decide +kernel
theorem d_B_moveCount_0 : decode b_B_moveCount 0 = .ok (.iconst 0, 1) := by decide +kernel
theorem d_B_moveCount_1 : decode b_B_moveCount 1 = .ok (.istore_n 1, 1) := by decide +kernel
theorem d_B_moveCount_2 : decode b_B_moveCount 2 = .ok (.iconst 0, 1) := by decide +kernel
theorem d_B_moveCount_3 : decode b_B_moveCount 3 = .ok (.istore_n 2, 1) := by decide +kernel
theorem d_B_moveCount_4 : decode b_B_moveCount 4 = .ok (.iload_n 2, 1) := by decide +kernel
theorem d_B_moveCount_5 : decode b_B_moveCount 5 = .ok (.aload_n 0, 1) := by decide +kernel
theorem d_B_moveCount_6 : decode b_B_moveCount 6 = .ok (.getfield 17, 3) := by decide +kernel
theorem d_B_moveCount_9 : decode b_B_moveCount 9 = .ok (.if_icmp .ge 24, 3) := by decide +kernel
theorem d_B_moveCount_12 : decode b_B_moveCount 12 = .ok (.iload_n 1, 1) := by decide +kernel
theorem d_B_moveCount_13 : decode b_B_moveCount 13 = .ok (.aload_n 0, 1) := by decide +kernel
theorem d_B_moveCount_14 : decode b_B_moveCount 14 = .ok (.getfield 11, 3) := by decide +kernel
theorem d_B_moveCount_17 : decode b_B_moveCount 17 = .ok (.iload_n 2, 1) := by decide +kernel
theorem d_B_moveCount_18 : decode b_B_moveCount 18 = .ok (.aaload, 1) := by decide +kernel
theorem d_B_moveCount_19 : decode b_B_moveCount 19 = .ok (.getfield 22, 3) := by decide +kernel
theorem d_B_moveCount_22 : decode b_B_moveCount 22 = .ok (.getfield 26, 3) := by decide +kernel
theorem d_B_moveCount_25 : decode b_B_moveCount 25 = .ok (.iadd, 1) := by decide +kernel
theorem d_B_moveCount_26 : decode b_B_moveCount 26 = .ok (.istore_n 1, 1) := by decide +kernel
theorem d_B_moveCount_27 : decode b_B_moveCount 27 = .ok (.iinc 2 1, 3) := by decide +kernel
theorem d_B_moveCount_30 : decode b_B_moveCount 30 = .ok (.goto (-26), 3) := by decide +kernel
theorem d_B_moveCount_33 : decode b_B_moveCount 33 = .ok (.iload_n 1, 1) := by decide +kernel
theorem d_B_moveCount_34 : decode b_B_moveCount 34 = .ok (.ireturn, 1) := by decide +kernel
theorem d_B_firstOf_0 : decode b_B_firstOf 0 = .ok (.aload_n 0, 1) := by decide +kernel
theorem d_B_firstOf_1 : decode b_B_firstOf 1 = .ok (.iload_n 1, 1) := by decide +kernel
theorem d_B_firstOf_2 : decode b_B_firstOf 2 = .ok (.iconst 0, 1) := by decide +kernel
theorem d_B_firstOf_3 : decode b_B_firstOf 3 = .ok (.invokevirtual 31, 3) := by decide +kernel
theorem d_B_firstOf_6 : decode b_B_firstOf 6 = .ok (.ireturn, 1) := by decide +kernel
theorem d_B_lengthOf_0 : decode b_B_lengthOf 0 = .ok (.aload_n 0, 1) := by decide +kernel
theorem d_B_lengthOf_1 : decode b_B_lengthOf 1 = .ok (.iload_n 1, 1) := by decide +kernel
theorem d_B_lengthOf_2 : decode b_B_lengthOf 2 = .ok (.iconst 1, 1) := by decide +kernel
theorem d_B_lengthOf_3 : decode b_B_lengthOf 3 = .ok (.iadd, 1) := by decide +kernel
theorem d_B_lengthOf_4 : decode b_B_lengthOf 4 = .ok (.invokevirtual 35, 3) := by decide +kernel
theorem d_B_lengthOf_7 : decode b_B_lengthOf 7 = .ok (.aload_n 0, 1) := by decide +kernel
theorem d_B_lengthOf_8 : decode b_B_lengthOf 8 = .ok (.iload_n 1, 1) := by decide +kernel
theorem d_B_lengthOf_9 : decode b_B_lengthOf 9 = .ok (.invokevirtual 35, 3) := by decide +kernel
theorem d_B_lengthOf_12 : decode b_B_lengthOf 12 = .ok (.isub, 1) := by decide +kernel
theorem d_B_lengthOf_13 : decode b_B_lengthOf 13 = .ok (.ireturn, 1) := by decide +kernel
theorem d_B_find_0 : decode b_B_find 0 = .ok (.aload_n 0, 1) := by decide +kernel
theorem d_B_find_1 : decode b_B_find 1 = .ok (.iload_n 1, 1) := by decide +kernel
theorem d_B_find_2 : decode b_B_find 2 = .ok (.iload_n 2, 1) := by decide +kernel
theorem d_B_find_3 : decode b_B_find 3 = .ok (.invokevirtual 31, 3) := by decide +kernel
theorem d_B_find_6 : decode b_B_find 6 = .ok (.istore_n 3, 1) := by decide +kernel
theorem d_B_find_7 : decode b_B_find 7 = .ok (.aload_n 0, 1) := by decide +kernel
theorem d_B_find_8 : decode b_B_find 8 = .ok (.iload_n 3, 1) := by decide +kernel
theorem d_B_find_9 : decode b_B_find 9 = .ok (.iload_n 1, 1) := by decide +kernel
theorem d_B_find_10 : decode b_B_find 10 = .ok (.invokevirtual 39, 3) := by decide +kernel
theorem d_B_find_13 : decode b_B_find 13 = .ok (.ifCond .eq 20, 3) := by decide +kernel
theorem d_B_find_16 : decode b_B_find 16 = .ok (.aload_n 0, 1) := by decide +kernel
theorem d_B_find_17 : decode b_B_find 17 = .ok (.getfield 11, 3) := by decide +kernel
theorem d_B_find_20 : decode b_B_find 20 = .ok (.iload_n 3, 1) := by decide +kernel
theorem d_B_find_21 : decode b_B_find 21 = .ok (.aaload, 1) := by decide +kernel
theorem d_B_find_22 : decode b_B_find 22 = .ok (.getfield 43, 3) := by decide +kernel
theorem d_B_find_25 : decode b_B_find 25 = .ok (.iload_n 2, 1) := by decide +kernel
theorem d_B_find_26 : decode b_B_find 26 = .ok (.if_icmp .ne 7, 3) := by decide +kernel
theorem d_B_find_29 : decode b_B_find 29 = .ok (.iload_n 3, 1) := by decide +kernel
theorem d_B_find_30 : decode b_B_find 30 = .ok (.goto 4, 3) := by decide +kernel
theorem d_B_find_33 : decode b_B_find 33 = .ok (.iconst (-1), 1) := by decide +kernel
theorem d_B_find_34 : decode b_B_find 34 = .ok (.ireturn, 1) := by decide +kernel
theorem d_B_placeAbove_0 : decode b_B_placeAbove 0 = .ok (.aload_n 0, 1) := by decide +kernel
theorem d_B_placeAbove_1 : decode b_B_placeAbove 1 = .ok (.iload_n 1, 1) := by decide +kernel
theorem d_B_placeAbove_2 : decode b_B_placeAbove 2 = .ok (.iload_n 2, 1) := by decide +kernel
theorem d_B_placeAbove_3 : decode b_B_placeAbove 3 = .ok (.iconst 1, 1) := by decide +kernel
theorem d_B_placeAbove_4 : decode b_B_placeAbove 4 = .ok (.iadd, 1) := by decide +kernel
theorem d_B_placeAbove_5 : decode b_B_placeAbove 5 = .ok (.invokevirtual 31, 3) := by decide +kernel
theorem d_B_placeAbove_8 : decode b_B_placeAbove 8 = .ok (.istore_n 3, 1) := by decide +kernel
theorem d_B_placeAbove_9 : decode b_B_placeAbove 9 = .ok (.aload_n 0, 1) := by decide +kernel
theorem d_B_placeAbove_10 : decode b_B_placeAbove 10 = .ok (.iload_n 3, 1) := by decide +kernel
theorem d_B_placeAbove_11 : decode b_B_placeAbove 11 = .ok (.iload_n 1, 1) := by decide +kernel
theorem d_B_placeAbove_12 : decode b_B_placeAbove 12 = .ok (.invokevirtual 39, 3) := by decide +kernel
theorem d_B_placeAbove_15 : decode b_B_placeAbove 15 = .ok (.ifCond .eq 7, 3) := by decide +kernel
theorem d_B_placeAbove_18 : decode b_B_placeAbove 18 = .ok (.iload_n 3, 1) := by decide +kernel
theorem d_B_placeAbove_19 : decode b_B_placeAbove 19 = .ok (.goto 4, 3) := by decide +kernel
theorem d_B_placeAbove_22 : decode b_B_placeAbove 22 = .ok (.iconst (-1), 1) := by decide +kernel
theorem d_B_placeAbove_23 : decode b_B_placeAbove 23 = .ok (.ireturn, 1) := by decide +kernel
theorem d_B_placeBelow_0 : decode b_B_placeBelow 0 = .ok (.aload_n 0, 1) := by decide +kernel
theorem d_B_placeBelow_1 : decode b_B_placeBelow 1 = .ok (.iload_n 1, 1) := by decide +kernel
theorem d_B_placeBelow_2 : decode b_B_placeBelow 2 = .ok (.iload_n 2, 1) := by decide +kernel
theorem d_B_placeBelow_3 : decode b_B_placeBelow 3 = .ok (.invokevirtual 31, 3) := by decide +kernel
theorem d_B_placeBelow_6 : decode b_B_placeBelow 6 = .ok (.iconst 1, 1) := by decide +kernel
theorem d_B_placeBelow_7 : decode b_B_placeBelow 7 = .ok (.isub, 1) := by decide +kernel
theorem d_B_placeBelow_8 : decode b_B_placeBelow 8 = .ok (.istore_n 3, 1) := by decide +kernel
theorem d_B_placeBelow_9 : decode b_B_placeBelow 9 = .ok (.aload_n 0, 1) := by decide +kernel
theorem d_B_placeBelow_10 : decode b_B_placeBelow 10 = .ok (.iload_n 3, 1) := by decide +kernel
theorem d_B_placeBelow_11 : decode b_B_placeBelow 11 = .ok (.iload_n 1, 1) := by decide +kernel
theorem d_B_placeBelow_12 : decode b_B_placeBelow 12 = .ok (.invokevirtual 39, 3) := by decide +kernel
theorem d_B_placeBelow_15 : decode b_B_placeBelow 15 = .ok (.ifCond .eq 7, 3) := by decide +kernel
theorem d_B_placeBelow_18 : decode b_B_placeBelow 18 = .ok (.iload_n 3, 1) := by decide +kernel
theorem d_B_placeBelow_19 : decode b_B_placeBelow 19 = .ok (.goto 4, 3) := by decide +kernel
theorem d_B_placeBelow_22 : decode b_B_placeBelow 22 = .ok (.iconst (-1), 1) := by decide +kernel
theorem d_B_placeBelow_23 : decode b_B_placeBelow 23 = .ok (.ireturn, 1) := by decide +kernel
theorem d_B_sourceOf_0 : decode b_B_sourceOf 0 = .ok (.iload_n 1, 1) := by decide +kernel
theorem d_B_sourceOf_1 : decode b_B_sourceOf 1 = .ok (.ifCond .lt 11, 3) := by decide +kernel
theorem d_B_sourceOf_4 : decode b_B_sourceOf 4 = .ok (.iload_n 1, 1) := by decide +kernel
theorem d_B_sourceOf_5 : decode b_B_sourceOf 5 = .ok (.aload_n 0, 1) := by decide +kernel
theorem d_B_sourceOf_6 : decode b_B_sourceOf 6 = .ok (.getfield 17, 3) := by decide +kernel
theorem d_B_sourceOf_9 : decode b_B_sourceOf 9 = .ok (.if_icmp .lt 5, 3) := by decide +kernel
theorem d_B_sourceOf_12 : decode b_B_sourceOf 12 = .ok (.iconst (-1), 1) := by decide +kernel
theorem d_B_sourceOf_13 : decode b_B_sourceOf 13 = .ok (.ireturn, 1) := by decide +kernel
theorem d_B_sourceOf_14 : decode b_B_sourceOf 14 = .ok (.aload_n 0, 1) := by decide +kernel
theorem d_B_sourceOf_15 : decode b_B_sourceOf 15 = .ok (.getfield 11, 3) := by decide +kernel
theorem d_B_sourceOf_18 : decode b_B_sourceOf 18 = .ok (.iload_n 1, 1) := by decide +kernel
theorem d_B_sourceOf_19 : decode b_B_sourceOf 19 = .ok (.aaload, 1) := by decide +kernel
theorem d_B_sourceOf_20 : decode b_B_sourceOf 20 = .ok (.getfield 46, 3) := by decide +kernel
theorem d_B_sourceOf_23 : decode b_B_sourceOf 23 = .ok (.istore_n 3, 1) := by decide +kernel
theorem d_B_sourceOf_24 : decode b_B_sourceOf 24 = .ok (.iload_n 1, 1) := by decide +kernel
theorem d_B_sourceOf_25 : decode b_B_sourceOf 25 = .ok (.istore 4, 2) := by decide +kernel
theorem d_B_sourceOf_27 : decode b_B_sourceOf 27 = .ok (.iload 4, 2) := by decide +kernel
theorem d_B_sourceOf_29 : decode b_B_sourceOf 29 = .ok (.ifCond .lt 43, 3) := by decide +kernel
theorem d_B_sourceOf_32 : decode b_B_sourceOf 32 = .ok (.aload_n 0, 1) := by decide +kernel
theorem d_B_sourceOf_33 : decode b_B_sourceOf 33 = .ok (.getfield 11, 3) := by decide +kernel
theorem d_B_sourceOf_36 : decode b_B_sourceOf 36 = .ok (.iload 4, 2) := by decide +kernel
theorem d_B_sourceOf_38 : decode b_B_sourceOf 38 = .ok (.aaload, 1) := by decide +kernel
theorem d_B_sourceOf_39 : decode b_B_sourceOf 39 = .ok (.getfield 46, 3) := by decide +kernel
theorem d_B_sourceOf_42 : decode b_B_sourceOf 42 = .ok (.iload_n 3, 1) := by decide +kernel
theorem d_B_sourceOf_43 : decode b_B_sourceOf 43 = .ok (.if_icmp .ne 29, 3) := by decide +kernel
theorem d_B_sourceOf_46 : decode b_B_sourceOf 46 = .ok (.aload_n 0, 1) := by decide +kernel
theorem d_B_sourceOf_47 : decode b_B_sourceOf 47 = .ok (.getfield 11, 3) := by decide +kernel
theorem d_B_sourceOf_50 : decode b_B_sourceOf 50 = .ok (.iload 4, 2) := by decide +kernel
theorem d_B_sourceOf_52 : decode b_B_sourceOf 52 = .ok (.aaload, 1) := by decide +kernel
theorem d_B_sourceOf_53 : decode b_B_sourceOf 53 = .ok (.getfield 22, 3) := by decide +kernel
theorem d_B_sourceOf_56 : decode b_B_sourceOf 56 = .ok (.iload_n 2, 1) := by decide +kernel
theorem d_B_sourceOf_57 : decode b_B_sourceOf 57 = .ok (.invokevirtual 49, 3) := by decide +kernel
theorem d_B_sourceOf_60 : decode b_B_sourceOf 60 = .ok (.ifCond .eq 6, 3) := by decide +kernel
theorem d_B_sourceOf_63 : decode b_B_sourceOf 63 = .ok (.iload 4, 2) := by decide +kernel
theorem d_B_sourceOf_65 : decode b_B_sourceOf 65 = .ok (.ireturn, 1) := by decide +kernel
theorem d_B_sourceOf_66 : decode b_B_sourceOf 66 = .ok (.iinc 4 (-1), 3) := by decide +kernel
theorem d_B_sourceOf_69 : decode b_B_sourceOf 69 = .ok (.goto (-42), 3) := by decide +kernel
theorem d_B_sourceOf_72 : decode b_B_sourceOf 72 = .ok (.iconst (-1), 1) := by decide +kernel
theorem d_B_sourceOf_73 : decode b_B_sourceOf 73 = .ok (.ireturn, 1) := by decide +kernel
theorem d_B_trackedAt_0 : decode b_B_trackedAt 0 = .ok (.aload_n 0, 1) := by decide +kernel
theorem d_B_trackedAt_1 : decode b_B_trackedAt 1 = .ok (.iload_n 1, 1) := by decide +kernel
theorem d_B_trackedAt_2 : decode b_B_trackedAt 2 = .ok (.iload_n 2, 1) := by decide +kernel
theorem d_B_trackedAt_3 : decode b_B_trackedAt 3 = .ok (.invokevirtual 53, 3) := by decide +kernel
theorem d_B_trackedAt_6 : decode b_B_trackedAt 6 = .ok (.istore_n 3, 1) := by decide +kernel
theorem d_B_trackedAt_7 : decode b_B_trackedAt 7 = .ok (.iload_n 3, 1) := by decide +kernel
theorem d_B_trackedAt_8 : decode b_B_trackedAt 8 = .ok (.iconst (-1), 1) := by decide +kernel
theorem d_B_trackedAt_9 : decode b_B_trackedAt 9 = .ok (.if_icmp .ne 7, 3) := by decide +kernel
theorem d_B_trackedAt_12 : decode b_B_trackedAt 12 = .ok (.iconst (-1), 1) := by decide +kernel
theorem d_B_trackedAt_13 : decode b_B_trackedAt 13 = .ok (.goto 16, 3) := by decide +kernel
theorem d_B_trackedAt_16 : decode b_B_trackedAt 16 = .ok (.aload_n 0, 1) := by decide +kernel
theorem d_B_trackedAt_17 : decode b_B_trackedAt 17 = .ok (.getfield 11, 3) := by decide +kernel
theorem d_B_trackedAt_20 : decode b_B_trackedAt 20 = .ok (.iload_n 3, 1) := by decide +kernel
theorem d_B_trackedAt_21 : decode b_B_trackedAt 21 = .ok (.aaload, 1) := by decide +kernel
theorem d_B_trackedAt_22 : decode b_B_trackedAt 22 = .ok (.getfield 22, 3) := by decide +kernel
theorem d_B_trackedAt_25 : decode b_B_trackedAt 25 = .ok (.iload_n 2, 1) := by decide +kernel
theorem d_B_trackedAt_26 : decode b_B_trackedAt 26 = .ok (.invokevirtual 56, 3) := by decide +kernel
theorem d_B_trackedAt_29 : decode b_B_trackedAt 29 = .ok (.ireturn, 1) := by decide +kernel
theorem d_B_recordCue_0 : decode b_B_recordCue 0 = .ok (.aload_n 0, 1) := by decide +kernel
theorem d_B_recordCue_1 : decode b_B_recordCue 1 = .ok (.iload_n 2, 1) := by decide +kernel
theorem d_B_recordCue_2 : decode b_B_recordCue 2 = .ok (.iload_n 3, 1) := by decide +kernel
theorem d_B_recordCue_3 : decode b_B_recordCue 3 = .ok (.invokevirtual 31, 3) := by decide +kernel
theorem d_B_recordCue_6 : decode b_B_recordCue 6 = .ok (.istore 5, 2) := by decide +kernel
theorem d_B_recordCue_8 : decode b_B_recordCue 8 = .ok (.aload_n 0, 1) := by decide +kernel
theorem d_B_recordCue_9 : decode b_B_recordCue 9 = .ok (.iload_n 2, 1) := by decide +kernel
theorem d_B_recordCue_10 : decode b_B_recordCue 10 = .ok (.iload_n 3, 1) := by decide +kernel
theorem d_B_recordCue_11 : decode b_B_recordCue 11 = .ok (.invokevirtual 59, 3) := by decide +kernel
theorem d_B_recordCue_14 : decode b_B_recordCue 14 = .ok (.iconst (-1), 1) := by decide +kernel
theorem d_B_recordCue_15 : decode b_B_recordCue 15 = .ok (.if_icmp .ne 7, 3) := by decide +kernel
theorem d_B_recordCue_18 : decode b_B_recordCue 18 = .ok (.iconst 1, 1) := by decide +kernel
theorem d_B_recordCue_19 : decode b_B_recordCue 19 = .ok (.goto 4, 3) := by decide +kernel
theorem d_B_recordCue_22 : decode b_B_recordCue 22 = .ok (.iconst 0, 1) := by decide +kernel
theorem d_B_recordCue_23 : decode b_B_recordCue 23 = .ok (.istore 6, 2) := by decide +kernel
theorem d_B_recordCue_25 : decode b_B_recordCue 25 = .ok (.iload 6, 2) := by decide +kernel
theorem d_B_recordCue_27 : decode b_B_recordCue 27 = .ok (.ifCond .eq 14, 3) := by decide +kernel
theorem d_B_recordCue_30 : decode b_B_recordCue 30 = .ok (.aload_n 0, 1) := by decide +kernel
theorem d_B_recordCue_31 : decode b_B_recordCue 31 = .ok (.getfield 17, 3) := by decide +kernel
theorem d_B_recordCue_34 : decode b_B_recordCue 34 = .ok (.bipush 40, 2) := by decide +kernel
theorem d_B_recordCue_36 : decode b_B_recordCue 36 = .ok (.if_icmp .lt 5, 3) := by decide +kernel
theorem d_B_recordCue_39 : decode b_B_recordCue 39 = .ok (.iconst (-1), 1) := by decide +kernel
theorem d_B_recordCue_40 : decode b_B_recordCue 40 = .ok (.ireturn, 1) := by decide +kernel
theorem d_B_recordCue_41 : decode b_B_recordCue 41 = .ok (.iload 4, 2) := by decide +kernel
theorem d_B_recordCue_43 : decode b_B_recordCue 43 = .ok (.ifCond .eq 12, 3) := by decide +kernel
theorem d_B_recordCue_46 : decode b_B_recordCue 46 = .ok (.aload_n 0, 1) := by decide +kernel
theorem d_B_recordCue_47 : decode b_B_recordCue 47 = .ok (.iload_n 2, 1) := by decide +kernel
theorem d_B_recordCue_48 : decode b_B_recordCue 48 = .ok (.iload_n 3, 1) := by decide +kernel
theorem d_B_recordCue_49 : decode b_B_recordCue 49 = .ok (.invokevirtual 62, 3) := by decide +kernel
theorem d_B_recordCue_52 : decode b_B_recordCue 52 = .ok (.goto 4, 3) := by decide +kernel
theorem d_B_recordCue_55 : decode b_B_recordCue 55 = .ok (.iconst (-1), 1) := by decide +kernel
theorem d_B_recordCue_56 : decode b_B_recordCue 56 = .ok (.istore 7, 2) := by decide +kernel
theorem d_B_recordCue_58 : decode b_B_recordCue 58 = .ok (.iload 6, 2) := by decide +kernel
theorem d_B_recordCue_60 : decode b_B_recordCue 60 = .ok (.ifCond .eq 10, 3) := by decide +kernel
theorem d_B_recordCue_63 : decode b_B_recordCue 63 = .ok (.aload_n 1, 1) := by decide +kernel
theorem d_B_recordCue_64 : decode b_B_recordCue 64 = .ok (.getfield 26, 3) := by decide +kernel
theorem d_B_recordCue_67 : decode b_B_recordCue 67 = .ok (.goto 17, 3) := by decide +kernel
theorem d_B_recordCue_70 : decode b_B_recordCue 70 = .ok (.aload_n 0, 1) := by decide +kernel
theorem d_B_recordCue_71 : decode b_B_recordCue 71 = .ok (.getfield 11, 3) := by decide +kernel
theorem d_B_recordCue_74 : decode b_B_recordCue 74 = .ok (.iload 5, 2) := by decide +kernel
theorem d_B_recordCue_76 : decode b_B_recordCue 76 = .ok (.aaload, 1) := by decide +kernel
theorem d_B_recordCue_77 : decode b_B_recordCue 77 = .ok (.getfield 22, 3) := by decide +kernel
theorem d_B_recordCue_80 : decode b_B_recordCue 80 = .ok (.aload_n 1, 1) := by decide +kernel
theorem d_B_recordCue_81 : decode b_B_recordCue 81 = .ok (.invokevirtual 65, 3) := by decide +kernel
theorem d_B_recordCue_84 : decode b_B_recordCue 84 = .ok (.istore 8, 2) := by decide +kernel
theorem d_B_recordCue_86 : decode b_B_recordCue 86 = .ok (.iload 7, 2) := by decide +kernel
theorem d_B_recordCue_88 : decode b_B_recordCue 88 = .ok (.iconst (-1), 1) := by decide +kernel
theorem d_B_recordCue_89 : decode b_B_recordCue 89 = .ok (.if_icmp .eq 22, 3) := by decide +kernel
theorem d_B_recordCue_92 : decode b_B_recordCue 92 = .ok (.iload 8, 2) := by decide +kernel
theorem d_B_recordCue_94 : decode b_B_recordCue 94 = .ok (.aload_n 0, 1) := by decide +kernel
theorem d_B_recordCue_95 : decode b_B_recordCue 95 = .ok (.getfield 11, 3) := by decide +kernel
theorem d_B_recordCue_98 : decode b_B_recordCue 98 = .ok (.iload 7, 2) := by decide +kernel
theorem d_B_recordCue_100 : decode b_B_recordCue 100 = .ok (.aaload, 1) := by decide +kernel
theorem d_B_recordCue_101 : decode b_B_recordCue 101 = .ok (.getfield 22, 3) := by decide +kernel
theorem d_B_recordCue_104 : decode b_B_recordCue 104 = .ok (.aload_n 1, 1) := by decide +kernel
theorem d_B_recordCue_105 : decode b_B_recordCue 105 = .ok (.invokevirtual 65, 3) := by decide +kernel
theorem d_B_recordCue_108 : decode b_B_recordCue 108 = .ok (.iadd, 1) := by decide +kernel
theorem d_B_recordCue_109 : decode b_B_recordCue 109 = .ok (.istore 8, 2) := by decide +kernel
theorem d_B_recordCue_111 : decode b_B_recordCue 111 = .ok (.aload_n 0, 1) := by decide +kernel
theorem d_B_recordCue_112 : decode b_B_recordCue 112 = .ok (.invokevirtual 69, 3) := by decide +kernel
theorem d_B_recordCue_115 : decode b_B_recordCue 115 = .ok (.iload 8, 2) := by decide +kernel
theorem d_B_recordCue_117 : decode b_B_recordCue 117 = .ok (.iadd, 1) := by decide +kernel
theorem d_B_recordCue_118 : decode b_B_recordCue 118 = .ok (.sipush 600, 3) := by decide +kernel
theorem d_B_recordCue_121 : decode b_B_recordCue 121 = .ok (.if_icmp .le 5, 3) := by decide +kernel
theorem d_B_recordCue_124 : decode b_B_recordCue 124 = .ok (.iconst (-1), 1) := by decide +kernel
theorem d_B_recordCue_125 : decode b_B_recordCue 125 = .ok (.ireturn, 1) := by decide +kernel
theorem d_B_recordCue_126 : decode b_B_recordCue 126 = .ok (.iload 6, 2) := by decide +kernel
theorem d_B_recordCue_128 : decode b_B_recordCue 128 = .ok (.ifCond .eq 11, 3) := by decide +kernel
theorem d_B_recordCue_131 : decode b_B_recordCue 131 = .ok (.aload_n 0, 1) := by decide +kernel
theorem d_B_recordCue_132 : decode b_B_recordCue 132 = .ok (.iload 5, 2) := by decide +kernel
theorem d_B_recordCue_134 : decode b_B_recordCue 134 = .ok (.iload_n 2, 1) := by decide +kernel
theorem d_B_recordCue_135 : decode b_B_recordCue 135 = .ok (.iload_n 3, 1) := by decide +kernel
theorem d_B_recordCue_136 : decode b_B_recordCue 136 = .ok (.invokevirtual 73, 3) := by decide +kernel
theorem d_B_recordCue_139 : decode b_B_recordCue 139 = .ok (.iload 7, 2) := by decide +kernel
theorem d_B_recordCue_141 : decode b_B_recordCue 141 = .ok (.iconst (-1), 1) := by decide +kernel
theorem d_B_recordCue_142 : decode b_B_recordCue 142 = .ok (.if_icmp .eq 22, 3) := by decide +kernel
theorem d_B_recordCue_145 : decode b_B_recordCue 145 = .ok (.aload_n 0, 1) := by decide +kernel
theorem d_B_recordCue_146 : decode b_B_recordCue 146 = .ok (.iload 6, 2) := by decide +kernel
theorem d_B_recordCue_148 : decode b_B_recordCue 148 = .ok (.ifCond .eq 10, 3) := by decide +kernel
theorem d_B_recordCue_151 : decode b_B_recordCue 151 = .ok (.iload 7, 2) := by decide +kernel
theorem d_B_recordCue_153 : decode b_B_recordCue 153 = .ok (.iconst 1, 1) := by decide +kernel
theorem d_B_recordCue_154 : decode b_B_recordCue 154 = .ok (.iadd, 1) := by decide +kernel
theorem d_B_recordCue_155 : decode b_B_recordCue 155 = .ok (.goto 5, 3) := by decide +kernel
theorem d_B_recordCue_158 : decode b_B_recordCue 158 = .ok (.iload 7, 2) := by decide +kernel
theorem d_B_recordCue_160 : decode b_B_recordCue 160 = .ok (.aload_n 1, 1) := by decide +kernel
theorem d_B_recordCue_161 : decode b_B_recordCue 161 = .ok (.invokevirtual 77, 3) := by decide +kernel
theorem d_B_recordCue_164 : decode b_B_recordCue 164 = .ok (.aload_n 0, 1) := by decide +kernel
theorem d_B_recordCue_165 : decode b_B_recordCue 165 = .ok (.iload 5, 2) := by decide +kernel
theorem d_B_recordCue_167 : decode b_B_recordCue 167 = .ok (.aload_n 1, 1) := by decide +kernel
theorem d_B_recordCue_168 : decode b_B_recordCue 168 = .ok (.invokevirtual 81, 3) := by decide +kernel
theorem d_B_recordCue_171 : decode b_B_recordCue 171 = .ok (.aload_n 0, 1) := by decide +kernel
theorem d_B_recordCue_172 : decode b_B_recordCue 172 = .ok (.getfield 11, 3) := by decide +kernel
theorem d_B_recordCue_175 : decode b_B_recordCue 175 = .ok (.iload 5, 2) := by decide +kernel
theorem d_B_recordCue_177 : decode b_B_recordCue 177 = .ok (.aaload, 1) := by decide +kernel
theorem d_B_recordCue_178 : decode b_B_recordCue 178 = .ok (.getfield 22, 3) := by decide +kernel
theorem d_B_recordCue_181 : decode b_B_recordCue 181 = .ok (.getfield 26, 3) := by decide +kernel
theorem d_B_recordCue_184 : decode b_B_recordCue 184 = .ok (.ireturn, 1) := by decide +kernel
theorem d_B_updateSources_0 : decode b_B_updateSources 0 = .ok (.iconst 0, 1) := by decide +kernel
theorem d_B_updateSources_1 : decode b_B_updateSources 1 = .ok (.istore_n 3, 1) := by decide +kernel
theorem d_B_updateSources_2 : decode b_B_updateSources 2 = .ok (.iconst 0, 1) := by decide +kernel
theorem d_B_updateSources_3 : decode b_B_updateSources 3 = .ok (.istore 4, 2) := by decide +kernel
theorem d_B_updateSources_5 : decode b_B_updateSources 5 = .ok (.iload 4, 2) := by decide +kernel
theorem d_B_updateSources_7 : decode b_B_updateSources 7 = .ok (.bipush 64, 2) := by decide +kernel
theorem d_B_updateSources_9 : decode b_B_updateSources 9 = .ok (.if_icmp .ge 32, 3) := by decide +kernel
theorem d_B_updateSources_12 : decode b_B_updateSources 12 = .ok (.aload_n 1, 1) := by decide +kernel
theorem d_B_updateSources_13 : decode b_B_updateSources 13 = .ok (.iload 4, 2) := by decide +kernel
theorem d_B_updateSources_15 : decode b_B_updateSources 15 = .ok (.invokevirtual 49, 3) := by decide +kernel
theorem d_B_updateSources_18 : decode b_B_updateSources 18 = .ok (.ifCond .eq 17, 3) := by decide +kernel
theorem d_B_updateSources_21 : decode b_B_updateSources 21 = .ok (.aload_n 0, 1) := by decide +kernel
theorem d_B_updateSources_22 : decode b_B_updateSources 22 = .ok (.iload_n 2, 1) := by decide +kernel
theorem d_B_updateSources_23 : decode b_B_updateSources 23 = .ok (.iload 4, 2) := by decide +kernel
theorem d_B_updateSources_25 : decode b_B_updateSources 25 = .ok (.invokevirtual 53, 3) := by decide +kernel
theorem d_B_updateSources_28 : decode b_B_updateSources 28 = .ok (.iconst (-1), 1) := by decide +kernel
theorem d_B_updateSources_29 : decode b_B_updateSources 29 = .ok (.if_icmp .ne 6, 3) := by decide +kernel
theorem d_B_updateSources_32 : decode b_B_updateSources 32 = .ok (.iinc 3 1, 3) := by decide +kernel
theorem d_B_updateSources_35 : decode b_B_updateSources 35 = .ok (.iinc 4 1, 3) := by decide +kernel
theorem d_B_updateSources_38 : decode b_B_updateSources 38 = .ok (.goto (-33), 3) := by decide +kernel
theorem d_B_updateSources_41 : decode b_B_updateSources 41 = .ok (.aload_n 0, 1) := by decide +kernel
theorem d_B_updateSources_42 : decode b_B_updateSources 42 = .ok (.invokevirtual 69, 3) := by decide +kernel
theorem d_B_updateSources_45 : decode b_B_updateSources 45 = .ok (.iload_n 3, 1) := by decide +kernel
theorem d_B_updateSources_46 : decode b_B_updateSources 46 = .ok (.iadd, 1) := by decide +kernel
theorem d_B_updateSources_47 : decode b_B_updateSources 47 = .ok (.sipush 600, 3) := by decide +kernel
theorem d_B_updateSources_50 : decode b_B_updateSources 50 = .ok (.if_icmp .le 5, 3) := by decide +kernel
theorem d_B_updateSources_53 : decode b_B_updateSources 53 = .ok (.iconst (-1), 1) := by decide +kernel
theorem d_B_updateSources_54 : decode b_B_updateSources 54 = .ok (.ireturn, 1) := by decide +kernel
theorem d_B_updateSources_55 : decode b_B_updateSources 55 = .ok (.lconst 0, 1) := by decide +kernel
theorem d_B_updateSources_56 : decode b_B_updateSources 56 = .ok (.lstore 4, 2) := by decide +kernel
theorem d_B_updateSources_58 : decode b_B_updateSources 58 = .ok (.iconst 0, 1) := by decide +kernel
theorem d_B_updateSources_59 : decode b_B_updateSources 59 = .ok (.istore 6, 2) := by decide +kernel
theorem d_B_updateSources_61 : decode b_B_updateSources 61 = .ok (.iload 6, 2) := by decide +kernel
theorem d_B_updateSources_63 : decode b_B_updateSources 63 = .ok (.bipush 64, 2) := by decide +kernel
theorem d_B_updateSources_65 : decode b_B_updateSources 65 = .ok (.if_icmp .ge 71, 3) := by decide +kernel
theorem d_B_updateSources_68 : decode b_B_updateSources 68 = .ok (.aload_n 1, 1) := by decide +kernel
theorem d_B_updateSources_69 : decode b_B_updateSources 69 = .ok (.iload 6, 2) := by decide +kernel
theorem d_B_updateSources_71 : decode b_B_updateSources 71 = .ok (.invokevirtual 49, 3) := by decide +kernel
theorem d_B_updateSources_74 : decode b_B_updateSources 74 = .ok (.ifCond .eq 56, 3) := by decide +kernel
theorem d_B_updateSources_77 : decode b_B_updateSources 77 = .ok (.aload_n 0, 1) := by decide +kernel
theorem d_B_updateSources_78 : decode b_B_updateSources 78 = .ok (.iload_n 2, 1) := by decide +kernel
theorem d_B_updateSources_79 : decode b_B_updateSources 79 = .ok (.iload 6, 2) := by decide +kernel
theorem d_B_updateSources_81 : decode b_B_updateSources 81 = .ok (.invokevirtual 53, 3) := by decide +kernel
theorem d_B_updateSources_84 : decode b_B_updateSources 84 = .ok (.istore 7, 2) := by decide +kernel
theorem d_B_updateSources_86 : decode b_B_updateSources 86 = .ok (.iload 7, 2) := by decide +kernel
theorem d_B_updateSources_88 : decode b_B_updateSources 88 = .ok (.iconst (-1), 1) := by decide +kernel
theorem d_B_updateSources_89 : decode b_B_updateSources 89 = .ok (.if_icmp .ne 7, 3) := by decide +kernel
theorem d_B_updateSources_92 : decode b_B_updateSources 92 = .ok (.iload_n 2, 1) := by decide +kernel
theorem d_B_updateSources_93 : decode b_B_updateSources 93 = .ok (.goto 5, 3) := by decide +kernel
theorem d_B_updateSources_96 : decode b_B_updateSources 96 = .ok (.iload 7, 2) := by decide +kernel
theorem d_B_updateSources_98 : decode b_B_updateSources 98 = .ok (.istore 8, 2) := by decide +kernel
theorem d_B_updateSources_100 : decode b_B_updateSources 100 = .ok (.aload_n 0, 1) := by decide +kernel
theorem d_B_updateSources_101 : decode b_B_updateSources 101 = .ok (.getfield 11, 3) := by decide +kernel
theorem d_B_updateSources_104 : decode b_B_updateSources 104 = .ok (.iload 8, 2) := by decide +kernel
theorem d_B_updateSources_106 : decode b_B_updateSources 106 = .ok (.aaload, 1) := by decide +kernel
theorem d_B_updateSources_107 : decode b_B_updateSources 107 = .ok (.getfield 22, 3) := by decide +kernel
theorem d_B_updateSources_110 : decode b_B_updateSources 110 = .ok (.iload 6, 2) := by decide +kernel
theorem d_B_updateSources_112 : decode b_B_updateSources 112 = .ok (.aload_n 1, 1) := by decide +kernel
theorem d_B_updateSources_113 : decode b_B_updateSources 113 = .ok (.iload 6, 2) := by decide +kernel
theorem d_B_updateSources_115 : decode b_B_updateSources 115 = .ok (.invokevirtual 56, 3) := by decide +kernel
theorem d_B_updateSources_118 : decode b_B_updateSources 118 = .ok (.invokevirtual 84, 3) := by decide +kernel
theorem d_B_updateSources_121 : decode b_B_updateSources 121 = .ok (.lload 4, 2) := by decide +kernel
theorem d_B_updateSources_123 : decode b_B_updateSources 123 = .ok (.lconst 1, 1) := by decide +kernel
theorem d_B_updateSources_124 : decode b_B_updateSources 124 = .ok (.iload 8, 2) := by decide +kernel
theorem d_B_updateSources_126 : decode b_B_updateSources 126 = .ok (.lshl, 1) := by decide +kernel
theorem d_B_updateSources_127 : decode b_B_updateSources 127 = .ok (.lor, 1) := by decide +kernel
theorem d_B_updateSources_128 : decode b_B_updateSources 128 = .ok (.lstore 4, 2) := by decide +kernel
theorem d_B_updateSources_130 : decode b_B_updateSources 130 = .ok (.iinc 6 1, 3) := by decide +kernel
theorem d_B_updateSources_133 : decode b_B_updateSources 133 = .ok (.goto (-72), 3) := by decide +kernel
theorem d_B_updateSources_136 : decode b_B_updateSources 136 = .ok (.lload 4, 2) := by decide +kernel
theorem d_B_updateSources_138 : decode b_B_updateSources 138 = .ok (.invokestatic 88, 3) := by decide +kernel
theorem d_B_updateSources_141 : decode b_B_updateSources 141 = .ok (.ireturn, 1) := by decide +kernel
theorem d_B_deleteCue_0 : decode b_B_deleteCue 0 = .ok (.aload_n 0, 1) := by decide +kernel
theorem d_B_deleteCue_1 : decode b_B_deleteCue 1 = .ok (.getfield 11, 3) := by decide +kernel
theorem d_B_deleteCue_4 : decode b_B_deleteCue 4 = .ok (.iload_n 1, 1) := by decide +kernel
theorem d_B_deleteCue_5 : decode b_B_deleteCue 5 = .ok (.aaload, 1) := by decide +kernel
theorem d_B_deleteCue_6 : decode b_B_deleteCue 6 = .ok (.getfield 22, 3) := by decide +kernel
theorem d_B_deleteCue_9 : decode b_B_deleteCue 9 = .ok (.astore_n 3, 1) := by decide +kernel
theorem d_B_deleteCue_10 : decode b_B_deleteCue 10 = .ok (.aload_n 0, 1) := by decide +kernel
theorem d_B_deleteCue_11 : decode b_B_deleteCue 11 = .ok (.aload_n 0, 1) := by decide +kernel
theorem d_B_deleteCue_12 : decode b_B_deleteCue 12 = .ok (.getfield 11, 3) := by decide +kernel
theorem d_B_deleteCue_15 : decode b_B_deleteCue 15 = .ok (.iload_n 1, 1) := by decide +kernel
theorem d_B_deleteCue_16 : decode b_B_deleteCue 16 = .ok (.aaload, 1) := by decide +kernel
theorem d_B_deleteCue_17 : decode b_B_deleteCue 17 = .ok (.getfield 46, 3) := by decide +kernel
theorem d_B_deleteCue_20 : decode b_B_deleteCue 20 = .ok (.aload_n 0, 1) := by decide +kernel
theorem d_B_deleteCue_21 : decode b_B_deleteCue 21 = .ok (.getfield 11, 3) := by decide +kernel
theorem d_B_deleteCue_24 : decode b_B_deleteCue 24 = .ok (.iload_n 1, 1) := by decide +kernel
theorem d_B_deleteCue_25 : decode b_B_deleteCue 25 = .ok (.aaload, 1) := by decide +kernel
theorem d_B_deleteCue_26 : decode b_B_deleteCue 26 = .ok (.getfield 43, 3) := by decide +kernel
theorem d_B_deleteCue_29 : decode b_B_deleteCue 29 = .ok (.invokevirtual 62, 3) := by decide +kernel
theorem d_B_deleteCue_32 : decode b_B_deleteCue 32 = .ok (.istore 4, 2) := by decide +kernel
theorem d_B_deleteCue_34 : decode b_B_deleteCue 34 = .ok (.iload_n 2, 1) := by decide +kernel
theorem d_B_deleteCue_35 : decode b_B_deleteCue 35 = .ok (.ifCond .eq 16, 3) := by decide +kernel
theorem d_B_deleteCue_38 : decode b_B_deleteCue 38 = .ok (.iload 4, 2) := by decide +kernel
theorem d_B_deleteCue_40 : decode b_B_deleteCue 40 = .ok (.iconst (-1), 1) := by decide +kernel
theorem d_B_deleteCue_41 : decode b_B_deleteCue 41 = .ok (.if_icmp .eq 10, 3) := by decide +kernel
theorem d_B_deleteCue_44 : decode b_B_deleteCue 44 = .ok (.aload_n 0, 1) := by decide +kernel
theorem d_B_deleteCue_45 : decode b_B_deleteCue 45 = .ok (.iload 4, 2) := by decide +kernel
theorem d_B_deleteCue_47 : decode b_B_deleteCue 47 = .ok (.aload_n 3, 1) := by decide +kernel
theorem d_B_deleteCue_48 : decode b_B_deleteCue 48 = .ok (.invokevirtual 77, 3) := by decide +kernel
theorem d_B_deleteCue_51 : decode b_B_deleteCue 51 = .ok (.aload_n 0, 1) := by decide +kernel
theorem d_B_deleteCue_52 : decode b_B_deleteCue 52 = .ok (.iload_n 1, 1) := by decide +kernel
theorem d_B_deleteCue_53 : decode b_B_deleteCue 53 = .ok (.invokevirtual 94, 3) := by decide +kernel
theorem d_B_deleteCue_56 : decode b_B_deleteCue 56 = .ok (.aload_n 3, 1) := by decide +kernel
theorem d_B_deleteCue_57 : decode b_B_deleteCue 57 = .ok (.getfield 26, 3) := by decide +kernel
theorem d_B_deleteCue_60 : decode b_B_deleteCue 60 = .ok (.ireturn, 1) := by decide +kernel
theorem d_B_blockCue_0 : decode b_B_blockCue 0 = .ok (.aload_n 0, 1) := by decide +kernel
theorem d_B_blockCue_1 : decode b_B_blockCue 1 = .ok (.getfield 11, 3) := by decide +kernel
theorem d_B_blockCue_4 : decode b_B_blockCue 4 = .ok (.iload_n 1, 1) := by decide +kernel
theorem d_B_blockCue_5 : decode b_B_blockCue 5 = .ok (.aaload, 1) := by decide +kernel
theorem d_B_blockCue_6 : decode b_B_blockCue 6 = .ok (.getfield 22, 3) := by decide +kernel
theorem d_B_blockCue_9 : decode b_B_blockCue 9 = .ok (.astore_n 2, 1) := by decide +kernel
theorem d_B_blockCue_10 : decode b_B_blockCue 10 = .ok (.iconst 0, 1) := by decide +kernel
theorem d_B_blockCue_11 : decode b_B_blockCue 11 = .ok (.istore_n 3, 1) := by decide +kernel
theorem d_B_blockCue_12 : decode b_B_blockCue 12 = .ok (.iconst 0, 1) := by decide +kernel
theorem d_B_blockCue_13 : decode b_B_blockCue 13 = .ok (.istore 4, 2) := by decide +kernel
theorem d_B_blockCue_15 : decode b_B_blockCue 15 = .ok (.iload 4, 2) := by decide +kernel
theorem d_B_blockCue_17 : decode b_B_blockCue 17 = .ok (.bipush 64, 2) := by decide +kernel
theorem d_B_blockCue_19 : decode b_B_blockCue 19 = .ok (.if_icmp .ge 32, 3) := by decide +kernel
theorem d_B_blockCue_22 : decode b_B_blockCue 22 = .ok (.aload_n 2, 1) := by decide +kernel
theorem d_B_blockCue_23 : decode b_B_blockCue 23 = .ok (.iload 4, 2) := by decide +kernel
theorem d_B_blockCue_25 : decode b_B_blockCue 25 = .ok (.invokevirtual 49, 3) := by decide +kernel
theorem d_B_blockCue_28 : decode b_B_blockCue 28 = .ok (.ifCond .ne 17, 3) := by decide +kernel
theorem d_B_blockCue_31 : decode b_B_blockCue 31 = .ok (.aload_n 0, 1) := by decide +kernel
theorem d_B_blockCue_32 : decode b_B_blockCue 32 = .ok (.iload_n 1, 1) := by decide +kernel
theorem d_B_blockCue_33 : decode b_B_blockCue 33 = .ok (.iload 4, 2) := by decide +kernel
theorem d_B_blockCue_35 : decode b_B_blockCue 35 = .ok (.invokevirtual 53, 3) := by decide +kernel
theorem d_B_blockCue_38 : decode b_B_blockCue 38 = .ok (.iconst (-1), 1) := by decide +kernel
theorem d_B_blockCue_39 : decode b_B_blockCue 39 = .ok (.if_icmp .eq 6, 3) := by decide +kernel
theorem d_B_blockCue_42 : decode b_B_blockCue 42 = .ok (.iinc 3 1, 3) := by decide +kernel
theorem d_B_blockCue_45 : decode b_B_blockCue 45 = .ok (.iinc 4 1, 3) := by decide +kernel
theorem d_B_blockCue_48 : decode b_B_blockCue 48 = .ok (.goto (-33), 3) := by decide +kernel
theorem d_B_blockCue_51 : decode b_B_blockCue 51 = .ok (.aload_n 0, 1) := by decide +kernel
theorem d_B_blockCue_52 : decode b_B_blockCue 52 = .ok (.invokevirtual 69, 3) := by decide +kernel
theorem d_B_blockCue_55 : decode b_B_blockCue 55 = .ok (.iload_n 3, 1) := by decide +kernel
theorem d_B_blockCue_56 : decode b_B_blockCue 56 = .ok (.iadd, 1) := by decide +kernel
theorem d_B_blockCue_57 : decode b_B_blockCue 57 = .ok (.sipush 600, 3) := by decide +kernel
theorem d_B_blockCue_60 : decode b_B_blockCue 60 = .ok (.if_icmp .le 5, 3) := by decide +kernel
theorem d_B_blockCue_63 : decode b_B_blockCue 63 = .ok (.iconst (-1), 1) := by decide +kernel
theorem d_B_blockCue_64 : decode b_B_blockCue 64 = .ok (.ireturn, 1) := by decide +kernel
theorem d_B_blockCue_65 : decode b_B_blockCue 65 = .ok (.iconst 0, 1) := by decide +kernel
theorem d_B_blockCue_66 : decode b_B_blockCue 66 = .ok (.istore 4, 2) := by decide +kernel
theorem d_B_blockCue_68 : decode b_B_blockCue 68 = .ok (.iload 4, 2) := by decide +kernel
theorem d_B_blockCue_70 : decode b_B_blockCue 70 = .ok (.bipush 64, 2) := by decide +kernel
theorem d_B_blockCue_72 : decode b_B_blockCue 72 = .ok (.if_icmp .ge 32, 3) := by decide +kernel
theorem d_B_blockCue_75 : decode b_B_blockCue 75 = .ok (.aload_n 0, 1) := by decide +kernel
theorem d_B_blockCue_76 : decode b_B_blockCue 76 = .ok (.iload_n 1, 1) := by decide +kernel
theorem d_B_blockCue_77 : decode b_B_blockCue 77 = .ok (.iload 4, 2) := by decide +kernel
theorem d_B_blockCue_79 : decode b_B_blockCue 79 = .ok (.invokevirtual 98, 3) := by decide +kernel
theorem d_B_blockCue_82 : decode b_B_blockCue 82 = .ok (.istore 5, 2) := by decide +kernel
theorem d_B_blockCue_84 : decode b_B_blockCue 84 = .ok (.iload 5, 2) := by decide +kernel
theorem d_B_blockCue_86 : decode b_B_blockCue 86 = .ok (.iconst (-1), 1) := by decide +kernel
theorem d_B_blockCue_87 : decode b_B_blockCue 87 = .ok (.if_icmp .eq 11, 3) := by decide +kernel
theorem d_B_blockCue_90 : decode b_B_blockCue 90 = .ok (.aload_n 2, 1) := by decide +kernel
theorem d_B_blockCue_91 : decode b_B_blockCue 91 = .ok (.iload 4, 2) := by decide +kernel
theorem d_B_blockCue_93 : decode b_B_blockCue 93 = .ok (.iload 5, 2) := by decide +kernel
theorem d_B_blockCue_95 : decode b_B_blockCue 95 = .ok (.invokevirtual 84, 3) := by decide +kernel
theorem d_B_blockCue_98 : decode b_B_blockCue 98 = .ok (.iinc 4 1, 3) := by decide +kernel
theorem d_B_blockCue_101 : decode b_B_blockCue 101 = .ok (.goto (-33), 3) := by decide +kernel
theorem d_B_blockCue_104 : decode b_B_blockCue 104 = .ok (.aload_n 2, 1) := by decide +kernel
theorem d_B_blockCue_105 : decode b_B_blockCue 105 = .ok (.getfield 26, 3) := by decide +kernel
theorem d_B_blockCue_108 : decode b_B_blockCue 108 = .ok (.ireturn, 1) := by decide +kernel
theorem d_B_unblockCue_0 : decode b_B_unblockCue 0 = .ok (.aload_n 0, 1) := by decide +kernel
theorem d_B_unblockCue_1 : decode b_B_unblockCue 1 = .ok (.getfield 11, 3) := by decide +kernel
theorem d_B_unblockCue_4 : decode b_B_unblockCue 4 = .ok (.iload_n 1, 1) := by decide +kernel
theorem d_B_unblockCue_5 : decode b_B_unblockCue 5 = .ok (.aaload, 1) := by decide +kernel
theorem d_B_unblockCue_6 : decode b_B_unblockCue 6 = .ok (.getfield 22, 3) := by decide +kernel
theorem d_B_unblockCue_9 : decode b_B_unblockCue 9 = .ok (.astore_n 2, 1) := by decide +kernel
theorem d_B_unblockCue_10 : decode b_B_unblockCue 10 = .ok (.aload_n 0, 1) := by decide +kernel
theorem d_B_unblockCue_11 : decode b_B_unblockCue 11 = .ok (.aload_n 0, 1) := by decide +kernel
theorem d_B_unblockCue_12 : decode b_B_unblockCue 12 = .ok (.getfield 11, 3) := by decide +kernel
theorem d_B_unblockCue_15 : decode b_B_unblockCue 15 = .ok (.iload_n 1, 1) := by decide +kernel
theorem d_B_unblockCue_16 : decode b_B_unblockCue 16 = .ok (.aaload, 1) := by decide +kernel
theorem d_B_unblockCue_17 : decode b_B_unblockCue 17 = .ok (.getfield 46, 3) := by decide +kernel
theorem d_B_unblockCue_20 : decode b_B_unblockCue 20 = .ok (.aload_n 0, 1) := by decide +kernel
theorem d_B_unblockCue_21 : decode b_B_unblockCue 21 = .ok (.getfield 11, 3) := by decide +kernel
theorem d_B_unblockCue_24 : decode b_B_unblockCue 24 = .ok (.iload_n 1, 1) := by decide +kernel
theorem d_B_unblockCue_25 : decode b_B_unblockCue 25 = .ok (.aaload, 1) := by decide +kernel
theorem d_B_unblockCue_26 : decode b_B_unblockCue 26 = .ok (.getfield 43, 3) := by decide +kernel
theorem d_B_unblockCue_29 : decode b_B_unblockCue 29 = .ok (.invokevirtual 101, 3) := by decide +kernel
theorem d_B_unblockCue_32 : decode b_B_unblockCue 32 = .ok (.istore_n 3, 1) := by decide +kernel
theorem d_B_unblockCue_33 : decode b_B_unblockCue 33 = .ok (.iconst 0, 1) := by decide +kernel
theorem d_B_unblockCue_34 : decode b_B_unblockCue 34 = .ok (.istore 4, 2) := by decide +kernel
theorem d_B_unblockCue_36 : decode b_B_unblockCue 36 = .ok (.iload 4, 2) := by decide +kernel
theorem d_B_unblockCue_38 : decode b_B_unblockCue 38 = .ok (.bipush 64, 2) := by decide +kernel
theorem d_B_unblockCue_40 : decode b_B_unblockCue 40 = .ok (.if_icmp .ge 34, 3) := by decide +kernel
theorem d_B_unblockCue_43 : decode b_B_unblockCue 43 = .ok (.aload_n 2, 1) := by decide +kernel
theorem d_B_unblockCue_44 : decode b_B_unblockCue 44 = .ok (.iload 4, 2) := by decide +kernel
theorem d_B_unblockCue_46 : decode b_B_unblockCue 46 = .ok (.invokevirtual 56, 3) := by decide +kernel
theorem d_B_unblockCue_49 : decode b_B_unblockCue 49 = .ok (.aload_n 0, 1) := by decide +kernel
theorem d_B_unblockCue_50 : decode b_B_unblockCue 50 = .ok (.iload_n 3, 1) := by decide +kernel
theorem d_B_unblockCue_51 : decode b_B_unblockCue 51 = .ok (.iload 4, 2) := by decide +kernel
theorem d_B_unblockCue_53 : decode b_B_unblockCue 53 = .ok (.invokevirtual 98, 3) := by decide +kernel
theorem d_B_unblockCue_56 : decode b_B_unblockCue 56 = .ok (.invokestatic 104, 3) := by decide +kernel
theorem d_B_unblockCue_59 : decode b_B_unblockCue 59 = .ok (.if_icmp .ne 9, 3) := by decide +kernel
theorem d_B_unblockCue_62 : decode b_B_unblockCue 62 = .ok (.aload_n 2, 1) := by decide +kernel
theorem d_B_unblockCue_63 : decode b_B_unblockCue 63 = .ok (.iload 4, 2) := by decide +kernel
theorem d_B_unblockCue_65 : decode b_B_unblockCue 65 = .ok (.invokevirtual 107, 3) := by decide +kernel
theorem d_B_unblockCue_68 : decode b_B_unblockCue 68 = .ok (.iinc 4 1, 3) := by decide +kernel
theorem d_B_unblockCue_71 : decode b_B_unblockCue 71 = .ok (.goto (-35), 3) := by decide +kernel
theorem d_B_unblockCue_74 : decode b_B_unblockCue 74 = .ok (.aload_n 2, 1) := by decide +kernel
theorem d_B_unblockCue_75 : decode b_B_unblockCue 75 = .ok (.getfield 26, 3) := by decide +kernel
theorem d_B_unblockCue_78 : decode b_B_unblockCue 78 = .ok (.ireturn, 1) := by decide +kernel
theorem d_B_keepChannels_0 : decode b_B_keepChannels 0 = .ok (.aload_n 0, 1) := by decide +kernel
theorem d_B_keepChannels_1 : decode b_B_keepChannels 1 = .ok (.getfield 11, 3) := by decide +kernel
theorem d_B_keepChannels_4 : decode b_B_keepChannels 4 = .ok (.iload_n 1, 1) := by decide +kernel
theorem d_B_keepChannels_5 : decode b_B_keepChannels 5 = .ok (.aaload, 1) := by decide +kernel
theorem d_B_keepChannels_6 : decode b_B_keepChannels 6 = .ok (.getfield 22, 3) := by decide +kernel
theorem d_B_keepChannels_9 : decode b_B_keepChannels 9 = .ok (.astore_n 3, 1) := by decide +kernel
theorem d_B_keepChannels_10 : decode b_B_keepChannels 10 = .ok (.iconst 0, 1) := by decide +kernel
theorem d_B_keepChannels_11 : decode b_B_keepChannels 11 = .ok (.istore 4, 2) := by decide +kernel
theorem d_B_keepChannels_13 : decode b_B_keepChannels 13 = .ok (.iload 4, 2) := by decide +kernel
theorem d_B_keepChannels_15 : decode b_B_keepChannels 15 = .ok (.bipush 64, 2) := by decide +kernel
theorem d_B_keepChannels_17 : decode b_B_keepChannels 17 = .ok (.if_icmp .ge 43, 3) := by decide +kernel
theorem d_B_keepChannels_20 : decode b_B_keepChannels 20 = .ok (.aload_n 2, 1) := by decide +kernel
theorem d_B_keepChannels_21 : decode b_B_keepChannels 21 = .ok (.iload 4, 2) := by decide +kernel
theorem d_B_keepChannels_23 : decode b_B_keepChannels 23 = .ok (.invokevirtual 49, 3) := by decide +kernel
theorem d_B_keepChannels_26 : decode b_B_keepChannels 26 = .ok (.ifCond .eq 28, 3) := by decide +kernel
theorem d_B_keepChannels_29 : decode b_B_keepChannels 29 = .ok (.aload_n 3, 1) := by decide +kernel
theorem d_B_keepChannels_30 : decode b_B_keepChannels 30 = .ok (.iload 4, 2) := by decide +kernel
theorem d_B_keepChannels_32 : decode b_B_keepChannels 32 = .ok (.invokevirtual 49, 3) := by decide +kernel
theorem d_B_keepChannels_35 : decode b_B_keepChannels 35 = .ok (.ifCond .ne 19, 3) := by decide +kernel
theorem d_B_keepChannels_38 : decode b_B_keepChannels 38 = .ok (.aload_n 3, 1) := by decide +kernel
theorem d_B_keepChannels_39 : decode b_B_keepChannels 39 = .ok (.iload 4, 2) := by decide +kernel
theorem d_B_keepChannels_41 : decode b_B_keepChannels 41 = .ok (.aload_n 0, 1) := by decide +kernel
theorem d_B_keepChannels_42 : decode b_B_keepChannels 42 = .ok (.iload_n 1, 1) := by decide +kernel
theorem d_B_keepChannels_43 : decode b_B_keepChannels 43 = .ok (.iload 4, 2) := by decide +kernel
theorem d_B_keepChannels_45 : decode b_B_keepChannels 45 = .ok (.invokevirtual 98, 3) := by decide +kernel
theorem d_B_keepChannels_48 : decode b_B_keepChannels 48 = .ok (.invokestatic 104, 3) := by decide +kernel
theorem d_B_keepChannels_51 : decode b_B_keepChannels 51 = .ok (.invokevirtual 84, 3) := by decide +kernel
theorem d_B_keepChannels_54 : decode b_B_keepChannels 54 = .ok (.iinc 4 1, 3) := by decide +kernel
theorem d_B_keepChannels_57 : decode b_B_keepChannels 57 = .ok (.goto (-44), 3) := by decide +kernel
theorem d_B_keepChannels_60 : decode b_B_keepChannels 60 = .ok (.return_, 1) := by decide +kernel
theorem d_B_putAll_0 : decode b_B_putAll 0 = .ok (.iconst 0, 1) := by decide +kernel
theorem d_B_putAll_1 : decode b_B_putAll 1 = .ok (.istore_n 3, 1) := by decide +kernel
theorem d_B_putAll_2 : decode b_B_putAll 2 = .ok (.iload_n 3, 1) := by decide +kernel
theorem d_B_putAll_3 : decode b_B_putAll 3 = .ok (.bipush 64, 2) := by decide +kernel
theorem d_B_putAll_5 : decode b_B_putAll 5 = .ok (.if_icmp .ge 35, 3) := by decide +kernel
theorem d_B_putAll_8 : decode b_B_putAll 8 = .ok (.aload_n 2, 1) := by decide +kernel
theorem d_B_putAll_9 : decode b_B_putAll 9 = .ok (.iload_n 3, 1) := by decide +kernel
theorem d_B_putAll_10 : decode b_B_putAll 10 = .ok (.invokevirtual 49, 3) := by decide +kernel
theorem d_B_putAll_13 : decode b_B_putAll 13 = .ok (.ifCond .eq 21, 3) := by decide +kernel
theorem d_B_putAll_16 : decode b_B_putAll 16 = .ok (.aload_n 0, 1) := by decide +kernel
theorem d_B_putAll_17 : decode b_B_putAll 17 = .ok (.getfield 11, 3) := by decide +kernel
theorem d_B_putAll_20 : decode b_B_putAll 20 = .ok (.iload_n 1, 1) := by decide +kernel
theorem d_B_putAll_21 : decode b_B_putAll 21 = .ok (.aaload, 1) := by decide +kernel
theorem d_B_putAll_22 : decode b_B_putAll 22 = .ok (.getfield 22, 3) := by decide +kernel
theorem d_B_putAll_25 : decode b_B_putAll 25 = .ok (.iload_n 3, 1) := by decide +kernel
theorem d_B_putAll_26 : decode b_B_putAll 26 = .ok (.aload_n 2, 1) := by decide +kernel
theorem d_B_putAll_27 : decode b_B_putAll 27 = .ok (.iload_n 3, 1) := by decide +kernel
theorem d_B_putAll_28 : decode b_B_putAll 28 = .ok (.invokevirtual 56, 3) := by decide +kernel
theorem d_B_putAll_31 : decode b_B_putAll 31 = .ok (.invokevirtual 84, 3) := by decide +kernel
theorem d_B_putAll_34 : decode b_B_putAll 34 = .ok (.iinc 3 1, 3) := by decide +kernel
theorem d_B_putAll_37 : decode b_B_putAll 37 = .ok (.goto (-35), 3) := by decide +kernel
theorem d_B_putAll_40 : decode b_B_putAll 40 = .ok (.return_, 1) := by decide +kernel
theorem d_B_orUnset_0 : decode b_B_orUnset 0 = .ok (.iload_n 0, 1) := by decide +kernel
theorem d_B_orUnset_1 : decode b_B_orUnset 1 = .ok (.iconst (-1), 1) := by decide +kernel
theorem d_B_orUnset_2 : decode b_B_orUnset 2 = .ok (.if_icmp .ne 9, 3) := by decide +kernel
theorem d_B_orUnset_5 : decode b_B_orUnset 5 = .ok (.sipush 272, 3) := by decide +kernel
theorem d_B_orUnset_8 : decode b_B_orUnset 8 = .ok (.goto 4, 3) := by decide +kernel
theorem d_B_orUnset_11 : decode b_B_orUnset 11 = .ok (.iload_n 0, 1) := by decide +kernel
theorem d_B_orUnset_12 : decode b_B_orUnset 12 = .ok (.ireturn, 1) := by decide +kernel
theorem d_B_isIn_0 : decode b_B_isIn 0 = .ok (.iload_n 1, 1) := by decide +kernel
theorem d_B_isIn_1 : decode b_B_isIn 1 = .ok (.ifCond .lt 28, 3) := by decide +kernel
theorem d_B_isIn_4 : decode b_B_isIn 4 = .ok (.iload_n 1, 1) := by decide +kernel
theorem d_B_isIn_5 : decode b_B_isIn 5 = .ok (.aload_n 0, 1) := by decide +kernel
theorem d_B_isIn_6 : decode b_B_isIn 6 = .ok (.getfield 17, 3) := by decide +kernel
theorem d_B_isIn_9 : decode b_B_isIn 9 = .ok (.if_icmp .ge 20, 3) := by decide +kernel
theorem d_B_isIn_12 : decode b_B_isIn 12 = .ok (.aload_n 0, 1) := by decide +kernel
theorem d_B_isIn_13 : decode b_B_isIn 13 = .ok (.getfield 11, 3) := by decide +kernel
theorem d_B_isIn_16 : decode b_B_isIn 16 = .ok (.iload_n 1, 1) := by decide +kernel
theorem d_B_isIn_17 : decode b_B_isIn 17 = .ok (.aaload, 1) := by decide +kernel
theorem d_B_isIn_18 : decode b_B_isIn 18 = .ok (.getfield 46, 3) := by decide +kernel
theorem d_B_isIn_21 : decode b_B_isIn 21 = .ok (.iload_n 2, 1) := by decide +kernel
theorem d_B_isIn_22 : decode b_B_isIn 22 = .ok (.if_icmp .ne 7, 3) := by decide +kernel
theorem d_B_isIn_25 : decode b_B_isIn 25 = .ok (.iconst 1, 1) := by decide +kernel
theorem d_B_isIn_26 : decode b_B_isIn 26 = .ok (.goto 4, 3) := by decide +kernel
theorem d_B_isIn_29 : decode b_B_isIn 29 = .ok (.iconst 0, 1) := by decide +kernel
theorem d_B_isIn_30 : decode b_B_isIn 30 = .ok (.ireturn, 1) := by decide +kernel
theorem d_B_placeFor_0 : decode b_B_placeFor 0 = .ok (.iconst 0, 1) := by decide +kernel
theorem d_B_placeFor_1 : decode b_B_placeFor 1 = .ok (.istore_n 3, 1) := by decide +kernel
theorem d_B_placeFor_2 : decode b_B_placeFor 2 = .ok (.iload_n 3, 1) := by decide +kernel
theorem d_B_placeFor_3 : decode b_B_placeFor 3 = .ok (.aload_n 0, 1) := by decide +kernel
theorem d_B_placeFor_4 : decode b_B_placeFor 4 = .ok (.getfield 17, 3) := by decide +kernel
theorem d_B_placeFor_7 : decode b_B_placeFor 7 = .ok (.if_icmp .ge 23, 3) := by decide +kernel
theorem d_B_placeFor_10 : decode b_B_placeFor 10 = .ok (.aload_n 0, 1) := by decide +kernel
theorem d_B_placeFor_11 : decode b_B_placeFor 11 = .ok (.getfield 11, 3) := by decide +kernel
theorem d_B_placeFor_14 : decode b_B_placeFor 14 = .ok (.iload_n 3, 1) := by decide +kernel
theorem d_B_placeFor_15 : decode b_B_placeFor 15 = .ok (.aaload, 1) := by decide +kernel
theorem d_B_placeFor_16 : decode b_B_placeFor 16 = .ok (.iload_n 1, 1) := by decide +kernel
theorem d_B_placeFor_17 : decode b_B_placeFor 17 = .ok (.iload_n 2, 1) := by decide +kernel
theorem d_B_placeFor_18 : decode b_B_placeFor 18 = .ok (.invokevirtual 110, 3) := by decide +kernel
theorem d_B_placeFor_21 : decode b_B_placeFor 21 = .ok (.ifCond .eq 9, 3) := by decide +kernel
theorem d_B_placeFor_24 : decode b_B_placeFor 24 = .ok (.iinc 3 1, 3) := by decide +kernel
theorem d_B_placeFor_27 : decode b_B_placeFor 27 = .ok (.goto (-25), 3) := by decide +kernel
theorem d_B_placeFor_30 : decode b_B_placeFor 30 = .ok (.iload_n 3, 1) := by decide +kernel
theorem d_B_placeFor_31 : decode b_B_placeFor 31 = .ok (.ireturn, 1) := by decide +kernel
theorem d_B_insert_0 : decode b_B_insert 0 = .ok (.aload_n 0, 1) := by decide +kernel
theorem d_B_insert_1 : decode b_B_insert 1 = .ok (.getfield 11, 3) := by decide +kernel
theorem d_B_insert_4 : decode b_B_insert 4 = .ok (.aload_n 0, 1) := by decide +kernel
theorem d_B_insert_5 : decode b_B_insert 5 = .ok (.getfield 17, 3) := by decide +kernel
theorem d_B_insert_8 : decode b_B_insert 8 = .ok (.aaload, 1) := by decide +kernel
theorem d_B_insert_9 : decode b_B_insert 9 = .ok (.astore 4, 2) := by decide +kernel
theorem d_B_insert_11 : decode b_B_insert 11 = .ok (.aload_n 0, 1) := by decide +kernel
theorem d_B_insert_12 : decode b_B_insert 12 = .ok (.getfield 17, 3) := by decide +kernel
theorem d_B_insert_15 : decode b_B_insert 15 = .ok (.istore 5, 2) := by decide +kernel
theorem d_B_insert_17 : decode b_B_insert 17 = .ok (.iload 5, 2) := by decide +kernel
theorem d_B_insert_19 : decode b_B_insert 19 = .ok (.iload_n 1, 1) := by decide +kernel
theorem d_B_insert_20 : decode b_B_insert 20 = .ok (.if_icmp .le 25, 3) := by decide +kernel
theorem d_B_insert_23 : decode b_B_insert 23 = .ok (.aload_n 0, 1) := by decide +kernel
theorem d_B_insert_24 : decode b_B_insert 24 = .ok (.getfield 11, 3) := by decide +kernel
theorem d_B_insert_27 : decode b_B_insert 27 = .ok (.iload 5, 2) := by decide +kernel
theorem d_B_insert_29 : decode b_B_insert 29 = .ok (.aload_n 0, 1) := by decide +kernel
theorem d_B_insert_30 : decode b_B_insert 30 = .ok (.getfield 11, 3) := by decide +kernel
theorem d_B_insert_33 : decode b_B_insert 33 = .ok (.iload 5, 2) := by decide +kernel
theorem d_B_insert_35 : decode b_B_insert 35 = .ok (.iconst 1, 1) := by decide +kernel
theorem d_B_insert_36 : decode b_B_insert 36 = .ok (.isub, 1) := by decide +kernel
theorem d_B_insert_37 : decode b_B_insert 37 = .ok (.aaload, 1) := by decide +kernel
theorem d_B_insert_38 : decode b_B_insert 38 = .ok (.aastore, 1) := by decide +kernel
theorem d_B_insert_39 : decode b_B_insert 39 = .ok (.iinc 5 (-1), 3) := by decide +kernel
theorem d_B_insert_42 : decode b_B_insert 42 = .ok (.goto (-25), 3) := by decide +kernel
theorem d_B_insert_45 : decode b_B_insert 45 = .ok (.aload_n 0, 1) := by decide +kernel
theorem d_B_insert_46 : decode b_B_insert 46 = .ok (.getfield 11, 3) := by decide +kernel
theorem d_B_insert_49 : decode b_B_insert 49 = .ok (.iload_n 1, 1) := by decide +kernel
theorem d_B_insert_50 : decode b_B_insert 50 = .ok (.aload 4, 2) := by decide +kernel
theorem d_B_insert_52 : decode b_B_insert 52 = .ok (.aastore, 1) := by decide +kernel
theorem d_B_insert_53 : decode b_B_insert 53 = .ok (.aload_n 0, 1) := by decide +kernel
theorem d_B_insert_54 : decode b_B_insert 54 = .ok (.dup, 1) := by decide +kernel
theorem d_B_insert_55 : decode b_B_insert 55 = .ok (.getfield 17, 3) := by decide +kernel
theorem d_B_insert_58 : decode b_B_insert 58 = .ok (.iconst 1, 1) := by decide +kernel
theorem d_B_insert_59 : decode b_B_insert 59 = .ok (.iadd, 1) := by decide +kernel
theorem d_B_insert_60 : decode b_B_insert 60 = .ok (.putfield 17, 3) := by decide +kernel
theorem d_B_insert_63 : decode b_B_insert 63 = .ok (.aload 4, 2) := by decide +kernel
theorem d_B_insert_65 : decode b_B_insert 65 = .ok (.iload_n 2, 1) := by decide +kernel
theorem d_B_insert_66 : decode b_B_insert 66 = .ok (.iload_n 3, 1) := by decide +kernel
theorem d_B_insert_67 : decode b_B_insert 67 = .ok (.invokevirtual 113, 3) := by decide +kernel
theorem d_B_insert_70 : decode b_B_insert 70 = .ok (.return_, 1) := by decide +kernel
theorem d_B_takeOut_0 : decode b_B_takeOut 0 = .ok (.aload_n 0, 1) := by decide +kernel
theorem d_B_takeOut_1 : decode b_B_takeOut 1 = .ok (.getfield 11, 3) := by decide +kernel
theorem d_B_takeOut_4 : decode b_B_takeOut 4 = .ok (.iload_n 1, 1) := by decide +kernel
theorem d_B_takeOut_5 : decode b_B_takeOut 5 = .ok (.aaload, 1) := by decide +kernel
theorem d_B_takeOut_6 : decode b_B_takeOut 6 = .ok (.astore_n 2, 1) := by decide +kernel
theorem d_B_takeOut_7 : decode b_B_takeOut 7 = .ok (.aload_n 0, 1) := by decide +kernel
theorem d_B_takeOut_8 : decode b_B_takeOut 8 = .ok (.dup, 1) := by decide +kernel
theorem d_B_takeOut_9 : decode b_B_takeOut 9 = .ok (.getfield 17, 3) := by decide +kernel
theorem d_B_takeOut_12 : decode b_B_takeOut 12 = .ok (.iconst 1, 1) := by decide +kernel
theorem d_B_takeOut_13 : decode b_B_takeOut 13 = .ok (.isub, 1) := by decide +kernel
theorem d_B_takeOut_14 : decode b_B_takeOut 14 = .ok (.putfield 17, 3) := by decide +kernel
theorem d_B_takeOut_17 : decode b_B_takeOut 17 = .ok (.iload_n 1, 1) := by decide +kernel
theorem d_B_takeOut_18 : decode b_B_takeOut 18 = .ok (.istore_n 3, 1) := by decide +kernel
theorem d_B_takeOut_19 : decode b_B_takeOut 19 = .ok (.iload_n 3, 1) := by decide +kernel
theorem d_B_takeOut_20 : decode b_B_takeOut 20 = .ok (.aload_n 0, 1) := by decide +kernel
theorem d_B_takeOut_21 : decode b_B_takeOut 21 = .ok (.getfield 17, 3) := by decide +kernel
theorem d_B_takeOut_24 : decode b_B_takeOut 24 = .ok (.if_icmp .ge 23, 3) := by decide +kernel
theorem d_B_takeOut_27 : decode b_B_takeOut 27 = .ok (.aload_n 0, 1) := by decide +kernel
theorem d_B_takeOut_28 : decode b_B_takeOut 28 = .ok (.getfield 11, 3) := by decide +kernel
theorem d_B_takeOut_31 : decode b_B_takeOut 31 = .ok (.iload_n 3, 1) := by decide +kernel
theorem d_B_takeOut_32 : decode b_B_takeOut 32 = .ok (.aload_n 0, 1) := by decide +kernel
theorem d_B_takeOut_33 : decode b_B_takeOut 33 = .ok (.getfield 11, 3) := by decide +kernel
theorem d_B_takeOut_36 : decode b_B_takeOut 36 = .ok (.iload_n 3, 1) := by decide +kernel
theorem d_B_takeOut_37 : decode b_B_takeOut 37 = .ok (.iconst 1, 1) := by decide +kernel
theorem d_B_takeOut_38 : decode b_B_takeOut 38 = .ok (.iadd, 1) := by decide +kernel
theorem d_B_takeOut_39 : decode b_B_takeOut 39 = .ok (.aaload, 1) := by decide +kernel
theorem d_B_takeOut_40 : decode b_B_takeOut 40 = .ok (.aastore, 1) := by decide +kernel
theorem d_B_takeOut_41 : decode b_B_takeOut 41 = .ok (.iinc 3 1, 3) := by decide +kernel
theorem d_B_takeOut_44 : decode b_B_takeOut 44 = .ok (.goto (-25), 3) := by decide +kernel
theorem d_B_takeOut_47 : decode b_B_takeOut 47 = .ok (.aload_n 0, 1) := by decide +kernel
theorem d_B_takeOut_48 : decode b_B_takeOut 48 = .ok (.getfield 11, 3) := by decide +kernel
theorem d_B_takeOut_51 : decode b_B_takeOut 51 = .ok (.aload_n 0, 1) := by decide +kernel
theorem d_B_takeOut_52 : decode b_B_takeOut 52 = .ok (.getfield 17, 3) := by decide +kernel
theorem d_B_takeOut_55 : decode b_B_takeOut 55 = .ok (.aload_n 2, 1) := by decide +kernel
theorem d_B_takeOut_56 : decode b_B_takeOut 56 = .ok (.aastore, 1) := by decide +kernel
theorem d_B_takeOut_57 : decode b_B_takeOut 57 = .ok (.return_, 1) := by decide +kernel
theorem d_P_init_0 : decode b_P_init 0 = .ok (.aload_n 0, 1) := by decide +kernel
theorem d_P_init_1 : decode b_P_init 1 = .ok (.invokespecial 3, 3) := by decide +kernel
theorem d_P_init_4 : decode b_P_init 4 = .ok (.aload_n 0, 1) := by decide +kernel
theorem d_P_init_5 : decode b_P_init 5 = .ok (.sipush 1024, 3) := by decide +kernel
theorem d_P_init_8 : decode b_P_init 8 = .ok (.newarray .int, 2) := by decide +kernel
theorem d_P_init_10 : decode b_P_init 10 = .ok (.putfield 9, 3) := by decide +kernel
theorem d_P_init_13 : decode b_P_init 13 = .ok (.aload_n 0, 1) := by decide +kernel
theorem d_P_init_14 : decode b_P_init 14 = .ok (.getfield 9, 3) := by decide +kernel
theorem d_P_init_17 : decode b_P_init 17 = .ok (.iconst (-1), 1) := by decide +kernel
theorem d_P_init_18 : decode b_P_init 18 = .ok (.invokestatic 15, 3) := by decide +kernel
theorem d_P_init_21 : decode b_P_init 21 = .ok (.return_, 1) := by decide +kernel
theorem d_P_store_0 : decode b_P_store 0 = .ok (.aload_n 0, 1) := by decide +kernel
theorem d_P_store_1 : decode b_P_store 1 = .ok (.getfield 9, 3) := by decide +kernel
theorem d_P_store_4 : decode b_P_store 4 = .ok (.iload_n 1, 1) := by decide +kernel
theorem d_P_store_5 : decode b_P_store 5 = .ok (.bipush 64, 2) := by decide +kernel
theorem d_P_store_7 : decode b_P_store 7 = .ok (.imul, 1) := by decide +kernel
theorem d_P_store_8 : decode b_P_store 8 = .ok (.iload_n 2, 1) := by decide +kernel
theorem d_P_store_9 : decode b_P_store 9 = .ok (.iadd, 1) := by decide +kernel
theorem d_P_store_10 : decode b_P_store 10 = .ok (.iload_n 3, 1) := by decide +kernel
theorem d_P_store_11 : decode b_P_store 11 = .ok (.iastore, 1) := by decide +kernel
theorem d_P_store_12 : decode b_P_store 12 = .ok (.return_, 1) := by decide +kernel
theorem d_P_levelOf_0 : decode b_P_levelOf 0 = .ok (.iload_n 1, 1) := by decide +kernel
theorem d_P_levelOf_1 : decode b_P_levelOf 1 = .ok (.ifCond .lt 10, 3) := by decide +kernel
theorem d_P_levelOf_4 : decode b_P_levelOf 4 = .ok (.iload_n 1, 1) := by decide +kernel
theorem d_P_levelOf_5 : decode b_P_levelOf 5 = .ok (.sipush 272, 3) := by decide +kernel
theorem d_P_levelOf_8 : decode b_P_levelOf 8 = .ok (.if_icmp .lt 5, 3) := by decide +kernel
theorem d_P_levelOf_11 : decode b_P_levelOf 11 = .ok (.iconst (-1), 1) := by decide +kernel
theorem d_P_levelOf_12 : decode b_P_levelOf 12 = .ok (.ireturn, 1) := by decide +kernel
theorem d_P_levelOf_13 : decode b_P_levelOf 13 = .ok (.iload_n 1, 1) := by decide +kernel
theorem d_P_levelOf_14 : decode b_P_levelOf 14 = .ok (.sipush 256, 3) := by decide +kernel
theorem d_P_levelOf_17 : decode b_P_levelOf 17 = .ok (.if_icmp .ge 5, 3) := by decide +kernel
theorem d_P_levelOf_20 : decode b_P_levelOf 20 = .ok (.iload_n 1, 1) := by decide +kernel
theorem d_P_levelOf_21 : decode b_P_levelOf 21 = .ok (.ireturn, 1) := by decide +kernel
theorem d_P_levelOf_22 : decode b_P_levelOf 22 = .ok (.aload_n 0, 1) := by decide +kernel
theorem d_P_levelOf_23 : decode b_P_levelOf 23 = .ok (.getfield 9, 3) := by decide +kernel
theorem d_P_levelOf_26 : decode b_P_levelOf 26 = .ok (.iload_n 1, 1) := by decide +kernel
theorem d_P_levelOf_27 : decode b_P_levelOf 27 = .ok (.sipush 256, 3) := by decide +kernel
theorem d_P_levelOf_30 : decode b_P_levelOf 30 = .ok (.isub, 1) := by decide +kernel
theorem d_P_levelOf_31 : decode b_P_levelOf 31 = .ok (.bipush 64, 2) := by decide +kernel
theorem d_P_levelOf_33 : decode b_P_levelOf 33 = .ok (.imul, 1) := by decide +kernel
theorem d_P_levelOf_34 : decode b_P_levelOf 34 = .ok (.iload_n 2, 1) := by decide +kernel
theorem d_P_levelOf_35 : decode b_P_levelOf 35 = .ok (.iadd, 1) := by decide +kernel
theorem d_P_levelOf_36 : decode b_P_levelOf 36 = .ok (.iaload, 1) := by decide +kernel
theorem d_P_levelOf_37 : decode b_P_levelOf 37 = .ok (.ireturn, 1) := by decide +kernel
theorem d_Y_init_0 : decode b_Y_init 0 = .ok (.aload_n 0, 1) := by decide +kernel
theorem d_Y_init_1 : decode b_Y_init 1 = .ok (.invokespecial 3, 3) := by decide +kernel
theorem d_Y_init_4 : decode b_Y_init 4 = .ok (.aload_n 0, 1) := by decide +kernel
theorem d_Y_init_5 : decode b_Y_init 5 = .ok (.bipush 64, 2) := by decide +kernel
theorem d_Y_init_7 : decode b_Y_init 7 = .ok (.newarray .int, 2) := by decide +kernel
theorem d_Y_init_9 : decode b_Y_init 9 = .ok (.putfield 9, 3) := by decide +kernel
theorem d_Y_init_12 : decode b_Y_init 12 = .ok (.aload_n 0, 1) := by decide +kernel
theorem d_Y_init_13 : decode b_Y_init 13 = .ok (.bipush 64, 2) := by decide +kernel
theorem d_Y_init_15 : decode b_Y_init 15 = .ok (.newarray .int, 2) := by decide +kernel
theorem d_Y_init_17 : decode b_Y_init 17 = .ok (.putfield 15, 3) := by decide +kernel
theorem d_Y_init_20 : decode b_Y_init 20 = .ok (.aload_n 0, 1) := by decide +kernel
theorem d_Y_init_21 : decode b_Y_init 21 = .ok (.bipush 64, 2) := by decide +kernel
theorem d_Y_init_23 : decode b_Y_init 23 = .ok (.newarray .int, 2) := by decide +kernel
theorem d_Y_init_25 : decode b_Y_init 25 = .ok (.putfield 18, 3) := by decide +kernel
theorem d_Y_init_28 : decode b_Y_init 28 = .ok (.aload_n 0, 1) := by decide +kernel
theorem d_Y_init_29 : decode b_Y_init 29 = .ok (.bipush 64, 2) := by decide +kernel
theorem d_Y_init_31 : decode b_Y_init 31 = .ok (.newarray .int, 2) := by decide +kernel
theorem d_Y_init_33 : decode b_Y_init 33 = .ok (.putfield 21, 3) := by decide +kernel
theorem d_Y_init_36 : decode b_Y_init 36 = .ok (.aload_n 0, 1) := by decide +kernel
theorem d_Y_init_37 : decode b_Y_init 37 = .ok (.bipush 64, 2) := by decide +kernel
theorem d_Y_init_39 : decode b_Y_init 39 = .ok (.newarray .int, 2) := by decide +kernel
theorem d_Y_init_41 : decode b_Y_init 41 = .ok (.putfield 24, 3) := by decide +kernel
theorem d_Y_init_44 : decode b_Y_init 44 = .ok (.aload_n 0, 1) := by decide +kernel
theorem d_Y_init_45 : decode b_Y_init 45 = .ok (.iconst (-1), 1) := by decide +kernel
theorem d_Y_init_46 : decode b_Y_init 46 = .ok (.putfield 27, 3) := by decide +kernel
theorem d_Y_init_49 : decode b_Y_init 49 = .ok (.aload_n 0, 1) := by decide +kernel
theorem d_Y_init_50 : decode b_Y_init 50 = .ok (.sipush 255, 3) := by decide +kernel
theorem d_Y_init_53 : decode b_Y_init 53 = .ok (.putfield 31, 3) := by decide +kernel
theorem d_Y_init_56 : decode b_Y_init 56 = .ok (.aload_n 0, 1) := by decide +kernel
theorem d_Y_init_57 : decode b_Y_init 57 = .ok (.iconst 0, 1) := by decide +kernel
theorem d_Y_init_58 : decode b_Y_init 58 = .ok (.putfield 34, 3) := by decide +kernel
theorem d_Y_init_61 : decode b_Y_init 61 = .ok (.aload_n 0, 1) := by decide +kernel
theorem d_Y_init_62 : decode b_Y_init 62 = .ok (.iconst (-1), 1) := by decide +kernel
theorem d_Y_init_63 : decode b_Y_init 63 = .ok (.putfield 37, 3) := by decide +kernel
theorem d_Y_init_66 : decode b_Y_init 66 = .ok (.aload_n 0, 1) := by decide +kernel
theorem d_Y_init_67 : decode b_Y_init 67 = .ok (.iconst (-1), 1) := by decide +kernel
theorem d_Y_init_68 : decode b_Y_init 68 = .ok (.putfield 40, 3) := by decide +kernel
theorem d_Y_init_71 : decode b_Y_init 71 = .ok (.aload_n 0, 1) := by decide +kernel
theorem d_Y_init_72 : decode b_Y_init 72 = .ok (.getfield 24, 3) := by decide +kernel
theorem d_Y_init_75 : decode b_Y_init 75 = .ok (.iconst (-1), 1) := by decide +kernel
theorem d_Y_init_76 : decode b_Y_init 76 = .ok (.invokestatic 43, 3) := by decide +kernel
theorem d_Y_init_79 : decode b_Y_init 79 = .ok (.return_, 1) := by decide +kernel
theorem d_Y_lookTick_0 : decode b_Y_lookTick 0 = .ok (.aload_n 0, 1) := by decide +kernel
theorem d_Y_lookTick_1 : decode b_Y_lookTick 1 = .ok (.getfield 24, 3) := by decide +kernel
theorem d_Y_lookTick_4 : decode b_Y_lookTick 4 = .ok (.iload_n 1, 1) := by decide +kernel
theorem d_Y_lookTick_5 : decode b_Y_lookTick 5 = .ok (.iaload, 1) := by decide +kernel
theorem d_Y_lookTick_6 : decode b_Y_lookTick 6 = .ok (.ireturn, 1) := by decide +kernel
theorem d_Y_levelAt_0 : decode b_Y_levelAt 0 = .ok (.iload_n 2, 1) := by decide +kernel
theorem d_Y_levelAt_1 : decode b_Y_levelAt 1 = .ok (.aload_n 0, 1) := by decide +kernel
theorem d_Y_levelAt_2 : decode b_Y_levelAt 2 = .ok (.getfield 18, 3) := by decide +kernel
theorem d_Y_levelAt_5 : decode b_Y_levelAt 5 = .ok (.iload_n 1, 1) := by decide +kernel
theorem d_Y_levelAt_6 : decode b_Y_levelAt 6 = .ok (.iaload, 1) := by decide +kernel
theorem d_Y_levelAt_7 : decode b_Y_levelAt 7 = .ok (.isub, 1) := by decide +kernel
theorem d_Y_levelAt_8 : decode b_Y_levelAt 8 = .ok (.istore_n 3, 1) := by decide +kernel
theorem d_Y_levelAt_9 : decode b_Y_levelAt 9 = .ok (.aload_n 0, 1) := by decide +kernel
theorem d_Y_levelAt_10 : decode b_Y_levelAt 10 = .ok (.getfield 21, 3) := by decide +kernel
theorem d_Y_levelAt_13 : decode b_Y_levelAt 13 = .ok (.iload_n 1, 1) := by decide +kernel
theorem d_Y_levelAt_14 : decode b_Y_levelAt 14 = .ok (.iaload, 1) := by decide +kernel
theorem d_Y_levelAt_15 : decode b_Y_levelAt 15 = .ok (.istore 4, 2) := by decide +kernel
theorem d_Y_levelAt_17 : decode b_Y_levelAt 17 = .ok (.iload_n 3, 1) := by decide +kernel
theorem d_Y_levelAt_18 : decode b_Y_levelAt 18 = .ok (.ifCond .ge 10, 3) := by decide +kernel
theorem d_Y_levelAt_21 : decode b_Y_levelAt 21 = .ok (.aload_n 0, 1) := by decide +kernel
theorem d_Y_levelAt_22 : decode b_Y_levelAt 22 = .ok (.getfield 9, 3) := by decide +kernel
theorem d_Y_levelAt_25 : decode b_Y_levelAt 25 = .ok (.iload_n 1, 1) := by decide +kernel
theorem d_Y_levelAt_26 : decode b_Y_levelAt 26 = .ok (.iaload, 1) := by decide +kernel
theorem d_Y_levelAt_27 : decode b_Y_levelAt 27 = .ok (.ireturn, 1) := by decide +kernel
theorem d_Y_levelAt_28 : decode b_Y_levelAt 28 = .ok (.iload_n 3, 1) := by decide +kernel
theorem d_Y_levelAt_29 : decode b_Y_levelAt 29 = .ok (.iload 4, 2) := by decide +kernel
theorem d_Y_levelAt_31 : decode b_Y_levelAt 31 = .ok (.if_icmp .lt 10, 3) := by decide +kernel
theorem d_Y_levelAt_34 : decode b_Y_levelAt 34 = .ok (.aload_n 0, 1) := by decide +kernel
theorem d_Y_levelAt_35 : decode b_Y_levelAt 35 = .ok (.getfield 15, 3) := by decide +kernel
theorem d_Y_levelAt_38 : decode b_Y_levelAt 38 = .ok (.iload_n 1, 1) := by decide +kernel
theorem d_Y_levelAt_39 : decode b_Y_levelAt 39 = .ok (.iaload, 1) := by decide +kernel
theorem d_Y_levelAt_40 : decode b_Y_levelAt 40 = .ok (.ireturn, 1) := by decide +kernel
theorem d_Y_levelAt_41 : decode b_Y_levelAt 41 = .ok (.aload_n 0, 1) := by decide +kernel
theorem d_Y_levelAt_42 : decode b_Y_levelAt 42 = .ok (.getfield 9, 3) := by decide +kernel
theorem d_Y_levelAt_45 : decode b_Y_levelAt 45 = .ok (.iload_n 1, 1) := by decide +kernel
theorem d_Y_levelAt_46 : decode b_Y_levelAt 46 = .ok (.iaload, 1) := by decide +kernel
theorem d_Y_levelAt_47 : decode b_Y_levelAt 47 = .ok (.aload_n 0, 1) := by decide +kernel
theorem d_Y_levelAt_48 : decode b_Y_levelAt 48 = .ok (.getfield 15, 3) := by decide +kernel
theorem d_Y_levelAt_51 : decode b_Y_levelAt 51 = .ok (.iload_n 1, 1) := by decide +kernel
theorem d_Y_levelAt_52 : decode b_Y_levelAt 52 = .ok (.iaload, 1) := by decide +kernel
theorem d_Y_levelAt_53 : decode b_Y_levelAt 53 = .ok (.aload_n 0, 1) := by decide +kernel
theorem d_Y_levelAt_54 : decode b_Y_levelAt 54 = .ok (.getfield 9, 3) := by decide +kernel
theorem d_Y_levelAt_57 : decode b_Y_levelAt 57 = .ok (.iload_n 1, 1) := by decide +kernel
theorem d_Y_levelAt_58 : decode b_Y_levelAt 58 = .ok (.iaload, 1) := by decide +kernel
theorem d_Y_levelAt_59 : decode b_Y_levelAt 59 = .ok (.isub, 1) := by decide +kernel
theorem d_Y_levelAt_60 : decode b_Y_levelAt 60 = .ok (.iload_n 3, 1) := by decide +kernel
theorem d_Y_levelAt_61 : decode b_Y_levelAt 61 = .ok (.imul, 1) := by decide +kernel
theorem d_Y_levelAt_62 : decode b_Y_levelAt 62 = .ok (.iload 4, 2) := by decide +kernel
theorem d_Y_levelAt_64 : decode b_Y_levelAt 64 = .ok (.idiv, 1) := by decide +kernel
theorem d_Y_levelAt_65 : decode b_Y_levelAt 65 = .ok (.iadd, 1) := by decide +kernel
theorem d_Y_levelAt_66 : decode b_Y_levelAt 66 = .ok (.ireturn, 1) := by decide +kernel
theorem d_Y_fade_0 : decode b_Y_fade 0 = .ok (.aload_n 0, 1) := by decide +kernel
theorem d_Y_fade_1 : decode b_Y_fade 1 = .ok (.iload_n 1, 1) := by decide +kernel
theorem d_Y_fade_2 : decode b_Y_fade 2 = .ok (.iload 4, 2) := by decide +kernel
theorem d_Y_fade_4 : decode b_Y_fade 4 = .ok (.invokevirtual 49, 3) := by decide +kernel
theorem d_Y_fade_7 : decode b_Y_fade 7 = .ok (.istore 5, 2) := by decide +kernel
theorem d_Y_fade_9 : decode b_Y_fade 9 = .ok (.aload_n 0, 1) := by decide +kernel
theorem d_Y_fade_10 : decode b_Y_fade 10 = .ok (.getfield 9, 3) := by decide +kernel
theorem d_Y_fade_13 : decode b_Y_fade 13 = .ok (.iload_n 1, 1) := by decide +kernel
theorem d_Y_fade_14 : decode b_Y_fade 14 = .ok (.iload 5, 2) := by decide +kernel
theorem d_Y_fade_16 : decode b_Y_fade 16 = .ok (.iastore, 1) := by decide +kernel
theorem d_Y_fade_17 : decode b_Y_fade 17 = .ok (.aload_n 0, 1) := by decide +kernel
theorem d_Y_fade_18 : decode b_Y_fade 18 = .ok (.getfield 15, 3) := by decide +kernel
theorem d_Y_fade_21 : decode b_Y_fade 21 = .ok (.iload_n 1, 1) := by decide +kernel
theorem d_Y_fade_22 : decode b_Y_fade 22 = .ok (.iload_n 2, 1) := by decide +kernel
theorem d_Y_fade_23 : decode b_Y_fade 23 = .ok (.iastore, 1) := by decide +kernel
theorem d_Y_fade_24 : decode b_Y_fade 24 = .ok (.aload_n 0, 1) := by decide +kernel
theorem d_Y_fade_25 : decode b_Y_fade 25 = .ok (.getfield 18, 3) := by decide +kernel
theorem d_Y_fade_28 : decode b_Y_fade 28 = .ok (.iload_n 1, 1) := by decide +kernel
theorem d_Y_fade_29 : decode b_Y_fade 29 = .ok (.iload 4, 2) := by decide +kernel
theorem d_Y_fade_31 : decode b_Y_fade 31 = .ok (.aload_n 3, 1) := by decide +kernel
theorem d_Y_fade_32 : decode b_Y_fade 32 = .ok (.getfield 53, 3) := by decide +kernel
theorem d_Y_fade_35 : decode b_Y_fade 35 = .ok (.iadd, 1) := by decide +kernel
theorem d_Y_fade_36 : decode b_Y_fade 36 = .ok (.iastore, 1) := by decide +kernel
theorem d_Y_fade_37 : decode b_Y_fade 37 = .ok (.aload_n 0, 1) := by decide +kernel
theorem d_Y_fade_38 : decode b_Y_fade 38 = .ok (.getfield 21, 3) := by decide +kernel
theorem d_Y_fade_41 : decode b_Y_fade 41 = .ok (.iload_n 1, 1) := by decide +kernel
theorem d_Y_fade_42 : decode b_Y_fade 42 = .ok (.iload_n 2, 1) := by decide +kernel
theorem d_Y_fade_43 : decode b_Y_fade 43 = .ok (.iload 5, 2) := by decide +kernel
theorem d_Y_fade_45 : decode b_Y_fade 45 = .ok (.if_icmp .lt 10, 3) := by decide +kernel
theorem d_Y_fade_48 : decode b_Y_fade 48 = .ok (.aload_n 3, 1) := by decide +kernel
theorem d_Y_fade_49 : decode b_Y_fade 49 = .ok (.getfield 58, 3) := by decide +kernel
theorem d_Y_fade_52 : decode b_Y_fade 52 = .ok (.goto 7, 3) := by decide +kernel
theorem d_Y_fade_55 : decode b_Y_fade 55 = .ok (.aload_n 3, 1) := by decide +kernel
theorem d_Y_fade_56 : decode b_Y_fade 56 = .ok (.getfield 61, 3) := by decide +kernel
theorem d_Y_fade_59 : decode b_Y_fade 59 = .ok (.iastore, 1) := by decide +kernel
theorem d_Y_fade_60 : decode b_Y_fade 60 = .ok (.aload_n 0, 1) := by decide +kernel
theorem d_Y_fade_61 : decode b_Y_fade 61 = .ok (.getfield 24, 3) := by decide +kernel
theorem d_Y_fade_64 : decode b_Y_fade 64 = .ok (.iload_n 1, 1) := by decide +kernel
theorem d_Y_fade_65 : decode b_Y_fade 65 = .ok (.iload 4, 2) := by decide +kernel
theorem d_Y_fade_67 : decode b_Y_fade 67 = .ok (.iastore, 1) := by decide +kernel
theorem d_Y_fade_68 : decode b_Y_fade 68 = .ok (.return_, 1) := by decide +kernel
theorem d_V_init_0 : decode b_V_init 0 = .ok (.aload_n 0, 1) := by decide +kernel
theorem d_V_init_1 : decode b_V_init 1 = .ok (.invokespecial 3, 3) := by decide +kernel
theorem d_V_init_4 : decode b_V_init 4 = .ok (.aload_n 0, 1) := by decide +kernel
theorem d_V_init_5 : decode b_V_init 5 = .ok (.bipush 64, 2) := by decide +kernel
theorem d_V_init_7 : decode b_V_init 7 = .ok (.newarray .int, 2) := by decide +kernel
theorem d_V_init_9 : decode b_V_init 9 = .ok (.putfield 9, 3) := by decide +kernel
theorem d_V_init_12 : decode b_V_init 12 = .ok (.aload_n 0, 1) := by decide +kernel
theorem d_V_init_13 : decode b_V_init 13 = .ok (.iconst 0, 1) := by decide +kernel
theorem d_V_init_14 : decode b_V_init 14 = .ok (.putfield 15, 3) := by decide +kernel
theorem d_V_init_17 : decode b_V_init 17 = .ok (.aload_n 0, 1) := by decide +kernel
theorem d_V_init_18 : decode b_V_init 18 = .ok (.getfield 9, 3) := by decide +kernel
theorem d_V_init_21 : decode b_V_init 21 = .ok (.iconst (-1), 1) := by decide +kernel
theorem d_V_init_22 : decode b_V_init 22 = .ok (.invokestatic 19, 3) := by decide +kernel
theorem d_V_init_25 : decode b_V_init 25 = .ok (.return_, 1) := by decide +kernel
theorem d_V_has_0 : decode b_V_has 0 = .ok (.aload_n 0, 1) := by decide +kernel
theorem d_V_has_1 : decode b_V_has 1 = .ok (.getfield 9, 3) := by decide +kernel
theorem d_V_has_4 : decode b_V_has 4 = .ok (.iload_n 1, 1) := by decide +kernel
theorem d_V_has_5 : decode b_V_has 5 = .ok (.iaload, 1) := by decide +kernel
theorem d_V_has_6 : decode b_V_has 6 = .ok (.iconst (-1), 1) := by decide +kernel
theorem d_V_has_7 : decode b_V_has 7 = .ok (.if_icmp .eq 7, 3) := by decide +kernel
theorem d_V_has_10 : decode b_V_has 10 = .ok (.iconst 1, 1) := by decide +kernel
theorem d_V_has_11 : decode b_V_has 11 = .ok (.goto 4, 3) := by decide +kernel
theorem d_V_has_14 : decode b_V_has 14 = .ok (.iconst 0, 1) := by decide +kernel
theorem d_V_has_15 : decode b_V_has 15 = .ok (.ireturn, 1) := by decide +kernel
theorem d_V_valueAt_0 : decode b_V_valueAt 0 = .ok (.aload_n 0, 1) := by decide +kernel
theorem d_V_valueAt_1 : decode b_V_valueAt 1 = .ok (.getfield 9, 3) := by decide +kernel
theorem d_V_valueAt_4 : decode b_V_valueAt 4 = .ok (.iload_n 1, 1) := by decide +kernel
theorem d_V_valueAt_5 : decode b_V_valueAt 5 = .ok (.iaload, 1) := by decide +kernel
theorem d_V_valueAt_6 : decode b_V_valueAt 6 = .ok (.ireturn, 1) := by decide +kernel
theorem d_V_put_0 : decode b_V_put 0 = .ok (.aload_n 0, 1) := by decide +kernel
theorem d_V_put_1 : decode b_V_put 1 = .ok (.getfield 9, 3) := by decide +kernel
theorem d_V_put_4 : decode b_V_put 4 = .ok (.iload_n 1, 1) := by decide +kernel
theorem d_V_put_5 : decode b_V_put 5 = .ok (.iaload, 1) := by decide +kernel
theorem d_V_put_6 : decode b_V_put 6 = .ok (.iconst (-1), 1) := by decide +kernel
theorem d_V_put_7 : decode b_V_put 7 = .ok (.if_icmp .ne 13, 3) := by decide +kernel
theorem d_V_put_10 : decode b_V_put 10 = .ok (.aload_n 0, 1) := by decide +kernel
theorem d_V_put_11 : decode b_V_put 11 = .ok (.dup, 1) := by decide +kernel
theorem d_V_put_12 : decode b_V_put 12 = .ok (.getfield 15, 3) := by decide +kernel
theorem d_V_put_15 : decode b_V_put 15 = .ok (.iconst 1, 1) := by decide +kernel
theorem d_V_put_16 : decode b_V_put 16 = .ok (.iadd, 1) := by decide +kernel
theorem d_V_put_17 : decode b_V_put 17 = .ok (.putfield 15, 3) := by decide +kernel
theorem d_V_put_20 : decode b_V_put 20 = .ok (.aload_n 0, 1) := by decide +kernel
theorem d_V_put_21 : decode b_V_put 21 = .ok (.getfield 9, 3) := by decide +kernel
theorem d_V_put_24 : decode b_V_put 24 = .ok (.iload_n 1, 1) := by decide +kernel
theorem d_V_put_25 : decode b_V_put 25 = .ok (.iload_n 2, 1) := by decide +kernel
theorem d_V_put_26 : decode b_V_put 26 = .ok (.iastore, 1) := by decide +kernel
theorem d_V_put_27 : decode b_V_put 27 = .ok (.return_, 1) := by decide +kernel
theorem d_V_drop_0 : decode b_V_drop 0 = .ok (.aload_n 0, 1) := by decide +kernel
theorem d_V_drop_1 : decode b_V_drop 1 = .ok (.getfield 9, 3) := by decide +kernel
theorem d_V_drop_4 : decode b_V_drop 4 = .ok (.iload_n 1, 1) := by decide +kernel
theorem d_V_drop_5 : decode b_V_drop 5 = .ok (.iaload, 1) := by decide +kernel
theorem d_V_drop_6 : decode b_V_drop 6 = .ok (.iconst (-1), 1) := by decide +kernel
theorem d_V_drop_7 : decode b_V_drop 7 = .ok (.if_icmp .eq 13, 3) := by decide +kernel
theorem d_V_drop_10 : decode b_V_drop 10 = .ok (.aload_n 0, 1) := by decide +kernel
theorem d_V_drop_11 : decode b_V_drop 11 = .ok (.dup, 1) := by decide +kernel
theorem d_V_drop_12 : decode b_V_drop 12 = .ok (.getfield 15, 3) := by decide +kernel
theorem d_V_drop_15 : decode b_V_drop 15 = .ok (.iconst 1, 1) := by decide +kernel
theorem d_V_drop_16 : decode b_V_drop 16 = .ok (.isub, 1) := by decide +kernel
theorem d_V_drop_17 : decode b_V_drop 17 = .ok (.putfield 15, 3) := by decide +kernel
theorem d_V_drop_20 : decode b_V_drop 20 = .ok (.aload_n 0, 1) := by decide +kernel
theorem d_V_drop_21 : decode b_V_drop 21 = .ok (.getfield 9, 3) := by decide +kernel
theorem d_V_drop_24 : decode b_V_drop 24 = .ok (.iload_n 1, 1) := by decide +kernel
theorem d_V_drop_25 : decode b_V_drop 25 = .ok (.iconst (-1), 1) := by decide +kernel
theorem d_V_drop_26 : decode b_V_drop 26 = .ok (.iastore, 1) := by decide +kernel
theorem d_V_drop_27 : decode b_V_drop 27 = .ok (.return_, 1) := by decide +kernel
theorem d_V_dropAll_0 : decode b_V_dropAll 0 = .ok (.aload_n 0, 1) := by decide +kernel
theorem d_V_dropAll_1 : decode b_V_dropAll 1 = .ok (.getfield 9, 3) := by decide +kernel
theorem d_V_dropAll_4 : decode b_V_dropAll 4 = .ok (.iconst (-1), 1) := by decide +kernel
theorem d_V_dropAll_5 : decode b_V_dropAll 5 = .ok (.invokestatic 19, 3) := by decide +kernel
theorem d_V_dropAll_8 : decode b_V_dropAll 8 = .ok (.aload_n 0, 1) := by decide +kernel
theorem d_V_dropAll_9 : decode b_V_dropAll 9 = .ok (.iconst 0, 1) := by decide +kernel
theorem d_V_dropAll_10 : decode b_V_dropAll 10 = .ok (.putfield 15, 3) := by decide +kernel
theorem d_V_dropAll_13 : decode b_V_dropAll 13 = .ok (.return_, 1) := by decide +kernel
theorem d_V_lackedOf_0 : decode b_V_lackedOf 0 = .ok (.iconst 0, 1) := by decide +kernel
theorem d_V_lackedOf_1 : decode b_V_lackedOf 1 = .ok (.istore_n 2, 1) := by decide +kernel
theorem d_V_lackedOf_2 : decode b_V_lackedOf 2 = .ok (.iconst 0, 1) := by decide +kernel
theorem d_V_lackedOf_3 : decode b_V_lackedOf 3 = .ok (.istore_n 3, 1) := by decide +kernel
theorem d_V_lackedOf_4 : decode b_V_lackedOf 4 = .ok (.iload_n 3, 1) := by decide +kernel
theorem d_V_lackedOf_5 : decode b_V_lackedOf 5 = .ok (.bipush 64, 2) := by decide +kernel
theorem d_V_lackedOf_7 : decode b_V_lackedOf 7 = .ok (.if_icmp .ge 28, 3) := by decide +kernel
theorem d_V_lackedOf_10 : decode b_V_lackedOf 10 = .ok (.aload_n 1, 1) := by decide +kernel
theorem d_V_lackedOf_11 : decode b_V_lackedOf 11 = .ok (.iload_n 3, 1) := by decide +kernel
theorem d_V_lackedOf_12 : decode b_V_lackedOf 12 = .ok (.invokevirtual 25, 3) := by decide +kernel
theorem d_V_lackedOf_15 : decode b_V_lackedOf 15 = .ok (.ifCond .eq 14, 3) := by decide +kernel
theorem d_V_lackedOf_18 : decode b_V_lackedOf 18 = .ok (.aload_n 0, 1) := by decide +kernel
theorem d_V_lackedOf_19 : decode b_V_lackedOf 19 = .ok (.iload_n 3, 1) := by decide +kernel
theorem d_V_lackedOf_20 : decode b_V_lackedOf 20 = .ok (.invokevirtual 25, 3) := by decide +kernel
theorem d_V_lackedOf_23 : decode b_V_lackedOf 23 = .ok (.ifCond .ne 6, 3) := by decide +kernel
theorem d_V_lackedOf_26 : decode b_V_lackedOf 26 = .ok (.iinc 2 1, 3) := by decide +kernel
theorem d_V_lackedOf_29 : decode b_V_lackedOf 29 = .ok (.iinc 3 1, 3) := by decide +kernel
theorem d_V_lackedOf_32 : decode b_V_lackedOf 32 = .ok (.goto (-28), 3) := by decide +kernel
theorem d_V_lackedOf_35 : decode b_V_lackedOf 35 = .ok (.iload_n 2, 1) := by decide +kernel
theorem d_V_lackedOf_36 : decode b_V_lackedOf 36 = .ok (.ireturn, 1) := by decide +kernel
theorem d_JL_bitCount_0 : decode b_JL_bitCount 0 = .ok (.lload_n 0, 1) := by decide +kernel
theorem d_JL_bitCount_1 : decode b_JL_bitCount 1 = .ok (.lload_n 0, 1) := by decide +kernel
theorem d_JL_bitCount_2 : decode b_JL_bitCount 2 = .ok (.iconst 1, 1) := by decide +kernel
theorem d_JL_bitCount_3 : decode b_JL_bitCount 3 = .ok (.lushr, 1) := by decide +kernel
theorem d_JL_bitCount_4 : decode b_JL_bitCount 4 = .ok (.ldc2_w 314, 3) := by decide +kernel
theorem d_JL_bitCount_7 : decode b_JL_bitCount 7 = .ok (.land, 1) := by decide +kernel
theorem d_JL_bitCount_8 : decode b_JL_bitCount 8 = .ok (.lsub, 1) := by decide +kernel
theorem d_JL_bitCount_9 : decode b_JL_bitCount 9 = .ok (.lstore_n 0, 1) := by decide +kernel
theorem d_JL_bitCount_10 : decode b_JL_bitCount 10 = .ok (.lload_n 0, 1) := by decide +kernel
theorem d_JL_bitCount_11 : decode b_JL_bitCount 11 = .ok (.ldc2_w 316, 3) := by decide +kernel
theorem d_JL_bitCount_14 : decode b_JL_bitCount 14 = .ok (.land, 1) := by decide +kernel
theorem d_JL_bitCount_15 : decode b_JL_bitCount 15 = .ok (.lload_n 0, 1) := by decide +kernel
theorem d_JL_bitCount_16 : decode b_JL_bitCount 16 = .ok (.iconst 2, 1) := by decide +kernel
theorem d_JL_bitCount_17 : decode b_JL_bitCount 17 = .ok (.lushr, 1) := by decide +kernel
theorem d_JL_bitCount_18 : decode b_JL_bitCount 18 = .ok (.ldc2_w 316, 3) := by decide +kernel
theorem d_JL_bitCount_21 : decode b_JL_bitCount 21 = .ok (.land, 1) := by decide +kernel
theorem d_JL_bitCount_22 : decode b_JL_bitCount 22 = .ok (.ladd, 1) := by decide +kernel
theorem d_JL_bitCount_23 : decode b_JL_bitCount 23 = .ok (.lstore_n 0, 1) := by decide +kernel
theorem d_JL_bitCount_24 : decode b_JL_bitCount 24 = .ok (.lload_n 0, 1) := by decide +kernel
theorem d_JL_bitCount_25 : decode b_JL_bitCount 25 = .ok (.lload_n 0, 1) := by decide +kernel
theorem d_JL_bitCount_26 : decode b_JL_bitCount 26 = .ok (.iconst 4, 1) := by decide +kernel
theorem d_JL_bitCount_27 : decode b_JL_bitCount 27 = .ok (.lushr, 1) := by decide +kernel
theorem d_JL_bitCount_28 : decode b_JL_bitCount 28 = .ok (.ladd, 1) := by decide +kernel
theorem d_JL_bitCount_29 : decode b_JL_bitCount 29 = .ok (.ldc2_w 318, 3) := by decide +kernel
theorem d_JL_bitCount_32 : decode b_JL_bitCount 32 = .ok (.land, 1) := by decide +kernel
theorem d_JL_bitCount_33 : decode b_JL_bitCount 33 = .ok (.lstore_n 0, 1) := by decide +kernel
theorem d_JL_bitCount_34 : decode b_JL_bitCount 34 = .ok (.lload_n 0, 1) := by decide +kernel
theorem d_JL_bitCount_35 : decode b_JL_bitCount 35 = .ok (.lload_n 0, 1) := by decide +kernel
theorem d_JL_bitCount_36 : decode b_JL_bitCount 36 = .ok (.bipush 8, 2) := by decide +kernel
theorem d_JL_bitCount_38 : decode b_JL_bitCount 38 = .ok (.lushr, 1) := by decide +kernel
theorem d_JL_bitCount_39 : decode b_JL_bitCount 39 = .ok (.ladd, 1) := by decide +kernel
theorem d_JL_bitCount_40 : decode b_JL_bitCount 40 = .ok (.lstore_n 0, 1) := by decide +kernel
theorem d_JL_bitCount_41 : decode b_JL_bitCount 41 = .ok (.lload_n 0, 1) := by decide +kernel
theorem d_JL_bitCount_42 : decode b_JL_bitCount 42 = .ok (.lload_n 0, 1) := by decide +kernel
theorem d_JL_bitCount_43 : decode b_JL_bitCount 43 = .ok (.bipush 16, 2) := by decide +kernel
theorem d_JL_bitCount_45 : decode b_JL_bitCount 45 = .ok (.lushr, 1) := by decide +kernel
theorem d_JL_bitCount_46 : decode b_JL_bitCount 46 = .ok (.ladd, 1) := by decide +kernel
theorem d_JL_bitCount_47 : decode b_JL_bitCount 47 = .ok (.lstore_n 0, 1) := by decide +kernel
theorem d_JL_bitCount_48 : decode b_JL_bitCount 48 = .ok (.lload_n 0, 1) := by decide +kernel
theorem d_JL_bitCount_49 : decode b_JL_bitCount 49 = .ok (.lload_n 0, 1) := by decide +kernel
theorem d_JL_bitCount_50 : decode b_JL_bitCount 50 = .ok (.bipush 32, 2) := by decide +kernel
theorem d_JL_bitCount_52 : decode b_JL_bitCount 52 = .ok (.lushr, 1) := by decide +kernel
theorem d_JL_bitCount_53 : decode b_JL_bitCount 53 = .ok (.ladd, 1) := by decide +kernel
theorem d_JL_bitCount_54 : decode b_JL_bitCount 54 = .ok (.lstore_n 0, 1) := by decide +kernel
theorem d_JL_bitCount_55 : decode b_JL_bitCount 55 = .ok (.lload_n 0, 1) := by decide +kernel
theorem d_JL_bitCount_56 : decode b_JL_bitCount 56 = .ok (.l2i, 1) := by decide +kernel
theorem d_JL_bitCount_57 : decode b_JL_bitCount 57 = .ok (.bipush 127, 2) := by decide +kernel
theorem d_JL_bitCount_59 : decode b_JL_bitCount 59 = .ok (.iand, 1) := by decide +kernel
theorem d_JL_bitCount_60 : decode b_JL_bitCount 60 = .ok (.ireturn, 1) := by decide +kernel
theorem d_JM_max_0 : decode b_JM_max 0 = .ok (.iload_n 0, 1) := by decide +kernel
theorem d_JM_max_1 : decode b_JM_max 1 = .ok (.iload_n 1, 1) := by decide +kernel
theorem d_JM_max_2 : decode b_JM_max 2 = .ok (.if_icmp .lt 7, 3) := by decide +kernel
theorem d_JM_max_5 : decode b_JM_max 5 = .ok (.iload_n 0, 1) := by decide +kernel
theorem d_JM_max_6 : decode b_JM_max 6 = .ok (.goto 4, 3) := by decide +kernel
theorem d_JM_max_9 : decode b_JM_max 9 = .ok (.iload_n 1, 1) := by decide +kernel
theorem d_JM_max_10 : decode b_JM_max 10 = .ok (.ireturn, 1) := by decide +kernel
theorem d_JA_fill_0 : decode b_JA_fill 0 = .ok (.iconst 0, 1) := by decide +kernel
theorem d_JA_fill_1 : decode b_JA_fill 1 = .ok (.istore_n 2, 1) := by decide +kernel
theorem d_JA_fill_2 : decode b_JA_fill 2 = .ok (.aload_n 0, 1) := by decide +kernel
theorem d_JA_fill_3 : decode b_JA_fill 3 = .ok (.arraylength, 1) := by decide +kernel
theorem d_JA_fill_4 : decode b_JA_fill 4 = .ok (.istore_n 3, 1) := by decide +kernel
theorem d_JA_fill_5 : decode b_JA_fill 5 = .ok (.iload_n 2, 1) := by decide +kernel
theorem d_JA_fill_6 : decode b_JA_fill 6 = .ok (.iload_n 3, 1) := by decide +kernel
theorem d_JA_fill_7 : decode b_JA_fill 7 = .ok (.if_icmp .ge 13, 3) := by decide +kernel
theorem d_JA_fill_10 : decode b_JA_fill 10 = .ok (.aload_n 0, 1) := by decide +kernel
theorem d_JA_fill_11 : decode b_JA_fill 11 = .ok (.iload_n 2, 1) := by decide +kernel
theorem d_JA_fill_12 : decode b_JA_fill 12 = .ok (.iload_n 1, 1) := by decide +kernel
theorem d_JA_fill_13 : decode b_JA_fill 13 = .ok (.iastore, 1) := by decide +kernel
theorem d_JA_fill_14 : decode b_JA_fill 14 = .ok (.iinc 2 1, 3) := by decide +kernel
theorem d_JA_fill_17 : decode b_JA_fill 17 = .ok (.goto (-12), 3) := by decide +kernel
theorem d_JA_fill_20 : decode b_JA_fill 20 = .ok (.return_, 1) := by decide +kernel
end
section
theorem d_M_init_0 : decode b_M_init 0 = .ok (.aload_n 0, 1) := by decide +kernel
theorem d_M_init_1 : decode b_M_init 1 = .ok (.invokespecial 1, 3) := by decide +kernel
theorem d_M_init_4 : decode b_M_init 4 = .ok (.aload_n 0, 1) := by decide +kernel
theorem d_M_init_5 : decode b_M_init 5 = .ok (.bipush 64, 2) := by decide +kernel
theorem d_M_init_7 : decode b_M_init 7 = .ok (.newarray .boolean, 2) := by decide +kernel
theorem d_M_init_9 : decode b_M_init 9 = .ok (.putfield 7, 3) := by decide +kernel
theorem d_M_init_12 : decode b_M_init 12 = .ok (.aload_n 0, 1) := by decide +kernel
theorem d_M_init_13 : decode b_M_init 13 = .ok (.bipush 64, 2) := by decide +kernel
theorem d_M_init_15 : decode b_M_init 15 = .ok (.newarray .short, 2) := by decide +kernel
theorem d_M_init_17 : decode b_M_init 17 = .ok (.putfield 13, 3) := by decide +kernel
theorem d_M_init_20 : decode b_M_init 20 = .ok (.aload_n 0, 1) := by decide +kernel
theorem d_M_init_21 : decode b_M_init 21 = .ok (.sipush 1024, 3) := by decide +kernel
theorem d_M_init_24 : decode b_M_init 24 = .ok (.newarray .short, 2) := by decide +kernel
theorem d_M_init_26 : decode b_M_init 26 = .ok (.putfield 17, 3) := by decide +kernel
theorem d_M_init_29 : decode b_M_init 29 = .ok (.aload_n 0, 1) := by decide +kernel
theorem d_M_init_30 : decode b_M_init 30 = .ok (.bipush 40, 2) := by decide +kernel
theorem d_M_init_32 : decode b_M_init 32 = .ok (.newarray .int, 2) := by decide +kernel
theorem d_M_init_34 : decode b_M_init 34 = .ok (.putfield 20, 3) := by decide +kernel
theorem d_M_init_37 : decode b_M_init 37 = .ok (.aload_n 0, 1) := by decide +kernel
theorem d_M_init_38 : decode b_M_init 38 = .ok (.bipush 40, 2) := by decide +kernel
theorem d_M_init_40 : decode b_M_init 40 = .ok (.newarray .int, 2) := by decide +kernel
theorem d_M_init_42 : decode b_M_init 42 = .ok (.putfield 24, 3) := by decide +kernel
theorem d_M_init_45 : decode b_M_init 45 = .ok (.aload_n 0, 1) := by decide +kernel
theorem d_M_init_46 : decode b_M_init 46 = .ok (.bipush 40, 2) := by decide +kernel
theorem d_M_init_48 : decode b_M_init 48 = .ok (.newarray .int, 2) := by decide +kernel
theorem d_M_init_50 : decode b_M_init 50 = .ok (.putfield 27, 3) := by decide +kernel
theorem d_M_init_53 : decode b_M_init 53 = .ok (.aload_n 0, 1) := by decide +kernel
theorem d_M_init_54 : decode b_M_init 54 = .ok (.bipush 40, 2) := by decide +kernel
theorem d_M_init_56 : decode b_M_init 56 = .ok (.newarray .int, 2) := by decide +kernel
theorem d_M_init_58 : decode b_M_init 58 = .ok (.putfield 30, 3) := by decide +kernel
theorem d_M_init_61 : decode b_M_init 61 = .ok (.aload_n 0, 1) := by decide +kernel
theorem d_M_init_62 : decode b_M_init 62 = .ok (.bipush 40, 2) := by decide +kernel
theorem d_M_init_64 : decode b_M_init 64 = .ok (.newarray .int, 2) := by decide +kernel
theorem d_M_init_66 : decode b_M_init 66 = .ok (.putfield 33, 3) := by decide +kernel
theorem d_M_init_69 : decode b_M_init 69 = .ok (.aload_n 0, 1) := by decide +kernel
theorem d_M_init_70 : decode b_M_init 70 = .ok (.bipush 40, 2) := by decide +kernel
theorem d_M_init_72 : decode b_M_init 72 = .ok (.newarray .int, 2) := by decide +kernel
theorem d_M_init_74 : decode b_M_init 74 = .ok (.putfield 36, 3) := by decide +kernel
theorem d_M_init_77 : decode b_M_init 77 = .ok (.aload_n 0, 1) := by decide +kernel
theorem d_M_init_78 : decode b_M_init 78 = .ok (.sipush 2560, 3) := by decide +kernel
theorem d_M_init_81 : decode b_M_init 81 = .ok (.newarray .short, 2) := by decide +kernel
theorem d_M_init_83 : decode b_M_init 83 = .ok (.putfield 39, 3) := by decide +kernel
theorem d_M_init_86 : decode b_M_init 86 = .ok (.aload_n 0, 1) := by decide +kernel
theorem d_M_init_87 : decode b_M_init 87 = .ok (.bipush 64, 2) := by decide +kernel
theorem d_M_init_89 : decode b_M_init 89 = .ok (.newarray .short, 2) := by decide +kernel
theorem d_M_init_91 : decode b_M_init 91 = .ok (.putfield 42, 3) := by decide +kernel
theorem d_M_init_94 : decode b_M_init 94 = .ok (.aload_n 0, 1) := by decide +kernel
theorem d_M_init_95 : decode b_M_init 95 = .ok (.bipush 6, 2) := by decide +kernel
theorem d_M_init_97 : decode b_M_init 97 = .ok (.newarray .int, 2) := by decide +kernel
theorem d_M_init_99 : decode b_M_init 99 = .ok (.putfield 45, 3) := by decide +kernel
theorem d_M_init_102 : decode b_M_init 102 = .ok (.aload_n 0, 1) := by decide +kernel
theorem d_M_init_103 : decode b_M_init 103 = .ok (.bipush 6, 2) := by decide +kernel
theorem d_M_init_105 : decode b_M_init 105 = .ok (.newarray .int, 2) := by decide +kernel
theorem d_M_init_107 : decode b_M_init 107 = .ok (.putfield 48, 3) := by decide +kernel
theorem d_M_init_110 : decode b_M_init 110 = .ok (.aload_n 0, 1) := by decide +kernel
theorem d_M_init_111 : decode b_M_init 111 = .ok (.bipush 6, 2) := by decide +kernel
theorem d_M_init_113 : decode b_M_init 113 = .ok (.newarray .int, 2) := by decide +kernel
theorem d_M_init_115 : decode b_M_init 115 = .ok (.putfield 51, 3) := by decide +kernel
theorem d_M_init_118 : decode b_M_init 118 = .ok (.aload_n 0, 1) := by decide +kernel
theorem d_M_init_119 : decode b_M_init 119 = .ok (.bipush 6, 2) := by decide +kernel
theorem d_M_init_121 : decode b_M_init 121 = .ok (.newarray .int, 2) := by decide +kernel
theorem d_M_init_123 : decode b_M_init 123 = .ok (.putfield 54, 3) := by decide +kernel
theorem d_M_init_126 : decode b_M_init 126 = .ok (.aload_n 0, 1) := by decide +kernel
theorem d_M_init_127 : decode b_M_init 127 = .ok (.bipush 6, 2) := by decide +kernel
theorem d_M_init_129 : decode b_M_init 129 = .ok (.newarray .int, 2) := by decide +kernel
theorem d_M_init_131 : decode b_M_init 131 = .ok (.putfield 57, 3) := by decide +kernel
theorem d_M_init_134 : decode b_M_init 134 = .ok (.aload_n 0, 1) := by decide +kernel
theorem d_M_init_135 : decode b_M_init 135 = .ok (.sipush 384, 3) := by decide +kernel
theorem d_M_init_138 : decode b_M_init 138 = .ok (.newarray .short, 2) := by decide +kernel
theorem d_M_init_140 : decode b_M_init 140 = .ok (.putfield 60, 3) := by decide +kernel
theorem d_M_init_143 : decode b_M_init 143 = .ok (.aload_n 0, 1) := by decide +kernel
theorem d_M_init_144 : decode b_M_init 144 = .ok (.sipush 384, 3) := by decide +kernel
theorem d_M_init_147 : decode b_M_init 147 = .ok (.newarray .short, 2) := by decide +kernel
theorem d_M_init_149 : decode b_M_init 149 = .ok (.putfield 63, 3) := by decide +kernel
theorem d_M_init_152 : decode b_M_init 152 = .ok (.aload_n 0, 1) := by decide +kernel
theorem d_M_init_153 : decode b_M_init 153 = .ok (.sipush 384, 3) := by decide +kernel
theorem d_M_init_156 : decode b_M_init 156 = .ok (.newarray .int, 2) := by decide +kernel
theorem d_M_init_158 : decode b_M_init 158 = .ok (.putfield 66, 3) := by decide +kernel
theorem d_M_init_161 : decode b_M_init 161 = .ok (.aload_n 0, 1) := by decide +kernel
theorem d_M_init_162 : decode b_M_init 162 = .ok (.sipush 384, 3) := by decide +kernel
theorem d_M_init_165 : decode b_M_init 165 = .ok (.newarray .int, 2) := by decide +kernel
theorem d_M_init_167 : decode b_M_init 167 = .ok (.putfield 69, 3) := by decide +kernel
theorem d_M_init_170 : decode b_M_init 170 = .ok (.aload_n 0, 1) := by decide +kernel
theorem d_M_init_171 : decode b_M_init 171 = .ok (.sipush 384, 3) := by decide +kernel
theorem d_M_init_174 : decode b_M_init 174 = .ok (.newarray .int, 2) := by decide +kernel
theorem d_M_init_176 : decode b_M_init 176 = .ok (.putfield 72, 3) := by decide +kernel
theorem d_M_init_179 : decode b_M_init 179 = .ok (.iconst 0, 1) := by decide +kernel
theorem d_M_init_180 : decode b_M_init 180 = .ok (.istore_n 1, 1) := by decide +kernel
theorem d_M_init_181 : decode b_M_init 181 = .ok (.iload_n 1, 1) := by decide +kernel
theorem d_M_init_182 : decode b_M_init 182 = .ok (.bipush 64, 2) := by decide +kernel
theorem d_M_init_184 : decode b_M_init 184 = .ok (.if_icmp .ge 16, 3) := by decide +kernel
theorem d_M_init_187 : decode b_M_init 187 = .ok (.aload_n 0, 1) := by decide +kernel
theorem d_M_init_188 : decode b_M_init 188 = .ok (.getfield 13, 3) := by decide +kernel
theorem d_M_init_191 : decode b_M_init 191 = .ok (.iload_n 1, 1) := by decide +kernel
theorem d_M_init_192 : decode b_M_init 192 = .ok (.iconst (-1), 1) := by decide +kernel
theorem d_M_init_193 : decode b_M_init 193 = .ok (.sastore, 1) := by decide +kernel
theorem d_M_init_194 : decode b_M_init 194 = .ok (.iinc 1 1, 3) := by decide +kernel
theorem d_M_init_197 : decode b_M_init 197 = .ok (.goto (-16), 3) := by decide +kernel
theorem d_M_init_200 : decode b_M_init 200 = .ok (.iconst 0, 1) := by decide +kernel
theorem d_M_init_201 : decode b_M_init 201 = .ok (.istore_n 1, 1) := by decide +kernel
theorem d_M_init_202 : decode b_M_init 202 = .ok (.iload_n 1, 1) := by decide +kernel
theorem d_M_init_203 : decode b_M_init 203 = .ok (.sipush 1024, 3) := by decide +kernel
theorem d_M_init_206 : decode b_M_init 206 = .ok (.if_icmp .ge 16, 3) := by decide +kernel
theorem d_M_init_209 : decode b_M_init 209 = .ok (.aload_n 0, 1) := by decide +kernel
theorem d_M_init_210 : decode b_M_init 210 = .ok (.getfield 17, 3) := by decide +kernel
theorem d_M_init_213 : decode b_M_init 213 = .ok (.iload_n 1, 1) := by decide +kernel
theorem d_M_init_214 : decode b_M_init 214 = .ok (.iconst (-1), 1) := by decide +kernel
theorem d_M_init_215 : decode b_M_init 215 = .ok (.sastore, 1) := by decide +kernel
theorem d_M_init_216 : decode b_M_init 216 = .ok (.iinc 1 1, 3) := by decide +kernel
theorem d_M_init_219 : decode b_M_init 219 = .ok (.goto (-17), 3) := by decide +kernel
theorem d_M_init_222 : decode b_M_init 222 = .ok (.iconst 0, 1) := by decide +kernel
theorem d_M_init_223 : decode b_M_init 223 = .ok (.istore_n 1, 1) := by decide +kernel
theorem d_M_init_224 : decode b_M_init 224 = .ok (.iload_n 1, 1) := by decide +kernel
theorem d_M_init_225 : decode b_M_init 225 = .ok (.bipush 40, 2) := by decide +kernel
theorem d_M_init_227 : decode b_M_init 227 = .ok (.if_icmp .ge 16, 3) := by decide +kernel
theorem d_M_init_230 : decode b_M_init 230 = .ok (.aload_n 0, 1) := by decide +kernel
theorem d_M_init_231 : decode b_M_init 231 = .ok (.getfield 20, 3) := by decide +kernel
theorem d_M_init_234 : decode b_M_init 234 = .ok (.iload_n 1, 1) := by decide +kernel
theorem d_M_init_235 : decode b_M_init 235 = .ok (.iconst (-1), 1) := by decide +kernel
theorem d_M_init_236 : decode b_M_init 236 = .ok (.iastore, 1) := by decide +kernel
theorem d_M_init_237 : decode b_M_init 237 = .ok (.iinc 1 1, 3) := by decide +kernel
theorem d_M_init_240 : decode b_M_init 240 = .ok (.goto (-16), 3) := by decide +kernel
theorem d_M_init_243 : decode b_M_init 243 = .ok (.iconst 0, 1) := by decide +kernel
theorem d_M_init_244 : decode b_M_init 244 = .ok (.istore_n 1, 1) := by decide +kernel
theorem d_M_init_245 : decode b_M_init 245 = .ok (.iload_n 1, 1) := by decide +kernel
theorem d_M_init_246 : decode b_M_init 246 = .ok (.bipush 6, 2) := by decide +kernel
theorem d_M_init_248 : decode b_M_init 248 = .ok (.if_icmp .ge 39, 3) := by decide +kernel
theorem d_M_init_251 : decode b_M_init 251 = .ok (.aload_n 0, 1) := by decide +kernel
theorem d_M_init_252 : decode b_M_init 252 = .ok (.getfield 45, 3) := by decide +kernel
theorem d_M_init_255 : decode b_M_init 255 = .ok (.iload_n 1, 1) := by decide +kernel
theorem d_M_init_256 : decode b_M_init 256 = .ok (.iconst (-1), 1) := by decide +kernel
theorem d_M_init_257 : decode b_M_init 257 = .ok (.iastore, 1) := by decide +kernel
theorem d_M_init_258 : decode b_M_init 258 = .ok (.aload_n 0, 1) := by decide +kernel
theorem d_M_init_259 : decode b_M_init 259 = .ok (.getfield 48, 3) := by decide +kernel
theorem d_M_init_262 : decode b_M_init 262 = .ok (.iload_n 1, 1) := by decide +kernel
theorem d_M_init_263 : decode b_M_init 263 = .ok (.sipush 255, 3) := by decide +kernel
theorem d_M_init_266 : decode b_M_init 266 = .ok (.iastore, 1) := by decide +kernel
theorem d_M_init_267 : decode b_M_init 267 = .ok (.aload_n 0, 1) := by decide +kernel
theorem d_M_init_268 : decode b_M_init 268 = .ok (.getfield 54, 3) := by decide +kernel
theorem d_M_init_271 : decode b_M_init 271 = .ok (.iload_n 1, 1) := by decide +kernel
theorem d_M_init_272 : decode b_M_init 272 = .ok (.iconst (-1), 1) := by decide +kernel
theorem d_M_init_273 : decode b_M_init 273 = .ok (.iastore, 1) := by decide +kernel
theorem d_M_init_274 : decode b_M_init 274 = .ok (.aload_n 0, 1) := by decide +kernel
theorem d_M_init_275 : decode b_M_init 275 = .ok (.getfield 57, 3) := by decide +kernel
theorem d_M_init_278 : decode b_M_init 278 = .ok (.iload_n 1, 1) := by decide +kernel
theorem d_M_init_279 : decode b_M_init 279 = .ok (.iconst (-1), 1) := by decide +kernel
theorem d_M_init_280 : decode b_M_init 280 = .ok (.iastore, 1) := by decide +kernel
theorem d_M_init_281 : decode b_M_init 281 = .ok (.iinc 1 1, 3) := by decide +kernel
theorem d_M_init_284 : decode b_M_init 284 = .ok (.goto (-39), 3) := by decide +kernel
theorem d_M_init_287 : decode b_M_init 287 = .ok (.iconst 0, 1) := by decide +kernel
theorem d_M_init_288 : decode b_M_init 288 = .ok (.istore_n 1, 1) := by decide +kernel
theorem d_M_init_289 : decode b_M_init 289 = .ok (.iload_n 1, 1) := by decide +kernel
theorem d_M_init_290 : decode b_M_init 290 = .ok (.sipush 384, 3) := by decide +kernel
theorem d_M_init_293 : decode b_M_init 293 = .ok (.if_icmp .ge 16, 3) := by decide +kernel
theorem d_M_init_296 : decode b_M_init 296 = .ok (.aload_n 0, 1) := by decide +kernel
theorem d_M_init_297 : decode b_M_init 297 = .ok (.getfield 72, 3) := by decide +kernel
theorem d_M_init_300 : decode b_M_init 300 = .ok (.iload_n 1, 1) := by decide +kernel
theorem d_M_init_301 : decode b_M_init 301 = .ok (.iconst (-1), 1) := by decide +kernel
theorem d_M_init_302 : decode b_M_init 302 = .ok (.iastore, 1) := by decide +kernel
theorem d_M_init_303 : decode b_M_init 303 = .ok (.iinc 1 1, 3) := by decide +kernel
theorem d_M_init_306 : decode b_M_init 306 = .ok (.goto (-17), 3) := by decide +kernel
theorem d_M_init_309 : decode b_M_init 309 = .ok (.return_, 1) := by decide +kernel
theorem d_M_thrown_0 : decode b_M_thrown 0 = .ok (.aload_n 0, 1) := by decide +kernel
theorem d_M_thrown_1 : decode b_M_thrown 1 = .ok (.getfield 75, 3) := by decide +kernel
theorem d_M_thrown_4 : decode b_M_thrown 4 = .ok (.ireturn, 1) := by decide +kernel
theorem d_M_isChannel_0 : decode b_M_isChannel 0 = .ok (.iload_n 0, 1) := by decide +kernel
theorem d_M_isChannel_1 : decode b_M_isChannel 1 = .ok (.ifCond .lt 13, 3) := by decide +kernel
theorem d_M_isChannel_4 : decode b_M_isChannel 4 = .ok (.iload_n 0, 1) := by decide +kernel
theorem d_M_isChannel_5 : decode b_M_isChannel 5 = .ok (.bipush 64, 2) := by decide +kernel
theorem d_M_isChannel_7 : decode b_M_isChannel 7 = .ok (.if_icmp .ge 7, 3) := by decide +kernel
theorem d_M_isChannel_10 : decode b_M_isChannel 10 = .ok (.iconst 1, 1) := by decide +kernel
theorem d_M_isChannel_11 : decode b_M_isChannel 11 = .ok (.goto 4, 3) := by decide +kernel
theorem d_M_isChannel_14 : decode b_M_isChannel 14 = .ok (.iconst 0, 1) := by decide +kernel
theorem d_M_isChannel_15 : decode b_M_isChannel 15 = .ok (.ireturn, 1) := by decide +kernel
theorem d_M_isLevel_0 : decode b_M_isLevel 0 = .ok (.iload_n 0, 1) := by decide +kernel
theorem d_M_isLevel_1 : decode b_M_isLevel 1 = .ok (.ifCond .lt 14, 3) := by decide +kernel
theorem d_M_isLevel_4 : decode b_M_isLevel 4 = .ok (.iload_n 0, 1) := by decide +kernel
theorem d_M_isLevel_5 : decode b_M_isLevel 5 = .ok (.sipush 256, 3) := by decide +kernel
theorem d_M_isLevel_8 : decode b_M_isLevel 8 = .ok (.if_icmp .ge 7, 3) := by decide +kernel
theorem d_M_isLevel_11 : decode b_M_isLevel 11 = .ok (.iconst 1, 1) := by decide +kernel
theorem d_M_isLevel_12 : decode b_M_isLevel 12 = .ok (.goto 4, 3) := by decide +kernel
theorem d_M_isLevel_15 : decode b_M_isLevel 15 = .ok (.iconst 0, 1) := by decide +kernel
theorem d_M_isLevel_16 : decode b_M_isLevel 16 = .ok (.ireturn, 1) := by decide +kernel
theorem d_M_isTime_0 : decode b_M_isTime 0 = .ok (.iload_n 0, 1) := by decide +kernel
theorem d_M_isTime_1 : decode b_M_isTime 1 = .ok (.ifCond .lt 14, 3) := by decide +kernel
theorem d_M_isTime_4 : decode b_M_isTime 4 = .ok (.iload_n 0, 1) := by decide +kernel
theorem d_M_isTime_5 : decode b_M_isTime 5 = .ok (.sipush 10000, 3) := by decide +kernel
theorem d_M_isTime_8 : decode b_M_isTime 8 = .ok (.if_icmp .gt 7, 3) := by decide +kernel
theorem d_M_isTime_11 : decode b_M_isTime 11 = .ok (.iconst 1, 1) := by decide +kernel
theorem d_M_isTime_12 : decode b_M_isTime 12 = .ok (.goto 4, 3) := by decide +kernel
theorem d_M_isTime_15 : decode b_M_isTime 15 = .ok (.iconst 0, 1) := by decide +kernel
theorem d_M_isTime_16 : decode b_M_isTime 16 = .ok (.ireturn, 1) := by decide +kernel
theorem d_M_isPlayback_0 : decode b_M_isPlayback 0 = .ok (.iload_n 0, 1) := by decide +kernel
theorem d_M_isPlayback_1 : decode b_M_isPlayback 1 = .ok (.ifCond .lt 13, 3) := by decide +kernel
theorem d_M_isPlayback_4 : decode b_M_isPlayback 4 = .ok (.iload_n 0, 1) := by decide +kernel
theorem d_M_isPlayback_5 : decode b_M_isPlayback 5 = .ok (.bipush 6, 2) := by decide +kernel
theorem d_M_isPlayback_7 : decode b_M_isPlayback 7 = .ok (.if_icmp .ge 7, 3) := by decide +kernel
theorem d_M_isPlayback_10 : decode b_M_isPlayback 10 = .ok (.iconst 1, 1) := by decide +kernel
theorem d_M_isPlayback_11 : decode b_M_isPlayback 11 = .ok (.goto 4, 3) := by decide +kernel
theorem d_M_isPlayback_14 : decode b_M_isPlayback 14 = .ok (.iconst 0, 1) := by decide +kernel
theorem d_M_isPlayback_15 : decode b_M_isPlayback 15 = .ok (.ireturn, 1) := by decide +kernel
theorem d_M_kind_0 : decode b_M_kind 0 = .ok (.aload_n 0, 1) := by decide +kernel
theorem d_M_kind_1 : decode b_M_kind 1 = .ok (.iconst 0, 1) := by decide +kernel
theorem d_M_kind_2 : decode b_M_kind 2 = .ok (.putfield 75, 3) := by decide +kernel
theorem d_M_kind_5 : decode b_M_kind 5 = .ok (.iload_n 1, 1) := by decide +kernel
theorem d_M_kind_6 : decode b_M_kind 6 = .ok (.invokestatic 79, 3) := by decide +kernel
theorem d_M_kind_9 : decode b_M_kind 9 = .ok (.ifCond .ne 5, 3) := by decide +kernel
theorem d_M_kind_12 : decode b_M_kind 12 = .ok (.iconst 0, 1) := by decide +kernel
theorem d_M_kind_13 : decode b_M_kind 13 = .ok (.ireturn, 1) := by decide +kernel
theorem d_M_kind_14 : decode b_M_kind 14 = .ok (.aload_n 0, 1) := by decide +kernel
theorem d_M_kind_15 : decode b_M_kind 15 = .ok (.getfield 7, 3) := by decide +kernel
theorem d_M_kind_18 : decode b_M_kind 18 = .ok (.iload_n 1, 1) := by decide +kernel
theorem d_M_kind_19 : decode b_M_kind 19 = .ok (.iload_n 2, 1) := by decide +kernel
theorem d_M_kind_20 : decode b_M_kind 20 = .ok (.bastore, 1) := by decide +kernel
theorem d_M_kind_21 : decode b_M_kind 21 = .ok (.iconst 1, 1) := by decide +kernel
theorem d_M_kind_22 : decode b_M_kind 22 = .ok (.ireturn, 1) := by decide +kernel
theorem d_M_set_0 : decode b_M_set 0 = .ok (.aload_n 0, 1) := by decide +kernel
theorem d_M_set_1 : decode b_M_set 1 = .ok (.iconst 0, 1) := by decide +kernel
theorem d_M_set_2 : decode b_M_set 2 = .ok (.putfield 75, 3) := by decide +kernel
theorem d_M_set_5 : decode b_M_set 5 = .ok (.iload_n 1, 1) := by decide +kernel
theorem d_M_set_6 : decode b_M_set 6 = .ok (.invokestatic 79, 3) := by decide +kernel
theorem d_M_set_9 : decode b_M_set 9 = .ok (.ifCond .eq 10, 3) := by decide +kernel
theorem d_M_set_12 : decode b_M_set 12 = .ok (.iload_n 2, 1) := by decide +kernel
theorem d_M_set_13 : decode b_M_set 13 = .ok (.invokestatic 83, 3) := by decide +kernel
theorem d_M_set_16 : decode b_M_set 16 = .ok (.ifCond .ne 5, 3) := by decide +kernel
theorem d_M_set_19 : decode b_M_set 19 = .ok (.iconst 0, 1) := by decide +kernel
theorem d_M_set_20 : decode b_M_set 20 = .ok (.ireturn, 1) := by decide +kernel
theorem d_M_set_21 : decode b_M_set 21 = .ok (.aload_n 0, 1) := by decide +kernel
theorem d_M_set_22 : decode b_M_set 22 = .ok (.getfield 13, 3) := by decide +kernel
theorem d_M_set_25 : decode b_M_set 25 = .ok (.iload_n 1, 1) := by decide +kernel
theorem d_M_set_26 : decode b_M_set 26 = .ok (.iload_n 2, 1) := by decide +kernel
theorem d_M_set_27 : decode b_M_set 27 = .ok (.i2s, 1) := by decide +kernel
theorem d_M_set_28 : decode b_M_set 28 = .ok (.sastore, 1) := by decide +kernel
theorem d_M_set_29 : decode b_M_set 29 = .ok (.iconst 1, 1) := by decide +kernel
theorem d_M_set_30 : decode b_M_set 30 = .ok (.ireturn, 1) := by decide +kernel
theorem d_M_use_0 : decode b_M_use 0 = .ok (.aload_n 0, 1) := by decide +kernel
theorem d_M_use_1 : decode b_M_use 1 = .ok (.iconst 0, 1) := by decide +kernel
theorem d_M_use_2 : decode b_M_use 2 = .ok (.putfield 75, 3) := by decide +kernel
theorem d_M_use_5 : decode b_M_use 5 = .ok (.iload_n 1, 1) := by decide +kernel
theorem d_M_use_6 : decode b_M_use 6 = .ok (.invokestatic 79, 3) := by decide +kernel
theorem d_M_use_9 : decode b_M_use 9 = .ok (.ifCond .eq 13, 3) := by decide +kernel
theorem d_M_use_12 : decode b_M_use 12 = .ok (.iload_n 2, 1) := by decide +kernel
theorem d_M_use_13 : decode b_M_use 13 = .ok (.ifCond .lt 9, 3) := by decide +kernel
theorem d_M_use_16 : decode b_M_use 16 = .ok (.iload_n 2, 1) := by decide +kernel
theorem d_M_use_17 : decode b_M_use 17 = .ok (.bipush 15, 2) := by decide +kernel
theorem d_M_use_19 : decode b_M_use 19 = .ok (.if_icmp .le 5, 3) := by decide +kernel
theorem d_M_use_22 : decode b_M_use 22 = .ok (.iconst 0, 1) := by decide +kernel
theorem d_M_use_23 : decode b_M_use 23 = .ok (.ireturn, 1) := by decide +kernel
theorem d_M_use_24 : decode b_M_use 24 = .ok (.aload_n 0, 1) := by decide +kernel
theorem d_M_use_25 : decode b_M_use 25 = .ok (.getfield 13, 3) := by decide +kernel
theorem d_M_use_28 : decode b_M_use 28 = .ok (.iload_n 1, 1) := by decide +kernel
theorem d_M_use_29 : decode b_M_use 29 = .ok (.sipush 256, 3) := by decide +kernel
theorem d_M_use_32 : decode b_M_use 32 = .ok (.iload_n 2, 1) := by decide +kernel
theorem d_M_use_33 : decode b_M_use 33 = .ok (.iadd, 1) := by decide +kernel
theorem d_M_use_34 : decode b_M_use 34 = .ok (.i2s, 1) := by decide +kernel
theorem d_M_use_35 : decode b_M_use 35 = .ok (.sastore, 1) := by decide +kernel
theorem d_M_use_36 : decode b_M_use 36 = .ok (.iconst 1, 1) := by decide +kernel
theorem d_M_use_37 : decode b_M_use 37 = .ok (.ireturn, 1) := by decide +kernel
theorem d_M_release_0 : decode b_M_release 0 = .ok (.aload_n 0, 1) := by decide +kernel
theorem d_M_release_1 : decode b_M_release 1 = .ok (.iconst 0, 1) := by decide +kernel
theorem d_M_release_2 : decode b_M_release 2 = .ok (.putfield 75, 3) := by decide +kernel
theorem d_M_release_5 : decode b_M_release 5 = .ok (.iconst 0, 1) := by decide +kernel
theorem d_M_release_6 : decode b_M_release 6 = .ok (.istore_n 2, 1) := by decide +kernel
theorem d_M_release_7 : decode b_M_release 7 = .ok (.iconst 0, 1) := by decide +kernel
theorem d_M_release_8 : decode b_M_release 8 = .ok (.istore_n 3, 1) := by decide +kernel
theorem d_M_release_9 : decode b_M_release 9 = .ok (.iload_n 3, 1) := by decide +kernel
theorem d_M_release_10 : decode b_M_release 10 = .ok (.bipush 64, 2) := by decide +kernel
theorem d_M_release_12 : decode b_M_release 12 = .ok (.if_icmp .ge 39, 3) := by decide +kernel
theorem d_M_release_15 : decode b_M_release 15 = .ok (.iload_n 1, 1) := by decide +kernel
theorem d_M_release_16 : decode b_M_release 16 = .ok (.iconst (-1), 1) := by decide +kernel
theorem d_M_release_17 : decode b_M_release 17 = .ok (.if_icmp .eq 8, 3) := by decide +kernel
theorem d_M_release_20 : decode b_M_release 20 = .ok (.iload_n 1, 1) := by decide +kernel
theorem d_M_release_21 : decode b_M_release 21 = .ok (.iload_n 3, 1) := by decide +kernel
theorem d_M_release_22 : decode b_M_release 22 = .ok (.if_icmp .ne 23, 3) := by decide +kernel
theorem d_M_release_25 : decode b_M_release 25 = .ok (.aload_n 0, 1) := by decide +kernel
theorem d_M_release_26 : decode b_M_release 26 = .ok (.getfield 13, 3) := by decide +kernel
theorem d_M_release_29 : decode b_M_release 29 = .ok (.iload_n 3, 1) := by decide +kernel
theorem d_M_release_30 : decode b_M_release 30 = .ok (.saload, 1) := by decide +kernel
theorem d_M_release_31 : decode b_M_release 31 = .ok (.iconst (-1), 1) := by decide +kernel
theorem d_M_release_32 : decode b_M_release 32 = .ok (.if_icmp .eq 13, 3) := by decide +kernel
theorem d_M_release_35 : decode b_M_release 35 = .ok (.aload_n 0, 1) := by decide +kernel
theorem d_M_release_36 : decode b_M_release 36 = .ok (.getfield 13, 3) := by decide +kernel
theorem d_M_release_39 : decode b_M_release 39 = .ok (.iload_n 3, 1) := by decide +kernel
theorem d_M_release_40 : decode b_M_release 40 = .ok (.iconst (-1), 1) := by decide +kernel
theorem d_M_release_41 : decode b_M_release 41 = .ok (.sastore, 1) := by decide +kernel
theorem d_M_release_42 : decode b_M_release 42 = .ok (.iinc 2 1, 3) := by decide +kernel
theorem d_M_release_45 : decode b_M_release 45 = .ok (.iinc 3 1, 3) := by decide +kernel
theorem d_M_release_48 : decode b_M_release 48 = .ok (.goto (-39), 3) := by decide +kernel
theorem d_M_release_51 : decode b_M_release 51 = .ok (.iload_n 2, 1) := by decide +kernel
theorem d_M_release_52 : decode b_M_release 52 = .ok (.ireturn, 1) := by decide +kernel
theorem d_M_palette_0 : decode b_M_palette 0 = .ok (.aload_n 0, 1) := by decide +kernel
theorem d_M_palette_1 : decode b_M_palette 1 = .ok (.iconst 0, 1) := by decide +kernel
theorem d_M_palette_2 : decode b_M_palette 2 = .ok (.putfield 75, 3) := by decide +kernel
theorem d_M_palette_5 : decode b_M_palette 5 = .ok (.iload_n 1, 1) := by decide +kernel
theorem d_M_palette_6 : decode b_M_palette 6 = .ok (.ifCond .lt 28, 3) := by decide +kernel
theorem d_M_palette_9 : decode b_M_palette 9 = .ok (.iload_n 1, 1) := by decide +kernel
theorem d_M_palette_10 : decode b_M_palette 10 = .ok (.bipush 15, 2) := by decide +kernel
theorem d_M_palette_12 : decode b_M_palette 12 = .ok (.if_icmp .gt 22, 3) := by decide +kernel
theorem d_M_palette_15 : decode b_M_palette 15 = .ok (.iload_n 2, 1) := by decide +kernel
theorem d_M_palette_16 : decode b_M_palette 16 = .ok (.invokestatic 79, 3) := by decide +kernel
theorem d_M_palette_19 : decode b_M_palette 19 = .ok (.ifCond .eq 15, 3) := by decide +kernel
theorem d_M_palette_22 : decode b_M_palette 22 = .ok (.iload_n 3, 1) := by decide +kernel
theorem d_M_palette_23 : decode b_M_palette 23 = .ok (.iconst (-1), 1) := by decide +kernel
theorem d_M_palette_24 : decode b_M_palette 24 = .ok (.if_icmp .eq 12, 3) := by decide +kernel
theorem d_M_palette_27 : decode b_M_palette 27 = .ok (.iload_n 3, 1) := by decide +kernel
theorem d_M_palette_28 : decode b_M_palette 28 = .ok (.invokestatic 83, 3) := by decide +kernel
theorem d_M_palette_31 : decode b_M_palette 31 = .ok (.ifCond .ne 5, 3) := by decide +kernel
theorem d_M_palette_34 : decode b_M_palette 34 = .ok (.iconst 0, 1) := by decide +kernel
theorem d_M_palette_35 : decode b_M_palette 35 = .ok (.ireturn, 1) := by decide +kernel
theorem d_M_palette_36 : decode b_M_palette 36 = .ok (.aload_n 0, 1) := by decide +kernel
theorem d_M_palette_37 : decode b_M_palette 37 = .ok (.getfield 17, 3) := by decide +kernel
theorem d_M_palette_40 : decode b_M_palette 40 = .ok (.bipush 64, 2) := by decide +kernel
theorem d_M_palette_42 : decode b_M_palette 42 = .ok (.iload_n 1, 1) := by decide +kernel
theorem d_M_palette_43 : decode b_M_palette 43 = .ok (.imul, 1) := by decide +kernel
theorem d_M_palette_44 : decode b_M_palette 44 = .ok (.iload_n 2, 1) := by decide +kernel
theorem d_M_palette_45 : decode b_M_palette 45 = .ok (.iadd, 1) := by decide +kernel
theorem d_M_palette_46 : decode b_M_palette 46 = .ok (.iload_n 3, 1) := by decide +kernel
theorem d_M_palette_47 : decode b_M_palette 47 = .ok (.i2s, 1) := by decide +kernel
theorem d_M_palette_48 : decode b_M_palette 48 = .ok (.sastore, 1) := by decide +kernel
theorem d_M_palette_49 : decode b_M_palette 49 = .ok (.iconst 1, 1) := by decide +kernel
theorem d_M_palette_50 : decode b_M_palette 50 = .ok (.ireturn, 1) := by decide +kernel
theorem d_M_levelOf_0 : decode b_M_levelOf 0 = .ok (.iload_n 1, 1) := by decide +kernel
theorem d_M_levelOf_1 : decode b_M_levelOf 1 = .ok (.sipush 256, 3) := by decide +kernel
theorem d_M_levelOf_4 : decode b_M_levelOf 4 = .ok (.if_icmp .ge 7, 3) := by decide +kernel
theorem d_M_levelOf_7 : decode b_M_levelOf 7 = .ok (.iload_n 1, 1) := by decide +kernel
theorem d_M_levelOf_8 : decode b_M_levelOf 8 = .ok (.goto 29, 3) := by decide +kernel
theorem d_M_levelOf_11 : decode b_M_levelOf 11 = .ok (.iload_n 1, 1) := by decide +kernel
theorem d_M_levelOf_12 : decode b_M_levelOf 12 = .ok (.sipush 300, 3) := by decide +kernel
theorem d_M_levelOf_15 : decode b_M_levelOf 15 = .ok (.if_icmp .ne 7, 3) := by decide +kernel
theorem d_M_levelOf_18 : decode b_M_levelOf 18 = .ok (.iconst (-1), 1) := by decide +kernel
theorem d_M_levelOf_19 : decode b_M_levelOf 19 = .ok (.goto 18, 3) := by decide +kernel
theorem d_M_levelOf_22 : decode b_M_levelOf 22 = .ok (.aload_n 0, 1) := by decide +kernel
theorem d_M_levelOf_23 : decode b_M_levelOf 23 = .ok (.getfield 17, 3) := by decide +kernel
theorem d_M_levelOf_26 : decode b_M_levelOf 26 = .ok (.bipush 64, 2) := by decide +kernel
theorem d_M_levelOf_28 : decode b_M_levelOf 28 = .ok (.iload_n 1, 1) := by decide +kernel
theorem d_M_levelOf_29 : decode b_M_levelOf 29 = .ok (.sipush 256, 3) := by decide +kernel
theorem d_M_levelOf_32 : decode b_M_levelOf 32 = .ok (.isub, 1) := by decide +kernel
theorem d_M_levelOf_33 : decode b_M_levelOf 33 = .ok (.imul, 1) := by decide +kernel
theorem d_M_levelOf_34 : decode b_M_levelOf 34 = .ok (.iload_n 2, 1) := by decide +kernel
theorem d_M_levelOf_35 : decode b_M_levelOf 35 = .ok (.iadd, 1) := by decide +kernel
theorem d_M_levelOf_36 : decode b_M_levelOf 36 = .ok (.saload, 1) := by decide +kernel
theorem d_M_levelOf_37 : decode b_M_levelOf 37 = .ok (.ireturn, 1) := by decide +kernel
theorem d_M_find_0 : decode b_M_find 0 = .ok (.iconst (-1), 1) := by decide +kernel
theorem d_M_find_1 : decode b_M_find 1 = .ok (.istore_n 3, 1) := by decide +kernel
theorem d_M_find_2 : decode b_M_find 2 = .ok (.iconst 0, 1) := by decide +kernel
theorem d_M_find_3 : decode b_M_find 3 = .ok (.istore 4, 2) := by decide +kernel
theorem d_M_find_5 : decode b_M_find 5 = .ok (.iload 4, 2) := by decide +kernel
theorem d_M_find_7 : decode b_M_find 7 = .ok (.bipush 40, 2) := by decide +kernel
theorem d_M_find_9 : decode b_M_find 9 = .ok (.if_icmp .ge 42, 3) := by decide +kernel
theorem d_M_find_12 : decode b_M_find 12 = .ok (.iload_n 1, 1) := by decide +kernel
theorem d_M_find_13 : decode b_M_find 13 = .ok (.ifCond .lt 30, 3) := by decide +kernel
theorem d_M_find_16 : decode b_M_find 16 = .ok (.aload_n 0, 1) := by decide +kernel
theorem d_M_find_17 : decode b_M_find 17 = .ok (.getfield 20, 3) := by decide +kernel
theorem d_M_find_20 : decode b_M_find 20 = .ok (.iload 4, 2) := by decide +kernel
theorem d_M_find_22 : decode b_M_find 22 = .ok (.iaload, 1) := by decide +kernel
theorem d_M_find_23 : decode b_M_find 23 = .ok (.iload_n 1, 1) := by decide +kernel
theorem d_M_find_24 : decode b_M_find 24 = .ok (.if_icmp .ne 19, 3) := by decide +kernel
theorem d_M_find_27 : decode b_M_find 27 = .ok (.aload_n 0, 1) := by decide +kernel
theorem d_M_find_28 : decode b_M_find 28 = .ok (.getfield 24, 3) := by decide +kernel
theorem d_M_find_31 : decode b_M_find 31 = .ok (.iload 4, 2) := by decide +kernel
theorem d_M_find_33 : decode b_M_find 33 = .ok (.iaload, 1) := by decide +kernel
theorem d_M_find_34 : decode b_M_find 34 = .ok (.iload_n 2, 1) := by decide +kernel
theorem d_M_find_35 : decode b_M_find 35 = .ok (.if_icmp .ne 8, 3) := by decide +kernel
theorem d_M_find_38 : decode b_M_find 38 = .ok (.iload 4, 2) := by decide +kernel
theorem d_M_find_40 : decode b_M_find 40 = .ok (.goto 4, 3) := by decide +kernel
theorem d_M_find_43 : decode b_M_find 43 = .ok (.iload_n 3, 1) := by decide +kernel
theorem d_M_find_44 : decode b_M_find 44 = .ok (.istore_n 3, 1) := by decide +kernel
theorem d_M_find_45 : decode b_M_find 45 = .ok (.iinc 4 1, 3) := by decide +kernel
theorem d_M_find_48 : decode b_M_find 48 = .ok (.goto (-43), 3) := by decide +kernel
theorem d_M_find_51 : decode b_M_find 51 = .ok (.iload_n 3, 1) := by decide +kernel
theorem d_M_find_52 : decode b_M_find 52 = .ok (.ireturn, 1) := by decide +kernel
theorem d_M_above_0 : decode b_M_above 0 = .ok (.iconst (-1), 1) := by decide +kernel
theorem d_M_above_1 : decode b_M_above 1 = .ok (.istore_n 3, 1) := by decide +kernel
theorem d_M_above_2 : decode b_M_above 2 = .ok (.iconst 0, 1) := by decide +kernel
theorem d_M_above_3 : decode b_M_above 3 = .ok (.istore 4, 2) := by decide +kernel
theorem d_M_above_5 : decode b_M_above 5 = .ok (.iload 4, 2) := by decide +kernel
theorem d_M_above_7 : decode b_M_above 7 = .ok (.bipush 40, 2) := by decide +kernel
theorem d_M_above_9 : decode b_M_above 9 = .ok (.if_icmp .ge 54, 3) := by decide +kernel
theorem d_M_above_12 : decode b_M_above 12 = .ok (.aload_n 0, 1) := by decide +kernel
theorem d_M_above_13 : decode b_M_above 13 = .ok (.getfield 20, 3) := by decide +kernel
theorem d_M_above_16 : decode b_M_above 16 = .ok (.iload 4, 2) := by decide +kernel
theorem d_M_above_18 : decode b_M_above 18 = .ok (.iaload, 1) := by decide +kernel
theorem d_M_above_19 : decode b_M_above 19 = .ok (.iload_n 1, 1) := by decide +kernel
theorem d_M_above_20 : decode b_M_above 20 = .ok (.if_icmp .ne 37, 3) := by decide +kernel
theorem d_M_above_23 : decode b_M_above 23 = .ok (.aload_n 0, 1) := by decide +kernel
theorem d_M_above_24 : decode b_M_above 24 = .ok (.getfield 24, 3) := by decide +kernel
theorem d_M_above_27 : decode b_M_above 27 = .ok (.iload 4, 2) := by decide +kernel
theorem d_M_above_29 : decode b_M_above 29 = .ok (.iaload, 1) := by decide +kernel
theorem d_M_above_30 : decode b_M_above 30 = .ok (.iload_n 2, 1) := by decide +kernel
theorem d_M_above_31 : decode b_M_above 31 = .ok (.if_icmp .le 26, 3) := by decide +kernel
theorem d_M_above_34 : decode b_M_above 34 = .ok (.iload_n 3, 1) := by decide +kernel
theorem d_M_above_35 : decode b_M_above 35 = .ok (.ifCond .lt 19, 3) := by decide +kernel
theorem d_M_above_38 : decode b_M_above 38 = .ok (.aload_n 0, 1) := by decide +kernel
theorem d_M_above_39 : decode b_M_above 39 = .ok (.getfield 24, 3) := by decide +kernel
theorem d_M_above_42 : decode b_M_above 42 = .ok (.iload 4, 2) := by decide +kernel
theorem d_M_above_44 : decode b_M_above 44 = .ok (.iaload, 1) := by decide +kernel
theorem d_M_above_45 : decode b_M_above 45 = .ok (.aload_n 0, 1) := by decide +kernel
theorem d_M_above_46 : decode b_M_above 46 = .ok (.getfield 24, 3) := by decide +kernel
theorem d_M_above_49 : decode b_M_above 49 = .ok (.iload_n 3, 1) := by decide +kernel
theorem d_M_above_50 : decode b_M_above 50 = .ok (.iaload, 1) := by decide +kernel
theorem d_M_above_51 : decode b_M_above 51 = .ok (.if_icmp .ge 6, 3) := by decide +kernel
theorem d_M_above_54 : decode b_M_above 54 = .ok (.iload 4, 2) := by decide +kernel
theorem d_M_above_56 : decode b_M_above 56 = .ok (.istore_n 3, 1) := by decide +kernel
theorem d_M_above_57 : decode b_M_above 57 = .ok (.iinc 4 1, 3) := by decide +kernel
theorem d_M_above_60 : decode b_M_above 60 = .ok (.goto (-55), 3) := by decide +kernel
theorem d_M_above_63 : decode b_M_above 63 = .ok (.iload_n 3, 1) := by decide +kernel
theorem d_M_above_64 : decode b_M_above 64 = .ok (.ireturn, 1) := by decide +kernel
theorem d_M_below_0 : decode b_M_below 0 = .ok (.iconst (-1), 1) := by decide +kernel
theorem d_M_below_1 : decode b_M_below 1 = .ok (.istore_n 3, 1) := by decide +kernel
theorem d_M_below_2 : decode b_M_below 2 = .ok (.iconst 0, 1) := by decide +kernel
theorem d_M_below_3 : decode b_M_below 3 = .ok (.istore 4, 2) := by decide +kernel
theorem d_M_below_5 : decode b_M_below 5 = .ok (.iload 4, 2) := by decide +kernel
theorem d_M_below_7 : decode b_M_below 7 = .ok (.bipush 40, 2) := by decide +kernel
theorem d_M_below_9 : decode b_M_below 9 = .ok (.if_icmp .ge 54, 3) := by decide +kernel
theorem d_M_below_12 : decode b_M_below 12 = .ok (.aload_n 0, 1) := by decide +kernel
theorem d_M_below_13 : decode b_M_below 13 = .ok (.getfield 20, 3) := by decide +kernel
theorem d_M_below_16 : decode b_M_below 16 = .ok (.iload 4, 2) := by decide +kernel
theorem d_M_below_18 : decode b_M_below 18 = .ok (.iaload, 1) := by decide +kernel
theorem d_M_below_19 : decode b_M_below 19 = .ok (.iload_n 1, 1) := by decide +kernel
theorem d_M_below_20 : decode b_M_below 20 = .ok (.if_icmp .ne 37, 3) := by decide +kernel
theorem d_M_below_23 : decode b_M_below 23 = .ok (.aload_n 0, 1) := by decide +kernel
theorem d_M_below_24 : decode b_M_below 24 = .ok (.getfield 24, 3) := by decide +kernel
theorem d_M_below_27 : decode b_M_below 27 = .ok (.iload 4, 2) := by decide +kernel
theorem d_M_below_29 : decode b_M_below 29 = .ok (.iaload, 1) := by decide +kernel
theorem d_M_below_30 : decode b_M_below 30 = .ok (.iload_n 2, 1) := by decide +kernel
theorem d_M_below_31 : decode b_M_below 31 = .ok (.if_icmp .ge 26, 3) := by decide +kernel
theorem d_M_below_34 : decode b_M_below 34 = .ok (.iload_n 3, 1) := by decide +kernel
theorem d_M_below_35 : decode b_M_below 35 = .ok (.ifCond .lt 19, 3) := by decide +kernel
theorem d_M_below_38 : decode b_M_below 38 = .ok (.aload_n 0, 1) := by decide +kernel
theorem d_M_below_39 : decode b_M_below 39 = .ok (.getfield 24, 3) := by decide +kernel
theorem d_M_below_42 : decode b_M_below 42 = .ok (.iload 4, 2) := by decide +kernel
theorem d_M_below_44 : decode b_M_below 44 = .ok (.iaload, 1) := by decide +kernel
theorem d_M_below_45 : decode b_M_below 45 = .ok (.aload_n 0, 1) := by decide +kernel
theorem d_M_below_46 : decode b_M_below 46 = .ok (.getfield 24, 3) := by decide +kernel
theorem d_M_below_49 : decode b_M_below 49 = .ok (.iload_n 3, 1) := by decide +kernel
theorem d_M_below_50 : decode b_M_below 50 = .ok (.iaload, 1) := by decide +kernel
theorem d_M_below_51 : decode b_M_below 51 = .ok (.if_icmp .le 6, 3) := by decide +kernel
theorem d_M_below_54 : decode b_M_below 54 = .ok (.iload 4, 2) := by decide +kernel
theorem d_M_below_56 : decode b_M_below 56 = .ok (.istore_n 3, 1) := by decide +kernel
theorem d_M_below_57 : decode b_M_below 57 = .ok (.iinc 4 1, 3) := by decide +kernel
theorem d_M_below_60 : decode b_M_below 60 = .ok (.goto (-55), 3) := by decide +kernel
theorem d_M_below_63 : decode b_M_below 63 = .ok (.iload_n 3, 1) := by decide +kernel
theorem d_M_below_64 : decode b_M_below 64 = .ok (.ireturn, 1) := by decide +kernel
theorem d_M_moveOf_0 : decode b_M_moveOf 0 = .ok (.aload_n 0, 1) := by decide +kernel
theorem d_M_moveOf_1 : decode b_M_moveOf 1 = .ok (.getfield 39, 3) := by decide +kernel
theorem d_M_moveOf_4 : decode b_M_moveOf 4 = .ok (.bipush 64, 2) := by decide +kernel
theorem d_M_moveOf_6 : decode b_M_moveOf 6 = .ok (.iload_n 1, 1) := by decide +kernel
theorem d_M_moveOf_7 : decode b_M_moveOf 7 = .ok (.imul, 1) := by decide +kernel
theorem d_M_moveOf_8 : decode b_M_moveOf 8 = .ok (.iload_n 2, 1) := by decide +kernel
theorem d_M_moveOf_9 : decode b_M_moveOf 9 = .ok (.iadd, 1) := by decide +kernel
theorem d_M_moveOf_10 : decode b_M_moveOf 10 = .ok (.saload, 1) := by decide +kernel
theorem d_M_moveOf_11 : decode b_M_moveOf 11 = .ok (.ireturn, 1) := by decide +kernel
theorem d_M_sourceOf_0 : decode b_M_sourceOf 0 = .ok (.aload_n 0, 1) := by decide +kernel
theorem d_M_sourceOf_1 : decode b_M_sourceOf 1 = .ok (.iload_n 1, 1) := by decide +kernel
theorem d_M_sourceOf_2 : decode b_M_sourceOf 2 = .ok (.iload_n 2, 1) := by decide +kernel
theorem d_M_sourceOf_3 : decode b_M_sourceOf 3 = .ok (.iconst 1, 1) := by decide +kernel
theorem d_M_sourceOf_4 : decode b_M_sourceOf 4 = .ok (.iadd, 1) := by decide +kernel
theorem d_M_sourceOf_5 : decode b_M_sourceOf 5 = .ok (.invokevirtual 86, 3) := by decide +kernel
theorem d_M_sourceOf_8 : decode b_M_sourceOf 8 = .ok (.istore 4, 2) := by decide +kernel
theorem d_M_sourceOf_10 : decode b_M_sourceOf 10 = .ok (.iload 4, 2) := by decide +kernel
theorem d_M_sourceOf_12 : decode b_M_sourceOf 12 = .ok (.ifCond .lt 31, 3) := by decide +kernel
theorem d_M_sourceOf_15 : decode b_M_sourceOf 15 = .ok (.aload_n 0, 1) := by decide +kernel
theorem d_M_sourceOf_16 : decode b_M_sourceOf 16 = .ok (.iload 4, 2) := by decide +kernel
theorem d_M_sourceOf_18 : decode b_M_sourceOf 18 = .ok (.iload_n 3, 1) := by decide +kernel
theorem d_M_sourceOf_19 : decode b_M_sourceOf 19 = .ok (.invokevirtual 90, 3) := by decide +kernel
theorem d_M_sourceOf_22 : decode b_M_sourceOf 22 = .ok (.iconst (-1), 1) := by decide +kernel
theorem d_M_sourceOf_23 : decode b_M_sourceOf 23 = .ok (.if_icmp .ne 20, 3) := by decide +kernel
theorem d_M_sourceOf_26 : decode b_M_sourceOf 26 = .ok (.aload_n 0, 1) := by decide +kernel
theorem d_M_sourceOf_27 : decode b_M_sourceOf 27 = .ok (.iload_n 1, 1) := by decide +kernel
theorem d_M_sourceOf_28 : decode b_M_sourceOf 28 = .ok (.aload_n 0, 1) := by decide +kernel
theorem d_M_sourceOf_29 : decode b_M_sourceOf 29 = .ok (.getfield 24, 3) := by decide +kernel
theorem d_M_sourceOf_32 : decode b_M_sourceOf 32 = .ok (.iload 4, 2) := by decide +kernel
theorem d_M_sourceOf_34 : decode b_M_sourceOf 34 = .ok (.iaload, 1) := by decide +kernel
theorem d_M_sourceOf_35 : decode b_M_sourceOf 35 = .ok (.invokevirtual 86, 3) := by decide +kernel
theorem d_M_sourceOf_38 : decode b_M_sourceOf 38 = .ok (.istore 4, 2) := by decide +kernel
theorem d_M_sourceOf_40 : decode b_M_sourceOf 40 = .ok (.goto (-30), 3) := by decide +kernel
theorem d_M_sourceOf_43 : decode b_M_sourceOf 43 = .ok (.iload 4, 2) := by decide +kernel
theorem d_M_sourceOf_45 : decode b_M_sourceOf 45 = .ok (.ireturn, 1) := by decide +kernel
theorem d_M_tracked_0 : decode b_M_tracked 0 = .ok (.aload_n 0, 1) := by decide +kernel
theorem d_M_tracked_1 : decode b_M_tracked 1 = .ok (.iload_n 1, 1) := by decide +kernel
theorem d_M_tracked_2 : decode b_M_tracked 2 = .ok (.iload_n 2, 1) := by decide +kernel
theorem d_M_tracked_3 : decode b_M_tracked 3 = .ok (.iload_n 3, 1) := by decide +kernel
theorem d_M_tracked_4 : decode b_M_tracked 4 = .ok (.invokevirtual 93, 3) := by decide +kernel
theorem d_M_tracked_7 : decode b_M_tracked 7 = .ok (.istore 4, 2) := by decide +kernel
theorem d_M_tracked_9 : decode b_M_tracked 9 = .ok (.iload 4, 2) := by decide +kernel
theorem d_M_tracked_11 : decode b_M_tracked 11 = .ok (.ifCond .ge 7, 3) := by decide +kernel
theorem d_M_tracked_14 : decode b_M_tracked 14 = .ok (.iconst (-1), 1) := by decide +kernel
theorem d_M_tracked_15 : decode b_M_tracked 15 = .ok (.goto 10, 3) := by decide +kernel
theorem d_M_tracked_18 : decode b_M_tracked 18 = .ok (.aload_n 0, 1) := by decide +kernel
theorem d_M_tracked_19 : decode b_M_tracked 19 = .ok (.iload 4, 2) := by decide +kernel
theorem d_M_tracked_21 : decode b_M_tracked 21 = .ok (.iload_n 3, 1) := by decide +kernel
theorem d_M_tracked_22 : decode b_M_tracked 22 = .ok (.invokevirtual 90, 3) := by decide +kernel
theorem d_M_tracked_25 : decode b_M_tracked 25 = .ok (.ireturn, 1) := by decide +kernel
theorem d_M_movesOf_0 : decode b_M_movesOf 0 = .ok (.iconst 0, 1) := by decide +kernel
theorem d_M_movesOf_1 : decode b_M_movesOf 1 = .ok (.istore_n 2, 1) := by decide +kernel
theorem d_M_movesOf_2 : decode b_M_movesOf 2 = .ok (.iconst 0, 1) := by decide +kernel
theorem d_M_movesOf_3 : decode b_M_movesOf 3 = .ok (.istore_n 3, 1) := by decide +kernel
theorem d_M_movesOf_4 : decode b_M_movesOf 4 = .ok (.iload_n 3, 1) := by decide +kernel
theorem d_M_movesOf_5 : decode b_M_movesOf 5 = .ok (.bipush 64, 2) := by decide +kernel
theorem d_M_movesOf_7 : decode b_M_movesOf 7 = .ok (.if_icmp .ge 27, 3) := by decide +kernel
theorem d_M_movesOf_10 : decode b_M_movesOf 10 = .ok (.iload_n 2, 1) := by decide +kernel
theorem d_M_movesOf_11 : decode b_M_movesOf 11 = .ok (.aload_n 0, 1) := by decide +kernel
theorem d_M_movesOf_12 : decode b_M_movesOf 12 = .ok (.iload_n 1, 1) := by decide +kernel
theorem d_M_movesOf_13 : decode b_M_movesOf 13 = .ok (.iload_n 3, 1) := by decide +kernel
theorem d_M_movesOf_14 : decode b_M_movesOf 14 = .ok (.invokevirtual 90, 3) := by decide +kernel
theorem d_M_movesOf_17 : decode b_M_movesOf 17 = .ok (.iconst (-1), 1) := by decide +kernel
theorem d_M_movesOf_18 : decode b_M_movesOf 18 = .ok (.if_icmp .eq 7, 3) := by decide +kernel
theorem d_M_movesOf_21 : decode b_M_movesOf 21 = .ok (.iconst 1, 1) := by decide +kernel
theorem d_M_movesOf_22 : decode b_M_movesOf 22 = .ok (.goto 4, 3) := by decide +kernel
theorem d_M_movesOf_25 : decode b_M_movesOf 25 = .ok (.iconst 0, 1) := by decide +kernel
theorem d_M_movesOf_26 : decode b_M_movesOf 26 = .ok (.iadd, 1) := by decide +kernel
theorem d_M_movesOf_27 : decode b_M_movesOf 27 = .ok (.istore_n 2, 1) := by decide +kernel
theorem d_M_movesOf_28 : decode b_M_movesOf 28 = .ok (.iinc 3 1, 3) := by decide +kernel
theorem d_M_movesOf_31 : decode b_M_movesOf 31 = .ok (.goto (-27), 3) := by decide +kernel
theorem d_M_movesOf_34 : decode b_M_movesOf 34 = .ok (.iload_n 2, 1) := by decide +kernel
theorem d_M_movesOf_35 : decode b_M_movesOf 35 = .ok (.ireturn, 1) := by decide +kernel
theorem d_M_cueCount_0 : decode b_M_cueCount 0 = .ok (.iconst 0, 1) := by decide +kernel
theorem d_M_cueCount_1 : decode b_M_cueCount 1 = .ok (.istore_n 1, 1) := by decide +kernel
theorem d_M_cueCount_2 : decode b_M_cueCount 2 = .ok (.iconst 0, 1) := by decide +kernel
theorem d_M_cueCount_3 : decode b_M_cueCount 3 = .ok (.istore_n 2, 1) := by decide +kernel
theorem d_M_cueCount_4 : decode b_M_cueCount 4 = .ok (.iload_n 2, 1) := by decide +kernel
theorem d_M_cueCount_5 : decode b_M_cueCount 5 = .ok (.bipush 40, 2) := by decide +kernel
theorem d_M_cueCount_7 : decode b_M_cueCount 7 = .ok (.if_icmp .ge 26, 3) := by decide +kernel
theorem d_M_cueCount_10 : decode b_M_cueCount 10 = .ok (.iload_n 1, 1) := by decide +kernel
theorem d_M_cueCount_11 : decode b_M_cueCount 11 = .ok (.aload_n 0, 1) := by decide +kernel
theorem d_M_cueCount_12 : decode b_M_cueCount 12 = .ok (.getfield 20, 3) := by decide +kernel
theorem d_M_cueCount_15 : decode b_M_cueCount 15 = .ok (.iload_n 2, 1) := by decide +kernel
theorem d_M_cueCount_16 : decode b_M_cueCount 16 = .ok (.iaload, 1) := by decide +kernel
theorem d_M_cueCount_17 : decode b_M_cueCount 17 = .ok (.ifCond .lt 7, 3) := by decide +kernel
theorem d_M_cueCount_20 : decode b_M_cueCount 20 = .ok (.iconst 1, 1) := by decide +kernel
theorem d_M_cueCount_21 : decode b_M_cueCount 21 = .ok (.goto 4, 3) := by decide +kernel
theorem d_M_cueCount_24 : decode b_M_cueCount 24 = .ok (.iconst 0, 1) := by decide +kernel
theorem d_M_cueCount_25 : decode b_M_cueCount 25 = .ok (.iadd, 1) := by decide +kernel
theorem d_M_cueCount_26 : decode b_M_cueCount 26 = .ok (.istore_n 1, 1) := by decide +kernel
theorem d_M_cueCount_27 : decode b_M_cueCount 27 = .ok (.iinc 2 1, 3) := by decide +kernel
theorem d_M_cueCount_30 : decode b_M_cueCount 30 = .ok (.goto (-26), 3) := by decide +kernel
theorem d_M_cueCount_33 : decode b_M_cueCount 33 = .ok (.iload_n 1, 1) := by decide +kernel
theorem d_M_cueCount_34 : decode b_M_cueCount 34 = .ok (.ireturn, 1) := by decide +kernel
theorem d_M_moveCount_0 : decode b_M_moveCount 0 = .ok (.iconst 0, 1) := by decide +kernel
theorem d_M_moveCount_1 : decode b_M_moveCount 1 = .ok (.istore_n 1, 1) := by decide +kernel
theorem d_M_moveCount_2 : decode b_M_moveCount 2 = .ok (.iconst 0, 1) := by decide +kernel
theorem d_M_moveCount_3 : decode b_M_moveCount 3 = .ok (.istore_n 2, 1) := by decide +kernel
theorem d_M_moveCount_4 : decode b_M_moveCount 4 = .ok (.iload_n 2, 1) := by decide +kernel
theorem d_M_moveCount_5 : decode b_M_moveCount 5 = .ok (.bipush 40, 2) := by decide +kernel
theorem d_M_moveCount_7 : decode b_M_moveCount 7 = .ok (.if_icmp .ge 30, 3) := by decide +kernel
theorem d_M_moveCount_10 : decode b_M_moveCount 10 = .ok (.iload_n 1, 1) := by decide +kernel
theorem d_M_moveCount_11 : decode b_M_moveCount 11 = .ok (.aload_n 0, 1) := by decide +kernel
theorem d_M_moveCount_12 : decode b_M_moveCount 12 = .ok (.getfield 20, 3) := by decide +kernel
theorem d_M_moveCount_15 : decode b_M_moveCount 15 = .ok (.iload_n 2, 1) := by decide +kernel
theorem d_M_moveCount_16 : decode b_M_moveCount 16 = .ok (.iaload, 1) := by decide +kernel
theorem d_M_moveCount_17 : decode b_M_moveCount 17 = .ok (.ifCond .lt 11, 3) := by decide +kernel
theorem d_M_moveCount_20 : decode b_M_moveCount 20 = .ok (.aload_n 0, 1) := by decide +kernel
theorem d_M_moveCount_21 : decode b_M_moveCount 21 = .ok (.iload_n 2, 1) := by decide +kernel
theorem d_M_moveCount_22 : decode b_M_moveCount 22 = .ok (.invokevirtual 97, 3) := by decide +kernel
theorem d_M_moveCount_25 : decode b_M_moveCount 25 = .ok (.goto 4, 3) := by decide +kernel
theorem d_M_moveCount_28 : decode b_M_moveCount 28 = .ok (.iconst 0, 1) := by decide +kernel
theorem d_M_moveCount_29 : decode b_M_moveCount 29 = .ok (.iadd, 1) := by decide +kernel
theorem d_M_moveCount_30 : decode b_M_moveCount 30 = .ok (.istore_n 1, 1) := by decide +kernel
theorem d_M_moveCount_31 : decode b_M_moveCount 31 = .ok (.iinc 2 1, 3) := by decide +kernel
theorem d_M_moveCount_34 : decode b_M_moveCount 34 = .ok (.goto (-30), 3) := by decide +kernel
theorem d_M_moveCount_37 : decode b_M_moveCount 37 = .ok (.iload_n 1, 1) := by decide +kernel
theorem d_M_moveCount_38 : decode b_M_moveCount 38 = .ok (.ireturn, 1) := by decide +kernel
theorem d_M_put_0 : decode b_M_put 0 = .ok (.aload_n 0, 1) := by decide +kernel
theorem d_M_put_1 : decode b_M_put 1 = .ok (.getfield 39, 3) := by decide +kernel
theorem d_M_put_4 : decode b_M_put 4 = .ok (.bipush 64, 2) := by decide +kernel
theorem d_M_put_6 : decode b_M_put 6 = .ok (.iload_n 1, 1) := by decide +kernel
theorem d_M_put_7 : decode b_M_put 7 = .ok (.imul, 1) := by decide +kernel
theorem d_M_put_8 : decode b_M_put 8 = .ok (.iload_n 2, 1) := by decide +kernel
theorem d_M_put_9 : decode b_M_put 9 = .ok (.iadd, 1) := by decide +kernel
theorem d_M_put_10 : decode b_M_put 10 = .ok (.iload_n 3, 1) := by decide +kernel
theorem d_M_put_11 : decode b_M_put 11 = .ok (.i2s, 1) := by decide +kernel
theorem d_M_put_12 : decode b_M_put 12 = .ok (.sastore, 1) := by decide +kernel
theorem d_M_put_13 : decode b_M_put 13 = .ok (.return_, 1) := by decide +kernel
theorem d_M_note_0 : decode b_M_note 0 = .ok (.iconst 0, 1) := by decide +kernel
theorem d_M_note_1 : decode b_M_note 1 = .ok (.istore_n 2, 1) := by decide +kernel
theorem d_M_note_2 : decode b_M_note 2 = .ok (.iload_n 2, 1) := by decide +kernel
theorem d_M_note_3 : decode b_M_note 3 = .ok (.bipush 64, 2) := by decide +kernel
theorem d_M_note_5 : decode b_M_note 5 = .ok (.if_icmp .ge 41, 3) := by decide +kernel
theorem d_M_note_8 : decode b_M_note 8 = .ok (.aload_n 0, 1) := by decide +kernel
theorem d_M_note_9 : decode b_M_note 9 = .ok (.getfield 42, 3) := by decide +kernel
theorem d_M_note_12 : decode b_M_note 12 = .ok (.iload_n 2, 1) := by decide +kernel
theorem d_M_note_13 : decode b_M_note 13 = .ok (.iload_n 1, 1) := by decide +kernel
theorem d_M_note_14 : decode b_M_note 14 = .ok (.ifCond .ge 7, 3) := by decide +kernel
theorem d_M_note_17 : decode b_M_note 17 = .ok (.iconst (-1), 1) := by decide +kernel
theorem d_M_note_18 : decode b_M_note 18 = .ok (.goto 20, 3) := by decide +kernel
theorem d_M_note_21 : decode b_M_note 21 = .ok (.aload_n 0, 1) := by decide +kernel
theorem d_M_note_22 : decode b_M_note 22 = .ok (.aload_n 0, 1) := by decide +kernel
theorem d_M_note_23 : decode b_M_note 23 = .ok (.getfield 20, 3) := by decide +kernel
theorem d_M_note_26 : decode b_M_note 26 = .ok (.iload_n 1, 1) := by decide +kernel
theorem d_M_note_27 : decode b_M_note 27 = .ok (.iaload, 1) := by decide +kernel
theorem d_M_note_28 : decode b_M_note 28 = .ok (.aload_n 0, 1) := by decide +kernel
theorem d_M_note_29 : decode b_M_note 29 = .ok (.getfield 24, 3) := by decide +kernel
theorem d_M_note_32 : decode b_M_note 32 = .ok (.iload_n 1, 1) := by decide +kernel
theorem d_M_note_33 : decode b_M_note 33 = .ok (.iaload, 1) := by decide +kernel
theorem d_M_note_34 : decode b_M_note 34 = .ok (.iload_n 2, 1) := by decide +kernel
theorem d_M_note_35 : decode b_M_note 35 = .ok (.invokevirtual 101, 3) := by decide +kernel
theorem d_M_note_38 : decode b_M_note 38 = .ok (.i2s, 1) := by decide +kernel
theorem d_M_note_39 : decode b_M_note 39 = .ok (.sastore, 1) := by decide +kernel
theorem d_M_note_40 : decode b_M_note 40 = .ok (.iinc 2 1, 3) := by decide +kernel
theorem d_M_note_43 : decode b_M_note 43 = .ok (.goto (-41), 3) := by decide +kernel
theorem d_M_note_46 : decode b_M_note 46 = .ok (.return_, 1) := by decide +kernel
theorem d_M_keep_0 : decode b_M_keep 0 = .ok (.aload_n 0, 1) := by decide +kernel
theorem d_M_keep_1 : decode b_M_keep 1 = .ok (.iload_n 1, 1) := by decide +kernel
theorem d_M_keep_2 : decode b_M_keep 2 = .ok (.iload_n 2, 1) := by decide +kernel
theorem d_M_keep_3 : decode b_M_keep 3 = .ok (.invokevirtual 90, 3) := by decide +kernel
theorem d_M_keep_6 : decode b_M_keep 6 = .ok (.iconst (-1), 1) := by decide +kernel
theorem d_M_keep_7 : decode b_M_keep 7 = .ok (.if_icmp .ne 31, 3) := by decide +kernel
theorem d_M_keep_10 : decode b_M_keep 10 = .ok (.aload_n 0, 1) := by decide +kernel
theorem d_M_keep_11 : decode b_M_keep 11 = .ok (.iload_n 1, 1) := by decide +kernel
theorem d_M_keep_12 : decode b_M_keep 12 = .ok (.iload_n 2, 1) := by decide +kernel
theorem d_M_keep_13 : decode b_M_keep 13 = .ok (.aload_n 0, 1) := by decide +kernel
theorem d_M_keep_14 : decode b_M_keep 14 = .ok (.getfield 42, 3) := by decide +kernel
theorem d_M_keep_17 : decode b_M_keep 17 = .ok (.iload_n 2, 1) := by decide +kernel
theorem d_M_keep_18 : decode b_M_keep 18 = .ok (.saload, 1) := by decide +kernel
theorem d_M_keep_19 : decode b_M_keep 19 = .ok (.iconst (-1), 1) := by decide +kernel
theorem d_M_keep_20 : decode b_M_keep 20 = .ok (.if_icmp .ne 9, 3) := by decide +kernel
theorem d_M_keep_23 : decode b_M_keep 23 = .ok (.sipush 300, 3) := by decide +kernel
theorem d_M_keep_26 : decode b_M_keep 26 = .ok (.goto 9, 3) := by decide +kernel
theorem d_M_keep_29 : decode b_M_keep 29 = .ok (.aload_n 0, 1) := by decide +kernel
theorem d_M_keep_30 : decode b_M_keep 30 = .ok (.getfield 42, 3) := by decide +kernel
theorem d_M_keep_33 : decode b_M_keep 33 = .ok (.iload_n 2, 1) := by decide +kernel
theorem d_M_keep_34 : decode b_M_keep 34 = .ok (.saload, 1) := by decide +kernel
theorem d_M_keep_35 : decode b_M_keep 35 = .ok (.invokevirtual 104, 3) := by decide +kernel
theorem d_M_keep_38 : decode b_M_keep 38 = .ok (.return_, 1) := by decide +kernel
theorem d_M_keptMoves_0 : decode b_M_keptMoves 0 = .ok (.iconst 0, 1) := by decide +kernel
theorem d_M_keptMoves_1 : decode b_M_keptMoves 1 = .ok (.istore_n 2, 1) := by decide +kernel
theorem d_M_keptMoves_2 : decode b_M_keptMoves 2 = .ok (.iconst 0, 1) := by decide +kernel
theorem d_M_keptMoves_3 : decode b_M_keptMoves 3 = .ok (.istore_n 3, 1) := by decide +kernel
theorem d_M_keptMoves_4 : decode b_M_keptMoves 4 = .ok (.iload_n 3, 1) := by decide +kernel
theorem d_M_keptMoves_5 : decode b_M_keptMoves 5 = .ok (.bipush 64, 2) := by decide +kernel
theorem d_M_keptMoves_7 : decode b_M_keptMoves 7 = .ok (.if_icmp .ge 41, 3) := by decide +kernel
theorem d_M_keptMoves_10 : decode b_M_keptMoves 10 = .ok (.iload_n 1, 1) := by decide +kernel
theorem d_M_keptMoves_11 : decode b_M_keptMoves 11 = .ok (.ifCond .lt 37, 3) := by decide +kernel
theorem d_M_keptMoves_14 : decode b_M_keptMoves 14 = .ok (.iload_n 2, 1) := by decide +kernel
theorem d_M_keptMoves_15 : decode b_M_keptMoves 15 = .ok (.aload_n 0, 1) := by decide +kernel
theorem d_M_keptMoves_16 : decode b_M_keptMoves 16 = .ok (.getfield 13, 3) := by decide +kernel
theorem d_M_keptMoves_19 : decode b_M_keptMoves 19 = .ok (.iload_n 3, 1) := by decide +kernel
theorem d_M_keptMoves_20 : decode b_M_keptMoves 20 = .ok (.saload, 1) := by decide +kernel
theorem d_M_keptMoves_21 : decode b_M_keptMoves 21 = .ok (.iconst (-1), 1) := by decide +kernel
theorem d_M_keptMoves_22 : decode b_M_keptMoves 22 = .ok (.if_icmp .eq 17, 3) := by decide +kernel
theorem d_M_keptMoves_25 : decode b_M_keptMoves 25 = .ok (.aload_n 0, 1) := by decide +kernel
theorem d_M_keptMoves_26 : decode b_M_keptMoves 26 = .ok (.iload_n 1, 1) := by decide +kernel
theorem d_M_keptMoves_27 : decode b_M_keptMoves 27 = .ok (.iload_n 3, 1) := by decide +kernel
theorem d_M_keptMoves_28 : decode b_M_keptMoves 28 = .ok (.invokevirtual 90, 3) := by decide +kernel
theorem d_M_keptMoves_31 : decode b_M_keptMoves 31 = .ok (.iconst (-1), 1) := by decide +kernel
theorem d_M_keptMoves_32 : decode b_M_keptMoves 32 = .ok (.if_icmp .ne 7, 3) := by decide +kernel
theorem d_M_keptMoves_35 : decode b_M_keptMoves 35 = .ok (.iconst 1, 1) := by decide +kernel
theorem d_M_keptMoves_36 : decode b_M_keptMoves 36 = .ok (.goto 4, 3) := by decide +kernel
theorem d_M_keptMoves_39 : decode b_M_keptMoves 39 = .ok (.iconst 0, 1) := by decide +kernel
theorem d_M_keptMoves_40 : decode b_M_keptMoves 40 = .ok (.iadd, 1) := by decide +kernel
theorem d_M_keptMoves_41 : decode b_M_keptMoves 41 = .ok (.istore_n 2, 1) := by decide +kernel
theorem d_M_keptMoves_42 : decode b_M_keptMoves 42 = .ok (.iinc 3 1, 3) := by decide +kernel
theorem d_M_keptMoves_45 : decode b_M_keptMoves 45 = .ok (.goto (-41), 3) := by decide +kernel
theorem d_M_keptMoves_48 : decode b_M_keptMoves 48 = .ok (.iload_n 2, 1) := by decide +kernel
theorem d_M_keptMoves_49 : decode b_M_keptMoves 49 = .ok (.ireturn, 1) := by decide +kernel
theorem d_M_make_0 : decode b_M_make 0 = .ok (.iconst 0, 1) := by decide +kernel
theorem d_M_make_1 : decode b_M_make 1 = .ok (.istore_n 3, 1) := by decide +kernel
theorem d_M_make_2 : decode b_M_make 2 = .ok (.aload_n 0, 1) := by decide +kernel
theorem d_M_make_3 : decode b_M_make 3 = .ok (.getfield 20, 3) := by decide +kernel
theorem d_M_make_6 : decode b_M_make 6 = .ok (.iload_n 3, 1) := by decide +kernel
theorem d_M_make_7 : decode b_M_make 7 = .ok (.iaload, 1) := by decide +kernel
theorem d_M_make_8 : decode b_M_make 8 = .ok (.ifCond .lt 9, 3) := by decide +kernel
theorem d_M_make_11 : decode b_M_make 11 = .ok (.iinc 3 1, 3) := by decide +kernel
theorem d_M_make_14 : decode b_M_make 14 = .ok (.goto (-12), 3) := by decide +kernel
theorem d_M_make_17 : decode b_M_make 17 = .ok (.aload_n 0, 1) := by decide +kernel
theorem d_M_make_18 : decode b_M_make 18 = .ok (.getfield 20, 3) := by decide +kernel
theorem d_M_make_21 : decode b_M_make 21 = .ok (.iload_n 3, 1) := by decide +kernel
theorem d_M_make_22 : decode b_M_make 22 = .ok (.iload_n 1, 1) := by decide +kernel
theorem d_M_make_23 : decode b_M_make 23 = .ok (.iastore, 1) := by decide +kernel
theorem d_M_make_24 : decode b_M_make 24 = .ok (.aload_n 0, 1) := by decide +kernel
theorem d_M_make_25 : decode b_M_make 25 = .ok (.getfield 24, 3) := by decide +kernel
theorem d_M_make_28 : decode b_M_make 28 = .ok (.iload_n 3, 1) := by decide +kernel
theorem d_M_make_29 : decode b_M_make 29 = .ok (.iload_n 2, 1) := by decide +kernel
theorem d_M_make_30 : decode b_M_make 30 = .ok (.iastore, 1) := by decide +kernel
theorem d_M_make_31 : decode b_M_make 31 = .ok (.aload_n 0, 1) := by decide +kernel
theorem d_M_make_32 : decode b_M_make 32 = .ok (.getfield 27, 3) := by decide +kernel
theorem d_M_make_35 : decode b_M_make 35 = .ok (.iload_n 3, 1) := by decide +kernel
theorem d_M_make_36 : decode b_M_make 36 = .ok (.iconst 0, 1) := by decide +kernel
theorem d_M_make_37 : decode b_M_make 37 = .ok (.iastore, 1) := by decide +kernel
theorem d_M_make_38 : decode b_M_make 38 = .ok (.aload_n 0, 1) := by decide +kernel
theorem d_M_make_39 : decode b_M_make 39 = .ok (.getfield 30, 3) := by decide +kernel
theorem d_M_make_42 : decode b_M_make 42 = .ok (.iload_n 3, 1) := by decide +kernel
theorem d_M_make_43 : decode b_M_make 43 = .ok (.iconst 0, 1) := by decide +kernel
theorem d_M_make_44 : decode b_M_make 44 = .ok (.iastore, 1) := by decide +kernel
theorem d_M_make_45 : decode b_M_make 45 = .ok (.aload_n 0, 1) := by decide +kernel
theorem d_M_make_46 : decode b_M_make 46 = .ok (.getfield 33, 3) := by decide +kernel
theorem d_M_make_49 : decode b_M_make 49 = .ok (.iload_n 3, 1) := by decide +kernel
theorem d_M_make_50 : decode b_M_make 50 = .ok (.iconst 0, 1) := by decide +kernel
theorem d_M_make_51 : decode b_M_make 51 = .ok (.iastore, 1) := by decide +kernel
theorem d_M_make_52 : decode b_M_make 52 = .ok (.aload_n 0, 1) := by decide +kernel
theorem d_M_make_53 : decode b_M_make 53 = .ok (.getfield 36, 3) := by decide +kernel
theorem d_M_make_56 : decode b_M_make 56 = .ok (.iload_n 3, 1) := by decide +kernel
theorem d_M_make_57 : decode b_M_make 57 = .ok (.iconst (-1), 1) := by decide +kernel
theorem d_M_make_58 : decode b_M_make 58 = .ok (.iastore, 1) := by decide +kernel
theorem d_M_make_59 : decode b_M_make 59 = .ok (.iconst 0, 1) := by decide +kernel
theorem d_M_make_60 : decode b_M_make 60 = .ok (.istore 4, 2) := by decide +kernel
theorem d_M_make_62 : decode b_M_make 62 = .ok (.iload 4, 2) := by decide +kernel
theorem d_M_make_64 : decode b_M_make 64 = .ok (.bipush 64, 2) := by decide +kernel
theorem d_M_make_66 : decode b_M_make 66 = .ok (.if_icmp .ge 17, 3) := by decide +kernel
theorem d_M_make_69 : decode b_M_make 69 = .ok (.aload_n 0, 1) := by decide +kernel
theorem d_M_make_70 : decode b_M_make 70 = .ok (.iload_n 3, 1) := by decide +kernel
theorem d_M_make_71 : decode b_M_make 71 = .ok (.iload 4, 2) := by decide +kernel
theorem d_M_make_73 : decode b_M_make 73 = .ok (.iconst (-1), 1) := by decide +kernel
theorem d_M_make_74 : decode b_M_make 74 = .ok (.invokevirtual 104, 3) := by decide +kernel
theorem d_M_make_77 : decode b_M_make 77 = .ok (.iinc 4 1, 3) := by decide +kernel
theorem d_M_make_80 : decode b_M_make 80 = .ok (.goto (-18), 3) := by decide +kernel
theorem d_M_make_83 : decode b_M_make 83 = .ok (.iload_n 3, 1) := by decide +kernel
theorem d_M_make_84 : decode b_M_make 84 = .ok (.ireturn, 1) := by decide +kernel
theorem d_M_record_0 : decode b_M_record 0 = .ok (.aload_n 0, 1) := by decide +kernel
theorem d_M_record_1 : decode b_M_record 1 = .ok (.iload_n 1, 1) := by decide +kernel
theorem d_M_record_2 : decode b_M_record 2 = .ok (.ifCond .lt 23, 3) := by decide +kernel
theorem d_M_record_5 : decode b_M_record 5 = .ok (.iload_n 1, 1) := by decide +kernel
theorem d_M_record_6 : decode b_M_record 6 = .ok (.iconst 4, 1) := by decide +kernel
theorem d_M_record_7 : decode b_M_record 7 = .ok (.if_icmp .ge 18, 3) := by decide +kernel
theorem d_M_record_10 : decode b_M_record 10 = .ok (.iload_n 2, 1) := by decide +kernel
theorem d_M_record_11 : decode b_M_record 11 = .ok (.ifCond .le 14, 3) := by decide +kernel
theorem d_M_record_14 : decode b_M_record 14 = .ok (.iload_n 2, 1) := by decide +kernel
theorem d_M_record_15 : decode b_M_record 15 = .ok (.sipush 10000, 3) := by decide +kernel
theorem d_M_record_18 : decode b_M_record 18 = .ok (.if_icmp .ge 7, 3) := by decide +kernel
theorem d_M_record_21 : decode b_M_record 21 = .ok (.iconst 0, 1) := by decide +kernel
theorem d_M_record_22 : decode b_M_record 22 = .ok (.goto 4, 3) := by decide +kernel
theorem d_M_record_25 : decode b_M_record 25 = .ok (.iconst 1, 1) := by decide +kernel
theorem d_M_record_26 : decode b_M_record 26 = .ok (.putfield 75, 3) := by decide +kernel
theorem d_M_record_29 : decode b_M_record 29 = .ok (.aload_n 0, 1) := by decide +kernel
theorem d_M_record_30 : decode b_M_record 30 = .ok (.getfield 75, 3) := by decide +kernel
theorem d_M_record_33 : decode b_M_record 33 = .ok (.ifCond .le 5, 3) := by decide +kernel
theorem d_M_record_36 : decode b_M_record 36 = .ok (.iconst 0, 1) := by decide +kernel
theorem d_M_record_37 : decode b_M_record 37 = .ok (.ireturn, 1) := by decide +kernel
theorem d_M_record_38 : decode b_M_record 38 = .ok (.aload_n 0, 1) := by decide +kernel
theorem d_M_record_39 : decode b_M_record 39 = .ok (.iload_n 1, 1) := by decide +kernel
theorem d_M_record_40 : decode b_M_record 40 = .ok (.iload_n 2, 1) := by decide +kernel
theorem d_M_record_41 : decode b_M_record 41 = .ok (.invokevirtual 108, 3) := by decide +kernel
theorem d_M_record_44 : decode b_M_record 44 = .ok (.istore 4, 2) := by decide +kernel
theorem d_M_record_46 : decode b_M_record 46 = .ok (.iload_n 3, 1) := by decide +kernel
theorem d_M_record_47 : decode b_M_record 47 = .ok (.ifCond .eq 12, 3) := by decide +kernel
theorem d_M_record_50 : decode b_M_record 50 = .ok (.aload_n 0, 1) := by decide +kernel
theorem d_M_record_51 : decode b_M_record 51 = .ok (.iload_n 1, 1) := by decide +kernel
theorem d_M_record_52 : decode b_M_record 52 = .ok (.iload_n 2, 1) := by decide +kernel
theorem d_M_record_53 : decode b_M_record 53 = .ok (.invokevirtual 111, 3) := by decide +kernel
theorem d_M_record_56 : decode b_M_record 56 = .ok (.goto 4, 3) := by decide +kernel
theorem d_M_record_59 : decode b_M_record 59 = .ok (.iconst (-1), 1) := by decide +kernel
theorem d_M_record_60 : decode b_M_record 60 = .ok (.istore 5, 2) := by decide +kernel
theorem d_M_record_62 : decode b_M_record 62 = .ok (.iconst 0, 1) := by decide +kernel
theorem d_M_record_63 : decode b_M_record 63 = .ok (.istore 6, 2) := by decide +kernel
theorem d_M_record_65 : decode b_M_record 65 = .ok (.iconst 0, 1) := by decide +kernel
theorem d_M_record_66 : decode b_M_record 66 = .ok (.istore 7, 2) := by decide +kernel
theorem d_M_record_68 : decode b_M_record 68 = .ok (.iload 7, 2) := by decide +kernel
theorem d_M_record_70 : decode b_M_record 70 = .ok (.bipush 64, 2) := by decide +kernel
theorem d_M_record_72 : decode b_M_record 72 = .ok (.if_icmp .ge 47, 3) := by decide +kernel
theorem d_M_record_75 : decode b_M_record 75 = .ok (.iload 6, 2) := by decide +kernel
theorem d_M_record_77 : decode b_M_record 77 = .ok (.aload_n 0, 1) := by decide +kernel
theorem d_M_record_78 : decode b_M_record 78 = .ok (.getfield 13, 3) := by decide +kernel
theorem d_M_record_81 : decode b_M_record 81 = .ok (.iload 7, 2) := by decide +kernel
theorem d_M_record_83 : decode b_M_record 83 = .ok (.saload, 1) := by decide +kernel
theorem d_M_record_84 : decode b_M_record 84 = .ok (.iconst (-1), 1) := by decide +kernel
theorem d_M_record_85 : decode b_M_record 85 = .ok (.if_icmp .eq 24, 3) := by decide +kernel
theorem d_M_record_88 : decode b_M_record 88 = .ok (.iload 4, 2) := by decide +kernel
theorem d_M_record_90 : decode b_M_record 90 = .ok (.ifCond .lt 15, 3) := by decide +kernel
theorem d_M_record_93 : decode b_M_record 93 = .ok (.aload_n 0, 1) := by decide +kernel
theorem d_M_record_94 : decode b_M_record 94 = .ok (.iload 4, 2) := by decide +kernel
theorem d_M_record_96 : decode b_M_record 96 = .ok (.iload 7, 2) := by decide +kernel
theorem d_M_record_98 : decode b_M_record 98 = .ok (.invokevirtual 90, 3) := by decide +kernel
theorem d_M_record_101 : decode b_M_record 101 = .ok (.iconst (-1), 1) := by decide +kernel
theorem d_M_record_102 : decode b_M_record 102 = .ok (.if_icmp .ne 7, 3) := by decide +kernel
theorem d_M_record_105 : decode b_M_record 105 = .ok (.iconst 1, 1) := by decide +kernel
theorem d_M_record_106 : decode b_M_record 106 = .ok (.goto 4, 3) := by decide +kernel
theorem d_M_record_109 : decode b_M_record 109 = .ok (.iconst 0, 1) := by decide +kernel
theorem d_M_record_110 : decode b_M_record 110 = .ok (.iadd, 1) := by decide +kernel
theorem d_M_record_111 : decode b_M_record 111 = .ok (.istore 6, 2) := by decide +kernel
theorem d_M_record_113 : decode b_M_record 113 = .ok (.iinc 7 1, 3) := by decide +kernel
theorem d_M_record_116 : decode b_M_record 116 = .ok (.goto (-48), 3) := by decide +kernel
theorem d_M_record_119 : decode b_M_record 119 = .ok (.aload_n 0, 1) := by decide +kernel
theorem d_M_record_120 : decode b_M_record 120 = .ok (.iload 4, 2) := by decide +kernel
theorem d_M_record_122 : decode b_M_record 122 = .ok (.ifCond .ge 12, 3) := by decide +kernel
theorem d_M_record_125 : decode b_M_record 125 = .ok (.aload_n 0, 1) := by decide +kernel
theorem d_M_record_126 : decode b_M_record 126 = .ok (.invokevirtual 114, 3) := by decide +kernel
theorem d_M_record_129 : decode b_M_record 129 = .ok (.bipush 40, 2) := by decide +kernel
theorem d_M_record_131 : decode b_M_record 131 = .ok (.if_icmp .eq 23, 3) := by decide +kernel
theorem d_M_record_134 : decode b_M_record 134 = .ok (.aload_n 0, 1) := by decide +kernel
theorem d_M_record_135 : decode b_M_record 135 = .ok (.invokevirtual 118, 3) := by decide +kernel
theorem d_M_record_138 : decode b_M_record 138 = .ok (.iload 6, 2) := by decide +kernel
theorem d_M_record_140 : decode b_M_record 140 = .ok (.iadd, 1) := by decide +kernel
theorem d_M_record_141 : decode b_M_record 141 = .ok (.aload_n 0, 1) := by decide +kernel
theorem d_M_record_142 : decode b_M_record 142 = .ok (.iload 5, 2) := by decide +kernel
theorem d_M_record_144 : decode b_M_record 144 = .ok (.invokevirtual 121, 3) := by decide +kernel
theorem d_M_record_147 : decode b_M_record 147 = .ok (.iadd, 1) := by decide +kernel
theorem d_M_record_148 : decode b_M_record 148 = .ok (.sipush 600, 3) := by decide +kernel
theorem d_M_record_151 : decode b_M_record 151 = .ok (.if_icmp .le 7, 3) := by decide +kernel
theorem d_M_record_154 : decode b_M_record 154 = .ok (.iconst 2, 1) := by decide +kernel
theorem d_M_record_155 : decode b_M_record 155 = .ok (.goto 4, 3) := by decide +kernel
theorem d_M_record_158 : decode b_M_record 158 = .ok (.iconst 0, 1) := by decide +kernel
theorem d_M_record_159 : decode b_M_record 159 = .ok (.putfield 75, 3) := by decide +kernel
theorem d_M_record_162 : decode b_M_record 162 = .ok (.aload_n 0, 1) := by decide +kernel
theorem d_M_record_163 : decode b_M_record 163 = .ok (.getfield 75, 3) := by decide +kernel
theorem d_M_record_166 : decode b_M_record 166 = .ok (.ifCond .le 5, 3) := by decide +kernel
theorem d_M_record_169 : decode b_M_record 169 = .ok (.iconst 0, 1) := by decide +kernel
theorem d_M_record_170 : decode b_M_record 170 = .ok (.ireturn, 1) := by decide +kernel
theorem d_M_record_171 : decode b_M_record 171 = .ok (.aload_n 0, 1) := by decide +kernel
theorem d_M_record_172 : decode b_M_record 172 = .ok (.iload 5, 2) := by decide +kernel
theorem d_M_record_174 : decode b_M_record 174 = .ok (.invokevirtual 124, 3) := by decide +kernel
theorem d_M_record_177 : decode b_M_record 177 = .ok (.iload 4, 2) := by decide +kernel
theorem d_M_record_179 : decode b_M_record 179 = .ok (.ifCond .ge 12, 3) := by decide +kernel
theorem d_M_record_182 : decode b_M_record 182 = .ok (.aload_n 0, 1) := by decide +kernel
theorem d_M_record_183 : decode b_M_record 183 = .ok (.iload_n 1, 1) := by decide +kernel
theorem d_M_record_184 : decode b_M_record 184 = .ok (.iload_n 2, 1) := by decide +kernel
theorem d_M_record_185 : decode b_M_record 185 = .ok (.invokevirtual 128, 3) := by decide +kernel
theorem d_M_record_188 : decode b_M_record 188 = .ok (.goto 5, 3) := by decide +kernel
theorem d_M_record_191 : decode b_M_record 191 = .ok (.iload 4, 2) := by decide +kernel
theorem d_M_record_193 : decode b_M_record 193 = .ok (.istore 4, 2) := by decide +kernel
theorem d_M_record_195 : decode b_M_record 195 = .ok (.iconst 0, 1) := by decide +kernel
theorem d_M_record_196 : decode b_M_record 196 = .ok (.istore 7, 2) := by decide +kernel
theorem d_M_record_198 : decode b_M_record 198 = .ok (.iload 7, 2) := by decide +kernel
theorem d_M_record_200 : decode b_M_record 200 = .ok (.bipush 64, 2) := by decide +kernel
theorem d_M_record_202 : decode b_M_record 202 = .ok (.if_icmp .ge 48, 3) := by decide +kernel
theorem d_M_record_205 : decode b_M_record 205 = .ok (.aload_n 0, 1) := by decide +kernel
theorem d_M_record_206 : decode b_M_record 206 = .ok (.getfield 13, 3) := by decide +kernel
theorem d_M_record_209 : decode b_M_record 209 = .ok (.iload 7, 2) := by decide +kernel
theorem d_M_record_211 : decode b_M_record 211 = .ok (.saload, 1) := by decide +kernel
theorem d_M_record_212 : decode b_M_record 212 = .ok (.iconst (-1), 1) := by decide +kernel
theorem d_M_record_213 : decode b_M_record 213 = .ok (.if_icmp .eq 31, 3) := by decide +kernel
theorem d_M_record_216 : decode b_M_record 216 = .ok (.aload_n 0, 1) := by decide +kernel
theorem d_M_record_217 : decode b_M_record 217 = .ok (.iload 4, 2) := by decide +kernel
theorem d_M_record_219 : decode b_M_record 219 = .ok (.iload 7, 2) := by decide +kernel
theorem d_M_record_221 : decode b_M_record 221 = .ok (.aload_n 0, 1) := by decide +kernel
theorem d_M_record_222 : decode b_M_record 222 = .ok (.getfield 13, 3) := by decide +kernel
theorem d_M_record_225 : decode b_M_record 225 = .ok (.iload 7, 2) := by decide +kernel
theorem d_M_record_227 : decode b_M_record 227 = .ok (.saload, 1) := by decide +kernel
theorem d_M_record_228 : decode b_M_record 228 = .ok (.invokevirtual 104, 3) := by decide +kernel
theorem d_M_record_231 : decode b_M_record 231 = .ok (.iload 5, 2) := by decide +kernel
theorem d_M_record_233 : decode b_M_record 233 = .ok (.ifCond .lt 11, 3) := by decide +kernel
theorem d_M_record_236 : decode b_M_record 236 = .ok (.aload_n 0, 1) := by decide +kernel
theorem d_M_record_237 : decode b_M_record 237 = .ok (.iload 5, 2) := by decide +kernel
theorem d_M_record_239 : decode b_M_record 239 = .ok (.iload 7, 2) := by decide +kernel
theorem d_M_record_241 : decode b_M_record 241 = .ok (.invokevirtual 131, 3) := by decide +kernel
theorem d_M_record_244 : decode b_M_record 244 = .ok (.iinc 7 1, 3) := by decide +kernel
theorem d_M_record_247 : decode b_M_record 247 = .ok (.goto (-49), 3) := by decide +kernel
theorem d_M_record_250 : decode b_M_record 250 = .ok (.aload_n 0, 1) := by decide +kernel
theorem d_M_record_251 : decode b_M_record 251 = .ok (.iload 4, 2) := by decide +kernel
theorem d_M_record_253 : decode b_M_record 253 = .ok (.invokevirtual 97, 3) := by decide +kernel
theorem d_M_record_256 : decode b_M_record 256 = .ok (.ireturn, 1) := by decide +kernel
theorem d_M_has_0 : decode b_M_has 0 = .ok (.aload_n 0, 1) := by decide +kernel
theorem d_M_has_1 : decode b_M_has 1 = .ok (.aload_n 0, 1) := by decide +kernel
theorem d_M_has_2 : decode b_M_has 2 = .ok (.iload_n 1, 1) := by decide +kernel
theorem d_M_has_3 : decode b_M_has 3 = .ok (.iload_n 2, 1) := by decide +kernel
theorem d_M_has_4 : decode b_M_has 4 = .ok (.invokevirtual 108, 3) := by decide +kernel
theorem d_M_has_7 : decode b_M_has 7 = .ok (.ifCond .ge 7, 3) := by decide +kernel
theorem d_M_has_10 : decode b_M_has 10 = .ok (.iconst 1, 1) := by decide +kernel
theorem d_M_has_11 : decode b_M_has 11 = .ok (.goto 4, 3) := by decide +kernel
theorem d_M_has_14 : decode b_M_has 14 = .ok (.iconst 0, 1) := by decide +kernel
theorem d_M_has_15 : decode b_M_has 15 = .ok (.putfield 75, 3) := by decide +kernel
theorem d_M_has_18 : decode b_M_has 18 = .ok (.aload_n 0, 1) := by decide +kernel
theorem d_M_has_19 : decode b_M_has 19 = .ok (.getfield 75, 3) := by decide +kernel
theorem d_M_has_22 : decode b_M_has 22 = .ok (.ifCond .ne 7, 3) := by decide +kernel
theorem d_M_has_25 : decode b_M_has 25 = .ok (.iconst 1, 1) := by decide +kernel
theorem d_M_has_26 : decode b_M_has 26 = .ok (.goto 4, 3) := by decide +kernel
theorem d_M_has_29 : decode b_M_has 29 = .ok (.iconst 0, 1) := by decide +kernel
theorem d_M_has_30 : decode b_M_has 30 = .ok (.ireturn, 1) := by decide +kernel
theorem d_M_update_0 : decode b_M_update 0 = .ok (.aload_n 0, 1) := by decide +kernel
theorem d_M_update_1 : decode b_M_update 1 = .ok (.iload_n 1, 1) := by decide +kernel
theorem d_M_update_2 : decode b_M_update 2 = .ok (.iload_n 2, 1) := by decide +kernel
theorem d_M_update_3 : decode b_M_update 3 = .ok (.invokevirtual 135, 3) := by decide +kernel
theorem d_M_update_6 : decode b_M_update 6 = .ok (.ifCond .ne 5, 3) := by decide +kernel
theorem d_M_update_9 : decode b_M_update 9 = .ok (.iconst 0, 1) := by decide +kernel
theorem d_M_update_10 : decode b_M_update 10 = .ok (.ireturn, 1) := by decide +kernel
theorem d_M_update_11 : decode b_M_update 11 = .ok (.aload_n 0, 1) := by decide +kernel
theorem d_M_update_12 : decode b_M_update 12 = .ok (.iload_n 1, 1) := by decide +kernel
theorem d_M_update_13 : decode b_M_update 13 = .ok (.iload_n 2, 1) := by decide +kernel
theorem d_M_update_14 : decode b_M_update 14 = .ok (.invokevirtual 108, 3) := by decide +kernel
theorem d_M_update_17 : decode b_M_update 17 = .ok (.istore_n 3, 1) := by decide +kernel
theorem d_M_update_18 : decode b_M_update 18 = .ok (.iconst 0, 1) := by decide +kernel
theorem d_M_update_19 : decode b_M_update 19 = .ok (.istore 4, 2) := by decide +kernel
theorem d_M_update_21 : decode b_M_update 21 = .ok (.iconst 0, 1) := by decide +kernel
theorem d_M_update_22 : decode b_M_update 22 = .ok (.istore 5, 2) := by decide +kernel
theorem d_M_update_24 : decode b_M_update 24 = .ok (.iload 5, 2) := by decide +kernel
theorem d_M_update_26 : decode b_M_update 26 = .ok (.bipush 64, 2) := by decide +kernel
theorem d_M_update_28 : decode b_M_update 28 = .ok (.if_icmp .ge 41, 3) := by decide +kernel
theorem d_M_update_31 : decode b_M_update 31 = .ok (.iload 4, 2) := by decide +kernel
theorem d_M_update_33 : decode b_M_update 33 = .ok (.aload_n 0, 1) := by decide +kernel
theorem d_M_update_34 : decode b_M_update 34 = .ok (.getfield 13, 3) := by decide +kernel
theorem d_M_update_37 : decode b_M_update 37 = .ok (.iload 5, 2) := by decide +kernel
theorem d_M_update_39 : decode b_M_update 39 = .ok (.saload, 1) := by decide +kernel
theorem d_M_update_40 : decode b_M_update 40 = .ok (.iconst (-1), 1) := by decide +kernel
theorem d_M_update_41 : decode b_M_update 41 = .ok (.if_icmp .eq 18, 3) := by decide +kernel
theorem d_M_update_44 : decode b_M_update 44 = .ok (.aload_n 0, 1) := by decide +kernel
theorem d_M_update_45 : decode b_M_update 45 = .ok (.iload_n 1, 1) := by decide +kernel
theorem d_M_update_46 : decode b_M_update 46 = .ok (.iload_n 2, 1) := by decide +kernel
theorem d_M_update_47 : decode b_M_update 47 = .ok (.iload 5, 2) := by decide +kernel
theorem d_M_update_49 : decode b_M_update 49 = .ok (.invokevirtual 93, 3) := by decide +kernel
theorem d_M_update_52 : decode b_M_update 52 = .ok (.ifCond .ge 7, 3) := by decide +kernel
theorem d_M_update_55 : decode b_M_update 55 = .ok (.iconst 1, 1) := by decide +kernel
theorem d_M_update_56 : decode b_M_update 56 = .ok (.goto 4, 3) := by decide +kernel
theorem d_M_update_59 : decode b_M_update 59 = .ok (.iconst 0, 1) := by decide +kernel
theorem d_M_update_60 : decode b_M_update 60 = .ok (.iadd, 1) := by decide +kernel
theorem d_M_update_61 : decode b_M_update 61 = .ok (.istore 4, 2) := by decide +kernel
theorem d_M_update_63 : decode b_M_update 63 = .ok (.iinc 5 1, 3) := by decide +kernel
theorem d_M_update_66 : decode b_M_update 66 = .ok (.goto (-42), 3) := by decide +kernel
theorem d_M_update_69 : decode b_M_update 69 = .ok (.aload_n 0, 1) := by decide +kernel
theorem d_M_update_70 : decode b_M_update 70 = .ok (.aload_n 0, 1) := by decide +kernel
theorem d_M_update_71 : decode b_M_update 71 = .ok (.invokevirtual 118, 3) := by decide +kernel
theorem d_M_update_74 : decode b_M_update 74 = .ok (.iload 4, 2) := by decide +kernel
theorem d_M_update_76 : decode b_M_update 76 = .ok (.iadd, 1) := by decide +kernel
theorem d_M_update_77 : decode b_M_update 77 = .ok (.sipush 600, 3) := by decide +kernel
theorem d_M_update_80 : decode b_M_update 80 = .ok (.if_icmp .le 7, 3) := by decide +kernel
theorem d_M_update_83 : decode b_M_update 83 = .ok (.iconst 2, 1) := by decide +kernel
theorem d_M_update_84 : decode b_M_update 84 = .ok (.goto 4, 3) := by decide +kernel
theorem d_M_update_87 : decode b_M_update 87 = .ok (.iconst 0, 1) := by decide +kernel
theorem d_M_update_88 : decode b_M_update 88 = .ok (.putfield 75, 3) := by decide +kernel
theorem d_M_update_91 : decode b_M_update 91 = .ok (.aload_n 0, 1) := by decide +kernel
theorem d_M_update_92 : decode b_M_update 92 = .ok (.getfield 75, 3) := by decide +kernel
theorem d_M_update_95 : decode b_M_update 95 = .ok (.ifCond .le 5, 3) := by decide +kernel
theorem d_M_update_98 : decode b_M_update 98 = .ok (.iconst 0, 1) := by decide +kernel
theorem d_M_update_99 : decode b_M_update 99 = .ok (.ireturn, 1) := by decide +kernel
theorem d_M_update_100 : decode b_M_update 100 = .ok (.lconst 0, 1) := by decide +kernel
theorem d_M_update_101 : decode b_M_update 101 = .ok (.lstore 5, 2) := by decide +kernel
theorem d_M_update_103 : decode b_M_update 103 = .ok (.iconst 0, 1) := by decide +kernel
theorem d_M_update_104 : decode b_M_update 104 = .ok (.istore 7, 2) := by decide +kernel
theorem d_M_update_106 : decode b_M_update 106 = .ok (.iload 7, 2) := by decide +kernel
theorem d_M_update_108 : decode b_M_update 108 = .ok (.bipush 64, 2) := by decide +kernel
theorem d_M_update_110 : decode b_M_update 110 = .ok (.if_icmp .ge 67, 3) := by decide +kernel
theorem d_M_update_113 : decode b_M_update 113 = .ok (.aload_n 0, 1) := by decide +kernel
theorem d_M_update_114 : decode b_M_update 114 = .ok (.getfield 13, 3) := by decide +kernel
theorem d_M_update_117 : decode b_M_update 117 = .ok (.iload 7, 2) := by decide +kernel
theorem d_M_update_119 : decode b_M_update 119 = .ok (.saload, 1) := by decide +kernel
theorem d_M_update_120 : decode b_M_update 120 = .ok (.iconst (-1), 1) := by decide +kernel
theorem d_M_update_121 : decode b_M_update 121 = .ok (.if_icmp .eq 50, 3) := by decide +kernel
theorem d_M_update_124 : decode b_M_update 124 = .ok (.aload_n 0, 1) := by decide +kernel
theorem d_M_update_125 : decode b_M_update 125 = .ok (.iload_n 1, 1) := by decide +kernel
theorem d_M_update_126 : decode b_M_update 126 = .ok (.iload_n 2, 1) := by decide +kernel
theorem d_M_update_127 : decode b_M_update 127 = .ok (.iload 7, 2) := by decide +kernel
theorem d_M_update_129 : decode b_M_update 129 = .ok (.invokevirtual 93, 3) := by decide +kernel
theorem d_M_update_132 : decode b_M_update 132 = .ok (.istore 8, 2) := by decide +kernel
theorem d_M_update_134 : decode b_M_update 134 = .ok (.iload 8, 2) := by decide +kernel
theorem d_M_update_136 : decode b_M_update 136 = .ok (.ifCond .ge 7, 3) := by decide +kernel
theorem d_M_update_139 : decode b_M_update 139 = .ok (.iload_n 3, 1) := by decide +kernel
theorem d_M_update_140 : decode b_M_update 140 = .ok (.goto 5, 3) := by decide +kernel
theorem d_M_update_143 : decode b_M_update 143 = .ok (.iload 8, 2) := by decide +kernel
theorem d_M_update_145 : decode b_M_update 145 = .ok (.istore 8, 2) := by decide +kernel
theorem d_M_update_147 : decode b_M_update 147 = .ok (.aload_n 0, 1) := by decide +kernel
theorem d_M_update_148 : decode b_M_update 148 = .ok (.iload 8, 2) := by decide +kernel
theorem d_M_update_150 : decode b_M_update 150 = .ok (.iload 7, 2) := by decide +kernel
theorem d_M_update_152 : decode b_M_update 152 = .ok (.aload_n 0, 1) := by decide +kernel
theorem d_M_update_153 : decode b_M_update 153 = .ok (.getfield 13, 3) := by decide +kernel
theorem d_M_update_156 : decode b_M_update 156 = .ok (.iload 7, 2) := by decide +kernel
theorem d_M_update_158 : decode b_M_update 158 = .ok (.saload, 1) := by decide +kernel
theorem d_M_update_159 : decode b_M_update 159 = .ok (.invokevirtual 104, 3) := by decide +kernel
theorem d_M_update_162 : decode b_M_update 162 = .ok (.lload 5, 2) := by decide +kernel
theorem d_M_update_164 : decode b_M_update 164 = .ok (.lconst 1, 1) := by decide +kernel
theorem d_M_update_165 : decode b_M_update 165 = .ok (.iload 8, 2) := by decide +kernel
theorem d_M_update_167 : decode b_M_update 167 = .ok (.lshl, 1) := by decide +kernel
theorem d_M_update_168 : decode b_M_update 168 = .ok (.lor, 1) := by decide +kernel
theorem d_M_update_169 : decode b_M_update 169 = .ok (.lstore 5, 2) := by decide +kernel
theorem d_M_update_171 : decode b_M_update 171 = .ok (.iinc 7 1, 3) := by decide +kernel
theorem d_M_update_174 : decode b_M_update 174 = .ok (.goto (-68), 3) := by decide +kernel
theorem d_M_update_177 : decode b_M_update 177 = .ok (.iconst 0, 1) := by decide +kernel
theorem d_M_update_178 : decode b_M_update 178 = .ok (.istore 7, 2) := by decide +kernel
theorem d_M_update_180 : decode b_M_update 180 = .ok (.iconst 0, 1) := by decide +kernel
theorem d_M_update_181 : decode b_M_update 181 = .ok (.istore 8, 2) := by decide +kernel
theorem d_M_update_183 : decode b_M_update 183 = .ok (.iload 8, 2) := by decide +kernel
theorem d_M_update_185 : decode b_M_update 185 = .ok (.bipush 40, 2) := by decide +kernel
theorem d_M_update_187 : decode b_M_update 187 = .ok (.if_icmp .ge 31, 3) := by decide +kernel
theorem d_M_update_190 : decode b_M_update 190 = .ok (.iload 7, 2) := by decide +kernel
theorem d_M_update_192 : decode b_M_update 192 = .ok (.lload 5, 2) := by decide +kernel
theorem d_M_update_194 : decode b_M_update 194 = .ok (.iload 8, 2) := by decide +kernel
theorem d_M_update_196 : decode b_M_update 196 = .ok (.lshr, 1) := by decide +kernel
theorem d_M_update_197 : decode b_M_update 197 = .ok (.lconst 1, 1) := by decide +kernel
theorem d_M_update_198 : decode b_M_update 198 = .ok (.land, 1) := by decide +kernel
theorem d_M_update_199 : decode b_M_update 199 = .ok (.lconst 1, 1) := by decide +kernel
theorem d_M_update_200 : decode b_M_update 200 = .ok (.lcmp, 1) := by decide +kernel
theorem d_M_update_201 : decode b_M_update 201 = .ok (.ifCond .ne 7, 3) := by decide +kernel
theorem d_M_update_204 : decode b_M_update 204 = .ok (.iconst 1, 1) := by decide +kernel
theorem d_M_update_205 : decode b_M_update 205 = .ok (.goto 4, 3) := by decide +kernel
theorem d_M_update_208 : decode b_M_update 208 = .ok (.iconst 0, 1) := by decide +kernel
theorem d_M_update_209 : decode b_M_update 209 = .ok (.iadd, 1) := by decide +kernel
theorem d_M_update_210 : decode b_M_update 210 = .ok (.istore 7, 2) := by decide +kernel
theorem d_M_update_212 : decode b_M_update 212 = .ok (.iinc 8 1, 3) := by decide +kernel
theorem d_M_update_215 : decode b_M_update 215 = .ok (.goto (-32), 3) := by decide +kernel
theorem d_M_update_218 : decode b_M_update 218 = .ok (.iload 7, 2) := by decide +kernel
theorem d_M_update_220 : decode b_M_update 220 = .ok (.ireturn, 1) := by decide +kernel
theorem d_M_delete_0 : decode b_M_delete 0 = .ok (.aload_n 0, 1) := by decide +kernel
theorem d_M_delete_1 : decode b_M_delete 1 = .ok (.iload_n 1, 1) := by decide +kernel
theorem d_M_delete_2 : decode b_M_delete 2 = .ok (.iload_n 2, 1) := by decide +kernel
theorem d_M_delete_3 : decode b_M_delete 3 = .ok (.invokevirtual 135, 3) := by decide +kernel
theorem d_M_delete_6 : decode b_M_delete 6 = .ok (.ifCond .ne 5, 3) := by decide +kernel
theorem d_M_delete_9 : decode b_M_delete 9 = .ok (.iconst 0, 1) := by decide +kernel
theorem d_M_delete_10 : decode b_M_delete 10 = .ok (.ireturn, 1) := by decide +kernel
theorem d_M_delete_11 : decode b_M_delete 11 = .ok (.aload_n 0, 1) := by decide +kernel
theorem d_M_delete_12 : decode b_M_delete 12 = .ok (.iload_n 1, 1) := by decide +kernel
theorem d_M_delete_13 : decode b_M_delete 13 = .ok (.iload_n 2, 1) := by decide +kernel
theorem d_M_delete_14 : decode b_M_delete 14 = .ok (.invokevirtual 108, 3) := by decide +kernel
theorem d_M_delete_17 : decode b_M_delete 17 = .ok (.istore 4, 2) := by decide +kernel
theorem d_M_delete_19 : decode b_M_delete 19 = .ok (.iload_n 3, 1) := by decide +kernel
theorem d_M_delete_20 : decode b_M_delete 20 = .ok (.ifCond .eq 12, 3) := by decide +kernel
theorem d_M_delete_23 : decode b_M_delete 23 = .ok (.aload_n 0, 1) := by decide +kernel
theorem d_M_delete_24 : decode b_M_delete 24 = .ok (.iload_n 1, 1) := by decide +kernel
theorem d_M_delete_25 : decode b_M_delete 25 = .ok (.iload_n 2, 1) := by decide +kernel
theorem d_M_delete_26 : decode b_M_delete 26 = .ok (.invokevirtual 111, 3) := by decide +kernel
theorem d_M_delete_29 : decode b_M_delete 29 = .ok (.goto 4, 3) := by decide +kernel
theorem d_M_delete_32 : decode b_M_delete 32 = .ok (.iconst (-1), 1) := by decide +kernel
theorem d_M_delete_33 : decode b_M_delete 33 = .ok (.istore 5, 2) := by decide +kernel
theorem d_M_delete_35 : decode b_M_delete 35 = .ok (.aload_n 0, 1) := by decide +kernel
theorem d_M_delete_36 : decode b_M_delete 36 = .ok (.iload 4, 2) := by decide +kernel
theorem d_M_delete_38 : decode b_M_delete 38 = .ok (.invokevirtual 97, 3) := by decide +kernel
theorem d_M_delete_41 : decode b_M_delete 41 = .ok (.istore 6, 2) := by decide +kernel
theorem d_M_delete_43 : decode b_M_delete 43 = .ok (.aload_n 0, 1) := by decide +kernel
theorem d_M_delete_44 : decode b_M_delete 44 = .ok (.iload 5, 2) := by decide +kernel
theorem d_M_delete_46 : decode b_M_delete 46 = .ok (.invokevirtual 124, 3) := by decide +kernel
theorem d_M_delete_49 : decode b_M_delete 49 = .ok (.iconst 0, 1) := by decide +kernel
theorem d_M_delete_50 : decode b_M_delete 50 = .ok (.istore 7, 2) := by decide +kernel
theorem d_M_delete_52 : decode b_M_delete 52 = .ok (.iload 7, 2) := by decide +kernel
theorem d_M_delete_54 : decode b_M_delete 54 = .ok (.bipush 64, 2) := by decide +kernel
theorem d_M_delete_56 : decode b_M_delete 56 = .ok (.if_icmp .ge 34, 3) := by decide +kernel
theorem d_M_delete_59 : decode b_M_delete 59 = .ok (.iload 5, 2) := by decide +kernel
theorem d_M_delete_61 : decode b_M_delete 61 = .ok (.ifCond .lt 23, 3) := by decide +kernel
theorem d_M_delete_64 : decode b_M_delete 64 = .ok (.aload_n 0, 1) := by decide +kernel
theorem d_M_delete_65 : decode b_M_delete 65 = .ok (.iload 4, 2) := by decide +kernel
theorem d_M_delete_67 : decode b_M_delete 67 = .ok (.iload 7, 2) := by decide +kernel
theorem d_M_delete_69 : decode b_M_delete 69 = .ok (.invokevirtual 90, 3) := by decide +kernel
theorem d_M_delete_72 : decode b_M_delete 72 = .ok (.iconst (-1), 1) := by decide +kernel
theorem d_M_delete_73 : decode b_M_delete 73 = .ok (.if_icmp .eq 11, 3) := by decide +kernel
theorem d_M_delete_76 : decode b_M_delete 76 = .ok (.aload_n 0, 1) := by decide +kernel
theorem d_M_delete_77 : decode b_M_delete 77 = .ok (.iload 5, 2) := by decide +kernel
theorem d_M_delete_79 : decode b_M_delete 79 = .ok (.iload 7, 2) := by decide +kernel
theorem d_M_delete_81 : decode b_M_delete 81 = .ok (.invokevirtual 131, 3) := by decide +kernel
theorem d_M_delete_84 : decode b_M_delete 84 = .ok (.iinc 7 1, 3) := by decide +kernel
theorem d_M_delete_87 : decode b_M_delete 87 = .ok (.goto (-35), 3) := by decide +kernel
theorem d_M_delete_90 : decode b_M_delete 90 = .ok (.aload_n 0, 1) := by decide +kernel
theorem d_M_delete_91 : decode b_M_delete 91 = .ok (.getfield 20, 3) := by decide +kernel
theorem d_M_delete_94 : decode b_M_delete 94 = .ok (.iload 4, 2) := by decide +kernel
theorem d_M_delete_96 : decode b_M_delete 96 = .ok (.iconst (-1), 1) := by decide +kernel
theorem d_M_delete_97 : decode b_M_delete 97 = .ok (.iastore, 1) := by decide +kernel
theorem d_M_delete_98 : decode b_M_delete 98 = .ok (.iload 6, 2) := by decide +kernel
theorem d_M_delete_100 : decode b_M_delete 100 = .ok (.ireturn, 1) := by decide +kernel
theorem d_M_block_0 : decode b_M_block 0 = .ok (.aload_n 0, 1) := by decide +kernel
theorem d_M_block_1 : decode b_M_block 1 = .ok (.iload_n 1, 1) := by decide +kernel
theorem d_M_block_2 : decode b_M_block 2 = .ok (.iload_n 2, 1) := by decide +kernel
theorem d_M_block_3 : decode b_M_block 3 = .ok (.invokevirtual 135, 3) := by decide +kernel
theorem d_M_block_6 : decode b_M_block 6 = .ok (.ifCond .ne 5, 3) := by decide +kernel
theorem d_M_block_9 : decode b_M_block 9 = .ok (.iconst 0, 1) := by decide +kernel
theorem d_M_block_10 : decode b_M_block 10 = .ok (.ireturn, 1) := by decide +kernel
theorem d_M_block_11 : decode b_M_block 11 = .ok (.aload_n 0, 1) := by decide +kernel
theorem d_M_block_12 : decode b_M_block 12 = .ok (.iload_n 1, 1) := by decide +kernel
theorem d_M_block_13 : decode b_M_block 13 = .ok (.iload_n 2, 1) := by decide +kernel
theorem d_M_block_14 : decode b_M_block 14 = .ok (.invokevirtual 108, 3) := by decide +kernel
theorem d_M_block_17 : decode b_M_block 17 = .ok (.istore 4, 2) := by decide +kernel
theorem d_M_block_19 : decode b_M_block 19 = .ok (.iconst 0, 1) := by decide +kernel
theorem d_M_block_20 : decode b_M_block 20 = .ok (.istore 5, 2) := by decide +kernel
theorem d_M_block_22 : decode b_M_block 22 = .ok (.iconst 0, 1) := by decide +kernel
theorem d_M_block_23 : decode b_M_block 23 = .ok (.istore 6, 2) := by decide +kernel
theorem d_M_block_25 : decode b_M_block 25 = .ok (.iload 6, 2) := by decide +kernel
theorem d_M_block_27 : decode b_M_block 27 = .ok (.bipush 64, 2) := by decide +kernel
theorem d_M_block_29 : decode b_M_block 29 = .ok (.if_icmp .ge 42, 3) := by decide +kernel
theorem d_M_block_32 : decode b_M_block 32 = .ok (.iload 5, 2) := by decide +kernel
theorem d_M_block_34 : decode b_M_block 34 = .ok (.aload_n 0, 1) := by decide +kernel
theorem d_M_block_35 : decode b_M_block 35 = .ok (.iload_n 1, 1) := by decide +kernel
theorem d_M_block_36 : decode b_M_block 36 = .ok (.iload_n 2, 1) := by decide +kernel
theorem d_M_block_37 : decode b_M_block 37 = .ok (.iload 6, 2) := by decide +kernel
theorem d_M_block_39 : decode b_M_block 39 = .ok (.invokevirtual 93, 3) := by decide +kernel
theorem d_M_block_42 : decode b_M_block 42 = .ok (.ifCond .lt 19, 3) := by decide +kernel
theorem d_M_block_45 : decode b_M_block 45 = .ok (.aload_n 0, 1) := by decide +kernel
theorem d_M_block_46 : decode b_M_block 46 = .ok (.iload 4, 2) := by decide +kernel
theorem d_M_block_48 : decode b_M_block 48 = .ok (.iload 6, 2) := by decide +kernel
theorem d_M_block_50 : decode b_M_block 50 = .ok (.invokevirtual 90, 3) := by decide +kernel
theorem d_M_block_53 : decode b_M_block 53 = .ok (.iconst (-1), 1) := by decide +kernel
theorem d_M_block_54 : decode b_M_block 54 = .ok (.if_icmp .ne 7, 3) := by decide +kernel
theorem d_M_block_57 : decode b_M_block 57 = .ok (.iconst 1, 1) := by decide +kernel
theorem d_M_block_58 : decode b_M_block 58 = .ok (.goto 4, 3) := by decide +kernel
theorem d_M_block_61 : decode b_M_block 61 = .ok (.iconst 0, 1) := by decide +kernel
theorem d_M_block_62 : decode b_M_block 62 = .ok (.iadd, 1) := by decide +kernel
theorem d_M_block_63 : decode b_M_block 63 = .ok (.istore 5, 2) := by decide +kernel
theorem d_M_block_65 : decode b_M_block 65 = .ok (.iinc 6 1, 3) := by decide +kernel
theorem d_M_block_68 : decode b_M_block 68 = .ok (.goto (-43), 3) := by decide +kernel
theorem d_M_block_71 : decode b_M_block 71 = .ok (.aload_n 0, 1) := by decide +kernel
theorem d_M_block_72 : decode b_M_block 72 = .ok (.iload_n 3, 1) := by decide +kernel
theorem d_M_block_73 : decode b_M_block 73 = .ok (.ifCond .eq 20, 3) := by decide +kernel
theorem d_M_block_76 : decode b_M_block 76 = .ok (.aload_n 0, 1) := by decide +kernel
theorem d_M_block_77 : decode b_M_block 77 = .ok (.invokevirtual 118, 3) := by decide +kernel
theorem d_M_block_80 : decode b_M_block 80 = .ok (.iload 5, 2) := by decide +kernel
theorem d_M_block_82 : decode b_M_block 82 = .ok (.iadd, 1) := by decide +kernel
theorem d_M_block_83 : decode b_M_block 83 = .ok (.sipush 600, 3) := by decide +kernel
theorem d_M_block_86 : decode b_M_block 86 = .ok (.if_icmp .le 7, 3) := by decide +kernel
theorem d_M_block_89 : decode b_M_block 89 = .ok (.iconst 2, 1) := by decide +kernel
theorem d_M_block_90 : decode b_M_block 90 = .ok (.goto 4, 3) := by decide +kernel
theorem d_M_block_93 : decode b_M_block 93 = .ok (.iconst 0, 1) := by decide +kernel
theorem d_M_block_94 : decode b_M_block 94 = .ok (.putfield 75, 3) := by decide +kernel
theorem d_M_block_97 : decode b_M_block 97 = .ok (.aload_n 0, 1) := by decide +kernel
theorem d_M_block_98 : decode b_M_block 98 = .ok (.getfield 75, 3) := by decide +kernel
theorem d_M_block_101 : decode b_M_block 101 = .ok (.ifCond .le 5, 3) := by decide +kernel
theorem d_M_block_104 : decode b_M_block 104 = .ok (.iconst 0, 1) := by decide +kernel
theorem d_M_block_105 : decode b_M_block 105 = .ok (.ireturn, 1) := by decide +kernel
theorem d_M_block_106 : decode b_M_block 106 = .ok (.aload_n 0, 1) := by decide +kernel
theorem d_M_block_107 : decode b_M_block 107 = .ok (.iload 4, 2) := by decide +kernel
theorem d_M_block_109 : decode b_M_block 109 = .ok (.invokevirtual 124, 3) := by decide +kernel
theorem d_M_block_112 : decode b_M_block 112 = .ok (.iconst 0, 1) := by decide +kernel
theorem d_M_block_113 : decode b_M_block 113 = .ok (.istore 6, 2) := by decide +kernel
theorem d_M_block_115 : decode b_M_block 115 = .ok (.iload 6, 2) := by decide +kernel
theorem d_M_block_117 : decode b_M_block 117 = .ok (.bipush 64, 2) := by decide +kernel
theorem d_M_block_119 : decode b_M_block 119 = .ok (.if_icmp .ge 89, 3) := by decide +kernel
theorem d_M_block_122 : decode b_M_block 122 = .ok (.aload_n 0, 1) := by decide +kernel
theorem d_M_block_123 : decode b_M_block 123 = .ok (.iload_n 1, 1) := by decide +kernel
theorem d_M_block_124 : decode b_M_block 124 = .ok (.iload_n 2, 1) := by decide +kernel
theorem d_M_block_125 : decode b_M_block 125 = .ok (.iconst 1, 1) := by decide +kernel
theorem d_M_block_126 : decode b_M_block 126 = .ok (.isub, 1) := by decide +kernel
theorem d_M_block_127 : decode b_M_block 127 = .ok (.iload 6, 2) := by decide +kernel
theorem d_M_block_129 : decode b_M_block 129 = .ok (.invokevirtual 101, 3) := by decide +kernel
theorem d_M_block_132 : decode b_M_block 132 = .ok (.istore 7, 2) := by decide +kernel
theorem d_M_block_134 : decode b_M_block 134 = .ok (.iload_n 3, 1) := by decide +kernel
theorem d_M_block_135 : decode b_M_block 135 = .ok (.ifCond .eq 21, 3) := by decide +kernel
theorem d_M_block_138 : decode b_M_block 138 = .ok (.aload_n 0, 1) := by decide +kernel
theorem d_M_block_139 : decode b_M_block 139 = .ok (.iload 4, 2) := by decide +kernel
theorem d_M_block_141 : decode b_M_block 141 = .ok (.iload 6, 2) := by decide +kernel
theorem d_M_block_143 : decode b_M_block 143 = .ok (.aload_n 0, 1) := by decide +kernel
theorem d_M_block_144 : decode b_M_block 144 = .ok (.getfield 42, 3) := by decide +kernel
theorem d_M_block_147 : decode b_M_block 147 = .ok (.iload 6, 2) := by decide +kernel
theorem d_M_block_149 : decode b_M_block 149 = .ok (.saload, 1) := by decide +kernel
theorem d_M_block_150 : decode b_M_block 150 = .ok (.invokevirtual 104, 3) := by decide +kernel
theorem d_M_block_153 : decode b_M_block 153 = .ok (.goto 49, 3) := by decide +kernel
theorem d_M_block_156 : decode b_M_block 156 = .ok (.aload_n 0, 1) := by decide +kernel
theorem d_M_block_157 : decode b_M_block 157 = .ok (.iload 4, 2) := by decide +kernel
theorem d_M_block_159 : decode b_M_block 159 = .ok (.iload 6, 2) := by decide +kernel
theorem d_M_block_161 : decode b_M_block 161 = .ok (.invokevirtual 90, 3) := by decide +kernel
theorem d_M_block_164 : decode b_M_block 164 = .ok (.iconst (-1), 1) := by decide +kernel
theorem d_M_block_165 : decode b_M_block 165 = .ok (.if_icmp .eq 37, 3) := by decide +kernel
theorem d_M_block_168 : decode b_M_block 168 = .ok (.aload_n 0, 1) := by decide +kernel
theorem d_M_block_169 : decode b_M_block 169 = .ok (.iload 4, 2) := by decide +kernel
theorem d_M_block_171 : decode b_M_block 171 = .ok (.iload 6, 2) := by decide +kernel
theorem d_M_block_173 : decode b_M_block 173 = .ok (.invokevirtual 90, 3) := by decide +kernel
theorem d_M_block_176 : decode b_M_block 176 = .ok (.iload 7, 2) := by decide +kernel
theorem d_M_block_178 : decode b_M_block 178 = .ok (.iconst (-1), 1) := by decide +kernel
theorem d_M_block_179 : decode b_M_block 179 = .ok (.if_icmp .ne 9, 3) := by decide +kernel
theorem d_M_block_182 : decode b_M_block 182 = .ok (.sipush 300, 3) := by decide +kernel
theorem d_M_block_185 : decode b_M_block 185 = .ok (.goto 5, 3) := by decide +kernel
theorem d_M_block_188 : decode b_M_block 188 = .ok (.iload 7, 2) := by decide +kernel
theorem d_M_block_190 : decode b_M_block 190 = .ok (.if_icmp .ne 12, 3) := by decide +kernel
theorem d_M_block_193 : decode b_M_block 193 = .ok (.aload_n 0, 1) := by decide +kernel
theorem d_M_block_194 : decode b_M_block 194 = .ok (.iload 4, 2) := by decide +kernel
theorem d_M_block_196 : decode b_M_block 196 = .ok (.iload 6, 2) := by decide +kernel
theorem d_M_block_198 : decode b_M_block 198 = .ok (.iconst (-1), 1) := by decide +kernel
theorem d_M_block_199 : decode b_M_block 199 = .ok (.invokevirtual 104, 3) := by decide +kernel
theorem d_M_block_202 : decode b_M_block 202 = .ok (.iinc 6 1, 3) := by decide +kernel
theorem d_M_block_205 : decode b_M_block 205 = .ok (.goto (-90), 3) := by decide +kernel
theorem d_M_block_208 : decode b_M_block 208 = .ok (.aload_n 0, 1) := by decide +kernel
theorem d_M_block_209 : decode b_M_block 209 = .ok (.iload 4, 2) := by decide +kernel
theorem d_M_block_211 : decode b_M_block 211 = .ok (.invokevirtual 97, 3) := by decide +kernel
theorem d_M_block_214 : decode b_M_block 214 = .ok (.ireturn, 1) := by decide +kernel
theorem d_M_times_0 : decode b_M_times 0 = .ok (.aload_n 0, 1) := by decide +kernel
theorem d_M_times_1 : decode b_M_times 1 = .ok (.iconst 0, 1) := by decide +kernel
theorem d_M_times_2 : decode b_M_times 2 = .ok (.putfield 75, 3) := by decide +kernel
theorem d_M_times_5 : decode b_M_times 5 = .ok (.aload_n 0, 1) := by decide +kernel
theorem d_M_times_6 : decode b_M_times 6 = .ok (.iload_n 1, 1) := by decide +kernel
theorem d_M_times_7 : decode b_M_times 7 = .ok (.iload_n 2, 1) := by decide +kernel
theorem d_M_times_8 : decode b_M_times 8 = .ok (.invokevirtual 108, 3) := by decide +kernel
theorem d_M_times_11 : decode b_M_times 11 = .ok (.istore 5, 2) := by decide +kernel
theorem d_M_times_13 : decode b_M_times 13 = .ok (.iload 5, 2) := by decide +kernel
theorem d_M_times_15 : decode b_M_times 15 = .ok (.ifCond .lt 18, 3) := by decide +kernel
theorem d_M_times_18 : decode b_M_times 18 = .ok (.iload_n 3, 1) := by decide +kernel
theorem d_M_times_19 : decode b_M_times 19 = .ok (.invokestatic 139, 3) := by decide +kernel
theorem d_M_times_22 : decode b_M_times 22 = .ok (.ifCond .eq 11, 3) := by decide +kernel
theorem d_M_times_25 : decode b_M_times 25 = .ok (.iload 4, 2) := by decide +kernel
theorem d_M_times_27 : decode b_M_times 27 = .ok (.invokestatic 139, 3) := by decide +kernel
theorem d_M_times_30 : decode b_M_times 30 = .ok (.ifCond .ne 5, 3) := by decide +kernel
theorem d_M_times_33 : decode b_M_times 33 = .ok (.iconst 0, 1) := by decide +kernel
theorem d_M_times_34 : decode b_M_times 34 = .ok (.ireturn, 1) := by decide +kernel
theorem d_M_times_35 : decode b_M_times 35 = .ok (.aload_n 0, 1) := by decide +kernel
theorem d_M_times_36 : decode b_M_times 36 = .ok (.getfield 27, 3) := by decide +kernel
theorem d_M_times_39 : decode b_M_times 39 = .ok (.iload 5, 2) := by decide +kernel
theorem d_M_times_41 : decode b_M_times 41 = .ok (.iload_n 3, 1) := by decide +kernel
theorem d_M_times_42 : decode b_M_times 42 = .ok (.iastore, 1) := by decide +kernel
theorem d_M_times_43 : decode b_M_times 43 = .ok (.aload_n 0, 1) := by decide +kernel
theorem d_M_times_44 : decode b_M_times 44 = .ok (.getfield 30, 3) := by decide +kernel
theorem d_M_times_47 : decode b_M_times 47 = .ok (.iload 5, 2) := by decide +kernel
theorem d_M_times_49 : decode b_M_times 49 = .ok (.iload 4, 2) := by decide +kernel
theorem d_M_times_51 : decode b_M_times 51 = .ok (.iastore, 1) := by decide +kernel
theorem d_M_times_52 : decode b_M_times 52 = .ok (.iconst 1, 1) := by decide +kernel
theorem d_M_times_53 : decode b_M_times 53 = .ok (.ireturn, 1) := by decide +kernel
theorem d_M_delays_0 : decode b_M_delays 0 = .ok (.aload_n 0, 1) := by decide +kernel
theorem d_M_delays_1 : decode b_M_delays 1 = .ok (.iconst 0, 1) := by decide +kernel
theorem d_M_delays_2 : decode b_M_delays 2 = .ok (.putfield 75, 3) := by decide +kernel
theorem d_M_delays_5 : decode b_M_delays 5 = .ok (.aload_n 0, 1) := by decide +kernel
theorem d_M_delays_6 : decode b_M_delays 6 = .ok (.iload_n 1, 1) := by decide +kernel
theorem d_M_delays_7 : decode b_M_delays 7 = .ok (.iload_n 2, 1) := by decide +kernel
theorem d_M_delays_8 : decode b_M_delays 8 = .ok (.invokevirtual 108, 3) := by decide +kernel
theorem d_M_delays_11 : decode b_M_delays 11 = .ok (.istore 5, 2) := by decide +kernel
theorem d_M_delays_13 : decode b_M_delays 13 = .ok (.iload 5, 2) := by decide +kernel
theorem d_M_delays_15 : decode b_M_delays 15 = .ok (.ifCond .lt 24, 3) := by decide +kernel
theorem d_M_delays_18 : decode b_M_delays 18 = .ok (.iload_n 3, 1) := by decide +kernel
theorem d_M_delays_19 : decode b_M_delays 19 = .ok (.invokestatic 139, 3) := by decide +kernel
theorem d_M_delays_22 : decode b_M_delays 22 = .ok (.ifCond .eq 17, 3) := by decide +kernel
theorem d_M_delays_25 : decode b_M_delays 25 = .ok (.iload 4, 2) := by decide +kernel
theorem d_M_delays_27 : decode b_M_delays 27 = .ok (.iconst (-1), 1) := by decide +kernel
theorem d_M_delays_28 : decode b_M_delays 28 = .ok (.if_icmp .eq 13, 3) := by decide +kernel
theorem d_M_delays_31 : decode b_M_delays 31 = .ok (.iload 4, 2) := by decide +kernel
theorem d_M_delays_33 : decode b_M_delays 33 = .ok (.invokestatic 139, 3) := by decide +kernel
theorem d_M_delays_36 : decode b_M_delays 36 = .ok (.ifCond .ne 5, 3) := by decide +kernel
theorem d_M_delays_39 : decode b_M_delays 39 = .ok (.iconst 0, 1) := by decide +kernel
theorem d_M_delays_40 : decode b_M_delays 40 = .ok (.ireturn, 1) := by decide +kernel
theorem d_M_delays_41 : decode b_M_delays 41 = .ok (.aload_n 0, 1) := by decide +kernel
theorem d_M_delays_42 : decode b_M_delays 42 = .ok (.getfield 33, 3) := by decide +kernel
theorem d_M_delays_45 : decode b_M_delays 45 = .ok (.iload 5, 2) := by decide +kernel
theorem d_M_delays_47 : decode b_M_delays 47 = .ok (.iload_n 3, 1) := by decide +kernel
theorem d_M_delays_48 : decode b_M_delays 48 = .ok (.iastore, 1) := by decide +kernel
theorem d_M_delays_49 : decode b_M_delays 49 = .ok (.aload_n 0, 1) := by decide +kernel
theorem d_M_delays_50 : decode b_M_delays 50 = .ok (.getfield 36, 3) := by decide +kernel
theorem d_M_delays_53 : decode b_M_delays 53 = .ok (.iload 5, 2) := by decide +kernel
theorem d_M_delays_55 : decode b_M_delays 55 = .ok (.iload 4, 2) := by decide +kernel
theorem d_M_delays_57 : decode b_M_delays 57 = .ok (.iastore, 1) := by decide +kernel
theorem d_M_delays_58 : decode b_M_delays 58 = .ok (.iconst 1, 1) := by decide +kernel
theorem d_M_delays_59 : decode b_M_delays 59 = .ok (.ireturn, 1) := by decide +kernel
theorem d_M_lookOf_0 : decode b_M_lookOf 0 = .ok (.aload_n 0, 1) := by decide +kernel
theorem d_M_lookOf_1 : decode b_M_lookOf 1 = .ok (.iload_n 1, 1) := by decide +kernel
theorem d_M_lookOf_2 : decode b_M_lookOf 2 = .ok (.iload_n 2, 1) := by decide +kernel
theorem d_M_lookOf_3 : decode b_M_lookOf 3 = .ok (.iload_n 3, 1) := by decide +kernel
theorem d_M_lookOf_4 : decode b_M_lookOf 4 = .ok (.invokevirtual 101, 3) := by decide +kernel
theorem d_M_lookOf_7 : decode b_M_lookOf 7 = .ok (.istore 4, 2) := by decide +kernel
theorem d_M_lookOf_9 : decode b_M_lookOf 9 = .ok (.iload 4, 2) := by decide +kernel
theorem d_M_lookOf_11 : decode b_M_lookOf 11 = .ok (.ifCond .ge 7, 3) := by decide +kernel
theorem d_M_lookOf_14 : decode b_M_lookOf 14 = .ok (.iconst (-1), 1) := by decide +kernel
theorem d_M_lookOf_15 : decode b_M_lookOf 15 = .ok (.goto 10, 3) := by decide +kernel
theorem d_M_lookOf_18 : decode b_M_lookOf 18 = .ok (.aload_n 0, 1) := by decide +kernel
theorem d_M_lookOf_19 : decode b_M_lookOf 19 = .ok (.iload 4, 2) := by decide +kernel
theorem d_M_lookOf_21 : decode b_M_lookOf 21 = .ok (.iload_n 3, 1) := by decide +kernel
theorem d_M_lookOf_22 : decode b_M_lookOf 22 = .ok (.invokevirtual 142, 3) := by decide +kernel
theorem d_M_lookOf_25 : decode b_M_lookOf 25 = .ok (.ireturn, 1) := by decide +kernel
theorem d_M_look_0 : decode b_M_look 0 = .ok (.aload_n 0, 1) := by decide +kernel
theorem d_M_look_1 : decode b_M_look 1 = .ok (.iload_n 1, 1) := by decide +kernel
theorem d_M_look_2 : decode b_M_look 2 = .ok (.iload_n 2, 1) := by decide +kernel
theorem d_M_look_3 : decode b_M_look 3 = .ok (.invokevirtual 135, 3) := by decide +kernel
theorem d_M_look_6 : decode b_M_look 6 = .ok (.ifCond .ne 5, 3) := by decide +kernel
theorem d_M_look_9 : decode b_M_look 9 = .ok (.iconst 0, 1) := by decide +kernel
theorem d_M_look_10 : decode b_M_look 10 = .ok (.ireturn, 1) := by decide +kernel
theorem d_M_look_11 : decode b_M_look 11 = .ok (.aload_n 0, 1) := by decide +kernel
theorem d_M_look_12 : decode b_M_look 12 = .ok (.iload_n 3, 1) := by decide +kernel
theorem d_M_look_13 : decode b_M_look 13 = .ok (.invokestatic 79, 3) := by decide +kernel
theorem d_M_look_16 : decode b_M_look 16 = .ok (.ifCond .eq 7, 3) := by decide +kernel
theorem d_M_look_19 : decode b_M_look 19 = .ok (.iconst 0, 1) := by decide +kernel
theorem d_M_look_20 : decode b_M_look 20 = .ok (.goto 4, 3) := by decide +kernel
theorem d_M_look_23 : decode b_M_look 23 = .ok (.iconst 2, 1) := by decide +kernel
theorem d_M_look_24 : decode b_M_look 24 = .ok (.putfield 75, 3) := by decide +kernel
theorem d_M_look_27 : decode b_M_look 27 = .ok (.aload_n 0, 1) := by decide +kernel
theorem d_M_look_28 : decode b_M_look 28 = .ok (.getfield 75, 3) := by decide +kernel
theorem d_M_look_31 : decode b_M_look 31 = .ok (.ifCond .le 7, 3) := by decide +kernel
theorem d_M_look_34 : decode b_M_look 34 = .ok (.iconst 0, 1) := by decide +kernel
theorem d_M_look_35 : decode b_M_look 35 = .ok (.goto 10, 3) := by decide +kernel
theorem d_M_look_38 : decode b_M_look 38 = .ok (.aload_n 0, 1) := by decide +kernel
theorem d_M_look_39 : decode b_M_look 39 = .ok (.iload_n 1, 1) := by decide +kernel
theorem d_M_look_40 : decode b_M_look 40 = .ok (.iload_n 2, 1) := by decide +kernel
theorem d_M_look_41 : decode b_M_look 41 = .ok (.iload_n 3, 1) := by decide +kernel
theorem d_M_look_42 : decode b_M_look 42 = .ok (.invokevirtual 145, 3) := by decide +kernel
theorem d_M_look_45 : decode b_M_look 45 = .ok (.ireturn, 1) := by decide +kernel
theorem d_M_source_0 : decode b_M_source 0 = .ok (.aload_n 0, 1) := by decide +kernel
theorem d_M_source_1 : decode b_M_source 1 = .ok (.iload_n 1, 1) := by decide +kernel
theorem d_M_source_2 : decode b_M_source 2 = .ok (.iload_n 2, 1) := by decide +kernel
theorem d_M_source_3 : decode b_M_source 3 = .ok (.invokevirtual 135, 3) := by decide +kernel
theorem d_M_source_6 : decode b_M_source 6 = .ok (.ifCond .ne 5, 3) := by decide +kernel
theorem d_M_source_9 : decode b_M_source 9 = .ok (.iconst 0, 1) := by decide +kernel
theorem d_M_source_10 : decode b_M_source 10 = .ok (.ireturn, 1) := by decide +kernel
theorem d_M_source_11 : decode b_M_source 11 = .ok (.aload_n 0, 1) := by decide +kernel
theorem d_M_source_12 : decode b_M_source 12 = .ok (.iload_n 3, 1) := by decide +kernel
theorem d_M_source_13 : decode b_M_source 13 = .ok (.invokestatic 79, 3) := by decide +kernel
theorem d_M_source_16 : decode b_M_source 16 = .ok (.ifCond .eq 7, 3) := by decide +kernel
theorem d_M_source_19 : decode b_M_source 19 = .ok (.iconst 0, 1) := by decide +kernel
theorem d_M_source_20 : decode b_M_source 20 = .ok (.goto 4, 3) := by decide +kernel
theorem d_M_source_23 : decode b_M_source 23 = .ok (.iconst 2, 1) := by decide +kernel
theorem d_M_source_24 : decode b_M_source 24 = .ok (.putfield 75, 3) := by decide +kernel
theorem d_M_source_27 : decode b_M_source 27 = .ok (.aload_n 0, 1) := by decide +kernel
theorem d_M_source_28 : decode b_M_source 28 = .ok (.getfield 75, 3) := by decide +kernel
theorem d_M_source_31 : decode b_M_source 31 = .ok (.ifCond .le 5, 3) := by decide +kernel
theorem d_M_source_34 : decode b_M_source 34 = .ok (.iconst 0, 1) := by decide +kernel
theorem d_M_source_35 : decode b_M_source 35 = .ok (.ireturn, 1) := by decide +kernel
theorem d_M_source_36 : decode b_M_source 36 = .ok (.aload_n 0, 1) := by decide +kernel
theorem d_M_source_37 : decode b_M_source 37 = .ok (.iload_n 1, 1) := by decide +kernel
theorem d_M_source_38 : decode b_M_source 38 = .ok (.iload_n 2, 1) := by decide +kernel
theorem d_M_source_39 : decode b_M_source 39 = .ok (.iload_n 3, 1) := by decide +kernel
theorem d_M_source_40 : decode b_M_source 40 = .ok (.invokevirtual 93, 3) := by decide +kernel
theorem d_M_source_43 : decode b_M_source 43 = .ok (.istore 4, 2) := by decide +kernel
theorem d_M_source_45 : decode b_M_source 45 = .ok (.iload 4, 2) := by decide +kernel
theorem d_M_source_47 : decode b_M_source 47 = .ok (.ifCond .ge 7, 3) := by decide +kernel
theorem d_M_source_50 : decode b_M_source 50 = .ok (.iconst (-1), 1) := by decide +kernel
theorem d_M_source_51 : decode b_M_source 51 = .ok (.goto 10, 3) := by decide +kernel
theorem d_M_source_54 : decode b_M_source 54 = .ok (.aload_n 0, 1) := by decide +kernel
theorem d_M_source_55 : decode b_M_source 55 = .ok (.getfield 24, 3) := by decide +kernel
theorem d_M_source_58 : decode b_M_source 58 = .ok (.iload 4, 2) := by decide +kernel
theorem d_M_source_60 : decode b_M_source 60 = .ok (.iaload, 1) := by decide +kernel
theorem d_M_source_61 : decode b_M_source 61 = .ok (.ireturn, 1) := by decide +kernel
theorem d_M_cue_0 : decode b_M_cue 0 = .ok (.iconst 0, 1) := by decide +kernel
theorem d_M_cue_1 : decode b_M_cue 1 = .ok (.istore 4, 2) := by decide +kernel
theorem d_M_cue_3 : decode b_M_cue 3 = .ok (.iconst 0, 1) := by decide +kernel
theorem d_M_cue_4 : decode b_M_cue 4 = .ok (.istore 5, 2) := by decide +kernel
theorem d_M_cue_6 : decode b_M_cue 6 = .ok (.iload 5, 2) := by decide +kernel
theorem d_M_cue_8 : decode b_M_cue 8 = .ok (.bipush 40, 2) := by decide +kernel
theorem d_M_cue_10 : decode b_M_cue 10 = .ok (.if_icmp .ge 34, 3) := by decide +kernel
theorem d_M_cue_13 : decode b_M_cue 13 = .ok (.iload 4, 2) := by decide +kernel
theorem d_M_cue_15 : decode b_M_cue 15 = .ok (.iload_n 1, 1) := by decide +kernel
theorem d_M_cue_16 : decode b_M_cue 16 = .ok (.ifCond .lt 18, 3) := by decide +kernel
theorem d_M_cue_19 : decode b_M_cue 19 = .ok (.aload_n 0, 1) := by decide +kernel
theorem d_M_cue_20 : decode b_M_cue 20 = .ok (.getfield 20, 3) := by decide +kernel
theorem d_M_cue_23 : decode b_M_cue 23 = .ok (.iload 5, 2) := by decide +kernel
theorem d_M_cue_25 : decode b_M_cue 25 = .ok (.iaload, 1) := by decide +kernel
theorem d_M_cue_26 : decode b_M_cue 26 = .ok (.iload_n 1, 1) := by decide +kernel
theorem d_M_cue_27 : decode b_M_cue 27 = .ok (.if_icmp .ne 7, 3) := by decide +kernel
theorem d_M_cue_30 : decode b_M_cue 30 = .ok (.iconst 1, 1) := by decide +kernel
theorem d_M_cue_31 : decode b_M_cue 31 = .ok (.goto 4, 3) := by decide +kernel
theorem d_M_cue_34 : decode b_M_cue 34 = .ok (.iconst 0, 1) := by decide +kernel
theorem d_M_cue_35 : decode b_M_cue 35 = .ok (.iadd, 1) := by decide +kernel
theorem d_M_cue_36 : decode b_M_cue 36 = .ok (.istore 4, 2) := by decide +kernel
theorem d_M_cue_38 : decode b_M_cue 38 = .ok (.iinc 5 1, 3) := by decide +kernel
theorem d_M_cue_41 : decode b_M_cue 41 = .ok (.goto (-35), 3) := by decide +kernel
theorem d_M_cue_44 : decode b_M_cue 44 = .ok (.iload_n 1, 1) := by decide +kernel
theorem d_M_cue_45 : decode b_M_cue 45 = .ok (.ifCond .lt 41, 3) := by decide +kernel
theorem d_M_cue_48 : decode b_M_cue 48 = .ok (.iload_n 1, 1) := by decide +kernel
theorem d_M_cue_49 : decode b_M_cue 49 = .ok (.iconst 4, 1) := by decide +kernel
theorem d_M_cue_50 : decode b_M_cue 50 = .ok (.if_icmp .ge 36, 3) := by decide +kernel
theorem d_M_cue_53 : decode b_M_cue 53 = .ok (.iload_n 2, 1) := by decide +kernel
theorem d_M_cue_54 : decode b_M_cue 54 = .ok (.iconst (-1), 1) := by decide +kernel
theorem d_M_cue_55 : decode b_M_cue 55 = .ok (.if_icmp .lt 31, 3) := by decide +kernel
theorem d_M_cue_58 : decode b_M_cue 58 = .ok (.iload_n 2, 1) := by decide +kernel
theorem d_M_cue_59 : decode b_M_cue 59 = .ok (.iload 4, 2) := by decide +kernel
theorem d_M_cue_61 : decode b_M_cue 61 = .ok (.if_icmp .ge 25, 3) := by decide +kernel
theorem d_M_cue_64 : decode b_M_cue 64 = .ok (.iload_n 3, 1) := by decide +kernel
theorem d_M_cue_65 : decode b_M_cue 65 = .ok (.ifCond .lt 21, 3) := by decide +kernel
theorem d_M_cue_68 : decode b_M_cue 68 = .ok (.iload_n 3, 1) := by decide +kernel
theorem d_M_cue_69 : decode b_M_cue 69 = .ok (.bipush 6, 2) := by decide +kernel
theorem d_M_cue_71 : decode b_M_cue 71 = .ok (.if_icmp .ge 15, 3) := by decide +kernel
theorem d_M_cue_74 : decode b_M_cue 74 = .ok (.iload_n 2, 1) := by decide +kernel
theorem d_M_cue_75 : decode b_M_cue 75 = .ok (.ifCond .ge 7, 3) := by decide +kernel
theorem d_M_cue_78 : decode b_M_cue 78 = .ok (.iload_n 3, 1) := by decide +kernel
theorem d_M_cue_79 : decode b_M_cue 79 = .ok (.ifCond .ne 7, 3) := by decide +kernel
theorem d_M_cue_82 : decode b_M_cue 82 = .ok (.iconst 1, 1) := by decide +kernel
theorem d_M_cue_83 : decode b_M_cue 83 = .ok (.goto 4, 3) := by decide +kernel
theorem d_M_cue_86 : decode b_M_cue 86 = .ok (.iconst 0, 1) := by decide +kernel
theorem d_M_cue_87 : decode b_M_cue 87 = .ok (.istore 5, 2) := by decide +kernel
theorem d_M_cue_89 : decode b_M_cue 89 = .ok (.aload_n 0, 1) := by decide +kernel
theorem d_M_cue_90 : decode b_M_cue 90 = .ok (.iload 5, 2) := by decide +kernel
theorem d_M_cue_92 : decode b_M_cue 92 = .ok (.ifCond .eq 7, 3) := by decide +kernel
theorem d_M_cue_95 : decode b_M_cue 95 = .ok (.iconst 0, 1) := by decide +kernel
theorem d_M_cue_96 : decode b_M_cue 96 = .ok (.goto 4, 3) := by decide +kernel
theorem d_M_cue_99 : decode b_M_cue 99 = .ok (.iconst 1, 1) := by decide +kernel
theorem d_M_cue_100 : decode b_M_cue 100 = .ok (.putfield 75, 3) := by decide +kernel
theorem d_M_cue_103 : decode b_M_cue 103 = .ok (.iload 5, 2) := by decide +kernel
theorem d_M_cue_105 : decode b_M_cue 105 = .ok (.ifCond .ne 5, 3) := by decide +kernel
theorem d_M_cue_108 : decode b_M_cue 108 = .ok (.iconst 0, 1) := by decide +kernel
theorem d_M_cue_109 : decode b_M_cue 109 = .ok (.ireturn, 1) := by decide +kernel
theorem d_M_cue_110 : decode b_M_cue 110 = .ok (.iload_n 2, 1) := by decide +kernel
theorem d_M_cue_111 : decode b_M_cue 111 = .ok (.iconst (-1), 1) := by decide +kernel
theorem d_M_cue_112 : decode b_M_cue 112 = .ok (.if_icmp .ne 6, 3) := by decide +kernel
theorem d_M_cue_115 : decode b_M_cue 115 = .ok (.iload 4, 2) := by decide +kernel
theorem d_M_cue_117 : decode b_M_cue 117 = .ok (.ireturn, 1) := by decide +kernel
theorem d_M_cue_118 : decode b_M_cue 118 = .ok (.aload_n 0, 1) := by decide +kernel
theorem d_M_cue_119 : decode b_M_cue 119 = .ok (.iload_n 1, 1) := by decide +kernel
theorem d_M_cue_120 : decode b_M_cue 120 = .ok (.iconst 0, 1) := by decide +kernel
theorem d_M_cue_121 : decode b_M_cue 121 = .ok (.invokevirtual 111, 3) := by decide +kernel
theorem d_M_cue_124 : decode b_M_cue 124 = .ok (.istore 6, 2) := by decide +kernel
theorem d_M_cue_126 : decode b_M_cue 126 = .ok (.iconst 0, 1) := by decide +kernel
theorem d_M_cue_127 : decode b_M_cue 127 = .ok (.istore 7, 2) := by decide +kernel
theorem d_M_cue_129 : decode b_M_cue 129 = .ok (.iload 7, 2) := by decide +kernel
theorem d_M_cue_131 : decode b_M_cue 131 = .ok (.iload_n 2, 1) := by decide +kernel
theorem d_M_cue_132 : decode b_M_cue 132 = .ok (.if_icmp .ge 23, 3) := by decide +kernel
theorem d_M_cue_135 : decode b_M_cue 135 = .ok (.aload_n 0, 1) := by decide +kernel
theorem d_M_cue_136 : decode b_M_cue 136 = .ok (.iload_n 1, 1) := by decide +kernel
theorem d_M_cue_137 : decode b_M_cue 137 = .ok (.aload_n 0, 1) := by decide +kernel
theorem d_M_cue_138 : decode b_M_cue 138 = .ok (.getfield 24, 3) := by decide +kernel
theorem d_M_cue_141 : decode b_M_cue 141 = .ok (.iload 6, 2) := by decide +kernel
theorem d_M_cue_143 : decode b_M_cue 143 = .ok (.iaload, 1) := by decide +kernel
theorem d_M_cue_144 : decode b_M_cue 144 = .ok (.invokevirtual 111, 3) := by decide +kernel
theorem d_M_cue_147 : decode b_M_cue 147 = .ok (.istore 6, 2) := by decide +kernel
theorem d_M_cue_149 : decode b_M_cue 149 = .ok (.iinc 7 1, 3) := by decide +kernel
theorem d_M_cue_152 : decode b_M_cue 152 = .ok (.goto (-23), 3) := by decide +kernel
theorem d_M_cue_155 : decode b_M_cue 155 = .ok (.iload_n 3, 1) := by decide +kernel
theorem d_M_cue_156 : decode b_M_cue 156 = .ok (.ifCond .ne 13, 3) := by decide +kernel
theorem d_M_cue_159 : decode b_M_cue 159 = .ok (.aload_n 0, 1) := by decide +kernel
theorem d_M_cue_160 : decode b_M_cue 160 = .ok (.getfield 24, 3) := by decide +kernel
theorem d_M_cue_163 : decode b_M_cue 163 = .ok (.iload 6, 2) := by decide +kernel
theorem d_M_cue_165 : decode b_M_cue 165 = .ok (.iaload, 1) := by decide +kernel
theorem d_M_cue_166 : decode b_M_cue 166 = .ok (.goto 69, 3) := by decide +kernel
theorem d_M_cue_169 : decode b_M_cue 169 = .ok (.iload_n 3, 1) := by decide +kernel
theorem d_M_cue_170 : decode b_M_cue 170 = .ok (.iconst 1, 1) := by decide +kernel
theorem d_M_cue_171 : decode b_M_cue 171 = .ok (.if_icmp .ne 12, 3) := by decide +kernel
theorem d_M_cue_174 : decode b_M_cue 174 = .ok (.aload_n 0, 1) := by decide +kernel
theorem d_M_cue_175 : decode b_M_cue 175 = .ok (.iload 6, 2) := by decide +kernel
theorem d_M_cue_177 : decode b_M_cue 177 = .ok (.invokevirtual 97, 3) := by decide +kernel
theorem d_M_cue_180 : decode b_M_cue 180 = .ok (.goto 55, 3) := by decide +kernel
theorem d_M_cue_183 : decode b_M_cue 183 = .ok (.iload_n 3, 1) := by decide +kernel
theorem d_M_cue_184 : decode b_M_cue 184 = .ok (.iconst 2, 1) := by decide +kernel
theorem d_M_cue_185 : decode b_M_cue 185 = .ok (.if_icmp .ne 13, 3) := by decide +kernel
theorem d_M_cue_188 : decode b_M_cue 188 = .ok (.aload_n 0, 1) := by decide +kernel
theorem d_M_cue_189 : decode b_M_cue 189 = .ok (.getfield 27, 3) := by decide +kernel
theorem d_M_cue_192 : decode b_M_cue 192 = .ok (.iload 6, 2) := by decide +kernel
theorem d_M_cue_194 : decode b_M_cue 194 = .ok (.iaload, 1) := by decide +kernel
theorem d_M_cue_195 : decode b_M_cue 195 = .ok (.goto 40, 3) := by decide +kernel
theorem d_M_cue_198 : decode b_M_cue 198 = .ok (.iload_n 3, 1) := by decide +kernel
theorem d_M_cue_199 : decode b_M_cue 199 = .ok (.iconst 3, 1) := by decide +kernel
theorem d_M_cue_200 : decode b_M_cue 200 = .ok (.if_icmp .ne 13, 3) := by decide +kernel
theorem d_M_cue_203 : decode b_M_cue 203 = .ok (.aload_n 0, 1) := by decide +kernel
theorem d_M_cue_204 : decode b_M_cue 204 = .ok (.getfield 30, 3) := by decide +kernel
theorem d_M_cue_207 : decode b_M_cue 207 = .ok (.iload 6, 2) := by decide +kernel
theorem d_M_cue_209 : decode b_M_cue 209 = .ok (.iaload, 1) := by decide +kernel
theorem d_M_cue_210 : decode b_M_cue 210 = .ok (.goto 25, 3) := by decide +kernel
theorem d_M_cue_213 : decode b_M_cue 213 = .ok (.iload_n 3, 1) := by decide +kernel
theorem d_M_cue_214 : decode b_M_cue 214 = .ok (.iconst 4, 1) := by decide +kernel
theorem d_M_cue_215 : decode b_M_cue 215 = .ok (.if_icmp .ne 13, 3) := by decide +kernel
theorem d_M_cue_218 : decode b_M_cue 218 = .ok (.aload_n 0, 1) := by decide +kernel
theorem d_M_cue_219 : decode b_M_cue 219 = .ok (.getfield 33, 3) := by decide +kernel
theorem d_M_cue_222 : decode b_M_cue 222 = .ok (.iload 6, 2) := by decide +kernel
theorem d_M_cue_224 : decode b_M_cue 224 = .ok (.iaload, 1) := by decide +kernel
theorem d_M_cue_225 : decode b_M_cue 225 = .ok (.goto 10, 3) := by decide +kernel
theorem d_M_cue_228 : decode b_M_cue 228 = .ok (.aload_n 0, 1) := by decide +kernel
theorem d_M_cue_229 : decode b_M_cue 229 = .ok (.getfield 36, 3) := by decide +kernel
theorem d_M_cue_232 : decode b_M_cue 232 = .ok (.iload 6, 2) := by decide +kernel
theorem d_M_cue_234 : decode b_M_cue 234 = .ok (.iaload, 1) := by decide +kernel
theorem d_M_cue_235 : decode b_M_cue 235 = .ok (.ireturn, 1) := by decide +kernel
theorem d_M_assign_0 : decode b_M_assign 0 = .ok (.aload_n 0, 1) := by decide +kernel
theorem d_M_assign_1 : decode b_M_assign 1 = .ok (.iconst 0, 1) := by decide +kernel
theorem d_M_assign_2 : decode b_M_assign 2 = .ok (.putfield 75, 3) := by decide +kernel
theorem d_M_assign_5 : decode b_M_assign 5 = .ok (.iload_n 1, 1) := by decide +kernel
theorem d_M_assign_6 : decode b_M_assign 6 = .ok (.invokestatic 148, 3) := by decide +kernel
theorem d_M_assign_9 : decode b_M_assign 9 = .ok (.ifCond .eq 22, 3) := by decide +kernel
theorem d_M_assign_12 : decode b_M_assign 12 = .ok (.iload_n 2, 1) := by decide +kernel
theorem d_M_assign_13 : decode b_M_assign 13 = .ok (.ifCond .lt 18, 3) := by decide +kernel
theorem d_M_assign_16 : decode b_M_assign 16 = .ok (.iload_n 2, 1) := by decide +kernel
theorem d_M_assign_17 : decode b_M_assign 17 = .ok (.iconst 3, 1) := by decide +kernel
theorem d_M_assign_18 : decode b_M_assign 18 = .ok (.if_icmp .gt 13, 3) := by decide +kernel
theorem d_M_assign_21 : decode b_M_assign 21 = .ok (.aload_n 0, 1) := by decide +kernel
theorem d_M_assign_22 : decode b_M_assign 22 = .ok (.getfield 54, 3) := by decide +kernel
theorem d_M_assign_25 : decode b_M_assign 25 = .ok (.iload_n 1, 1) := by decide +kernel
theorem d_M_assign_26 : decode b_M_assign 26 = .ok (.iaload, 1) := by decide +kernel
theorem d_M_assign_27 : decode b_M_assign 27 = .ok (.iconst (-1), 1) := by decide +kernel
theorem d_M_assign_28 : decode b_M_assign 28 = .ok (.if_icmp .eq 5, 3) := by decide +kernel
theorem d_M_assign_31 : decode b_M_assign 31 = .ok (.iconst 0, 1) := by decide +kernel
theorem d_M_assign_32 : decode b_M_assign 32 = .ok (.ireturn, 1) := by decide +kernel
theorem d_M_assign_33 : decode b_M_assign 33 = .ok (.aload_n 0, 1) := by decide +kernel
theorem d_M_assign_34 : decode b_M_assign 34 = .ok (.getfield 45, 3) := by decide +kernel
theorem d_M_assign_37 : decode b_M_assign 37 = .ok (.iload_n 1, 1) := by decide +kernel
theorem d_M_assign_38 : decode b_M_assign 38 = .ok (.iload_n 2, 1) := by decide +kernel
theorem d_M_assign_39 : decode b_M_assign 39 = .ok (.iastore, 1) := by decide +kernel
theorem d_M_assign_40 : decode b_M_assign 40 = .ok (.iconst 1, 1) := by decide +kernel
theorem d_M_assign_41 : decode b_M_assign 41 = .ok (.ireturn, 1) := by decide +kernel
theorem d_M_levelAt_0 : decode b_M_levelAt 0 = .ok (.bipush 64, 2) := by decide +kernel
theorem d_M_levelAt_2 : decode b_M_levelAt 2 = .ok (.iload_n 1, 1) := by decide +kernel
theorem d_M_levelAt_3 : decode b_M_levelAt 3 = .ok (.imul, 1) := by decide +kernel
theorem d_M_levelAt_4 : decode b_M_levelAt 4 = .ok (.iload_n 2, 1) := by decide +kernel
theorem d_M_levelAt_5 : decode b_M_levelAt 5 = .ok (.iadd, 1) := by decide +kernel
theorem d_M_levelAt_6 : decode b_M_levelAt 6 = .ok (.istore 4, 2) := by decide +kernel
theorem d_M_levelAt_8 : decode b_M_levelAt 8 = .ok (.iload_n 3, 1) := by decide +kernel
theorem d_M_levelAt_9 : decode b_M_levelAt 9 = .ok (.aload_n 0, 1) := by decide +kernel
theorem d_M_levelAt_10 : decode b_M_levelAt 10 = .ok (.getfield 66, 3) := by decide +kernel
theorem d_M_levelAt_13 : decode b_M_levelAt 13 = .ok (.iload 4, 2) := by decide +kernel
theorem d_M_levelAt_15 : decode b_M_levelAt 15 = .ok (.iaload, 1) := by decide +kernel
theorem d_M_levelAt_16 : decode b_M_levelAt 16 = .ok (.if_icmp .ge 11, 3) := by decide +kernel
theorem d_M_levelAt_19 : decode b_M_levelAt 19 = .ok (.aload_n 0, 1) := by decide +kernel
theorem d_M_levelAt_20 : decode b_M_levelAt 20 = .ok (.getfield 60, 3) := by decide +kernel
theorem d_M_levelAt_23 : decode b_M_levelAt 23 = .ok (.iload 4, 2) := by decide +kernel
theorem d_M_levelAt_25 : decode b_M_levelAt 25 = .ok (.saload, 1) := by decide +kernel
theorem d_M_levelAt_26 : decode b_M_levelAt 26 = .ok (.ireturn, 1) := by decide +kernel
theorem d_M_levelAt_27 : decode b_M_levelAt 27 = .ok (.iload_n 3, 1) := by decide +kernel
theorem d_M_levelAt_28 : decode b_M_levelAt 28 = .ok (.aload_n 0, 1) := by decide +kernel
theorem d_M_levelAt_29 : decode b_M_levelAt 29 = .ok (.getfield 66, 3) := by decide +kernel
theorem d_M_levelAt_32 : decode b_M_levelAt 32 = .ok (.iload 4, 2) := by decide +kernel
theorem d_M_levelAt_34 : decode b_M_levelAt 34 = .ok (.iaload, 1) := by decide +kernel
theorem d_M_levelAt_35 : decode b_M_levelAt 35 = .ok (.isub, 1) := by decide +kernel
theorem d_M_levelAt_36 : decode b_M_levelAt 36 = .ok (.aload_n 0, 1) := by decide +kernel
theorem d_M_levelAt_37 : decode b_M_levelAt 37 = .ok (.getfield 69, 3) := by decide +kernel
theorem d_M_levelAt_40 : decode b_M_levelAt 40 = .ok (.iload 4, 2) := by decide +kernel
theorem d_M_levelAt_42 : decode b_M_levelAt 42 = .ok (.iaload, 1) := by decide +kernel
theorem d_M_levelAt_43 : decode b_M_levelAt 43 = .ok (.if_icmp .lt 11, 3) := by decide +kernel
theorem d_M_levelAt_46 : decode b_M_levelAt 46 = .ok (.aload_n 0, 1) := by decide +kernel
theorem d_M_levelAt_47 : decode b_M_levelAt 47 = .ok (.getfield 63, 3) := by decide +kernel
theorem d_M_levelAt_50 : decode b_M_levelAt 50 = .ok (.iload 4, 2) := by decide +kernel
theorem d_M_levelAt_52 : decode b_M_levelAt 52 = .ok (.saload, 1) := by decide +kernel
theorem d_M_levelAt_53 : decode b_M_levelAt 53 = .ok (.ireturn, 1) := by decide +kernel
theorem d_M_levelAt_54 : decode b_M_levelAt 54 = .ok (.aload_n 0, 1) := by decide +kernel
theorem d_M_levelAt_55 : decode b_M_levelAt 55 = .ok (.getfield 60, 3) := by decide +kernel
theorem d_M_levelAt_58 : decode b_M_levelAt 58 = .ok (.iload 4, 2) := by decide +kernel
theorem d_M_levelAt_60 : decode b_M_levelAt 60 = .ok (.saload, 1) := by decide +kernel
theorem d_M_levelAt_61 : decode b_M_levelAt 61 = .ok (.aload_n 0, 1) := by decide +kernel
theorem d_M_levelAt_62 : decode b_M_levelAt 62 = .ok (.getfield 63, 3) := by decide +kernel
theorem d_M_levelAt_65 : decode b_M_levelAt 65 = .ok (.iload 4, 2) := by decide +kernel
theorem d_M_levelAt_67 : decode b_M_levelAt 67 = .ok (.saload, 1) := by decide +kernel
theorem d_M_levelAt_68 : decode b_M_levelAt 68 = .ok (.aload_n 0, 1) := by decide +kernel
theorem d_M_levelAt_69 : decode b_M_levelAt 69 = .ok (.getfield 60, 3) := by decide +kernel
theorem d_M_levelAt_72 : decode b_M_levelAt 72 = .ok (.iload 4, 2) := by decide +kernel
theorem d_M_levelAt_74 : decode b_M_levelAt 74 = .ok (.saload, 1) := by decide +kernel
theorem d_M_levelAt_75 : decode b_M_levelAt 75 = .ok (.isub, 1) := by decide +kernel
theorem d_M_levelAt_76 : decode b_M_levelAt 76 = .ok (.iload_n 3, 1) := by decide +kernel
theorem d_M_levelAt_77 : decode b_M_levelAt 77 = .ok (.aload_n 0, 1) := by decide +kernel
theorem d_M_levelAt_78 : decode b_M_levelAt 78 = .ok (.getfield 66, 3) := by decide +kernel
theorem d_M_levelAt_81 : decode b_M_levelAt 81 = .ok (.iload 4, 2) := by decide +kernel
theorem d_M_levelAt_83 : decode b_M_levelAt 83 = .ok (.iaload, 1) := by decide +kernel
theorem d_M_levelAt_84 : decode b_M_levelAt 84 = .ok (.isub, 1) := by decide +kernel
theorem d_M_levelAt_85 : decode b_M_levelAt 85 = .ok (.imul, 1) := by decide +kernel
theorem d_M_levelAt_86 : decode b_M_levelAt 86 = .ok (.aload_n 0, 1) := by decide +kernel
theorem d_M_levelAt_87 : decode b_M_levelAt 87 = .ok (.getfield 69, 3) := by decide +kernel
theorem d_M_levelAt_90 : decode b_M_levelAt 90 = .ok (.iload 4, 2) := by decide +kernel
theorem d_M_levelAt_92 : decode b_M_levelAt 92 = .ok (.iaload, 1) := by decide +kernel
theorem d_M_levelAt_93 : decode b_M_levelAt 93 = .ok (.idiv, 1) := by decide +kernel
theorem d_M_levelAt_94 : decode b_M_levelAt 94 = .ok (.iadd, 1) := by decide +kernel
theorem d_M_levelAt_95 : decode b_M_levelAt 95 = .ok (.ireturn, 1) := by decide +kernel
theorem d_M_start_0 : decode b_M_start 0 = .ok (.iconst 0, 1) := by decide +kernel
theorem d_M_start_1 : decode b_M_start 1 = .ok (.istore 4, 2) := by decide +kernel
theorem d_M_start_3 : decode b_M_start 3 = .ok (.iload 4, 2) := by decide +kernel
theorem d_M_start_5 : decode b_M_start 5 = .ok (.bipush 64, 2) := by decide +kernel
theorem d_M_start_7 : decode b_M_start 7 = .ok (.if_icmp .ge 125, 3) := by decide +kernel
theorem d_M_start_10 : decode b_M_start 10 = .ok (.aload_n 0, 1) := by decide +kernel
theorem d_M_start_11 : decode b_M_start 11 = .ok (.aload_n 0, 1) := by decide +kernel
theorem d_M_start_12 : decode b_M_start 12 = .ok (.getfield 20, 3) := by decide +kernel
theorem d_M_start_15 : decode b_M_start 15 = .ok (.iload_n 2, 1) := by decide +kernel
theorem d_M_start_16 : decode b_M_start 16 = .ok (.iaload, 1) := by decide +kernel
theorem d_M_start_17 : decode b_M_start 17 = .ok (.aload_n 0, 1) := by decide +kernel
theorem d_M_start_18 : decode b_M_start 18 = .ok (.getfield 24, 3) := by decide +kernel
theorem d_M_start_21 : decode b_M_start 21 = .ok (.iload_n 2, 1) := by decide +kernel
theorem d_M_start_22 : decode b_M_start 22 = .ok (.iaload, 1) := by decide +kernel
theorem d_M_start_23 : decode b_M_start 23 = .ok (.iload 4, 2) := by decide +kernel
theorem d_M_start_25 : decode b_M_start 25 = .ok (.invokevirtual 145, 3) := by decide +kernel
theorem d_M_start_28 : decode b_M_start 28 = .ok (.istore 5, 2) := by decide +kernel
theorem d_M_start_30 : decode b_M_start 30 = .ok (.iload 5, 2) := by decide +kernel
theorem d_M_start_32 : decode b_M_start 32 = .ok (.ifCond .lt 94, 3) := by decide +kernel
theorem d_M_start_35 : decode b_M_start 35 = .ok (.bipush 64, 2) := by decide +kernel
theorem d_M_start_37 : decode b_M_start 37 = .ok (.iload_n 1, 1) := by decide +kernel
theorem d_M_start_38 : decode b_M_start 38 = .ok (.imul, 1) := by decide +kernel
theorem d_M_start_39 : decode b_M_start 39 = .ok (.iload 4, 2) := by decide +kernel
theorem d_M_start_41 : decode b_M_start 41 = .ok (.iadd, 1) := by decide +kernel
theorem d_M_start_42 : decode b_M_start 42 = .ok (.istore 6, 2) := by decide +kernel
theorem d_M_start_44 : decode b_M_start 44 = .ok (.aload_n 0, 1) := by decide +kernel
theorem d_M_start_45 : decode b_M_start 45 = .ok (.iload_n 1, 1) := by decide +kernel
theorem d_M_start_46 : decode b_M_start 46 = .ok (.iload 4, 2) := by decide +kernel
theorem d_M_start_48 : decode b_M_start 48 = .ok (.iload_n 3, 1) := by decide +kernel
theorem d_M_start_49 : decode b_M_start 49 = .ok (.invokevirtual 151, 3) := by decide +kernel
theorem d_M_start_52 : decode b_M_start 52 = .ok (.istore 7, 2) := by decide +kernel
theorem d_M_start_54 : decode b_M_start 54 = .ok (.aload_n 0, 1) := by decide +kernel
theorem d_M_start_55 : decode b_M_start 55 = .ok (.getfield 60, 3) := by decide +kernel
theorem d_M_start_58 : decode b_M_start 58 = .ok (.iload 6, 2) := by decide +kernel
theorem d_M_start_60 : decode b_M_start 60 = .ok (.iload 7, 2) := by decide +kernel
theorem d_M_start_62 : decode b_M_start 62 = .ok (.i2s, 1) := by decide +kernel
theorem d_M_start_63 : decode b_M_start 63 = .ok (.sastore, 1) := by decide +kernel
theorem d_M_start_64 : decode b_M_start 64 = .ok (.aload_n 0, 1) := by decide +kernel
theorem d_M_start_65 : decode b_M_start 65 = .ok (.getfield 63, 3) := by decide +kernel
theorem d_M_start_68 : decode b_M_start 68 = .ok (.iload 6, 2) := by decide +kernel
theorem d_M_start_70 : decode b_M_start 70 = .ok (.iload 5, 2) := by decide +kernel
theorem d_M_start_72 : decode b_M_start 72 = .ok (.i2s, 1) := by decide +kernel
theorem d_M_start_73 : decode b_M_start 73 = .ok (.sastore, 1) := by decide +kernel
theorem d_M_start_74 : decode b_M_start 74 = .ok (.aload_n 0, 1) := by decide +kernel
theorem d_M_start_75 : decode b_M_start 75 = .ok (.getfield 66, 3) := by decide +kernel
theorem d_M_start_78 : decode b_M_start 78 = .ok (.iload 6, 2) := by decide +kernel
theorem d_M_start_80 : decode b_M_start 80 = .ok (.iload_n 3, 1) := by decide +kernel
theorem d_M_start_81 : decode b_M_start 81 = .ok (.aload_n 0, 1) := by decide +kernel
theorem d_M_start_82 : decode b_M_start 82 = .ok (.getfield 33, 3) := by decide +kernel
theorem d_M_start_85 : decode b_M_start 85 = .ok (.iload_n 2, 1) := by decide +kernel
theorem d_M_start_86 : decode b_M_start 86 = .ok (.iaload, 1) := by decide +kernel
theorem d_M_start_87 : decode b_M_start 87 = .ok (.iadd, 1) := by decide +kernel
theorem d_M_start_88 : decode b_M_start 88 = .ok (.iastore, 1) := by decide +kernel
theorem d_M_start_89 : decode b_M_start 89 = .ok (.aload_n 0, 1) := by decide +kernel
theorem d_M_start_90 : decode b_M_start 90 = .ok (.getfield 69, 3) := by decide +kernel
theorem d_M_start_93 : decode b_M_start 93 = .ok (.iload 6, 2) := by decide +kernel
theorem d_M_start_95 : decode b_M_start 95 = .ok (.iload 5, 2) := by decide +kernel
theorem d_M_start_97 : decode b_M_start 97 = .ok (.iload 7, 2) := by decide +kernel
theorem d_M_start_99 : decode b_M_start 99 = .ok (.if_icmp .lt 12, 3) := by decide +kernel
theorem d_M_start_102 : decode b_M_start 102 = .ok (.aload_n 0, 1) := by decide +kernel
theorem d_M_start_103 : decode b_M_start 103 = .ok (.getfield 27, 3) := by decide +kernel
theorem d_M_start_106 : decode b_M_start 106 = .ok (.iload_n 2, 1) := by decide +kernel
theorem d_M_start_107 : decode b_M_start 107 = .ok (.iaload, 1) := by decide +kernel
theorem d_M_start_108 : decode b_M_start 108 = .ok (.goto 9, 3) := by decide +kernel
theorem d_M_start_111 : decode b_M_start 111 = .ok (.aload_n 0, 1) := by decide +kernel
theorem d_M_start_112 : decode b_M_start 112 = .ok (.getfield 30, 3) := by decide +kernel
theorem d_M_start_115 : decode b_M_start 115 = .ok (.iload_n 2, 1) := by decide +kernel
theorem d_M_start_116 : decode b_M_start 116 = .ok (.iaload, 1) := by decide +kernel
theorem d_M_start_117 : decode b_M_start 117 = .ok (.iastore, 1) := by decide +kernel
theorem d_M_start_118 : decode b_M_start 118 = .ok (.aload_n 0, 1) := by decide +kernel
theorem d_M_start_119 : decode b_M_start 119 = .ok (.getfield 72, 3) := by decide +kernel
theorem d_M_start_122 : decode b_M_start 122 = .ok (.iload 6, 2) := by decide +kernel
theorem d_M_start_124 : decode b_M_start 124 = .ok (.iload_n 3, 1) := by decide +kernel
theorem d_M_start_125 : decode b_M_start 125 = .ok (.iastore, 1) := by decide +kernel
theorem d_M_start_126 : decode b_M_start 126 = .ok (.iinc 4 1, 3) := by decide +kernel
theorem d_M_start_129 : decode b_M_start 129 = .ok (.goto (-126), 3) := by decide +kernel
theorem d_M_start_132 : decode b_M_start 132 = .ok (.aload_n 0, 1) := by decide +kernel
theorem d_M_start_133 : decode b_M_start 133 = .ok (.getfield 51, 3) := by decide +kernel
theorem d_M_start_136 : decode b_M_start 136 = .ok (.iload_n 1, 1) := by decide +kernel
theorem d_M_start_137 : decode b_M_start 137 = .ok (.aload_n 0, 1) := by decide +kernel
theorem d_M_start_138 : decode b_M_start 138 = .ok (.getfield 24, 3) := by decide +kernel
theorem d_M_start_141 : decode b_M_start 141 = .ok (.iload_n 2, 1) := by decide +kernel
theorem d_M_start_142 : decode b_M_start 142 = .ok (.iaload, 1) := by decide +kernel
theorem d_M_start_143 : decode b_M_start 143 = .ok (.iastore, 1) := by decide +kernel
theorem d_M_start_144 : decode b_M_start 144 = .ok (.aload_n 0, 1) := by decide +kernel
theorem d_M_start_145 : decode b_M_start 145 = .ok (.getfield 54, 3) := by decide +kernel
theorem d_M_start_148 : decode b_M_start 148 = .ok (.iload_n 1, 1) := by decide +kernel
theorem d_M_start_149 : decode b_M_start 149 = .ok (.iload_n 3, 1) := by decide +kernel
theorem d_M_start_150 : decode b_M_start 150 = .ok (.iastore, 1) := by decide +kernel
theorem d_M_start_151 : decode b_M_start 151 = .ok (.aload_n 0, 1) := by decide +kernel
theorem d_M_start_152 : decode b_M_start 152 = .ok (.getfield 57, 3) := by decide +kernel
theorem d_M_start_155 : decode b_M_start 155 = .ok (.iload_n 1, 1) := by decide +kernel
theorem d_M_start_156 : decode b_M_start 156 = .ok (.aload_n 0, 1) := by decide +kernel
theorem d_M_start_157 : decode b_M_start 157 = .ok (.getfield 36, 3) := by decide +kernel
theorem d_M_start_160 : decode b_M_start 160 = .ok (.iload_n 2, 1) := by decide +kernel
theorem d_M_start_161 : decode b_M_start 161 = .ok (.iaload, 1) := by decide +kernel
theorem d_M_start_162 : decode b_M_start 162 = .ok (.iconst (-1), 1) := by decide +kernel
theorem d_M_start_163 : decode b_M_start 163 = .ok (.if_icmp .ne 7, 3) := by decide +kernel
theorem d_M_start_166 : decode b_M_start 166 = .ok (.iconst (-1), 1) := by decide +kernel
theorem d_M_start_167 : decode b_M_start 167 = .ok (.goto 11, 3) := by decide +kernel
theorem d_M_start_170 : decode b_M_start 170 = .ok (.iload_n 3, 1) := by decide +kernel
theorem d_M_start_171 : decode b_M_start 171 = .ok (.aload_n 0, 1) := by decide +kernel
theorem d_M_start_172 : decode b_M_start 172 = .ok (.getfield 36, 3) := by decide +kernel
theorem d_M_start_175 : decode b_M_start 175 = .ok (.iload_n 2, 1) := by decide +kernel
theorem d_M_start_176 : decode b_M_start 176 = .ok (.iaload, 1) := by decide +kernel
theorem d_M_start_177 : decode b_M_start 177 = .ok (.iadd, 1) := by decide +kernel
theorem d_M_start_178 : decode b_M_start 178 = .ok (.iastore, 1) := by decide +kernel
theorem d_M_start_179 : decode b_M_start 179 = .ok (.aload_n 0, 1) := by decide +kernel
theorem d_M_start_180 : decode b_M_start 180 = .ok (.dup, 1) := by decide +kernel
theorem d_M_start_181 : decode b_M_start 181 = .ok (.getfield 154, 3) := by decide +kernel
theorem d_M_start_184 : decode b_M_start 184 = .ok (.iconst 1, 1) := by decide +kernel
theorem d_M_start_185 : decode b_M_start 185 = .ok (.iadd, 1) := by decide +kernel
theorem d_M_start_186 : decode b_M_start 186 = .ok (.putfield 154, 3) := by decide +kernel
theorem d_M_start_189 : decode b_M_start 189 = .ok (.return_, 1) := by decide +kernel
theorem d_M_tell_0 : decode b_M_tell 0 = .ok (.iconst 1, 1) := by decide +kernel
theorem d_M_tell_1 : decode b_M_tell 1 = .ok (.istore_n 2, 1) := by decide +kernel
theorem d_M_tell_2 : decode b_M_tell 2 = .ok (.iload_n 2, 1) := by decide +kernel
theorem d_M_tell_3 : decode b_M_tell 3 = .ok (.ifCond .eq 128, 3) := by decide +kernel
theorem d_M_tell_6 : decode b_M_tell 6 = .ok (.iconst (-1), 1) := by decide +kernel
theorem d_M_tell_7 : decode b_M_tell 7 = .ok (.istore_n 3, 1) := by decide +kernel
theorem d_M_tell_8 : decode b_M_tell 8 = .ok (.iconst 5, 1) := by decide +kernel
theorem d_M_tell_9 : decode b_M_tell 9 = .ok (.istore 4, 2) := by decide +kernel
theorem d_M_tell_11 : decode b_M_tell 11 = .ok (.iload 4, 2) := by decide +kernel
theorem d_M_tell_13 : decode b_M_tell 13 = .ok (.ifCond .lt 54, 3) := by decide +kernel
theorem d_M_tell_16 : decode b_M_tell 16 = .ok (.aload_n 0, 1) := by decide +kernel
theorem d_M_tell_17 : decode b_M_tell 17 = .ok (.getfield 57, 3) := by decide +kernel
theorem d_M_tell_20 : decode b_M_tell 20 = .ok (.iload 4, 2) := by decide +kernel
theorem d_M_tell_22 : decode b_M_tell 22 = .ok (.iaload, 1) := by decide +kernel
theorem d_M_tell_23 : decode b_M_tell 23 = .ok (.iconst (-1), 1) := by decide +kernel
theorem d_M_tell_24 : decode b_M_tell 24 = .ok (.if_icmp .eq 37, 3) := by decide +kernel
theorem d_M_tell_27 : decode b_M_tell 27 = .ok (.aload_n 0, 1) := by decide +kernel
theorem d_M_tell_28 : decode b_M_tell 28 = .ok (.getfield 57, 3) := by decide +kernel
theorem d_M_tell_31 : decode b_M_tell 31 = .ok (.iload 4, 2) := by decide +kernel
theorem d_M_tell_33 : decode b_M_tell 33 = .ok (.iaload, 1) := by decide +kernel
theorem d_M_tell_34 : decode b_M_tell 34 = .ok (.iload_n 1, 1) := by decide +kernel
theorem d_M_tell_35 : decode b_M_tell 35 = .ok (.if_icmp .gt 26, 3) := by decide +kernel
theorem d_M_tell_38 : decode b_M_tell 38 = .ok (.iload_n 3, 1) := by decide +kernel
theorem d_M_tell_39 : decode b_M_tell 39 = .ok (.ifCond .lt 19, 3) := by decide +kernel
theorem d_M_tell_42 : decode b_M_tell 42 = .ok (.aload_n 0, 1) := by decide +kernel
theorem d_M_tell_43 : decode b_M_tell 43 = .ok (.getfield 57, 3) := by decide +kernel
theorem d_M_tell_46 : decode b_M_tell 46 = .ok (.iload 4, 2) := by decide +kernel
theorem d_M_tell_48 : decode b_M_tell 48 = .ok (.iaload, 1) := by decide +kernel
theorem d_M_tell_49 : decode b_M_tell 49 = .ok (.aload_n 0, 1) := by decide +kernel
theorem d_M_tell_50 : decode b_M_tell 50 = .ok (.getfield 57, 3) := by decide +kernel
theorem d_M_tell_53 : decode b_M_tell 53 = .ok (.iload_n 3, 1) := by decide +kernel
theorem d_M_tell_54 : decode b_M_tell 54 = .ok (.iaload, 1) := by decide +kernel
theorem d_M_tell_55 : decode b_M_tell 55 = .ok (.if_icmp .gt 6, 3) := by decide +kernel
theorem d_M_tell_58 : decode b_M_tell 58 = .ok (.iload 4, 2) := by decide +kernel
theorem d_M_tell_60 : decode b_M_tell 60 = .ok (.istore_n 3, 1) := by decide +kernel
theorem d_M_tell_61 : decode b_M_tell 61 = .ok (.iinc 4 (-1), 3) := by decide +kernel
theorem d_M_tell_64 : decode b_M_tell 64 = .ok (.goto (-53), 3) := by decide +kernel
theorem d_M_tell_67 : decode b_M_tell 67 = .ok (.iload_n 3, 1) := by decide +kernel
theorem d_M_tell_68 : decode b_M_tell 68 = .ok (.ifCond .lt 7, 3) := by decide +kernel
theorem d_M_tell_71 : decode b_M_tell 71 = .ok (.iconst 1, 1) := by decide +kernel
theorem d_M_tell_72 : decode b_M_tell 72 = .ok (.goto 4, 3) := by decide +kernel
theorem d_M_tell_75 : decode b_M_tell 75 = .ok (.iconst 0, 1) := by decide +kernel
theorem d_M_tell_76 : decode b_M_tell 76 = .ok (.istore_n 2, 1) := by decide +kernel
theorem d_M_tell_77 : decode b_M_tell 77 = .ok (.iload_n 2, 1) := by decide +kernel
theorem d_M_tell_78 : decode b_M_tell 78 = .ok (.ifCond .eq 50, 3) := by decide +kernel
theorem d_M_tell_81 : decode b_M_tell 81 = .ok (.aload_n 0, 1) := by decide +kernel
theorem d_M_tell_82 : decode b_M_tell 82 = .ok (.getfield 57, 3) := by decide +kernel
theorem d_M_tell_85 : decode b_M_tell 85 = .ok (.iload_n 3, 1) := by decide +kernel
theorem d_M_tell_86 : decode b_M_tell 86 = .ok (.iaload, 1) := by decide +kernel
theorem d_M_tell_87 : decode b_M_tell 87 = .ok (.istore 4, 2) := by decide +kernel
theorem d_M_tell_89 : decode b_M_tell 89 = .ok (.aload_n 0, 1) := by decide +kernel
theorem d_M_tell_90 : decode b_M_tell 90 = .ok (.aload_n 0, 1) := by decide +kernel
theorem d_M_tell_91 : decode b_M_tell 91 = .ok (.getfield 45, 3) := by decide +kernel
theorem d_M_tell_94 : decode b_M_tell 94 = .ok (.iload_n 3, 1) := by decide +kernel
theorem d_M_tell_95 : decode b_M_tell 95 = .ok (.iaload, 1) := by decide +kernel
theorem d_M_tell_96 : decode b_M_tell 96 = .ok (.aload_n 0, 1) := by decide +kernel
theorem d_M_tell_97 : decode b_M_tell 97 = .ok (.getfield 51, 3) := by decide +kernel
theorem d_M_tell_100 : decode b_M_tell 100 = .ok (.iload_n 3, 1) := by decide +kernel
theorem d_M_tell_101 : decode b_M_tell 101 = .ok (.iaload, 1) := by decide +kernel
theorem d_M_tell_102 : decode b_M_tell 102 = .ok (.invokevirtual 111, 3) := by decide +kernel
theorem d_M_tell_105 : decode b_M_tell 105 = .ok (.istore 5, 2) := by decide +kernel
theorem d_M_tell_107 : decode b_M_tell 107 = .ok (.aload_n 0, 1) := by decide +kernel
theorem d_M_tell_108 : decode b_M_tell 108 = .ok (.getfield 57, 3) := by decide +kernel
theorem d_M_tell_111 : decode b_M_tell 111 = .ok (.iload_n 3, 1) := by decide +kernel
theorem d_M_tell_112 : decode b_M_tell 112 = .ok (.iconst (-1), 1) := by decide +kernel
theorem d_M_tell_113 : decode b_M_tell 113 = .ok (.iastore, 1) := by decide +kernel
theorem d_M_tell_114 : decode b_M_tell 114 = .ok (.iload 5, 2) := by decide +kernel
theorem d_M_tell_116 : decode b_M_tell 116 = .ok (.ifCond .lt 12, 3) := by decide +kernel
theorem d_M_tell_119 : decode b_M_tell 119 = .ok (.aload_n 0, 1) := by decide +kernel
theorem d_M_tell_120 : decode b_M_tell 120 = .ok (.iload_n 3, 1) := by decide +kernel
theorem d_M_tell_121 : decode b_M_tell 121 = .ok (.iload 5, 2) := by decide +kernel
theorem d_M_tell_123 : decode b_M_tell 123 = .ok (.iload 4, 2) := by decide +kernel
theorem d_M_tell_125 : decode b_M_tell 125 = .ok (.invokevirtual 157, 3) := by decide +kernel
theorem d_M_tell_128 : decode b_M_tell 128 = .ok (.goto (-126), 3) := by decide +kernel
theorem d_M_tell_131 : decode b_M_tell 131 = .ok (.aload_n 0, 1) := by decide +kernel
theorem d_M_tell_132 : decode b_M_tell 132 = .ok (.iload_n 1, 1) := by decide +kernel
theorem d_M_tell_133 : decode b_M_tell 133 = .ok (.putfield 160, 3) := by decide +kernel
theorem d_M_tell_136 : decode b_M_tell 136 = .ok (.return_, 1) := by decide +kernel
theorem d_M_isTick_0 : decode b_M_isTick 0 = .ok (.iload_n 1, 1) := by decide +kernel
theorem d_M_isTick_1 : decode b_M_isTick 1 = .ok (.aload_n 0, 1) := by decide +kernel
theorem d_M_isTick_2 : decode b_M_isTick 2 = .ok (.getfield 160, 3) := by decide +kernel
theorem d_M_isTick_5 : decode b_M_isTick 5 = .ok (.if_icmp .lt 13, 3) := by decide +kernel
theorem d_M_isTick_8 : decode b_M_isTick 8 = .ok (.iload_n 1, 1) := by decide +kernel
theorem d_M_isTick_9 : decode b_M_isTick 9 = .ok (.ldc 163, 2) := by decide +kernel
theorem d_M_isTick_11 : decode b_M_isTick 11 = .ok (.if_icmp .gt 7, 3) := by decide +kernel
theorem d_M_isTick_14 : decode b_M_isTick 14 = .ok (.iconst 1, 1) := by decide +kernel
theorem d_M_isTick_15 : decode b_M_isTick 15 = .ok (.goto 4, 3) := by decide +kernel
theorem d_M_isTick_18 : decode b_M_isTick 18 = .ok (.iconst 0, 1) := by decide +kernel
theorem d_M_isTick_19 : decode b_M_isTick 19 = .ok (.ireturn, 1) := by decide +kernel
theorem d_M_go_0 : decode b_M_go 0 = .ok (.aload_n 0, 1) := by decide +kernel
theorem d_M_go_1 : decode b_M_go 1 = .ok (.iload_n 1, 1) := by decide +kernel
theorem d_M_go_2 : decode b_M_go 2 = .ok (.invokestatic 148, 3) := by decide +kernel
theorem d_M_go_5 : decode b_M_go 5 = .ok (.ifCond .eq 15, 3) := by decide +kernel
theorem d_M_go_8 : decode b_M_go 8 = .ok (.aload_n 0, 1) := by decide +kernel
theorem d_M_go_9 : decode b_M_go 9 = .ok (.iload_n 3, 1) := by decide +kernel
theorem d_M_go_10 : decode b_M_go 10 = .ok (.invokevirtual 164, 3) := by decide +kernel
theorem d_M_go_13 : decode b_M_go 13 = .ok (.ifCond .eq 7, 3) := by decide +kernel
theorem d_M_go_16 : decode b_M_go 16 = .ok (.iconst 0, 1) := by decide +kernel
theorem d_M_go_17 : decode b_M_go 17 = .ok (.goto 4, 3) := by decide +kernel
theorem d_M_go_20 : decode b_M_go 20 = .ok (.iconst 1, 1) := by decide +kernel
theorem d_M_go_21 : decode b_M_go 21 = .ok (.putfield 75, 3) := by decide +kernel
theorem d_M_go_24 : decode b_M_go 24 = .ok (.aload_n 0, 1) := by decide +kernel
theorem d_M_go_25 : decode b_M_go 25 = .ok (.getfield 75, 3) := by decide +kernel
theorem d_M_go_28 : decode b_M_go 28 = .ok (.ifCond .le 5, 3) := by decide +kernel
theorem d_M_go_31 : decode b_M_go 31 = .ok (.iconst 0, 1) := by decide +kernel
theorem d_M_go_32 : decode b_M_go 32 = .ok (.ireturn, 1) := by decide +kernel
theorem d_M_go_33 : decode b_M_go 33 = .ok (.aload_n 0, 1) := by decide +kernel
theorem d_M_go_34 : decode b_M_go 34 = .ok (.iload_n 3, 1) := by decide +kernel
theorem d_M_go_35 : decode b_M_go 35 = .ok (.invokevirtual 167, 3) := by decide +kernel
theorem d_M_go_38 : decode b_M_go 38 = .ok (.aload_n 0, 1) := by decide +kernel
theorem d_M_go_39 : decode b_M_go 39 = .ok (.getfield 45, 3) := by decide +kernel
theorem d_M_go_42 : decode b_M_go 42 = .ok (.iload_n 1, 1) := by decide +kernel
theorem d_M_go_43 : decode b_M_go 43 = .ok (.iaload, 1) := by decide +kernel
theorem d_M_go_44 : decode b_M_go 44 = .ok (.iconst (-1), 1) := by decide +kernel
theorem d_M_go_45 : decode b_M_go 45 = .ok (.if_icmp .ne 7, 3) := by decide +kernel
theorem d_M_go_48 : decode b_M_go 48 = .ok (.iconst (-1), 1) := by decide +kernel
theorem d_M_go_49 : decode b_M_go 49 = .ok (.goto 42, 3) := by decide +kernel
theorem d_M_go_52 : decode b_M_go 52 = .ok (.iload_n 2, 1) := by decide +kernel
theorem d_M_go_53 : decode b_M_go 53 = .ok (.ifCond .eq 22, 3) := by decide +kernel
theorem d_M_go_56 : decode b_M_go 56 = .ok (.aload_n 0, 1) := by decide +kernel
theorem d_M_go_57 : decode b_M_go 57 = .ok (.aload_n 0, 1) := by decide +kernel
theorem d_M_go_58 : decode b_M_go 58 = .ok (.getfield 45, 3) := by decide +kernel
theorem d_M_go_61 : decode b_M_go 61 = .ok (.iload_n 1, 1) := by decide +kernel
theorem d_M_go_62 : decode b_M_go 62 = .ok (.iaload, 1) := by decide +kernel
theorem d_M_go_63 : decode b_M_go 63 = .ok (.aload_n 0, 1) := by decide +kernel
theorem d_M_go_64 : decode b_M_go 64 = .ok (.getfield 51, 3) := by decide +kernel
theorem d_M_go_67 : decode b_M_go 67 = .ok (.iload_n 1, 1) := by decide +kernel
theorem d_M_go_68 : decode b_M_go 68 = .ok (.iaload, 1) := by decide +kernel
theorem d_M_go_69 : decode b_M_go 69 = .ok (.invokevirtual 86, 3) := by decide +kernel
theorem d_M_go_72 : decode b_M_go 72 = .ok (.goto 19, 3) := by decide +kernel
theorem d_M_go_75 : decode b_M_go 75 = .ok (.aload_n 0, 1) := by decide +kernel
theorem d_M_go_76 : decode b_M_go 76 = .ok (.aload_n 0, 1) := by decide +kernel
theorem d_M_go_77 : decode b_M_go 77 = .ok (.getfield 45, 3) := by decide +kernel
theorem d_M_go_80 : decode b_M_go 80 = .ok (.iload_n 1, 1) := by decide +kernel
theorem d_M_go_81 : decode b_M_go 81 = .ok (.iaload, 1) := by decide +kernel
theorem d_M_go_82 : decode b_M_go 82 = .ok (.aload_n 0, 1) := by decide +kernel
theorem d_M_go_83 : decode b_M_go 83 = .ok (.getfield 51, 3) := by decide +kernel
theorem d_M_go_86 : decode b_M_go 86 = .ok (.iload_n 1, 1) := by decide +kernel
theorem d_M_go_87 : decode b_M_go 87 = .ok (.iaload, 1) := by decide +kernel
theorem d_M_go_88 : decode b_M_go 88 = .ok (.invokevirtual 111, 3) := by decide +kernel
theorem d_M_go_91 : decode b_M_go 91 = .ok (.istore 4, 2) := by decide +kernel
theorem d_M_go_93 : decode b_M_go 93 = .ok (.aload_n 0, 1) := by decide +kernel
theorem d_M_go_94 : decode b_M_go 94 = .ok (.iload 4, 2) := by decide +kernel
theorem d_M_go_96 : decode b_M_go 96 = .ok (.ifCond .ge 7, 3) := by decide +kernel
theorem d_M_go_99 : decode b_M_go 99 = .ok (.iconst 2, 1) := by decide +kernel
theorem d_M_go_100 : decode b_M_go 100 = .ok (.goto 4, 3) := by decide +kernel
theorem d_M_go_103 : decode b_M_go 103 = .ok (.iconst 0, 1) := by decide +kernel
theorem d_M_go_104 : decode b_M_go 104 = .ok (.putfield 75, 3) := by decide +kernel
theorem d_M_go_107 : decode b_M_go 107 = .ok (.aload_n 0, 1) := by decide +kernel
theorem d_M_go_108 : decode b_M_go 108 = .ok (.getfield 75, 3) := by decide +kernel
theorem d_M_go_111 : decode b_M_go 111 = .ok (.ifCond .le 5, 3) := by decide +kernel
theorem d_M_go_114 : decode b_M_go 114 = .ok (.iconst 0, 1) := by decide +kernel
theorem d_M_go_115 : decode b_M_go 115 = .ok (.ireturn, 1) := by decide +kernel
theorem d_M_go_116 : decode b_M_go 116 = .ok (.aload_n 0, 1) := by decide +kernel
theorem d_M_go_117 : decode b_M_go 117 = .ok (.iload_n 1, 1) := by decide +kernel
theorem d_M_go_118 : decode b_M_go 118 = .ok (.iload 4, 2) := by decide +kernel
theorem d_M_go_120 : decode b_M_go 120 = .ok (.iload_n 3, 1) := by decide +kernel
theorem d_M_go_121 : decode b_M_go 121 = .ok (.invokevirtual 157, 3) := by decide +kernel
theorem d_M_go_124 : decode b_M_go 124 = .ok (.aload_n 0, 1) := by decide +kernel
theorem d_M_go_125 : decode b_M_go 125 = .ok (.getfield 24, 3) := by decide +kernel
theorem d_M_go_128 : decode b_M_go 128 = .ok (.iload 4, 2) := by decide +kernel
theorem d_M_go_130 : decode b_M_go 130 = .ok (.iaload, 1) := by decide +kernel
theorem d_M_go_131 : decode b_M_go 131 = .ok (.ireturn, 1) := by decide +kernel
theorem d_M_master_0 : decode b_M_master 0 = .ok (.aload_n 0, 1) := by decide +kernel
theorem d_M_master_1 : decode b_M_master 1 = .ok (.iconst 0, 1) := by decide +kernel
theorem d_M_master_2 : decode b_M_master 2 = .ok (.putfield 75, 3) := by decide +kernel
theorem d_M_master_5 : decode b_M_master 5 = .ok (.iload_n 1, 1) := by decide +kernel
theorem d_M_master_6 : decode b_M_master 6 = .ok (.invokestatic 148, 3) := by decide +kernel
theorem d_M_master_9 : decode b_M_master 9 = .ok (.ifCond .eq 10, 3) := by decide +kernel
theorem d_M_master_12 : decode b_M_master 12 = .ok (.iload_n 2, 1) := by decide +kernel
theorem d_M_master_13 : decode b_M_master 13 = .ok (.invokestatic 83, 3) := by decide +kernel
theorem d_M_master_16 : decode b_M_master 16 = .ok (.ifCond .ne 5, 3) := by decide +kernel
theorem d_M_master_19 : decode b_M_master 19 = .ok (.iconst 0, 1) := by decide +kernel
theorem d_M_master_20 : decode b_M_master 20 = .ok (.ireturn, 1) := by decide +kernel
theorem d_M_master_21 : decode b_M_master 21 = .ok (.aload_n 0, 1) := by decide +kernel
theorem d_M_master_22 : decode b_M_master 22 = .ok (.getfield 48, 3) := by decide +kernel
theorem d_M_master_25 : decode b_M_master 25 = .ok (.iload_n 1, 1) := by decide +kernel
theorem d_M_master_26 : decode b_M_master 26 = .ok (.iload_n 2, 1) := by decide +kernel
theorem d_M_master_27 : decode b_M_master 27 = .ok (.iastore, 1) := by decide +kernel
theorem d_M_master_28 : decode b_M_master 28 = .ok (.iconst 1, 1) := by decide +kernel
theorem d_M_master_29 : decode b_M_master 29 = .ok (.ireturn, 1) := by decide +kernel
theorem d_M_merged_0 : decode b_M_merged 0 = .ok (.iconst 0, 1) := by decide +kernel
theorem d_M_merged_1 : decode b_M_merged 1 = .ok (.istore_n 2, 1) := by decide +kernel
theorem d_M_merged_2 : decode b_M_merged 2 = .ok (.iconst (-1), 1) := by decide +kernel
theorem d_M_merged_3 : decode b_M_merged 3 = .ok (.istore_n 3, 1) := by decide +kernel
theorem d_M_merged_4 : decode b_M_merged 4 = .ok (.iconst 0, 1) := by decide +kernel
theorem d_M_merged_5 : decode b_M_merged 5 = .ok (.istore 4, 2) := by decide +kernel
theorem d_M_merged_7 : decode b_M_merged 7 = .ok (.iload 4, 2) := by decide +kernel
theorem d_M_merged_9 : decode b_M_merged 9 = .ok (.bipush 6, 2) := by decide +kernel
theorem d_M_merged_11 : decode b_M_merged 11 = .ok (.if_icmp .ge 94, 3) := by decide +kernel
theorem d_M_merged_14 : decode b_M_merged 14 = .ok (.aload_n 0, 1) := by decide +kernel
theorem d_M_merged_15 : decode b_M_merged 15 = .ok (.iload 4, 2) := by decide +kernel
theorem d_M_merged_17 : decode b_M_merged 17 = .ok (.iload_n 1, 1) := by decide +kernel
theorem d_M_merged_18 : decode b_M_merged 18 = .ok (.aload_n 0, 1) := by decide +kernel
theorem d_M_merged_19 : decode b_M_merged 19 = .ok (.getfield 160, 3) := by decide +kernel
theorem d_M_merged_22 : decode b_M_merged 22 = .ok (.invokevirtual 151, 3) := by decide +kernel
theorem d_M_merged_25 : decode b_M_merged 25 = .ok (.aload_n 0, 1) := by decide +kernel
theorem d_M_merged_26 : decode b_M_merged 26 = .ok (.getfield 48, 3) := by decide +kernel
theorem d_M_merged_29 : decode b_M_merged 29 = .ok (.iload 4, 2) := by decide +kernel
theorem d_M_merged_31 : decode b_M_merged 31 = .ok (.iaload, 1) := by decide +kernel
theorem d_M_merged_32 : decode b_M_merged 32 = .ok (.imul, 1) := by decide +kernel
theorem d_M_merged_33 : decode b_M_merged 33 = .ok (.sipush 255, 3) := by decide +kernel
theorem d_M_merged_36 : decode b_M_merged 36 = .ok (.idiv, 1) := by decide +kernel
theorem d_M_merged_37 : decode b_M_merged 37 = .ok (.istore 5, 2) := by decide +kernel
theorem d_M_merged_39 : decode b_M_merged 39 = .ok (.iload 5, 2) := by decide +kernel
theorem d_M_merged_41 : decode b_M_merged 41 = .ok (.iload_n 2, 1) := by decide +kernel
theorem d_M_merged_42 : decode b_M_merged 42 = .ok (.if_icmp .le 8, 3) := by decide +kernel
theorem d_M_merged_45 : decode b_M_merged 45 = .ok (.iload 5, 2) := by decide +kernel
theorem d_M_merged_47 : decode b_M_merged 47 = .ok (.goto 4, 3) := by decide +kernel
theorem d_M_merged_50 : decode b_M_merged 50 = .ok (.iload_n 2, 1) := by decide +kernel
theorem d_M_merged_51 : decode b_M_merged 51 = .ok (.istore_n 2, 1) := by decide +kernel
theorem d_M_merged_52 : decode b_M_merged 52 = .ok (.aload_n 0, 1) := by decide +kernel
theorem d_M_merged_53 : decode b_M_merged 53 = .ok (.getfield 72, 3) := by decide +kernel
theorem d_M_merged_56 : decode b_M_merged 56 = .ok (.bipush 64, 2) := by decide +kernel
theorem d_M_merged_58 : decode b_M_merged 58 = .ok (.iload 4, 2) := by decide +kernel
theorem d_M_merged_60 : decode b_M_merged 60 = .ok (.imul, 1) := by decide +kernel
theorem d_M_merged_61 : decode b_M_merged 61 = .ok (.iload_n 1, 1) := by decide +kernel
theorem d_M_merged_62 : decode b_M_merged 62 = .ok (.iadd, 1) := by decide +kernel
theorem d_M_merged_63 : decode b_M_merged 63 = .ok (.iaload, 1) := by decide +kernel
theorem d_M_merged_64 : decode b_M_merged 64 = .ok (.istore 6, 2) := by decide +kernel
theorem d_M_merged_66 : decode b_M_merged 66 = .ok (.iload 6, 2) := by decide +kernel
theorem d_M_merged_68 : decode b_M_merged 68 = .ok (.iconst (-1), 1) := by decide +kernel
theorem d_M_merged_69 : decode b_M_merged 69 = .ok (.if_icmp .eq 28, 3) := by decide +kernel
theorem d_M_merged_72 : decode b_M_merged 72 = .ok (.iload_n 3, 1) := by decide +kernel
theorem d_M_merged_73 : decode b_M_merged 73 = .ok (.ifCond .lt 19, 3) := by decide +kernel
theorem d_M_merged_76 : decode b_M_merged 76 = .ok (.iload 6, 2) := by decide +kernel
theorem d_M_merged_78 : decode b_M_merged 78 = .ok (.aload_n 0, 1) := by decide +kernel
theorem d_M_merged_79 : decode b_M_merged 79 = .ok (.getfield 72, 3) := by decide +kernel
theorem d_M_merged_82 : decode b_M_merged 82 = .ok (.bipush 64, 2) := by decide +kernel
theorem d_M_merged_84 : decode b_M_merged 84 = .ok (.iload_n 3, 1) := by decide +kernel
theorem d_M_merged_85 : decode b_M_merged 85 = .ok (.imul, 1) := by decide +kernel
theorem d_M_merged_86 : decode b_M_merged 86 = .ok (.iload_n 1, 1) := by decide +kernel
theorem d_M_merged_87 : decode b_M_merged 87 = .ok (.iadd, 1) := by decide +kernel
theorem d_M_merged_88 : decode b_M_merged 88 = .ok (.iaload, 1) := by decide +kernel
theorem d_M_merged_89 : decode b_M_merged 89 = .ok (.if_icmp .lt 8, 3) := by decide +kernel
theorem d_M_merged_92 : decode b_M_merged 92 = .ok (.iload 4, 2) := by decide +kernel
theorem d_M_merged_94 : decode b_M_merged 94 = .ok (.goto 4, 3) := by decide +kernel
theorem d_M_merged_97 : decode b_M_merged 97 = .ok (.iload_n 3, 1) := by decide +kernel
theorem d_M_merged_98 : decode b_M_merged 98 = .ok (.istore_n 3, 1) := by decide +kernel
theorem d_M_merged_99 : decode b_M_merged 99 = .ok (.iinc 4 1, 3) := by decide +kernel
theorem d_M_merged_102 : decode b_M_merged 102 = .ok (.goto (-95), 3) := by decide +kernel
theorem d_M_merged_105 : decode b_M_merged 105 = .ok (.aload_n 0, 1) := by decide +kernel
theorem d_M_merged_106 : decode b_M_merged 106 = .ok (.getfield 7, 3) := by decide +kernel
theorem d_M_merged_109 : decode b_M_merged 109 = .ok (.iload_n 1, 1) := by decide +kernel
theorem d_M_merged_110 : decode b_M_merged 110 = .ok (.baload, 1) := by decide +kernel
theorem d_M_merged_111 : decode b_M_merged 111 = .ok (.ifCond .ne 7, 3) := by decide +kernel
theorem d_M_merged_114 : decode b_M_merged 114 = .ok (.iload_n 2, 1) := by decide +kernel
theorem d_M_merged_115 : decode b_M_merged 115 = .ok (.goto 21, 3) := by decide +kernel
theorem d_M_merged_118 : decode b_M_merged 118 = .ok (.iload_n 3, 1) := by decide +kernel
theorem d_M_merged_119 : decode b_M_merged 119 = .ok (.ifCond .ge 7, 3) := by decide +kernel
theorem d_M_merged_122 : decode b_M_merged 122 = .ok (.iconst 0, 1) := by decide +kernel
theorem d_M_merged_123 : decode b_M_merged 123 = .ok (.goto 13, 3) := by decide +kernel
theorem d_M_merged_126 : decode b_M_merged 126 = .ok (.aload_n 0, 1) := by decide +kernel
theorem d_M_merged_127 : decode b_M_merged 127 = .ok (.iload_n 3, 1) := by decide +kernel
theorem d_M_merged_128 : decode b_M_merged 128 = .ok (.iload_n 1, 1) := by decide +kernel
theorem d_M_merged_129 : decode b_M_merged 129 = .ok (.aload_n 0, 1) := by decide +kernel
theorem d_M_merged_130 : decode b_M_merged 130 = .ok (.getfield 160, 3) := by decide +kernel
theorem d_M_merged_133 : decode b_M_merged 133 = .ok (.invokevirtual 151, 3) := by decide +kernel
theorem d_M_merged_136 : decode b_M_merged 136 = .ok (.ireturn, 1) := by decide +kernel
theorem d_M_out_0 : decode b_M_out 0 = .ok (.aload_n 0, 1) := by decide +kernel
theorem d_M_out_1 : decode b_M_out 1 = .ok (.iload_n 1, 1) := by decide +kernel
theorem d_M_out_2 : decode b_M_out 2 = .ok (.invokestatic 79, 3) := by decide +kernel
theorem d_M_out_5 : decode b_M_out 5 = .ok (.ifCond .eq 15, 3) := by decide +kernel
theorem d_M_out_8 : decode b_M_out 8 = .ok (.aload_n 0, 1) := by decide +kernel
theorem d_M_out_9 : decode b_M_out 9 = .ok (.iload_n 2, 1) := by decide +kernel
theorem d_M_out_10 : decode b_M_out 10 = .ok (.invokevirtual 164, 3) := by decide +kernel
theorem d_M_out_13 : decode b_M_out 13 = .ok (.ifCond .eq 7, 3) := by decide +kernel
theorem d_M_out_16 : decode b_M_out 16 = .ok (.iconst 0, 1) := by decide +kernel
theorem d_M_out_17 : decode b_M_out 17 = .ok (.goto 4, 3) := by decide +kernel
theorem d_M_out_20 : decode b_M_out 20 = .ok (.iconst 1, 1) := by decide +kernel
theorem d_M_out_21 : decode b_M_out 21 = .ok (.putfield 75, 3) := by decide +kernel
theorem d_M_out_24 : decode b_M_out 24 = .ok (.aload_n 0, 1) := by decide +kernel
theorem d_M_out_25 : decode b_M_out 25 = .ok (.getfield 75, 3) := by decide +kernel
theorem d_M_out_28 : decode b_M_out 28 = .ok (.ifCond .le 5, 3) := by decide +kernel
theorem d_M_out_31 : decode b_M_out 31 = .ok (.iconst 0, 1) := by decide +kernel
theorem d_M_out_32 : decode b_M_out 32 = .ok (.ireturn, 1) := by decide +kernel
theorem d_M_out_33 : decode b_M_out 33 = .ok (.aload_n 0, 1) := by decide +kernel
theorem d_M_out_34 : decode b_M_out 34 = .ok (.iload_n 2, 1) := by decide +kernel
theorem d_M_out_35 : decode b_M_out 35 = .ok (.invokevirtual 167, 3) := by decide +kernel
theorem d_M_out_38 : decode b_M_out 38 = .ok (.aload_n 0, 1) := by decide +kernel
theorem d_M_out_39 : decode b_M_out 39 = .ok (.getfield 13, 3) := by decide +kernel
theorem d_M_out_42 : decode b_M_out 42 = .ok (.iload_n 1, 1) := by decide +kernel
theorem d_M_out_43 : decode b_M_out 43 = .ok (.saload, 1) := by decide +kernel
theorem d_M_out_44 : decode b_M_out 44 = .ok (.iconst (-1), 1) := by decide +kernel
theorem d_M_out_45 : decode b_M_out 45 = .ok (.if_icmp .ne 7, 3) := by decide +kernel
theorem d_M_out_48 : decode b_M_out 48 = .ok (.iconst (-1), 1) := by decide +kernel
theorem d_M_out_49 : decode b_M_out 49 = .ok (.goto 14, 3) := by decide +kernel
theorem d_M_out_52 : decode b_M_out 52 = .ok (.aload_n 0, 1) := by decide +kernel
theorem d_M_out_53 : decode b_M_out 53 = .ok (.aload_n 0, 1) := by decide +kernel
theorem d_M_out_54 : decode b_M_out 54 = .ok (.getfield 13, 3) := by decide +kernel
theorem d_M_out_57 : decode b_M_out 57 = .ok (.iload_n 1, 1) := by decide +kernel
theorem d_M_out_58 : decode b_M_out 58 = .ok (.saload, 1) := by decide +kernel
theorem d_M_out_59 : decode b_M_out 59 = .ok (.iload_n 1, 1) := by decide +kernel
theorem d_M_out_60 : decode b_M_out 60 = .ok (.invokevirtual 142, 3) := by decide +kernel
theorem d_M_out_63 : decode b_M_out 63 = .ok (.istore_n 3, 1) := by decide +kernel
theorem d_M_out_64 : decode b_M_out 64 = .ok (.iload_n 3, 1) := by decide +kernel
theorem d_M_out_65 : decode b_M_out 65 = .ok (.ifCond .lt 7, 3) := by decide +kernel
theorem d_M_out_68 : decode b_M_out 68 = .ok (.iload_n 3, 1) := by decide +kernel
theorem d_M_out_69 : decode b_M_out 69 = .ok (.goto 8, 3) := by decide +kernel
theorem d_M_out_72 : decode b_M_out 72 = .ok (.aload_n 0, 1) := by decide +kernel
theorem d_M_out_73 : decode b_M_out 73 = .ok (.iload_n 1, 1) := by decide +kernel
theorem d_M_out_74 : decode b_M_out 74 = .ok (.invokevirtual 170, 3) := by decide +kernel
theorem d_M_out_77 : decode b_M_out 77 = .ok (.ireturn, 1) := by decide +kernel
theorem d_M_playback_0 : decode b_M_playback 0 = .ok (.aload_n 0, 1) := by decide +kernel
theorem d_M_playback_1 : decode b_M_playback 1 = .ok (.iload_n 1, 1) := by decide +kernel
theorem d_M_playback_2 : decode b_M_playback 2 = .ok (.invokestatic 148, 3) := by decide +kernel
theorem d_M_playback_5 : decode b_M_playback 5 = .ok (.ifCond .eq 28, 3) := by decide +kernel
theorem d_M_playback_8 : decode b_M_playback 8 = .ok (.iload_n 2, 1) := by decide +kernel
theorem d_M_playback_9 : decode b_M_playback 9 = .ok (.ifCond .lt 24, 3) := by decide +kernel
theorem d_M_playback_12 : decode b_M_playback 12 = .ok (.iload_n 2, 1) := by decide +kernel
theorem d_M_playback_13 : decode b_M_playback 13 = .ok (.iconst 5, 1) := by decide +kernel
theorem d_M_playback_14 : decode b_M_playback 14 = .ok (.if_icmp .lt 15, 3) := by decide +kernel
theorem d_M_playback_17 : decode b_M_playback 17 = .ok (.iload_n 2, 1) := by decide +kernel
theorem d_M_playback_18 : decode b_M_playback 18 = .ok (.bipush 7, 2) := by decide +kernel
theorem d_M_playback_20 : decode b_M_playback 20 = .ok (.if_icmp .le 13, 3) := by decide +kernel
theorem d_M_playback_23 : decode b_M_playback 23 = .ok (.iload_n 2, 1) := by decide +kernel
theorem d_M_playback_24 : decode b_M_playback 24 = .ok (.bipush 72, 2) := by decide +kernel
theorem d_M_playback_26 : decode b_M_playback 26 = .ok (.if_icmp .ge 7, 3) := by decide +kernel
theorem d_M_playback_29 : decode b_M_playback 29 = .ok (.iconst 0, 1) := by decide +kernel
theorem d_M_playback_30 : decode b_M_playback 30 = .ok (.goto 4, 3) := by decide +kernel
theorem d_M_playback_33 : decode b_M_playback 33 = .ok (.iconst 1, 1) := by decide +kernel
theorem d_M_playback_34 : decode b_M_playback 34 = .ok (.putfield 75, 3) := by decide +kernel
theorem d_M_playback_37 : decode b_M_playback 37 = .ok (.aload_n 0, 1) := by decide +kernel
theorem d_M_playback_38 : decode b_M_playback 38 = .ok (.getfield 75, 3) := by decide +kernel
theorem d_M_playback_41 : decode b_M_playback 41 = .ok (.ifCond .le 5, 3) := by decide +kernel
theorem d_M_playback_44 : decode b_M_playback 44 = .ok (.iconst 0, 1) := by decide +kernel
theorem d_M_playback_45 : decode b_M_playback 45 = .ok (.ireturn, 1) := by decide +kernel
theorem d_M_playback_46 : decode b_M_playback 46 = .ok (.iload_n 2, 1) := by decide +kernel
theorem d_M_playback_47 : decode b_M_playback 47 = .ok (.tableswitch 68 0 4 #[33, 40, 47, 54, 61], 33) := by decide +kernel
theorem d_M_playback_80 : decode b_M_playback 80 = .ok (.aload_n 0, 1) := by decide +kernel
theorem d_M_playback_81 : decode b_M_playback 81 = .ok (.getfield 45, 3) := by decide +kernel
theorem d_M_playback_84 : decode b_M_playback 84 = .ok (.iload_n 1, 1) := by decide +kernel
theorem d_M_playback_85 : decode b_M_playback 85 = .ok (.iaload, 1) := by decide +kernel
theorem d_M_playback_86 : decode b_M_playback 86 = .ok (.ireturn, 1) := by decide +kernel
theorem d_M_playback_87 : decode b_M_playback 87 = .ok (.aload_n 0, 1) := by decide +kernel
theorem d_M_playback_88 : decode b_M_playback 88 = .ok (.getfield 51, 3) := by decide +kernel
theorem d_M_playback_91 : decode b_M_playback 91 = .ok (.iload_n 1, 1) := by decide +kernel
theorem d_M_playback_92 : decode b_M_playback 92 = .ok (.iaload, 1) := by decide +kernel
theorem d_M_playback_93 : decode b_M_playback 93 = .ok (.ireturn, 1) := by decide +kernel
theorem d_M_playback_94 : decode b_M_playback 94 = .ok (.aload_n 0, 1) := by decide +kernel
theorem d_M_playback_95 : decode b_M_playback 95 = .ok (.getfield 48, 3) := by decide +kernel
theorem d_M_playback_98 : decode b_M_playback 98 = .ok (.iload_n 1, 1) := by decide +kernel
theorem d_M_playback_99 : decode b_M_playback 99 = .ok (.iaload, 1) := by decide +kernel
theorem d_M_playback_100 : decode b_M_playback 100 = .ok (.ireturn, 1) := by decide +kernel
theorem d_M_playback_101 : decode b_M_playback 101 = .ok (.aload_n 0, 1) := by decide +kernel
theorem d_M_playback_102 : decode b_M_playback 102 = .ok (.getfield 54, 3) := by decide +kernel
theorem d_M_playback_105 : decode b_M_playback 105 = .ok (.iload_n 1, 1) := by decide +kernel
theorem d_M_playback_106 : decode b_M_playback 106 = .ok (.iaload, 1) := by decide +kernel
theorem d_M_playback_107 : decode b_M_playback 107 = .ok (.ireturn, 1) := by decide +kernel
theorem d_M_playback_108 : decode b_M_playback 108 = .ok (.aload_n 0, 1) := by decide +kernel
theorem d_M_playback_109 : decode b_M_playback 109 = .ok (.getfield 57, 3) := by decide +kernel
theorem d_M_playback_112 : decode b_M_playback 112 = .ok (.iload_n 1, 1) := by decide +kernel
theorem d_M_playback_113 : decode b_M_playback 113 = .ok (.iaload, 1) := by decide +kernel
theorem d_M_playback_114 : decode b_M_playback 114 = .ok (.ireturn, 1) := by decide +kernel
theorem d_M_playback_115 : decode b_M_playback 115 = .ok (.aload_n 0, 1) := by decide +kernel
theorem d_M_playback_116 : decode b_M_playback 116 = .ok (.iload_n 1, 1) := by decide +kernel
theorem d_M_playback_117 : decode b_M_playback 117 = .ok (.iload_n 2, 1) := by decide +kernel
theorem d_M_playback_118 : decode b_M_playback 118 = .ok (.bipush 8, 2) := by decide +kernel
theorem d_M_playback_120 : decode b_M_playback 120 = .ok (.isub, 1) := by decide +kernel
theorem d_M_playback_121 : decode b_M_playback 121 = .ok (.aload_n 0, 1) := by decide +kernel
theorem d_M_playback_122 : decode b_M_playback 122 = .ok (.getfield 160, 3) := by decide +kernel
theorem d_M_playback_125 : decode b_M_playback 125 = .ok (.invokevirtual 151, 3) := by decide +kernel
theorem d_M_playback_128 : decode b_M_playback 128 = .ok (.ireturn, 1) := by decide +kernel
theorem d_M_count_0 : decode b_M_count 0 = .ok (.aload_n 0, 1) := by decide +kernel
theorem d_M_count_1 : decode b_M_count 1 = .ok (.iconst 0, 1) := by decide +kernel
theorem d_M_count_2 : decode b_M_count 2 = .ok (.putfield 75, 3) := by decide +kernel
theorem d_M_count_5 : decode b_M_count 5 = .ok (.iconst 0, 1) := by decide +kernel
theorem d_M_count_6 : decode b_M_count 6 = .ok (.istore_n 2, 1) := by decide +kernel
theorem d_M_count_7 : decode b_M_count 7 = .ok (.iconst 0, 1) := by decide +kernel
theorem d_M_count_8 : decode b_M_count 8 = .ok (.istore_n 3, 1) := by decide +kernel
theorem d_M_count_9 : decode b_M_count 9 = .ok (.iload_n 3, 1) := by decide +kernel
theorem d_M_count_10 : decode b_M_count 10 = .ok (.bipush 64, 2) := by decide +kernel
theorem d_M_count_12 : decode b_M_count 12 = .ok (.if_icmp .ge 27, 3) := by decide +kernel
theorem d_M_count_15 : decode b_M_count 15 = .ok (.iload_n 2, 1) := by decide +kernel
theorem d_M_count_16 : decode b_M_count 16 = .ok (.aload_n 0, 1) := by decide +kernel
theorem d_M_count_17 : decode b_M_count 17 = .ok (.getfield 13, 3) := by decide +kernel
theorem d_M_count_20 : decode b_M_count 20 = .ok (.iload_n 3, 1) := by decide +kernel
theorem d_M_count_21 : decode b_M_count 21 = .ok (.saload, 1) := by decide +kernel
theorem d_M_count_22 : decode b_M_count 22 = .ok (.iconst (-1), 1) := by decide +kernel
theorem d_M_count_23 : decode b_M_count 23 = .ok (.if_icmp .eq 7, 3) := by decide +kernel
theorem d_M_count_26 : decode b_M_count 26 = .ok (.iconst 1, 1) := by decide +kernel
theorem d_M_count_27 : decode b_M_count 27 = .ok (.goto 4, 3) := by decide +kernel
theorem d_M_count_30 : decode b_M_count 30 = .ok (.iconst 0, 1) := by decide +kernel
theorem d_M_count_31 : decode b_M_count 31 = .ok (.iadd, 1) := by decide +kernel
theorem d_M_count_32 : decode b_M_count 32 = .ok (.istore_n 2, 1) := by decide +kernel
theorem d_M_count_33 : decode b_M_count 33 = .ok (.iinc 3 1, 3) := by decide +kernel
theorem d_M_count_36 : decode b_M_count 36 = .ok (.goto (-27), 3) := by decide +kernel
theorem d_M_count_39 : decode b_M_count 39 = .ok (.iload_n 1, 1) := by decide +kernel
theorem d_M_count_40 : decode b_M_count 40 = .ok (.tableswitch 58 0 4 #[36, 41, 46, 48, 53], 36) := by decide +kernel
theorem d_M_count_76 : decode b_M_count 76 = .ok (.aload_n 0, 1) := by decide +kernel
theorem d_M_count_77 : decode b_M_count 77 = .ok (.invokevirtual 114, 3) := by decide +kernel
theorem d_M_count_80 : decode b_M_count 80 = .ok (.ireturn, 1) := by decide +kernel
theorem d_M_count_81 : decode b_M_count 81 = .ok (.aload_n 0, 1) := by decide +kernel
theorem d_M_count_82 : decode b_M_count 82 = .ok (.invokevirtual 118, 3) := by decide +kernel
theorem d_M_count_85 : decode b_M_count 85 = .ok (.ireturn, 1) := by decide +kernel
theorem d_M_count_86 : decode b_M_count 86 = .ok (.iload_n 2, 1) := by decide +kernel
theorem d_M_count_87 : decode b_M_count 87 = .ok (.ireturn, 1) := by decide +kernel
theorem d_M_count_88 : decode b_M_count 88 = .ok (.aload_n 0, 1) := by decide +kernel
theorem d_M_count_89 : decode b_M_count 89 = .ok (.getfield 160, 3) := by decide +kernel
theorem d_M_count_92 : decode b_M_count 92 = .ok (.ireturn, 1) := by decide +kernel
theorem d_M_count_93 : decode b_M_count 93 = .ok (.aload_n 0, 1) := by decide +kernel
theorem d_M_count_94 : decode b_M_count 94 = .ok (.getfield 154, 3) := by decide +kernel
theorem d_M_count_97 : decode b_M_count 97 = .ok (.ireturn, 1) := by decide +kernel
theorem d_M_count_98 : decode b_M_count 98 = .ok (.iconst (-1), 1) := by decide +kernel
theorem d_M_count_99 : decode b_M_count 99 = .ok (.ireturn, 1) := by decide +kernel
end
section
theorem d_L_record_0 : decode b_L_record 0 = .ok (.aload 4, 2) := by decide +kernel
theorem d_L_record_2 : decode b_L_record 2 = .ok (.iconst 0, 1) := by decide +kernel
theorem d_L_record_3 : decode b_L_record 3 = .ok (.aload_n 0, 1) := by decide +kernel
theorem d_L_record_4 : decode b_L_record 4 = .ok (.iload_n 1, 1) := by decide +kernel
theorem d_L_record_5 : decode b_L_record 5 = .ok (.iload_n 2, 1) := by decide +kernel
theorem d_L_record_6 : decode b_L_record 6 = .ok (.iload_n 3, 1) := by decide +kernel
theorem d_L_record_7 : decode b_L_record 7 = .ok (.invokevirtual 7, 3) := by decide +kernel
theorem d_L_record_10 : decode b_L_record 10 = .ok (.i2l, 1) := by decide +kernel
theorem d_L_record_11 : decode b_L_record 11 = .ok (.lastore, 1) := by decide +kernel
theorem d_L_record_12 : decode b_L_record 12 = .ok (.goto 11, 3) := by decide +kernel
theorem d_L_record_15 : decode b_L_record 15 = .ok (.astore 5, 2) := by decide +kernel
theorem d_L_record_17 : decode b_L_record 17 = .ok (.iconst 1, 1) := by decide +kernel
theorem d_L_record_18 : decode b_L_record 18 = .ok (.ireturn, 1) := by decide +kernel
theorem d_L_record_19 : decode b_L_record 19 = .ok (.astore 5, 2) := by decide +kernel
theorem d_L_record_21 : decode b_L_record 21 = .ok (.iconst 2, 1) := by decide +kernel
theorem d_L_record_22 : decode b_L_record 22 = .ok (.ireturn, 1) := by decide +kernel
theorem d_L_record_23 : decode b_L_record 23 = .ok (.iconst 0, 1) := by decide +kernel
theorem d_L_record_24 : decode b_L_record 24 = .ok (.ireturn, 1) := by decide +kernel
theorem d_L_update_0 : decode b_L_update 0 = .ok (.aload_n 3, 1) := by decide +kernel
theorem d_L_update_1 : decode b_L_update 1 = .ok (.iconst 0, 1) := by decide +kernel
theorem d_L_update_2 : decode b_L_update 2 = .ok (.aload_n 0, 1) := by decide +kernel
theorem d_L_update_3 : decode b_L_update 3 = .ok (.iload_n 1, 1) := by decide +kernel
theorem d_L_update_4 : decode b_L_update 4 = .ok (.iload_n 2, 1) := by decide +kernel
theorem d_L_update_5 : decode b_L_update 5 = .ok (.invokevirtual 17, 3) := by decide +kernel
theorem d_L_update_8 : decode b_L_update 8 = .ok (.i2l, 1) := by decide +kernel
theorem d_L_update_9 : decode b_L_update 9 = .ok (.lastore, 1) := by decide +kernel
theorem d_L_update_10 : decode b_L_update 10 = .ok (.goto 11, 3) := by decide +kernel
theorem d_L_update_13 : decode b_L_update 13 = .ok (.astore 4, 2) := by decide +kernel
theorem d_L_update_15 : decode b_L_update 15 = .ok (.iconst 1, 1) := by decide +kernel
theorem d_L_update_16 : decode b_L_update 16 = .ok (.ireturn, 1) := by decide +kernel
theorem d_L_update_17 : decode b_L_update 17 = .ok (.astore 4, 2) := by decide +kernel
theorem d_L_update_19 : decode b_L_update 19 = .ok (.iconst 2, 1) := by decide +kernel
theorem d_L_update_20 : decode b_L_update 20 = .ok (.ireturn, 1) := by decide +kernel
theorem d_L_update_21 : decode b_L_update 21 = .ok (.iconst 0, 1) := by decide +kernel
theorem d_L_update_22 : decode b_L_update 22 = .ok (.ireturn, 1) := by decide +kernel
theorem d_L_delete_0 : decode b_L_delete 0 = .ok (.aload 4, 2) := by decide +kernel
theorem d_L_delete_2 : decode b_L_delete 2 = .ok (.iconst 0, 1) := by decide +kernel
theorem d_L_delete_3 : decode b_L_delete 3 = .ok (.aload_n 0, 1) := by decide +kernel
theorem d_L_delete_4 : decode b_L_delete 4 = .ok (.iload_n 1, 1) := by decide +kernel
theorem d_L_delete_5 : decode b_L_delete 5 = .ok (.iload_n 2, 1) := by decide +kernel
theorem d_L_delete_6 : decode b_L_delete 6 = .ok (.iload_n 3, 1) := by decide +kernel
theorem d_L_delete_7 : decode b_L_delete 7 = .ok (.invokevirtual 23, 3) := by decide +kernel
theorem d_L_delete_10 : decode b_L_delete 10 = .ok (.i2l, 1) := by decide +kernel
theorem d_L_delete_11 : decode b_L_delete 11 = .ok (.lastore, 1) := by decide +kernel
theorem d_L_delete_12 : decode b_L_delete 12 = .ok (.goto 11, 3) := by decide +kernel
theorem d_L_delete_15 : decode b_L_delete 15 = .ok (.astore 5, 2) := by decide +kernel
theorem d_L_delete_17 : decode b_L_delete 17 = .ok (.iconst 1, 1) := by decide +kernel
theorem d_L_delete_18 : decode b_L_delete 18 = .ok (.ireturn, 1) := by decide +kernel
theorem d_L_delete_19 : decode b_L_delete 19 = .ok (.astore 5, 2) := by decide +kernel
theorem d_L_delete_21 : decode b_L_delete 21 = .ok (.iconst 2, 1) := by decide +kernel
theorem d_L_delete_22 : decode b_L_delete 22 = .ok (.ireturn, 1) := by decide +kernel
theorem d_L_delete_23 : decode b_L_delete 23 = .ok (.iconst 0, 1) := by decide +kernel
theorem d_L_delete_24 : decode b_L_delete 24 = .ok (.ireturn, 1) := by decide +kernel
theorem d_L_block_0 : decode b_L_block 0 = .ok (.aload 4, 2) := by decide +kernel
theorem d_L_block_2 : decode b_L_block 2 = .ok (.iconst 0, 1) := by decide +kernel
theorem d_L_block_3 : decode b_L_block 3 = .ok (.aload_n 0, 1) := by decide +kernel
theorem d_L_block_4 : decode b_L_block 4 = .ok (.iload_n 1, 1) := by decide +kernel
theorem d_L_block_5 : decode b_L_block 5 = .ok (.iload_n 2, 1) := by decide +kernel
theorem d_L_block_6 : decode b_L_block 6 = .ok (.iload_n 3, 1) := by decide +kernel
theorem d_L_block_7 : decode b_L_block 7 = .ok (.invokevirtual 26, 3) := by decide +kernel
theorem d_L_block_10 : decode b_L_block 10 = .ok (.i2l, 1) := by decide +kernel
theorem d_L_block_11 : decode b_L_block 11 = .ok (.lastore, 1) := by decide +kernel
theorem d_L_block_12 : decode b_L_block 12 = .ok (.goto 11, 3) := by decide +kernel
theorem d_L_block_15 : decode b_L_block 15 = .ok (.astore 5, 2) := by decide +kernel
theorem d_L_block_17 : decode b_L_block 17 = .ok (.iconst 1, 1) := by decide +kernel
theorem d_L_block_18 : decode b_L_block 18 = .ok (.ireturn, 1) := by decide +kernel
theorem d_L_block_19 : decode b_L_block 19 = .ok (.astore 5, 2) := by decide +kernel
theorem d_L_block_21 : decode b_L_block 21 = .ok (.iconst 2, 1) := by decide +kernel
theorem d_L_block_22 : decode b_L_block 22 = .ok (.ireturn, 1) := by decide +kernel
theorem d_L_block_23 : decode b_L_block 23 = .ok (.iconst 0, 1) := by decide +kernel
theorem d_L_block_24 : decode b_L_block 24 = .ok (.ireturn, 1) := by decide +kernel
theorem d_L_look_0 : decode b_L_look 0 = .ok (.aload 4, 2) := by decide +kernel
theorem d_L_look_2 : decode b_L_look 2 = .ok (.iconst 0, 1) := by decide +kernel
theorem d_L_look_3 : decode b_L_look 3 = .ok (.aload_n 0, 1) := by decide +kernel
theorem d_L_look_4 : decode b_L_look 4 = .ok (.iload_n 1, 1) := by decide +kernel
theorem d_L_look_5 : decode b_L_look 5 = .ok (.iload_n 2, 1) := by decide +kernel
theorem d_L_look_6 : decode b_L_look 6 = .ok (.iload_n 3, 1) := by decide +kernel
theorem d_L_look_7 : decode b_L_look 7 = .ok (.invokevirtual 29, 3) := by decide +kernel
theorem d_L_look_10 : decode b_L_look 10 = .ok (.i2l, 1) := by decide +kernel
theorem d_L_look_11 : decode b_L_look 11 = .ok (.lastore, 1) := by decide +kernel
theorem d_L_look_12 : decode b_L_look 12 = .ok (.goto 11, 3) := by decide +kernel
theorem d_L_look_15 : decode b_L_look 15 = .ok (.astore 5, 2) := by decide +kernel
theorem d_L_look_17 : decode b_L_look 17 = .ok (.iconst 1, 1) := by decide +kernel
theorem d_L_look_18 : decode b_L_look 18 = .ok (.ireturn, 1) := by decide +kernel
theorem d_L_look_19 : decode b_L_look 19 = .ok (.astore 5, 2) := by decide +kernel
theorem d_L_look_21 : decode b_L_look 21 = .ok (.iconst 2, 1) := by decide +kernel
theorem d_L_look_22 : decode b_L_look 22 = .ok (.ireturn, 1) := by decide +kernel
theorem d_L_look_23 : decode b_L_look 23 = .ok (.iconst 0, 1) := by decide +kernel
theorem d_L_look_24 : decode b_L_look 24 = .ok (.ireturn, 1) := by decide +kernel
theorem d_L_source_0 : decode b_L_source 0 = .ok (.aload 4, 2) := by decide +kernel
theorem d_L_source_2 : decode b_L_source 2 = .ok (.iconst 0, 1) := by decide +kernel
theorem d_L_source_3 : decode b_L_source 3 = .ok (.aload_n 0, 1) := by decide +kernel
theorem d_L_source_4 : decode b_L_source 4 = .ok (.iload_n 1, 1) := by decide +kernel
theorem d_L_source_5 : decode b_L_source 5 = .ok (.iload_n 2, 1) := by decide +kernel
theorem d_L_source_6 : decode b_L_source 6 = .ok (.iload_n 3, 1) := by decide +kernel
theorem d_L_source_7 : decode b_L_source 7 = .ok (.invokevirtual 35, 3) := by decide +kernel
theorem d_L_source_10 : decode b_L_source 10 = .ok (.i2l, 1) := by decide +kernel
theorem d_L_source_11 : decode b_L_source 11 = .ok (.lastore, 1) := by decide +kernel
theorem d_L_source_12 : decode b_L_source 12 = .ok (.goto 11, 3) := by decide +kernel
theorem d_L_source_15 : decode b_L_source 15 = .ok (.astore 5, 2) := by decide +kernel
theorem d_L_source_17 : decode b_L_source 17 = .ok (.iconst 1, 1) := by decide +kernel
theorem d_L_source_18 : decode b_L_source 18 = .ok (.ireturn, 1) := by decide +kernel
theorem d_L_source_19 : decode b_L_source 19 = .ok (.astore 5, 2) := by decide +kernel
theorem d_L_source_21 : decode b_L_source 21 = .ok (.iconst 2, 1) := by decide +kernel
theorem d_L_source_22 : decode b_L_source 22 = .ok (.ireturn, 1) := by decide +kernel
theorem d_L_source_23 : decode b_L_source 23 = .ok (.iconst 0, 1) := by decide +kernel
theorem d_L_source_24 : decode b_L_source 24 = .ok (.ireturn, 1) := by decide +kernel
theorem d_L_cue_0 : decode b_L_cue 0 = .ok (.aload 4, 2) := by decide +kernel
theorem d_L_cue_2 : decode b_L_cue 2 = .ok (.iconst 0, 1) := by decide +kernel
theorem d_L_cue_3 : decode b_L_cue 3 = .ok (.aload_n 0, 1) := by decide +kernel
theorem d_L_cue_4 : decode b_L_cue 4 = .ok (.iload_n 1, 1) := by decide +kernel
theorem d_L_cue_5 : decode b_L_cue 5 = .ok (.iload_n 2, 1) := by decide +kernel
theorem d_L_cue_6 : decode b_L_cue 6 = .ok (.iload_n 3, 1) := by decide +kernel
theorem d_L_cue_7 : decode b_L_cue 7 = .ok (.invokevirtual 38, 3) := by decide +kernel
theorem d_L_cue_10 : decode b_L_cue 10 = .ok (.i2l, 1) := by decide +kernel
theorem d_L_cue_11 : decode b_L_cue 11 = .ok (.lastore, 1) := by decide +kernel
theorem d_L_cue_12 : decode b_L_cue 12 = .ok (.goto 7, 3) := by decide +kernel
theorem d_L_cue_15 : decode b_L_cue 15 = .ok (.astore 5, 2) := by decide +kernel
theorem d_L_cue_17 : decode b_L_cue 17 = .ok (.iconst 1, 1) := by decide +kernel
theorem d_L_cue_18 : decode b_L_cue 18 = .ok (.ireturn, 1) := by decide +kernel
theorem d_L_cue_19 : decode b_L_cue 19 = .ok (.iconst 0, 1) := by decide +kernel
theorem d_L_cue_20 : decode b_L_cue 20 = .ok (.ireturn, 1) := by decide +kernel
theorem d_L_go_0 : decode b_L_go 0 = .ok (.aload 4, 2) := by decide +kernel
theorem d_L_go_2 : decode b_L_go 2 = .ok (.iconst 0, 1) := by decide +kernel
theorem d_L_go_3 : decode b_L_go 3 = .ok (.aload_n 0, 1) := by decide +kernel
theorem d_L_go_4 : decode b_L_go 4 = .ok (.iload_n 1, 1) := by decide +kernel
theorem d_L_go_5 : decode b_L_go 5 = .ok (.iload_n 2, 1) := by decide +kernel
theorem d_L_go_6 : decode b_L_go 6 = .ok (.iload_n 3, 1) := by decide +kernel
theorem d_L_go_7 : decode b_L_go 7 = .ok (.invokevirtual 41, 3) := by decide +kernel
theorem d_L_go_10 : decode b_L_go 10 = .ok (.i2l, 1) := by decide +kernel
theorem d_L_go_11 : decode b_L_go 11 = .ok (.lastore, 1) := by decide +kernel
theorem d_L_go_12 : decode b_L_go 12 = .ok (.goto 11, 3) := by decide +kernel
theorem d_L_go_15 : decode b_L_go 15 = .ok (.astore 5, 2) := by decide +kernel
theorem d_L_go_17 : decode b_L_go 17 = .ok (.iconst 1, 1) := by decide +kernel
theorem d_L_go_18 : decode b_L_go 18 = .ok (.ireturn, 1) := by decide +kernel
theorem d_L_go_19 : decode b_L_go 19 = .ok (.astore 5, 2) := by decide +kernel
theorem d_L_go_21 : decode b_L_go 21 = .ok (.iconst 2, 1) := by decide +kernel
theorem d_L_go_22 : decode b_L_go 22 = .ok (.ireturn, 1) := by decide +kernel
theorem d_L_go_23 : decode b_L_go 23 = .ok (.iconst 0, 1) := by decide +kernel
theorem d_L_go_24 : decode b_L_go 24 = .ok (.ireturn, 1) := by decide +kernel
theorem d_L_out_0 : decode b_L_out 0 = .ok (.aload_n 3, 1) := by decide +kernel
theorem d_L_out_1 : decode b_L_out 1 = .ok (.iconst 0, 1) := by decide +kernel
theorem d_L_out_2 : decode b_L_out 2 = .ok (.aload_n 0, 1) := by decide +kernel
theorem d_L_out_3 : decode b_L_out 3 = .ok (.iload_n 1, 1) := by decide +kernel
theorem d_L_out_4 : decode b_L_out 4 = .ok (.iload_n 2, 1) := by decide +kernel
theorem d_L_out_5 : decode b_L_out 5 = .ok (.invokevirtual 45, 3) := by decide +kernel
theorem d_L_out_8 : decode b_L_out 8 = .ok (.i2l, 1) := by decide +kernel
theorem d_L_out_9 : decode b_L_out 9 = .ok (.lastore, 1) := by decide +kernel
theorem d_L_out_10 : decode b_L_out 10 = .ok (.goto 7, 3) := by decide +kernel
theorem d_L_out_13 : decode b_L_out 13 = .ok (.astore 4, 2) := by decide +kernel
theorem d_L_out_15 : decode b_L_out 15 = .ok (.iconst 1, 1) := by decide +kernel
theorem d_L_out_16 : decode b_L_out 16 = .ok (.ireturn, 1) := by decide +kernel
theorem d_L_out_17 : decode b_L_out 17 = .ok (.iconst 0, 1) := by decide +kernel
theorem d_L_out_18 : decode b_L_out 18 = .ok (.ireturn, 1) := by decide +kernel
theorem d_L_playback_0 : decode b_L_playback 0 = .ok (.aload_n 3, 1) := by decide +kernel
theorem d_L_playback_1 : decode b_L_playback 1 = .ok (.iconst 0, 1) := by decide +kernel
theorem d_L_playback_2 : decode b_L_playback 2 = .ok (.aload_n 0, 1) := by decide +kernel
theorem d_L_playback_3 : decode b_L_playback 3 = .ok (.iload_n 1, 1) := by decide +kernel
theorem d_L_playback_4 : decode b_L_playback 4 = .ok (.iload_n 2, 1) := by decide +kernel
theorem d_L_playback_5 : decode b_L_playback 5 = .ok (.invokevirtual 48, 3) := by decide +kernel
theorem d_L_playback_8 : decode b_L_playback 8 = .ok (.i2l, 1) := by decide +kernel
theorem d_L_playback_9 : decode b_L_playback 9 = .ok (.lastore, 1) := by decide +kernel
theorem d_L_playback_10 : decode b_L_playback 10 = .ok (.goto 7, 3) := by decide +kernel
theorem d_L_playback_13 : decode b_L_playback 13 = .ok (.astore 4, 2) := by decide +kernel
theorem d_L_playback_15 : decode b_L_playback 15 = .ok (.iconst 1, 1) := by decide +kernel
theorem d_L_playback_16 : decode b_L_playback 16 = .ok (.ireturn, 1) := by decide +kernel
theorem d_L_playback_17 : decode b_L_playback 17 = .ok (.iconst 0, 1) := by decide +kernel
theorem d_L_playback_18 : decode b_L_playback 18 = .ok (.ireturn, 1) := by decide +kernel
theorem d_L_law_0 : decode code 0 = .ok (.new 8, 3) := by decide +kernel
theorem d_L_law_3 : decode code 3 = .ok (.dup, 1) := by decide +kernel
theorem d_L_law_4 : decode code 4 = .ok (.invokespecial 51, 3) := by decide +kernel
theorem d_L_law_7 : decode code 7 = .ok (.astore_n 1, 1) := by decide +kernel
theorem d_L_law_8 : decode code 8 = .ok (.new 52, 3) := by decide +kernel
theorem d_L_law_11 : decode code 11 = .ok (.dup, 1) := by decide +kernel
theorem d_L_law_12 : decode code 12 = .ok (.invokespecial 54, 3) := by decide +kernel
theorem d_L_law_15 : decode code 15 = .ok (.astore_n 2, 1) := by decide +kernel
theorem d_L_law_16 : decode code 16 = .ok (.iconst 1, 1) := by decide +kernel
theorem d_L_law_17 : decode code 17 = .ok (.newarray .long, 2) := by decide +kernel
theorem d_L_law_19 : decode code 19 = .ok (.astore_n 3, 1) := by decide +kernel
theorem d_L_law_20 : decode code 20 = .ok (.iconst 0, 1) := by decide +kernel
theorem d_L_law_21 : decode code 21 = .ok (.istore 4, 2) := by decide +kernel
theorem d_L_law_23 : decode code 23 = .ok (.iload 4, 2) := by decide +kernel
theorem d_L_law_25 : decode code 25 = .ok (.aload_n 0, 1) := by decide +kernel
theorem d_L_law_26 : decode code 26 = .ok (.arraylength, 1) := by decide +kernel
theorem d_L_law_27 : decode code 27 = .ok (.iconst 5, 1) := by decide +kernel
theorem d_L_law_28 : decode code 28 = .ok (.isub, 1) := by decide +kernel
theorem d_L_law_29 : decode code 29 = .ok (.if_icmp .gt 1359, 3) := by decide +kernel
theorem d_L_law_32 : decode code 32 = .ok (.aload_n 0, 1) := by decide +kernel
theorem d_L_law_33 : decode code 33 = .ok (.iload 4, 2) := by decide +kernel
theorem d_L_law_35 : decode code 35 = .ok (.iaload, 1) := by decide +kernel
theorem d_L_law_36 : decode code 36 = .ok (.bipush 31, 2) := by decide +kernel
theorem d_L_law_38 : decode code 38 = .ok (.iand, 1) := by decide +kernel
theorem d_L_law_39 : decode code 39 = .ok (.tableswitch 1343 0 19 #[93, 146, 183, 220, 245, 294, 390, 458, 554, 650, 711, 772, 852, 932, 1012, 1049, 1145, 1182, 1250, 1318], 93) := by decide +kernel
theorem d_L_law_132 : decode code 132 = .ok (.aload_n 1, 1) := by decide +kernel
theorem d_L_law_133 : decode code 133 = .ok (.aload_n 0, 1) := by decide +kernel
theorem d_L_law_134 : decode code 134 = .ok (.iload 4, 2) := by decide +kernel
theorem d_L_law_136 : decode code 136 = .ok (.iconst 1, 1) := by decide +kernel
theorem d_L_law_137 : decode code 137 = .ok (.iadd, 1) := by decide +kernel
theorem d_L_law_138 : decode code 138 = .ok (.iaload, 1) := by decide +kernel
theorem d_L_law_139 : decode code 139 = .ok (.aload_n 0, 1) := by decide +kernel
theorem d_L_law_140 : decode code 140 = .ok (.iload 4, 2) := by decide +kernel
theorem d_L_law_142 : decode code 142 = .ok (.iconst 2, 1) := by decide +kernel
theorem d_L_law_143 : decode code 143 = .ok (.iadd, 1) := by decide +kernel
theorem d_L_law_144 : decode code 144 = .ok (.iaload, 1) := by decide +kernel
theorem d_L_law_145 : decode code 145 = .ok (.ifCond .eq 7, 3) := by decide +kernel
theorem d_L_law_148 : decode code 148 = .ok (.iconst 1, 1) := by decide +kernel
theorem d_L_law_149 : decode code 149 = .ok (.goto 4, 3) := by decide +kernel
theorem d_L_law_152 : decode code 152 = .ok (.iconst 0, 1) := by decide +kernel
theorem d_L_law_153 : decode code 153 = .ok (.invokevirtual 55, 3) := by decide +kernel
theorem d_L_law_156 : decode code 156 = .ok (.aload_n 2, 1) := by decide +kernel
theorem d_L_law_157 : decode code 157 = .ok (.aload_n 0, 1) := by decide +kernel
theorem d_L_law_158 : decode code 158 = .ok (.iload 4, 2) := by decide +kernel
theorem d_L_law_160 : decode code 160 = .ok (.iconst 1, 1) := by decide +kernel
theorem d_L_law_161 : decode code 161 = .ok (.iadd, 1) := by decide +kernel
theorem d_L_law_162 : decode code 162 = .ok (.iaload, 1) := by decide +kernel
theorem d_L_law_163 : decode code 163 = .ok (.aload_n 0, 1) := by decide +kernel
theorem d_L_law_164 : decode code 164 = .ok (.iload 4, 2) := by decide +kernel
theorem d_L_law_166 : decode code 166 = .ok (.iconst 2, 1) := by decide +kernel
theorem d_L_law_167 : decode code 167 = .ok (.iadd, 1) := by decide +kernel
theorem d_L_law_168 : decode code 168 = .ok (.iaload, 1) := by decide +kernel
theorem d_L_law_169 : decode code 169 = .ok (.ifCond .eq 7, 3) := by decide +kernel
theorem d_L_law_172 : decode code 172 = .ok (.iconst 1, 1) := by decide +kernel
theorem d_L_law_173 : decode code 173 = .ok (.goto 4, 3) := by decide +kernel
theorem d_L_law_176 : decode code 176 = .ok (.iconst 0, 1) := by decide +kernel
theorem d_L_law_177 : decode code 177 = .ok (.invokevirtual 59, 3) := by decide +kernel
theorem d_L_law_180 : decode code 180 = .ok (.if_icmp .eq 1202, 3) := by decide +kernel
theorem d_L_law_183 : decode code 183 = .ok (.iconst 0, 1) := by decide +kernel
theorem d_L_law_184 : decode code 184 = .ok (.ireturn, 1) := by decide +kernel
theorem d_L_law_185 : decode code 185 = .ok (.aload_n 1, 1) := by decide +kernel
theorem d_L_law_186 : decode code 186 = .ok (.aload_n 0, 1) := by decide +kernel
theorem d_L_law_187 : decode code 187 = .ok (.iload 4, 2) := by decide +kernel
theorem d_L_law_189 : decode code 189 = .ok (.iconst 1, 1) := by decide +kernel
theorem d_L_law_190 : decode code 190 = .ok (.iadd, 1) := by decide +kernel
theorem d_L_law_191 : decode code 191 = .ok (.iaload, 1) := by decide +kernel
theorem d_L_law_192 : decode code 192 = .ok (.aload_n 0, 1) := by decide +kernel
theorem d_L_law_193 : decode code 193 = .ok (.iload 4, 2) := by decide +kernel
theorem d_L_law_195 : decode code 195 = .ok (.iconst 2, 1) := by decide +kernel
theorem d_L_law_196 : decode code 196 = .ok (.iadd, 1) := by decide +kernel
theorem d_L_law_197 : decode code 197 = .ok (.iaload, 1) := by decide +kernel
theorem d_L_law_198 : decode code 198 = .ok (.invokevirtual 60, 3) := by decide +kernel
theorem d_L_law_201 : decode code 201 = .ok (.aload_n 2, 1) := by decide +kernel
theorem d_L_law_202 : decode code 202 = .ok (.aload_n 0, 1) := by decide +kernel
theorem d_L_law_203 : decode code 203 = .ok (.iload 4, 2) := by decide +kernel
theorem d_L_law_205 : decode code 205 = .ok (.iconst 1, 1) := by decide +kernel
theorem d_L_law_206 : decode code 206 = .ok (.iadd, 1) := by decide +kernel
theorem d_L_law_207 : decode code 207 = .ok (.iaload, 1) := by decide +kernel
theorem d_L_law_208 : decode code 208 = .ok (.aload_n 0, 1) := by decide +kernel
theorem d_L_law_209 : decode code 209 = .ok (.iload 4, 2) := by decide +kernel
theorem d_L_law_211 : decode code 211 = .ok (.iconst 2, 1) := by decide +kernel
theorem d_L_law_212 : decode code 212 = .ok (.iadd, 1) := by decide +kernel
theorem d_L_law_213 : decode code 213 = .ok (.iaload, 1) := by decide +kernel
theorem d_L_law_214 : decode code 214 = .ok (.invokevirtual 64, 3) := by decide +kernel
theorem d_L_law_217 : decode code 217 = .ok (.if_icmp .eq 1165, 3) := by decide +kernel
theorem d_L_law_220 : decode code 220 = .ok (.iconst 0, 1) := by decide +kernel
theorem d_L_law_221 : decode code 221 = .ok (.ireturn, 1) := by decide +kernel
theorem d_L_law_222 : decode code 222 = .ok (.aload_n 1, 1) := by decide +kernel
theorem d_L_law_223 : decode code 223 = .ok (.aload_n 0, 1) := by decide +kernel
theorem d_L_law_224 : decode code 224 = .ok (.iload 4, 2) := by decide +kernel
theorem d_L_law_226 : decode code 226 = .ok (.iconst 1, 1) := by decide +kernel
theorem d_L_law_227 : decode code 227 = .ok (.iadd, 1) := by decide +kernel
theorem d_L_law_228 : decode code 228 = .ok (.iaload, 1) := by decide +kernel
theorem d_L_law_229 : decode code 229 = .ok (.aload_n 0, 1) := by decide +kernel
theorem d_L_law_230 : decode code 230 = .ok (.iload 4, 2) := by decide +kernel
theorem d_L_law_232 : decode code 232 = .ok (.iconst 2, 1) := by decide +kernel
theorem d_L_law_233 : decode code 233 = .ok (.iadd, 1) := by decide +kernel
theorem d_L_law_234 : decode code 234 = .ok (.iaload, 1) := by decide +kernel
theorem d_L_law_235 : decode code 235 = .ok (.invokevirtual 65, 3) := by decide +kernel
theorem d_L_law_238 : decode code 238 = .ok (.aload_n 2, 1) := by decide +kernel
theorem d_L_law_239 : decode code 239 = .ok (.aload_n 0, 1) := by decide +kernel
theorem d_L_law_240 : decode code 240 = .ok (.iload 4, 2) := by decide +kernel
theorem d_L_law_242 : decode code 242 = .ok (.iconst 1, 1) := by decide +kernel
theorem d_L_law_243 : decode code 243 = .ok (.iadd, 1) := by decide +kernel
theorem d_L_law_244 : decode code 244 = .ok (.iaload, 1) := by decide +kernel
theorem d_L_law_245 : decode code 245 = .ok (.aload_n 0, 1) := by decide +kernel
theorem d_L_law_246 : decode code 246 = .ok (.iload 4, 2) := by decide +kernel
theorem d_L_law_248 : decode code 248 = .ok (.iconst 2, 1) := by decide +kernel
theorem d_L_law_249 : decode code 249 = .ok (.iadd, 1) := by decide +kernel
theorem d_L_law_250 : decode code 250 = .ok (.iaload, 1) := by decide +kernel
theorem d_L_law_251 : decode code 251 = .ok (.invokevirtual 68, 3) := by decide +kernel
theorem d_L_law_254 : decode code 254 = .ok (.if_icmp .eq 1128, 3) := by decide +kernel
theorem d_L_law_257 : decode code 257 = .ok (.iconst 0, 1) := by decide +kernel
theorem d_L_law_258 : decode code 258 = .ok (.ireturn, 1) := by decide +kernel
theorem d_L_law_259 : decode code 259 = .ok (.aload_n 1, 1) := by decide +kernel
theorem d_L_law_260 : decode code 260 = .ok (.aload_n 0, 1) := by decide +kernel
theorem d_L_law_261 : decode code 261 = .ok (.iload 4, 2) := by decide +kernel
theorem d_L_law_263 : decode code 263 = .ok (.iconst 1, 1) := by decide +kernel
theorem d_L_law_264 : decode code 264 = .ok (.iadd, 1) := by decide +kernel
theorem d_L_law_265 : decode code 265 = .ok (.iaload, 1) := by decide +kernel
theorem d_L_law_266 : decode code 266 = .ok (.invokevirtual 69, 3) := by decide +kernel
theorem d_L_law_269 : decode code 269 = .ok (.aload_n 2, 1) := by decide +kernel
theorem d_L_law_270 : decode code 270 = .ok (.aload_n 0, 1) := by decide +kernel
theorem d_L_law_271 : decode code 271 = .ok (.iload 4, 2) := by decide +kernel
theorem d_L_law_273 : decode code 273 = .ok (.iconst 1, 1) := by decide +kernel
theorem d_L_law_274 : decode code 274 = .ok (.iadd, 1) := by decide +kernel
theorem d_L_law_275 : decode code 275 = .ok (.iaload, 1) := by decide +kernel
theorem d_L_law_276 : decode code 276 = .ok (.invokevirtual 73, 3) := by decide +kernel
theorem d_L_law_279 : decode code 279 = .ok (.if_icmp .eq 1103, 3) := by decide +kernel
theorem d_L_law_282 : decode code 282 = .ok (.iconst 0, 1) := by decide +kernel
theorem d_L_law_283 : decode code 283 = .ok (.ireturn, 1) := by decide +kernel
theorem d_L_law_284 : decode code 284 = .ok (.aload_n 1, 1) := by decide +kernel
theorem d_L_law_285 : decode code 285 = .ok (.aload_n 0, 1) := by decide +kernel
theorem d_L_law_286 : decode code 286 = .ok (.iload 4, 2) := by decide +kernel
theorem d_L_law_288 : decode code 288 = .ok (.iconst 1, 1) := by decide +kernel
theorem d_L_law_289 : decode code 289 = .ok (.iadd, 1) := by decide +kernel
theorem d_L_law_290 : decode code 290 = .ok (.iaload, 1) := by decide +kernel
theorem d_L_law_291 : decode code 291 = .ok (.aload_n 0, 1) := by decide +kernel
theorem d_L_law_292 : decode code 292 = .ok (.iload 4, 2) := by decide +kernel
theorem d_L_law_294 : decode code 294 = .ok (.iconst 2, 1) := by decide +kernel
theorem d_L_law_295 : decode code 295 = .ok (.iadd, 1) := by decide +kernel
theorem d_L_law_296 : decode code 296 = .ok (.iaload, 1) := by decide +kernel
theorem d_L_law_297 : decode code 297 = .ok (.aload_n 0, 1) := by decide +kernel
theorem d_L_law_298 : decode code 298 = .ok (.iload 4, 2) := by decide +kernel
theorem d_L_law_300 : decode code 300 = .ok (.iconst 3, 1) := by decide +kernel
theorem d_L_law_301 : decode code 301 = .ok (.iadd, 1) := by decide +kernel
theorem d_L_law_302 : decode code 302 = .ok (.iaload, 1) := by decide +kernel
theorem d_L_law_303 : decode code 303 = .ok (.invokevirtual 74, 3) := by decide +kernel
theorem d_L_law_306 : decode code 306 = .ok (.aload_n 2, 1) := by decide +kernel
theorem d_L_law_307 : decode code 307 = .ok (.aload_n 0, 1) := by decide +kernel
theorem d_L_law_308 : decode code 308 = .ok (.iload 4, 2) := by decide +kernel
theorem d_L_law_310 : decode code 310 = .ok (.iconst 1, 1) := by decide +kernel
theorem d_L_law_311 : decode code 311 = .ok (.iadd, 1) := by decide +kernel
theorem d_L_law_312 : decode code 312 = .ok (.iaload, 1) := by decide +kernel
theorem d_L_law_313 : decode code 313 = .ok (.aload_n 0, 1) := by decide +kernel
theorem d_L_law_314 : decode code 314 = .ok (.iload 4, 2) := by decide +kernel
theorem d_L_law_316 : decode code 316 = .ok (.iconst 2, 1) := by decide +kernel
theorem d_L_law_317 : decode code 317 = .ok (.iadd, 1) := by decide +kernel
theorem d_L_law_318 : decode code 318 = .ok (.iaload, 1) := by decide +kernel
theorem d_L_law_319 : decode code 319 = .ok (.aload_n 0, 1) := by decide +kernel
theorem d_L_law_320 : decode code 320 = .ok (.iload 4, 2) := by decide +kernel
theorem d_L_law_322 : decode code 322 = .ok (.iconst 3, 1) := by decide +kernel
theorem d_L_law_323 : decode code 323 = .ok (.iadd, 1) := by decide +kernel
theorem d_L_law_324 : decode code 324 = .ok (.iaload, 1) := by decide +kernel
theorem d_L_law_325 : decode code 325 = .ok (.invokevirtual 78, 3) := by decide +kernel
theorem d_L_law_328 : decode code 328 = .ok (.if_icmp .eq 1054, 3) := by decide +kernel
theorem d_L_law_331 : decode code 331 = .ok (.iconst 0, 1) := by decide +kernel
theorem d_L_law_332 : decode code 332 = .ok (.ireturn, 1) := by decide +kernel
theorem d_L_law_333 : decode code 333 = .ok (.aload_n 1, 1) := by decide +kernel
theorem d_L_law_334 : decode code 334 = .ok (.aload_n 0, 1) := by decide +kernel
theorem d_L_law_335 : decode code 335 = .ok (.iload 4, 2) := by decide +kernel
theorem d_L_law_337 : decode code 337 = .ok (.iconst 1, 1) := by decide +kernel
theorem d_L_law_338 : decode code 338 = .ok (.iadd, 1) := by decide +kernel
theorem d_L_law_339 : decode code 339 = .ok (.iaload, 1) := by decide +kernel
theorem d_L_law_340 : decode code 340 = .ok (.aload_n 0, 1) := by decide +kernel
theorem d_L_law_341 : decode code 341 = .ok (.iload 4, 2) := by decide +kernel
theorem d_L_law_343 : decode code 343 = .ok (.iconst 2, 1) := by decide +kernel
theorem d_L_law_344 : decode code 344 = .ok (.iadd, 1) := by decide +kernel
theorem d_L_law_345 : decode code 345 = .ok (.iaload, 1) := by decide +kernel
theorem d_L_law_346 : decode code 346 = .ok (.aload_n 0, 1) := by decide +kernel
theorem d_L_law_347 : decode code 347 = .ok (.iload 4, 2) := by decide +kernel
theorem d_L_law_349 : decode code 349 = .ok (.iconst 3, 1) := by decide +kernel
theorem d_L_law_350 : decode code 350 = .ok (.iadd, 1) := by decide +kernel
theorem d_L_law_351 : decode code 351 = .ok (.iaload, 1) := by decide +kernel
theorem d_L_law_352 : decode code 352 = .ok (.ifCond .eq 7, 3) := by decide +kernel
theorem d_L_law_355 : decode code 355 = .ok (.iconst 1, 1) := by decide +kernel
theorem d_L_law_356 : decode code 356 = .ok (.goto 4, 3) := by decide +kernel
theorem d_L_law_359 : decode code 359 = .ok (.iconst 0, 1) := by decide +kernel
theorem d_L_law_360 : decode code 360 = .ok (.aload_n 3, 1) := by decide +kernel
theorem d_L_law_361 : decode code 361 = .ok (.invokestatic 79, 3) := by decide +kernel
theorem d_L_law_364 : decode code 364 = .ok (.istore 5, 2) := by decide +kernel
theorem d_L_law_366 : decode code 366 = .ok (.aload_n 2, 1) := by decide +kernel
theorem d_L_law_367 : decode code 367 = .ok (.aload_n 0, 1) := by decide +kernel
theorem d_L_law_368 : decode code 368 = .ok (.iload 4, 2) := by decide +kernel
theorem d_L_law_370 : decode code 370 = .ok (.iconst 1, 1) := by decide +kernel
theorem d_L_law_371 : decode code 371 = .ok (.iadd, 1) := by decide +kernel
theorem d_L_law_372 : decode code 372 = .ok (.iaload, 1) := by decide +kernel
theorem d_L_law_373 : decode code 373 = .ok (.aload_n 0, 1) := by decide +kernel
theorem d_L_law_374 : decode code 374 = .ok (.iload 4, 2) := by decide +kernel
theorem d_L_law_376 : decode code 376 = .ok (.iconst 2, 1) := by decide +kernel
theorem d_L_law_377 : decode code 377 = .ok (.iadd, 1) := by decide +kernel
theorem d_L_law_378 : decode code 378 = .ok (.iaload, 1) := by decide +kernel
theorem d_L_law_379 : decode code 379 = .ok (.aload_n 0, 1) := by decide +kernel
theorem d_L_law_380 : decode code 380 = .ok (.iload 4, 2) := by decide +kernel
theorem d_L_law_382 : decode code 382 = .ok (.iconst 3, 1) := by decide +kernel
theorem d_L_law_383 : decode code 383 = .ok (.iadd, 1) := by decide +kernel
theorem d_L_law_384 : decode code 384 = .ok (.iaload, 1) := by decide +kernel
theorem d_L_law_385 : decode code 385 = .ok (.ifCond .eq 7, 3) := by decide +kernel
theorem d_L_law_388 : decode code 388 = .ok (.iconst 1, 1) := by decide +kernel
theorem d_L_law_389 : decode code 389 = .ok (.goto 4, 3) := by decide +kernel
theorem d_L_law_392 : decode code 392 = .ok (.iconst 0, 1) := by decide +kernel
theorem d_L_law_393 : decode code 393 = .ok (.invokevirtual 84, 3) := by decide +kernel
theorem d_L_law_396 : decode code 396 = .ok (.istore 6, 2) := by decide +kernel
theorem d_L_law_398 : decode code 398 = .ok (.aload_n 2, 1) := by decide +kernel
theorem d_L_law_399 : decode code 399 = .ok (.invokevirtual 85, 3) := by decide +kernel
theorem d_L_law_402 : decode code 402 = .ok (.iload 5, 2) := by decide +kernel
theorem d_L_law_404 : decode code 404 = .ok (.if_icmp .eq 5, 3) := by decide +kernel
theorem d_L_law_407 : decode code 407 = .ok (.iconst 0, 1) := by decide +kernel
theorem d_L_law_408 : decode code 408 = .ok (.ireturn, 1) := by decide +kernel
theorem d_L_law_409 : decode code 409 = .ok (.iload 5, 2) := by decide +kernel
theorem d_L_law_411 : decode code 411 = .ok (.ifCond .ne 15, 3) := by decide +kernel
theorem d_L_law_414 : decode code 414 = .ok (.aload_n 3, 1) := by decide +kernel
theorem d_L_law_415 : decode code 415 = .ok (.iconst 0, 1) := by decide +kernel
theorem d_L_law_416 : decode code 416 = .ok (.laload, 1) := by decide +kernel
theorem d_L_law_417 : decode code 417 = .ok (.iload 6, 2) := by decide +kernel
theorem d_L_law_419 : decode code 419 = .ok (.i2l, 1) := by decide +kernel
theorem d_L_law_420 : decode code 420 = .ok (.lcmp, 1) := by decide +kernel
theorem d_L_law_421 : decode code 421 = .ok (.ifCond .eq 5, 3) := by decide +kernel
theorem d_L_law_424 : decode code 424 = .ok (.iconst 0, 1) := by decide +kernel
theorem d_L_law_425 : decode code 425 = .ok (.ireturn, 1) := by decide +kernel
theorem d_L_law_426 : decode code 426 = .ok (.goto 956, 3) := by decide +kernel
theorem d_L_law_429 : decode code 429 = .ok (.aload_n 1, 1) := by decide +kernel
theorem d_L_law_430 : decode code 430 = .ok (.aload_n 0, 1) := by decide +kernel
theorem d_L_law_431 : decode code 431 = .ok (.iload 4, 2) := by decide +kernel
theorem d_L_law_433 : decode code 433 = .ok (.iconst 1, 1) := by decide +kernel
theorem d_L_law_434 : decode code 434 = .ok (.iadd, 1) := by decide +kernel
theorem d_L_law_435 : decode code 435 = .ok (.iaload, 1) := by decide +kernel
theorem d_L_law_436 : decode code 436 = .ok (.aload_n 0, 1) := by decide +kernel
theorem d_L_law_437 : decode code 437 = .ok (.iload 4, 2) := by decide +kernel
theorem d_L_law_439 : decode code 439 = .ok (.iconst 2, 1) := by decide +kernel
theorem d_L_law_440 : decode code 440 = .ok (.iadd, 1) := by decide +kernel
theorem d_L_law_441 : decode code 441 = .ok (.iaload, 1) := by decide +kernel
theorem d_L_law_442 : decode code 442 = .ok (.aload_n 3, 1) := by decide +kernel
theorem d_L_law_443 : decode code 443 = .ok (.invokestatic 89, 3) := by decide +kernel
theorem d_L_law_446 : decode code 446 = .ok (.istore 5, 2) := by decide +kernel
theorem d_L_law_448 : decode code 448 = .ok (.aload_n 2, 1) := by decide +kernel
theorem d_L_law_449 : decode code 449 = .ok (.aload_n 0, 1) := by decide +kernel
theorem d_L_law_450 : decode code 450 = .ok (.iload 4, 2) := by decide +kernel
theorem d_L_law_452 : decode code 452 = .ok (.iconst 1, 1) := by decide +kernel
theorem d_L_law_453 : decode code 453 = .ok (.iadd, 1) := by decide +kernel
theorem d_L_law_454 : decode code 454 = .ok (.iaload, 1) := by decide +kernel
theorem d_L_law_455 : decode code 455 = .ok (.aload_n 0, 1) := by decide +kernel
theorem d_L_law_456 : decode code 456 = .ok (.iload 4, 2) := by decide +kernel
theorem d_L_law_458 : decode code 458 = .ok (.iconst 2, 1) := by decide +kernel
theorem d_L_law_459 : decode code 459 = .ok (.iadd, 1) := by decide +kernel
theorem d_L_law_460 : decode code 460 = .ok (.iaload, 1) := by decide +kernel
theorem d_L_law_461 : decode code 461 = .ok (.invokevirtual 92, 3) := by decide +kernel
theorem d_L_law_464 : decode code 464 = .ok (.istore 6, 2) := by decide +kernel
theorem d_L_law_466 : decode code 466 = .ok (.aload_n 2, 1) := by decide +kernel
theorem d_L_law_467 : decode code 467 = .ok (.invokevirtual 85, 3) := by decide +kernel
theorem d_L_law_470 : decode code 470 = .ok (.iload 5, 2) := by decide +kernel
theorem d_L_law_472 : decode code 472 = .ok (.if_icmp .eq 5, 3) := by decide +kernel
theorem d_L_law_475 : decode code 475 = .ok (.iconst 0, 1) := by decide +kernel
theorem d_L_law_476 : decode code 476 = .ok (.ireturn, 1) := by decide +kernel
theorem d_L_law_477 : decode code 477 = .ok (.iload 5, 2) := by decide +kernel
theorem d_L_law_479 : decode code 479 = .ok (.ifCond .ne 15, 3) := by decide +kernel
theorem d_L_law_482 : decode code 482 = .ok (.aload_n 3, 1) := by decide +kernel
theorem d_L_law_483 : decode code 483 = .ok (.iconst 0, 1) := by decide +kernel
theorem d_L_law_484 : decode code 484 = .ok (.laload, 1) := by decide +kernel
theorem d_L_law_485 : decode code 485 = .ok (.iload 6, 2) := by decide +kernel
theorem d_L_law_487 : decode code 487 = .ok (.i2l, 1) := by decide +kernel
theorem d_L_law_488 : decode code 488 = .ok (.lcmp, 1) := by decide +kernel
theorem d_L_law_489 : decode code 489 = .ok (.ifCond .eq 5, 3) := by decide +kernel
theorem d_L_law_492 : decode code 492 = .ok (.iconst 0, 1) := by decide +kernel
theorem d_L_law_493 : decode code 493 = .ok (.ireturn, 1) := by decide +kernel
theorem d_L_law_494 : decode code 494 = .ok (.goto 888, 3) := by decide +kernel
theorem d_L_law_497 : decode code 497 = .ok (.aload_n 1, 1) := by decide +kernel
theorem d_L_law_498 : decode code 498 = .ok (.aload_n 0, 1) := by decide +kernel
theorem d_L_law_499 : decode code 499 = .ok (.iload 4, 2) := by decide +kernel
theorem d_L_law_501 : decode code 501 = .ok (.iconst 1, 1) := by decide +kernel
theorem d_L_law_502 : decode code 502 = .ok (.iadd, 1) := by decide +kernel
theorem d_L_law_503 : decode code 503 = .ok (.iaload, 1) := by decide +kernel
theorem d_L_law_504 : decode code 504 = .ok (.aload_n 0, 1) := by decide +kernel
theorem d_L_law_505 : decode code 505 = .ok (.iload 4, 2) := by decide +kernel
theorem d_L_law_507 : decode code 507 = .ok (.iconst 2, 1) := by decide +kernel
theorem d_L_law_508 : decode code 508 = .ok (.iadd, 1) := by decide +kernel
theorem d_L_law_509 : decode code 509 = .ok (.iaload, 1) := by decide +kernel
theorem d_L_law_510 : decode code 510 = .ok (.aload_n 0, 1) := by decide +kernel
theorem d_L_law_511 : decode code 511 = .ok (.iload 4, 2) := by decide +kernel
theorem d_L_law_513 : decode code 513 = .ok (.iconst 3, 1) := by decide +kernel
theorem d_L_law_514 : decode code 514 = .ok (.iadd, 1) := by decide +kernel
theorem d_L_law_515 : decode code 515 = .ok (.iaload, 1) := by decide +kernel
theorem d_L_law_516 : decode code 516 = .ok (.ifCond .eq 7, 3) := by decide +kernel
theorem d_L_law_519 : decode code 519 = .ok (.iconst 1, 1) := by decide +kernel
theorem d_L_law_520 : decode code 520 = .ok (.goto 4, 3) := by decide +kernel
theorem d_L_law_523 : decode code 523 = .ok (.iconst 0, 1) := by decide +kernel
theorem d_L_law_524 : decode code 524 = .ok (.aload_n 3, 1) := by decide +kernel
theorem d_L_law_525 : decode code 525 = .ok (.invokestatic 93, 3) := by decide +kernel
theorem d_L_law_528 : decode code 528 = .ok (.istore 5, 2) := by decide +kernel
theorem d_L_law_530 : decode code 530 = .ok (.aload_n 2, 1) := by decide +kernel
theorem d_L_law_531 : decode code 531 = .ok (.aload_n 0, 1) := by decide +kernel
theorem d_L_law_532 : decode code 532 = .ok (.iload 4, 2) := by decide +kernel
theorem d_L_law_534 : decode code 534 = .ok (.iconst 1, 1) := by decide +kernel
theorem d_L_law_535 : decode code 535 = .ok (.iadd, 1) := by decide +kernel
theorem d_L_law_536 : decode code 536 = .ok (.iaload, 1) := by decide +kernel
theorem d_L_law_537 : decode code 537 = .ok (.aload_n 0, 1) := by decide +kernel
theorem d_L_law_538 : decode code 538 = .ok (.iload 4, 2) := by decide +kernel
theorem d_L_law_540 : decode code 540 = .ok (.iconst 2, 1) := by decide +kernel
theorem d_L_law_541 : decode code 541 = .ok (.iadd, 1) := by decide +kernel
theorem d_L_law_542 : decode code 542 = .ok (.iaload, 1) := by decide +kernel
theorem d_L_law_543 : decode code 543 = .ok (.aload_n 0, 1) := by decide +kernel
theorem d_L_law_544 : decode code 544 = .ok (.iload 4, 2) := by decide +kernel
theorem d_L_law_546 : decode code 546 = .ok (.iconst 3, 1) := by decide +kernel
theorem d_L_law_547 : decode code 547 = .ok (.iadd, 1) := by decide +kernel
theorem d_L_law_548 : decode code 548 = .ok (.iaload, 1) := by decide +kernel
theorem d_L_law_549 : decode code 549 = .ok (.ifCond .eq 7, 3) := by decide +kernel
theorem d_L_law_552 : decode code 552 = .ok (.iconst 1, 1) := by decide +kernel
theorem d_L_law_553 : decode code 553 = .ok (.goto 4, 3) := by decide +kernel
theorem d_L_law_556 : decode code 556 = .ok (.iconst 0, 1) := by decide +kernel
theorem d_L_law_557 : decode code 557 = .ok (.invokevirtual 95, 3) := by decide +kernel
theorem d_L_law_560 : decode code 560 = .ok (.istore 6, 2) := by decide +kernel
theorem d_L_law_562 : decode code 562 = .ok (.aload_n 2, 1) := by decide +kernel
theorem d_L_law_563 : decode code 563 = .ok (.invokevirtual 85, 3) := by decide +kernel
theorem d_L_law_566 : decode code 566 = .ok (.iload 5, 2) := by decide +kernel
theorem d_L_law_568 : decode code 568 = .ok (.if_icmp .eq 5, 3) := by decide +kernel
theorem d_L_law_571 : decode code 571 = .ok (.iconst 0, 1) := by decide +kernel
theorem d_L_law_572 : decode code 572 = .ok (.ireturn, 1) := by decide +kernel
theorem d_L_law_573 : decode code 573 = .ok (.iload 5, 2) := by decide +kernel
theorem d_L_law_575 : decode code 575 = .ok (.ifCond .ne 15, 3) := by decide +kernel
theorem d_L_law_578 : decode code 578 = .ok (.aload_n 3, 1) := by decide +kernel
theorem d_L_law_579 : decode code 579 = .ok (.iconst 0, 1) := by decide +kernel
theorem d_L_law_580 : decode code 580 = .ok (.laload, 1) := by decide +kernel
theorem d_L_law_581 : decode code 581 = .ok (.iload 6, 2) := by decide +kernel
theorem d_L_law_583 : decode code 583 = .ok (.i2l, 1) := by decide +kernel
theorem d_L_law_584 : decode code 584 = .ok (.lcmp, 1) := by decide +kernel
theorem d_L_law_585 : decode code 585 = .ok (.ifCond .eq 5, 3) := by decide +kernel
theorem d_L_law_588 : decode code 588 = .ok (.iconst 0, 1) := by decide +kernel
theorem d_L_law_589 : decode code 589 = .ok (.ireturn, 1) := by decide +kernel
theorem d_L_law_590 : decode code 590 = .ok (.goto 792, 3) := by decide +kernel
theorem d_L_law_593 : decode code 593 = .ok (.aload_n 1, 1) := by decide +kernel
theorem d_L_law_594 : decode code 594 = .ok (.aload_n 0, 1) := by decide +kernel
theorem d_L_law_595 : decode code 595 = .ok (.iload 4, 2) := by decide +kernel
theorem d_L_law_597 : decode code 597 = .ok (.iconst 1, 1) := by decide +kernel
theorem d_L_law_598 : decode code 598 = .ok (.iadd, 1) := by decide +kernel
theorem d_L_law_599 : decode code 599 = .ok (.iaload, 1) := by decide +kernel
theorem d_L_law_600 : decode code 600 = .ok (.aload_n 0, 1) := by decide +kernel
theorem d_L_law_601 : decode code 601 = .ok (.iload 4, 2) := by decide +kernel
theorem d_L_law_603 : decode code 603 = .ok (.iconst 2, 1) := by decide +kernel
theorem d_L_law_604 : decode code 604 = .ok (.iadd, 1) := by decide +kernel
theorem d_L_law_605 : decode code 605 = .ok (.iaload, 1) := by decide +kernel
theorem d_L_law_606 : decode code 606 = .ok (.aload_n 0, 1) := by decide +kernel
theorem d_L_law_607 : decode code 607 = .ok (.iload 4, 2) := by decide +kernel
theorem d_L_law_609 : decode code 609 = .ok (.iconst 3, 1) := by decide +kernel
theorem d_L_law_610 : decode code 610 = .ok (.iadd, 1) := by decide +kernel
theorem d_L_law_611 : decode code 611 = .ok (.iaload, 1) := by decide +kernel
theorem d_L_law_612 : decode code 612 = .ok (.ifCond .eq 7, 3) := by decide +kernel
theorem d_L_law_615 : decode code 615 = .ok (.iconst 1, 1) := by decide +kernel
theorem d_L_law_616 : decode code 616 = .ok (.goto 4, 3) := by decide +kernel
theorem d_L_law_619 : decode code 619 = .ok (.iconst 0, 1) := by decide +kernel
theorem d_L_law_620 : decode code 620 = .ok (.aload_n 3, 1) := by decide +kernel
theorem d_L_law_621 : decode code 621 = .ok (.invokestatic 96, 3) := by decide +kernel
theorem d_L_law_624 : decode code 624 = .ok (.istore 5, 2) := by decide +kernel
theorem d_L_law_626 : decode code 626 = .ok (.aload_n 2, 1) := by decide +kernel
theorem d_L_law_627 : decode code 627 = .ok (.aload_n 0, 1) := by decide +kernel
theorem d_L_law_628 : decode code 628 = .ok (.iload 4, 2) := by decide +kernel
theorem d_L_law_630 : decode code 630 = .ok (.iconst 1, 1) := by decide +kernel
theorem d_L_law_631 : decode code 631 = .ok (.iadd, 1) := by decide +kernel
theorem d_L_law_632 : decode code 632 = .ok (.iaload, 1) := by decide +kernel
theorem d_L_law_633 : decode code 633 = .ok (.aload_n 0, 1) := by decide +kernel
theorem d_L_law_634 : decode code 634 = .ok (.iload 4, 2) := by decide +kernel
theorem d_L_law_636 : decode code 636 = .ok (.iconst 2, 1) := by decide +kernel
theorem d_L_law_637 : decode code 637 = .ok (.iadd, 1) := by decide +kernel
theorem d_L_law_638 : decode code 638 = .ok (.iaload, 1) := by decide +kernel
theorem d_L_law_639 : decode code 639 = .ok (.aload_n 0, 1) := by decide +kernel
theorem d_L_law_640 : decode code 640 = .ok (.iload 4, 2) := by decide +kernel
theorem d_L_law_642 : decode code 642 = .ok (.iconst 3, 1) := by decide +kernel
theorem d_L_law_643 : decode code 643 = .ok (.iadd, 1) := by decide +kernel
theorem d_L_law_644 : decode code 644 = .ok (.iaload, 1) := by decide +kernel
theorem d_L_law_645 : decode code 645 = .ok (.ifCond .eq 7, 3) := by decide +kernel
theorem d_L_law_648 : decode code 648 = .ok (.iconst 1, 1) := by decide +kernel
theorem d_L_law_649 : decode code 649 = .ok (.goto 4, 3) := by decide +kernel
theorem d_L_law_652 : decode code 652 = .ok (.iconst 0, 1) := by decide +kernel
theorem d_L_law_653 : decode code 653 = .ok (.invokevirtual 98, 3) := by decide +kernel
theorem d_L_law_656 : decode code 656 = .ok (.istore 6, 2) := by decide +kernel
theorem d_L_law_658 : decode code 658 = .ok (.aload_n 2, 1) := by decide +kernel
theorem d_L_law_659 : decode code 659 = .ok (.invokevirtual 85, 3) := by decide +kernel
theorem d_L_law_662 : decode code 662 = .ok (.iload 5, 2) := by decide +kernel
theorem d_L_law_664 : decode code 664 = .ok (.if_icmp .eq 5, 3) := by decide +kernel
theorem d_L_law_667 : decode code 667 = .ok (.iconst 0, 1) := by decide +kernel
theorem d_L_law_668 : decode code 668 = .ok (.ireturn, 1) := by decide +kernel
theorem d_L_law_669 : decode code 669 = .ok (.iload 5, 2) := by decide +kernel
theorem d_L_law_671 : decode code 671 = .ok (.ifCond .ne 15, 3) := by decide +kernel
theorem d_L_law_674 : decode code 674 = .ok (.aload_n 3, 1) := by decide +kernel
theorem d_L_law_675 : decode code 675 = .ok (.iconst 0, 1) := by decide +kernel
theorem d_L_law_676 : decode code 676 = .ok (.laload, 1) := by decide +kernel
theorem d_L_law_677 : decode code 677 = .ok (.iload 6, 2) := by decide +kernel
theorem d_L_law_679 : decode code 679 = .ok (.i2l, 1) := by decide +kernel
theorem d_L_law_680 : decode code 680 = .ok (.lcmp, 1) := by decide +kernel
theorem d_L_law_681 : decode code 681 = .ok (.ifCond .eq 5, 3) := by decide +kernel
theorem d_L_law_684 : decode code 684 = .ok (.iconst 0, 1) := by decide +kernel
theorem d_L_law_685 : decode code 685 = .ok (.ireturn, 1) := by decide +kernel
theorem d_L_law_686 : decode code 686 = .ok (.goto 696, 3) := by decide +kernel
theorem d_L_law_689 : decode code 689 = .ok (.aload_n 1, 1) := by decide +kernel
theorem d_L_law_690 : decode code 690 = .ok (.aload_n 0, 1) := by decide +kernel
theorem d_L_law_691 : decode code 691 = .ok (.iload 4, 2) := by decide +kernel
theorem d_L_law_693 : decode code 693 = .ok (.iconst 1, 1) := by decide +kernel
theorem d_L_law_694 : decode code 694 = .ok (.iadd, 1) := by decide +kernel
theorem d_L_law_695 : decode code 695 = .ok (.iaload, 1) := by decide +kernel
theorem d_L_law_696 : decode code 696 = .ok (.aload_n 0, 1) := by decide +kernel
theorem d_L_law_697 : decode code 697 = .ok (.iload 4, 2) := by decide +kernel
theorem d_L_law_699 : decode code 699 = .ok (.iconst 2, 1) := by decide +kernel
theorem d_L_law_700 : decode code 700 = .ok (.iadd, 1) := by decide +kernel
theorem d_L_law_701 : decode code 701 = .ok (.iaload, 1) := by decide +kernel
theorem d_L_law_702 : decode code 702 = .ok (.aload_n 0, 1) := by decide +kernel
theorem d_L_law_703 : decode code 703 = .ok (.iload 4, 2) := by decide +kernel
theorem d_L_law_705 : decode code 705 = .ok (.iconst 3, 1) := by decide +kernel
theorem d_L_law_706 : decode code 706 = .ok (.iadd, 1) := by decide +kernel
theorem d_L_law_707 : decode code 707 = .ok (.iaload, 1) := by decide +kernel
theorem d_L_law_708 : decode code 708 = .ok (.aload_n 0, 1) := by decide +kernel
theorem d_L_law_709 : decode code 709 = .ok (.iload 4, 2) := by decide +kernel
theorem d_L_law_711 : decode code 711 = .ok (.iconst 4, 1) := by decide +kernel
theorem d_L_law_712 : decode code 712 = .ok (.iadd, 1) := by decide +kernel
theorem d_L_law_713 : decode code 713 = .ok (.iaload, 1) := by decide +kernel
theorem d_L_law_714 : decode code 714 = .ok (.invokevirtual 99, 3) := by decide +kernel
theorem d_L_law_717 : decode code 717 = .ok (.aload_n 2, 1) := by decide +kernel
theorem d_L_law_718 : decode code 718 = .ok (.aload_n 0, 1) := by decide +kernel
theorem d_L_law_719 : decode code 719 = .ok (.iload 4, 2) := by decide +kernel
theorem d_L_law_721 : decode code 721 = .ok (.iconst 1, 1) := by decide +kernel
theorem d_L_law_722 : decode code 722 = .ok (.iadd, 1) := by decide +kernel
theorem d_L_law_723 : decode code 723 = .ok (.iaload, 1) := by decide +kernel
theorem d_L_law_724 : decode code 724 = .ok (.aload_n 0, 1) := by decide +kernel
theorem d_L_law_725 : decode code 725 = .ok (.iload 4, 2) := by decide +kernel
theorem d_L_law_727 : decode code 727 = .ok (.iconst 2, 1) := by decide +kernel
theorem d_L_law_728 : decode code 728 = .ok (.iadd, 1) := by decide +kernel
theorem d_L_law_729 : decode code 729 = .ok (.iaload, 1) := by decide +kernel
theorem d_L_law_730 : decode code 730 = .ok (.aload_n 0, 1) := by decide +kernel
theorem d_L_law_731 : decode code 731 = .ok (.iload 4, 2) := by decide +kernel
theorem d_L_law_733 : decode code 733 = .ok (.iconst 3, 1) := by decide +kernel
theorem d_L_law_734 : decode code 734 = .ok (.iadd, 1) := by decide +kernel
theorem d_L_law_735 : decode code 735 = .ok (.iaload, 1) := by decide +kernel
theorem d_L_law_736 : decode code 736 = .ok (.aload_n 0, 1) := by decide +kernel
theorem d_L_law_737 : decode code 737 = .ok (.iload 4, 2) := by decide +kernel
theorem d_L_law_739 : decode code 739 = .ok (.iconst 4, 1) := by decide +kernel
theorem d_L_law_740 : decode code 740 = .ok (.iadd, 1) := by decide +kernel
theorem d_L_law_741 : decode code 741 = .ok (.iaload, 1) := by decide +kernel
theorem d_L_law_742 : decode code 742 = .ok (.invokevirtual 103, 3) := by decide +kernel
theorem d_L_law_745 : decode code 745 = .ok (.if_icmp .eq 637, 3) := by decide +kernel
theorem d_L_law_748 : decode code 748 = .ok (.iconst 0, 1) := by decide +kernel
theorem d_L_law_749 : decode code 749 = .ok (.ireturn, 1) := by decide +kernel
theorem d_L_law_750 : decode code 750 = .ok (.aload_n 1, 1) := by decide +kernel
theorem d_L_law_751 : decode code 751 = .ok (.aload_n 0, 1) := by decide +kernel
theorem d_L_law_752 : decode code 752 = .ok (.iload 4, 2) := by decide +kernel
theorem d_L_law_754 : decode code 754 = .ok (.iconst 1, 1) := by decide +kernel
theorem d_L_law_755 : decode code 755 = .ok (.iadd, 1) := by decide +kernel
theorem d_L_law_756 : decode code 756 = .ok (.iaload, 1) := by decide +kernel
theorem d_L_law_757 : decode code 757 = .ok (.aload_n 0, 1) := by decide +kernel
theorem d_L_law_758 : decode code 758 = .ok (.iload 4, 2) := by decide +kernel
theorem d_L_law_760 : decode code 760 = .ok (.iconst 2, 1) := by decide +kernel
theorem d_L_law_761 : decode code 761 = .ok (.iadd, 1) := by decide +kernel
theorem d_L_law_762 : decode code 762 = .ok (.iaload, 1) := by decide +kernel
theorem d_L_law_763 : decode code 763 = .ok (.aload_n 0, 1) := by decide +kernel
theorem d_L_law_764 : decode code 764 = .ok (.iload 4, 2) := by decide +kernel
theorem d_L_law_766 : decode code 766 = .ok (.iconst 3, 1) := by decide +kernel
theorem d_L_law_767 : decode code 767 = .ok (.iadd, 1) := by decide +kernel
theorem d_L_law_768 : decode code 768 = .ok (.iaload, 1) := by decide +kernel
theorem d_L_law_769 : decode code 769 = .ok (.aload_n 0, 1) := by decide +kernel
theorem d_L_law_770 : decode code 770 = .ok (.iload 4, 2) := by decide +kernel
theorem d_L_law_772 : decode code 772 = .ok (.iconst 4, 1) := by decide +kernel
theorem d_L_law_773 : decode code 773 = .ok (.iadd, 1) := by decide +kernel
theorem d_L_law_774 : decode code 774 = .ok (.iaload, 1) := by decide +kernel
theorem d_L_law_775 : decode code 775 = .ok (.invokevirtual 104, 3) := by decide +kernel
theorem d_L_law_778 : decode code 778 = .ok (.aload_n 2, 1) := by decide +kernel
theorem d_L_law_779 : decode code 779 = .ok (.aload_n 0, 1) := by decide +kernel
theorem d_L_law_780 : decode code 780 = .ok (.iload 4, 2) := by decide +kernel
theorem d_L_law_782 : decode code 782 = .ok (.iconst 1, 1) := by decide +kernel
theorem d_L_law_783 : decode code 783 = .ok (.iadd, 1) := by decide +kernel
theorem d_L_law_784 : decode code 784 = .ok (.iaload, 1) := by decide +kernel
theorem d_L_law_785 : decode code 785 = .ok (.aload_n 0, 1) := by decide +kernel
theorem d_L_law_786 : decode code 786 = .ok (.iload 4, 2) := by decide +kernel
theorem d_L_law_788 : decode code 788 = .ok (.iconst 2, 1) := by decide +kernel
theorem d_L_law_789 : decode code 789 = .ok (.iadd, 1) := by decide +kernel
theorem d_L_law_790 : decode code 790 = .ok (.iaload, 1) := by decide +kernel
theorem d_L_law_791 : decode code 791 = .ok (.aload_n 0, 1) := by decide +kernel
theorem d_L_law_792 : decode code 792 = .ok (.iload 4, 2) := by decide +kernel
theorem d_L_law_794 : decode code 794 = .ok (.iconst 3, 1) := by decide +kernel
theorem d_L_law_795 : decode code 795 = .ok (.iadd, 1) := by decide +kernel
theorem d_L_law_796 : decode code 796 = .ok (.iaload, 1) := by decide +kernel
theorem d_L_law_797 : decode code 797 = .ok (.aload_n 0, 1) := by decide +kernel
theorem d_L_law_798 : decode code 798 = .ok (.iload 4, 2) := by decide +kernel
theorem d_L_law_800 : decode code 800 = .ok (.iconst 4, 1) := by decide +kernel
theorem d_L_law_801 : decode code 801 = .ok (.iadd, 1) := by decide +kernel
theorem d_L_law_802 : decode code 802 = .ok (.iaload, 1) := by decide +kernel
theorem d_L_law_803 : decode code 803 = .ok (.invokevirtual 107, 3) := by decide +kernel
theorem d_L_law_806 : decode code 806 = .ok (.if_icmp .eq 576, 3) := by decide +kernel
theorem d_L_law_809 : decode code 809 = .ok (.iconst 0, 1) := by decide +kernel
theorem d_L_law_810 : decode code 810 = .ok (.ireturn, 1) := by decide +kernel
theorem d_L_law_811 : decode code 811 = .ok (.aload_n 1, 1) := by decide +kernel
theorem d_L_law_812 : decode code 812 = .ok (.aload_n 0, 1) := by decide +kernel
theorem d_L_law_813 : decode code 813 = .ok (.iload 4, 2) := by decide +kernel
theorem d_L_law_815 : decode code 815 = .ok (.iconst 1, 1) := by decide +kernel
theorem d_L_law_816 : decode code 816 = .ok (.iadd, 1) := by decide +kernel
theorem d_L_law_817 : decode code 817 = .ok (.iaload, 1) := by decide +kernel
theorem d_L_law_818 : decode code 818 = .ok (.aload_n 0, 1) := by decide +kernel
theorem d_L_law_819 : decode code 819 = .ok (.iload 4, 2) := by decide +kernel
theorem d_L_law_821 : decode code 821 = .ok (.iconst 2, 1) := by decide +kernel
theorem d_L_law_822 : decode code 822 = .ok (.iadd, 1) := by decide +kernel
theorem d_L_law_823 : decode code 823 = .ok (.iaload, 1) := by decide +kernel
theorem d_L_law_824 : decode code 824 = .ok (.aload_n 0, 1) := by decide +kernel
theorem d_L_law_825 : decode code 825 = .ok (.iload 4, 2) := by decide +kernel
theorem d_L_law_827 : decode code 827 = .ok (.iconst 3, 1) := by decide +kernel
theorem d_L_law_828 : decode code 828 = .ok (.iadd, 1) := by decide +kernel
theorem d_L_law_829 : decode code 829 = .ok (.iaload, 1) := by decide +kernel
theorem d_L_law_830 : decode code 830 = .ok (.aload_n 3, 1) := by decide +kernel
theorem d_L_law_831 : decode code 831 = .ok (.invokestatic 108, 3) := by decide +kernel
theorem d_L_law_834 : decode code 834 = .ok (.istore 5, 2) := by decide +kernel
theorem d_L_law_836 : decode code 836 = .ok (.aload_n 2, 1) := by decide +kernel
theorem d_L_law_837 : decode code 837 = .ok (.aload_n 0, 1) := by decide +kernel
theorem d_L_law_838 : decode code 838 = .ok (.iload 4, 2) := by decide +kernel
theorem d_L_law_840 : decode code 840 = .ok (.iconst 1, 1) := by decide +kernel
theorem d_L_law_841 : decode code 841 = .ok (.iadd, 1) := by decide +kernel
theorem d_L_law_842 : decode code 842 = .ok (.iaload, 1) := by decide +kernel
theorem d_L_law_843 : decode code 843 = .ok (.aload_n 0, 1) := by decide +kernel
theorem d_L_law_844 : decode code 844 = .ok (.iload 4, 2) := by decide +kernel
theorem d_L_law_846 : decode code 846 = .ok (.iconst 2, 1) := by decide +kernel
theorem d_L_law_847 : decode code 847 = .ok (.iadd, 1) := by decide +kernel
theorem d_L_law_848 : decode code 848 = .ok (.iaload, 1) := by decide +kernel
theorem d_L_law_849 : decode code 849 = .ok (.aload_n 0, 1) := by decide +kernel
theorem d_L_law_850 : decode code 850 = .ok (.iload 4, 2) := by decide +kernel
theorem d_L_law_852 : decode code 852 = .ok (.iconst 3, 1) := by decide +kernel
theorem d_L_law_853 : decode code 853 = .ok (.iadd, 1) := by decide +kernel
theorem d_L_law_854 : decode code 854 = .ok (.iaload, 1) := by decide +kernel
theorem d_L_law_855 : decode code 855 = .ok (.invokevirtual 111, 3) := by decide +kernel
theorem d_L_law_858 : decode code 858 = .ok (.istore 6, 2) := by decide +kernel
theorem d_L_law_860 : decode code 860 = .ok (.aload_n 2, 1) := by decide +kernel
theorem d_L_law_861 : decode code 861 = .ok (.invokevirtual 85, 3) := by decide +kernel
theorem d_L_law_864 : decode code 864 = .ok (.iload 5, 2) := by decide +kernel
theorem d_L_law_866 : decode code 866 = .ok (.if_icmp .eq 5, 3) := by decide +kernel
theorem d_L_law_869 : decode code 869 = .ok (.iconst 0, 1) := by decide +kernel
theorem d_L_law_870 : decode code 870 = .ok (.ireturn, 1) := by decide +kernel
theorem d_L_law_871 : decode code 871 = .ok (.iload 5, 2) := by decide +kernel
theorem d_L_law_873 : decode code 873 = .ok (.ifCond .ne 15, 3) := by decide +kernel
theorem d_L_law_876 : decode code 876 = .ok (.aload_n 3, 1) := by decide +kernel
theorem d_L_law_877 : decode code 877 = .ok (.iconst 0, 1) := by decide +kernel
theorem d_L_law_878 : decode code 878 = .ok (.laload, 1) := by decide +kernel
theorem d_L_law_879 : decode code 879 = .ok (.iload 6, 2) := by decide +kernel
theorem d_L_law_881 : decode code 881 = .ok (.i2l, 1) := by decide +kernel
theorem d_L_law_882 : decode code 882 = .ok (.lcmp, 1) := by decide +kernel
theorem d_L_law_883 : decode code 883 = .ok (.ifCond .eq 5, 3) := by decide +kernel
theorem d_L_law_886 : decode code 886 = .ok (.iconst 0, 1) := by decide +kernel
theorem d_L_law_887 : decode code 887 = .ok (.ireturn, 1) := by decide +kernel
theorem d_L_law_888 : decode code 888 = .ok (.goto 494, 3) := by decide +kernel
theorem d_L_law_891 : decode code 891 = .ok (.aload_n 1, 1) := by decide +kernel
theorem d_L_law_892 : decode code 892 = .ok (.aload_n 0, 1) := by decide +kernel
theorem d_L_law_893 : decode code 893 = .ok (.iload 4, 2) := by decide +kernel
theorem d_L_law_895 : decode code 895 = .ok (.iconst 1, 1) := by decide +kernel
theorem d_L_law_896 : decode code 896 = .ok (.iadd, 1) := by decide +kernel
theorem d_L_law_897 : decode code 897 = .ok (.iaload, 1) := by decide +kernel
theorem d_L_law_898 : decode code 898 = .ok (.aload_n 0, 1) := by decide +kernel
theorem d_L_law_899 : decode code 899 = .ok (.iload 4, 2) := by decide +kernel
theorem d_L_law_901 : decode code 901 = .ok (.iconst 2, 1) := by decide +kernel
theorem d_L_law_902 : decode code 902 = .ok (.iadd, 1) := by decide +kernel
theorem d_L_law_903 : decode code 903 = .ok (.iaload, 1) := by decide +kernel
theorem d_L_law_904 : decode code 904 = .ok (.aload_n 0, 1) := by decide +kernel
theorem d_L_law_905 : decode code 905 = .ok (.iload 4, 2) := by decide +kernel
theorem d_L_law_907 : decode code 907 = .ok (.iconst 3, 1) := by decide +kernel
theorem d_L_law_908 : decode code 908 = .ok (.iadd, 1) := by decide +kernel
theorem d_L_law_909 : decode code 909 = .ok (.iaload, 1) := by decide +kernel
theorem d_L_law_910 : decode code 910 = .ok (.aload_n 3, 1) := by decide +kernel
theorem d_L_law_911 : decode code 911 = .ok (.invokestatic 112, 3) := by decide +kernel
theorem d_L_law_914 : decode code 914 = .ok (.istore 5, 2) := by decide +kernel
theorem d_L_law_916 : decode code 916 = .ok (.aload_n 2, 1) := by decide +kernel
theorem d_L_law_917 : decode code 917 = .ok (.aload_n 0, 1) := by decide +kernel
theorem d_L_law_918 : decode code 918 = .ok (.iload 4, 2) := by decide +kernel
theorem d_L_law_920 : decode code 920 = .ok (.iconst 1, 1) := by decide +kernel
theorem d_L_law_921 : decode code 921 = .ok (.iadd, 1) := by decide +kernel
theorem d_L_law_922 : decode code 922 = .ok (.iaload, 1) := by decide +kernel
theorem d_L_law_923 : decode code 923 = .ok (.aload_n 0, 1) := by decide +kernel
theorem d_L_law_924 : decode code 924 = .ok (.iload 4, 2) := by decide +kernel
theorem d_L_law_926 : decode code 926 = .ok (.iconst 2, 1) := by decide +kernel
theorem d_L_law_927 : decode code 927 = .ok (.iadd, 1) := by decide +kernel
theorem d_L_law_928 : decode code 928 = .ok (.iaload, 1) := by decide +kernel
theorem d_L_law_929 : decode code 929 = .ok (.aload_n 0, 1) := by decide +kernel
theorem d_L_law_930 : decode code 930 = .ok (.iload 4, 2) := by decide +kernel
theorem d_L_law_932 : decode code 932 = .ok (.iconst 3, 1) := by decide +kernel
theorem d_L_law_933 : decode code 933 = .ok (.iadd, 1) := by decide +kernel
theorem d_L_law_934 : decode code 934 = .ok (.iaload, 1) := by decide +kernel
theorem d_L_law_935 : decode code 935 = .ok (.invokevirtual 114, 3) := by decide +kernel
theorem d_L_law_938 : decode code 938 = .ok (.istore 6, 2) := by decide +kernel
theorem d_L_law_940 : decode code 940 = .ok (.aload_n 2, 1) := by decide +kernel
theorem d_L_law_941 : decode code 941 = .ok (.invokevirtual 85, 3) := by decide +kernel
theorem d_L_law_944 : decode code 944 = .ok (.iload 5, 2) := by decide +kernel
theorem d_L_law_946 : decode code 946 = .ok (.if_icmp .eq 5, 3) := by decide +kernel
theorem d_L_law_949 : decode code 949 = .ok (.iconst 0, 1) := by decide +kernel
theorem d_L_law_950 : decode code 950 = .ok (.ireturn, 1) := by decide +kernel
theorem d_L_law_951 : decode code 951 = .ok (.iload 5, 2) := by decide +kernel
theorem d_L_law_953 : decode code 953 = .ok (.ifCond .ne 15, 3) := by decide +kernel
theorem d_L_law_956 : decode code 956 = .ok (.aload_n 3, 1) := by decide +kernel
theorem d_L_law_957 : decode code 957 = .ok (.iconst 0, 1) := by decide +kernel
theorem d_L_law_958 : decode code 958 = .ok (.laload, 1) := by decide +kernel
theorem d_L_law_959 : decode code 959 = .ok (.iload 6, 2) := by decide +kernel
theorem d_L_law_961 : decode code 961 = .ok (.i2l, 1) := by decide +kernel
theorem d_L_law_962 : decode code 962 = .ok (.lcmp, 1) := by decide +kernel
theorem d_L_law_963 : decode code 963 = .ok (.ifCond .eq 5, 3) := by decide +kernel
theorem d_L_law_966 : decode code 966 = .ok (.iconst 0, 1) := by decide +kernel
theorem d_L_law_967 : decode code 967 = .ok (.ireturn, 1) := by decide +kernel
theorem d_L_law_968 : decode code 968 = .ok (.goto 414, 3) := by decide +kernel
theorem d_L_law_971 : decode code 971 = .ok (.aload_n 1, 1) := by decide +kernel
theorem d_L_law_972 : decode code 972 = .ok (.aload_n 0, 1) := by decide +kernel
theorem d_L_law_973 : decode code 973 = .ok (.iload 4, 2) := by decide +kernel
theorem d_L_law_975 : decode code 975 = .ok (.iconst 1, 1) := by decide +kernel
theorem d_L_law_976 : decode code 976 = .ok (.iadd, 1) := by decide +kernel
theorem d_L_law_977 : decode code 977 = .ok (.iaload, 1) := by decide +kernel
theorem d_L_law_978 : decode code 978 = .ok (.aload_n 0, 1) := by decide +kernel
theorem d_L_law_979 : decode code 979 = .ok (.iload 4, 2) := by decide +kernel
theorem d_L_law_981 : decode code 981 = .ok (.iconst 2, 1) := by decide +kernel
theorem d_L_law_982 : decode code 982 = .ok (.iadd, 1) := by decide +kernel
theorem d_L_law_983 : decode code 983 = .ok (.iaload, 1) := by decide +kernel
theorem d_L_law_984 : decode code 984 = .ok (.aload_n 0, 1) := by decide +kernel
theorem d_L_law_985 : decode code 985 = .ok (.iload 4, 2) := by decide +kernel
theorem d_L_law_987 : decode code 987 = .ok (.iconst 3, 1) := by decide +kernel
theorem d_L_law_988 : decode code 988 = .ok (.iadd, 1) := by decide +kernel
theorem d_L_law_989 : decode code 989 = .ok (.iaload, 1) := by decide +kernel
theorem d_L_law_990 : decode code 990 = .ok (.aload_n 3, 1) := by decide +kernel
theorem d_L_law_991 : decode code 991 = .ok (.invokestatic 115, 3) := by decide +kernel
theorem d_L_law_994 : decode code 994 = .ok (.istore 5, 2) := by decide +kernel
theorem d_L_law_996 : decode code 996 = .ok (.aload_n 2, 1) := by decide +kernel
theorem d_L_law_997 : decode code 997 = .ok (.aload_n 0, 1) := by decide +kernel
theorem d_L_law_998 : decode code 998 = .ok (.iload 4, 2) := by decide +kernel
theorem d_L_law_1000 : decode code 1000 = .ok (.iconst 1, 1) := by decide +kernel
theorem d_L_law_1001 : decode code 1001 = .ok (.iadd, 1) := by decide +kernel
theorem d_L_law_1002 : decode code 1002 = .ok (.iaload, 1) := by decide +kernel
theorem d_L_law_1003 : decode code 1003 = .ok (.aload_n 0, 1) := by decide +kernel
theorem d_L_law_1004 : decode code 1004 = .ok (.iload 4, 2) := by decide +kernel
theorem d_L_law_1006 : decode code 1006 = .ok (.iconst 2, 1) := by decide +kernel
theorem d_L_law_1007 : decode code 1007 = .ok (.iadd, 1) := by decide +kernel
theorem d_L_law_1008 : decode code 1008 = .ok (.iaload, 1) := by decide +kernel
theorem d_L_law_1009 : decode code 1009 = .ok (.aload_n 0, 1) := by decide +kernel
theorem d_L_law_1010 : decode code 1010 = .ok (.iload 4, 2) := by decide +kernel
theorem d_L_law_1012 : decode code 1012 = .ok (.iconst 3, 1) := by decide +kernel
theorem d_L_law_1013 : decode code 1013 = .ok (.iadd, 1) := by decide +kernel
theorem d_L_law_1014 : decode code 1014 = .ok (.iaload, 1) := by decide +kernel
theorem d_L_law_1015 : decode code 1015 = .ok (.invokevirtual 117, 3) := by decide +kernel
theorem d_L_law_1018 : decode code 1018 = .ok (.istore 6, 2) := by decide +kernel
theorem d_L_law_1020 : decode code 1020 = .ok (.aload_n 2, 1) := by decide +kernel
theorem d_L_law_1021 : decode code 1021 = .ok (.invokevirtual 85, 3) := by decide +kernel
theorem d_L_law_1024 : decode code 1024 = .ok (.iload 5, 2) := by decide +kernel
theorem d_L_law_1026 : decode code 1026 = .ok (.if_icmp .eq 5, 3) := by decide +kernel
theorem d_L_law_1029 : decode code 1029 = .ok (.iconst 0, 1) := by decide +kernel
theorem d_L_law_1030 : decode code 1030 = .ok (.ireturn, 1) := by decide +kernel
theorem d_L_law_1031 : decode code 1031 = .ok (.iload 5, 2) := by decide +kernel
theorem d_L_law_1033 : decode code 1033 = .ok (.ifCond .ne 15, 3) := by decide +kernel
theorem d_L_law_1036 : decode code 1036 = .ok (.aload_n 3, 1) := by decide +kernel
theorem d_L_law_1037 : decode code 1037 = .ok (.iconst 0, 1) := by decide +kernel
theorem d_L_law_1038 : decode code 1038 = .ok (.laload, 1) := by decide +kernel
theorem d_L_law_1039 : decode code 1039 = .ok (.iload 6, 2) := by decide +kernel
theorem d_L_law_1041 : decode code 1041 = .ok (.i2l, 1) := by decide +kernel
theorem d_L_law_1042 : decode code 1042 = .ok (.lcmp, 1) := by decide +kernel
theorem d_L_law_1043 : decode code 1043 = .ok (.ifCond .eq 5, 3) := by decide +kernel
theorem d_L_law_1046 : decode code 1046 = .ok (.iconst 0, 1) := by decide +kernel
theorem d_L_law_1047 : decode code 1047 = .ok (.ireturn, 1) := by decide +kernel
theorem d_L_law_1048 : decode code 1048 = .ok (.goto 334, 3) := by decide +kernel
theorem d_L_law_1051 : decode code 1051 = .ok (.aload_n 1, 1) := by decide +kernel
theorem d_L_law_1052 : decode code 1052 = .ok (.aload_n 0, 1) := by decide +kernel
theorem d_L_law_1053 : decode code 1053 = .ok (.iload 4, 2) := by decide +kernel
theorem d_L_law_1055 : decode code 1055 = .ok (.iconst 1, 1) := by decide +kernel
theorem d_L_law_1056 : decode code 1056 = .ok (.iadd, 1) := by decide +kernel
theorem d_L_law_1057 : decode code 1057 = .ok (.iaload, 1) := by decide +kernel
theorem d_L_law_1058 : decode code 1058 = .ok (.aload_n 0, 1) := by decide +kernel
theorem d_L_law_1059 : decode code 1059 = .ok (.iload 4, 2) := by decide +kernel
theorem d_L_law_1061 : decode code 1061 = .ok (.iconst 2, 1) := by decide +kernel
theorem d_L_law_1062 : decode code 1062 = .ok (.iadd, 1) := by decide +kernel
theorem d_L_law_1063 : decode code 1063 = .ok (.iaload, 1) := by decide +kernel
theorem d_L_law_1064 : decode code 1064 = .ok (.invokevirtual 118, 3) := by decide +kernel
theorem d_L_law_1067 : decode code 1067 = .ok (.aload_n 2, 1) := by decide +kernel
theorem d_L_law_1068 : decode code 1068 = .ok (.aload_n 0, 1) := by decide +kernel
theorem d_L_law_1069 : decode code 1069 = .ok (.iload 4, 2) := by decide +kernel
theorem d_L_law_1071 : decode code 1071 = .ok (.iconst 1, 1) := by decide +kernel
theorem d_L_law_1072 : decode code 1072 = .ok (.iadd, 1) := by decide +kernel
theorem d_L_law_1073 : decode code 1073 = .ok (.iaload, 1) := by decide +kernel
theorem d_L_law_1074 : decode code 1074 = .ok (.aload_n 0, 1) := by decide +kernel
theorem d_L_law_1075 : decode code 1075 = .ok (.iload 4, 2) := by decide +kernel
theorem d_L_law_1077 : decode code 1077 = .ok (.iconst 2, 1) := by decide +kernel
theorem d_L_law_1078 : decode code 1078 = .ok (.iadd, 1) := by decide +kernel
theorem d_L_law_1079 : decode code 1079 = .ok (.iaload, 1) := by decide +kernel
theorem d_L_law_1080 : decode code 1080 = .ok (.invokevirtual 121, 3) := by decide +kernel
theorem d_L_law_1083 : decode code 1083 = .ok (.if_icmp .eq 299, 3) := by decide +kernel
theorem d_L_law_1086 : decode code 1086 = .ok (.iconst 0, 1) := by decide +kernel
theorem d_L_law_1087 : decode code 1087 = .ok (.ireturn, 1) := by decide +kernel
theorem d_L_law_1088 : decode code 1088 = .ok (.aload_n 1, 1) := by decide +kernel
theorem d_L_law_1089 : decode code 1089 = .ok (.aload_n 0, 1) := by decide +kernel
theorem d_L_law_1090 : decode code 1090 = .ok (.iload 4, 2) := by decide +kernel
theorem d_L_law_1092 : decode code 1092 = .ok (.iconst 1, 1) := by decide +kernel
theorem d_L_law_1093 : decode code 1093 = .ok (.iadd, 1) := by decide +kernel
theorem d_L_law_1094 : decode code 1094 = .ok (.iaload, 1) := by decide +kernel
theorem d_L_law_1095 : decode code 1095 = .ok (.aload_n 0, 1) := by decide +kernel
theorem d_L_law_1096 : decode code 1096 = .ok (.iload 4, 2) := by decide +kernel
theorem d_L_law_1098 : decode code 1098 = .ok (.iconst 2, 1) := by decide +kernel
theorem d_L_law_1099 : decode code 1099 = .ok (.iadd, 1) := by decide +kernel
theorem d_L_law_1100 : decode code 1100 = .ok (.iaload, 1) := by decide +kernel
theorem d_L_law_1101 : decode code 1101 = .ok (.ifCond .eq 7, 3) := by decide +kernel
theorem d_L_law_1104 : decode code 1104 = .ok (.iconst 1, 1) := by decide +kernel
theorem d_L_law_1105 : decode code 1105 = .ok (.goto 4, 3) := by decide +kernel
theorem d_L_law_1108 : decode code 1108 = .ok (.iconst 0, 1) := by decide +kernel
theorem d_L_law_1109 : decode code 1109 = .ok (.aload_n 0, 1) := by decide +kernel
theorem d_L_law_1110 : decode code 1110 = .ok (.iload 4, 2) := by decide +kernel
theorem d_L_law_1112 : decode code 1112 = .ok (.iconst 3, 1) := by decide +kernel
theorem d_L_law_1113 : decode code 1113 = .ok (.iadd, 1) := by decide +kernel
theorem d_L_law_1114 : decode code 1114 = .ok (.iaload, 1) := by decide +kernel
theorem d_L_law_1115 : decode code 1115 = .ok (.aload_n 3, 1) := by decide +kernel
theorem d_L_law_1116 : decode code 1116 = .ok (.invokestatic 122, 3) := by decide +kernel
theorem d_L_law_1119 : decode code 1119 = .ok (.istore 5, 2) := by decide +kernel
theorem d_L_law_1121 : decode code 1121 = .ok (.aload_n 2, 1) := by decide +kernel
theorem d_L_law_1122 : decode code 1122 = .ok (.aload_n 0, 1) := by decide +kernel
theorem d_L_law_1123 : decode code 1123 = .ok (.iload 4, 2) := by decide +kernel
theorem d_L_law_1125 : decode code 1125 = .ok (.iconst 1, 1) := by decide +kernel
theorem d_L_law_1126 : decode code 1126 = .ok (.iadd, 1) := by decide +kernel
theorem d_L_law_1127 : decode code 1127 = .ok (.iaload, 1) := by decide +kernel
theorem d_L_law_1128 : decode code 1128 = .ok (.aload_n 0, 1) := by decide +kernel
theorem d_L_law_1129 : decode code 1129 = .ok (.iload 4, 2) := by decide +kernel
theorem d_L_law_1131 : decode code 1131 = .ok (.iconst 2, 1) := by decide +kernel
theorem d_L_law_1132 : decode code 1132 = .ok (.iadd, 1) := by decide +kernel
theorem d_L_law_1133 : decode code 1133 = .ok (.iaload, 1) := by decide +kernel
theorem d_L_law_1134 : decode code 1134 = .ok (.ifCond .eq 7, 3) := by decide +kernel
theorem d_L_law_1137 : decode code 1137 = .ok (.iconst 1, 1) := by decide +kernel
theorem d_L_law_1138 : decode code 1138 = .ok (.goto 4, 3) := by decide +kernel
theorem d_L_law_1141 : decode code 1141 = .ok (.iconst 0, 1) := by decide +kernel
theorem d_L_law_1142 : decode code 1142 = .ok (.aload_n 0, 1) := by decide +kernel
theorem d_L_law_1143 : decode code 1143 = .ok (.iload 4, 2) := by decide +kernel
theorem d_L_law_1145 : decode code 1145 = .ok (.iconst 3, 1) := by decide +kernel
theorem d_L_law_1146 : decode code 1146 = .ok (.iadd, 1) := by decide +kernel
theorem d_L_law_1147 : decode code 1147 = .ok (.iaload, 1) := by decide +kernel
theorem d_L_law_1148 : decode code 1148 = .ok (.invokevirtual 125, 3) := by decide +kernel
theorem d_L_law_1151 : decode code 1151 = .ok (.istore 6, 2) := by decide +kernel
theorem d_L_law_1153 : decode code 1153 = .ok (.aload_n 2, 1) := by decide +kernel
theorem d_L_law_1154 : decode code 1154 = .ok (.invokevirtual 85, 3) := by decide +kernel
theorem d_L_law_1157 : decode code 1157 = .ok (.iload 5, 2) := by decide +kernel
theorem d_L_law_1159 : decode code 1159 = .ok (.if_icmp .eq 5, 3) := by decide +kernel
theorem d_L_law_1162 : decode code 1162 = .ok (.iconst 0, 1) := by decide +kernel
theorem d_L_law_1163 : decode code 1163 = .ok (.ireturn, 1) := by decide +kernel
theorem d_L_law_1164 : decode code 1164 = .ok (.iload 5, 2) := by decide +kernel
theorem d_L_law_1166 : decode code 1166 = .ok (.ifCond .ne 15, 3) := by decide +kernel
theorem d_L_law_1169 : decode code 1169 = .ok (.aload_n 3, 1) := by decide +kernel
theorem d_L_law_1170 : decode code 1170 = .ok (.iconst 0, 1) := by decide +kernel
theorem d_L_law_1171 : decode code 1171 = .ok (.laload, 1) := by decide +kernel
theorem d_L_law_1172 : decode code 1172 = .ok (.iload 6, 2) := by decide +kernel
theorem d_L_law_1174 : decode code 1174 = .ok (.i2l, 1) := by decide +kernel
theorem d_L_law_1175 : decode code 1175 = .ok (.lcmp, 1) := by decide +kernel
theorem d_L_law_1176 : decode code 1176 = .ok (.ifCond .eq 5, 3) := by decide +kernel
theorem d_L_law_1179 : decode code 1179 = .ok (.iconst 0, 1) := by decide +kernel
theorem d_L_law_1180 : decode code 1180 = .ok (.ireturn, 1) := by decide +kernel
theorem d_L_law_1181 : decode code 1181 = .ok (.goto 201, 3) := by decide +kernel
theorem d_L_law_1184 : decode code 1184 = .ok (.aload_n 1, 1) := by decide +kernel
theorem d_L_law_1185 : decode code 1185 = .ok (.aload_n 0, 1) := by decide +kernel
theorem d_L_law_1186 : decode code 1186 = .ok (.iload 4, 2) := by decide +kernel
theorem d_L_law_1188 : decode code 1188 = .ok (.iconst 1, 1) := by decide +kernel
theorem d_L_law_1189 : decode code 1189 = .ok (.iadd, 1) := by decide +kernel
theorem d_L_law_1190 : decode code 1190 = .ok (.iaload, 1) := by decide +kernel
theorem d_L_law_1191 : decode code 1191 = .ok (.aload_n 0, 1) := by decide +kernel
theorem d_L_law_1192 : decode code 1192 = .ok (.iload 4, 2) := by decide +kernel
theorem d_L_law_1194 : decode code 1194 = .ok (.iconst 2, 1) := by decide +kernel
theorem d_L_law_1195 : decode code 1195 = .ok (.iadd, 1) := by decide +kernel
theorem d_L_law_1196 : decode code 1196 = .ok (.iaload, 1) := by decide +kernel
theorem d_L_law_1197 : decode code 1197 = .ok (.invokevirtual 126, 3) := by decide +kernel
theorem d_L_law_1200 : decode code 1200 = .ok (.aload_n 2, 1) := by decide +kernel
theorem d_L_law_1201 : decode code 1201 = .ok (.aload_n 0, 1) := by decide +kernel
theorem d_L_law_1202 : decode code 1202 = .ok (.iload 4, 2) := by decide +kernel
theorem d_L_law_1204 : decode code 1204 = .ok (.iconst 1, 1) := by decide +kernel
theorem d_L_law_1205 : decode code 1205 = .ok (.iadd, 1) := by decide +kernel
theorem d_L_law_1206 : decode code 1206 = .ok (.iaload, 1) := by decide +kernel
theorem d_L_law_1207 : decode code 1207 = .ok (.aload_n 0, 1) := by decide +kernel
theorem d_L_law_1208 : decode code 1208 = .ok (.iload 4, 2) := by decide +kernel
theorem d_L_law_1210 : decode code 1210 = .ok (.iconst 2, 1) := by decide +kernel
theorem d_L_law_1211 : decode code 1211 = .ok (.iadd, 1) := by decide +kernel
theorem d_L_law_1212 : decode code 1212 = .ok (.iaload, 1) := by decide +kernel
theorem d_L_law_1213 : decode code 1213 = .ok (.invokevirtual 129, 3) := by decide +kernel
theorem d_L_law_1216 : decode code 1216 = .ok (.if_icmp .eq 166, 3) := by decide +kernel
theorem d_L_law_1219 : decode code 1219 = .ok (.iconst 0, 1) := by decide +kernel
theorem d_L_law_1220 : decode code 1220 = .ok (.ireturn, 1) := by decide +kernel
theorem d_L_law_1221 : decode code 1221 = .ok (.aload_n 1, 1) := by decide +kernel
theorem d_L_law_1222 : decode code 1222 = .ok (.aload_n 0, 1) := by decide +kernel
theorem d_L_law_1223 : decode code 1223 = .ok (.iload 4, 2) := by decide +kernel
theorem d_L_law_1225 : decode code 1225 = .ok (.iconst 1, 1) := by decide +kernel
theorem d_L_law_1226 : decode code 1226 = .ok (.iadd, 1) := by decide +kernel
theorem d_L_law_1227 : decode code 1227 = .ok (.iaload, 1) := by decide +kernel
theorem d_L_law_1228 : decode code 1228 = .ok (.aload_n 0, 1) := by decide +kernel
theorem d_L_law_1229 : decode code 1229 = .ok (.iload 4, 2) := by decide +kernel
theorem d_L_law_1231 : decode code 1231 = .ok (.iconst 2, 1) := by decide +kernel
theorem d_L_law_1232 : decode code 1232 = .ok (.iadd, 1) := by decide +kernel
theorem d_L_law_1233 : decode code 1233 = .ok (.iaload, 1) := by decide +kernel
theorem d_L_law_1234 : decode code 1234 = .ok (.aload_n 3, 1) := by decide +kernel
theorem d_L_law_1235 : decode code 1235 = .ok (.invokestatic 130, 3) := by decide +kernel
theorem d_L_law_1238 : decode code 1238 = .ok (.istore 5, 2) := by decide +kernel
theorem d_L_law_1240 : decode code 1240 = .ok (.aload_n 2, 1) := by decide +kernel
theorem d_L_law_1241 : decode code 1241 = .ok (.aload_n 0, 1) := by decide +kernel
theorem d_L_law_1242 : decode code 1242 = .ok (.iload 4, 2) := by decide +kernel
theorem d_L_law_1244 : decode code 1244 = .ok (.iconst 1, 1) := by decide +kernel
theorem d_L_law_1245 : decode code 1245 = .ok (.iadd, 1) := by decide +kernel
theorem d_L_law_1246 : decode code 1246 = .ok (.iaload, 1) := by decide +kernel
theorem d_L_law_1247 : decode code 1247 = .ok (.aload_n 0, 1) := by decide +kernel
theorem d_L_law_1248 : decode code 1248 = .ok (.iload 4, 2) := by decide +kernel
theorem d_L_law_1250 : decode code 1250 = .ok (.iconst 2, 1) := by decide +kernel
theorem d_L_law_1251 : decode code 1251 = .ok (.iadd, 1) := by decide +kernel
theorem d_L_law_1252 : decode code 1252 = .ok (.iaload, 1) := by decide +kernel
theorem d_L_law_1253 : decode code 1253 = .ok (.invokevirtual 132, 3) := by decide +kernel
theorem d_L_law_1256 : decode code 1256 = .ok (.istore 6, 2) := by decide +kernel
theorem d_L_law_1258 : decode code 1258 = .ok (.aload_n 2, 1) := by decide +kernel
theorem d_L_law_1259 : decode code 1259 = .ok (.invokevirtual 85, 3) := by decide +kernel
theorem d_L_law_1262 : decode code 1262 = .ok (.iload 5, 2) := by decide +kernel
theorem d_L_law_1264 : decode code 1264 = .ok (.if_icmp .eq 5, 3) := by decide +kernel
theorem d_L_law_1267 : decode code 1267 = .ok (.iconst 0, 1) := by decide +kernel
theorem d_L_law_1268 : decode code 1268 = .ok (.ireturn, 1) := by decide +kernel
theorem d_L_law_1269 : decode code 1269 = .ok (.iload 5, 2) := by decide +kernel
theorem d_L_law_1271 : decode code 1271 = .ok (.ifCond .ne 15, 3) := by decide +kernel
theorem d_L_law_1274 : decode code 1274 = .ok (.aload_n 3, 1) := by decide +kernel
theorem d_L_law_1275 : decode code 1275 = .ok (.iconst 0, 1) := by decide +kernel
theorem d_L_law_1276 : decode code 1276 = .ok (.laload, 1) := by decide +kernel
theorem d_L_law_1277 : decode code 1277 = .ok (.iload 6, 2) := by decide +kernel
theorem d_L_law_1279 : decode code 1279 = .ok (.i2l, 1) := by decide +kernel
theorem d_L_law_1280 : decode code 1280 = .ok (.lcmp, 1) := by decide +kernel
theorem d_L_law_1281 : decode code 1281 = .ok (.ifCond .eq 5, 3) := by decide +kernel
theorem d_L_law_1284 : decode code 1284 = .ok (.iconst 0, 1) := by decide +kernel
theorem d_L_law_1285 : decode code 1285 = .ok (.ireturn, 1) := by decide +kernel
theorem d_L_law_1286 : decode code 1286 = .ok (.goto 96, 3) := by decide +kernel
theorem d_L_law_1289 : decode code 1289 = .ok (.aload_n 1, 1) := by decide +kernel
theorem d_L_law_1290 : decode code 1290 = .ok (.aload_n 0, 1) := by decide +kernel
theorem d_L_law_1291 : decode code 1291 = .ok (.iload 4, 2) := by decide +kernel
theorem d_L_law_1293 : decode code 1293 = .ok (.iconst 1, 1) := by decide +kernel
theorem d_L_law_1294 : decode code 1294 = .ok (.iadd, 1) := by decide +kernel
theorem d_L_law_1295 : decode code 1295 = .ok (.iaload, 1) := by decide +kernel
theorem d_L_law_1296 : decode code 1296 = .ok (.aload_n 0, 1) := by decide +kernel
theorem d_L_law_1297 : decode code 1297 = .ok (.iload 4, 2) := by decide +kernel
theorem d_L_law_1299 : decode code 1299 = .ok (.iconst 2, 1) := by decide +kernel
theorem d_L_law_1300 : decode code 1300 = .ok (.iadd, 1) := by decide +kernel
theorem d_L_law_1301 : decode code 1301 = .ok (.iaload, 1) := by decide +kernel
theorem d_L_law_1302 : decode code 1302 = .ok (.aload_n 3, 1) := by decide +kernel
theorem d_L_law_1303 : decode code 1303 = .ok (.invokestatic 133, 3) := by decide +kernel
theorem d_L_law_1306 : decode code 1306 = .ok (.istore 5, 2) := by decide +kernel
theorem d_L_law_1308 : decode code 1308 = .ok (.aload_n 2, 1) := by decide +kernel
theorem d_L_law_1309 : decode code 1309 = .ok (.aload_n 0, 1) := by decide +kernel
theorem d_L_law_1310 : decode code 1310 = .ok (.iload 4, 2) := by decide +kernel
theorem d_L_law_1312 : decode code 1312 = .ok (.iconst 1, 1) := by decide +kernel
theorem d_L_law_1313 : decode code 1313 = .ok (.iadd, 1) := by decide +kernel
theorem d_L_law_1314 : decode code 1314 = .ok (.iaload, 1) := by decide +kernel
theorem d_L_law_1315 : decode code 1315 = .ok (.aload_n 0, 1) := by decide +kernel
theorem d_L_law_1316 : decode code 1316 = .ok (.iload 4, 2) := by decide +kernel
theorem d_L_law_1318 : decode code 1318 = .ok (.iconst 2, 1) := by decide +kernel
theorem d_L_law_1319 : decode code 1319 = .ok (.iadd, 1) := by decide +kernel
theorem d_L_law_1320 : decode code 1320 = .ok (.iaload, 1) := by decide +kernel
theorem d_L_law_1321 : decode code 1321 = .ok (.invokevirtual 135, 3) := by decide +kernel
theorem d_L_law_1324 : decode code 1324 = .ok (.istore 6, 2) := by decide +kernel
theorem d_L_law_1326 : decode code 1326 = .ok (.aload_n 2, 1) := by decide +kernel
theorem d_L_law_1327 : decode code 1327 = .ok (.invokevirtual 85, 3) := by decide +kernel
theorem d_L_law_1330 : decode code 1330 = .ok (.iload 5, 2) := by decide +kernel
theorem d_L_law_1332 : decode code 1332 = .ok (.if_icmp .eq 5, 3) := by decide +kernel
theorem d_L_law_1335 : decode code 1335 = .ok (.iconst 0, 1) := by decide +kernel
theorem d_L_law_1336 : decode code 1336 = .ok (.ireturn, 1) := by decide +kernel
theorem d_L_law_1337 : decode code 1337 = .ok (.iload 5, 2) := by decide +kernel
theorem d_L_law_1339 : decode code 1339 = .ok (.ifCond .ne 15, 3) := by decide +kernel
theorem d_L_law_1342 : decode code 1342 = .ok (.aload_n 3, 1) := by decide +kernel
theorem d_L_law_1343 : decode code 1343 = .ok (.iconst 0, 1) := by decide +kernel
theorem d_L_law_1344 : decode code 1344 = .ok (.laload, 1) := by decide +kernel
theorem d_L_law_1345 : decode code 1345 = .ok (.iload 6, 2) := by decide +kernel
theorem d_L_law_1347 : decode code 1347 = .ok (.i2l, 1) := by decide +kernel
theorem d_L_law_1348 : decode code 1348 = .ok (.lcmp, 1) := by decide +kernel
theorem d_L_law_1349 : decode code 1349 = .ok (.ifCond .eq 5, 3) := by decide +kernel
theorem d_L_law_1352 : decode code 1352 = .ok (.iconst 0, 1) := by decide +kernel
theorem d_L_law_1353 : decode code 1353 = .ok (.ireturn, 1) := by decide +kernel
theorem d_L_law_1354 : decode code 1354 = .ok (.goto 28, 3) := by decide +kernel
theorem d_L_law_1357 : decode code 1357 = .ok (.aload_n 1, 1) := by decide +kernel
theorem d_L_law_1358 : decode code 1358 = .ok (.aload_n 0, 1) := by decide +kernel
theorem d_L_law_1359 : decode code 1359 = .ok (.iload 4, 2) := by decide +kernel
theorem d_L_law_1361 : decode code 1361 = .ok (.iconst 1, 1) := by decide +kernel
theorem d_L_law_1362 : decode code 1362 = .ok (.iadd, 1) := by decide +kernel
theorem d_L_law_1363 : decode code 1363 = .ok (.iaload, 1) := by decide +kernel
theorem d_L_law_1364 : decode code 1364 = .ok (.invokevirtual 136, 3) := by decide +kernel
theorem d_L_law_1367 : decode code 1367 = .ok (.aload_n 2, 1) := by decide +kernel
theorem d_L_law_1368 : decode code 1368 = .ok (.aload_n 0, 1) := by decide +kernel
theorem d_L_law_1369 : decode code 1369 = .ok (.iload 4, 2) := by decide +kernel
theorem d_L_law_1371 : decode code 1371 = .ok (.iconst 1, 1) := by decide +kernel
theorem d_L_law_1372 : decode code 1372 = .ok (.iadd, 1) := by decide +kernel
theorem d_L_law_1373 : decode code 1373 = .ok (.iaload, 1) := by decide +kernel
theorem d_L_law_1374 : decode code 1374 = .ok (.invokevirtual 139, 3) := by decide +kernel
theorem d_L_law_1377 : decode code 1377 = .ok (.if_icmp .eq 5, 3) := by decide +kernel
theorem d_L_law_1380 : decode code 1380 = .ok (.iconst 0, 1) := by decide +kernel
theorem d_L_law_1381 : decode code 1381 = .ok (.ireturn, 1) := by decide +kernel
theorem d_L_law_1382 : decode code 1382 = .ok (.iinc 4 5, 3) := by decide +kernel
theorem d_L_law_1385 : decode code 1385 = .ok (.goto (-1362), 3) := by decide +kernel
theorem d_L_law_1388 : decode code 1388 = .ok (.iconst 1, 1) := by decide +kernel
theorem d_L_law_1389 : decode code 1389 = .ok (.ireturn, 1) := by decide +kernel
end
section
/-! UNIFORM WORLDS: a world of N cells; cell k lies at the address ad k and holds g k. -/
def uw (N : Nat) (ad : Nat → Nat) (g : Nat → va_E) : va_W := (List.range N).map (fun k => (ad k, g k))
theorem uw_get {N : Nat} {ad : Nat → Nat} {g : Nat → va_E} {k : Nat} (h : k < N) : (uw N ad g)[k]? = some (ad k, g k) := by
  simp [uw, h]
theorem uw_at {N : Nat} {ad : Nat → Nat} {g : Nat → va_E} {k : Nat} {e : va_E} (h : k < N) (hg : g k = e) : (uw N ad g)[k]? = some (ad k, e) := by
  rw [← hg]; exact uw_get h
theorem uw_inv {N : Nat} {ad : Nat → Nat} {g : Nat → va_E} {k : Nat} {q : Nat × va_E} (h : (uw N ad g)[k]? = some q) : k < N ∧ q = (ad k, g k) := by
  have hl : k < (uw N ad g).length := (List.getElem?_eq_some_iff.mp h).1
  have hk : k < N := by simpa [uw] using hl
  rw [uw_get hk] at h
  exact ⟨hk, (Option.some.inj h).symm⟩
theorem uw_set {N : Nat} {ad : Nat → Nat} {g : Nat → va_E} {k : Nat} {e : va_E} (h : k < N) : (uw N ad g).set k (ad k, e) = uw N ad (va_up g k e) := by
  apply List.ext_getElem?
  intro j
  by_cases hj : k = j
  · subst hj
    rw [List.getElem?_set_self (by simpa [uw] using h), uw_get h]
    simp [va_up]
  · rw [List.getElem?_set_ne hj]
    by_cases h2 : j < N
    · rw [uw_get h2, uw_get h2]
      simp [va_up, Ne.symm hj]
    · rw [List.getElem?_eq_none (by simpa [uw] using h2), List.getElem?_eq_none (by simpa [uw] using h2)]
theorem uw_congr {N : Nat} {ad : Nat → Nat} {g g' : Nat → va_E} (h : ∀ k, k < N → g k = g' k) : uw N ad g = uw N ad g' := by
  unfold uw
  exact List.map_congr_left fun k hk => by rw [h k (List.mem_range.mp hk)]
/-- the addresses are apart -/
def uJ (N : Nat) (ad : Nat → Nat) : Prop := ∀ i j : Nat, i < N → j < N → ad i = ad j → i = j
/-- the cells that a method of this world may change -/
def uA (N : Nat) (ad : Nat → Nat) (sz : Nat) : Nat → Prop := fun q => (∃ k : Nat, k < N ∧ q = ad k) ∨ sz ≤ q
theorem uD {N : Nat} {ad : Nat → Nat} {g : Nat → va_E} (sz : Nat) (h : uJ N ad) : va_D (uA N ad sz) (uw N ad g) := by
  refine ⟨fun i j p q hi hj hpq => ?_, fun k q hk => ?_⟩
  · obtain ⟨h1, rfl⟩ := uw_inv hi
    obtain ⟨h2, rfl⟩ := uw_inv hj
    exact h i j h1 h2 hpq
  · obtain ⟨h1, rfl⟩ := uw_inv hk
    exact Or.inl ⟨k, h1, rfl⟩
theorem uA_mono {N : Nat} {ad : Nat → Nat} {a b : Nat} (h : a ≤ b) : ∀ q, uA N ad b q → uA N ad a q := fun _ hq => hq.elim Or.inl (fun z => Or.inr (Nat.le_trans h z))
theorem uP_lt {D : va_G} {cl : List vw_C} {N : Nat} {ad : Nat → Nat} {g : Nat → va_E} {H : Heap} (hP : va_P D cl (uw N ad g) H) {k : Nat} (hk : k < N) : ad k < H.size := (hP k _ (uw_get hk)).lt
/-- another world, cells unchanged: it stays -/
theorem uP_kept {D : va_G} {cl : List vw_C} {N : Nat} {ad : Nat → Nat} {g : Nat → va_E} {H H1 : Heap} (hP : va_P D cl (uw N ad g) H) (h : ∀ k, k < N → H1[ad k]? = H[ad k]?) : va_P D cl (uw N ad g) H1 := by
  refine hP.kept (fun k q hk => ?_)
  obtain ⟨h1, rfl⟩ := uw_inv hk
  exact h k h1
section UR
variable {p : Program} {l : Launch} {e : Env} {R : Room} {s : State} {m : MethodId} {args : Array Value} {below : List Frame} {meth : Method} {c : Code} {H H0 : Heap} {locs : List Loc} {cells slots : Nat} {Q : State → Prop}
variable {cc : ByteArray} {pc nL : Nat} {ls : Array Slot} {rest : List Value} {D : va_G} {cl : List vw_C} {A : Nat → Prop} {tys : List (ClassId × FieldType)} {Ts : List Cond} {own : String} {N : Nat} {ad : Nat → Nat} {g g' : Nat → va_E}
theorem ur_get (S : CallFix p m c cc nL s args Ts own) (hK : va_K D cl tys s) (hP : va_P D cl (uw N ad g) H) {k : Nat} (hk : k < N) {C : String} {T : u_T} {Nf ci : Nat} {fs : List Value} (hg : g k = .inr (ci, fs)) (hc : cl[ci]? = some (C, T, Nf)) (hin : ∀ w ∈ u_ws C T Nf, w ∈ Ts) (f : Nat) (hf : f < Nf) {index : Nat} (hlink : (Cond.fieldLink own index (T f).1 (T f).2.1 (T f).2.2.1) ∈ Ts) {v : Value} (hv : fs[f]? = some v) (hdg : decode cc pc = .ok (.getfield index, 3))
    (kk : W p l e R s m args below meth c H locs cells slots Q (F0 m (pc + 3) ls (v :: rest))) : W p l e R s m args below meth c H locs cells slots Q (F0 m pc ls (.ref (ad k) :: rest)) :=
  va_get S.1 S.2.1 S.2.2.2.2 hin S.2.2.2.1 hK hP k (uw_at hk hg) hc f hf (S.2.2.2.2 _ hlink) (fun _ h => h) hv hdg kk
theorem ur_getN (S : CallFix p m c cc nL s args Ts own) (hK : va_K D cl tys s) (hP : va_P D cl (uw N ad g) H) {k : Nat} (hk : k < N) {C host : String} {T : u_T} {Nf ci : Nat} {fs : List Value} (hg : g k = .inr (ci, fs)) (hc : cl[ci]? = some (C, T, Nf)) (hin : ∀ w ∈ u_ws C T Nf, w ∈ Ts) (f : Nat) (hf : f < Nf) {index : Nat} (hlink : va_Nw (Cond.fieldLinkNest own index (T f).1 (T f).2.1 (T f).2.2.1 host) s) {v : Value} (hv : fs[f]? = some v) (hdg : decode cc pc = .ok (.getfield index, 3))
    (kk : W p l e R s m args below meth c H locs cells slots Q (F0 m (pc + 3) ls (v :: rest))) : W p l e R s m args below meth c H locs cells slots Q (F0 m pc ls (.ref (ad k) :: rest)) :=
  va_getN S.1 S.2.1 S.2.2.2.2 hin S.2.2.2.1 hK hP k (uw_at hk hg) hc f hf (va_Nw.use rfl hlink) (fun _ h => h) hv hdg kk
theorem ur_put (S : CallFix p m c cc nL s args Ts own) (hK : va_K D cl tys s) (hP : va_P D cl (uw N ad g) H) (hD : va_D A (uw N ad g)) (hS : va_S A H0 H locs) {k : Nat} (hk : k < N) {C : String} {T : u_T} {Nf ci : Nat} {fs : List Value} (hg : g k = .inr (ci, fs)) (hc : cl[ci]? = some (C, T, Nf)) (hin : ∀ w ∈ u_ws C T Nf, w ∈ Ts) (ty0 : Nat → FieldType) (hty : ∀ k, k < Nf → parseFieldDescriptor (T k).2.2.1 = some (ty0 k)) (hnm : ∀ a, a < Nf → ∀ b, b < Nf → a ≠ b → (T a).2.1 ≠ (T b).2.1) (f : Nat) (hf : f < Nf) {index : Nat} (hlink : (Cond.fieldLink own index (T f).1 (T f).2.1 (T f).2.2.1) ∈ Ts) (hfin : (T f).2.2.2 = false) {v : Value} (hn : narrow (ty0 f) v = v) (hfit : fits (ty0 f) v = true) (hl : f < fs.length) (hu : ∀ k', k' < N → va_up g k (.inr (ci, fs.set f v)) k' = g' k') (hdg : decode cc pc = .ok (.putfield index, 3))
    (kk : ∀ (H1 : Heap) (locs1 : List Loc), va_P D cl (uw N ad g') H1 → va_S A H0 H1 locs1 → W p l e R s m args below meth c H1 locs1 cells slots Q (F0 m (pc + 3) ls rest)) : W p l e R s m args below meth c H locs cells slots Q (F0 m pc ls (v :: .ref (ad k) :: rest)) :=
  va_put S.1 S.2.1 S.2.2.2.2 hin ty0 hty hnm S.2.2.2.1 hK hP hD hS k (uw_at hk hg) hc f hf (S.2.2.2.2 _ hlink) (fun _ h => h) hfin (hty f hf) hn hfit hl hdg (fun H1 locs1 h1 _ h3 => kk H1 locs1 (by rw [uw_set hk, uw_congr hu] at h1; exact h1) h3)
theorem ur_putN (S : CallFix p m c cc nL s args Ts own) (hK : va_K D cl tys s) (hP : va_P D cl (uw N ad g) H) (hD : va_D A (uw N ad g)) (hS : va_S A H0 H locs) {k : Nat} (hk : k < N) {C host : String} {T : u_T} {Nf ci : Nat} {fs : List Value} (hg : g k = .inr (ci, fs)) (hc : cl[ci]? = some (C, T, Nf)) (hin : ∀ w ∈ u_ws C T Nf, w ∈ Ts) (ty0 : Nat → FieldType) (hty : ∀ k, k < Nf → parseFieldDescriptor (T k).2.2.1 = some (ty0 k)) (hnm : ∀ a, a < Nf → ∀ b, b < Nf → a ≠ b → (T a).2.1 ≠ (T b).2.1) (f : Nat) (hf : f < Nf) {index : Nat} (hlink : va_Nw (Cond.fieldLinkNest own index (T f).1 (T f).2.1 (T f).2.2.1 host) s) (hfin : (T f).2.2.2 = false) {v : Value} (hn : narrow (ty0 f) v = v) (hfit : fits (ty0 f) v = true) (hl : f < fs.length) (hu : ∀ k', k' < N → va_up g k (.inr (ci, fs.set f v)) k' = g' k') (hdg : decode cc pc = .ok (.putfield index, 3))
    (kk : ∀ (H1 : Heap) (locs1 : List Loc), va_P D cl (uw N ad g') H1 → va_S A H0 H1 locs1 → W p l e R s m args below meth c H1 locs1 cells slots Q (F0 m (pc + 3) ls rest)) : W p l e R s m args below meth c H locs cells slots Q (F0 m pc ls (v :: .ref (ad k) :: rest)) :=
  va_putN S.1 S.2.1 S.2.2.2.2 hin ty0 hty hnm S.2.2.2.1 hK hP hD hS k (uw_at hk hg) hc f hf (va_Nw.use rfl hlink) (fun _ h => h) hfin (hty f hf) hn hfit hl hdg (fun H1 locs1 h1 _ h3 => kk H1 locs1 (by rw [uw_set hk, uw_congr hu] at h1; exact h1) h3)
/-- an int of an array, at the place j -/
theorem ur_iald (S : CallFix p m c cc nL s args Ts own) (hK : va_K D cl tys s) (hP : va_P D cl (uw N ad g) H) {k : Nat} (hk : k < N) (t0 : Nat) {cA : ClassId} {n : Nat} {f : Nat → Int32} (hg : g k = .inl (cA, n, .inl f)) (ht : tys[t0]? = some (cA, .int)) {j : Nat} {i : Int32} (hi : i = nI j) (hj : j < n) (hn : n < 2 ^ 31) (hdg : decode cc pc = .ok (.iaload, 1))
    (kk : W p l e R s m args below meth c H locs cells slots Q (F0 m (pc + 1) ls (.int (f j) :: rest))) : W p l e R s m args below meth c H locs cells slots Q (F0 m pc ls (.int i :: .ref (ad k) :: rest)) := by
  subst hi
  refine va_iald S.1 S.2.1 hK hP k t0 (uw_at hk hg) ht (vp_in_nI hj hn) hdg ?_
  rw [nI_clamp (Nat.lt_trans hj hn)]
  exact kk
theorem ur_zald (S : CallFix p m c cc nL s args Ts own) (hK : va_K D cl tys s) (hP : va_P D cl (uw N ad g) H) {k : Nat} (hk : k < N) (t0 : Nat) {cA : ClassId} {n : Nat} {f : Nat → Int32} (hg : g k = .inl (cA, n, .inl f)) (ht : tys[t0]? = some (cA, .boolean)) {j : Nat} {i : Int32} (hi : i = nI j) (hj : j < n) (hn : n < 2 ^ 31) (hdg : decode cc pc = .ok (.baload, 1))
    (kk : W p l e R s m args below meth c H locs cells slots Q (F0 m (pc + 1) ls (.int (f j) :: rest))) : W p l e R s m args below meth c H locs cells slots Q (F0 m pc ls (.int i :: .ref (ad k) :: rest)) := by
  subst hi
  refine va_zald S.1 S.2.1 hK hP k t0 (uw_at hk hg) ht (vp_in_nI hj hn) hdg ?_
  rw [nI_clamp (Nat.lt_trans hj hn)]
  exact kk
theorem ur_iast (S : CallFix p m c cc nL s args Ts own) (hK : va_K D cl tys s) (hP : va_P D cl (uw N ad g) H) (hD : va_D A (uw N ad g)) (hS : va_S A H0 H locs) {k : Nat} (hk : k < N) (t0 : Nat) {cA : ClassId} {n : Nat} {f : Nat → Int32} (hg : g k = .inl (cA, n, .inl f)) (ht : tys[t0]? = some (cA, .int)) {j : Nat} {i x : Int32} (hi : i = nI j) (hj : j < n) (hn : n < 2 ^ 31) (hu : ∀ k', k' < N → va_up g k (.inl (cA, n, .inl (upd f j x))) k' = g' k') (hdg : decode cc pc = .ok (.iastore, 1))
    (kk : ∀ (H1 : Heap) (locs1 : List Loc), va_P D cl (uw N ad g') H1 → va_S A H0 H1 locs1 → W p l e R s m args below meth c H1 locs1 cells slots Q (F0 m (pc + 1) ls rest)) : W p l e R s m args below meth c H locs cells slots Q (F0 m pc ls (.int x :: .int i :: .ref (ad k) :: rest)) := by
  subst hi
  refine va_iast S.1 S.2.1 hK hP hD hS k t0 (uw_at hk hg) ht (vp_in_nI hj hn) hdg (fun H1 locs1 h1 _ h3 => kk H1 locs1 ?_ h3)
  rw [nI_clamp (Nat.lt_trans hj hn), uw_set hk, uw_congr hu] at h1
  exact h1
theorem ur_zast (S : CallFix p m c cc nL s args Ts own) (hK : va_K D cl tys s) (hP : va_P D cl (uw N ad g) H) (hD : va_D A (uw N ad g)) (hS : va_S A H0 H locs) {k : Nat} (hk : k < N) (t0 : Nat) {cA : ClassId} {n : Nat} {f : Nat → Int32} (hg : g k = .inl (cA, n, .inl f)) (ht : tys[t0]? = some (cA, .boolean)) {j : Nat} {i x : Int32} (hi : i = nI j) (hj : j < n) (hn : n < 2 ^ 31) (hx : vp_nar .boolean x = x) (hu : ∀ k', k' < N → va_up g k (.inl (cA, n, .inl (upd f j x))) k' = g' k') (hdg : decode cc pc = .ok (.bastore, 1))
    (kk : ∀ (H1 : Heap) (locs1 : List Loc), va_P D cl (uw N ad g') H1 → va_S A H0 H1 locs1 → W p l e R s m args below meth c H1 locs1 cells slots Q (F0 m (pc + 1) ls rest)) : W p l e R s m args below meth c H locs cells slots Q (F0 m pc ls (.int x :: .int i :: .ref (ad k) :: rest)) := by
  subst hi
  refine va_zast S.1 S.2.1 hK hP hD hS k t0 (uw_at hk hg) ht (vp_in_nI hj hn) hdg (fun H1 locs1 h1 _ h3 => kk H1 locs1 ?_ h3)
  rw [nI_clamp (Nat.lt_trans hj hn), hx, uw_set hk, uw_congr hu] at h1
  exact h1
/-- a reference out of an array of objects -/
theorem ur_aald (S : CallFix p m c cc nL s args Ts own) (hK : va_K D cl tys s) (hP : va_P D cl (uw N ad g) H) {k : Nat} (hk : k < N) (t0 : Nat) {cA : ClassId} {C : String} {n q : Nat} {f : Nat → Option Nat} (hg : g k = .inl (cA, n, .inr (.inr (.inr (.inr f))))) (ht : tys[t0]? = some (cA, .object C)) {j : Nat} {i : Int32} (hi : i = nI j) (hj : j < n) (hn : n < 2 ^ 31) (hq : f j = some q) (hdg : decode cc pc = .ok (.aaload, 1))
    (kk : W p l e R s m args below meth c H locs cells slots Q (F0 m (pc + 1) ls (.ref q :: rest))) : W p l e R s m args below meth c H locs cells slots Q (F0 m pc ls (.int i :: .ref (ad k) :: rest)) := by
  subst hi
  refine va_aldq S.1 S.2.1 hK hP k t0 (uw_at hk hg) ht (vp_in_nI hj hn) hdg ?_
  rw [nI_clamp (Nat.lt_trans hj hn), hq]
  exact kk
theorem ur_aast (S : CallFix p m c cc nL s args Ts own) (hK : va_K D cl tys s) (hP : va_P D cl (uw N ad g) H) (hD : va_D A (uw N ad g)) (hS : va_S A H0 H locs) {k : Nat} (hk : k < N) (t0 : Nat) {cA : ClassId} {r : vw_C} {n : Nat} {f : Nat → Option Nat} (hg : g k = .inl (cA, n, .inr (.inr (.inr (.inr f))))) (ht : tys[t0]? = some (cA, .object r.1)) {j : Nat} {i : Int32} (hi : i = nI j) (hj : j < n) (hn : n < 2 ^ 31) {kv ci : Nat} (hkv : kv < N) {fs : List Value} (hgv : g kv = .inr (ci, fs)) (hc : cl[ci]? = some r) (hu : ∀ k', k' < N → va_up g k (.inl (cA, n, .inr (.inr (.inr (.inr (va_up f j (some (ad kv)))))))) k' = g' k') (hdg : decode cc pc = .ok (.aastore, 1))
    (kk : ∀ (H1 : Heap) (locs1 : List Loc), va_P D cl (uw N ad g') H1 → va_S A H0 H1 locs1 → W p l e R s m args below meth c H1 locs1 cells slots Q (F0 m (pc + 1) ls rest)) : W p l e R s m args below meth c H locs cells slots Q (F0 m pc ls (.ref (ad kv) :: .int i :: .ref (ad k) :: rest)) := by
  subst hi
  refine va_astq S.1 S.2.1 hK hP hD hS k t0 kv ci (uw_at hk hg) ht (uw_at hkv hgv) hc (vp_in_nI hj hn) hdg (fun H1 locs1 h1 _ h3 => kk H1 locs1 ?_ h3)
  rw [nI_clamp (Nat.lt_trans hj hn), uw_set hk, uw_congr hu] at h1
  exact h1
end UR
end
section
/-! CONTRACTS IN A UNIFORM WORLD. The words of every method: its own code, and all good words of the tables. -/
def uWS : List Cond := lw_tbl.filter goodWord
theorem uWS_mem {w : Cond} (h : w ∈ lw_tbl) (hg : goodWord w = true) : w ∈ uWS := List.mem_filter.mpr ⟨h, hg⟩
theorem uWS_in {w : Cond} (h : w ∈ uWS) : w ∈ lw_tbl := (List.mem_filter.mp h).1
theorem uWS_good {w : Cond} (h : w ∈ uWS) : (w.onTables && w.keeps) = true ∨ ∃ ty, w = .arrayClass ty := good_of_word (List.mem_filter.mp h).2
theorem uGood {Ts : List Cond} (hT : ∀ w ∈ uWS, w ∈ Ts) {y : MethodName} {b : ByteArray} {n : Nat} {r : Option FieldType} (h : Cond.code y b n r ∈ uWS) : GoodIn Ts (Cond.code y b n r :: uWS) := by
  intro w hw
  rcases List.mem_cons.mp hw with rfl | hw
  · exact ⟨hT _ h, uWS_good h⟩
  · exact ⟨hT w hw, uWS_good hw⟩
/-- words on links between nest mates: they hold of the tables, and stay -/
def uNest : Cond → Bool
  | .fieldLinkNest .. => true
  | .methodLinkNest .. => true
  | _ => false
theorem uNest_on {w : Cond} (h : uNest w = true) : w.onTables = true := by
  cases w <;> first | rfl | cases h
theorem uNest_warm {w : Cond} (h : uNest w = true) {s U : State} (hW : s.WarmedH U.vm) (hz : va_Nw w s) : va_Nw w U := by
  cases w <;> first | exact va_Nw.warmF hW hz | exact va_Nw.warmM hW hz | cases h
def uNW : List Cond := lw_tbl.filter uNest
theorem uNW_mem {w : Cond} (h : w ∈ lw_tbl) (hg : uNest w = true) : w ∈ uNW := List.mem_filter.mpr ⟨h, hg⟩
/-- what a method finds: the world g, the tables -/
def uB (D : va_G) (cl : List vw_C) (tys : List (ClassId × FieldType)) (N : Nat) (ad : Nat → Nat) (g : Nat → va_E) (sz : Nat) (U : State) : Prop :=
  U.heap.size = sz ∧ va_P D cl (uw N ad g) U.heap ∧ va_K D cl tys U ∧ ∀ w ∈ uNW, va_Nw w U
theorem uB_blind {D : va_G} {cl : List vw_C} {tys : List (ClassId × FieldType)} {N : Nat} {ad : Nat → Nat} {g : Nat → va_E} {sz : Nat} {av : List Value} : FrameBlind (va_Pc av (uB D cl tys N ad g sz)) := by
  intro a U fr mk q
  obtain ⟨q0, q1, qP, qK, qN⟩ := q
  exact ⟨q0, q1, qP, va_K.moved (u := U) (U := U.calling fr mk a) (Vm.Alike.refl U.vm) qK, fun w hw => va_Nw.same (u := U) (U := U.calling fr mk a) (uNest_on (List.mem_filter.mp hw).2) rfl (qN w hw)⟩
theorem uB_at {D : va_G} {cl : List vw_C} {tys : List (ClassId × FieldType)} {N : Nat} {ad : Nat → Nat} {g : Nat → va_E} {s : State} {H : Heap} {av : List Value} (hP : va_P D cl (uw N ad g) H) (hK : va_K D cl tys s) (hN : ∀ w ∈ uNW, va_Nw w s) : ∀ U : State, U.heap = H → s.WarmedH U.vm → va_Pc av (uB D cl tys N ad g H.size) av.toArray U :=
  fun U hU hW => ⟨rfl, by rw [hU], by rw [hU]; exact hP, va_K.moved hW.alike hK, fun w hw => uNest_warm (List.mem_filter.mp hw).2 hW (hN w hw)⟩
/-- the world behind a method -/
def uT {σ : Type} (D : va_G) (cl : List vw_C) (N : Nat) (ad : Nat → Nat) (G : σ → Nat → va_E) (u : σ) (t : State) : Prop := va_P D cl (uw N ad (G u)) t.heap
section UMET
variable {σ : Type} (l : Launch) (y : MethodName) (cc : ByteArray) (maxL : Nat) (ret : Option FieldType) (fr lo : Nat) (D : va_G) (cl : List vw_C) (tys : List (ClassId × FieldType)) (N : Nat) (ad : Nat → Nat) (G : σ → Nat → va_E) (st : σ) (av : List Value)
/-- contracts: an int (or boolean) answer; none; a reference -/
def uMi (post : Int32 → σ → Prop) : Prop := ∀ sz : Nat, Met l y (Cond.code y cc maxL ret :: uWS) { frames := fr, cells := 0, slots := 0, locals := lo } (va_Pc av (uB D cl tys N ad (G st) sz)) (va_Qi post (uT D cl N ad G) (uA N ad sz)) 0 0 (uA N ad sz)
def uMv (post : σ → Prop) : Prop := ∀ sz : Nat, Met l y (Cond.code y cc maxL ret :: uWS) { frames := fr, cells := 0, slots := 0, locals := lo } (va_Pc av (uB D cl tys N ad (G st) sz)) (va_Qv post (uT D cl N ad G) (uA N ad sz)) 0 0 (uA N ad sz)
def uMr (post : Nat → σ → Prop) : Prop := ∀ sz : Nat, Met l y (Cond.code y cc maxL ret :: uWS) { frames := fr, cells := 0, slots := 0, locals := lo } (va_Pc av (uB D cl tys N ad (G st) sz)) (va_Qr (fun _ : σ => True) (fun u a t => post a u ∧ uT D cl N ad G u t) (uA N ad sz)) 0 0 (uA N ad sz)
end UMET
section UENTRY
variable {σ : Type} {l : Launch} {y : MethodName} {cc : ByteArray} {maxL : Nat} {ret : Option FieldType} {fr lo : Nat} {D : va_G} {cl : List vw_C} {tys : List (ClassId × FieldType)} {N : Nat} {ad : Nat → Nat} {G : σ → Nat → va_E} {st : σ} {av : List Value}
/-- a body, from its entry: what it has -/
def uBody (l : Launch) (y : MethodName) (cc : ByteArray) (maxL : Nat) (ret : Option FieldType) (fr lo : Nat) (D : va_G) (cl : List vw_C) (tys : List (ClassId × FieldType)) (N : Nat) (ad : Nat → Nat) (G : σ → Nat → va_E) (st : σ) (av : List Value) (Qc : Nat → Array Value → State → Outcome → State → Prop) : Prop :=
  ∀ (p : Program) (e : Env) (s : State) (m : MethodId) (below : List Frame) (meth : Method) (c : Code) (ls : Array Slot), CallFix p m c cc maxL s av.toArray (Cond.code y cc maxL ret :: uWS) y.cls → meth.sig.returnType = ret → meth.locks = false → va_K D cl tys s → (∀ w ∈ uNW, va_Nw w s) → va_P D cl (uw N ad (G st)) s.heap → lv_has ls maxL (lv_args 0 av) →
    W p l e { frames := fr, cells := 0, slots := 0, locals := lo } s m av.toArray below meth c s.heap [] 0 0 (MQ below (Qc s.heap.size) av.toArray s 0 0 (uA N ad s.heap.size)) (F0 m 0 ls [])
theorem uStart {Qc : Nat → Array Value → State → Outcome → State → Prop} (hy : plainName y.cls = true) (hlen : (lg_sl av).length ≤ maxL) (h : uBody l y cc maxL ret fr lo D cl tys N ad G st av Qc) (sz : Nat) : Met l y (Cond.code y cc maxL ret :: uWS) { frames := fr, cells := 0, slots := 0, locals := lo } (va_Pc av (uB D cl tys N ad (G st) sz)) (Qc sz) 0 0 (uA N ad sz) := by
  refine Met.ofW (cc := cc) (maxL := maxL) (ret := ret) hy rfl ?_
  intro p e s m args below meth c s₁ B hml hv
  obtain ⟨rfl, rfl, hP, hK, hN⟩ := hv
  have hl := lv_entry av (n := maxL) hlen
  rw [lg_entry_eq]
  exact h p e s m below meth c _ ⟨B.exec, B.bytes, hml, findClass_of_methodNamed B.named, atoms_spec (ws := Cond.code y cc maxL ret :: uWS) B.pre⟩ B.returns B.notSynchronized hK hN hP hl
end UENTRY
section UENDS
variable {σ : Type} {p : Program} {l : Launch} {e : Env} {R : Room} {s : State} {m : MethodId} {args : Array Value} {below : List Frame} {meth : Method} {c : Code} {H : Heap} {locs : List Loc}
variable {cc : ByteArray} {pc nL : Nat} {ls : Array Slot} {D : va_G} {cl : List vw_C} {Ts : List Cond} {own : String} {N : Nat} {ad : Nat → Nat} {G : σ → Nat → va_E}
theorem uIret {post : Int32 → σ → Prop} (S : CallFix p m c cc nL s args Ts own) (hr : meth.sig.returnType = some .int) (hlk : meth.locks = false) {r : Int32} (u : σ) (hP : va_P D cl (uw N ad (G u)) H) (hS : va_S (uA N ad s.heap.size) s.heap H locs) (hp : post r u) (hdg : decode cc pc = .ok (.ireturn, 1)) :
    W p l e R s m args below meth c H locs 0 0 (MQ below (va_Qi post (uT D cl N ad G) (uA N ad s.heap.size)) args s 0 0 (uA N ad s.heap.size)) (F0 m pc ls [.int r]) :=
  W.iret S.1 S.2.1 hr (fun t ht _ => ⟨⟨r, u, rfl, hp, by show va_P D cl (uw N ad (G u)) t.heap; rw [ht]; exact hP⟩, hS.F ht⟩) hS.2.2 hdg hlk
theorem uZret {post : Int32 → σ → Prop} (S : CallFix p m c cc nL s args Ts own) (hr : meth.sig.returnType = some .boolean) (hlk : meth.locks = false) {r : Int32} (hn : narrow .boolean (.int r) = .int r) (u : σ) (hP : va_P D cl (uw N ad (G u)) H) (hS : va_S (uA N ad s.heap.size) s.heap H locs) (hp : post r u) (hdg : decode cc pc = .ok (.ireturn, 1)) :
    W p l e R s m args below meth c H locs 0 0 (MQ below (va_Qi post (uT D cl N ad G) (uA N ad s.heap.size)) args s 0 0 (uA N ad s.heap.size)) (F0 m pc ls [.int r]) :=
  W.zret S.1 S.2.1 hr hn (fun t ht _ => ⟨⟨r, u, rfl, hp, by show va_P D cl (uw N ad (G u)) t.heap; rw [ht]; exact hP⟩, hS.F ht⟩) hS.2.2 hdg hlk
theorem uVret {post : σ → Prop} (S : CallFix p m c cc nL s args Ts own) (hr : meth.sig.returnType = none) (hlk : meth.locks = false) (u : σ) (hP : va_P D cl (uw N ad (G u)) H) (hS : va_S (uA N ad s.heap.size) s.heap H locs) (hp : post u) (hdg : decode cc pc = .ok (.return_, 1)) :
    W p l e R s m args below meth c H locs 0 0 (MQ below (va_Qv post (uT D cl N ad G) (uA N ad s.heap.size)) args s 0 0 (uA N ad s.heap.size)) (F0 m pc ls []) :=
  W.vret S.1 S.2.1 hr (fun t ht _ => ⟨⟨u, rfl, hp, by show va_P D cl (uw N ad (G u)) t.heap; rw [ht]; exact hP⟩, hS.F ht⟩) hS.2.2 hdg hlk
theorem uRret {post : Nat → σ → Prop} {rt : String} (S : CallFix p m c cc nL s args Ts own) (hr : meth.sig.returnType = some (.object rt)) (hlk : meth.locks = false) {q : Nat} (u : σ) (hP : va_P D cl (uw N ad (G u)) H) (hS : va_S (uA N ad s.heap.size) s.heap H locs) (hp : post q u) (hdg : decode cc pc = .ok (.areturn, 1)) :
    W p l e R s m args below meth c H locs 0 0 (MQ below (va_Qr (fun _ : σ => True) (fun u a t => post a u ∧ uT D cl N ad G u t) (uA N ad s.heap.size)) args s 0 0 (uA N ad s.heap.size)) (F0 m pc ls [.ref q]) :=
  W.aret S.1 S.2.1 hr (Or.inl ⟨rt, rfl⟩) (Or.inr ⟨q, rfl⟩) (fun t ht _ => ⟨⟨u, q, rfl, trivial, hp, by show va_P D cl (uw N ad (G u)) t.heap; rw [ht]; exact hP⟩, hS.F ht⟩) hS.2.2 hdg hlk
end UENDS
section UCALLS
variable {σ : Type} {p : Program} {l : Launch} {e : Env} {R : Room} {s : State} {m : MethodId} {args : Array Value} {below : List Frame} {meth : Method} {c : Code} {H : Heap} {locs : List Loc} {cells slots : Nat} {Q : State → Prop}
variable {cc : ByteArray} {pc nL : Nat} {ls : Array Slot} {rest : List Value} {D : va_G} {cl : List vw_C} {tys : List (ClassId × FieldType)} {Ts : List Cond} {own C : String} {N : Nat} {ad : Nat → Nat} {G : σ → Nat → va_E} {st : σ}
variable {y : MethodName} {bytes : ByteArray} {maxL fr lo n index : Nat} {ret : Option FieldType} {As : List Value} {b : Nat}
theorem uKeep (hS : va_S (uA N ad s.heap.size) s.heap H locs) : ∀ q, uA N ad H.size q → uA N ad s.heap.size q := uA_mono hS.1
/-- what a call of a public or package method asks: words by their places in the list -/
def uCW (Ts : List Cond) (own : String) (index : Nat) (y : MethodName) (bytes : ByteArray) (maxL : Nat) (ret : Option FieldType) (n fr lo : Nat) (R : Room) : Prop :=
  (∀ w ∈ uWS, w ∈ Ts) ∧ Cond.code y bytes maxL ret ∈ uWS ∧ Cond.methodLink own index y ∈ uWS ∧ Cond.initialized y.cls ∈ uWS ∧ (y.cls ≠ "java/lang/invoke/MethodHandle" ∧ y.cls ≠ "java/lang/invoke/VarHandle" ∧ (parseMethodDescriptor y.desc).map (fun d => d.parameters.length) = some n) ∧ fr + 1 ≤ R.frames ∧ 8 + (maxL + 11) + lo ≤ R.locals
theorem uCB (S : CallFix p m c cc nL s args Ts own) (h : uCW Ts own index y bytes maxL ret n fr lo R) : CallB R s args own index y bytes maxL ret (Cond.code y bytes maxL ret :: uWS) { frames := fr, cells := 0, slots := 0, locals := lo } 0 0 n := by
  obtain ⟨h0, h1, h2, h3, h4, h5, h6⟩ := h
  exact callB_of n S.2.2.2.2 (uGood h0 h1) rfl rfl rfl (S.2.2.2.2 _ (h0 _ h3)) (S.2.2.2.2 _ (h0 _ h2)) h4 ⟨h5, h6⟩
theorem uRunV {Pc : Array Value → State → Prop} {Qc : Array Value → State → Outcome → State → Prop} {free : Addr → Prop} (S : CallFix p m c cc nL s args Ts own) (hcw : uCW Ts own index y bytes maxL ret n fr lo R) (hI : Cond.instanceMethod y ∈ uWS) (hX : Cond.selects C y y ∈ uWS) (hM : Met l y (Cond.code y bytes maxL ret :: uWS) { frames := fr, cells := 0, slots := 0, locals := lo } Pc Qc 0 0 free) (hp : PreV s H C b Pc As) (hn : As.length = n) (hls : ls.size = nL) {st0 : List Value} (hst : st0 = As.reverse ++ .ref b :: rest) (hW : (rest.map fun v => v.category).sum ≤ 8) (hdg : decode cc pc = .ok (.invokevirtual index, 3)) (hc : cells ≤ R.cells ∧ slots ≤ R.slots) :
    va_Run p l e R s m args below meth c H locs cells slots 0 0 (F0 m pc ls st0) rest (Qc (Value.ref b :: As).toArray) free :=
  va_runV S hM ⟨uCB S hcw, S.2.2.2.2 _ (hcw.1 _ hI), S.2.2.2.2 _ (hcw.1 _ hX)⟩ hp rfl hn hls hst (lv_room hW) hdg hc
theorem uRunS {Pc : Array Value → State → Prop} {Qc : Array Value → State → Outcome → State → Prop} {free : Addr → Prop} (S : CallFix p m c cc nL s args Ts own) (hcw : uCW Ts own index y bytes maxL ret n fr lo R) (hI : Cond.static y ∈ uWS) (hM : Met l y (Cond.code y bytes maxL ret :: uWS) { frames := fr, cells := 0, slots := 0, locals := lo } Pc Qc 0 0 free) (hp : PreS s H Pc As) (hn : As.length = n) (hls : ls.size = nL) {st0 : List Value} (hst : st0 = As.reverse ++ rest) (hW : (rest.map fun v => v.category).sum ≤ 8) (hdg : decode cc pc = .ok (.invokestatic index, 3)) (hc : cells ≤ R.cells ∧ slots ≤ R.slots) :
    va_Run p l e R s m args below meth c H locs cells slots 0 0 (F0 m pc ls st0) rest (Qc As.toArray) free :=
  va_runS S hM ⟨uCB S hcw, S.2.2.2.2 _ (hcw.1 _ hI)⟩ hp rfl hn hls hst (lv_room hW) hdg hc
/-- x.f(..) with an int answer, on an object of the same world -/
theorem uVi {post : Int32 → σ → Prop} (S : CallFix p m c cc nL s args Ts own) (hK : va_K D cl tys s) (hN : ∀ w ∈ uNW, va_Nw w s) (hP : va_P D cl (uw N ad (G st)) H) (hS : va_S (uA N ad s.heap.size) s.heap H locs) (hM : uMi l y bytes maxL ret fr lo D cl tys N ad G st (.ref (ad b) :: As) post) (hcw : uCW Ts own index y bytes maxL ret n fr lo R) (hI : Cond.instanceMethod y ∈ uWS) (hX : Cond.selects C y y ∈ uWS) (hb : b < N) {ci : Nat} {q : vw_C} {fs : List Value} (hg : G st b = .inr (ci, fs)) (hq : cl[ci]? = some q) (hqC : q.1 = C) (hn : As.length = n) (hls : ls.size = nL) {st0 : List Value} (hst : st0 = As.reverse ++ .ref (ad b) :: rest) (hW : (rest.map fun v => v.category).sum ≤ 8) (hdg : decode cc pc = .ok (.invokevirtual index, 3)) (hc : cells ≤ R.cells ∧ slots ≤ R.slots)
    (kk : ∀ (r : Int32) (u : σ) (H1 : Heap) (locs1 : List Loc), post r u → va_P D cl (uw N ad (G u)) H1 → va_S (uA N ad s.heap.size) s.heap H1 locs1 → W p l e R s m args below meth c H1 locs1 cells slots Q (F0 m (pc + 3) ls (.int r :: rest))) : W p l e R s m args below meth c H locs cells slots Q (F0 m pc ls st0) := by
  subst hqC
  refine va_calli (uRunV S hcw hI hX (hM H.size) ⟨uB_blind, va_recv hK hP hq (uw_at hb hg), uB_at hP hK hN⟩ hn hls hst hW hdg hc) hS (fun q _ h => uKeep hS q h) (uKeep hS) (fun r u t H1 locs1 ht _ hp hB _ _ hS1 => ?_)
  exact kk r u H1 locs1 hp (by have h9 : va_P D cl (uw N ad (G u)) t.heap := hB; rw [ht] at h9; exact h9) hS1
theorem uVv {post : σ → Prop} (S : CallFix p m c cc nL s args Ts own) (hK : va_K D cl tys s) (hN : ∀ w ∈ uNW, va_Nw w s) (hP : va_P D cl (uw N ad (G st)) H) (hS : va_S (uA N ad s.heap.size) s.heap H locs) (hM : uMv l y bytes maxL ret fr lo D cl tys N ad G st (.ref (ad b) :: As) post) (hcw : uCW Ts own index y bytes maxL ret n fr lo R) (hI : Cond.instanceMethod y ∈ uWS) (hX : Cond.selects C y y ∈ uWS) (hb : b < N) {ci : Nat} {q : vw_C} {fs : List Value} (hg : G st b = .inr (ci, fs)) (hq : cl[ci]? = some q) (hqC : q.1 = C) (hn : As.length = n) (hls : ls.size = nL) {st0 : List Value} (hst : st0 = As.reverse ++ .ref (ad b) :: rest) (hW : (rest.map fun v => v.category).sum ≤ 8) (hdg : decode cc pc = .ok (.invokevirtual index, 3)) (hc : cells ≤ R.cells ∧ slots ≤ R.slots)
    (kk : ∀ (u : σ) (H1 : Heap) (locs1 : List Loc), post u → va_P D cl (uw N ad (G u)) H1 → va_S (uA N ad s.heap.size) s.heap H1 locs1 → W p l e R s m args below meth c H1 locs1 cells slots Q (F0 m (pc + 3) ls rest)) : W p l e R s m args below meth c H locs cells slots Q (F0 m pc ls st0) := by
  subst hqC
  refine va_callv (uRunV S hcw hI hX (hM H.size) ⟨uB_blind, va_recv hK hP hq (uw_at hb hg), uB_at hP hK hN⟩ hn hls hst hW hdg hc) hS (fun q _ h => uKeep hS q h) (uKeep hS) (fun u t H1 locs1 ht _ hp hB _ _ hS1 => ?_)
  exact kk u H1 locs1 hp (by have h9 : va_P D cl (uw N ad (G u)) t.heap := hB; rw [ht] at h9; exact h9) hS1
/-- a static method with an int answer -/
theorem uSi {post : Int32 → σ → Prop} (S : CallFix p m c cc nL s args Ts own) (hK : va_K D cl tys s) (hN : ∀ w ∈ uNW, va_Nw w s) (hP : va_P D cl (uw N ad (G st)) H) (hS : va_S (uA N ad s.heap.size) s.heap H locs) (hM : uMi l y bytes maxL ret fr lo D cl tys N ad G st As post) (hcw : uCW Ts own index y bytes maxL ret n fr lo R) (hI : Cond.static y ∈ uWS) (hn : As.length = n) (hls : ls.size = nL) {st0 : List Value} (hst : st0 = As.reverse ++ rest) (hW : (rest.map fun v => v.category).sum ≤ 8) (hdg : decode cc pc = .ok (.invokestatic index, 3)) (hc : cells ≤ R.cells ∧ slots ≤ R.slots)
    (kk : ∀ (r : Int32) (u : σ) (H1 : Heap) (locs1 : List Loc), post r u → va_P D cl (uw N ad (G u)) H1 → va_S (uA N ad s.heap.size) s.heap H1 locs1 → W p l e R s m args below meth c H1 locs1 cells slots Q (F0 m (pc + 3) ls (.int r :: rest))) : W p l e R s m args below meth c H locs cells slots Q (F0 m pc ls st0) := by
  refine va_calli (uRunS S hcw hI (hM H.size) ⟨uB_blind, uB_at hP hK hN⟩ hn hls hst hW hdg hc) hS (fun q _ h => uKeep hS q h) (uKeep hS) (fun r u t H1 locs1 ht _ hp hB _ _ hS1 => ?_)
  exact kk r u H1 locs1 hp (by have h9 : va_P D cl (uw N ad (G u)) t.heap := hB; rw [ht] at h9; exact h9) hS1
theorem uSv {post : σ → Prop} (S : CallFix p m c cc nL s args Ts own) (hK : va_K D cl tys s) (hN : ∀ w ∈ uNW, va_Nw w s) (hP : va_P D cl (uw N ad (G st)) H) (hS : va_S (uA N ad s.heap.size) s.heap H locs) (hM : uMv l y bytes maxL ret fr lo D cl tys N ad G st As post) (hcw : uCW Ts own index y bytes maxL ret n fr lo R) (hI : Cond.static y ∈ uWS) (hn : As.length = n) (hls : ls.size = nL) {st0 : List Value} (hst : st0 = As.reverse ++ rest) (hW : (rest.map fun v => v.category).sum ≤ 8) (hdg : decode cc pc = .ok (.invokestatic index, 3)) (hc : cells ≤ R.cells ∧ slots ≤ R.slots)
    (kk : ∀ (u : σ) (H1 : Heap) (locs1 : List Loc), post u → va_P D cl (uw N ad (G u)) H1 → va_S (uA N ad s.heap.size) s.heap H1 locs1 → W p l e R s m args below meth c H1 locs1 cells slots Q (F0 m (pc + 3) ls rest)) : W p l e R s m args below meth c H locs cells slots Q (F0 m pc ls st0) := by
  refine va_callv (uRunS S hcw hI (hM H.size) ⟨uB_blind, uB_at hP hK hN⟩ hn hls hst hW hdg hc) hS (fun q _ h => uKeep hS q h) (uKeep hS) (fun u t H1 locs1 ht _ hp hB _ _ hS1 => ?_)
  exact kk u H1 locs1 hp (by have h9 : va_P D cl (uw N ad (G u)) t.heap := hB; rw [ht] at h9; exact h9) hS1
end UCALLS
/-! LOOPS -/
theorem upTo {P : Nat → Prop} (n : Nat) (h0 : P n) (hs : ∀ i, i < n → P (i + 1) → P i) : ∀ i, i ≤ n → P i := by
  intro i hi
  obtain ⟨d, rfl⟩ : ∃ d, n = i + d := ⟨n - i, by omega⟩
  induction d generalizing i with
  | zero => exact h0
  | succ d ih => exact hs i (by omega) (ih (i + 1) (by rw [show i + 1 + d = i + (d + 1) by omega]; exact h0) (fun j hj => hs j (by omega)) (by omega))
theorem downTo {P : Nat → Prop} (h0 : P 0) (hs : ∀ i, P i → P (i + 1)) : ∀ i, P i := fun i => Nat.rec h0 hs i
section UGOALS
variable {σ : Type}
/-- a walk's goal, in a method with an int answer, none, a reference -/
abbrev uGi (fr lo : Nat) (D : va_G) (cl : List vw_C) (N : Nat) (ad : Nat → Nat) (G : σ → Nat → va_E) (post : Int32 → σ → Prop) (av : List Value) (p : Program) (l : Launch) (e : Env) (s : State) (m : MethodId) (below : List Frame) (meth : Method) (c : Code) (H : Heap) (locs : List Loc) (pc : Nat) (ls : Array Slot) (stk : List Value) : Prop :=
  W p l e { frames := fr, cells := 0, slots := 0, locals := lo } s m av.toArray below meth c H locs 0 0 (MQ below (va_Qi post (uT D cl N ad G) (uA N ad s.heap.size)) av.toArray s 0 0 (uA N ad s.heap.size)) (F0 m pc ls stk)
abbrev uGv (fr lo : Nat) (D : va_G) (cl : List vw_C) (N : Nat) (ad : Nat → Nat) (G : σ → Nat → va_E) (post : σ → Prop) (av : List Value) (p : Program) (l : Launch) (e : Env) (s : State) (m : MethodId) (below : List Frame) (meth : Method) (c : Code) (H : Heap) (locs : List Loc) (pc : Nat) (ls : Array Slot) (stk : List Value) : Prop :=
  W p l e { frames := fr, cells := 0, slots := 0, locals := lo } s m av.toArray below meth c H locs 0 0 (MQ below (va_Qv post (uT D cl N ad G) (uA N ad s.heap.size)) av.toArray s 0 0 (uA N ad s.heap.size)) (F0 m pc ls stk)
abbrev uGr (fr lo : Nat) (D : va_G) (cl : List vw_C) (N : Nat) (ad : Nat → Nat) (G : σ → Nat → va_E) (post : Nat → σ → Prop) (av : List Value) (p : Program) (l : Launch) (e : Env) (s : State) (m : MethodId) (below : List Frame) (meth : Method) (c : Code) (H : Heap) (locs : List Loc) (pc : Nat) (ls : Array Slot) (stk : List Value) : Prop :=
  W p l e { frames := fr, cells := 0, slots := 0, locals := lo } s m av.toArray below meth c H locs 0 0 (MQ below (va_Qr (fun _ : σ => True) (fun u a t => post a u ∧ uT D cl N ad G u t) (uA N ad s.heap.size)) av.toArray s 0 0 (uA N ad s.heap.size)) (F0 m pc ls stk)
end UGOALS
section UREF
variable {σ : Type} {p : Program} {l : Launch} {e : Env} {R : Room} {s : State} {m : MethodId} {args : Array Value} {below : List Frame} {meth : Method} {c : Code} {H : Heap} {locs : List Loc} {cells slots : Nat} {Q : State → Prop}
variable {cc : ByteArray} {pc nL : Nat} {ls : Array Slot} {rest : List Value} {D : va_G} {cl : List vw_C} {tys : List (ClassId × FieldType)} {Ts : List Cond} {own C : String} {N : Nat} {ad : Nat → Nat} {G : σ → Nat → va_E} {st : σ}
variable {y : MethodName} {bytes : ByteArray} {maxL fr lo n index : Nat} {ret : Option FieldType} {As : List Value} {b : Nat}
/-- x.f(..) whose answer is a reference -/
theorem uVr {post : Nat → σ → Prop} (S : CallFix p m c cc nL s args Ts own) (hK : va_K D cl tys s) (hN : ∀ w ∈ uNW, va_Nw w s) (hP : va_P D cl (uw N ad (G st)) H) (hS : va_S (uA N ad s.heap.size) s.heap H locs) (hM : uMr l y bytes maxL ret fr lo D cl tys N ad G st (.ref (ad b) :: As) post) (hcw : uCW Ts own index y bytes maxL ret n fr lo R) (hI : Cond.instanceMethod y ∈ uWS) (hX : Cond.selects C y y ∈ uWS) (hb : b < N) {ci : Nat} {q : vw_C} {fs : List Value} (hg : G st b = .inr (ci, fs)) (hq : cl[ci]? = some q) (hqC : q.1 = C) (hn : As.length = n) (hls : ls.size = nL) {st0 : List Value} (hst : st0 = As.reverse ++ .ref (ad b) :: rest) (hW : (rest.map fun v => v.category).sum ≤ 8) (hdg : decode cc pc = .ok (.invokevirtual index, 3)) (hc : cells ≤ R.cells ∧ slots ≤ R.slots)
    (kk : ∀ (r : Nat) (u : σ) (H1 : Heap) (locs1 : List Loc), post r u → va_P D cl (uw N ad (G u)) H1 → va_S (uA N ad s.heap.size) s.heap H1 locs1 → W p l e R s m args below meth c H1 locs1 cells slots Q (F0 m (pc + 3) ls (.ref r :: rest))) : W p l e R s m args below meth c H locs cells slots Q (F0 m pc ls st0) := by
  subst hqC
  refine va_callr (uRunV S hcw hI hX (hM H.size) ⟨uB_blind, va_recv hK hP hq (uw_at hb hg), uB_at hP hK hN⟩ hn hls hst hW hdg hc) hS (fun q _ h => uKeep hS q h) (uKeep hS) (fun u r t H1 locs1 ht _ _ hB _ _ hS1 => ?_)
  exact kk r u H1 locs1 hB.1 (by have h9 : va_P D cl (uw N ad (G u)) t.heap := hB.2; rw [ht] at h9; exact h9) hS1
/-- a static method without answer, on one cell of the world: the array at the cell k -/
theorem uSv1 {τ : Type} {G1 : τ → Nat → va_E} {f1 : τ} {g' : τ → σ} {post : τ → Prop} (S : CallFix p m c cc nL s args Ts own) (hK : va_K D cl tys s) (hN : ∀ w ∈ uNW, va_Nw w s) (hJ : uJ N ad) (hP : va_P D cl (uw N ad (G st)) H) (hS : va_S (uA N ad s.heap.size) s.heap H locs) (k : Nat) (hk : k < N) (hM : uMv l y bytes maxL ret fr lo D cl tys 1 (fun _ => ad k) G1 f1 As post) (hg1 : G1 f1 0 = G st k) (hgo : ∀ u k', k' < N → G (g' u) k' = if k' = k then G1 u 0 else G st k') (hcw : uCW Ts own index y bytes maxL ret n fr lo R) (hI : Cond.static y ∈ uWS) (hn : As.length = n) (hls : ls.size = nL) {st0 : List Value} (hst : st0 = As.reverse ++ rest) (hW : (rest.map fun v => v.category).sum ≤ 8) (hdg : decode cc pc = .ok (.invokestatic index, 3)) (hc : cells ≤ R.cells ∧ slots ≤ R.slots)
    (kk : ∀ (u : τ) (H1 : Heap) (locs1 : List Loc), post u → va_P D cl (uw N ad (G (g' u))) H1 → va_S (uA N ad s.heap.size) s.heap H1 locs1 → W p l e R s m args below meth c H1 locs1 cells slots Q (F0 m (pc + 3) ls rest)) : W p l e R s m args below meth c H locs cells slots Q (F0 m pc ls st0) := by
  have hP1 : va_P D cl (uw 1 (fun _ => ad k) (G1 f1)) H := by
    intro i q hq
    obtain ⟨h1, rfl⟩ := uw_inv hq
    have h0 : i = 0 := by omega
    subst h0
    rw [hg1]
    exact hP k _ (uw_get hk)
  have hin : ∀ q, uA 1 (fun _ => ad k) H.size q → uA N ad s.heap.size q := by
    intro q hq
    rcases hq with ⟨i, -, h⟩ | h
    · exact Or.inl ⟨k, hk, h⟩
    · exact Or.inr (Nat.le_trans hS.1 h)
  refine va_callv (uRunS S hcw hI (hM H.size) ⟨uB_blind, uB_at hP1 hK hN⟩ hn hls hst hW hdg hc) hS (fun q _ h => hin q h) hin (fun u t H1 locs1 ht _ hp hB _ hkp hS1 => ?_)
  refine kk u H1 locs1 hp ?_ hS1
  have hB1 : va_P D cl (uw 1 (fun _ => ad k) (G1 u)) H1 := by rw [← ht]; exact hB
  intro i q hq
  obtain ⟨h1, rfl⟩ := uw_inv hq
  rw [hgo u i h1]
  by_cases h2 : i = k
  · subst h2
    rw [if_pos rfl]
    exact hB1 0 _ (uw_get (by decide))
  · rw [if_neg h2]
    have h3 := hP i _ (uw_get h1)
    refine h3.kept (hkp _ h3.lt ?_)
    rintro (⟨z, -, h4⟩ | h4)
    · exact h2 (hJ i k h1 hk h4)
    · exact absurd h3.lt (Nat.not_lt.mpr h4)
end UREF
end
section
/-! THE WORDS: each good word of the tables stands in uWS (printed by wip/gen/gen_names.py) -/
theorem tm1 {w : Cond} (h : w ∈ tables_1_1) : w ∈ lw_tbl := List.mem_append_right _ (List.mem_append_left _ h)
theorem tm2 {w : Cond} (h : w ∈ tables_1_2) : w ∈ lw_tbl := List.mem_append_right _ (List.mem_append_right _ (List.mem_append_left _ h))
theorem tm3 {w : Cond} (h : w ∈ tables_1_3) : w ∈ lw_tbl := List.mem_append_right _ (List.mem_append_right _ (List.mem_append_right _ (List.mem_append_left _ h)))
theorem tm4 {w : Cond} (h : w ∈ tables_1_4) : w ∈ lw_tbl := List.mem_append_right _ (List.mem_append_right _ (List.mem_append_right _ (List.mem_append_right _ h)))
theorem t1_0 : Cond.initialized "LightingDeskLaw" ∈ uWS := uWS_mem (tm1 (List.mem_of_getElem? (i := 0) rfl)) rfl
theorem t1_1 : Cond.initialized "LightingDesk" ∈ uWS := uWS_mem (tm1 (List.mem_of_getElem? (i := 1) rfl)) rfl
theorem t1_2 : Cond.initialized "LightingDesk$ValueRow" ∈ uWS := uWS_mem (tm1 (List.mem_of_getElem? (i := 2) rfl)) rfl
theorem t1_3 : Cond.initialized "java/util/Arrays" ∈ uWS := uWS_mem (tm1 (List.mem_of_getElem? (i := 3) rfl)) rfl
theorem t1_4 : Cond.initialized "LightingDesk$PaletteBox" ∈ uWS := uWS_mem (tm1 (List.mem_of_getElem? (i := 4) rfl)) rfl
theorem t1_5 : Cond.initialized "LightingDesk$CueBook" ∈ uWS := uWS_mem (tm1 (List.mem_of_getElem? (i := 5) rfl)) rfl
theorem t1_6 : Cond.initialized "LightingDesk$Cue" ∈ uWS := uWS_mem (tm1 (List.mem_of_getElem? (i := 6) rfl)) rfl
theorem t1_7 : Cond.initialized "LightingDesk$Player" ∈ uWS := uWS_mem (tm1 (List.mem_of_getElem? (i := 7) rfl)) rfl
theorem t1_8 : Cond.initialized "LightingDeskModel" ∈ uWS := uWS_mem (tm1 (List.mem_of_getElem? (i := 8) rfl)) rfl
theorem t1_15 : Cond.initialized "java/lang/Long" ∈ uWS := uWS_mem (tm1 (List.mem_of_getElem? (i := 15) rfl)) rfl
theorem t1_17 : Cond.initialized "java/lang/Math" ∈ uWS := uWS_mem (tm1 (List.mem_of_getElem? (i := 17) rfl)) rfl
theorem t1_18 : Cond.classLink "LightingDeskLaw" 8 "LightingDesk" ∈ uWS := uWS_mem (tm1 (List.mem_of_getElem? (i := 18) rfl)) rfl
theorem t1_19 : Cond.instantiable "LightingDesk" 7 ∈ uWS := uWS_mem (tm1 (List.mem_of_getElem? (i := 19) rfl)) rfl
theorem t1_20 : Cond.methodLink "LightingDeskLaw" 51 ⟨"LightingDesk", "<init>", "()V"⟩ ∈ uWS := uWS_mem (tm1 (List.mem_of_getElem? (i := 20) rfl)) rfl
theorem t1_21 : Cond.instanceMethod ⟨"LightingDesk", "<init>", "()V"⟩ ∈ uWS := uWS_mem (tm1 (List.mem_of_getElem? (i := 21) rfl)) rfl
theorem t1_22 : Cond.code ⟨"LightingDesk", "<init>", "()V"⟩ prog_1_method_1_code 2 (none : Option Jvm.ClassFile.FieldType) ∈ uWS := uWS_mem (tm1 (List.mem_of_getElem? (i := 22) rfl)) rfl
theorem t1_23 : Cond.methodLink "LightingDesk" 3 ⟨"java/lang/Object", "<init>", "()V"⟩ ∈ uWS := uWS_mem (tm1 (List.mem_of_getElem? (i := 23) rfl)) rfl
theorem t1_24 : Cond.instanceMethod ⟨"java/lang/Object", "<init>", "()V"⟩ ∈ uWS := uWS_mem (tm1 (List.mem_of_getElem? (i := 24) rfl)) rfl
theorem t1_25 : Cond.code ⟨"java/lang/Object", "<init>", "()V"⟩ object_method_1_code 1 (none : Option Jvm.ClassFile.FieldType) ∈ uWS := uWS_mem (tm1 (List.mem_of_getElem? (i := 25) rfl)) rfl
theorem t1_26 : Cond.classLink "LightingDesk" 13 "LightingDesk$ValueRow" ∈ uWS := uWS_mem (tm1 (List.mem_of_getElem? (i := 26) rfl)) rfl
theorem t1_27 : Cond.instantiable "LightingDesk$ValueRow" 2 ∈ uWS := uWS_mem (tm1 (List.mem_of_getElem? (i := 27) rfl)) rfl
theorem t1_28 : Cond.methodLink "LightingDesk" 15 ⟨"LightingDesk$ValueRow", "<init>", "()V"⟩ ∈ uWS := uWS_mem (tm1 (List.mem_of_getElem? (i := 28) rfl)) rfl
theorem t1_29 : Cond.instanceMethod ⟨"LightingDesk$ValueRow", "<init>", "()V"⟩ ∈ uWS := uWS_mem (tm1 (List.mem_of_getElem? (i := 29) rfl)) rfl
theorem t1_30 : Cond.code ⟨"LightingDesk$ValueRow", "<init>", "()V"⟩ prog_6_method_1_code 1 (none : Option Jvm.ClassFile.FieldType) ∈ uWS := uWS_mem (tm1 (List.mem_of_getElem? (i := 30) rfl)) rfl
theorem t1_31 : Cond.methodLink "LightingDesk$ValueRow" 3 ⟨"java/lang/Object", "<init>", "()V"⟩ ∈ uWS := uWS_mem (tm1 (List.mem_of_getElem? (i := 31) rfl)) rfl
theorem t1_32 : Cond.methodLink "LightingDesk$ValueRow" 19 ⟨"java/util/Arrays", "fill", "([II)V"⟩ ∈ uWS := uWS_mem (tm1 (List.mem_of_getElem? (i := 32) rfl)) rfl
theorem t1_33 : Cond.static ⟨"java/util/Arrays", "fill", "([II)V"⟩ ∈ uWS := uWS_mem (tm1 (List.mem_of_getElem? (i := 33) rfl)) rfl
theorem t1_34 : Cond.code ⟨"java/util/Arrays", "fill", "([II)V"⟩ prog_18_method_103_code 4 (none : Option Jvm.ClassFile.FieldType) ∈ uWS := uWS_mem (tm1 (List.mem_of_getElem? (i := 34) rfl)) rfl
theorem t1_35 : Cond.fieldLink "LightingDesk$ValueRow" 9 "LightingDesk$ValueRow" "values" "[I" ∈ uWS := uWS_mem (tm1 (List.mem_of_getElem? (i := 35) rfl)) rfl
theorem t1_36 : Cond.fieldLink "LightingDesk$ValueRow" 15 "LightingDesk$ValueRow" "held" "I" ∈ uWS := uWS_mem (tm1 (List.mem_of_getElem? (i := 36) rfl)) rfl
theorem t1_37 : Cond.fieldLinkNest "LightingDesk$CueBook" 26 "LightingDesk$ValueRow" "held" "I" "LightingDesk" ∈ uNW := uNW_mem (tm1 (List.mem_of_getElem? (i := 37) rfl)) rfl
theorem t1_38 : Cond.fieldLinkNest "LightingDesk$Cue" 40 "LightingDesk$ValueRow" "held" "I" "LightingDesk" ∈ uNW := uNW_mem (tm1 (List.mem_of_getElem? (i := 38) rfl)) rfl
theorem t1_39 : Cond.fieldLinkNest "LightingDesk" 62 "LightingDesk$ValueRow" "held" "I" "LightingDesk" ∈ uNW := uNW_mem (tm1 (List.mem_of_getElem? (i := 39) rfl)) rfl
theorem t1_40 : Cond.laysFinal "LightingDesk$ValueRow" "LightingDesk$ValueRow" "values" "[I" ∈ uWS := uWS_mem (tm1 (List.mem_of_getElem? (i := 40) rfl)) rfl
theorem t1_42 : Cond.lays "LightingDesk$ValueRow" "LightingDesk$ValueRow" "held" "I" ∈ uWS := uWS_mem (tm1 (List.mem_of_getElem? (i := 42) rfl)) rfl
theorem t1_44 : Cond.superclass "LightingDesk$ValueRow" "java/lang/Object" ∈ uWS := uWS_mem (tm1 (List.mem_of_getElem? (i := 44) rfl)) rfl
theorem t1_45 : Cond.arrayClass .boolean ∈ uWS := uWS_mem (tm1 (List.mem_of_getElem? (i := 45) rfl)) rfl
theorem t1_46 : Cond.arrayClass .int ∈ uWS := uWS_mem (tm1 (List.mem_of_getElem? (i := 46) rfl)) rfl
theorem t1_47 : Cond.classLink "LightingDesk" 20 "LightingDesk$PaletteBox" ∈ uWS := uWS_mem (tm1 (List.mem_of_getElem? (i := 47) rfl)) rfl
theorem t1_48 : Cond.instantiable "LightingDesk$PaletteBox" 1 ∈ uWS := uWS_mem (tm1 (List.mem_of_getElem? (i := 48) rfl)) rfl
theorem t1_49 : Cond.methodLink "LightingDesk" 22 ⟨"LightingDesk$PaletteBox", "<init>", "()V"⟩ ∈ uWS := uWS_mem (tm1 (List.mem_of_getElem? (i := 49) rfl)) rfl
theorem t1_50 : Cond.instanceMethod ⟨"LightingDesk$PaletteBox", "<init>", "()V"⟩ ∈ uWS := uWS_mem (tm1 (List.mem_of_getElem? (i := 50) rfl)) rfl
theorem t1_51 : Cond.code ⟨"LightingDesk$PaletteBox", "<init>", "()V"⟩ prog_4_method_1_code 1 (none : Option Jvm.ClassFile.FieldType) ∈ uWS := uWS_mem (tm1 (List.mem_of_getElem? (i := 51) rfl)) rfl
theorem t1_52 : Cond.methodLink "LightingDesk$PaletteBox" 3 ⟨"java/lang/Object", "<init>", "()V"⟩ ∈ uWS := uWS_mem (tm1 (List.mem_of_getElem? (i := 52) rfl)) rfl
theorem t1_53 : Cond.methodLink "LightingDesk$PaletteBox" 15 ⟨"java/util/Arrays", "fill", "([II)V"⟩ ∈ uWS := uWS_mem (tm1 (List.mem_of_getElem? (i := 53) rfl)) rfl
theorem t1_54 : Cond.fieldLink "LightingDesk$PaletteBox" 9 "LightingDesk$PaletteBox" "levels" "[I" ∈ uWS := uWS_mem (tm1 (List.mem_of_getElem? (i := 54) rfl)) rfl
theorem t1_55 : Cond.laysFinal "LightingDesk$PaletteBox" "LightingDesk$PaletteBox" "levels" "[I" ∈ uWS := uWS_mem (tm1 (List.mem_of_getElem? (i := 55) rfl)) rfl
theorem t1_57 : Cond.superclass "LightingDesk$PaletteBox" "java/lang/Object" ∈ uWS := uWS_mem (tm1 (List.mem_of_getElem? (i := 57) rfl)) rfl
theorem t1_58 : Cond.classLink "LightingDesk" 27 "LightingDesk$CueBook" ∈ uWS := uWS_mem (tm1 (List.mem_of_getElem? (i := 58) rfl)) rfl
theorem t1_59 : Cond.instantiable "LightingDesk$CueBook" 2 ∈ uWS := uWS_mem (tm1 (List.mem_of_getElem? (i := 59) rfl)) rfl
theorem t1_60 : Cond.methodLink "LightingDesk" 29 ⟨"LightingDesk$CueBook", "<init>", "()V"⟩ ∈ uWS := uWS_mem (tm1 (List.mem_of_getElem? (i := 60) rfl)) rfl
theorem t1_61 : Cond.instanceMethod ⟨"LightingDesk$CueBook", "<init>", "()V"⟩ ∈ uWS := uWS_mem (tm1 (List.mem_of_getElem? (i := 61) rfl)) rfl
theorem t1_62 : Cond.code ⟨"LightingDesk$CueBook", "<init>", "()V"⟩ prog_3_method_1_code 2 (none : Option Jvm.ClassFile.FieldType) ∈ uWS := uWS_mem (tm1 (List.mem_of_getElem? (i := 62) rfl)) rfl
theorem t1_63 : Cond.methodLink "LightingDesk$CueBook" 3 ⟨"java/lang/Object", "<init>", "()V"⟩ ∈ uWS := uWS_mem (tm1 (List.mem_of_getElem? (i := 63) rfl)) rfl
theorem t1_64 : Cond.classLink "LightingDesk$CueBook" 9 "LightingDesk$Cue" ∈ uWS := uWS_mem (tm1 (List.mem_of_getElem? (i := 64) rfl)) rfl
theorem t1_66 : Cond.instantiable "LightingDesk$Cue" 7 ∈ uWS := uWS_mem (tm1 (List.mem_of_getElem? (i := 66) rfl)) rfl
theorem t1_67 : Cond.methodLinkNest "LightingDesk$CueBook" 21 ⟨"LightingDesk$Cue", "<init>", "()V"⟩ "LightingDesk" ∈ uNW := uNW_mem (tm1 (List.mem_of_getElem? (i := 67) rfl)) rfl
theorem t1_68 : Cond.instanceMethod ⟨"LightingDesk$Cue", "<init>", "()V"⟩ ∈ uWS := uWS_mem (tm1 (List.mem_of_getElem? (i := 68) rfl)) rfl
theorem t1_69 : Cond.code ⟨"LightingDesk$Cue", "<init>", "()V"⟩ prog_2_method_1_code 1 (none : Option Jvm.ClassFile.FieldType) ∈ uWS := uWS_mem (tm1 (List.mem_of_getElem? (i := 69) rfl)) rfl
theorem t1_70 : Cond.methodLink "LightingDesk$Cue" 3 ⟨"java/lang/Object", "<init>", "()V"⟩ ∈ uWS := uWS_mem (tm1 (List.mem_of_getElem? (i := 70) rfl)) rfl
theorem t1_71 : Cond.classLink "LightingDesk$Cue" 9 "LightingDesk$ValueRow" ∈ uWS := uWS_mem (tm1 (List.mem_of_getElem? (i := 71) rfl)) rfl
theorem t1_72 : Cond.methodLink "LightingDesk$Cue" 11 ⟨"LightingDesk$ValueRow", "<init>", "()V"⟩ ∈ uWS := uWS_mem (tm1 (List.mem_of_getElem? (i := 72) rfl)) rfl
theorem t1_73 : Cond.fieldLink "LightingDesk$Cue" 12 "LightingDesk$Cue" "moves" "LLightingDesk$ValueRow;" ∈ uWS := uWS_mem (tm1 (List.mem_of_getElem? (i := 73) rfl)) rfl
theorem t1_74 : Cond.fieldLinkNest "LightingDesk$CueBook" 22 "LightingDesk$Cue" "moves" "LLightingDesk$ValueRow;" "LightingDesk" ∈ uNW := uNW_mem (tm1 (List.mem_of_getElem? (i := 74) rfl)) rfl
theorem t1_75 : Cond.fieldLink "LightingDesk$Cue" 18 "LightingDesk$Cue" "list" "I" ∈ uWS := uWS_mem (tm1 (List.mem_of_getElem? (i := 75) rfl)) rfl
theorem t1_76 : Cond.fieldLinkNest "LightingDesk$CueBook" 46 "LightingDesk$Cue" "list" "I" "LightingDesk" ∈ uNW := uNW_mem (tm1 (List.mem_of_getElem? (i := 76) rfl)) rfl
theorem t1_77 : Cond.fieldLink "LightingDesk$Cue" 22 "LightingDesk$Cue" "number" "I" ∈ uWS := uWS_mem (tm1 (List.mem_of_getElem? (i := 77) rfl)) rfl
theorem t1_78 : Cond.fieldLinkNest "LightingDesk$CueBook" 43 "LightingDesk$Cue" "number" "I" "LightingDesk" ∈ uNW := uNW_mem (tm1 (List.mem_of_getElem? (i := 78) rfl)) rfl
theorem t1_79 : Cond.fieldLinkNest "LightingDesk" 157 "LightingDesk$Cue" "number" "I" "LightingDesk" ∈ uNW := uNW_mem (tm1 (List.mem_of_getElem? (i := 79) rfl)) rfl
theorem t1_80 : Cond.fieldLink "LightingDesk$Cue" 25 "LightingDesk$Cue" "up" "I" ∈ uWS := uWS_mem (tm1 (List.mem_of_getElem? (i := 80) rfl)) rfl
theorem t1_81 : Cond.fieldLinkNest "LightingDesk$Player" 58 "LightingDesk$Cue" "up" "I" "LightingDesk" ∈ uNW := uNW_mem (tm1 (List.mem_of_getElem? (i := 81) rfl)) rfl
theorem t1_82 : Cond.fieldLinkNest "LightingDesk" 129 "LightingDesk$Cue" "up" "I" "LightingDesk" ∈ uNW := uNW_mem (tm1 (List.mem_of_getElem? (i := 82) rfl)) rfl
theorem t1_83 : Cond.fieldLink "LightingDesk$Cue" 28 "LightingDesk$Cue" "down" "I" ∈ uWS := uWS_mem (tm1 (List.mem_of_getElem? (i := 83) rfl)) rfl
theorem t1_84 : Cond.fieldLinkNest "LightingDesk$Player" 61 "LightingDesk$Cue" "down" "I" "LightingDesk" ∈ uNW := uNW_mem (tm1 (List.mem_of_getElem? (i := 84) rfl)) rfl
theorem t1_85 : Cond.fieldLinkNest "LightingDesk" 134 "LightingDesk$Cue" "down" "I" "LightingDesk" ∈ uNW := uNW_mem (tm1 (List.mem_of_getElem? (i := 85) rfl)) rfl
theorem t1_86 : Cond.fieldLink "LightingDesk$Cue" 31 "LightingDesk$Cue" "delay" "I" ∈ uWS := uWS_mem (tm1 (List.mem_of_getElem? (i := 86) rfl)) rfl
theorem t1_87 : Cond.fieldLinkNest "LightingDesk$Player" 53 "LightingDesk$Cue" "delay" "I" "LightingDesk" ∈ uNW := uNW_mem (tm1 (List.mem_of_getElem? (i := 87) rfl)) rfl
theorem t1_88 : Cond.fieldLinkNest "LightingDesk" 137 "LightingDesk$Cue" "delay" "I" "LightingDesk" ∈ uNW := uNW_mem (tm1 (List.mem_of_getElem? (i := 88) rfl)) rfl
theorem t1_89 : Cond.fieldLink "LightingDesk$Cue" 34 "LightingDesk$Cue" "follow" "I" ∈ uWS := uWS_mem (tm1 (List.mem_of_getElem? (i := 89) rfl)) rfl
theorem t1_90 : Cond.fieldLinkNest "LightingDesk" 140 "LightingDesk$Cue" "follow" "I" "LightingDesk" ∈ uNW := uNW_mem (tm1 (List.mem_of_getElem? (i := 90) rfl)) rfl
theorem t1_91 : Cond.laysFinal "LightingDesk$Cue" "LightingDesk$Cue" "moves" "LLightingDesk$ValueRow;" ∈ uWS := uWS_mem (tm1 (List.mem_of_getElem? (i := 91) rfl)) rfl
theorem t1_93 : Cond.lays "LightingDesk$Cue" "LightingDesk$Cue" "list" "I" ∈ uWS := uWS_mem (tm1 (List.mem_of_getElem? (i := 93) rfl)) rfl
theorem t1_95 : Cond.lays "LightingDesk$Cue" "LightingDesk$Cue" "number" "I" ∈ uWS := uWS_mem (tm1 (List.mem_of_getElem? (i := 95) rfl)) rfl
theorem t1_97 : Cond.lays "LightingDesk$Cue" "LightingDesk$Cue" "up" "I" ∈ uWS := uWS_mem (tm1 (List.mem_of_getElem? (i := 97) rfl)) rfl
theorem t1_99 : Cond.lays "LightingDesk$Cue" "LightingDesk$Cue" "down" "I" ∈ uWS := uWS_mem (tm1 (List.mem_of_getElem? (i := 99) rfl)) rfl
theorem t1_101 : Cond.lays "LightingDesk$Cue" "LightingDesk$Cue" "delay" "I" ∈ uWS := uWS_mem (tm1 (List.mem_of_getElem? (i := 101) rfl)) rfl
theorem t1_103 : Cond.lays "LightingDesk$Cue" "LightingDesk$Cue" "follow" "I" ∈ uWS := uWS_mem (tm1 (List.mem_of_getElem? (i := 103) rfl)) rfl
theorem t1_105 : Cond.superclass "LightingDesk$Cue" "java/lang/Object" ∈ uWS := uWS_mem (tm1 (List.mem_of_getElem? (i := 105) rfl)) rfl
theorem t1_106 : Cond.fieldLink "LightingDesk$CueBook" 11 "LightingDesk$CueBook" "cues" "[LLightingDesk$Cue;" ∈ uWS := uWS_mem (tm1 (List.mem_of_getElem? (i := 106) rfl)) rfl
theorem t1_107 : Cond.fieldLink "LightingDesk$CueBook" 17 "LightingDesk$CueBook" "size" "I" ∈ uWS := uWS_mem (tm1 (List.mem_of_getElem? (i := 107) rfl)) rfl
theorem t1_108 : Cond.fieldLinkNest "LightingDesk" 232 "LightingDesk$CueBook" "size" "I" "LightingDesk" ∈ uNW := uNW_mem (tm1 (List.mem_of_getElem? (i := 108) rfl)) rfl
theorem t1_109 : Cond.laysFinal "LightingDesk$CueBook" "LightingDesk$CueBook" "cues" "[LLightingDesk$Cue;" ∈ uWS := uWS_mem (tm1 (List.mem_of_getElem? (i := 109) rfl)) rfl
theorem t1_111 : Cond.lays "LightingDesk$CueBook" "LightingDesk$CueBook" "size" "I" ∈ uWS := uWS_mem (tm1 (List.mem_of_getElem? (i := 111) rfl)) rfl
theorem t1_113 : Cond.superclass "LightingDesk$CueBook" "java/lang/Object" ∈ uWS := uWS_mem (tm1 (List.mem_of_getElem? (i := 113) rfl)) rfl
theorem t1_114 : Cond.classLink "LightingDesk" 34 "LightingDesk$Player" ∈ uWS := uWS_mem (tm1 (List.mem_of_getElem? (i := 114) rfl)) rfl
theorem t1_116 : Cond.instantiable "LightingDesk$Player" 10 ∈ uWS := uWS_mem (tm1 (List.mem_of_getElem? (i := 116) rfl)) rfl
theorem t1_117 : Cond.methodLink "LightingDesk" 47 ⟨"LightingDesk$Player", "<init>", "()V"⟩ ∈ uWS := uWS_mem (tm1 (List.mem_of_getElem? (i := 117) rfl)) rfl
theorem t1_118 : Cond.instanceMethod ⟨"LightingDesk$Player", "<init>", "()V"⟩ ∈ uWS := uWS_mem (tm1 (List.mem_of_getElem? (i := 118) rfl)) rfl
theorem t1_119 : Cond.code ⟨"LightingDesk$Player", "<init>", "()V"⟩ prog_5_method_1_code 1 (none : Option Jvm.ClassFile.FieldType) ∈ uWS := uWS_mem (tm1 (List.mem_of_getElem? (i := 119) rfl)) rfl
theorem t1_120 : Cond.methodLink "LightingDesk$Player" 3 ⟨"java/lang/Object", "<init>", "()V"⟩ ∈ uWS := uWS_mem (tm1 (List.mem_of_getElem? (i := 120) rfl)) rfl
theorem t1_121 : Cond.methodLink "LightingDesk$Player" 43 ⟨"java/util/Arrays", "fill", "([II)V"⟩ ∈ uWS := uWS_mem (tm1 (List.mem_of_getElem? (i := 121) rfl)) rfl
theorem t1_122 : Cond.fieldLink "LightingDesk$Player" 9 "LightingDesk$Player" "from" "[I" ∈ uWS := uWS_mem (tm1 (List.mem_of_getElem? (i := 122) rfl)) rfl
theorem t1_123 : Cond.fieldLink "LightingDesk$Player" 15 "LightingDesk$Player" "to" "[I" ∈ uWS := uWS_mem (tm1 (List.mem_of_getElem? (i := 123) rfl)) rfl
theorem t1_124 : Cond.fieldLink "LightingDesk$Player" 18 "LightingDesk$Player" "begin" "[I" ∈ uWS := uWS_mem (tm1 (List.mem_of_getElem? (i := 124) rfl)) rfl
theorem t1_125 : Cond.fieldLink "LightingDesk$Player" 21 "LightingDesk$Player" "length" "[I" ∈ uWS := uWS_mem (tm1 (List.mem_of_getElem? (i := 125) rfl)) rfl
theorem t1_126 : Cond.fieldLink "LightingDesk$Player" 24 "LightingDesk$Player" "lookTicks" "[I" ∈ uWS := uWS_mem (tm1 (List.mem_of_getElem? (i := 126) rfl)) rfl
theorem t1_127 : Cond.fieldLink "LightingDesk$Player" 27 "LightingDesk$Player" "list" "I" ∈ uWS := uWS_mem (tm1 (List.mem_of_getElem? (i := 127) rfl)) rfl
theorem t1_128 : Cond.fieldLinkNest "LightingDesk" 179 "LightingDesk$Player" "list" "I" "LightingDesk" ∈ uNW := uNW_mem (tm1 (List.mem_of_getElem? (i := 128) rfl)) rfl
theorem t1_129 : Cond.fieldLink "LightingDesk$Player" 31 "LightingDesk$Player" "master" "I" ∈ uWS := uWS_mem (tm1 (List.mem_of_getElem? (i := 129) rfl)) rfl
theorem t1_130 : Cond.fieldLinkNest "LightingDesk" 208 "LightingDesk$Player" "master" "I" "LightingDesk" ∈ uNW := uNW_mem (tm1 (List.mem_of_getElem? (i := 130) rfl)) rfl
theorem t1_131 : Cond.fieldLink "LightingDesk$Player" 34 "LightingDesk$Player" "current" "I" ∈ uWS := uWS_mem (tm1 (List.mem_of_getElem? (i := 131) rfl)) rfl
theorem t1_132 : Cond.fieldLinkNest "LightingDesk" 190 "LightingDesk$Player" "current" "I" "LightingDesk" ∈ uNW := uNW_mem (tm1 (List.mem_of_getElem? (i := 132) rfl)) rfl
theorem t1_133 : Cond.fieldLink "LightingDesk$Player" 37 "LightingDesk$Player" "startTick" "I" ∈ uWS := uWS_mem (tm1 (List.mem_of_getElem? (i := 133) rfl)) rfl
theorem t1_134 : Cond.fieldLinkNest "LightingDesk" 176 "LightingDesk$Player" "startTick" "I" "LightingDesk" ∈ uNW := uNW_mem (tm1 (List.mem_of_getElem? (i := 134) rfl)) rfl
theorem t1_135 : Cond.fieldLink "LightingDesk$Player" 40 "LightingDesk$Player" "followOn" "I" ∈ uWS := uWS_mem (tm1 (List.mem_of_getElem? (i := 135) rfl)) rfl
theorem t1_136 : Cond.fieldLinkNest "LightingDesk" 224 "LightingDesk$Player" "followOn" "I" "LightingDesk" ∈ uNW := uNW_mem (tm1 (List.mem_of_getElem? (i := 136) rfl)) rfl
theorem t1_137 : Cond.laysFinal "LightingDesk$Player" "LightingDesk$Player" "from" "[I" ∈ uWS := uWS_mem (tm1 (List.mem_of_getElem? (i := 137) rfl)) rfl
theorem t1_139 : Cond.laysFinal "LightingDesk$Player" "LightingDesk$Player" "to" "[I" ∈ uWS := uWS_mem (tm1 (List.mem_of_getElem? (i := 139) rfl)) rfl
theorem t1_141 : Cond.laysFinal "LightingDesk$Player" "LightingDesk$Player" "begin" "[I" ∈ uWS := uWS_mem (tm1 (List.mem_of_getElem? (i := 141) rfl)) rfl
theorem t1_143 : Cond.laysFinal "LightingDesk$Player" "LightingDesk$Player" "length" "[I" ∈ uWS := uWS_mem (tm1 (List.mem_of_getElem? (i := 143) rfl)) rfl
theorem t1_145 : Cond.laysFinal "LightingDesk$Player" "LightingDesk$Player" "lookTicks" "[I" ∈ uWS := uWS_mem (tm1 (List.mem_of_getElem? (i := 145) rfl)) rfl
theorem t1_147 : Cond.lays "LightingDesk$Player" "LightingDesk$Player" "list" "I" ∈ uWS := uWS_mem (tm1 (List.mem_of_getElem? (i := 147) rfl)) rfl
theorem t1_149 : Cond.lays "LightingDesk$Player" "LightingDesk$Player" "master" "I" ∈ uWS := uWS_mem (tm1 (List.mem_of_getElem? (i := 149) rfl)) rfl
theorem t1_151 : Cond.lays "LightingDesk$Player" "LightingDesk$Player" "current" "I" ∈ uWS := uWS_mem (tm1 (List.mem_of_getElem? (i := 151) rfl)) rfl
theorem t1_153 : Cond.lays "LightingDesk$Player" "LightingDesk$Player" "startTick" "I" ∈ uWS := uWS_mem (tm1 (List.mem_of_getElem? (i := 153) rfl)) rfl
theorem t1_155 : Cond.lays "LightingDesk$Player" "LightingDesk$Player" "followOn" "I" ∈ uWS := uWS_mem (tm1 (List.mem_of_getElem? (i := 155) rfl)) rfl
theorem t1_157 : Cond.superclass "LightingDesk$Player" "java/lang/Object" ∈ uWS := uWS_mem (tm1 (List.mem_of_getElem? (i := 157) rfl)) rfl
theorem t1_158 : Cond.fieldLink "LightingDesk" 9 "LightingDesk" "attributes" "[Z" ∈ uWS := uWS_mem (tm1 (List.mem_of_getElem? (i := 158) rfl)) rfl
theorem t1_159 : Cond.fieldLink "LightingDesk" 16 "LightingDesk" "programmer" "LLightingDesk$ValueRow;" ∈ uWS := uWS_mem (tm1 (List.mem_of_getElem? (i := 159) rfl)) rfl
theorem t1_160 : Cond.fieldLink "LightingDesk" 23 "LightingDesk" "palettes" "LLightingDesk$PaletteBox;" ∈ uWS := uWS_mem (tm1 (List.mem_of_getElem? (i := 160) rfl)) rfl
theorem t1_161 : Cond.fieldLink "LightingDesk" 30 "LightingDesk" "book" "LLightingDesk$CueBook;" ∈ uWS := uWS_mem (tm1 (List.mem_of_getElem? (i := 161) rfl)) rfl
theorem t1_162 : Cond.fieldLink "LightingDesk" 36 "LightingDesk" "players" "[LLightingDesk$Player;" ∈ uWS := uWS_mem (tm1 (List.mem_of_getElem? (i := 162) rfl)) rfl
theorem t1_163 : Cond.fieldLink "LightingDesk" 40 "LightingDesk" "now" "I" ∈ uWS := uWS_mem (tm1 (List.mem_of_getElem? (i := 163) rfl)) rfl
theorem t1_164 : Cond.fieldLink "LightingDesk" 44 "LightingDesk" "started" "I" ∈ uWS := uWS_mem (tm1 (List.mem_of_getElem? (i := 164) rfl)) rfl
theorem t1_165 : Cond.laysFinal "LightingDesk" "LightingDesk" "attributes" "[Z" ∈ uWS := uWS_mem (tm1 (List.mem_of_getElem? (i := 165) rfl)) rfl
theorem t1_167 : Cond.laysFinal "LightingDesk" "LightingDesk" "programmer" "LLightingDesk$ValueRow;" ∈ uWS := uWS_mem (tm1 (List.mem_of_getElem? (i := 167) rfl)) rfl
theorem t1_169 : Cond.laysFinal "LightingDesk" "LightingDesk" "palettes" "LLightingDesk$PaletteBox;" ∈ uWS := uWS_mem (tm1 (List.mem_of_getElem? (i := 169) rfl)) rfl
theorem t1_171 : Cond.laysFinal "LightingDesk" "LightingDesk" "book" "LLightingDesk$CueBook;" ∈ uWS := uWS_mem (tm1 (List.mem_of_getElem? (i := 171) rfl)) rfl
theorem t1_173 : Cond.laysFinal "LightingDesk" "LightingDesk" "players" "[LLightingDesk$Player;" ∈ uWS := uWS_mem (tm1 (List.mem_of_getElem? (i := 173) rfl)) rfl
theorem t1_175 : Cond.lays "LightingDesk" "LightingDesk" "now" "I" ∈ uWS := uWS_mem (tm1 (List.mem_of_getElem? (i := 175) rfl)) rfl
theorem t1_177 : Cond.lays "LightingDesk" "LightingDesk" "started" "I" ∈ uWS := uWS_mem (tm1 (List.mem_of_getElem? (i := 177) rfl)) rfl
theorem t1_179 : Cond.superclass "LightingDesk" "java/lang/Object" ∈ uWS := uWS_mem (tm1 (List.mem_of_getElem? (i := 179) rfl)) rfl
theorem t1_180 : Cond.methodLink "LightingDeskLaw" 55 ⟨"LightingDesk", "kind", "(IZ)Z"⟩ ∈ uWS := uWS_mem (tm1 (List.mem_of_getElem? (i := 180) rfl)) rfl
theorem t1_181 : Cond.instanceMethod ⟨"LightingDesk", "kind", "(IZ)Z"⟩ ∈ uWS := uWS_mem (tm1 (List.mem_of_getElem? (i := 181) rfl)) rfl
theorem t1_182 : Cond.selects "LightingDesk" ⟨"LightingDesk", "kind", "(IZ)Z"⟩ ⟨"LightingDesk", "kind", "(IZ)Z"⟩ ∈ uWS := uWS_mem (tm1 (List.mem_of_getElem? (i := 182) rfl)) rfl
theorem t1_183 : Cond.code ⟨"LightingDesk", "kind", "(IZ)Z"⟩ prog_1_method_2_code 3 (some .boolean) ∈ uWS := uWS_mem (tm1 (List.mem_of_getElem? (i := 183) rfl)) rfl
theorem t1_184 : Cond.methodLink "LightingDesk" 48 ⟨"LightingDesk", "isChannel", "(I)Z"⟩ ∈ uWS := uWS_mem (tm1 (List.mem_of_getElem? (i := 184) rfl)) rfl
theorem t1_185 : Cond.static ⟨"LightingDesk", "isChannel", "(I)Z"⟩ ∈ uWS := uWS_mem (tm1 (List.mem_of_getElem? (i := 185) rfl)) rfl
theorem t1_186 : Cond.code ⟨"LightingDesk", "isChannel", "(I)Z"⟩ prog_1_method_22_code 1 (some .boolean) ∈ uWS := uWS_mem (tm1 (List.mem_of_getElem? (i := 186) rfl)) rfl
theorem t1_187 : Cond.methodLink "LightingDeskLaw" 60 ⟨"LightingDesk", "set", "(II)Z"⟩ ∈ uWS := uWS_mem (tm1 (List.mem_of_getElem? (i := 187) rfl)) rfl
theorem t1_188 : Cond.instanceMethod ⟨"LightingDesk", "set", "(II)Z"⟩ ∈ uWS := uWS_mem (tm1 (List.mem_of_getElem? (i := 188) rfl)) rfl
theorem t1_189 : Cond.selects "LightingDesk" ⟨"LightingDesk", "set", "(II)Z"⟩ ⟨"LightingDesk", "set", "(II)Z"⟩ ∈ uWS := uWS_mem (tm1 (List.mem_of_getElem? (i := 189) rfl)) rfl
theorem t1_190 : Cond.code ⟨"LightingDesk", "set", "(II)Z"⟩ prog_1_method_3_code 3 (some .boolean) ∈ uWS := uWS_mem (tm1 (List.mem_of_getElem? (i := 190) rfl)) rfl
theorem t1_191 : Cond.methodLink "LightingDesk" 52 ⟨"LightingDesk", "isLevel", "(I)Z"⟩ ∈ uWS := uWS_mem (tm1 (List.mem_of_getElem? (i := 191) rfl)) rfl
theorem t1_192 : Cond.static ⟨"LightingDesk", "isLevel", "(I)Z"⟩ ∈ uWS := uWS_mem (tm1 (List.mem_of_getElem? (i := 192) rfl)) rfl
theorem t1_193 : Cond.code ⟨"LightingDesk", "isLevel", "(I)Z"⟩ prog_1_method_23_code 1 (some .boolean) ∈ uWS := uWS_mem (tm1 (List.mem_of_getElem? (i := 193) rfl)) rfl
theorem t1_194 : Cond.methodLink "LightingDesk" 55 ⟨"LightingDesk$ValueRow", "put", "(II)V"⟩ ∈ uWS := uWS_mem (tm1 (List.mem_of_getElem? (i := 194) rfl)) rfl
theorem t1_195 : Cond.instanceMethod ⟨"LightingDesk$ValueRow", "put", "(II)V"⟩ ∈ uWS := uWS_mem (tm1 (List.mem_of_getElem? (i := 195) rfl)) rfl
theorem t1_196 : Cond.selects "LightingDesk$ValueRow" ⟨"LightingDesk$ValueRow", "put", "(II)V"⟩ ⟨"LightingDesk$ValueRow", "put", "(II)V"⟩ ∈ uWS := uWS_mem (tm1 (List.mem_of_getElem? (i := 196) rfl)) rfl
theorem t1_197 : Cond.code ⟨"LightingDesk$ValueRow", "put", "(II)V"⟩ prog_6_method_4_code 3 (none : Option Jvm.ClassFile.FieldType) ∈ uWS := uWS_mem (tm1 (List.mem_of_getElem? (i := 197) rfl)) rfl
theorem t1_198 : Cond.methodLink "LightingDeskLaw" 65 ⟨"LightingDesk", "use", "(II)Z"⟩ ∈ uWS := uWS_mem (tm1 (List.mem_of_getElem? (i := 198) rfl)) rfl
theorem t1_199 : Cond.instanceMethod ⟨"LightingDesk", "use", "(II)Z"⟩ ∈ uWS := uWS_mem (tm1 (List.mem_of_getElem? (i := 199) rfl)) rfl
theorem t1_200 : Cond.selects "LightingDesk" ⟨"LightingDesk", "use", "(II)Z"⟩ ⟨"LightingDesk", "use", "(II)Z"⟩ ∈ uWS := uWS_mem (tm1 (List.mem_of_getElem? (i := 200) rfl)) rfl
theorem t1_201 : Cond.code ⟨"LightingDesk", "use", "(II)Z"⟩ prog_1_method_4_code 3 (some .boolean) ∈ uWS := uWS_mem (tm1 (List.mem_of_getElem? (i := 201) rfl)) rfl
theorem t1_202 : Cond.methodLink "LightingDesk" 59 ⟨"LightingDesk", "isPalette", "(I)Z"⟩ ∈ uWS := uWS_mem (tm1 (List.mem_of_getElem? (i := 202) rfl)) rfl
theorem t1_203 : Cond.static ⟨"LightingDesk", "isPalette", "(I)Z"⟩ ∈ uWS := uWS_mem (tm1 (List.mem_of_getElem? (i := 203) rfl)) rfl
theorem t1_204 : Cond.code ⟨"LightingDesk", "isPalette", "(I)Z"⟩ prog_1_method_24_code 1 (some .boolean) ∈ uWS := uWS_mem (tm1 (List.mem_of_getElem? (i := 204) rfl)) rfl
theorem t1_205 : Cond.methodLink "LightingDeskLaw" 69 ⟨"LightingDesk", "release", "(I)I"⟩ ∈ uWS := uWS_mem (tm1 (List.mem_of_getElem? (i := 205) rfl)) rfl
theorem t1_206 : Cond.instanceMethod ⟨"LightingDesk", "release", "(I)I"⟩ ∈ uWS := uWS_mem (tm1 (List.mem_of_getElem? (i := 206) rfl)) rfl
theorem t1_207 : Cond.selects "LightingDesk" ⟨"LightingDesk", "release", "(I)I"⟩ ⟨"LightingDesk", "release", "(I)I"⟩ ∈ uWS := uWS_mem (tm1 (List.mem_of_getElem? (i := 207) rfl)) rfl
theorem t1_208 : Cond.code ⟨"LightingDesk", "release", "(I)I"⟩ prog_1_method_5_code 3 (some .int) ∈ uWS := uWS_mem (tm1 (List.mem_of_getElem? (i := 208) rfl)) rfl
theorem t1_209 : Cond.methodLink "LightingDesk" 65 ⟨"LightingDesk$ValueRow", "dropAll", "()V"⟩ ∈ uWS := uWS_mem (tm1 (List.mem_of_getElem? (i := 209) rfl)) rfl
theorem t1_210 : Cond.instanceMethod ⟨"LightingDesk$ValueRow", "dropAll", "()V"⟩ ∈ uWS := uWS_mem (tm1 (List.mem_of_getElem? (i := 210) rfl)) rfl
theorem t1_211 : Cond.selects "LightingDesk$ValueRow" ⟨"LightingDesk$ValueRow", "dropAll", "()V"⟩ ⟨"LightingDesk$ValueRow", "dropAll", "()V"⟩ ∈ uWS := uWS_mem (tm1 (List.mem_of_getElem? (i := 211) rfl)) rfl
theorem t1_212 : Cond.code ⟨"LightingDesk$ValueRow", "dropAll", "()V"⟩ prog_6_method_6_code 1 (none : Option Jvm.ClassFile.FieldType) ∈ uWS := uWS_mem (tm1 (List.mem_of_getElem? (i := 212) rfl)) rfl
theorem t1_213 : Cond.methodLink "LightingDesk" 68 ⟨"LightingDesk$ValueRow", "drop", "(I)V"⟩ ∈ uWS := uWS_mem (tm1 (List.mem_of_getElem? (i := 213) rfl)) rfl
theorem t1_214 : Cond.instanceMethod ⟨"LightingDesk$ValueRow", "drop", "(I)V"⟩ ∈ uWS := uWS_mem (tm1 (List.mem_of_getElem? (i := 214) rfl)) rfl
theorem t1_215 : Cond.selects "LightingDesk$ValueRow" ⟨"LightingDesk$ValueRow", "drop", "(I)V"⟩ ⟨"LightingDesk$ValueRow", "drop", "(I)V"⟩ ∈ uWS := uWS_mem (tm1 (List.mem_of_getElem? (i := 215) rfl)) rfl
theorem t1_216 : Cond.code ⟨"LightingDesk$ValueRow", "drop", "(I)V"⟩ prog_6_method_5_code 2 (none : Option Jvm.ClassFile.FieldType) ∈ uWS := uWS_mem (tm1 (List.mem_of_getElem? (i := 216) rfl)) rfl
theorem t1_217 : Cond.methodLink "LightingDeskLaw" 74 ⟨"LightingDesk", "palette", "(III)Z"⟩ ∈ uWS := uWS_mem (tm1 (List.mem_of_getElem? (i := 217) rfl)) rfl
theorem t1_218 : Cond.instanceMethod ⟨"LightingDesk", "palette", "(III)Z"⟩ ∈ uWS := uWS_mem (tm1 (List.mem_of_getElem? (i := 218) rfl)) rfl
theorem t1_219 : Cond.selects "LightingDesk" ⟨"LightingDesk", "palette", "(III)Z"⟩ ⟨"LightingDesk", "palette", "(III)Z"⟩ ∈ uWS := uWS_mem (tm1 (List.mem_of_getElem? (i := 219) rfl)) rfl
theorem t1_220 : Cond.code ⟨"LightingDesk", "palette", "(III)Z"⟩ prog_1_method_6_code 4 (some .boolean) ∈ uWS := uWS_mem (tm1 (List.mem_of_getElem? (i := 220) rfl)) rfl
theorem t1_221 : Cond.methodLink "LightingDesk" 72 ⟨"LightingDesk$PaletteBox", "store", "(III)V"⟩ ∈ uWS := uWS_mem (tm1 (List.mem_of_getElem? (i := 221) rfl)) rfl
theorem t1_222 : Cond.instanceMethod ⟨"LightingDesk$PaletteBox", "store", "(III)V"⟩ ∈ uWS := uWS_mem (tm1 (List.mem_of_getElem? (i := 222) rfl)) rfl
theorem t1_223 : Cond.selects "LightingDesk$PaletteBox" ⟨"LightingDesk$PaletteBox", "store", "(III)V"⟩ ⟨"LightingDesk$PaletteBox", "store", "(III)V"⟩ ∈ uWS := uWS_mem (tm1 (List.mem_of_getElem? (i := 223) rfl)) rfl
theorem t1_224 : Cond.code ⟨"LightingDesk$PaletteBox", "store", "(III)V"⟩ prog_4_method_2_code 4 (none : Option Jvm.ClassFile.FieldType) ∈ uWS := uWS_mem (tm1 (List.mem_of_getElem? (i := 224) rfl)) rfl
theorem t1_225 : Cond.methodLink "LightingDeskLaw" 99 ⟨"LightingDesk", "times", "(IIII)Z"⟩ ∈ uWS := uWS_mem (tm1 (List.mem_of_getElem? (i := 225) rfl)) rfl
theorem t1_226 : Cond.instanceMethod ⟨"LightingDesk", "times", "(IIII)Z"⟩ ∈ uWS := uWS_mem (tm1 (List.mem_of_getElem? (i := 226) rfl)) rfl
theorem t1_227 : Cond.selects "LightingDesk" ⟨"LightingDesk", "times", "(IIII)Z"⟩ ⟨"LightingDesk", "times", "(IIII)Z"⟩ ∈ uWS := uWS_mem (tm1 (List.mem_of_getElem? (i := 227) rfl)) rfl
theorem t1_228 : Cond.code ⟨"LightingDesk", "times", "(IIII)Z"⟩ prog_1_method_11_code 7 (some .boolean) ∈ uWS := uWS_mem (tm1 (List.mem_of_getElem? (i := 228) rfl)) rfl
theorem t1_229 : Cond.methodLink "LightingDesk" 119 ⟨"LightingDesk$CueBook", "find", "(II)I"⟩ ∈ uWS := uWS_mem (tm1 (List.mem_of_getElem? (i := 229) rfl)) rfl
theorem t1_230 : Cond.instanceMethod ⟨"LightingDesk$CueBook", "find", "(II)I"⟩ ∈ uWS := uWS_mem (tm1 (List.mem_of_getElem? (i := 230) rfl)) rfl
theorem t1_231 : Cond.selects "LightingDesk$CueBook" ⟨"LightingDesk$CueBook", "find", "(II)I"⟩ ⟨"LightingDesk$CueBook", "find", "(II)I"⟩ ∈ uWS := uWS_mem (tm1 (List.mem_of_getElem? (i := 231) rfl)) rfl
theorem t1_232 : Cond.code ⟨"LightingDesk$CueBook", "find", "(II)I"⟩ prog_3_method_6_code 4 (some .int) ∈ uWS := uWS_mem (tm1 (List.mem_of_getElem? (i := 232) rfl)) rfl
theorem t1_233 : Cond.methodLink "LightingDesk$CueBook" 31 ⟨"LightingDesk$CueBook", "placeFor", "(II)I"⟩ ∈ uWS := uWS_mem (tm1 (List.mem_of_getElem? (i := 233) rfl)) rfl
theorem t1_235 : Cond.instanceMethod ⟨"LightingDesk$CueBook", "placeFor", "(II)I"⟩ ∈ uWS := uWS_mem (tm1 (List.mem_of_getElem? (i := 235) rfl)) rfl
theorem t1_236 : Cond.code ⟨"LightingDesk$CueBook", "placeFor", "(II)I"⟩ prog_3_method_20_code 4 (some .int) ∈ uWS := uWS_mem (tm1 (List.mem_of_getElem? (i := 236) rfl)) rfl
theorem t1_237 : Cond.methodLink "LightingDesk$CueBook" 110 ⟨"LightingDesk$Cue", "isBefore", "(II)Z"⟩ ∈ uWS := uWS_mem (tm1 (List.mem_of_getElem? (i := 237) rfl)) rfl
theorem t1_238 : Cond.instanceMethod ⟨"LightingDesk$Cue", "isBefore", "(II)Z"⟩ ∈ uWS := uWS_mem (tm1 (List.mem_of_getElem? (i := 238) rfl)) rfl
theorem t1_239 : Cond.selects "LightingDesk$Cue" ⟨"LightingDesk$Cue", "isBefore", "(II)Z"⟩ ⟨"LightingDesk$Cue", "isBefore", "(II)Z"⟩ ∈ uWS := uWS_mem (tm1 (List.mem_of_getElem? (i := 239) rfl)) rfl
theorem t2_0 : Cond.code ⟨"LightingDesk$Cue", "isBefore", "(II)Z"⟩ prog_2_method_3_code 3 (some .boolean) ∈ uWS := uWS_mem (tm2 (List.mem_of_getElem? (i := 0) rfl)) rfl
theorem t2_1 : Cond.methodLink "LightingDesk$CueBook" 39 ⟨"LightingDesk$CueBook", "isIn", "(II)Z"⟩ ∈ uWS := uWS_mem (tm2 (List.mem_of_getElem? (i := 1) rfl)) rfl
theorem t2_3 : Cond.instanceMethod ⟨"LightingDesk$CueBook", "isIn", "(II)Z"⟩ ∈ uWS := uWS_mem (tm2 (List.mem_of_getElem? (i := 3) rfl)) rfl
theorem t2_4 : Cond.code ⟨"LightingDesk$CueBook", "isIn", "(II)Z"⟩ prog_3_method_19_code 3 (some .boolean) ∈ uWS := uWS_mem (tm2 (List.mem_of_getElem? (i := 4) rfl)) rfl
theorem t2_5 : Cond.methodLink "LightingDesk" 122 ⟨"LightingDesk", "isTime", "(I)Z"⟩ ∈ uWS := uWS_mem (tm2 (List.mem_of_getElem? (i := 5) rfl)) rfl
theorem t2_6 : Cond.static ⟨"LightingDesk", "isTime", "(I)Z"⟩ ∈ uWS := uWS_mem (tm2 (List.mem_of_getElem? (i := 6) rfl)) rfl
theorem t2_7 : Cond.code ⟨"LightingDesk", "isTime", "(I)Z"⟩ prog_1_method_28_code 1 (some .boolean) ∈ uWS := uWS_mem (tm2 (List.mem_of_getElem? (i := 7) rfl)) rfl
theorem t2_8 : Cond.methodLink "LightingDesk" 125 ⟨"LightingDesk$CueBook", "at", "(I)LLightingDesk$Cue;"⟩ ∈ uWS := uWS_mem (tm2 (List.mem_of_getElem? (i := 8) rfl)) rfl
theorem t2_9 : Cond.instanceMethod ⟨"LightingDesk$CueBook", "at", "(I)LLightingDesk$Cue;"⟩ ∈ uWS := uWS_mem (tm2 (List.mem_of_getElem? (i := 9) rfl)) rfl
theorem t2_10 : Cond.selects "LightingDesk$CueBook" ⟨"LightingDesk$CueBook", "at", "(I)LLightingDesk$Cue;"⟩ ⟨"LightingDesk$CueBook", "at", "(I)LLightingDesk$Cue;"⟩ ∈ uWS := uWS_mem (tm2 (List.mem_of_getElem? (i := 10) rfl)) rfl
theorem t2_11 : Cond.code ⟨"LightingDesk$CueBook", "at", "(I)LLightingDesk$Cue;"⟩ prog_3_method_2_code 2 (some (.object "LightingDesk$Cue")) ∈ uWS := uWS_mem (tm2 (List.mem_of_getElem? (i := 11) rfl)) rfl
theorem t2_12 : Cond.methodLink "LightingDeskLaw" 104 ⟨"LightingDesk", "delays", "(IIII)Z"⟩ ∈ uWS := uWS_mem (tm2 (List.mem_of_getElem? (i := 12) rfl)) rfl
theorem t2_13 : Cond.instanceMethod ⟨"LightingDesk", "delays", "(IIII)Z"⟩ ∈ uWS := uWS_mem (tm2 (List.mem_of_getElem? (i := 13) rfl)) rfl
theorem t2_14 : Cond.selects "LightingDesk" ⟨"LightingDesk", "delays", "(IIII)Z"⟩ ⟨"LightingDesk", "delays", "(IIII)Z"⟩ ∈ uWS := uWS_mem (tm2 (List.mem_of_getElem? (i := 14) rfl)) rfl
theorem t2_15 : Cond.code ⟨"LightingDesk", "delays", "(IIII)Z"⟩ prog_1_method_12_code 7 (some .boolean) ∈ uWS := uWS_mem (tm2 (List.mem_of_getElem? (i := 15) rfl)) rfl
theorem t2_16 : Cond.methodLink "LightingDeskLaw" 118 ⟨"LightingDesk", "assign", "(II)Z"⟩ ∈ uWS := uWS_mem (tm2 (List.mem_of_getElem? (i := 16) rfl)) rfl
theorem t2_17 : Cond.instanceMethod ⟨"LightingDesk", "assign", "(II)Z"⟩ ∈ uWS := uWS_mem (tm2 (List.mem_of_getElem? (i := 17) rfl)) rfl
theorem t2_18 : Cond.selects "LightingDesk" ⟨"LightingDesk", "assign", "(II)Z"⟩ ⟨"LightingDesk", "assign", "(II)Z"⟩ ∈ uWS := uWS_mem (tm2 (List.mem_of_getElem? (i := 18) rfl)) rfl
theorem t2_19 : Cond.code ⟨"LightingDesk", "assign", "(II)Z"⟩ prog_1_method_16_code 4 (some .boolean) ∈ uWS := uWS_mem (tm2 (List.mem_of_getElem? (i := 19) rfl)) rfl
theorem t2_20 : Cond.methodLink "LightingDesk" 173 ⟨"LightingDesk", "isPlayback", "(I)Z"⟩ ∈ uWS := uWS_mem (tm2 (List.mem_of_getElem? (i := 20) rfl)) rfl
theorem t2_21 : Cond.static ⟨"LightingDesk", "isPlayback", "(I)Z"⟩ ∈ uWS := uWS_mem (tm2 (List.mem_of_getElem? (i := 21) rfl)) rfl
theorem t2_22 : Cond.code ⟨"LightingDesk", "isPlayback", "(I)Z"⟩ prog_1_method_27_code 1 (some .boolean) ∈ uWS := uWS_mem (tm2 (List.mem_of_getElem? (i := 22) rfl)) rfl
theorem t2_23 : Cond.methodLink "LightingDesk" 76 ⟨"LightingDesk", "isList", "(I)Z"⟩ ∈ uWS := uWS_mem (tm2 (List.mem_of_getElem? (i := 23) rfl)) rfl
theorem t2_24 : Cond.static ⟨"LightingDesk", "isList", "(I)Z"⟩ ∈ uWS := uWS_mem (tm2 (List.mem_of_getElem? (i := 24) rfl)) rfl
theorem t2_25 : Cond.code ⟨"LightingDesk", "isList", "(I)Z"⟩ prog_1_method_25_code 1 (some .boolean) ∈ uWS := uWS_mem (tm2 (List.mem_of_getElem? (i := 25) rfl)) rfl
theorem t2_26 : Cond.methodLink "LightingDeskLaw" 126 ⟨"LightingDesk", "master", "(II)Z"⟩ ∈ uWS := uWS_mem (tm2 (List.mem_of_getElem? (i := 26) rfl)) rfl
theorem t2_27 : Cond.instanceMethod ⟨"LightingDesk", "master", "(II)Z"⟩ ∈ uWS := uWS_mem (tm2 (List.mem_of_getElem? (i := 27) rfl)) rfl
theorem t2_28 : Cond.selects "LightingDesk" ⟨"LightingDesk", "master", "(II)Z"⟩ ⟨"LightingDesk", "master", "(II)Z"⟩ ∈ uWS := uWS_mem (tm2 (List.mem_of_getElem? (i := 28) rfl)) rfl
theorem t2_29 : Cond.code ⟨"LightingDesk", "master", "(II)Z"⟩ prog_1_method_18_code 3 (some .boolean) ∈ uWS := uWS_mem (tm2 (List.mem_of_getElem? (i := 29) rfl)) rfl
theorem t2_30 : Cond.methodLink "LightingDeskLaw" 136 ⟨"LightingDesk", "count", "(I)I"⟩ ∈ uWS := uWS_mem (tm2 (List.mem_of_getElem? (i := 30) rfl)) rfl
theorem t2_31 : Cond.instanceMethod ⟨"LightingDesk", "count", "(I)I"⟩ ∈ uWS := uWS_mem (tm2 (List.mem_of_getElem? (i := 31) rfl)) rfl
theorem t2_32 : Cond.selects "LightingDesk" ⟨"LightingDesk", "count", "(I)I"⟩ ⟨"LightingDesk", "count", "(I)I"⟩ ∈ uWS := uWS_mem (tm2 (List.mem_of_getElem? (i := 32) rfl)) rfl
theorem t2_33 : Cond.code ⟨"LightingDesk", "count", "(I)I"⟩ prog_1_method_21_code 2 (some .int) ∈ uWS := uWS_mem (tm2 (List.mem_of_getElem? (i := 33) rfl)) rfl
theorem t2_34 : Cond.methodLink "LightingDesk" 235 ⟨"LightingDesk$CueBook", "moveCount", "()I"⟩ ∈ uWS := uWS_mem (tm2 (List.mem_of_getElem? (i := 34) rfl)) rfl
theorem t2_35 : Cond.instanceMethod ⟨"LightingDesk$CueBook", "moveCount", "()I"⟩ ∈ uWS := uWS_mem (tm2 (List.mem_of_getElem? (i := 35) rfl)) rfl
theorem t2_36 : Cond.selects "LightingDesk$CueBook" ⟨"LightingDesk$CueBook", "moveCount", "()I"⟩ ⟨"LightingDesk$CueBook", "moveCount", "()I"⟩ ∈ uWS := uWS_mem (tm2 (List.mem_of_getElem? (i := 36) rfl)) rfl
theorem t2_37 : Cond.code ⟨"LightingDesk$CueBook", "moveCount", "()I"⟩ prog_3_method_3_code 3 (some .int) ∈ uWS := uWS_mem (tm2 (List.mem_of_getElem? (i := 37) rfl)) rfl
theorem t2_38 : Cond.methodLink "LightingDeskLaw" 79 ⟨"LightingDeskLaw", "record", "(LLightingDesk;IIZ[J)I"⟩ ∈ uWS := uWS_mem (tm2 (List.mem_of_getElem? (i := 38) rfl)) rfl
theorem t2_39 : Cond.static ⟨"LightingDeskLaw", "record", "(LLightingDesk;IIZ[J)I"⟩ ∈ uWS := uWS_mem (tm2 (List.mem_of_getElem? (i := 39) rfl)) rfl
theorem t2_40 : Cond.codeWith ⟨"LightingDeskLaw", "record", "(LLightingDesk;IIZ[J)I"⟩ method_3_code 6 (some .int) [(0, 12, 15, 13), (0, 12, 19, 15)] ∈ uWS := uWS_mem (tm2 (List.mem_of_getElem? (i := 40) rfl)) rfl
theorem t2_43 : Cond.methodLink "LightingDeskLaw" 7 ⟨"LightingDesk", "record", "(IIZ)I"⟩ ∈ uWS := uWS_mem (tm2 (List.mem_of_getElem? (i := 43) rfl)) rfl
theorem t2_44 : Cond.instanceMethod ⟨"LightingDesk", "record", "(IIZ)I"⟩ ∈ uWS := uWS_mem (tm2 (List.mem_of_getElem? (i := 44) rfl)) rfl
theorem t2_45 : Cond.selects "LightingDesk" ⟨"LightingDesk", "record", "(IIZ)I"⟩ ⟨"LightingDesk", "record", "(IIZ)I"⟩ ∈ uWS := uWS_mem (tm2 (List.mem_of_getElem? (i := 45) rfl)) rfl
theorem t2_46 : Cond.code ⟨"LightingDesk", "record", "(IIZ)I"⟩ prog_1_method_7_code 5 (some .int) ∈ uWS := uWS_mem (tm2 (List.mem_of_getElem? (i := 46) rfl)) rfl
theorem t2_47 : Cond.methodLink "LightingDesk" 79 ⟨"LightingDesk", "isNumber", "(I)Z"⟩ ∈ uWS := uWS_mem (tm2 (List.mem_of_getElem? (i := 47) rfl)) rfl
theorem t2_48 : Cond.static ⟨"LightingDesk", "isNumber", "(I)Z"⟩ ∈ uWS := uWS_mem (tm2 (List.mem_of_getElem? (i := 48) rfl)) rfl
theorem t2_49 : Cond.code ⟨"LightingDesk", "isNumber", "(I)Z"⟩ prog_1_method_26_code 1 (some .boolean) ∈ uWS := uWS_mem (tm2 (List.mem_of_getElem? (i := 49) rfl)) rfl
theorem t2_118 : Cond.arrayClass .byte ∈ uWS := uWS_mem (tm2 (List.mem_of_getElem? (i := 118) rfl)) rfl
theorem t2_119 : Cond.methodLink "LightingDesk" 89 ⟨"LightingDesk$CueBook", "recordCue", "(LLightingDesk$ValueRow;IIZ)I"⟩ ∈ uWS := uWS_mem (tm2 (List.mem_of_getElem? (i := 119) rfl)) rfl
theorem t2_120 : Cond.instanceMethod ⟨"LightingDesk$CueBook", "recordCue", "(LLightingDesk$ValueRow;IIZ)I"⟩ ∈ uWS := uWS_mem (tm2 (List.mem_of_getElem? (i := 120) rfl)) rfl
theorem t2_121 : Cond.selects "LightingDesk$CueBook" ⟨"LightingDesk$CueBook", "recordCue", "(LLightingDesk$ValueRow;IIZ)I"⟩ ⟨"LightingDesk$CueBook", "recordCue", "(LLightingDesk$ValueRow;IIZ)I"⟩ ∈ uWS := uWS_mem (tm2 (List.mem_of_getElem? (i := 121) rfl)) rfl
theorem t2_122 : Cond.code ⟨"LightingDesk$CueBook", "recordCue", "(LLightingDesk$ValueRow;IIZ)I"⟩ prog_3_method_11_code 9 (some .int) ∈ uWS := uWS_mem (tm2 (List.mem_of_getElem? (i := 122) rfl)) rfl
theorem t2_123 : Cond.methodLink "LightingDesk$CueBook" 59 ⟨"LightingDesk$CueBook", "find", "(II)I"⟩ ∈ uWS := uWS_mem (tm2 (List.mem_of_getElem? (i := 123) rfl)) rfl
theorem t2_124 : Cond.methodLink "LightingDesk$CueBook" 62 ⟨"LightingDesk$CueBook", "placeAbove", "(II)I"⟩ ∈ uWS := uWS_mem (tm2 (List.mem_of_getElem? (i := 124) rfl)) rfl
theorem t2_125 : Cond.instanceMethod ⟨"LightingDesk$CueBook", "placeAbove", "(II)I"⟩ ∈ uWS := uWS_mem (tm2 (List.mem_of_getElem? (i := 125) rfl)) rfl
theorem t2_126 : Cond.selects "LightingDesk$CueBook" ⟨"LightingDesk$CueBook", "placeAbove", "(II)I"⟩ ⟨"LightingDesk$CueBook", "placeAbove", "(II)I"⟩ ∈ uWS := uWS_mem (tm2 (List.mem_of_getElem? (i := 126) rfl)) rfl
theorem t2_127 : Cond.code ⟨"LightingDesk$CueBook", "placeAbove", "(II)I"⟩ prog_3_method_7_code 4 (some .int) ∈ uWS := uWS_mem (tm2 (List.mem_of_getElem? (i := 127) rfl)) rfl
theorem t2_128 : Cond.methodLink "LightingDesk$CueBook" 65 ⟨"LightingDesk$ValueRow", "lackedOf", "(LLightingDesk$ValueRow;)I"⟩ ∈ uWS := uWS_mem (tm2 (List.mem_of_getElem? (i := 128) rfl)) rfl
theorem t2_129 : Cond.instanceMethod ⟨"LightingDesk$ValueRow", "lackedOf", "(LLightingDesk$ValueRow;)I"⟩ ∈ uWS := uWS_mem (tm2 (List.mem_of_getElem? (i := 129) rfl)) rfl
theorem t2_130 : Cond.selects "LightingDesk$ValueRow" ⟨"LightingDesk$ValueRow", "lackedOf", "(LLightingDesk$ValueRow;)I"⟩ ⟨"LightingDesk$ValueRow", "lackedOf", "(LLightingDesk$ValueRow;)I"⟩ ∈ uWS := uWS_mem (tm2 (List.mem_of_getElem? (i := 130) rfl)) rfl
theorem t2_131 : Cond.code ⟨"LightingDesk$ValueRow", "lackedOf", "(LLightingDesk$ValueRow;)I"⟩ prog_6_method_7_code 4 (some .int) ∈ uWS := uWS_mem (tm2 (List.mem_of_getElem? (i := 131) rfl)) rfl
theorem t2_132 : Cond.methodLink "LightingDesk$ValueRow" 25 ⟨"LightingDesk$ValueRow", "has", "(I)Z"⟩ ∈ uWS := uWS_mem (tm2 (List.mem_of_getElem? (i := 132) rfl)) rfl
theorem t2_133 : Cond.instanceMethod ⟨"LightingDesk$ValueRow", "has", "(I)Z"⟩ ∈ uWS := uWS_mem (tm2 (List.mem_of_getElem? (i := 133) rfl)) rfl
theorem t2_134 : Cond.selects "LightingDesk$ValueRow" ⟨"LightingDesk$ValueRow", "has", "(I)Z"⟩ ⟨"LightingDesk$ValueRow", "has", "(I)Z"⟩ ∈ uWS := uWS_mem (tm2 (List.mem_of_getElem? (i := 134) rfl)) rfl
theorem t2_135 : Cond.code ⟨"LightingDesk$ValueRow", "has", "(I)Z"⟩ prog_6_method_2_code 2 (some .boolean) ∈ uWS := uWS_mem (tm2 (List.mem_of_getElem? (i := 135) rfl)) rfl
theorem t2_136 : Cond.methodLink "LightingDesk$CueBook" 69 ⟨"LightingDesk$CueBook", "moveCount", "()I"⟩ ∈ uWS := uWS_mem (tm2 (List.mem_of_getElem? (i := 136) rfl)) rfl
theorem t2_137 : Cond.methodLink "LightingDesk$CueBook" 73 ⟨"LightingDesk$CueBook", "insert", "(III)V"⟩ ∈ uWS := uWS_mem (tm2 (List.mem_of_getElem? (i := 137) rfl)) rfl
theorem t2_139 : Cond.instanceMethod ⟨"LightingDesk$CueBook", "insert", "(III)V"⟩ ∈ uWS := uWS_mem (tm2 (List.mem_of_getElem? (i := 139) rfl)) rfl
theorem t2_140 : Cond.code ⟨"LightingDesk$CueBook", "insert", "(III)V"⟩ prog_3_method_21_code 6 (none : Option Jvm.ClassFile.FieldType) ∈ uWS := uWS_mem (tm2 (List.mem_of_getElem? (i := 140) rfl)) rfl
theorem t2_141 : Cond.methodLink "LightingDesk$CueBook" 113 ⟨"LightingDesk$Cue", "beginAs", "(II)V"⟩ ∈ uWS := uWS_mem (tm2 (List.mem_of_getElem? (i := 141) rfl)) rfl
theorem t2_142 : Cond.instanceMethod ⟨"LightingDesk$Cue", "beginAs", "(II)V"⟩ ∈ uWS := uWS_mem (tm2 (List.mem_of_getElem? (i := 142) rfl)) rfl
theorem t2_143 : Cond.selects "LightingDesk$Cue" ⟨"LightingDesk$Cue", "beginAs", "(II)V"⟩ ⟨"LightingDesk$Cue", "beginAs", "(II)V"⟩ ∈ uWS := uWS_mem (tm2 (List.mem_of_getElem? (i := 143) rfl)) rfl
theorem t2_144 : Cond.code ⟨"LightingDesk$Cue", "beginAs", "(II)V"⟩ prog_2_method_2_code 3 (none : Option Jvm.ClassFile.FieldType) ∈ uWS := uWS_mem (tm2 (List.mem_of_getElem? (i := 144) rfl)) rfl
theorem t2_145 : Cond.methodLink "LightingDesk$Cue" 37 ⟨"LightingDesk$ValueRow", "dropAll", "()V"⟩ ∈ uWS := uWS_mem (tm2 (List.mem_of_getElem? (i := 145) rfl)) rfl
theorem t2_146 : Cond.methodLink "LightingDesk$CueBook" 77 ⟨"LightingDesk$CueBook", "keepChannels", "(ILLightingDesk$ValueRow;)V"⟩ ∈ uWS := uWS_mem (tm2 (List.mem_of_getElem? (i := 146) rfl)) rfl
theorem t2_148 : Cond.instanceMethod ⟨"LightingDesk$CueBook", "keepChannels", "(ILLightingDesk$ValueRow;)V"⟩ ∈ uWS := uWS_mem (tm2 (List.mem_of_getElem? (i := 148) rfl)) rfl
theorem t2_149 : Cond.code ⟨"LightingDesk$CueBook", "keepChannels", "(ILLightingDesk$ValueRow;)V"⟩ prog_3_method_16_code 5 (none : Option Jvm.ClassFile.FieldType) ∈ uWS := uWS_mem (tm2 (List.mem_of_getElem? (i := 149) rfl)) rfl
theorem t2_150 : Cond.methodLink "LightingDesk$CueBook" 49 ⟨"LightingDesk$ValueRow", "has", "(I)Z"⟩ ∈ uWS := uWS_mem (tm2 (List.mem_of_getElem? (i := 150) rfl)) rfl
theorem t2_151 : Cond.methodLink "LightingDesk$CueBook" 98 ⟨"LightingDesk$CueBook", "trackedAt", "(II)I"⟩ ∈ uWS := uWS_mem (tm2 (List.mem_of_getElem? (i := 151) rfl)) rfl
theorem t2_152 : Cond.instanceMethod ⟨"LightingDesk$CueBook", "trackedAt", "(II)I"⟩ ∈ uWS := uWS_mem (tm2 (List.mem_of_getElem? (i := 152) rfl)) rfl
theorem t2_153 : Cond.selects "LightingDesk$CueBook" ⟨"LightingDesk$CueBook", "trackedAt", "(II)I"⟩ ⟨"LightingDesk$CueBook", "trackedAt", "(II)I"⟩ ∈ uWS := uWS_mem (tm2 (List.mem_of_getElem? (i := 153) rfl)) rfl
theorem t2_154 : Cond.code ⟨"LightingDesk$CueBook", "trackedAt", "(II)I"⟩ prog_3_method_10_code 4 (some .int) ∈ uWS := uWS_mem (tm2 (List.mem_of_getElem? (i := 154) rfl)) rfl
theorem t2_155 : Cond.methodLink "LightingDesk$CueBook" 53 ⟨"LightingDesk$CueBook", "sourceOf", "(II)I"⟩ ∈ uWS := uWS_mem (tm2 (List.mem_of_getElem? (i := 155) rfl)) rfl
theorem t2_156 : Cond.instanceMethod ⟨"LightingDesk$CueBook", "sourceOf", "(II)I"⟩ ∈ uWS := uWS_mem (tm2 (List.mem_of_getElem? (i := 156) rfl)) rfl
theorem t2_157 : Cond.selects "LightingDesk$CueBook" ⟨"LightingDesk$CueBook", "sourceOf", "(II)I"⟩ ⟨"LightingDesk$CueBook", "sourceOf", "(II)I"⟩ ∈ uWS := uWS_mem (tm2 (List.mem_of_getElem? (i := 157) rfl)) rfl
theorem t2_158 : Cond.code ⟨"LightingDesk$CueBook", "sourceOf", "(II)I"⟩ prog_3_method_9_code 5 (some .int) ∈ uWS := uWS_mem (tm2 (List.mem_of_getElem? (i := 158) rfl)) rfl
theorem t2_159 : Cond.methodLink "LightingDesk$CueBook" 56 ⟨"LightingDesk$ValueRow", "valueAt", "(I)I"⟩ ∈ uWS := uWS_mem (tm2 (List.mem_of_getElem? (i := 159) rfl)) rfl
theorem t2_160 : Cond.instanceMethod ⟨"LightingDesk$ValueRow", "valueAt", "(I)I"⟩ ∈ uWS := uWS_mem (tm2 (List.mem_of_getElem? (i := 160) rfl)) rfl
theorem t2_161 : Cond.selects "LightingDesk$ValueRow" ⟨"LightingDesk$ValueRow", "valueAt", "(I)I"⟩ ⟨"LightingDesk$ValueRow", "valueAt", "(I)I"⟩ ∈ uWS := uWS_mem (tm2 (List.mem_of_getElem? (i := 161) rfl)) rfl
theorem t2_162 : Cond.code ⟨"LightingDesk$ValueRow", "valueAt", "(I)I"⟩ prog_6_method_3_code 2 (some .int) ∈ uWS := uWS_mem (tm2 (List.mem_of_getElem? (i := 162) rfl)) rfl
theorem t2_163 : Cond.methodLink "LightingDesk$CueBook" 104 ⟨"LightingDesk$CueBook", "orUnset", "(I)I"⟩ ∈ uWS := uWS_mem (tm2 (List.mem_of_getElem? (i := 163) rfl)) rfl
theorem t2_164 : Cond.static ⟨"LightingDesk$CueBook", "orUnset", "(I)I"⟩ ∈ uWS := uWS_mem (tm2 (List.mem_of_getElem? (i := 164) rfl)) rfl
theorem t2_165 : Cond.code ⟨"LightingDesk$CueBook", "orUnset", "(I)I"⟩ prog_3_method_18_code 1 (some .int) ∈ uWS := uWS_mem (tm2 (List.mem_of_getElem? (i := 165) rfl)) rfl
theorem t2_166 : Cond.methodLink "LightingDesk$CueBook" 84 ⟨"LightingDesk$ValueRow", "put", "(II)V"⟩ ∈ uWS := uWS_mem (tm2 (List.mem_of_getElem? (i := 166) rfl)) rfl
theorem t2_167 : Cond.methodLink "LightingDesk$CueBook" 81 ⟨"LightingDesk$CueBook", "putAll", "(ILLightingDesk$ValueRow;)V"⟩ ∈ uWS := uWS_mem (tm2 (List.mem_of_getElem? (i := 167) rfl)) rfl
theorem t2_169 : Cond.instanceMethod ⟨"LightingDesk$CueBook", "putAll", "(ILLightingDesk$ValueRow;)V"⟩ ∈ uWS := uWS_mem (tm2 (List.mem_of_getElem? (i := 169) rfl)) rfl
theorem t2_170 : Cond.code ⟨"LightingDesk$CueBook", "putAll", "(ILLightingDesk$ValueRow;)V"⟩ prog_3_method_17_code 4 (none : Option Jvm.ClassFile.FieldType) ∈ uWS := uWS_mem (tm2 (List.mem_of_getElem? (i := 170) rfl)) rfl
theorem t2_187 : Cond.methodLink "LightingDeskLaw" 89 ⟨"LightingDeskLaw", "update", "(LLightingDesk;II[J)I"⟩ ∈ uWS := uWS_mem (tm2 (List.mem_of_getElem? (i := 187) rfl)) rfl
theorem t2_188 : Cond.static ⟨"LightingDeskLaw", "update", "(LLightingDesk;II[J)I"⟩ ∈ uWS := uWS_mem (tm2 (List.mem_of_getElem? (i := 188) rfl)) rfl
theorem t2_189 : Cond.codeWith ⟨"LightingDeskLaw", "update", "(LLightingDesk;II[J)I"⟩ method_4_code 5 (some .int) [(0, 10, 13, 21), (0, 10, 17, 15)] ∈ uWS := uWS_mem (tm2 (List.mem_of_getElem? (i := 189) rfl)) rfl
theorem t2_191 : Cond.methodLink "LightingDeskLaw" 17 ⟨"LightingDesk", "update", "(II)I"⟩ ∈ uWS := uWS_mem (tm2 (List.mem_of_getElem? (i := 191) rfl)) rfl
theorem t2_192 : Cond.instanceMethod ⟨"LightingDesk", "update", "(II)I"⟩ ∈ uWS := uWS_mem (tm2 (List.mem_of_getElem? (i := 192) rfl)) rfl
theorem t2_193 : Cond.selects "LightingDesk" ⟨"LightingDesk", "update", "(II)I"⟩ ⟨"LightingDesk", "update", "(II)I"⟩ ∈ uWS := uWS_mem (tm2 (List.mem_of_getElem? (i := 193) rfl)) rfl
theorem t2_194 : Cond.code ⟨"LightingDesk", "update", "(II)I"⟩ prog_1_method_8_code 5 (some .int) ∈ uWS := uWS_mem (tm2 (List.mem_of_getElem? (i := 194) rfl)) rfl
theorem t2_195 : Cond.methodLink "LightingDesk" 98 ⟨"LightingDesk", "placeOrThrow", "(II)I"⟩ ∈ uWS := uWS_mem (tm2 (List.mem_of_getElem? (i := 195) rfl)) rfl
theorem t2_197 : Cond.instanceMethod ⟨"LightingDesk", "placeOrThrow", "(II)I"⟩ ∈ uWS := uWS_mem (tm2 (List.mem_of_getElem? (i := 197) rfl)) rfl
theorem t2_198 : Cond.code ⟨"LightingDesk", "placeOrThrow", "(II)I"⟩ prog_1_method_29_code 4 (some .int) ∈ uWS := uWS_mem (tm2 (List.mem_of_getElem? (i := 198) rfl)) rfl
theorem t2_215 : Cond.methodLink "LightingDesk" 102 ⟨"LightingDesk$CueBook", "updateSources", "(LLightingDesk$ValueRow;I)I"⟩ ∈ uWS := uWS_mem (tm2 (List.mem_of_getElem? (i := 215) rfl)) rfl
theorem t2_216 : Cond.instanceMethod ⟨"LightingDesk$CueBook", "updateSources", "(LLightingDesk$ValueRow;I)I"⟩ ∈ uWS := uWS_mem (tm2 (List.mem_of_getElem? (i := 216) rfl)) rfl
theorem t2_217 : Cond.selects "LightingDesk$CueBook" ⟨"LightingDesk$CueBook", "updateSources", "(LLightingDesk$ValueRow;I)I"⟩ ⟨"LightingDesk$CueBook", "updateSources", "(LLightingDesk$ValueRow;I)I"⟩ ∈ uWS := uWS_mem (tm2 (List.mem_of_getElem? (i := 217) rfl)) rfl
theorem t2_218 : Cond.code ⟨"LightingDesk$CueBook", "updateSources", "(LLightingDesk$ValueRow;I)I"⟩ prog_3_method_12_code 9 (some .int) ∈ uWS := uWS_mem (tm2 (List.mem_of_getElem? (i := 218) rfl)) rfl
theorem t2_219 : Cond.methodLink "LightingDesk$CueBook" 88 ⟨"java/lang/Long", "bitCount", "(J)I"⟩ ∈ uWS := uWS_mem (tm2 (List.mem_of_getElem? (i := 219) rfl)) rfl
theorem t2_220 : Cond.static ⟨"java/lang/Long", "bitCount", "(J)I"⟩ ∈ uWS := uWS_mem (tm2 (List.mem_of_getElem? (i := 220) rfl)) rfl
theorem t2_221 : Cond.code ⟨"java/lang/Long", "bitCount", "(J)I"⟩ prog_13_method_50_code 2 (some .int) ∈ uWS := uWS_mem (tm2 (List.mem_of_getElem? (i := 221) rfl)) rfl
theorem t2_222 : Cond.constantLong "java/lang/Long" 314 6148914691236517205 ∈ uWS := uWS_mem (tm2 (List.mem_of_getElem? (i := 222) rfl)) rfl
theorem t2_223 : Cond.constantLong "java/lang/Long" 316 3689348814741910323 ∈ uWS := uWS_mem (tm2 (List.mem_of_getElem? (i := 223) rfl)) rfl
theorem t2_224 : Cond.constantLong "java/lang/Long" 318 1085102592571150095 ∈ uWS := uWS_mem (tm2 (List.mem_of_getElem? (i := 224) rfl)) rfl
theorem t2_226 : Cond.methodLink "LightingDeskLaw" 93 ⟨"LightingDeskLaw", "delete", "(LLightingDesk;IIZ[J)I"⟩ ∈ uWS := uWS_mem (tm2 (List.mem_of_getElem? (i := 226) rfl)) rfl
theorem t2_227 : Cond.static ⟨"LightingDeskLaw", "delete", "(LLightingDesk;IIZ[J)I"⟩ ∈ uWS := uWS_mem (tm2 (List.mem_of_getElem? (i := 227) rfl)) rfl
theorem t2_228 : Cond.codeWith ⟨"LightingDeskLaw", "delete", "(LLightingDesk;IIZ[J)I"⟩ method_5_code 6 (some .int) [(0, 12, 15, 21), (0, 12, 19, 15)] ∈ uWS := uWS_mem (tm2 (List.mem_of_getElem? (i := 228) rfl)) rfl
theorem t2_229 : Cond.methodLink "LightingDeskLaw" 23 ⟨"LightingDesk", "delete", "(IIZ)I"⟩ ∈ uWS := uWS_mem (tm2 (List.mem_of_getElem? (i := 229) rfl)) rfl
theorem t2_230 : Cond.instanceMethod ⟨"LightingDesk", "delete", "(IIZ)I"⟩ ∈ uWS := uWS_mem (tm2 (List.mem_of_getElem? (i := 230) rfl)) rfl
theorem t2_231 : Cond.selects "LightingDesk" ⟨"LightingDesk", "delete", "(IIZ)I"⟩ ⟨"LightingDesk", "delete", "(IIZ)I"⟩ ∈ uWS := uWS_mem (tm2 (List.mem_of_getElem? (i := 231) rfl)) rfl
theorem t2_232 : Cond.code ⟨"LightingDesk", "delete", "(IIZ)I"⟩ prog_1_method_9_code 5 (some .int) ∈ uWS := uWS_mem (tm2 (List.mem_of_getElem? (i := 232) rfl)) rfl
theorem t2_233 : Cond.methodLink "LightingDesk" 108 ⟨"LightingDesk$CueBook", "deleteCue", "(IZ)I"⟩ ∈ uWS := uWS_mem (tm2 (List.mem_of_getElem? (i := 233) rfl)) rfl
theorem t2_234 : Cond.instanceMethod ⟨"LightingDesk$CueBook", "deleteCue", "(IZ)I"⟩ ∈ uWS := uWS_mem (tm2 (List.mem_of_getElem? (i := 234) rfl)) rfl
theorem t2_235 : Cond.selects "LightingDesk$CueBook" ⟨"LightingDesk$CueBook", "deleteCue", "(IZ)I"⟩ ⟨"LightingDesk$CueBook", "deleteCue", "(IZ)I"⟩ ∈ uWS := uWS_mem (tm2 (List.mem_of_getElem? (i := 235) rfl)) rfl
theorem t2_236 : Cond.code ⟨"LightingDesk$CueBook", "deleteCue", "(IZ)I"⟩ prog_3_method_13_code 5 (some .int) ∈ uWS := uWS_mem (tm2 (List.mem_of_getElem? (i := 236) rfl)) rfl
theorem t2_237 : Cond.methodLink "LightingDesk$CueBook" 94 ⟨"LightingDesk$CueBook", "takeOut", "(I)V"⟩ ∈ uWS := uWS_mem (tm2 (List.mem_of_getElem? (i := 237) rfl)) rfl
theorem t2_239 : Cond.instanceMethod ⟨"LightingDesk$CueBook", "takeOut", "(I)V"⟩ ∈ uWS := uWS_mem (tm2 (List.mem_of_getElem? (i := 239) rfl)) rfl
theorem t3_0 : Cond.code ⟨"LightingDesk$CueBook", "takeOut", "(I)V"⟩ prog_3_method_22_code 4 (none : Option Jvm.ClassFile.FieldType) ∈ uWS := uWS_mem (tm3 (List.mem_of_getElem? (i := 0) rfl)) rfl
theorem t3_1 : Cond.methodLink "LightingDeskLaw" 96 ⟨"LightingDeskLaw", "block", "(LLightingDesk;IIZ[J)I"⟩ ∈ uWS := uWS_mem (tm3 (List.mem_of_getElem? (i := 1) rfl)) rfl
theorem t3_2 : Cond.static ⟨"LightingDeskLaw", "block", "(LLightingDesk;IIZ[J)I"⟩ ∈ uWS := uWS_mem (tm3 (List.mem_of_getElem? (i := 2) rfl)) rfl
theorem t3_3 : Cond.codeWith ⟨"LightingDeskLaw", "block", "(LLightingDesk;IIZ[J)I"⟩ method_6_code 6 (some .int) [(0, 12, 15, 21), (0, 12, 19, 15)] ∈ uWS := uWS_mem (tm3 (List.mem_of_getElem? (i := 3) rfl)) rfl
theorem t3_4 : Cond.methodLink "LightingDeskLaw" 26 ⟨"LightingDesk", "block", "(IIZ)I"⟩ ∈ uWS := uWS_mem (tm3 (List.mem_of_getElem? (i := 4) rfl)) rfl
theorem t3_5 : Cond.instanceMethod ⟨"LightingDesk", "block", "(IIZ)I"⟩ ∈ uWS := uWS_mem (tm3 (List.mem_of_getElem? (i := 5) rfl)) rfl
theorem t3_6 : Cond.selects "LightingDesk" ⟨"LightingDesk", "block", "(IIZ)I"⟩ ⟨"LightingDesk", "block", "(IIZ)I"⟩ ∈ uWS := uWS_mem (tm3 (List.mem_of_getElem? (i := 6) rfl)) rfl
theorem t3_7 : Cond.code ⟨"LightingDesk", "block", "(IIZ)I"⟩ prog_1_method_10_code 6 (some .int) ∈ uWS := uWS_mem (tm3 (List.mem_of_getElem? (i := 7) rfl)) rfl
theorem t3_8 : Cond.methodLink "LightingDesk" 112 ⟨"LightingDesk$CueBook", "blockCue", "(I)I"⟩ ∈ uWS := uWS_mem (tm3 (List.mem_of_getElem? (i := 8) rfl)) rfl
theorem t3_9 : Cond.instanceMethod ⟨"LightingDesk$CueBook", "blockCue", "(I)I"⟩ ∈ uWS := uWS_mem (tm3 (List.mem_of_getElem? (i := 9) rfl)) rfl
theorem t3_10 : Cond.selects "LightingDesk$CueBook" ⟨"LightingDesk$CueBook", "blockCue", "(I)I"⟩ ⟨"LightingDesk$CueBook", "blockCue", "(I)I"⟩ ∈ uWS := uWS_mem (tm3 (List.mem_of_getElem? (i := 10) rfl)) rfl
theorem t3_11 : Cond.code ⟨"LightingDesk$CueBook", "blockCue", "(I)I"⟩ prog_3_method_14_code 6 (some .int) ∈ uWS := uWS_mem (tm3 (List.mem_of_getElem? (i := 11) rfl)) rfl
theorem t3_12 : Cond.methodLink "LightingDesk" 116 ⟨"LightingDesk$CueBook", "unblockCue", "(I)I"⟩ ∈ uWS := uWS_mem (tm3 (List.mem_of_getElem? (i := 12) rfl)) rfl
theorem t3_13 : Cond.instanceMethod ⟨"LightingDesk$CueBook", "unblockCue", "(I)I"⟩ ∈ uWS := uWS_mem (tm3 (List.mem_of_getElem? (i := 13) rfl)) rfl
theorem t3_14 : Cond.selects "LightingDesk$CueBook" ⟨"LightingDesk$CueBook", "unblockCue", "(I)I"⟩ ⟨"LightingDesk$CueBook", "unblockCue", "(I)I"⟩ ∈ uWS := uWS_mem (tm3 (List.mem_of_getElem? (i := 14) rfl)) rfl
theorem t3_15 : Cond.code ⟨"LightingDesk$CueBook", "unblockCue", "(I)I"⟩ prog_3_method_15_code 5 (some .int) ∈ uWS := uWS_mem (tm3 (List.mem_of_getElem? (i := 15) rfl)) rfl
theorem t3_16 : Cond.methodLink "LightingDesk$CueBook" 101 ⟨"LightingDesk$CueBook", "placeBelow", "(II)I"⟩ ∈ uWS := uWS_mem (tm3 (List.mem_of_getElem? (i := 16) rfl)) rfl
theorem t3_17 : Cond.instanceMethod ⟨"LightingDesk$CueBook", "placeBelow", "(II)I"⟩ ∈ uWS := uWS_mem (tm3 (List.mem_of_getElem? (i := 17) rfl)) rfl
theorem t3_18 : Cond.selects "LightingDesk$CueBook" ⟨"LightingDesk$CueBook", "placeBelow", "(II)I"⟩ ⟨"LightingDesk$CueBook", "placeBelow", "(II)I"⟩ ∈ uWS := uWS_mem (tm3 (List.mem_of_getElem? (i := 18) rfl)) rfl
theorem t3_19 : Cond.code ⟨"LightingDesk$CueBook", "placeBelow", "(II)I"⟩ prog_3_method_8_code 4 (some .int) ∈ uWS := uWS_mem (tm3 (List.mem_of_getElem? (i := 19) rfl)) rfl
theorem t3_20 : Cond.methodLink "LightingDesk$CueBook" 107 ⟨"LightingDesk$ValueRow", "drop", "(I)V"⟩ ∈ uWS := uWS_mem (tm3 (List.mem_of_getElem? (i := 20) rfl)) rfl
theorem t3_21 : Cond.methodLink "LightingDeskLaw" 108 ⟨"LightingDeskLaw", "look", "(LLightingDesk;III[J)I"⟩ ∈ uWS := uWS_mem (tm3 (List.mem_of_getElem? (i := 21) rfl)) rfl
theorem t3_22 : Cond.static ⟨"LightingDeskLaw", "look", "(LLightingDesk;III[J)I"⟩ ∈ uWS := uWS_mem (tm3 (List.mem_of_getElem? (i := 22) rfl)) rfl
theorem t3_23 : Cond.codeWith ⟨"LightingDeskLaw", "look", "(LLightingDesk;III[J)I"⟩ method_7_code 6 (some .int) [(0, 12, 15, 21), (0, 12, 19, 33)] ∈ uWS := uWS_mem (tm3 (List.mem_of_getElem? (i := 23) rfl)) rfl
theorem t3_25 : Cond.methodLink "LightingDeskLaw" 29 ⟨"LightingDesk", "look", "(III)I"⟩ ∈ uWS := uWS_mem (tm3 (List.mem_of_getElem? (i := 25) rfl)) rfl
theorem t3_26 : Cond.instanceMethod ⟨"LightingDesk", "look", "(III)I"⟩ ∈ uWS := uWS_mem (tm3 (List.mem_of_getElem? (i := 26) rfl)) rfl
theorem t3_27 : Cond.selects "LightingDesk" ⟨"LightingDesk", "look", "(III)I"⟩ ⟨"LightingDesk", "look", "(III)I"⟩ ∈ uWS := uWS_mem (tm3 (List.mem_of_getElem? (i := 27) rfl)) rfl
theorem t3_28 : Cond.code ⟨"LightingDesk", "look", "(III)I"⟩ prog_1_method_13_code 5 (some .int) ∈ uWS := uWS_mem (tm3 (List.mem_of_getElem? (i := 28) rfl)) rfl
theorem t3_45 : Cond.methodLink "LightingDesk" 148 ⟨"LightingDesk$CueBook", "trackedAt", "(II)I"⟩ ∈ uWS := uWS_mem (tm3 (List.mem_of_getElem? (i := 45) rfl)) rfl
theorem t3_46 : Cond.methodLink "LightingDesk" 151 ⟨"LightingDesk$PaletteBox", "levelOf", "(II)I"⟩ ∈ uWS := uWS_mem (tm3 (List.mem_of_getElem? (i := 46) rfl)) rfl
theorem t3_47 : Cond.instanceMethod ⟨"LightingDesk$PaletteBox", "levelOf", "(II)I"⟩ ∈ uWS := uWS_mem (tm3 (List.mem_of_getElem? (i := 47) rfl)) rfl
theorem t3_48 : Cond.selects "LightingDesk$PaletteBox" ⟨"LightingDesk$PaletteBox", "levelOf", "(II)I"⟩ ⟨"LightingDesk$PaletteBox", "levelOf", "(II)I"⟩ ∈ uWS := uWS_mem (tm3 (List.mem_of_getElem? (i := 48) rfl)) rfl
theorem t3_49 : Cond.code ⟨"LightingDesk$PaletteBox", "levelOf", "(II)I"⟩ prog_4_method_3_code 3 (some .int) ∈ uWS := uWS_mem (tm3 (List.mem_of_getElem? (i := 49) rfl)) rfl
theorem t3_50 : Cond.methodLink "LightingDeskLaw" 112 ⟨"LightingDeskLaw", "source", "(LLightingDesk;III[J)I"⟩ ∈ uWS := uWS_mem (tm3 (List.mem_of_getElem? (i := 50) rfl)) rfl
theorem t3_51 : Cond.static ⟨"LightingDeskLaw", "source", "(LLightingDesk;III[J)I"⟩ ∈ uWS := uWS_mem (tm3 (List.mem_of_getElem? (i := 51) rfl)) rfl
theorem t3_52 : Cond.codeWith ⟨"LightingDeskLaw", "source", "(LLightingDesk;III[J)I"⟩ method_8_code 6 (some .int) [(0, 12, 15, 21), (0, 12, 19, 33)] ∈ uWS := uWS_mem (tm3 (List.mem_of_getElem? (i := 52) rfl)) rfl
theorem t3_53 : Cond.methodLink "LightingDeskLaw" 35 ⟨"LightingDesk", "source", "(III)I"⟩ ∈ uWS := uWS_mem (tm3 (List.mem_of_getElem? (i := 53) rfl)) rfl
theorem t3_54 : Cond.instanceMethod ⟨"LightingDesk", "source", "(III)I"⟩ ∈ uWS := uWS_mem (tm3 (List.mem_of_getElem? (i := 54) rfl)) rfl
theorem t3_55 : Cond.selects "LightingDesk" ⟨"LightingDesk", "source", "(III)I"⟩ ⟨"LightingDesk", "source", "(III)I"⟩ ∈ uWS := uWS_mem (tm3 (List.mem_of_getElem? (i := 55) rfl)) rfl
theorem t3_56 : Cond.code ⟨"LightingDesk", "source", "(III)I"⟩ prog_1_method_14_code 6 (some .int) ∈ uWS := uWS_mem (tm3 (List.mem_of_getElem? (i := 56) rfl)) rfl
theorem t3_57 : Cond.methodLink "LightingDesk" 154 ⟨"LightingDesk$CueBook", "sourceOf", "(II)I"⟩ ∈ uWS := uWS_mem (tm3 (List.mem_of_getElem? (i := 57) rfl)) rfl
theorem t3_58 : Cond.methodLink "LightingDeskLaw" 115 ⟨"LightingDeskLaw", "cue", "(LLightingDesk;III[J)I"⟩ ∈ uWS := uWS_mem (tm3 (List.mem_of_getElem? (i := 58) rfl)) rfl
theorem t3_59 : Cond.static ⟨"LightingDeskLaw", "cue", "(LLightingDesk;III[J)I"⟩ ∈ uWS := uWS_mem (tm3 (List.mem_of_getElem? (i := 59) rfl)) rfl
theorem t3_60 : Cond.codeWith ⟨"LightingDeskLaw", "cue", "(LLightingDesk;III[J)I"⟩ method_9_code 6 (some .int) [(0, 12, 15, 33)] ∈ uWS := uWS_mem (tm3 (List.mem_of_getElem? (i := 60) rfl)) rfl
theorem t3_61 : Cond.methodLink "LightingDeskLaw" 38 ⟨"LightingDesk", "cue", "(III)I"⟩ ∈ uWS := uWS_mem (tm3 (List.mem_of_getElem? (i := 61) rfl)) rfl
theorem t3_62 : Cond.instanceMethod ⟨"LightingDesk", "cue", "(III)I"⟩ ∈ uWS := uWS_mem (tm3 (List.mem_of_getElem? (i := 62) rfl)) rfl
theorem t3_63 : Cond.selects "LightingDesk" ⟨"LightingDesk", "cue", "(III)I"⟩ ⟨"LightingDesk", "cue", "(III)I"⟩ ∈ uWS := uWS_mem (tm3 (List.mem_of_getElem? (i := 63) rfl)) rfl
theorem t3_64 : Cond.code ⟨"LightingDesk", "cue", "(III)I"⟩ prog_1_method_15_code 5 (some .int) ∈ uWS := uWS_mem (tm3 (List.mem_of_getElem? (i := 64) rfl)) rfl
theorem t3_66 : Cond.methodLink "LightingDesk" 162 ⟨"LightingDesk$CueBook", "lengthOf", "(I)I"⟩ ∈ uWS := uWS_mem (tm3 (List.mem_of_getElem? (i := 66) rfl)) rfl
theorem t3_67 : Cond.instanceMethod ⟨"LightingDesk$CueBook", "lengthOf", "(I)I"⟩ ∈ uWS := uWS_mem (tm3 (List.mem_of_getElem? (i := 67) rfl)) rfl
theorem t3_68 : Cond.selects "LightingDesk$CueBook" ⟨"LightingDesk$CueBook", "lengthOf", "(I)I"⟩ ⟨"LightingDesk$CueBook", "lengthOf", "(I)I"⟩ ∈ uWS := uWS_mem (tm3 (List.mem_of_getElem? (i := 68) rfl)) rfl
theorem t3_69 : Cond.code ⟨"LightingDesk$CueBook", "lengthOf", "(I)I"⟩ prog_3_method_5_code 2 (some .int) ∈ uWS := uWS_mem (tm3 (List.mem_of_getElem? (i := 69) rfl)) rfl
theorem t3_70 : Cond.methodLink "LightingDesk$CueBook" 35 ⟨"LightingDesk$CueBook", "firstOf", "(I)I"⟩ ∈ uWS := uWS_mem (tm3 (List.mem_of_getElem? (i := 70) rfl)) rfl
theorem t3_71 : Cond.instanceMethod ⟨"LightingDesk$CueBook", "firstOf", "(I)I"⟩ ∈ uWS := uWS_mem (tm3 (List.mem_of_getElem? (i := 71) rfl)) rfl
theorem t3_72 : Cond.selects "LightingDesk$CueBook" ⟨"LightingDesk$CueBook", "firstOf", "(I)I"⟩ ⟨"LightingDesk$CueBook", "firstOf", "(I)I"⟩ ∈ uWS := uWS_mem (tm3 (List.mem_of_getElem? (i := 72) rfl)) rfl
theorem t3_73 : Cond.code ⟨"LightingDesk$CueBook", "firstOf", "(I)I"⟩ prog_3_method_4_code 2 (some .int) ∈ uWS := uWS_mem (tm3 (List.mem_of_getElem? (i := 73) rfl)) rfl
theorem t3_75 : Cond.methodLink "LightingDesk" 167 ⟨"LightingDesk$CueBook", "firstOf", "(I)I"⟩ ∈ uWS := uWS_mem (tm3 (List.mem_of_getElem? (i := 75) rfl)) rfl
theorem t3_76 : Cond.methodLink "LightingDesk" 170 ⟨"LightingDesk$Cue", "detail", "(I)I"⟩ ∈ uWS := uWS_mem (tm3 (List.mem_of_getElem? (i := 76) rfl)) rfl
theorem t3_77 : Cond.instanceMethod ⟨"LightingDesk$Cue", "detail", "(I)I"⟩ ∈ uWS := uWS_mem (tm3 (List.mem_of_getElem? (i := 77) rfl)) rfl
theorem t3_78 : Cond.selects "LightingDesk$Cue" ⟨"LightingDesk$Cue", "detail", "(I)I"⟩ ⟨"LightingDesk$Cue", "detail", "(I)I"⟩ ∈ uWS := uWS_mem (tm3 (List.mem_of_getElem? (i := 78) rfl)) rfl
theorem t3_79 : Cond.code ⟨"LightingDesk$Cue", "detail", "(I)I"⟩ prog_2_method_4_code 2 (some .int) ∈ uWS := uWS_mem (tm3 (List.mem_of_getElem? (i := 79) rfl)) rfl
theorem t3_80 : Cond.methodLink "LightingDeskLaw" 122 ⟨"LightingDeskLaw", "go", "(LLightingDesk;IZI[J)I"⟩ ∈ uWS := uWS_mem (tm3 (List.mem_of_getElem? (i := 80) rfl)) rfl
theorem t3_81 : Cond.static ⟨"LightingDeskLaw", "go", "(LLightingDesk;IZI[J)I"⟩ ∈ uWS := uWS_mem (tm3 (List.mem_of_getElem? (i := 81) rfl)) rfl
theorem t3_82 : Cond.codeWith ⟨"LightingDeskLaw", "go", "(LLightingDesk;IZI[J)I"⟩ method_10_code 6 (some .int) [(0, 12, 15, 13), (0, 12, 19, 21)] ∈ uWS := uWS_mem (tm3 (List.mem_of_getElem? (i := 82) rfl)) rfl
theorem t3_83 : Cond.methodLink "LightingDeskLaw" 41 ⟨"LightingDesk", "go", "(IZI)I"⟩ ∈ uWS := uWS_mem (tm3 (List.mem_of_getElem? (i := 83) rfl)) rfl
theorem t3_84 : Cond.instanceMethod ⟨"LightingDesk", "go", "(IZI)I"⟩ ∈ uWS := uWS_mem (tm3 (List.mem_of_getElem? (i := 84) rfl)) rfl
theorem t3_85 : Cond.selects "LightingDesk" ⟨"LightingDesk", "go", "(IZI)I"⟩ ⟨"LightingDesk", "go", "(IZI)I"⟩ ∈ uWS := uWS_mem (tm3 (List.mem_of_getElem? (i := 85) rfl)) rfl
theorem t3_86 : Cond.code ⟨"LightingDesk", "go", "(IZI)I"⟩ prog_1_method_17_code 6 (some .int) ∈ uWS := uWS_mem (tm3 (List.mem_of_getElem? (i := 86) rfl)) rfl
theorem t3_87 : Cond.methodLink "LightingDesk" 182 ⟨"LightingDesk", "isTellable", "(I)Z"⟩ ∈ uWS := uWS_mem (tm3 (List.mem_of_getElem? (i := 87) rfl)) rfl
theorem t3_89 : Cond.instanceMethod ⟨"LightingDesk", "isTellable", "(I)Z"⟩ ∈ uWS := uWS_mem (tm3 (List.mem_of_getElem? (i := 89) rfl)) rfl
theorem t3_90 : Cond.code ⟨"LightingDesk", "isTellable", "(I)Z"⟩ prog_1_method_30_code 2 (some .boolean) ∈ uWS := uWS_mem (tm3 (List.mem_of_getElem? (i := 90) rfl)) rfl
theorem t3_91 : Cond.constant "LightingDesk" 241 1000000000 ∈ uWS := uWS_mem (tm3 (List.mem_of_getElem? (i := 91) rfl)) rfl
theorem t3_93 : Cond.methodLink "LightingDesk" 187 ⟨"LightingDesk", "tell", "(I)V"⟩ ∈ uWS := uWS_mem (tm3 (List.mem_of_getElem? (i := 93) rfl)) rfl
theorem t3_95 : Cond.instanceMethod ⟨"LightingDesk", "tell", "(I)V"⟩ ∈ uWS := uWS_mem (tm3 (List.mem_of_getElem? (i := 95) rfl)) rfl
theorem t3_96 : Cond.code ⟨"LightingDesk", "tell", "(I)V"⟩ prog_1_method_31_code 4 (none : Option Jvm.ClassFile.FieldType) ∈ uWS := uWS_mem (tm3 (List.mem_of_getElem? (i := 96) rfl)) rfl
theorem t3_97 : Cond.methodLink "LightingDesk" 242 ⟨"LightingDesk", "earliestDue", "(I)I"⟩ ∈ uWS := uWS_mem (tm3 (List.mem_of_getElem? (i := 97) rfl)) rfl
theorem t3_99 : Cond.instanceMethod ⟨"LightingDesk", "earliestDue", "(I)I"⟩ ∈ uWS := uWS_mem (tm3 (List.mem_of_getElem? (i := 99) rfl)) rfl
theorem t3_100 : Cond.code ⟨"LightingDesk", "earliestDue", "(I)I"⟩ prog_1_method_32_code 6 (some .int) ∈ uWS := uWS_mem (tm3 (List.mem_of_getElem? (i := 100) rfl)) rfl
theorem t3_101 : Cond.methodLink "LightingDesk" 245 ⟨"LightingDesk", "followOn", "(LLightingDesk$Player;)V"⟩ ∈ uWS := uWS_mem (tm3 (List.mem_of_getElem? (i := 101) rfl)) rfl
theorem t3_103 : Cond.instanceMethod ⟨"LightingDesk", "followOn", "(LLightingDesk$Player;)V"⟩ ∈ uWS := uWS_mem (tm3 (List.mem_of_getElem? (i := 103) rfl)) rfl
theorem t3_104 : Cond.code ⟨"LightingDesk", "followOn", "(LLightingDesk$Player;)V"⟩ prog_1_method_33_code 3 (none : Option Jvm.ClassFile.FieldType) ∈ uWS := uWS_mem (tm3 (List.mem_of_getElem? (i := 104) rfl)) rfl
theorem t3_105 : Cond.methodLink "LightingDesk" 196 ⟨"LightingDesk$CueBook", "placeAbove", "(II)I"⟩ ∈ uWS := uWS_mem (tm3 (List.mem_of_getElem? (i := 105) rfl)) rfl
theorem t3_106 : Cond.methodLink "LightingDesk" 204 ⟨"LightingDesk", "startCue", "(LLightingDesk$Player;II)V"⟩ ∈ uWS := uWS_mem (tm3 (List.mem_of_getElem? (i := 106) rfl)) rfl
theorem t3_108 : Cond.instanceMethod ⟨"LightingDesk", "startCue", "(LLightingDesk$Player;II)V"⟩ ∈ uWS := uWS_mem (tm3 (List.mem_of_getElem? (i := 108) rfl)) rfl
theorem t3_109 : Cond.code ⟨"LightingDesk", "startCue", "(LLightingDesk$Player;II)V"⟩ prog_1_method_34_code 7 (none : Option Jvm.ClassFile.FieldType) ∈ uWS := uWS_mem (tm3 (List.mem_of_getElem? (i := 109) rfl)) rfl
theorem t3_110 : Cond.methodLink "LightingDesk" 248 ⟨"LightingDesk$Player", "fade", "(IILLightingDesk$Cue;I)V"⟩ ∈ uWS := uWS_mem (tm3 (List.mem_of_getElem? (i := 110) rfl)) rfl
theorem t3_111 : Cond.instanceMethod ⟨"LightingDesk$Player", "fade", "(IILLightingDesk$Cue;I)V"⟩ ∈ uWS := uWS_mem (tm3 (List.mem_of_getElem? (i := 111) rfl)) rfl
theorem t3_112 : Cond.selects "LightingDesk$Player" ⟨"LightingDesk$Player", "fade", "(IILLightingDesk$Cue;I)V"⟩ ⟨"LightingDesk$Player", "fade", "(IILLightingDesk$Cue;I)V"⟩ ∈ uWS := uWS_mem (tm3 (List.mem_of_getElem? (i := 112) rfl)) rfl
theorem t3_113 : Cond.code ⟨"LightingDesk$Player", "fade", "(IILLightingDesk$Cue;I)V"⟩ prog_5_method_4_code 6 (none : Option Jvm.ClassFile.FieldType) ∈ uWS := uWS_mem (tm3 (List.mem_of_getElem? (i := 113) rfl)) rfl
theorem t3_114 : Cond.methodLink "LightingDesk$Player" 49 ⟨"LightingDesk$Player", "levelAt", "(II)I"⟩ ∈ uWS := uWS_mem (tm3 (List.mem_of_getElem? (i := 114) rfl)) rfl
theorem t3_115 : Cond.instanceMethod ⟨"LightingDesk$Player", "levelAt", "(II)I"⟩ ∈ uWS := uWS_mem (tm3 (List.mem_of_getElem? (i := 115) rfl)) rfl
theorem t3_116 : Cond.selects "LightingDesk$Player" ⟨"LightingDesk$Player", "levelAt", "(II)I"⟩ ⟨"LightingDesk$Player", "levelAt", "(II)I"⟩ ∈ uWS := uWS_mem (tm3 (List.mem_of_getElem? (i := 116) rfl)) rfl
theorem t3_117 : Cond.code ⟨"LightingDesk$Player", "levelAt", "(II)I"⟩ prog_5_method_3_code 5 (some .int) ∈ uWS := uWS_mem (tm3 (List.mem_of_getElem? (i := 117) rfl)) rfl
theorem t3_118 : Cond.methodLink "LightingDesk" 193 ⟨"LightingDesk$CueBook", "placeBelow", "(II)I"⟩ ∈ uWS := uWS_mem (tm3 (List.mem_of_getElem? (i := 118) rfl)) rfl
theorem t3_120 : Cond.methodLink "LightingDeskLaw" 130 ⟨"LightingDeskLaw", "out", "(LLightingDesk;II[J)I"⟩ ∈ uWS := uWS_mem (tm3 (List.mem_of_getElem? (i := 120) rfl)) rfl
theorem t3_121 : Cond.static ⟨"LightingDeskLaw", "out", "(LLightingDesk;II[J)I"⟩ ∈ uWS := uWS_mem (tm3 (List.mem_of_getElem? (i := 121) rfl)) rfl
theorem t3_122 : Cond.codeWith ⟨"LightingDeskLaw", "out", "(LLightingDesk;II[J)I"⟩ method_11_code 5 (some .int) [(0, 10, 13, 13)] ∈ uWS := uWS_mem (tm3 (List.mem_of_getElem? (i := 122) rfl)) rfl
theorem t3_123 : Cond.methodLink "LightingDeskLaw" 45 ⟨"LightingDesk", "out", "(II)I"⟩ ∈ uWS := uWS_mem (tm3 (List.mem_of_getElem? (i := 123) rfl)) rfl
theorem t3_124 : Cond.instanceMethod ⟨"LightingDesk", "out", "(II)I"⟩ ∈ uWS := uWS_mem (tm3 (List.mem_of_getElem? (i := 124) rfl)) rfl
theorem t3_125 : Cond.selects "LightingDesk" ⟨"LightingDesk", "out", "(II)I"⟩ ⟨"LightingDesk", "out", "(II)I"⟩ ∈ uWS := uWS_mem (tm3 (List.mem_of_getElem? (i := 125) rfl)) rfl
theorem t3_126 : Cond.code ⟨"LightingDesk", "out", "(II)I"⟩ prog_1_method_19_code 4 (some .int) ∈ uWS := uWS_mem (tm3 (List.mem_of_getElem? (i := 126) rfl)) rfl
theorem t3_128 : Cond.methodLink "LightingDesk" 213 ⟨"LightingDesk$ValueRow", "valueAt", "(I)I"⟩ ∈ uWS := uWS_mem (tm3 (List.mem_of_getElem? (i := 128) rfl)) rfl
theorem t3_129 : Cond.methodLink "LightingDesk" 216 ⟨"LightingDesk", "latestLevel", "(I)I"⟩ ∈ uWS := uWS_mem (tm3 (List.mem_of_getElem? (i := 129) rfl)) rfl
theorem t3_131 : Cond.instanceMethod ⟨"LightingDesk", "latestLevel", "(I)I"⟩ ∈ uWS := uWS_mem (tm3 (List.mem_of_getElem? (i := 131) rfl)) rfl
theorem t3_132 : Cond.code ⟨"LightingDesk", "latestLevel", "(I)I"⟩ prog_1_method_36_code 6 (some .int) ∈ uWS := uWS_mem (tm3 (List.mem_of_getElem? (i := 132) rfl)) rfl
theorem t3_133 : Cond.methodLink "LightingDesk" 257 ⟨"LightingDesk$Player", "lookTick", "(I)I"⟩ ∈ uWS := uWS_mem (tm3 (List.mem_of_getElem? (i := 133) rfl)) rfl
theorem t3_134 : Cond.instanceMethod ⟨"LightingDesk$Player", "lookTick", "(I)I"⟩ ∈ uWS := uWS_mem (tm3 (List.mem_of_getElem? (i := 134) rfl)) rfl
theorem t3_135 : Cond.selects "LightingDesk$Player" ⟨"LightingDesk$Player", "lookTick", "(I)I"⟩ ⟨"LightingDesk$Player", "lookTick", "(I)I"⟩ ∈ uWS := uWS_mem (tm3 (List.mem_of_getElem? (i := 135) rfl)) rfl
theorem t3_136 : Cond.code ⟨"LightingDesk$Player", "lookTick", "(I)I"⟩ prog_5_method_2_code 2 (some .int) ∈ uWS := uWS_mem (tm3 (List.mem_of_getElem? (i := 136) rfl)) rfl
theorem t3_137 : Cond.methodLink "LightingDesk" 229 ⟨"LightingDesk$Player", "levelAt", "(II)I"⟩ ∈ uWS := uWS_mem (tm3 (List.mem_of_getElem? (i := 137) rfl)) rfl
theorem t3_138 : Cond.methodLink "LightingDesk" 219 ⟨"LightingDesk", "greatestLevel", "(I)I"⟩ ∈ uWS := uWS_mem (tm3 (List.mem_of_getElem? (i := 138) rfl)) rfl
theorem t3_140 : Cond.instanceMethod ⟨"LightingDesk", "greatestLevel", "(I)I"⟩ ∈ uWS := uWS_mem (tm3 (List.mem_of_getElem? (i := 140) rfl)) rfl
theorem t3_141 : Cond.code ⟨"LightingDesk", "greatestLevel", "(I)I"⟩ prog_1_method_35_code 5 (some .int) ∈ uWS := uWS_mem (tm3 (List.mem_of_getElem? (i := 141) rfl)) rfl
theorem t3_142 : Cond.methodLink "LightingDesk" 252 ⟨"java/lang/Math", "max", "(II)I"⟩ ∈ uWS := uWS_mem (tm3 (List.mem_of_getElem? (i := 142) rfl)) rfl
theorem t3_143 : Cond.static ⟨"java/lang/Math", "max", "(II)I"⟩ ∈ uWS := uWS_mem (tm3 (List.mem_of_getElem? (i := 143) rfl)) rfl
theorem t3_144 : Cond.code ⟨"java/lang/Math", "max", "(II)I"⟩ prog_14_method_65_code 2 (some .int) ∈ uWS := uWS_mem (tm3 (List.mem_of_getElem? (i := 144) rfl)) rfl
theorem t3_145 : Cond.methodLink "LightingDeskLaw" 133 ⟨"LightingDeskLaw", "playback", "(LLightingDesk;II[J)I"⟩ ∈ uWS := uWS_mem (tm3 (List.mem_of_getElem? (i := 145) rfl)) rfl
theorem t3_146 : Cond.static ⟨"LightingDeskLaw", "playback", "(LLightingDesk;II[J)I"⟩ ∈ uWS := uWS_mem (tm3 (List.mem_of_getElem? (i := 146) rfl)) rfl
theorem t3_147 : Cond.codeWith ⟨"LightingDeskLaw", "playback", "(LLightingDesk;II[J)I"⟩ method_12_code 5 (some .int) [(0, 10, 13, 33)] ∈ uWS := uWS_mem (tm3 (List.mem_of_getElem? (i := 147) rfl)) rfl
theorem t3_148 : Cond.methodLink "LightingDeskLaw" 48 ⟨"LightingDesk", "playback", "(II)I"⟩ ∈ uWS := uWS_mem (tm3 (List.mem_of_getElem? (i := 148) rfl)) rfl
theorem t3_149 : Cond.instanceMethod ⟨"LightingDesk", "playback", "(II)I"⟩ ∈ uWS := uWS_mem (tm3 (List.mem_of_getElem? (i := 149) rfl)) rfl
theorem t3_150 : Cond.selects "LightingDesk" ⟨"LightingDesk", "playback", "(II)I"⟩ ⟨"LightingDesk", "playback", "(II)I"⟩ ∈ uWS := uWS_mem (tm3 (List.mem_of_getElem? (i := 150) rfl)) rfl
theorem t3_151 : Cond.code ⟨"LightingDesk", "playback", "(II)I"⟩ prog_1_method_20_code 4 (some .int) ∈ uWS := uWS_mem (tm3 (List.mem_of_getElem? (i := 151) rfl)) rfl
theorem t3_154 : Cond.classLink "LightingDeskLaw" 52 "LightingDeskModel" ∈ uWS := uWS_mem (tm3 (List.mem_of_getElem? (i := 154) rfl)) rfl
theorem t3_155 : Cond.instantiable "LightingDeskModel" 24 ∈ uWS := uWS_mem (tm3 (List.mem_of_getElem? (i := 155) rfl)) rfl
theorem t3_156 : Cond.methodLink "LightingDeskLaw" 54 ⟨"LightingDeskModel", "<init>", "()V"⟩ ∈ uWS := uWS_mem (tm3 (List.mem_of_getElem? (i := 156) rfl)) rfl
theorem t3_157 : Cond.instanceMethod ⟨"LightingDeskModel", "<init>", "()V"⟩ ∈ uWS := uWS_mem (tm3 (List.mem_of_getElem? (i := 157) rfl)) rfl
theorem t3_158 : Cond.code ⟨"LightingDeskModel", "<init>", "()V"⟩ prog_8_method_1_code 2 (none : Option Jvm.ClassFile.FieldType) ∈ uWS := uWS_mem (tm3 (List.mem_of_getElem? (i := 158) rfl)) rfl
theorem t3_159 : Cond.methodLink "LightingDeskModel" 1 ⟨"java/lang/Object", "<init>", "()V"⟩ ∈ uWS := uWS_mem (tm3 (List.mem_of_getElem? (i := 159) rfl)) rfl
theorem t3_160 : Cond.fieldLink "LightingDeskModel" 75 "LightingDeskModel" "thrown" "I" ∈ uWS := uWS_mem (tm3 (List.mem_of_getElem? (i := 160) rfl)) rfl
theorem t3_161 : Cond.fieldLink "LightingDeskModel" 7 "LightingDeskModel" "attribute" "[Z" ∈ uWS := uWS_mem (tm3 (List.mem_of_getElem? (i := 161) rfl)) rfl
theorem t3_162 : Cond.fieldLink "LightingDeskModel" 13 "LightingDeskModel" "programmer" "[S" ∈ uWS := uWS_mem (tm3 (List.mem_of_getElem? (i := 162) rfl)) rfl
theorem t3_163 : Cond.fieldLink "LightingDeskModel" 17 "LightingDeskModel" "palettes" "[S" ∈ uWS := uWS_mem (tm3 (List.mem_of_getElem? (i := 163) rfl)) rfl
theorem t3_164 : Cond.fieldLink "LightingDeskModel" 20 "LightingDeskModel" "lists" "[I" ∈ uWS := uWS_mem (tm3 (List.mem_of_getElem? (i := 164) rfl)) rfl
theorem t3_165 : Cond.fieldLink "LightingDeskModel" 24 "LightingDeskModel" "numbers" "[I" ∈ uWS := uWS_mem (tm3 (List.mem_of_getElem? (i := 165) rfl)) rfl
theorem t3_166 : Cond.fieldLink "LightingDeskModel" 27 "LightingDeskModel" "ups" "[I" ∈ uWS := uWS_mem (tm3 (List.mem_of_getElem? (i := 166) rfl)) rfl
theorem t3_167 : Cond.fieldLink "LightingDeskModel" 30 "LightingDeskModel" "downs" "[I" ∈ uWS := uWS_mem (tm3 (List.mem_of_getElem? (i := 167) rfl)) rfl
theorem t3_168 : Cond.fieldLink "LightingDeskModel" 33 "LightingDeskModel" "waits" "[I" ∈ uWS := uWS_mem (tm3 (List.mem_of_getElem? (i := 168) rfl)) rfl
theorem t3_169 : Cond.fieldLink "LightingDeskModel" 36 "LightingDeskModel" "follows" "[I" ∈ uWS := uWS_mem (tm3 (List.mem_of_getElem? (i := 169) rfl)) rfl
theorem t3_170 : Cond.fieldLink "LightingDeskModel" 39 "LightingDeskModel" "moves" "[S" ∈ uWS := uWS_mem (tm3 (List.mem_of_getElem? (i := 170) rfl)) rfl
theorem t3_171 : Cond.fieldLink "LightingDeskModel" 42 "LightingDeskModel" "kept" "[S" ∈ uWS := uWS_mem (tm3 (List.mem_of_getElem? (i := 171) rfl)) rfl
theorem t3_172 : Cond.fieldLink "LightingDeskModel" 45 "LightingDeskModel" "told" "[I" ∈ uWS := uWS_mem (tm3 (List.mem_of_getElem? (i := 172) rfl)) rfl
theorem t3_173 : Cond.fieldLink "LightingDeskModel" 48 "LightingDeskModel" "masters" "[I" ∈ uWS := uWS_mem (tm3 (List.mem_of_getElem? (i := 173) rfl)) rfl
theorem t3_174 : Cond.fieldLink "LightingDeskModel" 51 "LightingDeskModel" "current" "[I" ∈ uWS := uWS_mem (tm3 (List.mem_of_getElem? (i := 174) rfl)) rfl
theorem t3_175 : Cond.fieldLink "LightingDeskModel" 54 "LightingDeskModel" "started" "[I" ∈ uWS := uWS_mem (tm3 (List.mem_of_getElem? (i := 175) rfl)) rfl
theorem t3_176 : Cond.fieldLink "LightingDeskModel" 57 "LightingDeskModel" "followOn" "[I" ∈ uWS := uWS_mem (tm3 (List.mem_of_getElem? (i := 176) rfl)) rfl
theorem t3_177 : Cond.fieldLink "LightingDeskModel" 60 "LightingDeskModel" "from" "[S" ∈ uWS := uWS_mem (tm3 (List.mem_of_getElem? (i := 177) rfl)) rfl
theorem t3_178 : Cond.fieldLink "LightingDeskModel" 63 "LightingDeskModel" "to" "[S" ∈ uWS := uWS_mem (tm3 (List.mem_of_getElem? (i := 178) rfl)) rfl
theorem t3_179 : Cond.fieldLink "LightingDeskModel" 66 "LightingDeskModel" "begins" "[I" ∈ uWS := uWS_mem (tm3 (List.mem_of_getElem? (i := 179) rfl)) rfl
theorem t3_180 : Cond.fieldLink "LightingDeskModel" 69 "LightingDeskModel" "lasts" "[I" ∈ uWS := uWS_mem (tm3 (List.mem_of_getElem? (i := 180) rfl)) rfl
theorem t3_181 : Cond.fieldLink "LightingDeskModel" 72 "LightingDeskModel" "looked" "[I" ∈ uWS := uWS_mem (tm3 (List.mem_of_getElem? (i := 181) rfl)) rfl
theorem t3_182 : Cond.fieldLink "LightingDeskModel" 160 "LightingDeskModel" "now" "I" ∈ uWS := uWS_mem (tm3 (List.mem_of_getElem? (i := 182) rfl)) rfl
theorem t3_183 : Cond.fieldLink "LightingDeskModel" 154 "LightingDeskModel" "starts" "I" ∈ uWS := uWS_mem (tm3 (List.mem_of_getElem? (i := 183) rfl)) rfl
theorem t3_184 : Cond.lays "LightingDeskModel" "LightingDeskModel" "thrown" "I" ∈ uWS := uWS_mem (tm3 (List.mem_of_getElem? (i := 184) rfl)) rfl
theorem t3_186 : Cond.laysFinal "LightingDeskModel" "LightingDeskModel" "attribute" "[Z" ∈ uWS := uWS_mem (tm3 (List.mem_of_getElem? (i := 186) rfl)) rfl
theorem t3_188 : Cond.laysFinal "LightingDeskModel" "LightingDeskModel" "programmer" "[S" ∈ uWS := uWS_mem (tm3 (List.mem_of_getElem? (i := 188) rfl)) rfl
theorem t3_190 : Cond.laysFinal "LightingDeskModel" "LightingDeskModel" "palettes" "[S" ∈ uWS := uWS_mem (tm3 (List.mem_of_getElem? (i := 190) rfl)) rfl
theorem t3_192 : Cond.laysFinal "LightingDeskModel" "LightingDeskModel" "lists" "[I" ∈ uWS := uWS_mem (tm3 (List.mem_of_getElem? (i := 192) rfl)) rfl
theorem t3_194 : Cond.laysFinal "LightingDeskModel" "LightingDeskModel" "numbers" "[I" ∈ uWS := uWS_mem (tm3 (List.mem_of_getElem? (i := 194) rfl)) rfl
theorem t3_196 : Cond.laysFinal "LightingDeskModel" "LightingDeskModel" "ups" "[I" ∈ uWS := uWS_mem (tm3 (List.mem_of_getElem? (i := 196) rfl)) rfl
theorem t3_198 : Cond.laysFinal "LightingDeskModel" "LightingDeskModel" "downs" "[I" ∈ uWS := uWS_mem (tm3 (List.mem_of_getElem? (i := 198) rfl)) rfl
theorem t3_200 : Cond.laysFinal "LightingDeskModel" "LightingDeskModel" "waits" "[I" ∈ uWS := uWS_mem (tm3 (List.mem_of_getElem? (i := 200) rfl)) rfl
theorem t3_202 : Cond.laysFinal "LightingDeskModel" "LightingDeskModel" "follows" "[I" ∈ uWS := uWS_mem (tm3 (List.mem_of_getElem? (i := 202) rfl)) rfl
theorem t3_204 : Cond.laysFinal "LightingDeskModel" "LightingDeskModel" "moves" "[S" ∈ uWS := uWS_mem (tm3 (List.mem_of_getElem? (i := 204) rfl)) rfl
theorem t3_206 : Cond.laysFinal "LightingDeskModel" "LightingDeskModel" "kept" "[S" ∈ uWS := uWS_mem (tm3 (List.mem_of_getElem? (i := 206) rfl)) rfl
theorem t3_208 : Cond.laysFinal "LightingDeskModel" "LightingDeskModel" "told" "[I" ∈ uWS := uWS_mem (tm3 (List.mem_of_getElem? (i := 208) rfl)) rfl
theorem t3_210 : Cond.laysFinal "LightingDeskModel" "LightingDeskModel" "masters" "[I" ∈ uWS := uWS_mem (tm3 (List.mem_of_getElem? (i := 210) rfl)) rfl
theorem t3_212 : Cond.laysFinal "LightingDeskModel" "LightingDeskModel" "current" "[I" ∈ uWS := uWS_mem (tm3 (List.mem_of_getElem? (i := 212) rfl)) rfl
theorem t3_214 : Cond.laysFinal "LightingDeskModel" "LightingDeskModel" "started" "[I" ∈ uWS := uWS_mem (tm3 (List.mem_of_getElem? (i := 214) rfl)) rfl
theorem t3_216 : Cond.laysFinal "LightingDeskModel" "LightingDeskModel" "followOn" "[I" ∈ uWS := uWS_mem (tm3 (List.mem_of_getElem? (i := 216) rfl)) rfl
theorem t3_218 : Cond.laysFinal "LightingDeskModel" "LightingDeskModel" "from" "[S" ∈ uWS := uWS_mem (tm3 (List.mem_of_getElem? (i := 218) rfl)) rfl
theorem t3_220 : Cond.laysFinal "LightingDeskModel" "LightingDeskModel" "to" "[S" ∈ uWS := uWS_mem (tm3 (List.mem_of_getElem? (i := 220) rfl)) rfl
theorem t3_222 : Cond.laysFinal "LightingDeskModel" "LightingDeskModel" "begins" "[I" ∈ uWS := uWS_mem (tm3 (List.mem_of_getElem? (i := 222) rfl)) rfl
theorem t3_224 : Cond.laysFinal "LightingDeskModel" "LightingDeskModel" "lasts" "[I" ∈ uWS := uWS_mem (tm3 (List.mem_of_getElem? (i := 224) rfl)) rfl
theorem t3_226 : Cond.laysFinal "LightingDeskModel" "LightingDeskModel" "looked" "[I" ∈ uWS := uWS_mem (tm3 (List.mem_of_getElem? (i := 226) rfl)) rfl
theorem t3_228 : Cond.lays "LightingDeskModel" "LightingDeskModel" "now" "I" ∈ uWS := uWS_mem (tm3 (List.mem_of_getElem? (i := 228) rfl)) rfl
theorem t3_230 : Cond.lays "LightingDeskModel" "LightingDeskModel" "starts" "I" ∈ uWS := uWS_mem (tm3 (List.mem_of_getElem? (i := 230) rfl)) rfl
theorem t3_232 : Cond.superclass "LightingDeskModel" "java/lang/Object" ∈ uWS := uWS_mem (tm3 (List.mem_of_getElem? (i := 232) rfl)) rfl
theorem t3_233 : Cond.arrayClass .short ∈ uWS := uWS_mem (tm3 (List.mem_of_getElem? (i := 233) rfl)) rfl
theorem t3_234 : Cond.methodLink "LightingDeskLaw" 85 ⟨"LightingDeskModel", "thrown", "()I"⟩ ∈ uWS := uWS_mem (tm3 (List.mem_of_getElem? (i := 234) rfl)) rfl
theorem t3_235 : Cond.instanceMethod ⟨"LightingDeskModel", "thrown", "()I"⟩ ∈ uWS := uWS_mem (tm3 (List.mem_of_getElem? (i := 235) rfl)) rfl
theorem t3_236 : Cond.selects "LightingDeskModel" ⟨"LightingDeskModel", "thrown", "()I"⟩ ⟨"LightingDeskModel", "thrown", "()I"⟩ ∈ uWS := uWS_mem (tm3 (List.mem_of_getElem? (i := 236) rfl)) rfl
theorem t3_237 : Cond.code ⟨"LightingDeskModel", "thrown", "()I"⟩ prog_8_method_2_code 1 (some .int) ∈ uWS := uWS_mem (tm3 (List.mem_of_getElem? (i := 237) rfl)) rfl
theorem t3_238 : Cond.methodLink "LightingDeskLaw" 59 ⟨"LightingDeskModel", "kind", "(IZ)Z"⟩ ∈ uWS := uWS_mem (tm3 (List.mem_of_getElem? (i := 238) rfl)) rfl
theorem t3_239 : Cond.instanceMethod ⟨"LightingDeskModel", "kind", "(IZ)Z"⟩ ∈ uWS := uWS_mem (tm3 (List.mem_of_getElem? (i := 239) rfl)) rfl
theorem t4_0 : Cond.selects "LightingDeskModel" ⟨"LightingDeskModel", "kind", "(IZ)Z"⟩ ⟨"LightingDeskModel", "kind", "(IZ)Z"⟩ ∈ uWS := uWS_mem (tm4 (List.mem_of_getElem? (i := 0) rfl)) rfl
theorem t4_1 : Cond.code ⟨"LightingDeskModel", "kind", "(IZ)Z"⟩ prog_8_method_7_code 3 (some .boolean) ∈ uWS := uWS_mem (tm4 (List.mem_of_getElem? (i := 1) rfl)) rfl
theorem t4_2 : Cond.methodLink "LightingDeskModel" 79 ⟨"LightingDeskModel", "isChannel", "(I)Z"⟩ ∈ uWS := uWS_mem (tm4 (List.mem_of_getElem? (i := 2) rfl)) rfl
theorem t4_3 : Cond.static ⟨"LightingDeskModel", "isChannel", "(I)Z"⟩ ∈ uWS := uWS_mem (tm4 (List.mem_of_getElem? (i := 3) rfl)) rfl
theorem t4_4 : Cond.code ⟨"LightingDeskModel", "isChannel", "(I)Z"⟩ prog_8_method_3_code 1 (some .boolean) ∈ uWS := uWS_mem (tm4 (List.mem_of_getElem? (i := 4) rfl)) rfl
theorem t4_5 : Cond.methodLink "LightingDeskLaw" 64 ⟨"LightingDeskModel", "set", "(II)Z"⟩ ∈ uWS := uWS_mem (tm4 (List.mem_of_getElem? (i := 5) rfl)) rfl
theorem t4_6 : Cond.instanceMethod ⟨"LightingDeskModel", "set", "(II)Z"⟩ ∈ uWS := uWS_mem (tm4 (List.mem_of_getElem? (i := 6) rfl)) rfl
theorem t4_7 : Cond.selects "LightingDeskModel" ⟨"LightingDeskModel", "set", "(II)Z"⟩ ⟨"LightingDeskModel", "set", "(II)Z"⟩ ∈ uWS := uWS_mem (tm4 (List.mem_of_getElem? (i := 7) rfl)) rfl
theorem t4_8 : Cond.code ⟨"LightingDeskModel", "set", "(II)Z"⟩ prog_8_method_8_code 3 (some .boolean) ∈ uWS := uWS_mem (tm4 (List.mem_of_getElem? (i := 8) rfl)) rfl
theorem t4_9 : Cond.methodLink "LightingDeskModel" 83 ⟨"LightingDeskModel", "isLevel", "(I)Z"⟩ ∈ uWS := uWS_mem (tm4 (List.mem_of_getElem? (i := 9) rfl)) rfl
theorem t4_10 : Cond.static ⟨"LightingDeskModel", "isLevel", "(I)Z"⟩ ∈ uWS := uWS_mem (tm4 (List.mem_of_getElem? (i := 10) rfl)) rfl
theorem t4_11 : Cond.code ⟨"LightingDeskModel", "isLevel", "(I)Z"⟩ prog_8_method_4_code 1 (some .boolean) ∈ uWS := uWS_mem (tm4 (List.mem_of_getElem? (i := 11) rfl)) rfl
theorem t4_12 : Cond.methodLink "LightingDeskLaw" 68 ⟨"LightingDeskModel", "use", "(II)Z"⟩ ∈ uWS := uWS_mem (tm4 (List.mem_of_getElem? (i := 12) rfl)) rfl
theorem t4_13 : Cond.instanceMethod ⟨"LightingDeskModel", "use", "(II)Z"⟩ ∈ uWS := uWS_mem (tm4 (List.mem_of_getElem? (i := 13) rfl)) rfl
theorem t4_14 : Cond.selects "LightingDeskModel" ⟨"LightingDeskModel", "use", "(II)Z"⟩ ⟨"LightingDeskModel", "use", "(II)Z"⟩ ∈ uWS := uWS_mem (tm4 (List.mem_of_getElem? (i := 14) rfl)) rfl
theorem t4_15 : Cond.code ⟨"LightingDeskModel", "use", "(II)Z"⟩ prog_8_method_9_code 3 (some .boolean) ∈ uWS := uWS_mem (tm4 (List.mem_of_getElem? (i := 15) rfl)) rfl
theorem t4_16 : Cond.methodLink "LightingDeskLaw" 73 ⟨"LightingDeskModel", "release", "(I)I"⟩ ∈ uWS := uWS_mem (tm4 (List.mem_of_getElem? (i := 16) rfl)) rfl
theorem t4_17 : Cond.instanceMethod ⟨"LightingDeskModel", "release", "(I)I"⟩ ∈ uWS := uWS_mem (tm4 (List.mem_of_getElem? (i := 17) rfl)) rfl
theorem t4_18 : Cond.selects "LightingDeskModel" ⟨"LightingDeskModel", "release", "(I)I"⟩ ⟨"LightingDeskModel", "release", "(I)I"⟩ ∈ uWS := uWS_mem (tm4 (List.mem_of_getElem? (i := 18) rfl)) rfl
theorem t4_19 : Cond.code ⟨"LightingDeskModel", "release", "(I)I"⟩ prog_8_method_10_code 4 (some .int) ∈ uWS := uWS_mem (tm4 (List.mem_of_getElem? (i := 19) rfl)) rfl
theorem t4_20 : Cond.methodLink "LightingDeskLaw" 78 ⟨"LightingDeskModel", "palette", "(III)Z"⟩ ∈ uWS := uWS_mem (tm4 (List.mem_of_getElem? (i := 20) rfl)) rfl
theorem t4_21 : Cond.instanceMethod ⟨"LightingDeskModel", "palette", "(III)Z"⟩ ∈ uWS := uWS_mem (tm4 (List.mem_of_getElem? (i := 21) rfl)) rfl
theorem t4_22 : Cond.selects "LightingDeskModel" ⟨"LightingDeskModel", "palette", "(III)Z"⟩ ⟨"LightingDeskModel", "palette", "(III)Z"⟩ ∈ uWS := uWS_mem (tm4 (List.mem_of_getElem? (i := 22) rfl)) rfl
theorem t4_23 : Cond.code ⟨"LightingDeskModel", "palette", "(III)Z"⟩ prog_8_method_11_code 4 (some .boolean) ∈ uWS := uWS_mem (tm4 (List.mem_of_getElem? (i := 23) rfl)) rfl
theorem t4_24 : Cond.methodLink "LightingDeskLaw" 84 ⟨"LightingDeskModel", "record", "(IIZ)I"⟩ ∈ uWS := uWS_mem (tm4 (List.mem_of_getElem? (i := 24) rfl)) rfl
theorem t4_25 : Cond.instanceMethod ⟨"LightingDeskModel", "record", "(IIZ)I"⟩ ∈ uWS := uWS_mem (tm4 (List.mem_of_getElem? (i := 25) rfl)) rfl
theorem t4_26 : Cond.selects "LightingDeskModel" ⟨"LightingDeskModel", "record", "(IIZ)I"⟩ ⟨"LightingDeskModel", "record", "(IIZ)I"⟩ ∈ uWS := uWS_mem (tm4 (List.mem_of_getElem? (i := 26) rfl)) rfl
theorem t4_27 : Cond.code ⟨"LightingDeskModel", "record", "(IIZ)I"⟩ prog_8_method_27_code 8 (some .int) ∈ uWS := uWS_mem (tm4 (List.mem_of_getElem? (i := 27) rfl)) rfl
theorem t4_28 : Cond.methodLink "LightingDeskModel" 108 ⟨"LightingDeskModel", "find", "(II)I"⟩ ∈ uWS := uWS_mem (tm4 (List.mem_of_getElem? (i := 28) rfl)) rfl
theorem t4_30 : Cond.instanceMethod ⟨"LightingDeskModel", "find", "(II)I"⟩ ∈ uWS := uWS_mem (tm4 (List.mem_of_getElem? (i := 30) rfl)) rfl
theorem t4_31 : Cond.code ⟨"LightingDeskModel", "find", "(II)I"⟩ prog_8_method_13_code 5 (some .int) ∈ uWS := uWS_mem (tm4 (List.mem_of_getElem? (i := 31) rfl)) rfl
theorem t4_32 : Cond.methodLink "LightingDeskModel" 111 ⟨"LightingDeskModel", "above", "(II)I"⟩ ∈ uWS := uWS_mem (tm4 (List.mem_of_getElem? (i := 32) rfl)) rfl
theorem t4_34 : Cond.instanceMethod ⟨"LightingDeskModel", "above", "(II)I"⟩ ∈ uWS := uWS_mem (tm4 (List.mem_of_getElem? (i := 34) rfl)) rfl
theorem t4_35 : Cond.code ⟨"LightingDeskModel", "above", "(II)I"⟩ prog_8_method_14_code 5 (some .int) ∈ uWS := uWS_mem (tm4 (List.mem_of_getElem? (i := 35) rfl)) rfl
theorem t4_36 : Cond.methodLink "LightingDeskModel" 90 ⟨"LightingDeskModel", "moveOf", "(II)I"⟩ ∈ uWS := uWS_mem (tm4 (List.mem_of_getElem? (i := 36) rfl)) rfl
theorem t4_38 : Cond.instanceMethod ⟨"LightingDeskModel", "moveOf", "(II)I"⟩ ∈ uWS := uWS_mem (tm4 (List.mem_of_getElem? (i := 38) rfl)) rfl
theorem t4_39 : Cond.code ⟨"LightingDeskModel", "moveOf", "(II)I"⟩ prog_8_method_16_code 3 (some .int) ∈ uWS := uWS_mem (tm4 (List.mem_of_getElem? (i := 39) rfl)) rfl
theorem t4_40 : Cond.methodLink "LightingDeskModel" 114 ⟨"LightingDeskModel", "cueCount", "()I"⟩ ∈ uWS := uWS_mem (tm4 (List.mem_of_getElem? (i := 40) rfl)) rfl
theorem t4_42 : Cond.instanceMethod ⟨"LightingDeskModel", "cueCount", "()I"⟩ ∈ uWS := uWS_mem (tm4 (List.mem_of_getElem? (i := 42) rfl)) rfl
theorem t4_43 : Cond.code ⟨"LightingDeskModel", "cueCount", "()I"⟩ prog_8_method_20_code 3 (some .int) ∈ uWS := uWS_mem (tm4 (List.mem_of_getElem? (i := 43) rfl)) rfl
theorem t4_44 : Cond.methodLink "LightingDeskModel" 118 ⟨"LightingDeskModel", "moveCount", "()I"⟩ ∈ uWS := uWS_mem (tm4 (List.mem_of_getElem? (i := 44) rfl)) rfl
theorem t4_46 : Cond.instanceMethod ⟨"LightingDeskModel", "moveCount", "()I"⟩ ∈ uWS := uWS_mem (tm4 (List.mem_of_getElem? (i := 46) rfl)) rfl
theorem t4_47 : Cond.code ⟨"LightingDeskModel", "moveCount", "()I"⟩ prog_8_method_21_code 3 (some .int) ∈ uWS := uWS_mem (tm4 (List.mem_of_getElem? (i := 47) rfl)) rfl
theorem t4_48 : Cond.methodLink "LightingDeskModel" 97 ⟨"LightingDeskModel", "movesOf", "(I)I"⟩ ∈ uWS := uWS_mem (tm4 (List.mem_of_getElem? (i := 48) rfl)) rfl
theorem t4_50 : Cond.instanceMethod ⟨"LightingDeskModel", "movesOf", "(I)I"⟩ ∈ uWS := uWS_mem (tm4 (List.mem_of_getElem? (i := 50) rfl)) rfl
theorem t4_51 : Cond.code ⟨"LightingDeskModel", "movesOf", "(I)I"⟩ prog_8_method_19_code 4 (some .int) ∈ uWS := uWS_mem (tm4 (List.mem_of_getElem? (i := 51) rfl)) rfl
theorem t4_52 : Cond.methodLink "LightingDeskModel" 121 ⟨"LightingDeskModel", "keptMoves", "(I)I"⟩ ∈ uWS := uWS_mem (tm4 (List.mem_of_getElem? (i := 52) rfl)) rfl
theorem t4_54 : Cond.instanceMethod ⟨"LightingDeskModel", "keptMoves", "(I)I"⟩ ∈ uWS := uWS_mem (tm4 (List.mem_of_getElem? (i := 54) rfl)) rfl
theorem t4_55 : Cond.code ⟨"LightingDeskModel", "keptMoves", "(I)I"⟩ prog_8_method_25_code 4 (some .int) ∈ uWS := uWS_mem (tm4 (List.mem_of_getElem? (i := 55) rfl)) rfl
theorem t4_56 : Cond.methodLink "LightingDeskModel" 124 ⟨"LightingDeskModel", "note", "(I)V"⟩ ∈ uWS := uWS_mem (tm4 (List.mem_of_getElem? (i := 56) rfl)) rfl
theorem t4_58 : Cond.instanceMethod ⟨"LightingDeskModel", "note", "(I)V"⟩ ∈ uWS := uWS_mem (tm4 (List.mem_of_getElem? (i := 58) rfl)) rfl
theorem t4_59 : Cond.code ⟨"LightingDeskModel", "note", "(I)V"⟩ prog_8_method_23_code 3 (none : Option Jvm.ClassFile.FieldType) ∈ uWS := uWS_mem (tm4 (List.mem_of_getElem? (i := 59) rfl)) rfl
theorem t4_60 : Cond.methodLink "LightingDeskModel" 101 ⟨"LightingDeskModel", "tracked", "(III)I"⟩ ∈ uWS := uWS_mem (tm4 (List.mem_of_getElem? (i := 60) rfl)) rfl
theorem t4_62 : Cond.instanceMethod ⟨"LightingDeskModel", "tracked", "(III)I"⟩ ∈ uWS := uWS_mem (tm4 (List.mem_of_getElem? (i := 62) rfl)) rfl
theorem t4_63 : Cond.code ⟨"LightingDeskModel", "tracked", "(III)I"⟩ prog_8_method_18_code 5 (some .int) ∈ uWS := uWS_mem (tm4 (List.mem_of_getElem? (i := 63) rfl)) rfl
theorem t4_64 : Cond.methodLink "LightingDeskModel" 93 ⟨"LightingDeskModel", "sourceOf", "(III)I"⟩ ∈ uWS := uWS_mem (tm4 (List.mem_of_getElem? (i := 64) rfl)) rfl
theorem t4_66 : Cond.instanceMethod ⟨"LightingDeskModel", "sourceOf", "(III)I"⟩ ∈ uWS := uWS_mem (tm4 (List.mem_of_getElem? (i := 66) rfl)) rfl
theorem t4_67 : Cond.code ⟨"LightingDeskModel", "sourceOf", "(III)I"⟩ prog_8_method_17_code 5 (some .int) ∈ uWS := uWS_mem (tm4 (List.mem_of_getElem? (i := 67) rfl)) rfl
theorem t4_68 : Cond.methodLink "LightingDeskModel" 86 ⟨"LightingDeskModel", "below", "(II)I"⟩ ∈ uWS := uWS_mem (tm4 (List.mem_of_getElem? (i := 68) rfl)) rfl
theorem t4_70 : Cond.instanceMethod ⟨"LightingDeskModel", "below", "(II)I"⟩ ∈ uWS := uWS_mem (tm4 (List.mem_of_getElem? (i := 70) rfl)) rfl
theorem t4_71 : Cond.code ⟨"LightingDeskModel", "below", "(II)I"⟩ prog_8_method_15_code 5 (some .int) ∈ uWS := uWS_mem (tm4 (List.mem_of_getElem? (i := 71) rfl)) rfl
theorem t4_72 : Cond.methodLink "LightingDeskModel" 128 ⟨"LightingDeskModel", "make", "(II)I"⟩ ∈ uWS := uWS_mem (tm4 (List.mem_of_getElem? (i := 72) rfl)) rfl
theorem t4_74 : Cond.instanceMethod ⟨"LightingDeskModel", "make", "(II)I"⟩ ∈ uWS := uWS_mem (tm4 (List.mem_of_getElem? (i := 74) rfl)) rfl
theorem t4_75 : Cond.code ⟨"LightingDeskModel", "make", "(II)I"⟩ prog_8_method_26_code 5 (some .int) ∈ uWS := uWS_mem (tm4 (List.mem_of_getElem? (i := 75) rfl)) rfl
theorem t4_76 : Cond.methodLink "LightingDeskModel" 104 ⟨"LightingDeskModel", "put", "(III)V"⟩ ∈ uWS := uWS_mem (tm4 (List.mem_of_getElem? (i := 76) rfl)) rfl
theorem t4_78 : Cond.instanceMethod ⟨"LightingDeskModel", "put", "(III)V"⟩ ∈ uWS := uWS_mem (tm4 (List.mem_of_getElem? (i := 78) rfl)) rfl
theorem t4_79 : Cond.code ⟨"LightingDeskModel", "put", "(III)V"⟩ prog_8_method_22_code 4 (none : Option Jvm.ClassFile.FieldType) ∈ uWS := uWS_mem (tm4 (List.mem_of_getElem? (i := 79) rfl)) rfl
theorem t4_80 : Cond.methodLink "LightingDeskModel" 131 ⟨"LightingDeskModel", "keep", "(II)V"⟩ ∈ uWS := uWS_mem (tm4 (List.mem_of_getElem? (i := 80) rfl)) rfl
theorem t4_82 : Cond.instanceMethod ⟨"LightingDeskModel", "keep", "(II)V"⟩ ∈ uWS := uWS_mem (tm4 (List.mem_of_getElem? (i := 82) rfl)) rfl
theorem t4_83 : Cond.code ⟨"LightingDeskModel", "keep", "(II)V"⟩ prog_8_method_24_code 3 (none : Option Jvm.ClassFile.FieldType) ∈ uWS := uWS_mem (tm4 (List.mem_of_getElem? (i := 83) rfl)) rfl
theorem t4_84 : Cond.methodLink "LightingDeskLaw" 92 ⟨"LightingDeskModel", "update", "(II)I"⟩ ∈ uWS := uWS_mem (tm4 (List.mem_of_getElem? (i := 84) rfl)) rfl
theorem t4_85 : Cond.instanceMethod ⟨"LightingDeskModel", "update", "(II)I"⟩ ∈ uWS := uWS_mem (tm4 (List.mem_of_getElem? (i := 85) rfl)) rfl
theorem t4_86 : Cond.selects "LightingDeskModel" ⟨"LightingDeskModel", "update", "(II)I"⟩ ⟨"LightingDeskModel", "update", "(II)I"⟩ ∈ uWS := uWS_mem (tm4 (List.mem_of_getElem? (i := 86) rfl)) rfl
theorem t4_87 : Cond.code ⟨"LightingDeskModel", "update", "(II)I"⟩ prog_8_method_29_code 9 (some .int) ∈ uWS := uWS_mem (tm4 (List.mem_of_getElem? (i := 87) rfl)) rfl
theorem t4_88 : Cond.methodLink "LightingDeskModel" 135 ⟨"LightingDeskModel", "has", "(II)Z"⟩ ∈ uWS := uWS_mem (tm4 (List.mem_of_getElem? (i := 88) rfl)) rfl
theorem t4_90 : Cond.instanceMethod ⟨"LightingDeskModel", "has", "(II)Z"⟩ ∈ uWS := uWS_mem (tm4 (List.mem_of_getElem? (i := 90) rfl)) rfl
theorem t4_91 : Cond.code ⟨"LightingDeskModel", "has", "(II)Z"⟩ prog_8_method_28_code 3 (some .boolean) ∈ uWS := uWS_mem (tm4 (List.mem_of_getElem? (i := 91) rfl)) rfl
theorem t4_92 : Cond.methodLink "LightingDeskLaw" 95 ⟨"LightingDeskModel", "delete", "(IIZ)I"⟩ ∈ uWS := uWS_mem (tm4 (List.mem_of_getElem? (i := 92) rfl)) rfl
theorem t4_93 : Cond.instanceMethod ⟨"LightingDeskModel", "delete", "(IIZ)I"⟩ ∈ uWS := uWS_mem (tm4 (List.mem_of_getElem? (i := 93) rfl)) rfl
theorem t4_94 : Cond.selects "LightingDeskModel" ⟨"LightingDeskModel", "delete", "(IIZ)I"⟩ ⟨"LightingDeskModel", "delete", "(IIZ)I"⟩ ∈ uWS := uWS_mem (tm4 (List.mem_of_getElem? (i := 94) rfl)) rfl
theorem t4_95 : Cond.code ⟨"LightingDeskModel", "delete", "(IIZ)I"⟩ prog_8_method_30_code 8 (some .int) ∈ uWS := uWS_mem (tm4 (List.mem_of_getElem? (i := 95) rfl)) rfl
theorem t4_96 : Cond.methodLink "LightingDeskLaw" 98 ⟨"LightingDeskModel", "block", "(IIZ)I"⟩ ∈ uWS := uWS_mem (tm4 (List.mem_of_getElem? (i := 96) rfl)) rfl
theorem t4_97 : Cond.instanceMethod ⟨"LightingDeskModel", "block", "(IIZ)I"⟩ ∈ uWS := uWS_mem (tm4 (List.mem_of_getElem? (i := 97) rfl)) rfl
theorem t4_98 : Cond.selects "LightingDeskModel" ⟨"LightingDeskModel", "block", "(IIZ)I"⟩ ⟨"LightingDeskModel", "block", "(IIZ)I"⟩ ∈ uWS := uWS_mem (tm4 (List.mem_of_getElem? (i := 98) rfl)) rfl
theorem t4_99 : Cond.code ⟨"LightingDeskModel", "block", "(IIZ)I"⟩ prog_8_method_31_code 8 (some .int) ∈ uWS := uWS_mem (tm4 (List.mem_of_getElem? (i := 99) rfl)) rfl
theorem t4_100 : Cond.methodLink "LightingDeskLaw" 103 ⟨"LightingDeskModel", "times", "(IIII)Z"⟩ ∈ uWS := uWS_mem (tm4 (List.mem_of_getElem? (i := 100) rfl)) rfl
theorem t4_101 : Cond.instanceMethod ⟨"LightingDeskModel", "times", "(IIII)Z"⟩ ∈ uWS := uWS_mem (tm4 (List.mem_of_getElem? (i := 101) rfl)) rfl
theorem t4_102 : Cond.selects "LightingDeskModel" ⟨"LightingDeskModel", "times", "(IIII)Z"⟩ ⟨"LightingDeskModel", "times", "(IIII)Z"⟩ ∈ uWS := uWS_mem (tm4 (List.mem_of_getElem? (i := 102) rfl)) rfl
theorem t4_103 : Cond.code ⟨"LightingDeskModel", "times", "(IIII)Z"⟩ prog_8_method_32_code 6 (some .boolean) ∈ uWS := uWS_mem (tm4 (List.mem_of_getElem? (i := 103) rfl)) rfl
theorem t4_104 : Cond.methodLink "LightingDeskModel" 139 ⟨"LightingDeskModel", "isTime", "(I)Z"⟩ ∈ uWS := uWS_mem (tm4 (List.mem_of_getElem? (i := 104) rfl)) rfl
theorem t4_105 : Cond.static ⟨"LightingDeskModel", "isTime", "(I)Z"⟩ ∈ uWS := uWS_mem (tm4 (List.mem_of_getElem? (i := 105) rfl)) rfl
theorem t4_106 : Cond.code ⟨"LightingDeskModel", "isTime", "(I)Z"⟩ prog_8_method_5_code 1 (some .boolean) ∈ uWS := uWS_mem (tm4 (List.mem_of_getElem? (i := 106) rfl)) rfl
theorem t4_107 : Cond.methodLink "LightingDeskLaw" 107 ⟨"LightingDeskModel", "delays", "(IIII)Z"⟩ ∈ uWS := uWS_mem (tm4 (List.mem_of_getElem? (i := 107) rfl)) rfl
theorem t4_108 : Cond.instanceMethod ⟨"LightingDeskModel", "delays", "(IIII)Z"⟩ ∈ uWS := uWS_mem (tm4 (List.mem_of_getElem? (i := 108) rfl)) rfl
theorem t4_109 : Cond.selects "LightingDeskModel" ⟨"LightingDeskModel", "delays", "(IIII)Z"⟩ ⟨"LightingDeskModel", "delays", "(IIII)Z"⟩ ∈ uWS := uWS_mem (tm4 (List.mem_of_getElem? (i := 109) rfl)) rfl
theorem t4_110 : Cond.code ⟨"LightingDeskModel", "delays", "(IIII)Z"⟩ prog_8_method_33_code 6 (some .boolean) ∈ uWS := uWS_mem (tm4 (List.mem_of_getElem? (i := 110) rfl)) rfl
theorem t4_111 : Cond.methodLink "LightingDeskLaw" 111 ⟨"LightingDeskModel", "look", "(III)I"⟩ ∈ uWS := uWS_mem (tm4 (List.mem_of_getElem? (i := 111) rfl)) rfl
theorem t4_112 : Cond.instanceMethod ⟨"LightingDeskModel", "look", "(III)I"⟩ ∈ uWS := uWS_mem (tm4 (List.mem_of_getElem? (i := 112) rfl)) rfl
theorem t4_113 : Cond.selects "LightingDeskModel" ⟨"LightingDeskModel", "look", "(III)I"⟩ ⟨"LightingDeskModel", "look", "(III)I"⟩ ∈ uWS := uWS_mem (tm4 (List.mem_of_getElem? (i := 113) rfl)) rfl
theorem t4_114 : Cond.code ⟨"LightingDeskModel", "look", "(III)I"⟩ prog_8_method_35_code 4 (some .int) ∈ uWS := uWS_mem (tm4 (List.mem_of_getElem? (i := 114) rfl)) rfl
theorem t4_115 : Cond.methodLink "LightingDeskModel" 145 ⟨"LightingDeskModel", "lookOf", "(III)I"⟩ ∈ uWS := uWS_mem (tm4 (List.mem_of_getElem? (i := 115) rfl)) rfl
theorem t4_117 : Cond.instanceMethod ⟨"LightingDeskModel", "lookOf", "(III)I"⟩ ∈ uWS := uWS_mem (tm4 (List.mem_of_getElem? (i := 117) rfl)) rfl
theorem t4_118 : Cond.code ⟨"LightingDeskModel", "lookOf", "(III)I"⟩ prog_8_method_34_code 5 (some .int) ∈ uWS := uWS_mem (tm4 (List.mem_of_getElem? (i := 118) rfl)) rfl
theorem t4_119 : Cond.methodLink "LightingDeskModel" 142 ⟨"LightingDeskModel", "levelOf", "(II)I"⟩ ∈ uWS := uWS_mem (tm4 (List.mem_of_getElem? (i := 119) rfl)) rfl
theorem t4_121 : Cond.instanceMethod ⟨"LightingDeskModel", "levelOf", "(II)I"⟩ ∈ uWS := uWS_mem (tm4 (List.mem_of_getElem? (i := 121) rfl)) rfl
theorem t4_122 : Cond.code ⟨"LightingDeskModel", "levelOf", "(II)I"⟩ prog_8_method_12_code 3 (some .int) ∈ uWS := uWS_mem (tm4 (List.mem_of_getElem? (i := 122) rfl)) rfl
theorem t4_123 : Cond.methodLink "LightingDeskLaw" 114 ⟨"LightingDeskModel", "source", "(III)I"⟩ ∈ uWS := uWS_mem (tm4 (List.mem_of_getElem? (i := 123) rfl)) rfl
theorem t4_124 : Cond.instanceMethod ⟨"LightingDeskModel", "source", "(III)I"⟩ ∈ uWS := uWS_mem (tm4 (List.mem_of_getElem? (i := 124) rfl)) rfl
theorem t4_125 : Cond.selects "LightingDeskModel" ⟨"LightingDeskModel", "source", "(III)I"⟩ ⟨"LightingDeskModel", "source", "(III)I"⟩ ∈ uWS := uWS_mem (tm4 (List.mem_of_getElem? (i := 125) rfl)) rfl
theorem t4_126 : Cond.code ⟨"LightingDeskModel", "source", "(III)I"⟩ prog_8_method_36_code 5 (some .int) ∈ uWS := uWS_mem (tm4 (List.mem_of_getElem? (i := 126) rfl)) rfl
theorem t4_127 : Cond.methodLink "LightingDeskLaw" 117 ⟨"LightingDeskModel", "cue", "(III)I"⟩ ∈ uWS := uWS_mem (tm4 (List.mem_of_getElem? (i := 127) rfl)) rfl
theorem t4_128 : Cond.instanceMethod ⟨"LightingDeskModel", "cue", "(III)I"⟩ ∈ uWS := uWS_mem (tm4 (List.mem_of_getElem? (i := 128) rfl)) rfl
theorem t4_129 : Cond.selects "LightingDeskModel" ⟨"LightingDeskModel", "cue", "(III)I"⟩ ⟨"LightingDeskModel", "cue", "(III)I"⟩ ∈ uWS := uWS_mem (tm4 (List.mem_of_getElem? (i := 129) rfl)) rfl
theorem t4_130 : Cond.code ⟨"LightingDeskModel", "cue", "(III)I"⟩ prog_8_method_37_code 8 (some .int) ∈ uWS := uWS_mem (tm4 (List.mem_of_getElem? (i := 130) rfl)) rfl
theorem t4_131 : Cond.methodLink "LightingDeskLaw" 121 ⟨"LightingDeskModel", "assign", "(II)Z"⟩ ∈ uWS := uWS_mem (tm4 (List.mem_of_getElem? (i := 131) rfl)) rfl
theorem t4_132 : Cond.instanceMethod ⟨"LightingDeskModel", "assign", "(II)Z"⟩ ∈ uWS := uWS_mem (tm4 (List.mem_of_getElem? (i := 132) rfl)) rfl
theorem t4_133 : Cond.selects "LightingDeskModel" ⟨"LightingDeskModel", "assign", "(II)Z"⟩ ⟨"LightingDeskModel", "assign", "(II)Z"⟩ ∈ uWS := uWS_mem (tm4 (List.mem_of_getElem? (i := 133) rfl)) rfl
theorem t4_134 : Cond.code ⟨"LightingDeskModel", "assign", "(II)Z"⟩ prog_8_method_38_code 3 (some .boolean) ∈ uWS := uWS_mem (tm4 (List.mem_of_getElem? (i := 134) rfl)) rfl
theorem t4_135 : Cond.methodLink "LightingDeskModel" 148 ⟨"LightingDeskModel", "isPlayback", "(I)Z"⟩ ∈ uWS := uWS_mem (tm4 (List.mem_of_getElem? (i := 135) rfl)) rfl
theorem t4_136 : Cond.static ⟨"LightingDeskModel", "isPlayback", "(I)Z"⟩ ∈ uWS := uWS_mem (tm4 (List.mem_of_getElem? (i := 136) rfl)) rfl
theorem t4_137 : Cond.code ⟨"LightingDeskModel", "isPlayback", "(I)Z"⟩ prog_8_method_6_code 1 (some .boolean) ∈ uWS := uWS_mem (tm4 (List.mem_of_getElem? (i := 137) rfl)) rfl
theorem t4_138 : Cond.methodLink "LightingDeskLaw" 125 ⟨"LightingDeskModel", "go", "(IZI)I"⟩ ∈ uWS := uWS_mem (tm4 (List.mem_of_getElem? (i := 138) rfl)) rfl
theorem t4_139 : Cond.instanceMethod ⟨"LightingDeskModel", "go", "(IZI)I"⟩ ∈ uWS := uWS_mem (tm4 (List.mem_of_getElem? (i := 139) rfl)) rfl
theorem t4_140 : Cond.selects "LightingDeskModel" ⟨"LightingDeskModel", "go", "(IZI)I"⟩ ⟨"LightingDeskModel", "go", "(IZI)I"⟩ ∈ uWS := uWS_mem (tm4 (List.mem_of_getElem? (i := 140) rfl)) rfl
theorem t4_141 : Cond.code ⟨"LightingDeskModel", "go", "(IZI)I"⟩ prog_8_method_43_code 5 (some .int) ∈ uWS := uWS_mem (tm4 (List.mem_of_getElem? (i := 141) rfl)) rfl
theorem t4_142 : Cond.methodLink "LightingDeskModel" 164 ⟨"LightingDeskModel", "isTick", "(I)Z"⟩ ∈ uWS := uWS_mem (tm4 (List.mem_of_getElem? (i := 142) rfl)) rfl
theorem t4_144 : Cond.instanceMethod ⟨"LightingDeskModel", "isTick", "(I)Z"⟩ ∈ uWS := uWS_mem (tm4 (List.mem_of_getElem? (i := 144) rfl)) rfl
theorem t4_145 : Cond.code ⟨"LightingDeskModel", "isTick", "(I)Z"⟩ prog_8_method_42_code 2 (some .boolean) ∈ uWS := uWS_mem (tm4 (List.mem_of_getElem? (i := 145) rfl)) rfl
theorem t4_146 : Cond.constant "LightingDeskModel" 163 1000000000 ∈ uWS := uWS_mem (tm4 (List.mem_of_getElem? (i := 146) rfl)) rfl
theorem t4_147 : Cond.methodLink "LightingDeskModel" 167 ⟨"LightingDeskModel", "tell", "(I)V"⟩ ∈ uWS := uWS_mem (tm4 (List.mem_of_getElem? (i := 147) rfl)) rfl
theorem t4_149 : Cond.instanceMethod ⟨"LightingDeskModel", "tell", "(I)V"⟩ ∈ uWS := uWS_mem (tm4 (List.mem_of_getElem? (i := 149) rfl)) rfl
theorem t4_150 : Cond.code ⟨"LightingDeskModel", "tell", "(I)V"⟩ prog_8_method_41_code 6 (none : Option Jvm.ClassFile.FieldType) ∈ uWS := uWS_mem (tm4 (List.mem_of_getElem? (i := 150) rfl)) rfl
theorem t4_151 : Cond.methodLink "LightingDeskModel" 157 ⟨"LightingDeskModel", "start", "(III)V"⟩ ∈ uWS := uWS_mem (tm4 (List.mem_of_getElem? (i := 151) rfl)) rfl
theorem t4_153 : Cond.instanceMethod ⟨"LightingDeskModel", "start", "(III)V"⟩ ∈ uWS := uWS_mem (tm4 (List.mem_of_getElem? (i := 153) rfl)) rfl
theorem t4_154 : Cond.code ⟨"LightingDeskModel", "start", "(III)V"⟩ prog_8_method_40_code 8 (none : Option Jvm.ClassFile.FieldType) ∈ uWS := uWS_mem (tm4 (List.mem_of_getElem? (i := 154) rfl)) rfl
theorem t4_155 : Cond.methodLink "LightingDeskModel" 151 ⟨"LightingDeskModel", "levelAt", "(III)I"⟩ ∈ uWS := uWS_mem (tm4 (List.mem_of_getElem? (i := 155) rfl)) rfl
theorem t4_157 : Cond.instanceMethod ⟨"LightingDeskModel", "levelAt", "(III)I"⟩ ∈ uWS := uWS_mem (tm4 (List.mem_of_getElem? (i := 157) rfl)) rfl
theorem t4_158 : Cond.code ⟨"LightingDeskModel", "levelAt", "(III)I"⟩ prog_8_method_39_code 5 (some .int) ∈ uWS := uWS_mem (tm4 (List.mem_of_getElem? (i := 158) rfl)) rfl
theorem t4_159 : Cond.methodLink "LightingDeskLaw" 129 ⟨"LightingDeskModel", "master", "(II)Z"⟩ ∈ uWS := uWS_mem (tm4 (List.mem_of_getElem? (i := 159) rfl)) rfl
theorem t4_160 : Cond.instanceMethod ⟨"LightingDeskModel", "master", "(II)Z"⟩ ∈ uWS := uWS_mem (tm4 (List.mem_of_getElem? (i := 160) rfl)) rfl
theorem t4_161 : Cond.selects "LightingDeskModel" ⟨"LightingDeskModel", "master", "(II)Z"⟩ ⟨"LightingDeskModel", "master", "(II)Z"⟩ ∈ uWS := uWS_mem (tm4 (List.mem_of_getElem? (i := 161) rfl)) rfl
theorem t4_162 : Cond.code ⟨"LightingDeskModel", "master", "(II)Z"⟩ prog_8_method_44_code 3 (some .boolean) ∈ uWS := uWS_mem (tm4 (List.mem_of_getElem? (i := 162) rfl)) rfl
theorem t4_163 : Cond.methodLink "LightingDeskLaw" 132 ⟨"LightingDeskModel", "out", "(II)I"⟩ ∈ uWS := uWS_mem (tm4 (List.mem_of_getElem? (i := 163) rfl)) rfl
theorem t4_164 : Cond.instanceMethod ⟨"LightingDeskModel", "out", "(II)I"⟩ ∈ uWS := uWS_mem (tm4 (List.mem_of_getElem? (i := 164) rfl)) rfl
theorem t4_165 : Cond.selects "LightingDeskModel" ⟨"LightingDeskModel", "out", "(II)I"⟩ ⟨"LightingDeskModel", "out", "(II)I"⟩ ∈ uWS := uWS_mem (tm4 (List.mem_of_getElem? (i := 165) rfl)) rfl
theorem t4_166 : Cond.code ⟨"LightingDeskModel", "out", "(II)I"⟩ prog_8_method_46_code 4 (some .int) ∈ uWS := uWS_mem (tm4 (List.mem_of_getElem? (i := 166) rfl)) rfl
theorem t4_167 : Cond.methodLink "LightingDeskModel" 170 ⟨"LightingDeskModel", "merged", "(I)I"⟩ ∈ uWS := uWS_mem (tm4 (List.mem_of_getElem? (i := 167) rfl)) rfl
theorem t4_169 : Cond.instanceMethod ⟨"LightingDeskModel", "merged", "(I)I"⟩ ∈ uWS := uWS_mem (tm4 (List.mem_of_getElem? (i := 169) rfl)) rfl
theorem t4_170 : Cond.code ⟨"LightingDeskModel", "merged", "(I)I"⟩ prog_8_method_45_code 7 (some .int) ∈ uWS := uWS_mem (tm4 (List.mem_of_getElem? (i := 170) rfl)) rfl
theorem t4_171 : Cond.methodLink "LightingDeskLaw" 135 ⟨"LightingDeskModel", "playback", "(II)I"⟩ ∈ uWS := uWS_mem (tm4 (List.mem_of_getElem? (i := 171) rfl)) rfl
theorem t4_172 : Cond.instanceMethod ⟨"LightingDeskModel", "playback", "(II)I"⟩ ∈ uWS := uWS_mem (tm4 (List.mem_of_getElem? (i := 172) rfl)) rfl
theorem t4_173 : Cond.selects "LightingDeskModel" ⟨"LightingDeskModel", "playback", "(II)I"⟩ ⟨"LightingDeskModel", "playback", "(II)I"⟩ ∈ uWS := uWS_mem (tm4 (List.mem_of_getElem? (i := 173) rfl)) rfl
theorem t4_174 : Cond.code ⟨"LightingDeskModel", "playback", "(II)I"⟩ prog_8_method_47_code 3 (some .int) ∈ uWS := uWS_mem (tm4 (List.mem_of_getElem? (i := 174) rfl)) rfl
theorem t4_175 : Cond.methodLink "LightingDeskLaw" 139 ⟨"LightingDeskModel", "count", "(I)I"⟩ ∈ uWS := uWS_mem (tm4 (List.mem_of_getElem? (i := 175) rfl)) rfl
theorem t4_176 : Cond.instanceMethod ⟨"LightingDeskModel", "count", "(I)I"⟩ ∈ uWS := uWS_mem (tm4 (List.mem_of_getElem? (i := 176) rfl)) rfl
theorem t4_177 : Cond.selects "LightingDeskModel" ⟨"LightingDeskModel", "count", "(I)I"⟩ ⟨"LightingDeskModel", "count", "(I)I"⟩ ∈ uWS := uWS_mem (tm4 (List.mem_of_getElem? (i := 177) rfl)) rfl
theorem t4_178 : Cond.code ⟨"LightingDeskModel", "count", "(I)I"⟩ prog_8_method_48_code 4 (some .int) ∈ uWS := uWS_mem (tm4 (List.mem_of_getElem? (i := 178) rfl)) rfl
theorem t4_179 : Cond.arrayClass .long ∈ uWS := uWS_mem (tm4 (List.mem_of_getElem? (i := 179) rfl)) rfl
theorem tp_0 : Cond.selects "LightingDesk$CueBook" ⟨"LightingDesk$CueBook", "placeFor", "(II)I"⟩ ⟨"LightingDesk$CueBook", "placeFor", "(II)I"⟩ ∈ uWS := uWS_mem (List.mem_append_left _ (List.mem_of_getElem? (i := 0) rfl)) rfl
theorem tp_1 : Cond.selects "LightingDesk$CueBook" ⟨"LightingDesk$CueBook", "isIn", "(II)Z"⟩ ⟨"LightingDesk$CueBook", "isIn", "(II)Z"⟩ ∈ uWS := uWS_mem (List.mem_append_left _ (List.mem_of_getElem? (i := 1) rfl)) rfl
theorem tp_3 : Cond.selects "LightingDesk$CueBook" ⟨"LightingDesk$CueBook", "insert", "(III)V"⟩ ⟨"LightingDesk$CueBook", "insert", "(III)V"⟩ ∈ uWS := uWS_mem (List.mem_append_left _ (List.mem_of_getElem? (i := 3) rfl)) rfl
theorem tp_4 : Cond.selects "LightingDesk$CueBook" ⟨"LightingDesk$CueBook", "keepChannels", "(ILLightingDesk$ValueRow;)V"⟩ ⟨"LightingDesk$CueBook", "keepChannels", "(ILLightingDesk$ValueRow;)V"⟩ ∈ uWS := uWS_mem (List.mem_append_left _ (List.mem_of_getElem? (i := 4) rfl)) rfl
theorem tp_5 : Cond.selects "LightingDesk$CueBook" ⟨"LightingDesk$CueBook", "putAll", "(ILLightingDesk$ValueRow;)V"⟩ ⟨"LightingDesk$CueBook", "putAll", "(ILLightingDesk$ValueRow;)V"⟩ ∈ uWS := uWS_mem (List.mem_append_left _ (List.mem_of_getElem? (i := 5) rfl)) rfl
theorem tp_6 : Cond.selects "LightingDesk" ⟨"LightingDesk", "placeOrThrow", "(II)I"⟩ ⟨"LightingDesk", "placeOrThrow", "(II)I"⟩ ∈ uWS := uWS_mem (List.mem_append_left _ (List.mem_of_getElem? (i := 6) rfl)) rfl
theorem tp_7 : Cond.selects "LightingDesk$CueBook" ⟨"LightingDesk$CueBook", "takeOut", "(I)V"⟩ ⟨"LightingDesk$CueBook", "takeOut", "(I)V"⟩ ∈ uWS := uWS_mem (List.mem_append_left _ (List.mem_of_getElem? (i := 7) rfl)) rfl
theorem tp_8 : Cond.selects "LightingDesk" ⟨"LightingDesk", "isTellable", "(I)Z"⟩ ⟨"LightingDesk", "isTellable", "(I)Z"⟩ ∈ uWS := uWS_mem (List.mem_append_left _ (List.mem_of_getElem? (i := 8) rfl)) rfl
theorem tp_9 : Cond.selects "LightingDesk" ⟨"LightingDesk", "tell", "(I)V"⟩ ⟨"LightingDesk", "tell", "(I)V"⟩ ∈ uWS := uWS_mem (List.mem_append_left _ (List.mem_of_getElem? (i := 9) rfl)) rfl
theorem tp_10 : Cond.selects "LightingDesk" ⟨"LightingDesk", "earliestDue", "(I)I"⟩ ⟨"LightingDesk", "earliestDue", "(I)I"⟩ ∈ uWS := uWS_mem (List.mem_append_left _ (List.mem_of_getElem? (i := 10) rfl)) rfl
theorem tp_11 : Cond.selects "LightingDesk" ⟨"LightingDesk", "followOn", "(LLightingDesk$Player;)V"⟩ ⟨"LightingDesk", "followOn", "(LLightingDesk$Player;)V"⟩ ∈ uWS := uWS_mem (List.mem_append_left _ (List.mem_of_getElem? (i := 11) rfl)) rfl
theorem tp_12 : Cond.selects "LightingDesk" ⟨"LightingDesk", "startCue", "(LLightingDesk$Player;II)V"⟩ ⟨"LightingDesk", "startCue", "(LLightingDesk$Player;II)V"⟩ ∈ uWS := uWS_mem (List.mem_append_left _ (List.mem_of_getElem? (i := 12) rfl)) rfl
theorem tp_13 : Cond.selects "LightingDesk" ⟨"LightingDesk", "latestLevel", "(I)I"⟩ ⟨"LightingDesk", "latestLevel", "(I)I"⟩ ∈ uWS := uWS_mem (List.mem_append_left _ (List.mem_of_getElem? (i := 13) rfl)) rfl
theorem tp_14 : Cond.selects "LightingDesk" ⟨"LightingDesk", "greatestLevel", "(I)I"⟩ ⟨"LightingDesk", "greatestLevel", "(I)I"⟩ ∈ uWS := uWS_mem (List.mem_append_left _ (List.mem_of_getElem? (i := 14) rfl)) rfl
theorem tp_15 : Cond.selects "LightingDeskModel" ⟨"LightingDeskModel", "find", "(II)I"⟩ ⟨"LightingDeskModel", "find", "(II)I"⟩ ∈ uWS := uWS_mem (List.mem_append_left _ (List.mem_of_getElem? (i := 15) rfl)) rfl
theorem tp_16 : Cond.selects "LightingDeskModel" ⟨"LightingDeskModel", "above", "(II)I"⟩ ⟨"LightingDeskModel", "above", "(II)I"⟩ ∈ uWS := uWS_mem (List.mem_append_left _ (List.mem_of_getElem? (i := 16) rfl)) rfl
theorem tp_17 : Cond.selects "LightingDeskModel" ⟨"LightingDeskModel", "moveOf", "(II)I"⟩ ⟨"LightingDeskModel", "moveOf", "(II)I"⟩ ∈ uWS := uWS_mem (List.mem_append_left _ (List.mem_of_getElem? (i := 17) rfl)) rfl
theorem tp_18 : Cond.selects "LightingDeskModel" ⟨"LightingDeskModel", "cueCount", "()I"⟩ ⟨"LightingDeskModel", "cueCount", "()I"⟩ ∈ uWS := uWS_mem (List.mem_append_left _ (List.mem_of_getElem? (i := 18) rfl)) rfl
theorem tp_19 : Cond.selects "LightingDeskModel" ⟨"LightingDeskModel", "moveCount", "()I"⟩ ⟨"LightingDeskModel", "moveCount", "()I"⟩ ∈ uWS := uWS_mem (List.mem_append_left _ (List.mem_of_getElem? (i := 19) rfl)) rfl
theorem tp_20 : Cond.selects "LightingDeskModel" ⟨"LightingDeskModel", "movesOf", "(I)I"⟩ ⟨"LightingDeskModel", "movesOf", "(I)I"⟩ ∈ uWS := uWS_mem (List.mem_append_left _ (List.mem_of_getElem? (i := 20) rfl)) rfl
theorem tp_21 : Cond.selects "LightingDeskModel" ⟨"LightingDeskModel", "keptMoves", "(I)I"⟩ ⟨"LightingDeskModel", "keptMoves", "(I)I"⟩ ∈ uWS := uWS_mem (List.mem_append_left _ (List.mem_of_getElem? (i := 21) rfl)) rfl
theorem tp_22 : Cond.selects "LightingDeskModel" ⟨"LightingDeskModel", "note", "(I)V"⟩ ⟨"LightingDeskModel", "note", "(I)V"⟩ ∈ uWS := uWS_mem (List.mem_append_left _ (List.mem_of_getElem? (i := 22) rfl)) rfl
theorem tp_23 : Cond.selects "LightingDeskModel" ⟨"LightingDeskModel", "tracked", "(III)I"⟩ ⟨"LightingDeskModel", "tracked", "(III)I"⟩ ∈ uWS := uWS_mem (List.mem_append_left _ (List.mem_of_getElem? (i := 23) rfl)) rfl
theorem tp_24 : Cond.selects "LightingDeskModel" ⟨"LightingDeskModel", "sourceOf", "(III)I"⟩ ⟨"LightingDeskModel", "sourceOf", "(III)I"⟩ ∈ uWS := uWS_mem (List.mem_append_left _ (List.mem_of_getElem? (i := 24) rfl)) rfl
theorem tp_25 : Cond.selects "LightingDeskModel" ⟨"LightingDeskModel", "below", "(II)I"⟩ ⟨"LightingDeskModel", "below", "(II)I"⟩ ∈ uWS := uWS_mem (List.mem_append_left _ (List.mem_of_getElem? (i := 25) rfl)) rfl
theorem tp_26 : Cond.selects "LightingDeskModel" ⟨"LightingDeskModel", "make", "(II)I"⟩ ⟨"LightingDeskModel", "make", "(II)I"⟩ ∈ uWS := uWS_mem (List.mem_append_left _ (List.mem_of_getElem? (i := 26) rfl)) rfl
theorem tp_27 : Cond.selects "LightingDeskModel" ⟨"LightingDeskModel", "put", "(III)V"⟩ ⟨"LightingDeskModel", "put", "(III)V"⟩ ∈ uWS := uWS_mem (List.mem_append_left _ (List.mem_of_getElem? (i := 27) rfl)) rfl
theorem tp_28 : Cond.selects "LightingDeskModel" ⟨"LightingDeskModel", "keep", "(II)V"⟩ ⟨"LightingDeskModel", "keep", "(II)V"⟩ ∈ uWS := uWS_mem (List.mem_append_left _ (List.mem_of_getElem? (i := 28) rfl)) rfl
theorem tp_29 : Cond.selects "LightingDeskModel" ⟨"LightingDeskModel", "has", "(II)Z"⟩ ⟨"LightingDeskModel", "has", "(II)Z"⟩ ∈ uWS := uWS_mem (List.mem_append_left _ (List.mem_of_getElem? (i := 29) rfl)) rfl
theorem tp_30 : Cond.selects "LightingDeskModel" ⟨"LightingDeskModel", "lookOf", "(III)I"⟩ ⟨"LightingDeskModel", "lookOf", "(III)I"⟩ ∈ uWS := uWS_mem (List.mem_append_left _ (List.mem_of_getElem? (i := 30) rfl)) rfl
theorem tp_31 : Cond.selects "LightingDeskModel" ⟨"LightingDeskModel", "levelOf", "(II)I"⟩ ⟨"LightingDeskModel", "levelOf", "(II)I"⟩ ∈ uWS := uWS_mem (List.mem_append_left _ (List.mem_of_getElem? (i := 31) rfl)) rfl
theorem tp_32 : Cond.selects "LightingDeskModel" ⟨"LightingDeskModel", "isTick", "(I)Z"⟩ ⟨"LightingDeskModel", "isTick", "(I)Z"⟩ ∈ uWS := uWS_mem (List.mem_append_left _ (List.mem_of_getElem? (i := 32) rfl)) rfl
theorem tp_33 : Cond.selects "LightingDeskModel" ⟨"LightingDeskModel", "tell", "(I)V"⟩ ⟨"LightingDeskModel", "tell", "(I)V"⟩ ∈ uWS := uWS_mem (List.mem_append_left _ (List.mem_of_getElem? (i := 33) rfl)) rfl
theorem tp_34 : Cond.selects "LightingDeskModel" ⟨"LightingDeskModel", "start", "(III)V"⟩ ⟨"LightingDeskModel", "start", "(III)V"⟩ ∈ uWS := uWS_mem (List.mem_append_left _ (List.mem_of_getElem? (i := 34) rfl)) rfl
theorem tp_35 : Cond.selects "LightingDeskModel" ⟨"LightingDeskModel", "levelAt", "(III)I"⟩ ⟨"LightingDeskModel", "levelAt", "(III)I"⟩ ∈ uWS := uWS_mem (List.mem_append_left _ (List.mem_of_getElem? (i := 35) rfl)) rfl
theorem tp_36 : Cond.selects "LightingDeskModel" ⟨"LightingDeskModel", "merged", "(I)I"⟩ ⟨"LightingDeskModel", "merged", "(I)I"⟩ ∈ uWS := uWS_mem (List.mem_append_left _ (List.mem_of_getElem? (i := 36) rfl)) rfl
end
section
/-! NAMES: classes, fields, methods (printed by wip/gen/gen_names2.py) -/
def R_D : String := "LightingDesk"
def R_V : String := "LightingDesk$ValueRow"
def R_P : String := "LightingDesk$PaletteBox"
def R_B : String := "LightingDesk$CueBook"
def R_C : String := "LightingDesk$Cue"
def R_Y : String := "LightingDesk$Player"
def R_M : String := "LightingDeskModel"
def R_L : String := "LightingDeskLaw"
def R_JL : String := "java/lang/Long"
def R_JM : String := "java/lang/Math"
def R_JA : String := "java/util/Arrays"
def F_V : u_T := fun k => match k with
  | 0 => ("LightingDesk$ValueRow", "values", "[I", true)
  | _ => ("LightingDesk$ValueRow", "held", "I", false)
def ty_V : Nat → FieldType := fun k => match k with
  | 0 => .array .int
  | _ => .int
theorem nm_V : ∀ a, a < 2 → ∀ b, b < 2 → a ≠ b → (F_V a).2.1 ≠ (F_V b).2.1 := by decide +kernel
theorem tyk_V : ∀ k, k < 2 → parseFieldDescriptor (F_V k).2.2.1 = some (ty_V k) := by decide +kernel
theorem in_V : ∀ w ∈ u_ws R_V F_V 2, w ∈ uWS := by
  intro w h
  obtain ⟨k, hk, rfl⟩ := List.mem_map.mp h
  have hk := List.mem_range.mp hk
  rcases (by omega : k = 0 ∨ k = 1) with rfl | rfl
  · exact t1_40
  · exact t1_42
def F_P : u_T := fun k => match k with
  | _ => ("LightingDesk$PaletteBox", "levels", "[I", true)
def ty_P : Nat → FieldType := fun k => match k with
  | _ => .array .int
theorem nm_P : ∀ a, a < 1 → ∀ b, b < 1 → a ≠ b → (F_P a).2.1 ≠ (F_P b).2.1 := by decide +kernel
theorem tyk_P : ∀ k, k < 1 → parseFieldDescriptor (F_P k).2.2.1 = some (ty_P k) := by decide +kernel
theorem in_P : ∀ w ∈ u_ws R_P F_P 1, w ∈ uWS := by
  intro w h
  obtain ⟨k, hk, rfl⟩ := List.mem_map.mp h
  have hk := List.mem_range.mp hk
  rcases (by omega : k = 0) with rfl
  · exact t1_55
def F_C : u_T := fun k => match k with
  | 0 => ("LightingDesk$Cue", "moves", "LLightingDesk$ValueRow;", true)
  | 1 => ("LightingDesk$Cue", "list", "I", false)
  | 2 => ("LightingDesk$Cue", "number", "I", false)
  | 3 => ("LightingDesk$Cue", "up", "I", false)
  | 4 => ("LightingDesk$Cue", "down", "I", false)
  | 5 => ("LightingDesk$Cue", "delay", "I", false)
  | _ => ("LightingDesk$Cue", "follow", "I", false)
def ty_C : Nat → FieldType := fun k => match k with
  | 0 => .object "LightingDesk$ValueRow"
  | 1 => .int
  | 2 => .int
  | 3 => .int
  | 4 => .int
  | 5 => .int
  | _ => .int
theorem nm_C : ∀ a, a < 7 → ∀ b, b < 7 → a ≠ b → (F_C a).2.1 ≠ (F_C b).2.1 := by decide +kernel
theorem tyk_C : ∀ k, k < 7 → parseFieldDescriptor (F_C k).2.2.1 = some (ty_C k) := by decide +kernel
theorem in_C : ∀ w ∈ u_ws R_C F_C 7, w ∈ uWS := by
  intro w h
  obtain ⟨k, hk, rfl⟩ := List.mem_map.mp h
  have hk := List.mem_range.mp hk
  rcases (by omega : k = 0 ∨ k = 1 ∨ k = 2 ∨ k = 3 ∨ k = 4 ∨ k = 5 ∨ k = 6) with rfl | rfl | rfl | rfl | rfl | rfl | rfl
  · exact t1_91
  · exact t1_93
  · exact t1_95
  · exact t1_97
  · exact t1_99
  · exact t1_101
  · exact t1_103
def F_B : u_T := fun k => match k with
  | 0 => ("LightingDesk$CueBook", "cues", "[LLightingDesk$Cue;", true)
  | _ => ("LightingDesk$CueBook", "size", "I", false)
def ty_B : Nat → FieldType := fun k => match k with
  | 0 => .array (.object "LightingDesk$Cue")
  | _ => .int
theorem nm_B : ∀ a, a < 2 → ∀ b, b < 2 → a ≠ b → (F_B a).2.1 ≠ (F_B b).2.1 := by decide +kernel
theorem tyk_B : ∀ k, k < 2 → parseFieldDescriptor (F_B k).2.2.1 = some (ty_B k) := by decide +kernel
theorem in_B : ∀ w ∈ u_ws R_B F_B 2, w ∈ uWS := by
  intro w h
  obtain ⟨k, hk, rfl⟩ := List.mem_map.mp h
  have hk := List.mem_range.mp hk
  rcases (by omega : k = 0 ∨ k = 1) with rfl | rfl
  · exact t1_109
  · exact t1_111
def F_Y : u_T := fun k => match k with
  | 0 => ("LightingDesk$Player", "from", "[I", true)
  | 1 => ("LightingDesk$Player", "to", "[I", true)
  | 2 => ("LightingDesk$Player", "begin", "[I", true)
  | 3 => ("LightingDesk$Player", "length", "[I", true)
  | 4 => ("LightingDesk$Player", "lookTicks", "[I", true)
  | 5 => ("LightingDesk$Player", "list", "I", false)
  | 6 => ("LightingDesk$Player", "master", "I", false)
  | 7 => ("LightingDesk$Player", "current", "I", false)
  | 8 => ("LightingDesk$Player", "startTick", "I", false)
  | _ => ("LightingDesk$Player", "followOn", "I", false)
def ty_Y : Nat → FieldType := fun k => match k with
  | 0 => .array .int
  | 1 => .array .int
  | 2 => .array .int
  | 3 => .array .int
  | 4 => .array .int
  | 5 => .int
  | 6 => .int
  | 7 => .int
  | 8 => .int
  | _ => .int
theorem nm_Y : ∀ a, a < 10 → ∀ b, b < 10 → a ≠ b → (F_Y a).2.1 ≠ (F_Y b).2.1 := by decide +kernel
theorem tyk_Y : ∀ k, k < 10 → parseFieldDescriptor (F_Y k).2.2.1 = some (ty_Y k) := by decide +kernel
theorem in_Y : ∀ w ∈ u_ws R_Y F_Y 10, w ∈ uWS := by
  intro w h
  obtain ⟨k, hk, rfl⟩ := List.mem_map.mp h
  have hk := List.mem_range.mp hk
  rcases (by omega : k = 0 ∨ k = 1 ∨ k = 2 ∨ k = 3 ∨ k = 4 ∨ k = 5 ∨ k = 6 ∨ k = 7 ∨ k = 8 ∨ k = 9) with rfl | rfl | rfl | rfl | rfl | rfl | rfl | rfl | rfl | rfl
  · exact t1_137
  · exact t1_139
  · exact t1_141
  · exact t1_143
  · exact t1_145
  · exact t1_147
  · exact t1_149
  · exact t1_151
  · exact t1_153
  · exact t1_155
def F_D : u_T := fun k => match k with
  | 0 => ("LightingDesk", "attributes", "[Z", true)
  | 1 => ("LightingDesk", "programmer", "LLightingDesk$ValueRow;", true)
  | 2 => ("LightingDesk", "palettes", "LLightingDesk$PaletteBox;", true)
  | 3 => ("LightingDesk", "book", "LLightingDesk$CueBook;", true)
  | 4 => ("LightingDesk", "players", "[LLightingDesk$Player;", true)
  | 5 => ("LightingDesk", "now", "I", false)
  | _ => ("LightingDesk", "started", "I", false)
def ty_D : Nat → FieldType := fun k => match k with
  | 0 => .array .boolean
  | 1 => .object "LightingDesk$ValueRow"
  | 2 => .object "LightingDesk$PaletteBox"
  | 3 => .object "LightingDesk$CueBook"
  | 4 => .array (.object "LightingDesk$Player")
  | 5 => .int
  | _ => .int
theorem nm_D : ∀ a, a < 7 → ∀ b, b < 7 → a ≠ b → (F_D a).2.1 ≠ (F_D b).2.1 := by decide +kernel
theorem tyk_D : ∀ k, k < 7 → parseFieldDescriptor (F_D k).2.2.1 = some (ty_D k) := by decide +kernel
theorem in_D : ∀ w ∈ u_ws R_D F_D 7, w ∈ uWS := by
  intro w h
  obtain ⟨k, hk, rfl⟩ := List.mem_map.mp h
  have hk := List.mem_range.mp hk
  rcases (by omega : k = 0 ∨ k = 1 ∨ k = 2 ∨ k = 3 ∨ k = 4 ∨ k = 5 ∨ k = 6) with rfl | rfl | rfl | rfl | rfl | rfl | rfl
  · exact t1_165
  · exact t1_167
  · exact t1_169
  · exact t1_171
  · exact t1_173
  · exact t1_175
  · exact t1_177
def F_M : u_T := fun k => match k with
  | 0 => ("LightingDeskModel", "thrown", "I", false)
  | 1 => ("LightingDeskModel", "attribute", "[Z", true)
  | 2 => ("LightingDeskModel", "programmer", "[S", true)
  | 3 => ("LightingDeskModel", "palettes", "[S", true)
  | 4 => ("LightingDeskModel", "lists", "[I", true)
  | 5 => ("LightingDeskModel", "numbers", "[I", true)
  | 6 => ("LightingDeskModel", "ups", "[I", true)
  | 7 => ("LightingDeskModel", "downs", "[I", true)
  | 8 => ("LightingDeskModel", "waits", "[I", true)
  | 9 => ("LightingDeskModel", "follows", "[I", true)
  | 10 => ("LightingDeskModel", "moves", "[S", true)
  | 11 => ("LightingDeskModel", "kept", "[S", true)
  | 12 => ("LightingDeskModel", "told", "[I", true)
  | 13 => ("LightingDeskModel", "masters", "[I", true)
  | 14 => ("LightingDeskModel", "current", "[I", true)
  | 15 => ("LightingDeskModel", "started", "[I", true)
  | 16 => ("LightingDeskModel", "followOn", "[I", true)
  | 17 => ("LightingDeskModel", "from", "[S", true)
  | 18 => ("LightingDeskModel", "to", "[S", true)
  | 19 => ("LightingDeskModel", "begins", "[I", true)
  | 20 => ("LightingDeskModel", "lasts", "[I", true)
  | 21 => ("LightingDeskModel", "looked", "[I", true)
  | 22 => ("LightingDeskModel", "now", "I", false)
  | _ => ("LightingDeskModel", "starts", "I", false)
def ty_M : Nat → FieldType := fun k => match k with
  | 0 => .int
  | 1 => .array .boolean
  | 2 => .array .short
  | 3 => .array .short
  | 4 => .array .int
  | 5 => .array .int
  | 6 => .array .int
  | 7 => .array .int
  | 8 => .array .int
  | 9 => .array .int
  | 10 => .array .short
  | 11 => .array .short
  | 12 => .array .int
  | 13 => .array .int
  | 14 => .array .int
  | 15 => .array .int
  | 16 => .array .int
  | 17 => .array .short
  | 18 => .array .short
  | 19 => .array .int
  | 20 => .array .int
  | 21 => .array .int
  | 22 => .int
  | _ => .int
theorem nm_M : ∀ a, a < 24 → ∀ b, b < 24 → a ≠ b → (F_M a).2.1 ≠ (F_M b).2.1 := by decide +kernel
theorem tyk_M : ∀ k, k < 24 → parseFieldDescriptor (F_M k).2.2.1 = some (ty_M k) := by decide +kernel
theorem in_M : ∀ w ∈ u_ws R_M F_M 24, w ∈ uWS := by
  intro w h
  obtain ⟨k, hk, rfl⟩ := List.mem_map.mp h
  have hk := List.mem_range.mp hk
  rcases (by omega : k = 0 ∨ k = 1 ∨ k = 2 ∨ k = 3 ∨ k = 4 ∨ k = 5 ∨ k = 6 ∨ k = 7 ∨ k = 8 ∨ k = 9 ∨ k = 10 ∨ k = 11 ∨ k = 12 ∨ k = 13 ∨ k = 14 ∨ k = 15 ∨ k = 16 ∨ k = 17 ∨ k = 18 ∨ k = 19 ∨ k = 20 ∨ k = 21 ∨ k = 22 ∨ k = 23) with rfl | rfl | rfl | rfl | rfl | rfl | rfl | rfl | rfl | rfl | rfl | rfl | rfl | rfl | rfl | rfl | rfl | rfl | rfl | rfl | rfl | rfl | rfl | rfl
  · exact t3_184
  · exact t3_186
  · exact t3_188
  · exact t3_190
  · exact t3_192
  · exact t3_194
  · exact t3_196
  · exact t3_198
  · exact t3_200
  · exact t3_202
  · exact t3_204
  · exact t3_206
  · exact t3_208
  · exact t3_210
  · exact t3_212
  · exact t3_214
  · exact t3_216
  · exact t3_218
  · exact t3_220
  · exact t3_222
  · exact t3_224
  · exact t3_226
  · exact t3_228
  · exact t3_230
abbrev clsAll : List vw_C := [(R_V, F_V, 2), (R_P, F_P, 1), (R_C, F_C, 7), (R_B, F_B, 2), (R_Y, F_Y, 10), (R_D, F_D, 7), (R_M, F_M, 24)]
end
section
/-! THE CLASS'S STATE: every int that it holds is v f j i: field f of the object j, at the place i; the cue at the place p of the book is the object st.2 p. -/
abbrev xS : Type := (Nat → Nat → Nat → Int32) × (Nat → Nat)
def up3 (v : Nat → Nat → Nat → Int32) (f j i : Nat) (x : Int32) : Nat → Nat → Nat → Int32 := fun f' j' i' => if f' = f then (if j' = j then (if i' = i then x else v f' j' i') else v f' j' i') else v f' j' i'
theorem up3_s (v : Nat → Nat → Nat → Int32) (f j i : Nat) (x : Int32) : up3 v f j i x f j i = x := by simp [up3]
theorem up3_f {v : Nat → Nat → Nat → Int32} {f j i f' j' i' : Nat} {x : Int32} (h : f' ≠ f) : up3 v f j i x f' j' i' = v f' j' i' := by simp [up3, h]
theorem up3_j {v : Nat → Nat → Nat → Int32} {f j i f' j' i' : Nat} {x : Int32} (h : j' ≠ j) : up3 v f j i x f' j' i' = v f' j' i' := by simp [up3, h]
theorem up3_i {v : Nat → Nat → Nat → Int32} {f j i f' j' i' : Nat} {x : Int32} (h : i' ≠ i) : up3 v f j i x f' j' i' = v f' j' i' := by simp [up3, h]
theorem up3_row (v : Nat → Nat → Nat → Int32) (f j i : Nat) (x : Int32) : up3 v f j i x f j = upd (v f j) i x := by
  funext i'
  simp [up3, upd]
/-- array classes: 0 int, 1 boolean, 2 Cue, 3 Player, 4 short, 5 long -/
def tysAll (ca : Nat → ClassId) : List (ClassId × FieldType) := [(ca 0, .int), (ca 1, .boolean), (ca 2, .object "LightingDesk$Cue"), (ca 3, .object "LightingDesk$Player"), (ca 4, .short), (ca 5, .long)]
def xRefs (g : Nat → Option Nat) : (Nat → Int32) ⊕ (Nat → Int64) ⊕ (Nat → UInt32) ⊕ (Nat → UInt64) ⊕ (Nat → Option Nat) := .inr (.inr (.inr (.inr g)))
def xDesk (ad : Nat → Nat) (v : Nat → Nat → Nat → Int32) : List Value := [.ref (ad 1), .ref (ad 87), .ref (ad 2), .ref (ad 4), .ref (ad 6), .int (v 5 0 0), .int (v 6 0 0)]
def xCue (ad : Nat → Nat) (v : Nat → Nat → Nat → Int32) (j : Nat) : List Value := [.ref (ad (7 + 2 * j)), .int (v 10 j 0), .int (v 11 j 0), .int (v 12 j 0), .int (v 13 j 0), .int (v 14 j 0), .int (v 15 j 0)]
def xPly (ad : Nat → Nat) (v : Nat → Nat → Nat → Int32) (j : Nat) : List Value := [.ref (ad (130 + 6 * j)), .ref (ad (131 + 6 * j)), .ref (ad (132 + 6 * j)), .ref (ad (133 + 6 * j)), .ref (ad (134 + 6 * j)), .int (v 25 j 0), .int (v 26 j 0), .int (v 27 j 0), .int (v 28 j 0), .int (v 29 j 0)]
/-- what the cell k holds: 0 the desk, 1 attributes, 2 palettes and 3 its levels, 4 the book, 5 its cues, 6 players; rows j (40: the programmer) at 7 + 2 j with their values behind; cues at 89 + j; players at 129 + 6 j with five arrays behind -/
def xG (ca : Nat → ClassId) (ad : Nat → Nat) (st : xS) (k : Nat) : va_E :=
  if k < 7 then (match k with
    | 0 => .inr (5, xDesk ad st.1)
    | 1 => .inl (ca 1, 64, .inl (st.1 0 0))
    | 2 => .inr (1, [.ref (ad 3)])
    | 3 => .inl (ca 0, 1024, .inl (st.1 3 0))
    | 4 => .inr (3, [.ref (ad 5), .int (st.1 4 0 0)])
    | 5 => .inl (ca 2, 40, xRefs (fun i => some (ad (89 + st.2 i))))
    | _ => .inl (ca 3, 6, xRefs (fun i => some (ad (129 + 6 * i)))))
  else if k < 89 then (if (k - 7) % 2 = 0 then .inr (0, [.ref (ad (k + 1)), .int (st.1 16 ((k - 7) / 2) 0)]) else .inl (ca 0, 64, .inl (st.1 17 ((k - 7) / 2))))
  else if k < 129 then .inr (2, xCue ad st.1 (k - 89))
  else (if (k - 129) % 6 = 0 then .inr (4, xPly ad st.1 ((k - 129) / 6)) else .inl (ca 0, 64, .inl (st.1 (19 + (k - 129) % 6) ((k - 129) / 6))))
/-- the cells' number -/
abbrev xN : Nat := 165
section XG
variable {ca : Nat → ClassId} {ad : Nat → Nat} {st : xS}
theorem xg_desk : xG ca ad st 0 = .inr (5, xDesk ad st.1) := rfl
theorem xg_att : xG ca ad st 1 = .inl (ca 1, 64, .inl (st.1 0 0)) := rfl
theorem xg_pal : xG ca ad st 2 = .inr (1, [.ref (ad 3)]) := rfl
theorem xg_lev : xG ca ad st 3 = .inl (ca 0, 1024, .inl (st.1 3 0)) := rfl
theorem xg_book : xG ca ad st 4 = .inr (3, [.ref (ad 5), .int (st.1 4 0 0)]) := rfl
theorem xg_cues : xG ca ad st 5 = .inl (ca 2, 40, .inr (.inr (.inr (.inr (fun i => some (ad (89 + st.2 i))))))) := rfl
theorem xg_plys : xG ca ad st 6 = .inl (ca 3, 6, .inr (.inr (.inr (.inr (fun i => some (ad (129 + 6 * i))))))) := rfl
theorem xg_row {j : Nat} (h : j < 41) : xG ca ad st (7 + 2 * j) = .inr (0, [.ref (ad (8 + 2 * j)), .int (st.1 16 j 0)]) := by
  unfold xG
  rw [if_neg (by omega), if_pos (by omega), if_pos (by omega)]
  rw [show 7 + 2 * j + 1 = 8 + 2 * j by omega, show (7 + 2 * j - 7) / 2 = j by omega]
theorem xg_val {j : Nat} (h : j < 41) : xG ca ad st (8 + 2 * j) = .inl (ca 0, 64, .inl (st.1 17 j)) := by
  unfold xG
  rw [if_neg (by omega), if_pos (by omega), if_neg (by omega), show (8 + 2 * j - 7) / 2 = j by omega]
theorem xg_cue {j : Nat} (h : j < 40) : xG ca ad st (89 + j) = .inr (2, xCue ad st.1 j) := by
  unfold xG
  rw [if_neg (by omega), if_neg (by omega), if_pos (by omega), show 89 + j - 89 = j by omega]
theorem xg_ply {j : Nat} (h : j < 6) : xG ca ad st (129 + 6 * j) = .inr (4, xPly ad st.1 j) := by
  unfold xG
  rw [if_neg (by omega), if_neg (by omega), if_neg (by omega), if_pos (by omega), show (129 + 6 * j - 129) / 6 = j by omega]
theorem xg_arr {j : Nat} (t : Nat) (ht : t < 5) (h : j < 6) : xG ca ad st (130 + t + 6 * j) = .inl (ca 0, 64, .inl (st.1 (20 + t) j)) := by
  unfold xG
  rw [if_neg (by omega), if_neg (by omega), if_neg (by omega), if_neg (by omega), show (130 + t + 6 * j - 129) / 6 = j by omega, show 19 + (130 + t + 6 * j - 129) % 6 = 20 + t by omega]
/-- which cell holds the ints of field f of the object j -/
def xOwn (f j : Nat) : Nat := if f = 0 then 1 else if f = 3 then 3 else if f = 4 then 4 else if f = 5 then 0 else if f = 6 then 0 else if f < 16 then 89 + j else if f = 16 then 7 + 2 * j else if f = 17 then 8 + 2 * j else if f < 25 then f + 110 + 6 * j else 129 + 6 * j
def xDep (k : Nat) : List (Nat × Nat) :=
  if k < 7 then (match k with
    | 0 => [(5, 0), (6, 0)]
    | 1 => [(0, 0)]
    | 3 => [(3, 0)]
    | 4 => [(4, 0)]
    | _ => [])
  else if k < 89 then (if (k - 7) % 2 = 0 then [(16, (k - 7) / 2)] else [(17, (k - 7) / 2)])
  else if k < 129 then [(10, k - 89), (11, k - 89), (12, k - 89), (13, k - 89), (14, k - 89), (15, k - 89)]
  else (if (k - 129) % 6 = 0 then [(25, (k - 129) / 6), (26, (k - 129) / 6), (27, (k - 129) / 6), (28, (k - 129) / 6), (29, (k - 129) / 6)] else [(19 + (k - 129) % 6, (k - 129) / 6)])
theorem xDep_own : ∀ k, k < 165 → ∀ q ∈ xDep k, xOwn q.1 q.2 = k := by decide +kernel
theorem xG_congr {v v' : Nat → Nat → Nat → Int32} {π : Nat → Nat} {k : Nat} (h : ∀ q ∈ xDep k, v q.1 q.2 = v' q.1 q.2) : xG ca ad (v, π) k = xG ca ad (v', π) k := by
  unfold xG
  unfold xDep at h
  by_cases h1 : k < 7
  · rw [if_pos h1] at h ⊢
    rw [if_pos h1]
    rcases (by omega : k = 0 ∨ k = 1 ∨ k = 2 ∨ k = 3 ∨ k = 4 ∨ k = 5 ∨ k = 6) with rfl | rfl | rfl | rfl | rfl | rfl | rfl <;> simp at h <;> simp [xDesk, h]
  · rw [if_neg h1] at h ⊢
    rw [if_neg h1]
    by_cases h2 : k < 89
    · rw [if_pos h2] at h ⊢
      rw [if_pos h2]
      by_cases h3 : (k - 7) % 2 = 0
      · rw [if_pos h3] at h ⊢
        rw [if_pos h3]
        simp at h
        simp [h]
      · rw [if_neg h3] at h ⊢
        rw [if_neg h3]
        simp at h
        simp [h]
    · rw [if_neg h2] at h ⊢
      rw [if_neg h2]
      by_cases h3 : k < 129
      · rw [if_pos h3] at h ⊢
        rw [if_pos h3]
        simp at h
        simp [xCue, h]
      · rw [if_neg h3] at h ⊢
        rw [if_neg h3]
        by_cases h4 : (k - 129) % 6 = 0
        · rw [if_pos h4] at h ⊢
          rw [if_pos h4]
          simp at h
          simp [xPly, h]
        · rw [if_neg h4] at h ⊢
          rw [if_neg h4]
          simp at h
          simp [h]
/-- an int is written: its cell alone changes -/
theorem xG_set {v : Nat → Nat → Nat → Int32} {π : Nat → Nat} {f j i k0 : Nat} {x : Int32} {e : va_E} (hk : xOwn f j = k0) (he : xG ca ad (up3 v f j i x, π) k0 = e) : ∀ k', k' < 165 → va_up (xG ca ad (v, π)) k0 e k' = xG ca ad (up3 v f j i x, π) k' := by
  intro k' hk'
  by_cases h : k' = k0
  · subst h
    rw [va_up_self, he]
  · rw [va_up_ne _ _ h]
    refine xG_congr (fun q hq => ?_)
    have h1 := xDep_own k' hk' q hq
    funext i'
    by_cases h2 : q.1 = f
    · have h3 : q.2 ≠ j := fun z => h (by rw [← h1, h2, z, hk])
      rw [up3_j h3]
    · rw [up3_f h2]
theorem xs_now {v : Nat → Nat → Nat → Int32} {π : Nat → Nat} {x : Int32} : ∀ k', k' < 165 → va_up (xG ca ad (v, π)) 0 (.inr (5, [.ref (ad 1), .ref (ad 87), .ref (ad 2), .ref (ad 4), .ref (ad 6), .int x, .int (v 6 0 0)])) k' = xG ca ad (up3 v 5 0 0 x, π) k' := by
  refine xG_set (by simp [xOwn]) ?_
  rw [xg_desk]
  simp [xDesk, xCue, xPly, up3]
theorem xs_started {v : Nat → Nat → Nat → Int32} {π : Nat → Nat} {x : Int32} : ∀ k', k' < 165 → va_up (xG ca ad (v, π)) 0 (.inr (5, [.ref (ad 1), .ref (ad 87), .ref (ad 2), .ref (ad 4), .ref (ad 6), .int (v 5 0 0), .int x])) k' = xG ca ad (up3 v 6 0 0 x, π) k' := by
  refine xG_set (by simp [xOwn]) ?_
  rw [xg_desk]
  simp [xDesk, xCue, xPly, up3]
theorem xs_size {v : Nat → Nat → Nat → Int32} {π : Nat → Nat} {x : Int32} : ∀ k', k' < 165 → va_up (xG ca ad (v, π)) 4 (.inr (3, [.ref (ad 5), .int x])) k' = xG ca ad (up3 v 4 0 0 x, π) k' := by
  refine xG_set (by simp [xOwn]) ?_
  rw [xg_book]
  simp [xDesk, xCue, xPly, up3]
theorem xs_held {v : Nat → Nat → Nat → Int32} {π : Nat → Nat} {j : Nat} (h : j < 41) {x : Int32} : ∀ k', k' < 165 → va_up (xG ca ad (v, π)) (7 + 2 * j) (.inr (0, [.ref (ad (8 + 2 * j)), .int x])) k' = xG ca ad (up3 v 16 j 0 x, π) k' := by
  refine xG_set (by simp [xOwn]) ?_
  rw [xg_row h]
  simp [xDesk, xCue, xPly, up3]
theorem xs_clist {v : Nat → Nat → Nat → Int32} {π : Nat → Nat} {j : Nat} (h : j < 40) {x : Int32} : ∀ k', k' < 165 → va_up (xG ca ad (v, π)) (89 + j) (.inr (2, [.ref (ad (7 + 2 * j)), .int x, .int (v 11 j 0), .int (v 12 j 0), .int (v 13 j 0), .int (v 14 j 0), .int (v 15 j 0)])) k' = xG ca ad (up3 v 10 j 0 x, π) k' := by
  refine xG_set (by simp [xOwn]) ?_
  rw [xg_cue h]
  simp [xDesk, xCue, xPly, up3]
theorem xs_cnumber {v : Nat → Nat → Nat → Int32} {π : Nat → Nat} {j : Nat} (h : j < 40) {x : Int32} : ∀ k', k' < 165 → va_up (xG ca ad (v, π)) (89 + j) (.inr (2, [.ref (ad (7 + 2 * j)), .int (v 10 j 0), .int x, .int (v 12 j 0), .int (v 13 j 0), .int (v 14 j 0), .int (v 15 j 0)])) k' = xG ca ad (up3 v 11 j 0 x, π) k' := by
  refine xG_set (by simp [xOwn]) ?_
  rw [xg_cue h]
  simp [xDesk, xCue, xPly, up3]
theorem xs_cup {v : Nat → Nat → Nat → Int32} {π : Nat → Nat} {j : Nat} (h : j < 40) {x : Int32} : ∀ k', k' < 165 → va_up (xG ca ad (v, π)) (89 + j) (.inr (2, [.ref (ad (7 + 2 * j)), .int (v 10 j 0), .int (v 11 j 0), .int x, .int (v 13 j 0), .int (v 14 j 0), .int (v 15 j 0)])) k' = xG ca ad (up3 v 12 j 0 x, π) k' := by
  refine xG_set (by simp [xOwn]) ?_
  rw [xg_cue h]
  simp [xDesk, xCue, xPly, up3]
theorem xs_cdown {v : Nat → Nat → Nat → Int32} {π : Nat → Nat} {j : Nat} (h : j < 40) {x : Int32} : ∀ k', k' < 165 → va_up (xG ca ad (v, π)) (89 + j) (.inr (2, [.ref (ad (7 + 2 * j)), .int (v 10 j 0), .int (v 11 j 0), .int (v 12 j 0), .int x, .int (v 14 j 0), .int (v 15 j 0)])) k' = xG ca ad (up3 v 13 j 0 x, π) k' := by
  refine xG_set (by simp [xOwn]) ?_
  rw [xg_cue h]
  simp [xDesk, xCue, xPly, up3]
theorem xs_cdelay {v : Nat → Nat → Nat → Int32} {π : Nat → Nat} {j : Nat} (h : j < 40) {x : Int32} : ∀ k', k' < 165 → va_up (xG ca ad (v, π)) (89 + j) (.inr (2, [.ref (ad (7 + 2 * j)), .int (v 10 j 0), .int (v 11 j 0), .int (v 12 j 0), .int (v 13 j 0), .int x, .int (v 15 j 0)])) k' = xG ca ad (up3 v 14 j 0 x, π) k' := by
  refine xG_set (by simp [xOwn]) ?_
  rw [xg_cue h]
  simp [xDesk, xCue, xPly, up3]
theorem xs_cfollow {v : Nat → Nat → Nat → Int32} {π : Nat → Nat} {j : Nat} (h : j < 40) {x : Int32} : ∀ k', k' < 165 → va_up (xG ca ad (v, π)) (89 + j) (.inr (2, [.ref (ad (7 + 2 * j)), .int (v 10 j 0), .int (v 11 j 0), .int (v 12 j 0), .int (v 13 j 0), .int (v 14 j 0), .int x])) k' = xG ca ad (up3 v 15 j 0 x, π) k' := by
  refine xG_set (by simp [xOwn]) ?_
  rw [xg_cue h]
  simp [xDesk, xCue, xPly, up3]
theorem xs_plist {v : Nat → Nat → Nat → Int32} {π : Nat → Nat} {j : Nat} (h : j < 6) {x : Int32} : ∀ k', k' < 165 → va_up (xG ca ad (v, π)) (129 + 6 * j) (.inr (4, [.ref (ad (130 + 6 * j)), .ref (ad (131 + 6 * j)), .ref (ad (132 + 6 * j)), .ref (ad (133 + 6 * j)), .ref (ad (134 + 6 * j)), .int x, .int (v 26 j 0), .int (v 27 j 0), .int (v 28 j 0), .int (v 29 j 0)])) k' = xG ca ad (up3 v 25 j 0 x, π) k' := by
  refine xG_set (by simp [xOwn]) ?_
  rw [xg_ply h]
  simp [xDesk, xCue, xPly, up3]
theorem xs_pmaster {v : Nat → Nat → Nat → Int32} {π : Nat → Nat} {j : Nat} (h : j < 6) {x : Int32} : ∀ k', k' < 165 → va_up (xG ca ad (v, π)) (129 + 6 * j) (.inr (4, [.ref (ad (130 + 6 * j)), .ref (ad (131 + 6 * j)), .ref (ad (132 + 6 * j)), .ref (ad (133 + 6 * j)), .ref (ad (134 + 6 * j)), .int (v 25 j 0), .int x, .int (v 27 j 0), .int (v 28 j 0), .int (v 29 j 0)])) k' = xG ca ad (up3 v 26 j 0 x, π) k' := by
  refine xG_set (by simp [xOwn]) ?_
  rw [xg_ply h]
  simp [xDesk, xCue, xPly, up3]
theorem xs_pcurrent {v : Nat → Nat → Nat → Int32} {π : Nat → Nat} {j : Nat} (h : j < 6) {x : Int32} : ∀ k', k' < 165 → va_up (xG ca ad (v, π)) (129 + 6 * j) (.inr (4, [.ref (ad (130 + 6 * j)), .ref (ad (131 + 6 * j)), .ref (ad (132 + 6 * j)), .ref (ad (133 + 6 * j)), .ref (ad (134 + 6 * j)), .int (v 25 j 0), .int (v 26 j 0), .int x, .int (v 28 j 0), .int (v 29 j 0)])) k' = xG ca ad (up3 v 27 j 0 x, π) k' := by
  refine xG_set (by simp [xOwn]) ?_
  rw [xg_ply h]
  simp [xDesk, xCue, xPly, up3]
theorem xs_pstartTick {v : Nat → Nat → Nat → Int32} {π : Nat → Nat} {j : Nat} (h : j < 6) {x : Int32} : ∀ k', k' < 165 → va_up (xG ca ad (v, π)) (129 + 6 * j) (.inr (4, [.ref (ad (130 + 6 * j)), .ref (ad (131 + 6 * j)), .ref (ad (132 + 6 * j)), .ref (ad (133 + 6 * j)), .ref (ad (134 + 6 * j)), .int (v 25 j 0), .int (v 26 j 0), .int (v 27 j 0), .int x, .int (v 29 j 0)])) k' = xG ca ad (up3 v 28 j 0 x, π) k' := by
  refine xG_set (by simp [xOwn]) ?_
  rw [xg_ply h]
  simp [xDesk, xCue, xPly, up3]
theorem xs_pfollowOn {v : Nat → Nat → Nat → Int32} {π : Nat → Nat} {j : Nat} (h : j < 6) {x : Int32} : ∀ k', k' < 165 → va_up (xG ca ad (v, π)) (129 + 6 * j) (.inr (4, [.ref (ad (130 + 6 * j)), .ref (ad (131 + 6 * j)), .ref (ad (132 + 6 * j)), .ref (ad (133 + 6 * j)), .ref (ad (134 + 6 * j)), .int (v 25 j 0), .int (v 26 j 0), .int (v 27 j 0), .int (v 28 j 0), .int x])) k' = xG ca ad (up3 v 29 j 0 x, π) k' := by
  refine xG_set (by simp [xOwn]) ?_
  rw [xg_ply h]
  simp [xDesk, xCue, xPly, up3]
theorem xs_att {v : Nat → Nat → Nat → Int32} {π : Nat → Nat} {i : Nat} {x : Int32} : ∀ k', k' < 165 → va_up (xG ca ad (v, π)) 1 (.inl (ca 1, 64, .inl (upd (v 0 0) i x))) k' = xG ca ad (up3 v 0 0 i x, π) k' := by
  refine xG_set (by simp [xOwn]) ?_
  rw [xg_att]
  show (.inl (ca 1, 64, .inl (up3 v 0 0 i x 0 0)) : va_E) = _
  rw [up3_row]
theorem xs_lev {v : Nat → Nat → Nat → Int32} {π : Nat → Nat} {i : Nat} {x : Int32} : ∀ k', k' < 165 → va_up (xG ca ad (v, π)) 3 (.inl (ca 0, 1024, .inl (upd (v 3 0) i x))) k' = xG ca ad (up3 v 3 0 i x, π) k' := by
  refine xG_set (by simp [xOwn]) ?_
  rw [xg_lev]
  show (.inl (ca 0, 1024, .inl (up3 v 3 0 i x 3 0)) : va_E) = _
  rw [up3_row]
theorem xs_val {v : Nat → Nat → Nat → Int32} {π : Nat → Nat} {j : Nat} (h : j < 41) {i : Nat} {x : Int32} : ∀ k', k' < 165 → va_up (xG ca ad (v, π)) (8 + 2 * j) (.inl (ca 0, 64, .inl (upd (v 17 j) i x))) k' = xG ca ad (up3 v 17 j i x, π) k' := by
  refine xG_set (by simp [xOwn]) ?_
  rw [xg_val h]
  show (.inl (ca 0, 64, .inl (up3 v 17 j i x 17 j)) : va_E) = _
  rw [up3_row]
theorem xs_a0 {v : Nat → Nat → Nat → Int32} {π : Nat → Nat} {j : Nat} (h : j < 6) {i : Nat} {x : Int32} : ∀ k', k' < 165 → va_up (xG ca ad (v, π)) (130 + 6 * j) (.inl (ca 0, 64, .inl (upd (v 20 j) i x))) k' = xG ca ad (up3 v 20 j i x, π) k' := by
  refine xG_set (by simp [xOwn]) ?_
  rw [xg_arr 0 (by decide) h]
  show (.inl (ca 0, 64, .inl (up3 v 20 j i x 20 j)) : va_E) = _
  rw [up3_row]
theorem xs_a1 {v : Nat → Nat → Nat → Int32} {π : Nat → Nat} {j : Nat} (h : j < 6) {i : Nat} {x : Int32} : ∀ k', k' < 165 → va_up (xG ca ad (v, π)) (131 + 6 * j) (.inl (ca 0, 64, .inl (upd (v 21 j) i x))) k' = xG ca ad (up3 v 21 j i x, π) k' := by
  refine xG_set (by simp [xOwn]) ?_
  rw [xg_arr 1 (by decide) h]
  show (.inl (ca 0, 64, .inl (up3 v 21 j i x 21 j)) : va_E) = _
  rw [up3_row]
theorem xs_a2 {v : Nat → Nat → Nat → Int32} {π : Nat → Nat} {j : Nat} (h : j < 6) {i : Nat} {x : Int32} : ∀ k', k' < 165 → va_up (xG ca ad (v, π)) (132 + 6 * j) (.inl (ca 0, 64, .inl (upd (v 22 j) i x))) k' = xG ca ad (up3 v 22 j i x, π) k' := by
  refine xG_set (by simp [xOwn]) ?_
  rw [xg_arr 2 (by decide) h]
  show (.inl (ca 0, 64, .inl (up3 v 22 j i x 22 j)) : va_E) = _
  rw [up3_row]
theorem xs_a3 {v : Nat → Nat → Nat → Int32} {π : Nat → Nat} {j : Nat} (h : j < 6) {i : Nat} {x : Int32} : ∀ k', k' < 165 → va_up (xG ca ad (v, π)) (133 + 6 * j) (.inl (ca 0, 64, .inl (upd (v 23 j) i x))) k' = xG ca ad (up3 v 23 j i x, π) k' := by
  refine xG_set (by simp [xOwn]) ?_
  rw [xg_arr 3 (by decide) h]
  show (.inl (ca 0, 64, .inl (up3 v 23 j i x 23 j)) : va_E) = _
  rw [up3_row]
theorem xs_a4 {v : Nat → Nat → Nat → Int32} {π : Nat → Nat} {j : Nat} (h : j < 6) {i : Nat} {x : Int32} : ∀ k', k' < 165 → va_up (xG ca ad (v, π)) (134 + 6 * j) (.inl (ca 0, 64, .inl (upd (v 24 j) i x))) k' = xG ca ad (up3 v 24 j i x, π) k' := by
  refine xG_set (by simp [xOwn]) ?_
  rw [xg_arr 4 (by decide) h]
  show (.inl (ca 0, 64, .inl (up3 v 24 j i x 24 j)) : va_E) = _
  rw [up3_row]
theorem xs_cues {v : Nat → Nat → Nat → Int32} {π : Nat → Nat} {i o : Nat} : ∀ k', k' < 165 → va_up (xG ca ad (v, π)) 5 (.inl (ca 2, 40, .inr (.inr (.inr (.inr (va_up (fun i => some (ad (89 + π i))) i (some (ad (89 + o)))))))) ) k' = xG ca ad (v, va_up π i o) k' := by
  intro k' hk'
  by_cases h : k' = 5
  · subst h
    have hf : va_up (fun i => some (ad (89 + π i))) i (some (ad (89 + o))) = fun z => some (ad (89 + va_up π i o z)) := by
      funext z
      by_cases hz : z = i
      · subst hz; simp [va_up]
      · simp [va_up, hz]
    rw [va_up_self, xg_cues, hf]
  · rw [va_up_ne _ _ h]
    unfold xG
    by_cases h1 : k' < 7
    · rw [if_pos h1, if_pos h1]
      rcases (by omega : k' = 0 ∨ k' = 1 ∨ k' = 2 ∨ k' = 3 ∨ k' = 4 ∨ k' = 6) with rfl | rfl | rfl | rfl | rfl | rfl <;> rfl
    · rw [if_neg h1, if_neg h1]
end XG
end
section
/-! Words for the class's answers and states -/
def pI (P : Prop) [Decidable P] : Int32 := if P then 1 else 0
theorem pI_no {P : Prop} [Decidable P] (h : pI P = 0) : ¬ P := by
  intro hp
  simp [pI, hp] at h
theorem pI_yes {P : Prop} [Decidable P] (h : ¬ pI P = 0) : P := by
  by_cases hp : P
  · exact hp
  · exact absurd (by simp [pI, hp]) h
theorem pI_nar {P : Prop} [Decidable P] : narrow .boolean (.int (pI P)) = .int (pI P) := by
  by_cases hp : P
  · simp only [pI, hp, if_true]; rfl
  · simp only [pI, hp, if_false]; rfl
abbrev isCh (c : Int32) : Prop := ¬ c < 0 ∧ ¬ 64 ≤ c
abbrev isLv (c : Int32) : Prop := ¬ c < 0 ∧ ¬ 255 < c
abbrev isPal (c : Int32) : Prop := ¬ c < 0 ∧ ¬ 16 ≤ c
abbrev isLst (c : Int32) : Prop := ¬ c < 0 ∧ ¬ 4 ≤ c
abbrev isNum (c : Int32) : Prop := ¬ c < 1 ∧ ¬ 9999 < c
abbrev isPb (c : Int32) : Prop := ¬ c < 0 ∧ ¬ 6 ≤ c
abbrev isTm (c : Int32) : Prop := ¬ c < 0 ∧ ¬ 10000 < c
theorem isCh_nat {c : Int32} (h : isCh c) : ∃ j : Nat, j < 64 ∧ c = nI j := by
  rcases pk_ix c (n := 64) (by decide) with h1 | h1 | h1
  · exact absurd h1 h.1
  · exact absurd h1 h.2
  · exact h1
theorem isPal_nat {c : Int32} (h : isPal c) : ∃ j : Nat, j < 16 ∧ c = nI j := by
  rcases pk_ix c (n := 16) (by decide) with h1 | h1 | h1
  · exact absurd h1 h.1
  · exact absurd h1 h.2
  · exact h1
theorem isPb_nat {c : Int32} (h : isPb c) : ∃ j : Nat, j < 6 ∧ c = nI j := by
  rcases pk_ix c (n := 6) (by decide) with h1 | h1 | h1
  · exact absurd h1 h.1
  · exact absurd h1 h.2
  · exact h1
/-- a row's put and drop, of the row j -/
def vPut (v : Nat → Nat → Nat → Int32) (j ch : Nat) (x : Int32) : Nat → Nat → Nat → Int32 := if v 17 j ch = -1 then up3 (up3 v 16 j 0 (v 16 j 0 + 1)) 17 j ch x else up3 v 17 j ch x
def vDrop (v : Nat → Nat → Nat → Int32) (j ch : Nat) : Nat → Nat → Nat → Int32 := if v 17 j ch = -1 then up3 v 17 j ch (-1) else up3 (up3 v 16 j 0 (v 16 j 0 - 1)) 17 j ch (-1)
/-- a value's level on a channel -/
def vLev (v : Nat → Nat → Nat → Int32) (x : Int32) (ch : Nat) : Int32 := if x < 0 then -1 else if 272 ≤ x then -1 else if x < 256 then x else v 3 0 ((x.toNatClampNeg - 256) * 64 + ch)
/-- a playback's level of a channel at a tick -/
def vFade (fr to bg ln x : Int32) : Int32 := if 0 ≤ x - bg then (if x - bg < ln then fr + (to - fr) * (x - bg) / ln else to) else fr
def vAt (v : Nat → Nat → Nat → Int32) (j ch : Nat) (x : Int32) : Int32 := vFade (v 20 j ch) (v 21 j ch) (v 22 j ch) (v 23 j ch) x
theorem kb_V {j : Nat} (h : j < 41) : 7 + 2 * j < 165 := by omega
theorem kb_W {j : Nat} (h : j < 41) : 8 + 2 * j < 165 := by omega
theorem kb_C {j : Nat} (h : j < 40) : 89 + j < 165 := by omega
theorem kb_Y {j : Nat} (h : j < 6) : 129 + 6 * j < 165 := by omega
theorem kb_A {j : Nat} (t : Nat) (ht : t < 5) (h : j < 6) : 130 + t + 6 * j < 165 := by omega
end
section
/-! The class: methods without loops (printed by wip/gen/gen_x1.py) -/
set_option maxRecDepth 100000 in
set_option maxHeartbeats 4000000 in
theorem c_D_isChannel {l : Launch} {D : va_G} {ca : Nat → ClassId} {ad : Nat → Nat} (hJ : uJ 165 ad) (v : Nat → Nat → Nat → Int32) (π : Nat → Nat) (x0 : Int32) : uMi l y_D_isChannel b_D_isChannel 1 (some .boolean) 0 0 D clsAll (tysAll ca) 165 ad (xG ca ad) (v, π) [.int x0] (fun r u => u = (v, π) ∧ r = pI (isCh x0)) := by
  refine uStart (by decide) (Nat.le_of_ble_eq_true rfl) ?_
  intro p e s m below meth c ls S hr hlk hK hN hP hl
  have hU : ∀ w ∈ uWS, w ∈ (Cond.code y_D_isChannel b_D_isChannel 1 (some .boolean) :: uWS) := fun w h => List.mem_cons_of_mem _ h
  have hS : va_S (uA 165 ad s.heap.size) s.heap s.heap [] := va_S.rf
  have hl : lv_has ls 1 [(0, .int x0)] := hl
  refine lv_iload_n S.1 S.2.1 d_D_isChannel_0 rfl (lv_at hl 0 rfl) ?_
  refine lv_if_lt (tgt := 14) S.1 S.2.1 d_D_isChannel_1 (by decide) (fun c_1 => ?_) (fun c_1 => ?_)
  · refine lv_iconst (v := 0) S.1 S.2.1 d_D_isChannel_14 (by decide) ?_
    exact uZret S hr hlk rfl (v, π) hP hS (by refine ⟨rfl, ?_⟩; simp [pI, c_1]) d_D_isChannel_15
  · refine lv_iload_n S.1 S.2.1 d_D_isChannel_4 rfl (lv_at hl 0 rfl) ?_
    refine lv_bipush (v := 64) S.1 S.2.1 d_D_isChannel_5 (by decide) ?_
    refine lv_icmp_ge (tgt := 14) S.1 S.2.1 d_D_isChannel_7 (by decide) (fun c_2 => ?_) (fun c_2 => ?_)
    · refine lv_iconst (v := 0) S.1 S.2.1 d_D_isChannel_14 (by decide) ?_
      exact uZret S hr hlk rfl (v, π) hP hS (by refine ⟨rfl, ?_⟩; simp [pI, c_1, c_2]) d_D_isChannel_15
    · refine lv_iconst (v := 1) S.1 S.2.1 d_D_isChannel_10 (by decide) ?_
      refine lv_goto (tgt := 15) S.1 S.2.1 d_D_isChannel_11 (by decide) ?_
      exact uZret S hr hlk rfl (v, π) hP hS (by refine ⟨rfl, ?_⟩; simp [pI, c_1, c_2]) d_D_isChannel_15

set_option maxRecDepth 100000 in
set_option maxHeartbeats 4000000 in
theorem c_D_isLevel {l : Launch} {D : va_G} {ca : Nat → ClassId} {ad : Nat → Nat} (hJ : uJ 165 ad) (v : Nat → Nat → Nat → Int32) (π : Nat → Nat) (x0 : Int32) : uMi l y_D_isLevel b_D_isLevel 1 (some .boolean) 0 0 D clsAll (tysAll ca) 165 ad (xG ca ad) (v, π) [.int x0] (fun r u => u = (v, π) ∧ r = pI (isLv x0)) := by
  refine uStart (by decide) (Nat.le_of_ble_eq_true rfl) ?_
  intro p e s m below meth c ls S hr hlk hK hN hP hl
  have hU : ∀ w ∈ uWS, w ∈ (Cond.code y_D_isLevel b_D_isLevel 1 (some .boolean) :: uWS) := fun w h => List.mem_cons_of_mem _ h
  have hS : va_S (uA 165 ad s.heap.size) s.heap s.heap [] := va_S.rf
  have hl : lv_has ls 1 [(0, .int x0)] := hl
  refine lv_iload_n S.1 S.2.1 d_D_isLevel_0 rfl (lv_at hl 0 rfl) ?_
  refine lv_if_lt (tgt := 15) S.1 S.2.1 d_D_isLevel_1 (by decide) (fun c_1 => ?_) (fun c_1 => ?_)
  · refine lv_iconst (v := 0) S.1 S.2.1 d_D_isLevel_15 (by decide) ?_
    exact uZret S hr hlk rfl (v, π) hP hS (by refine ⟨rfl, ?_⟩; simp [pI, c_1]) d_D_isLevel_16
  · refine lv_iload_n S.1 S.2.1 d_D_isLevel_4 rfl (lv_at hl 0 rfl) ?_
    refine lv_sipush (v := 255) S.1 S.2.1 d_D_isLevel_5 (by decide) ?_
    refine lv_icmp_gt (tgt := 15) S.1 S.2.1 d_D_isLevel_8 (by decide) (fun c_2 => ?_) (fun c_2 => ?_)
    · refine lv_iconst (v := 0) S.1 S.2.1 d_D_isLevel_15 (by decide) ?_
      exact uZret S hr hlk rfl (v, π) hP hS (by refine ⟨rfl, ?_⟩; simp [pI, c_1, c_2]) d_D_isLevel_16
    · refine lv_iconst (v := 1) S.1 S.2.1 d_D_isLevel_11 (by decide) ?_
      refine lv_goto (tgt := 16) S.1 S.2.1 d_D_isLevel_12 (by decide) ?_
      exact uZret S hr hlk rfl (v, π) hP hS (by refine ⟨rfl, ?_⟩; simp [pI, c_1, c_2]) d_D_isLevel_16

set_option maxRecDepth 100000 in
set_option maxHeartbeats 4000000 in
theorem c_D_isPalette {l : Launch} {D : va_G} {ca : Nat → ClassId} {ad : Nat → Nat} (hJ : uJ 165 ad) (v : Nat → Nat → Nat → Int32) (π : Nat → Nat) (x0 : Int32) : uMi l y_D_isPalette b_D_isPalette 1 (some .boolean) 0 0 D clsAll (tysAll ca) 165 ad (xG ca ad) (v, π) [.int x0] (fun r u => u = (v, π) ∧ r = pI (isPal x0)) := by
  refine uStart (by decide) (Nat.le_of_ble_eq_true rfl) ?_
  intro p e s m below meth c ls S hr hlk hK hN hP hl
  have hU : ∀ w ∈ uWS, w ∈ (Cond.code y_D_isPalette b_D_isPalette 1 (some .boolean) :: uWS) := fun w h => List.mem_cons_of_mem _ h
  have hS : va_S (uA 165 ad s.heap.size) s.heap s.heap [] := va_S.rf
  have hl : lv_has ls 1 [(0, .int x0)] := hl
  refine lv_iload_n S.1 S.2.1 d_D_isPalette_0 rfl (lv_at hl 0 rfl) ?_
  refine lv_if_lt (tgt := 14) S.1 S.2.1 d_D_isPalette_1 (by decide) (fun c_1 => ?_) (fun c_1 => ?_)
  · refine lv_iconst (v := 0) S.1 S.2.1 d_D_isPalette_14 (by decide) ?_
    exact uZret S hr hlk rfl (v, π) hP hS (by refine ⟨rfl, ?_⟩; simp [pI, c_1]) d_D_isPalette_15
  · refine lv_iload_n S.1 S.2.1 d_D_isPalette_4 rfl (lv_at hl 0 rfl) ?_
    refine lv_bipush (v := 16) S.1 S.2.1 d_D_isPalette_5 (by decide) ?_
    refine lv_icmp_ge (tgt := 14) S.1 S.2.1 d_D_isPalette_7 (by decide) (fun c_2 => ?_) (fun c_2 => ?_)
    · refine lv_iconst (v := 0) S.1 S.2.1 d_D_isPalette_14 (by decide) ?_
      exact uZret S hr hlk rfl (v, π) hP hS (by refine ⟨rfl, ?_⟩; simp [pI, c_1, c_2]) d_D_isPalette_15
    · refine lv_iconst (v := 1) S.1 S.2.1 d_D_isPalette_10 (by decide) ?_
      refine lv_goto (tgt := 15) S.1 S.2.1 d_D_isPalette_11 (by decide) ?_
      exact uZret S hr hlk rfl (v, π) hP hS (by refine ⟨rfl, ?_⟩; simp [pI, c_1, c_2]) d_D_isPalette_15

set_option maxRecDepth 100000 in
set_option maxHeartbeats 4000000 in
theorem c_D_isList {l : Launch} {D : va_G} {ca : Nat → ClassId} {ad : Nat → Nat} (hJ : uJ 165 ad) (v : Nat → Nat → Nat → Int32) (π : Nat → Nat) (x0 : Int32) : uMi l y_D_isList b_D_isList 1 (some .boolean) 0 0 D clsAll (tysAll ca) 165 ad (xG ca ad) (v, π) [.int x0] (fun r u => u = (v, π) ∧ r = pI (isLst x0)) := by
  refine uStart (by decide) (Nat.le_of_ble_eq_true rfl) ?_
  intro p e s m below meth c ls S hr hlk hK hN hP hl
  have hU : ∀ w ∈ uWS, w ∈ (Cond.code y_D_isList b_D_isList 1 (some .boolean) :: uWS) := fun w h => List.mem_cons_of_mem _ h
  have hS : va_S (uA 165 ad s.heap.size) s.heap s.heap [] := va_S.rf
  have hl : lv_has ls 1 [(0, .int x0)] := hl
  refine lv_iload_n S.1 S.2.1 d_D_isList_0 rfl (lv_at hl 0 rfl) ?_
  refine lv_if_lt (tgt := 13) S.1 S.2.1 d_D_isList_1 (by decide) (fun c_1 => ?_) (fun c_1 => ?_)
  · refine lv_iconst (v := 0) S.1 S.2.1 d_D_isList_13 (by decide) ?_
    exact uZret S hr hlk rfl (v, π) hP hS (by refine ⟨rfl, ?_⟩; simp [pI, c_1]) d_D_isList_14
  · refine lv_iload_n S.1 S.2.1 d_D_isList_4 rfl (lv_at hl 0 rfl) ?_
    refine lv_iconst (v := 4) S.1 S.2.1 d_D_isList_5 (by decide) ?_
    refine lv_icmp_ge (tgt := 13) S.1 S.2.1 d_D_isList_6 (by decide) (fun c_2 => ?_) (fun c_2 => ?_)
    · refine lv_iconst (v := 0) S.1 S.2.1 d_D_isList_13 (by decide) ?_
      exact uZret S hr hlk rfl (v, π) hP hS (by refine ⟨rfl, ?_⟩; simp [pI, c_1, c_2]) d_D_isList_14
    · refine lv_iconst (v := 1) S.1 S.2.1 d_D_isList_9 (by decide) ?_
      refine lv_goto (tgt := 14) S.1 S.2.1 d_D_isList_10 (by decide) ?_
      exact uZret S hr hlk rfl (v, π) hP hS (by refine ⟨rfl, ?_⟩; simp [pI, c_1, c_2]) d_D_isList_14

set_option maxRecDepth 100000 in
set_option maxHeartbeats 4000000 in
theorem c_D_isNumber {l : Launch} {D : va_G} {ca : Nat → ClassId} {ad : Nat → Nat} (hJ : uJ 165 ad) (v : Nat → Nat → Nat → Int32) (π : Nat → Nat) (x0 : Int32) : uMi l y_D_isNumber b_D_isNumber 1 (some .boolean) 0 0 D clsAll (tysAll ca) 165 ad (xG ca ad) (v, π) [.int x0] (fun r u => u = (v, π) ∧ r = pI (isNum x0)) := by
  refine uStart (by decide) (Nat.le_of_ble_eq_true rfl) ?_
  intro p e s m below meth c ls S hr hlk hK hN hP hl
  have hU : ∀ w ∈ uWS, w ∈ (Cond.code y_D_isNumber b_D_isNumber 1 (some .boolean) :: uWS) := fun w h => List.mem_cons_of_mem _ h
  have hS : va_S (uA 165 ad s.heap.size) s.heap s.heap [] := va_S.rf
  have hl : lv_has ls 1 [(0, .int x0)] := hl
  refine lv_iload_n S.1 S.2.1 d_D_isNumber_0 rfl (lv_at hl 0 rfl) ?_
  refine lv_iconst (v := 1) S.1 S.2.1 d_D_isNumber_1 (by decide) ?_
  refine lv_icmp_lt (tgt := 16) S.1 S.2.1 d_D_isNumber_2 (by decide) (fun c_1 => ?_) (fun c_1 => ?_)
  · refine lv_iconst (v := 0) S.1 S.2.1 d_D_isNumber_16 (by decide) ?_
    exact uZret S hr hlk rfl (v, π) hP hS (by refine ⟨rfl, ?_⟩; simp [pI, c_1]) d_D_isNumber_17
  · refine lv_iload_n S.1 S.2.1 d_D_isNumber_5 rfl (lv_at hl 0 rfl) ?_
    refine lv_sipush (v := 9999) S.1 S.2.1 d_D_isNumber_6 (by decide) ?_
    refine lv_icmp_gt (tgt := 16) S.1 S.2.1 d_D_isNumber_9 (by decide) (fun c_2 => ?_) (fun c_2 => ?_)
    · refine lv_iconst (v := 0) S.1 S.2.1 d_D_isNumber_16 (by decide) ?_
      exact uZret S hr hlk rfl (v, π) hP hS (by refine ⟨rfl, ?_⟩; simp [pI, c_1, c_2]) d_D_isNumber_17
    · refine lv_iconst (v := 1) S.1 S.2.1 d_D_isNumber_12 (by decide) ?_
      refine lv_goto (tgt := 17) S.1 S.2.1 d_D_isNumber_13 (by decide) ?_
      exact uZret S hr hlk rfl (v, π) hP hS (by refine ⟨rfl, ?_⟩; simp [pI, c_1, c_2]) d_D_isNumber_17

set_option maxRecDepth 100000 in
set_option maxHeartbeats 4000000 in
theorem c_D_isPlayback {l : Launch} {D : va_G} {ca : Nat → ClassId} {ad : Nat → Nat} (hJ : uJ 165 ad) (v : Nat → Nat → Nat → Int32) (π : Nat → Nat) (x0 : Int32) : uMi l y_D_isPlayback b_D_isPlayback 1 (some .boolean) 0 0 D clsAll (tysAll ca) 165 ad (xG ca ad) (v, π) [.int x0] (fun r u => u = (v, π) ∧ r = pI (isPb x0)) := by
  refine uStart (by decide) (Nat.le_of_ble_eq_true rfl) ?_
  intro p e s m below meth c ls S hr hlk hK hN hP hl
  have hU : ∀ w ∈ uWS, w ∈ (Cond.code y_D_isPlayback b_D_isPlayback 1 (some .boolean) :: uWS) := fun w h => List.mem_cons_of_mem _ h
  have hS : va_S (uA 165 ad s.heap.size) s.heap s.heap [] := va_S.rf
  have hl : lv_has ls 1 [(0, .int x0)] := hl
  refine lv_iload_n S.1 S.2.1 d_D_isPlayback_0 rfl (lv_at hl 0 rfl) ?_
  refine lv_if_lt (tgt := 14) S.1 S.2.1 d_D_isPlayback_1 (by decide) (fun c_1 => ?_) (fun c_1 => ?_)
  · refine lv_iconst (v := 0) S.1 S.2.1 d_D_isPlayback_14 (by decide) ?_
    exact uZret S hr hlk rfl (v, π) hP hS (by refine ⟨rfl, ?_⟩; simp [pI, c_1]) d_D_isPlayback_15
  · refine lv_iload_n S.1 S.2.1 d_D_isPlayback_4 rfl (lv_at hl 0 rfl) ?_
    refine lv_bipush (v := 6) S.1 S.2.1 d_D_isPlayback_5 (by decide) ?_
    refine lv_icmp_ge (tgt := 14) S.1 S.2.1 d_D_isPlayback_7 (by decide) (fun c_2 => ?_) (fun c_2 => ?_)
    · refine lv_iconst (v := 0) S.1 S.2.1 d_D_isPlayback_14 (by decide) ?_
      exact uZret S hr hlk rfl (v, π) hP hS (by refine ⟨rfl, ?_⟩; simp [pI, c_1, c_2]) d_D_isPlayback_15
    · refine lv_iconst (v := 1) S.1 S.2.1 d_D_isPlayback_10 (by decide) ?_
      refine lv_goto (tgt := 15) S.1 S.2.1 d_D_isPlayback_11 (by decide) ?_
      exact uZret S hr hlk rfl (v, π) hP hS (by refine ⟨rfl, ?_⟩; simp [pI, c_1, c_2]) d_D_isPlayback_15

set_option maxRecDepth 100000 in
set_option maxHeartbeats 4000000 in
theorem c_D_isTime {l : Launch} {D : va_G} {ca : Nat → ClassId} {ad : Nat → Nat} (hJ : uJ 165 ad) (v : Nat → Nat → Nat → Int32) (π : Nat → Nat) (x0 : Int32) : uMi l y_D_isTime b_D_isTime 1 (some .boolean) 0 0 D clsAll (tysAll ca) 165 ad (xG ca ad) (v, π) [.int x0] (fun r u => u = (v, π) ∧ r = pI (isTm x0)) := by
  refine uStart (by decide) (Nat.le_of_ble_eq_true rfl) ?_
  intro p e s m below meth c ls S hr hlk hK hN hP hl
  have hU : ∀ w ∈ uWS, w ∈ (Cond.code y_D_isTime b_D_isTime 1 (some .boolean) :: uWS) := fun w h => List.mem_cons_of_mem _ h
  have hS : va_S (uA 165 ad s.heap.size) s.heap s.heap [] := va_S.rf
  have hl : lv_has ls 1 [(0, .int x0)] := hl
  refine lv_iload_n S.1 S.2.1 d_D_isTime_0 rfl (lv_at hl 0 rfl) ?_
  refine lv_if_lt (tgt := 15) S.1 S.2.1 d_D_isTime_1 (by decide) (fun c_1 => ?_) (fun c_1 => ?_)
  · refine lv_iconst (v := 0) S.1 S.2.1 d_D_isTime_15 (by decide) ?_
    exact uZret S hr hlk rfl (v, π) hP hS (by refine ⟨rfl, ?_⟩; simp [pI, c_1]) d_D_isTime_16
  · refine lv_iload_n S.1 S.2.1 d_D_isTime_4 rfl (lv_at hl 0 rfl) ?_
    refine lv_sipush (v := 10000) S.1 S.2.1 d_D_isTime_5 (by decide) ?_
    refine lv_icmp_gt (tgt := 15) S.1 S.2.1 d_D_isTime_8 (by decide) (fun c_2 => ?_) (fun c_2 => ?_)
    · refine lv_iconst (v := 0) S.1 S.2.1 d_D_isTime_15 (by decide) ?_
      exact uZret S hr hlk rfl (v, π) hP hS (by refine ⟨rfl, ?_⟩; simp [pI, c_1, c_2]) d_D_isTime_16
    · refine lv_iconst (v := 1) S.1 S.2.1 d_D_isTime_11 (by decide) ?_
      refine lv_goto (tgt := 16) S.1 S.2.1 d_D_isTime_12 (by decide) ?_
      exact uZret S hr hlk rfl (v, π) hP hS (by refine ⟨rfl, ?_⟩; simp [pI, c_1, c_2]) d_D_isTime_16

set_option maxRecDepth 100000 in
set_option maxHeartbeats 4000000 in
theorem c_V_has {l : Launch} {D : va_G} {ca : Nat → ClassId} {ad : Nat → Nat} (hJ : uJ 165 ad) (v : Nat → Nat → Nat → Int32) (π : Nat → Nat) (j ch : Nat) (hj : j < 41) (hch : ch < 64) : uMi l y_V_has b_V_has 2 (some .boolean) 0 0 D clsAll (tysAll ca) 165 ad (xG ca ad) (v, π) [.ref (ad (7 + 2 * j)), .int (nI ch)] (fun r u => u = (v, π) ∧ r = pI (¬ v 17 j ch = -1)) := by
  refine uStart (by decide) (Nat.le_of_ble_eq_true rfl) ?_
  intro p e s m below meth c ls S hr hlk hK hN hP hl
  have hU : ∀ w ∈ uWS, w ∈ (Cond.code y_V_has b_V_has 2 (some .boolean) :: uWS) := fun w h => List.mem_cons_of_mem _ h
  have hS : va_S (uA 165 ad s.heap.size) s.heap s.heap [] := va_S.rf
  have hl : lv_has ls 2 [(0, .ref (ad (7 + 2 * j))), (1, .int (nI ch))] := hl
  refine lv_aload_n S.1 S.2.1 d_V_has_0 rfl (lv_at hl 0 rfl) ?_
  refine ur_get (k := (7 + 2 * j)) (v := .ref (ad (8 + 2 * j))) S hK hP (kb_V hj) (xg_row hj) rfl (fun w h => hU w (in_V w h)) 0 (by decide) (hU _ t1_35) rfl d_V_has_1 ?_
  refine lv_iload_n S.1 S.2.1 d_V_has_4 rfl (lv_at hl 1 rfl) ?_
  refine ur_iald (k := (8 + 2 * j)) (f := (v 17 j)) (j := ch) S hK hP (kb_W hj) 0 (xg_val hj) rfl rfl hch (by decide) d_V_has_5 ?_
  refine lv_iconst (v := (-1)) S.1 S.2.1 d_V_has_6 (by decide) ?_
  refine lv_icmp_eq (tgt := 14) S.1 S.2.1 d_V_has_7 (by decide) (fun c_1 => ?_) (fun c_1 => ?_)
  · refine lv_iconst (v := 0) S.1 S.2.1 d_V_has_14 (by decide) ?_
    exact uZret S hr hlk rfl (v, π) hP hS (by refine ⟨rfl, ?_⟩; simp [pI, c_1]) d_V_has_15
  · refine lv_iconst (v := 1) S.1 S.2.1 d_V_has_10 (by decide) ?_
    refine lv_goto (tgt := 15) S.1 S.2.1 d_V_has_11 (by decide) ?_
    exact uZret S hr hlk rfl (v, π) hP hS (by refine ⟨rfl, ?_⟩; simp [pI, c_1]) d_V_has_15

set_option maxRecDepth 100000 in
set_option maxHeartbeats 4000000 in
theorem c_V_valueAt {l : Launch} {D : va_G} {ca : Nat → ClassId} {ad : Nat → Nat} (hJ : uJ 165 ad) (v : Nat → Nat → Nat → Int32) (π : Nat → Nat) (j ch : Nat) (hj : j < 41) (hch : ch < 64) : uMi l y_V_valueAt b_V_valueAt 2 (some .int) 0 0 D clsAll (tysAll ca) 165 ad (xG ca ad) (v, π) [.ref (ad (7 + 2 * j)), .int (nI ch)] (fun r u => u = (v, π) ∧ r = v 17 j ch) := by
  refine uStart (by decide) (Nat.le_of_ble_eq_true rfl) ?_
  intro p e s m below meth c ls S hr hlk hK hN hP hl
  have hU : ∀ w ∈ uWS, w ∈ (Cond.code y_V_valueAt b_V_valueAt 2 (some .int) :: uWS) := fun w h => List.mem_cons_of_mem _ h
  have hS : va_S (uA 165 ad s.heap.size) s.heap s.heap [] := va_S.rf
  have hl : lv_has ls 2 [(0, .ref (ad (7 + 2 * j))), (1, .int (nI ch))] := hl
  refine lv_aload_n S.1 S.2.1 d_V_valueAt_0 rfl (lv_at hl 0 rfl) ?_
  refine ur_get (k := (7 + 2 * j)) (v := .ref (ad (8 + 2 * j))) S hK hP (kb_V hj) (xg_row hj) rfl (fun w h => hU w (in_V w h)) 0 (by decide) (hU _ t1_35) rfl d_V_valueAt_1 ?_
  refine lv_iload_n S.1 S.2.1 d_V_valueAt_4 rfl (lv_at hl 1 rfl) ?_
  refine ur_iald (k := (8 + 2 * j)) (f := (v 17 j)) (j := ch) S hK hP (kb_W hj) 0 (xg_val hj) rfl rfl hch (by decide) d_V_valueAt_5 ?_
  exact uIret S hr hlk (v, π) hP hS (by refine ⟨rfl, ?_⟩; simp [pI]) d_V_valueAt_6

set_option maxRecDepth 100000 in
set_option maxHeartbeats 4000000 in
theorem c_V_put {l : Launch} {D : va_G} {ca : Nat → ClassId} {ad : Nat → Nat} (hJ : uJ 165 ad) (v : Nat → Nat → Nat → Int32) (π : Nat → Nat) (j ch : Nat) (hj : j < 41) (hch : ch < 64) (x : Int32) : uMv l y_V_put b_V_put 3 (none : Option Jvm.ClassFile.FieldType) 0 0 D clsAll (tysAll ca) 165 ad (xG ca ad) (v, π) [.ref (ad (7 + 2 * j)), .int (nI ch), .int x] (fun u => u = (vPut v j ch x, π)) := by
  refine uStart (by decide) (Nat.le_of_ble_eq_true rfl) ?_
  intro p e s m below meth c ls S hr hlk hK hN hP hl
  have hU : ∀ w ∈ uWS, w ∈ (Cond.code y_V_put b_V_put 3 (none : Option Jvm.ClassFile.FieldType) :: uWS) := fun w h => List.mem_cons_of_mem _ h
  have hS : va_S (uA 165 ad s.heap.size) s.heap s.heap [] := va_S.rf
  have hl : lv_has ls 3 [(0, .ref (ad (7 + 2 * j))), (1, .int (nI ch)), (2, .int x)] := hl
  refine lv_aload_n S.1 S.2.1 d_V_put_0 rfl (lv_at hl 0 rfl) ?_
  refine ur_get (k := (7 + 2 * j)) (v := .ref (ad (8 + 2 * j))) S hK hP (kb_V hj) (xg_row hj) rfl (fun w h => hU w (in_V w h)) 0 (by decide) (hU _ t1_35) rfl d_V_put_1 ?_
  refine lv_iload_n S.1 S.2.1 d_V_put_4 rfl (lv_at hl 1 rfl) ?_
  refine ur_iald (k := (8 + 2 * j)) (f := (v 17 j)) (j := ch) S hK hP (kb_W hj) 0 (xg_val hj) rfl rfl hch (by decide) d_V_put_5 ?_
  refine lv_iconst (v := (-1)) S.1 S.2.1 d_V_put_6 (by decide) ?_
  refine lv_icmp_ne (tgt := 20) S.1 S.2.1 d_V_put_7 (by decide) (fun c_1 => ?_) (fun c_1 => ?_)
  · refine lv_aload_n S.1 S.2.1 d_V_put_20 rfl (lv_at hl 0 rfl) ?_
    refine ur_get (k := (7 + 2 * j)) (v := .ref (ad (8 + 2 * j))) S hK hP (kb_V hj) (xg_row hj) rfl (fun w h => hU w (in_V w h)) 0 (by decide) (hU _ t1_35) rfl d_V_put_21 ?_
    refine lv_iload_n S.1 S.2.1 d_V_put_24 rfl (lv_at hl 1 rfl) ?_
    refine lv_iload_n S.1 S.2.1 d_V_put_25 rfl (lv_at hl 2 rfl) ?_
    refine ur_iast (k := (8 + 2 * j)) (f := (v 17 j)) (j := ch) (g' := xG ca ad (up3 v 17 j ch x, π)) S hK hP (uD _ hJ) hS (kb_W hj) 0 (xg_val hj) rfl rfl hch (by decide) (xs_val hj) d_V_put_26 (fun H locs hP hS => ?_)
    exact uVret S hr hlk ((up3 v 17 j ch x), π) hP hS (by simp [vPut, c_1]) d_V_put_27
  · refine lv_aload_n S.1 S.2.1 d_V_put_10 rfl (lv_at hl 0 rfl) ?_
    refine lv_dup S.1 S.2.1 d_V_put_11 rfl ?_
    refine ur_get (k := (7 + 2 * j)) (v := .int (v 16 j 0)) S hK hP (kb_V hj) (xg_row hj) rfl (fun w h => hU w (in_V w h)) 1 (by decide) (hU _ t1_36) rfl d_V_put_12 ?_
    refine lv_iconst (v := 1) S.1 S.2.1 d_V_put_15 (by decide) ?_
    refine lv_iadd S.1 S.2.1 d_V_put_16 ?_
    refine lv_topi (fun x_2 ex_2 => ?_)
    refine ur_put (k := (7 + 2 * j)) (v := .int x_2) (g' := xG ca ad (up3 v 16 j 0 x_2, π)) S hK hP (uD _ hJ) hS (kb_V hj) (xg_row hj) rfl (fun w h => hU w (in_V w h)) ty_V tyk_V nm_V 1 (by decide) (hU _ t1_36) rfl rfl rfl (Nat.le_of_ble_eq_true rfl) (xs_held hj) d_V_put_17 (fun H locs hP hS => ?_)
    refine lv_aload_n S.1 S.2.1 d_V_put_20 rfl (lv_at hl 0 rfl) ?_
    refine ur_get (k := (7 + 2 * j)) (v := .ref (ad (8 + 2 * j))) S hK hP (kb_V hj) (xg_row hj) rfl (fun w h => hU w (in_V w h)) 0 (by decide) (hU _ t1_35) rfl d_V_put_21 ?_
    refine lv_iload_n S.1 S.2.1 d_V_put_24 rfl (lv_at hl 1 rfl) ?_
    refine lv_iload_n S.1 S.2.1 d_V_put_25 rfl (lv_at hl 2 rfl) ?_
    refine ur_iast (k := (8 + 2 * j)) (f := ((up3 v 16 j 0 x_2) 17 j)) (j := ch) (g' := xG ca ad (up3 (up3 v 16 j 0 x_2) 17 j ch x, π)) S hK hP (uD _ hJ) hS (kb_W hj) 0 (xg_val hj) rfl rfl hch (by decide) (xs_val hj) d_V_put_26 (fun H locs hP hS => ?_)
    exact uVret S hr hlk ((up3 (up3 v 16 j 0 x_2) 17 j ch x), π) hP hS (by simp [vPut, c_1, ex_2]) d_V_put_27

set_option maxRecDepth 100000 in
set_option maxHeartbeats 4000000 in
theorem c_V_drop {l : Launch} {D : va_G} {ca : Nat → ClassId} {ad : Nat → Nat} (hJ : uJ 165 ad) (v : Nat → Nat → Nat → Int32) (π : Nat → Nat) (j ch : Nat) (hj : j < 41) (hch : ch < 64) : uMv l y_V_drop b_V_drop 2 (none : Option Jvm.ClassFile.FieldType) 0 0 D clsAll (tysAll ca) 165 ad (xG ca ad) (v, π) [.ref (ad (7 + 2 * j)), .int (nI ch)] (fun u => u = (vDrop v j ch, π)) := by
  refine uStart (by decide) (Nat.le_of_ble_eq_true rfl) ?_
  intro p e s m below meth c ls S hr hlk hK hN hP hl
  have hU : ∀ w ∈ uWS, w ∈ (Cond.code y_V_drop b_V_drop 2 (none : Option Jvm.ClassFile.FieldType) :: uWS) := fun w h => List.mem_cons_of_mem _ h
  have hS : va_S (uA 165 ad s.heap.size) s.heap s.heap [] := va_S.rf
  have hl : lv_has ls 2 [(0, .ref (ad (7 + 2 * j))), (1, .int (nI ch))] := hl
  refine lv_aload_n S.1 S.2.1 d_V_drop_0 rfl (lv_at hl 0 rfl) ?_
  refine ur_get (k := (7 + 2 * j)) (v := .ref (ad (8 + 2 * j))) S hK hP (kb_V hj) (xg_row hj) rfl (fun w h => hU w (in_V w h)) 0 (by decide) (hU _ t1_35) rfl d_V_drop_1 ?_
  refine lv_iload_n S.1 S.2.1 d_V_drop_4 rfl (lv_at hl 1 rfl) ?_
  refine ur_iald (k := (8 + 2 * j)) (f := (v 17 j)) (j := ch) S hK hP (kb_W hj) 0 (xg_val hj) rfl rfl hch (by decide) d_V_drop_5 ?_
  refine lv_iconst (v := (-1)) S.1 S.2.1 d_V_drop_6 (by decide) ?_
  refine lv_icmp_eq (tgt := 20) S.1 S.2.1 d_V_drop_7 (by decide) (fun c_1 => ?_) (fun c_1 => ?_)
  · refine lv_aload_n S.1 S.2.1 d_V_drop_20 rfl (lv_at hl 0 rfl) ?_
    refine ur_get (k := (7 + 2 * j)) (v := .ref (ad (8 + 2 * j))) S hK hP (kb_V hj) (xg_row hj) rfl (fun w h => hU w (in_V w h)) 0 (by decide) (hU _ t1_35) rfl d_V_drop_21 ?_
    refine lv_iload_n S.1 S.2.1 d_V_drop_24 rfl (lv_at hl 1 rfl) ?_
    refine lv_iconst (v := (-1)) S.1 S.2.1 d_V_drop_25 (by decide) ?_
    refine ur_iast (k := (8 + 2 * j)) (f := (v 17 j)) (j := ch) (g' := xG ca ad (up3 v 17 j ch (-1), π)) S hK hP (uD _ hJ) hS (kb_W hj) 0 (xg_val hj) rfl rfl hch (by decide) (xs_val hj) d_V_drop_26 (fun H locs hP hS => ?_)
    exact uVret S hr hlk ((up3 v 17 j ch (-1)), π) hP hS (by simp [vDrop, c_1]) d_V_drop_27
  · refine lv_aload_n S.1 S.2.1 d_V_drop_10 rfl (lv_at hl 0 rfl) ?_
    refine lv_dup S.1 S.2.1 d_V_drop_11 rfl ?_
    refine ur_get (k := (7 + 2 * j)) (v := .int (v 16 j 0)) S hK hP (kb_V hj) (xg_row hj) rfl (fun w h => hU w (in_V w h)) 1 (by decide) (hU _ t1_36) rfl d_V_drop_12 ?_
    refine lv_iconst (v := 1) S.1 S.2.1 d_V_drop_15 (by decide) ?_
    refine lv_isub S.1 S.2.1 d_V_drop_16 ?_
    refine lv_topi (fun x_2 ex_2 => ?_)
    refine ur_put (k := (7 + 2 * j)) (v := .int x_2) (g' := xG ca ad (up3 v 16 j 0 x_2, π)) S hK hP (uD _ hJ) hS (kb_V hj) (xg_row hj) rfl (fun w h => hU w (in_V w h)) ty_V tyk_V nm_V 1 (by decide) (hU _ t1_36) rfl rfl rfl (Nat.le_of_ble_eq_true rfl) (xs_held hj) d_V_drop_17 (fun H locs hP hS => ?_)
    refine lv_aload_n S.1 S.2.1 d_V_drop_20 rfl (lv_at hl 0 rfl) ?_
    refine ur_get (k := (7 + 2 * j)) (v := .ref (ad (8 + 2 * j))) S hK hP (kb_V hj) (xg_row hj) rfl (fun w h => hU w (in_V w h)) 0 (by decide) (hU _ t1_35) rfl d_V_drop_21 ?_
    refine lv_iload_n S.1 S.2.1 d_V_drop_24 rfl (lv_at hl 1 rfl) ?_
    refine lv_iconst (v := (-1)) S.1 S.2.1 d_V_drop_25 (by decide) ?_
    refine ur_iast (k := (8 + 2 * j)) (f := ((up3 v 16 j 0 x_2) 17 j)) (j := ch) (g' := xG ca ad (up3 (up3 v 16 j 0 x_2) 17 j ch (-1), π)) S hK hP (uD _ hJ) hS (kb_W hj) 0 (xg_val hj) rfl rfl hch (by decide) (xs_val hj) d_V_drop_26 (fun H locs hP hS => ?_)
    exact uVret S hr hlk ((up3 (up3 v 16 j 0 x_2) 17 j ch (-1)), π) hP hS (by simp [vDrop, c_1, ex_2]) d_V_drop_27

set_option maxRecDepth 100000 in
set_option maxHeartbeats 4000000 in
theorem c_P_store {l : Launch} {D : va_G} {ca : Nat → ClassId} {ad : Nat → Nat} (hJ : uJ 165 ad) (v : Nat → Nat → Nat → Int32) (π : Nat → Nat) (q ch : Nat) (hq : q < 16) (hch : ch < 64) (x : Int32) : uMv l y_P_store b_P_store 4 (none : Option Jvm.ClassFile.FieldType) 0 0 D clsAll (tysAll ca) 165 ad (xG ca ad) (v, π) [.ref (ad 2), .int (nI q), .int (nI ch), .int x] (fun u => u = (up3 v 3 0 (q * 64 + ch) x, π)) := by
  refine uStart (by decide) (Nat.le_of_ble_eq_true rfl) ?_
  intro p e s m below meth c ls S hr hlk hK hN hP hl
  have hU : ∀ w ∈ uWS, w ∈ (Cond.code y_P_store b_P_store 4 (none : Option Jvm.ClassFile.FieldType) :: uWS) := fun w h => List.mem_cons_of_mem _ h
  have hS : va_S (uA 165 ad s.heap.size) s.heap s.heap [] := va_S.rf
  have hl : lv_has ls 4 [(0, .ref (ad 2)), (1, .int (nI q)), (2, .int (nI ch)), (3, .int x)] := hl
  refine lv_aload_n S.1 S.2.1 d_P_store_0 rfl (lv_at hl 0 rfl) ?_
  refine ur_get (k := 2) (v := .ref (ad 3)) S hK hP (by decide) xg_pal rfl (fun w h => hU w (in_P w h)) 0 (by decide) (hU _ t1_54) rfl d_P_store_1 ?_
  refine lv_iload_n S.1 S.2.1 d_P_store_4 rfl (lv_at hl 1 rfl) ?_
  refine lv_bipush (v := 64) S.1 S.2.1 d_P_store_5 (by decide) ?_
  refine lv_imul S.1 S.2.1 d_P_store_7 ?_
  refine lv_iload_n S.1 S.2.1 d_P_store_8 rfl (lv_at hl 2 rfl) ?_
  refine lv_iadd S.1 S.2.1 d_P_store_9 ?_
  refine lv_iload_n S.1 S.2.1 d_P_store_10 rfl (lv_at hl 3 rfl) ?_
  refine ur_iast (k := 3) (f := (v 3 0)) (j := (q * 64 + ch)) (g' := xG ca ad (up3 v 3 0 (q * 64 + ch) x, π)) S hK hP (uD _ hJ) hS (by decide) 0 xg_lev rfl (by rw [show (64 : Int32) = nI 64 from rfl, pk_mul, nI_add]) (by omega) (by decide) xs_lev d_P_store_11 (fun H locs hP hS => ?_)
  exact uVret S hr hlk ((up3 v 3 0 (q * 64 + ch) x), π) hP hS (by simp) d_P_store_12

set_option maxRecDepth 100000 in
set_option maxHeartbeats 4000000 in
theorem c_C_isBefore {l : Launch} {D : va_G} {ca : Nat → ClassId} {ad : Nat → Nat} (hJ : uJ 165 ad) (v : Nat → Nat → Nat → Int32) (π : Nat → Nat) (j : Nat) (hj : j < 40) (a b : Int32) : uMi l y_C_isBefore b_C_isBefore 3 (some .boolean) 0 0 D clsAll (tysAll ca) 165 ad (xG ca ad) (v, π) [.ref (ad (89 + j)), .int a, .int b] (fun r u => u = (v, π) ∧ r = pI (v 10 j 0 < a ∨ (v 10 j 0 = a ∧ v 11 j 0 < b))) := by
  refine uStart (by decide) (Nat.le_of_ble_eq_true rfl) ?_
  intro p e s m below meth c ls S hr hlk hK hN hP hl
  have hU : ∀ w ∈ uWS, w ∈ (Cond.code y_C_isBefore b_C_isBefore 3 (some .boolean) :: uWS) := fun w h => List.mem_cons_of_mem _ h
  have hS : va_S (uA 165 ad s.heap.size) s.heap s.heap [] := va_S.rf
  have hl : lv_has ls 3 [(0, .ref (ad (89 + j))), (1, .int a), (2, .int b)] := hl
  refine lv_aload_n S.1 S.2.1 d_C_isBefore_0 rfl (lv_at hl 0 rfl) ?_
  refine ur_get (k := (89 + j)) (v := .int (v 10 j 0)) S hK hP (kb_C hj) (xg_cue hj) rfl (fun w h => hU w (in_C w h)) 1 (by decide) (hU _ t1_75) rfl d_C_isBefore_1 ?_
  refine lv_iload_n S.1 S.2.1 d_C_isBefore_4 rfl (lv_at hl 1 rfl) ?_
  refine lv_icmp_lt (tgt := 24) S.1 S.2.1 d_C_isBefore_5 (by decide) (fun c_1 => ?_) (fun c_1 => ?_)
  · refine lv_iconst (v := 1) S.1 S.2.1 d_C_isBefore_24 (by decide) ?_
    refine lv_goto (tgt := 29) S.1 S.2.1 d_C_isBefore_25 (by decide) ?_
    exact uZret S hr hlk rfl (v, π) hP hS (by refine ⟨rfl, ?_⟩; simp [pI, c_1]) d_C_isBefore_29
  · refine lv_aload_n S.1 S.2.1 d_C_isBefore_8 rfl (lv_at hl 0 rfl) ?_
    refine ur_get (k := (89 + j)) (v := .int (v 10 j 0)) S hK hP (kb_C hj) (xg_cue hj) rfl (fun w h => hU w (in_C w h)) 1 (by decide) (hU _ t1_75) rfl d_C_isBefore_9 ?_
    refine lv_iload_n S.1 S.2.1 d_C_isBefore_12 rfl (lv_at hl 1 rfl) ?_
    refine lv_icmp_ne (tgt := 28) S.1 S.2.1 d_C_isBefore_13 (by decide) (fun c_2 => ?_) (fun c_2 => ?_)
    · refine lv_iconst (v := 0) S.1 S.2.1 d_C_isBefore_28 (by decide) ?_
      exact uZret S hr hlk rfl (v, π) hP hS (by refine ⟨rfl, ?_⟩; simp [pI, c_1, c_2]) d_C_isBefore_29
    · refine lv_aload_n S.1 S.2.1 d_C_isBefore_16 rfl (lv_at hl 0 rfl) ?_
      refine ur_get (k := (89 + j)) (v := .int (v 11 j 0)) S hK hP (kb_C hj) (xg_cue hj) rfl (fun w h => hU w (in_C w h)) 2 (by decide) (hU _ t1_77) rfl d_C_isBefore_17 ?_
      refine lv_iload_n S.1 S.2.1 d_C_isBefore_20 rfl (lv_at hl 2 rfl) ?_
      refine lv_icmp_ge (tgt := 28) S.1 S.2.1 d_C_isBefore_21 (by decide) (fun c_3 => ?_) (fun c_3 => ?_)
      · refine lv_iconst (v := 0) S.1 S.2.1 d_C_isBefore_28 (by decide) ?_
        exact uZret S hr hlk rfl (v, π) hP hS (by refine ⟨rfl, ?_⟩; simp [pI, c_1, c_2, c_3]) d_C_isBefore_29
      · refine lv_iconst (v := 1) S.1 S.2.1 d_C_isBefore_24 (by decide) ?_
        refine lv_goto (tgt := 29) S.1 S.2.1 d_C_isBefore_25 (by decide) ?_
        exact uZret S hr hlk rfl (v, π) hP hS (by refine ⟨rfl, ?_⟩; simp [pI, c_1, c_2, c_3]) d_C_isBefore_29

set_option maxRecDepth 100000 in
set_option maxHeartbeats 4000000 in
theorem c_Y_lookTick {l : Launch} {D : va_G} {ca : Nat → ClassId} {ad : Nat → Nat} (hJ : uJ 165 ad) (v : Nat → Nat → Nat → Int32) (π : Nat → Nat) (j ch : Nat) (hj : j < 6) (hch : ch < 64) : uMi l y_Y_lookTick b_Y_lookTick 2 (some .int) 0 0 D clsAll (tysAll ca) 165 ad (xG ca ad) (v, π) [.ref (ad (129 + 6 * j)), .int (nI ch)] (fun r u => u = (v, π) ∧ r = v 24 j ch) := by
  refine uStart (by decide) (Nat.le_of_ble_eq_true rfl) ?_
  intro p e s m below meth c ls S hr hlk hK hN hP hl
  have hU : ∀ w ∈ uWS, w ∈ (Cond.code y_Y_lookTick b_Y_lookTick 2 (some .int) :: uWS) := fun w h => List.mem_cons_of_mem _ h
  have hS : va_S (uA 165 ad s.heap.size) s.heap s.heap [] := va_S.rf
  have hl : lv_has ls 2 [(0, .ref (ad (129 + 6 * j))), (1, .int (nI ch))] := hl
  refine lv_aload_n S.1 S.2.1 d_Y_lookTick_0 rfl (lv_at hl 0 rfl) ?_
  refine ur_get (k := (129 + 6 * j)) (v := .ref (ad (134 + 6 * j))) S hK hP (kb_Y hj) (xg_ply hj) rfl (fun w h => hU w (in_Y w h)) 4 (by decide) (hU _ t1_126) rfl d_Y_lookTick_1 ?_
  refine lv_iload_n S.1 S.2.1 d_Y_lookTick_4 rfl (lv_at hl 1 rfl) ?_
  refine ur_iald (k := (130 + 4 + 6 * j)) (f := (v 24 j)) (j := ch) S hK hP (kb_A 4 (by decide) hj) 0 (xg_arr 4 (by decide) hj) rfl rfl hch (by decide) d_Y_lookTick_5 ?_
  exact uIret S hr hlk (v, π) hP hS (by refine ⟨rfl, ?_⟩; simp [pI]) d_Y_lookTick_6

set_option maxRecDepth 100000 in
set_option maxHeartbeats 4000000 in
theorem c_Y_levelAt {l : Launch} {D : va_G} {ca : Nat → ClassId} {ad : Nat → Nat} (hJ : uJ 165 ad) (v : Nat → Nat → Nat → Int32) (π : Nat → Nat) (j ch : Nat) (hj : j < 6) (hch : ch < 64) (x : Int32) : uMi l y_Y_levelAt b_Y_levelAt 5 (some .int) 0 0 D clsAll (tysAll ca) 165 ad (xG ca ad) (v, π) [.ref (ad (129 + 6 * j)), .int (nI ch), .int x] (fun r u => u = (v, π) ∧ r = vAt v j ch x) := by
  refine uStart (by decide) (Nat.le_of_ble_eq_true rfl) ?_
  intro p e s m below meth c ls S hr hlk hK hN hP hl
  have hU : ∀ w ∈ uWS, w ∈ (Cond.code y_Y_levelAt b_Y_levelAt 5 (some .int) :: uWS) := fun w h => List.mem_cons_of_mem _ h
  have hS : va_S (uA 165 ad s.heap.size) s.heap s.heap [] := va_S.rf
  have hl : lv_has ls 5 [(0, .ref (ad (129 + 6 * j))), (1, .int (nI ch)), (2, .int x)] := hl
  refine lv_iload_n S.1 S.2.1 d_Y_levelAt_0 rfl (lv_at hl 2 rfl) ?_
  refine lv_aload_n S.1 S.2.1 d_Y_levelAt_1 rfl (lv_at hl 0 rfl) ?_
  refine ur_get (k := (129 + 6 * j)) (v := .ref (ad (132 + 6 * j))) S hK hP (kb_Y hj) (xg_ply hj) rfl (fun w h => hU w (in_Y w h)) 2 (by decide) (hU _ t1_124) rfl d_Y_levelAt_2 ?_
  refine lv_iload_n S.1 S.2.1 d_Y_levelAt_5 rfl (lv_at hl 1 rfl) ?_
  refine ur_iald (k := (130 + 2 + 6 * j)) (f := (v 22 j)) (j := ch) S hK hP (kb_A 2 (by decide) hj) 0 (xg_arr 2 (by decide) hj) rfl rfl hch (by decide) d_Y_levelAt_6 ?_
  refine lv_isub S.1 S.2.1 d_Y_levelAt_7 ?_
  refine lv_topi (fun x_1 ex_1 => ?_)
  refine lv_istore_n (lv' := [(3, .int x_1), (0, .ref (ad (129 + 6 * j))), (1, .int (nI ch)), (2, .int x)]) S.1 S.2.1 d_Y_levelAt_8 rfl hl (by decide) rfl (fun ls hl => ?_)
  refine lv_aload_n S.1 S.2.1 d_Y_levelAt_9 rfl (lv_at hl 1 rfl) ?_
  refine ur_get (k := (129 + 6 * j)) (v := .ref (ad (133 + 6 * j))) S hK hP (kb_Y hj) (xg_ply hj) rfl (fun w h => hU w (in_Y w h)) 3 (by decide) (hU _ t1_125) rfl d_Y_levelAt_10 ?_
  refine lv_iload_n S.1 S.2.1 d_Y_levelAt_13 rfl (lv_at hl 2 rfl) ?_
  refine ur_iald (k := (130 + 3 + 6 * j)) (f := (v 23 j)) (j := ch) S hK hP (kb_A 3 (by decide) hj) 0 (xg_arr 3 (by decide) hj) rfl rfl hch (by decide) d_Y_levelAt_14 ?_
  refine lv_topi (fun x_2 ex_2 => ?_)
  refine lv_istore (lv' := [(4, .int x_2), (3, .int x_1), (0, .ref (ad (129 + 6 * j))), (1, .int (nI ch)), (2, .int x)]) S.1 S.2.1 d_Y_levelAt_15 hl (by decide) rfl (fun ls hl => ?_)
  refine lv_iload_n S.1 S.2.1 d_Y_levelAt_17 rfl (lv_at hl 1 rfl) ?_
  refine lv_if_ge (tgt := 28) S.1 S.2.1 d_Y_levelAt_18 (by decide) (fun c_3 => ?_) (fun c_3 => ?_)
  · refine lv_iload_n S.1 S.2.1 d_Y_levelAt_28 rfl (lv_at hl 1 rfl) ?_
    refine lv_iload S.1 S.2.1 d_Y_levelAt_29 (lv_at hl 0 rfl) ?_
    refine lv_icmp_lt (tgt := 41) S.1 S.2.1 d_Y_levelAt_31 (by decide) (fun c_4 => ?_) (fun c_4 => ?_)
    · refine lv_aload_n S.1 S.2.1 d_Y_levelAt_41 rfl (lv_at hl 2 rfl) ?_
      refine ur_get (k := (129 + 6 * j)) (v := .ref (ad (130 + 6 * j))) S hK hP (kb_Y hj) (xg_ply hj) rfl (fun w h => hU w (in_Y w h)) 0 (by decide) (hU _ t1_122) rfl d_Y_levelAt_42 ?_
      refine lv_iload_n S.1 S.2.1 d_Y_levelAt_45 rfl (lv_at hl 3 rfl) ?_
      refine ur_iald (k := (130 + 0 + 6 * j)) (f := (v 20 j)) (j := ch) S hK hP (kb_A 0 (by decide) hj) 0 (xg_arr 0 (by decide) hj) rfl rfl hch (by decide) d_Y_levelAt_46 ?_
      refine lv_aload_n S.1 S.2.1 d_Y_levelAt_47 rfl (lv_at hl 2 rfl) ?_
      refine ur_get (k := (129 + 6 * j)) (v := .ref (ad (131 + 6 * j))) S hK hP (kb_Y hj) (xg_ply hj) rfl (fun w h => hU w (in_Y w h)) 1 (by decide) (hU _ t1_123) rfl d_Y_levelAt_48 ?_
      refine lv_iload_n S.1 S.2.1 d_Y_levelAt_51 rfl (lv_at hl 3 rfl) ?_
      refine ur_iald (k := (130 + 1 + 6 * j)) (f := (v 21 j)) (j := ch) S hK hP (kb_A 1 (by decide) hj) 0 (xg_arr 1 (by decide) hj) rfl rfl hch (by decide) d_Y_levelAt_52 ?_
      refine lv_aload_n S.1 S.2.1 d_Y_levelAt_53 rfl (lv_at hl 2 rfl) ?_
      refine ur_get (k := (129 + 6 * j)) (v := .ref (ad (130 + 6 * j))) S hK hP (kb_Y hj) (xg_ply hj) rfl (fun w h => hU w (in_Y w h)) 0 (by decide) (hU _ t1_122) rfl d_Y_levelAt_54 ?_
      refine lv_iload_n S.1 S.2.1 d_Y_levelAt_57 rfl (lv_at hl 3 rfl) ?_
      refine ur_iald (k := (130 + 0 + 6 * j)) (f := (v 20 j)) (j := ch) S hK hP (kb_A 0 (by decide) hj) 0 (xg_arr 0 (by decide) hj) rfl rfl hch (by decide) d_Y_levelAt_58 ?_
      refine lv_isub S.1 S.2.1 d_Y_levelAt_59 ?_
      refine lv_iload_n S.1 S.2.1 d_Y_levelAt_60 rfl (lv_at hl 1 rfl) ?_
      refine lv_imul S.1 S.2.1 d_Y_levelAt_61 ?_
      refine lv_iload S.1 S.2.1 d_Y_levelAt_62 (lv_at hl 0 rfl) ?_
      refine lv_idiv S.1 S.2.1 d_Y_levelAt_64 (fun h0 => by rw [h0] at c_4; exact absurd c_3 (Int32.not_le.mpr c_4)) ?_
      refine lv_iadd S.1 S.2.1 d_Y_levelAt_65 ?_
      exact uIret S hr hlk (v, π) hP hS (by refine ⟨rfl, ?_⟩; subst_vars; simp [vAt, vFade, c_3, c_4]) d_Y_levelAt_66
    · refine lv_aload_n S.1 S.2.1 d_Y_levelAt_34 rfl (lv_at hl 2 rfl) ?_
      refine ur_get (k := (129 + 6 * j)) (v := .ref (ad (131 + 6 * j))) S hK hP (kb_Y hj) (xg_ply hj) rfl (fun w h => hU w (in_Y w h)) 1 (by decide) (hU _ t1_123) rfl d_Y_levelAt_35 ?_
      refine lv_iload_n S.1 S.2.1 d_Y_levelAt_38 rfl (lv_at hl 3 rfl) ?_
      refine ur_iald (k := (130 + 1 + 6 * j)) (f := (v 21 j)) (j := ch) S hK hP (kb_A 1 (by decide) hj) 0 (xg_arr 1 (by decide) hj) rfl rfl hch (by decide) d_Y_levelAt_39 ?_
      exact uIret S hr hlk (v, π) hP hS (by refine ⟨rfl, ?_⟩; subst_vars; simp [vAt, vFade, c_3, c_4]) d_Y_levelAt_40
  · refine lv_aload_n S.1 S.2.1 d_Y_levelAt_21 rfl (lv_at hl 2 rfl) ?_
    refine ur_get (k := (129 + 6 * j)) (v := .ref (ad (130 + 6 * j))) S hK hP (kb_Y hj) (xg_ply hj) rfl (fun w h => hU w (in_Y w h)) 0 (by decide) (hU _ t1_122) rfl d_Y_levelAt_22 ?_
    refine lv_iload_n S.1 S.2.1 d_Y_levelAt_25 rfl (lv_at hl 3 rfl) ?_
    refine ur_iald (k := (130 + 0 + 6 * j)) (f := (v 20 j)) (j := ch) S hK hP (kb_A 0 (by decide) hj) 0 (xg_arr 0 (by decide) hj) rfl rfl hch (by decide) d_Y_levelAt_26 ?_
    exact uIret S hr hlk (v, π) hP hS (by refine ⟨rfl, ?_⟩; subst_vars; simp [vAt, vFade, c_3]) d_Y_levelAt_27
end
section
/-! Arrays.fill(int[], int), on an array by itself -/
def aG (c : ClassId) (n : Nat) (f : Nat → Int32) (_ : Nat) : va_E := .inl (c, n, .inl f)
set_option maxRecDepth 100000 in
set_option maxHeartbeats 4000000 in
theorem c_JA_fill {l : Launch} {D : va_G} {ca : Nat → ClassId} (a n : Nat) (hn : n < 2 ^ 31) (f : Nat → Int32) (x : Int32) : uMv l y_JA_fill b_JA_fill 4 none 0 0 D clsAll (tysAll ca) 1 (fun _ => a) (aG (ca 0) n) f [.ref a, .int x] (fun u => u = fun i => if i < n then x else f i) := by
  refine uStart (by decide) (Nat.le_of_ble_eq_true rfl) ?_
  intro p e s m below meth c ls S hr hlk hK hN hP hl
  have hJ : uJ 1 (fun _ => a) := fun i j h1 h2 _ => by omega
  have hS : va_S (uA 1 (fun _ => a) s.heap.size) s.heap s.heap [] := va_S.rf
  have hl : lv_has ls 4 [(0, .ref a), (1, .int x)] := hl
  refine lv_iconst (v := 0) S.1 S.2.1 d_JA_fill_0 (by decide) ?_
  refine lv_istore_n (lv' := [(2, .int 0), (0, .ref a), (1, .int x)]) S.1 S.2.1 d_JA_fill_1 rfl hl (by decide) rfl (fun ls hl => ?_)
  refine lv_aload_n S.1 S.2.1 d_JA_fill_2 rfl (lv_at hl 1 rfl) ?_
  refine va_alen (v := nI n) S.1 S.2.1 hK hP 0 0 (uw_get (by decide)) rfl rfl d_JA_fill_3 ?_
  refine lv_istore_n (lv' := [(3, .int (nI n)), (2, .int 0), (0, .ref a), (1, .int x)]) S.1 S.2.1 d_JA_fill_4 rfl hl (by decide) rfl (fun ls hl => ?_)
  have L : ∀ i, i ≤ n → ∀ (H : Heap) (locs : List Loc) (ls : Array Slot), va_P D clsAll (uw 1 (fun _ => a) (aG (ca 0) n (fun q => if q < i then x else f q))) H → va_S (uA 1 (fun _ => a) s.heap.size) s.heap H locs → lv_has ls 4 [(3, .int (nI n)), (2, .int (nI i)), (0, .ref a), (1, .int x)] → uGv 0 0 D clsAll 1 (fun _ => a) (aG (ca 0) n) (fun u => u = fun i => if i < n then x else f i) [.ref a, .int x] p l e s m below meth c H locs 5 ls [] := by
    refine upTo n ?_ ?_
    · intro H locs ls hP hS hl
      refine lv_iload_n S.1 S.2.1 d_JA_fill_5 rfl (lv_at hl 1 rfl) ?_
      refine lv_iload_n S.1 S.2.1 d_JA_fill_6 rfl (lv_at hl 0 rfl) ?_
      refine lv_icmp_ge (tgt := 20) S.1 S.2.1 d_JA_fill_7 (by decide) (fun c_1 => ?_) (fun c_1 => absurd (nI_le (Nat.le_refl n) hn) c_1)
      exact uVret S hr hlk _ hP hS rfl d_JA_fill_20
    · intro i hi ih H locs ls hP hS hl
      refine lv_iload_n S.1 S.2.1 d_JA_fill_5 rfl (lv_at hl 1 rfl) ?_
      refine lv_iload_n S.1 S.2.1 d_JA_fill_6 rfl (lv_at hl 0 rfl) ?_
      refine lv_icmp_ge (tgt := 20) S.1 S.2.1 d_JA_fill_7 (by decide) (fun c_1 => absurd c_1 (nI_ge hi hn)) (fun c_1 => ?_)
      refine lv_aload_n S.1 S.2.1 d_JA_fill_10 rfl (lv_at hl 2 rfl) ?_
      refine lv_iload_n S.1 S.2.1 d_JA_fill_11 rfl (lv_at hl 1 rfl) ?_
      refine lv_iload_n S.1 S.2.1 d_JA_fill_12 rfl (lv_at hl 3 rfl) ?_
      refine ur_iast (k := 0) (j := i) (g' := aG (ca 0) n (fun q => if q < i + 1 then x else f q)) S hK hP (uD _ hJ) hS (by decide) 0 rfl rfl rfl hi hn ?_ d_JA_fill_13 (fun H locs hP hS => ?_)
      · intro k' hk'
        have h0 : k' = 0 := by omega
        subst h0
        rw [va_up_self]
        show (.inl (ca 0, n, .inl _) : va_E) = .inl (ca 0, n, .inl _)
        congr 3
        apply congrArg Sum.inl
        funext q
        by_cases h1 : q = i
        · subst h1; simp [upd]
        · by_cases h2 : q < i
          · simp [upd, h1, h2, Nat.lt_succ_of_lt h2]
          · have h3 : ¬ q < i + 1 := by omega
            simp [upd, h1, h2, h3]
      refine lv_iinc (v := nI (i + 1)) (lv' := [(2, .int (nI (i + 1))), (3, .int (nI n)), (0, .ref a), (1, .int x)]) S.1 S.2.1 d_JA_fill_14 hl (k := 1) rfl (nI_1 i) (by decide) rfl (fun ls hl => ?_)
      refine lv_goto (tgt := 5) S.1 S.2.1 d_JA_fill_17 (by decide) ?_
      exact ih H locs ls hP hS (lv_sub hl [1, 0, 2, 3] rfl)
  refine L 0 (Nat.zero_le _) _ _ ls ?_ hS (lv_sub hl [0, 1, 2, 3] rfl)
  exact hP
end
section
/-! Words for the book: n cues, the cue at the place p is the object π p -/
def xBk (v : Nat → Nat → Nat → Int32) (π : Nat → Nat) (n : Nat) : Prop := v 4 0 0 = nI n ∧ n ≤ 40 ∧ ∀ p, p < 40 → π p < 40
abbrev bef (v : Nat → Nat → Nat → Int32) (π : Nat → Nat) (a b : Int32) (p : Nat) : Prop := v 10 (π p) 0 < a ∨ (v 10 (π p) 0 = a ∧ v 11 (π p) 0 < b)
/-- the first place from p on, k further at most, that is not before -/
def pGo (v : Nat → Nat → Nat → Int32) (π : Nat → Nat) (a b : Int32) : Nat → Nat → Nat
  | 0, p => p
  | k + 1, p => if bef v π a b p then pGo v π a b k (p + 1) else p
def pFor (v : Nat → Nat → Nat → Int32) (π : Nat → Nat) (n : Nat) (a b : Int32) : Nat := pGo v π a b n 0
theorem pGo_le (v : Nat → Nat → Nat → Int32) (π : Nat → Nat) (a b : Int32) : ∀ k p, pGo v π a b k p ≤ p + k := by
  intro k
  induction k with
  | zero => intro p; exact Nat.le_refl _
  | succ k ih =>
    intro p
    unfold pGo
    split
    · have := ih (p + 1); omega
    · omega
theorem pFor_le (v : Nat → Nat → Nat → Int32) (π : Nat → Nat) (n : Nat) (a b : Int32) : pFor v π n a b ≤ n := by
  have := pGo_le v π a b n 0
  unfold pFor; omega
theorem nI_litge {i n : Nat} (h : i < n) (hn : n < 2 ^ 31) {x : Int32} (hx : x = nI n) : ¬ x ≤ nI i := by rw [hx]; exact nI_ge h hn
/-- is there a cue of the list a at the place p -/
abbrev inB (v : Nat → Nat → Nat → Int32) (π : Nat → Nat) (n : Nat) (a : Int32) (p : Nat) : Prop := p < n ∧ v 10 (π p) 0 = a
/-- moves of the first k places -/
def mvs (v : Nat → Nat → Nat → Int32) (π : Nat → Nat) : Nat → Int32
  | 0 => 0
  | k + 1 => mvs v π k + v 16 (π k) 0
/-- how many of the first k channels the row b has and the row a lacks -/
def lacks (v : Nat → Nat → Nat → Int32) (a b : Nat) : Nat → Int32
  | 0 => 0
  | k + 1 => if ¬ v 17 b k = -1 ∧ v 17 a k = -1 then lacks v a b k + 1 else lacks v a b k
/-- an answer that is a place or NONE -/
def oI : Option Nat → Int32
  | none => -1
  | some p => nI p
theorem nI_nm1 {p : Nat} (h : p < 2 ^ 31) : ¬ nI p = -1 := fun q => absurd (show nI p < 0 by rw [q]; decide) (nI_pos h)
theorem nI_dec (x : Int32) : x + Int32.ofInt (-1) = x - 1 := by
  rw [Int32.sub_eq_add_neg]; rfl
/-- the last place below k, of the list a, whose cue has a move of the channel (no other list's cue between) -/
def sGo (v : Nat → Nat → Nat → Int32) (π : Nat → Nat) (a : Int32) (ch : Nat) : Nat → Option Nat
  | 0 => none
  | k + 1 => if v 10 (π k) 0 = a then (if v 17 (π k) ch = -1 then sGo v π a ch k else some k) else none
theorem sGo_lt {v : Nat → Nat → Nat → Int32} {π : Nat → Nat} {a : Int32} {ch : Nat} : ∀ {k p : Nat}, sGo v π a ch k = some p → p < k := by
  intro k
  induction k with
  | zero => intro p h; cases h
  | succ k ih =>
    intro p h
    unfold sGo at h
    split at h
    · split at h
      · exact Nat.lt_succ_of_lt (ih h)
      · cases h; exact Nat.lt_succ_self _
    · cases h
def srcO (v : Nat → Nat → Nat → Int32) (π : Nat → Nat) (ch : Nat) : Option Nat → Option Nat
  | none => none
  | some p => sGo v π (v 10 (π p) 0) ch (p + 1)
theorem srcO_lt {v : Nat → Nat → Nat → Int32} {π : Nat → Nat} {ch n : Nat} {X : Option Nat} (hX : ∀ p, X = some p → p < n) : ∀ q, srcO v π ch X = some q → q < n := by
  intro q h
  cases X with
  | none => cases h
  | some p => exact Nat.lt_of_le_of_lt (Nat.le_of_lt_succ (sGo_lt h)) (hX p rfl)
def trk (v : Nat → Nat → Nat → Int32) (π : Nat → Nat) (ch : Nat) (X : Option Nat) : Int32 := match srcO v π ch X with
  | none => -1
  | some p => v 17 (π p) ch
/-- where a cue is; the next above a number, the next below it -/
def fndO (v : Nat → Nat → Nat → Int32) (π : Nat → Nat) (n : Nat) (a b : Int32) : Option Nat := if inB v π n a (pFor v π n a b) ∧ v 11 (π (pFor v π n a b)) 0 = b then some (pFor v π n a b) else none
def abvO (v : Nat → Nat → Nat → Int32) (π : Nat → Nat) (n : Nat) (a b : Int32) : Option Nat := if inB v π n a (pFor v π n a (b + 1)) then some (pFor v π n a (b + 1)) else none
def blwO (v : Nat → Nat → Nat → Int32) (π : Nat → Nat) (n : Nat) (a b : Int32) : Option Nat := match pFor v π n a b with
  | 0 => none
  | p + 1 => if inB v π n a p then some p else none
theorem fndO_lt {v : Nat → Nat → Nat → Int32} {π : Nat → Nat} {n : Nat} {a b : Int32} : ∀ p, fndO v π n a b = some p → p < n := by
  intro p h
  unfold fndO at h
  split at h
  · rename_i h1; cases h; exact h1.1.1
  · cases h
theorem abvO_lt {v : Nat → Nat → Nat → Int32} {π : Nat → Nat} {n : Nat} {a b : Int32} : ∀ p, abvO v π n a b = some p → p < n := by
  intro p h
  unfold abvO at h
  split at h
  · rename_i h1; cases h; exact h1.1
  · cases h
theorem blwO_lt {v : Nat → Nat → Nat → Int32} {π : Nat → Nat} {n : Nat} {a b : Int32} : ∀ p, blwO v π n a b = some p → p < n := by
  intro p h
  unfold blwO at h
  split at h
  · cases h
  · split at h
    · rename_i h1; cases h; exact h1.1
    · cases h
/-- a whole array is written -/
def vRow (v : Nat → Nat → Nat → Int32) (f j : Nat) (u : Nat → Int32) : Nat → Nat → Nat → Int32 := fun f' j' => if f' = f ∧ j' = j then u else v f' j'
theorem xG_row {ca : Nat → ClassId} {ad : Nat → Nat} {v : Nat → Nat → Nat → Int32} {π : Nat → Nat} {f j k0 : Nat} {u : Nat → Int32} {e : va_E} (hk : xOwn f j = k0) (he : xG ca ad (vRow v f j u, π) k0 = e) : ∀ k', k' < 165 → xG ca ad (vRow v f j u, π) k' = if k' = k0 then e else xG ca ad (v, π) k' := by
  intro k' hk'
  by_cases h : k' = k0
  · rw [if_pos h, h, he]
  · rw [if_neg h]
    refine xG_congr (fun q hq => ?_)
    have h1 := xDep_own k' hk' q hq
    have h2 : ¬ (q.1 = f ∧ q.2 = j) := fun z => h (by rw [← h1, z.1, z.2, hk])
    simp [vRow, h2]
def vDropAll (v : Nat → Nat → Nat → Int32) (j : Nat) : Nat → Nat → Nat → Int32 := up3 (vRow v 17 j (fun i => if i < 64 then -1 else v 17 j i)) 16 j 0 0
def vBegin (v : Nat → Nat → Nat → Int32) (j : Nat) (a b : Int32) : Nat → Nat → Nat → Int32 := vDropAll (up3 (up3 (up3 (up3 (up3 (up3 v 10 j 0 a) 11 j 0 b) 12 j 0 0) 13 j 0 0) 14 j 0 0) 15 j 0 (-1)) j
def cDet (v : Nat → Nat → Nat → Int32) (j w : Nat) : Int32 := if w = 0 then v 11 j 0 else if w = 1 then v 16 j 0 else if w = 2 then v 12 j 0 else if w = 3 then v 13 j 0 else if w = 4 then v 14 j 0 else v 15 j 0
/-- a fade begins: playback j, channel ch, level x, by the cue o, at the tick t -/
def vFd (v : Nat → Nat → Nat → Int32) (j ch : Nat) (x : Int32) (o : Nat) (t : Int32) : Nat → Nat → Nat → Int32 :=
  up3 (up3 (up3 (up3 (up3 v 20 j ch (vAt v j ch t)) 21 j ch x) 22 j ch (t + v 14 o 0)) 23 j ch (if x < vAt v j ch t then v 13 o 0 else v 12 o 0)) 24 j ch t
theorem lev_ix {x : Int32} {ch : Nat} (h1 : ¬ x < 0) (h2 : ¬ 272 ≤ x) (h3 : ¬ x < 256) (hch : ch < 64) : (x - 256) * 64 + nI ch = nI ((x.toNatClampNeg - 256) * 64 + ch) ∧ (x.toNatClampNeg - 256) * 64 + ch < 1024 := by
  rcases pk_ix x (n := 272) (by decide) with h | h | ⟨q, hq, rfl⟩
  · exact absurd h h1
  · exact absurd h h2
  · have h4 : 256 ≤ q := Nat.not_lt.mp (fun z => h3 (nI_lt z (by decide)))
    rw [nI_clamp (by omega), show (256 : Int32) = nI 256 from rfl, show (64 : Int32) = nI 64 from rfl, pk_sub h4, pk_mul, nI_add]
    exact ⟨rfl, by omega⟩
def orU (x : Int32) : Int32 := if x = -1 then 272 else x
end
section
/-! The class: the book's reads (printed by wip/gen/gen_x2.py) -/
set_option maxRecDepth 100000 in
set_option maxHeartbeats 4000000 in
theorem c_B_placeFor {l : Launch} {D : va_G} {ca : Nat → ClassId} {ad : Nat → Nat} (hJ : uJ 165 ad) (v : Nat → Nat → Nat → Int32) (π : Nat → Nat) (n : Nat) (hB : xBk v π n) (a b : Int32) : uMi l y_B_placeFor b_B_placeFor 4 (some .int) 1 22 D clsAll (tysAll ca) 165 ad (xG ca ad) (v, π) [.ref (ad 4), .int a, .int b] (fun r u => u = (v, π) ∧ r = nI (pFor v π n a b)) := by
  refine uStart (by decide) (Nat.le_of_ble_eq_true rfl) ?_
  intro p e s m below meth c ls S hr hlk hK hN hP hl
  have hU : ∀ w ∈ uWS, w ∈ (Cond.code y_B_placeFor b_B_placeFor 4 (some .int) :: uWS) := fun w h => List.mem_cons_of_mem _ h
  have hS : va_S (uA 165 ad s.heap.size) s.heap s.heap [] := va_S.rf
  have hl : lv_has ls 4 [(0, .ref (ad 4)), (1, .int a), (2, .int b)] := hl
  have hn40 : n ≤ 40 := hB.2.1
  refine lv_iconst (v := 0) S.1 S.2.1 d_B_placeFor_0 (by decide) ?_
  refine lv_istore_n (lv' := [(3, .int 0), (0, .ref (ad 4)), (1, .int a), (2, .int b)]) S.1 S.2.1 d_B_placeFor_1 rfl hl (by decide) rfl (fun ls hl => ?_)
  have L : ∀ i, i ≤ n → pGo v π a b (n - i) i = pFor v π n a b → ∀ (H : Heap) (locs : List Loc) (ls : Array Slot), va_P D clsAll (uw 165 ad (xG ca ad (v, π))) H → va_S (uA 165 ad s.heap.size) s.heap H locs → lv_has ls 4 [(3, .int (nI i)), (0, .ref (ad 4)), (1, .int a), (2, .int b)] → uGi 1 22 D clsAll 165 ad (xG ca ad) (fun r u => u = (v, π) ∧ r = nI (pFor v π n a b)) [.ref (ad 4), .int a, .int b] p l e s m below meth c H locs 2 ls [] := by
    refine upTo n ?_ ?_
    · intro hI H locs ls hP hS hl
      refine lv_iload_n S.1 S.2.1 d_B_placeFor_2 rfl (lv_at hl 0 rfl) ?_
      refine lv_aload_n S.1 S.2.1 d_B_placeFor_3 rfl (lv_at hl 1 rfl) ?_
      refine ur_get (k := 4) (v := .int (v 4 0 0)) S hK hP (by decide) xg_book rfl (fun w h => hU w (in_B w h)) 1 (by decide) (hU _ t1_107) rfl d_B_placeFor_4 ?_
      refine lv_icmp_ge (tgt := 30) S.1 S.2.1 d_B_placeFor_7 (by decide) (fun c_h => ?_) (fun c_h => ?_)
      · refine lv_iload_n S.1 S.2.1 d_B_placeFor_30 rfl (lv_at hl 0 rfl) ?_
        exact uIret S hr hlk (v, π) hP hS (by refine ⟨rfl, ?_⟩; rw [← hI, Nat.sub_self]; rfl) d_B_placeFor_31
      · exact absurd (by rw [hB.1]; exact nI_le (Nat.le_refl _) (by have := hB.2.1; omega)) c_h
    · intro i hi ih hI H locs ls hP hS hl
      refine lv_iload_n S.1 S.2.1 d_B_placeFor_2 rfl (lv_at hl 0 rfl) ?_
      refine lv_aload_n S.1 S.2.1 d_B_placeFor_3 rfl (lv_at hl 1 rfl) ?_
      refine ur_get (k := 4) (v := .int (v 4 0 0)) S hK hP (by decide) xg_book rfl (fun w h => hU w (in_B w h)) 1 (by decide) (hU _ t1_107) rfl d_B_placeFor_4 ?_
      refine lv_icmp_ge (tgt := 30) S.1 S.2.1 d_B_placeFor_7 (by decide) (fun c_h => ?_) (fun c_h => ?_)
      · exact absurd c_h (nI_litge hi (by have := hB.2.1; omega) hB.1)
      · refine lv_aload_n S.1 S.2.1 d_B_placeFor_10 rfl (lv_at hl 1 rfl) ?_
        refine ur_get (k := 4) (v := .ref (ad 5)) S hK hP (by decide) xg_book rfl (fun w h => hU w (in_B w h)) 0 (by decide) (hU _ t1_106) rfl d_B_placeFor_11 ?_
        refine lv_iload_n S.1 S.2.1 d_B_placeFor_14 rfl (lv_at hl 0 rfl) ?_
        refine ur_aald (k := 5) (q := ad (89 + π i)) (j := i) S hK hP (by decide) 2 xg_cues rfl rfl (by have := hB.2.1; omega) (by decide) rfl d_B_placeFor_15 ?_
        refine lv_iload_n S.1 S.2.1 d_B_placeFor_16 rfl (lv_at hl 2 rfl) ?_
        refine lv_iload_n S.1 S.2.1 d_B_placeFor_17 rfl (lv_at hl 3 rfl) ?_
        refine uVi (n := 2) (b := (89 + (π i))) (As := [.int a, .int b]) (rest := []) S hK hN hP hS (c_C_isBefore hJ v π (π i) (hB.2.2 _ (by omega)) a b) ⟨hU, t2_0, t1_237, t1_6, by decide +kernel, by decide, by decide⟩ t1_238 t1_239 (kb_C (hB.2.2 _ (by omega))) (xg_cue (hB.2.2 _ (by omega))) rfl rfl rfl hl.1 rfl (Nat.le_of_ble_eq_true rfl) d_B_placeFor_18 ⟨Nat.le_of_ble_eq_true rfl, Nat.le_of_ble_eq_true rfl⟩ (fun r u H locs hp hP hS => ?_)
        obtain ⟨rfl, rfl⟩ := hp
        refine lv_if_eq (tgt := 30) S.1 S.2.1 d_B_placeFor_21 (by decide) (fun c_b => ?_) (fun c_b => ?_)
        · have c_b := pI_no c_b
          refine lv_iload_n S.1 S.2.1 d_B_placeFor_30 rfl (lv_at hl 0 rfl) ?_
          exact uIret S hr hlk (v, π) hP hS (by refine ⟨rfl, ?_⟩; rw [← hI, show n - i = (n - (i + 1)) + 1 by omega, pGo, if_neg c_b]) d_B_placeFor_31
        · have c_b := pI_yes c_b
          refine lv_iinc (v := nI (i + 1)) (lv' := [(3, .int (nI (i + 1))), (0, .ref (ad 4)), (1, .int a), (2, .int b)]) S.1 S.2.1 d_B_placeFor_24 hl (k := 0) rfl (nI_1 i) (by decide) rfl (fun ls hl => ?_)
          refine lv_goto (tgt := 2) S.1 S.2.1 d_B_placeFor_27 (by decide) ?_
          exact ih (by rw [← hI, show n - i = (n - (i + 1)) + 1 by omega, pGo, if_pos c_b]) _ _ ls hP hS (lv_sub hl [0, 1, 2, 3] rfl)
  exact L 0 (Nat.zero_le _) rfl _ _ ls hP hS (lv_sub hl [0, 1, 2, 3] rfl)

set_option maxRecDepth 100000 in
set_option maxHeartbeats 4000000 in
theorem c_B_isIn {l : Launch} {D : va_G} {ca : Nat → ClassId} {ad : Nat → Nat} (hJ : uJ 165 ad) (v : Nat → Nat → Nat → Int32) (π : Nat → Nat) (n : Nat) (hB : xBk v π n) (q : Nat) (hq : q ≤ 40) (a : Int32) : uMi l y_B_isIn b_B_isIn 3 (some .boolean) 0 0 D clsAll (tysAll ca) 165 ad (xG ca ad) (v, π) [.ref (ad 4), .int (nI q), .int a] (fun r u => u = (v, π) ∧ r = pI (inB v π n a q)) := by
  refine uStart (by decide) (Nat.le_of_ble_eq_true rfl) ?_
  intro p e s m below meth c ls S hr hlk hK hN hP hl
  have hU : ∀ w ∈ uWS, w ∈ (Cond.code y_B_isIn b_B_isIn 3 (some .boolean) :: uWS) := fun w h => List.mem_cons_of_mem _ h
  have hS : va_S (uA 165 ad s.heap.size) s.heap s.heap [] := va_S.rf
  have hl : lv_has ls 3 [(0, .ref (ad 4)), (1, .int (nI q)), (2, .int a)] := hl
  have hn40 : n ≤ 40 := hB.2.1
  refine lv_iload_n S.1 S.2.1 d_B_isIn_0 rfl (lv_at hl 1 rfl) ?_
  refine lv_if_lt (tgt := 29) S.1 S.2.1 d_B_isIn_1 (by decide) (fun c_neg => ?_) (fun c_neg => ?_)
  · exact absurd c_neg (nI_pos (by omega))
  · refine lv_iload_n S.1 S.2.1 d_B_isIn_4 rfl (lv_at hl 1 rfl) ?_
    refine lv_aload_n S.1 S.2.1 d_B_isIn_5 rfl (lv_at hl 0 rfl) ?_
    refine ur_get (k := 4) (v := .int (v 4 0 0)) S hK hP (by decide) xg_book rfl (fun w h => hU w (in_B w h)) 1 (by decide) (hU _ t1_107) rfl d_B_isIn_6 ?_
    refine lv_icmp_ge (tgt := 29) S.1 S.2.1 d_B_isIn_9 (by decide) (fun c_s => ?_) (fun c_s => ?_)
    · have c_s : ¬ q < n := fun z => absurd c_s (nI_litge z (by have := hB.2.1; omega) hB.1)
      refine lv_iconst (v := 0) S.1 S.2.1 d_B_isIn_29 (by decide) ?_
      exact uZret S hr hlk rfl (v, π) hP hS (by refine ⟨rfl, ?_⟩; simp [pI, inB, c_s]) d_B_isIn_30
    · have c_s : q < n := Nat.not_le.mp (fun z => absurd (by rw [hB.1]; exact nI_le z (by omega)) c_s)
      refine lv_aload_n S.1 S.2.1 d_B_isIn_12 rfl (lv_at hl 0 rfl) ?_
      refine ur_get (k := 4) (v := .ref (ad 5)) S hK hP (by decide) xg_book rfl (fun w h => hU w (in_B w h)) 0 (by decide) (hU _ t1_106) rfl d_B_isIn_13 ?_
      refine lv_iload_n S.1 S.2.1 d_B_isIn_16 rfl (lv_at hl 1 rfl) ?_
      refine ur_aald (k := 5) (q := ad (89 + π q)) (j := q) S hK hP (by decide) 2 xg_cues rfl rfl (by have := hB.2.1; omega) (by decide) rfl d_B_isIn_17 ?_
      refine ur_getN (k := (89 + (π q))) (v := .int (v 10 (π q) 0)) S hK hP (kb_C (hB.2.2 q (by have := hB.2.1; omega))) (xg_cue (hB.2.2 q (by have := hB.2.1; omega))) rfl (fun w h => hU w (in_C w h)) 1 (by decide) (hN _ t1_76) rfl d_B_isIn_18 ?_
      refine lv_iload_n S.1 S.2.1 d_B_isIn_21 rfl (lv_at hl 2 rfl) ?_
      refine lv_icmp_ne (tgt := 29) S.1 S.2.1 d_B_isIn_22 (by decide) (fun c_1 => ?_) (fun c_1 => ?_)
      · refine lv_iconst (v := 0) S.1 S.2.1 d_B_isIn_29 (by decide) ?_
        exact uZret S hr hlk rfl (v, π) hP hS (by refine ⟨rfl, ?_⟩; simp [pI, inB, c_s, c_1]) d_B_isIn_30
      · refine lv_iconst (v := 1) S.1 S.2.1 d_B_isIn_25 (by decide) ?_
        refine lv_goto (tgt := 30) S.1 S.2.1 d_B_isIn_26 (by decide) ?_
        exact uZret S hr hlk rfl (v, π) hP hS (by refine ⟨rfl, ?_⟩; simp [pI, inB, c_s, c_1]) d_B_isIn_30

set_option maxRecDepth 100000 in
set_option maxHeartbeats 4000000 in
theorem c_B_find {l : Launch} {D : va_G} {ca : Nat → ClassId} {ad : Nat → Nat} (hJ : uJ 165 ad) (v : Nat → Nat → Nat → Int32) (π : Nat → Nat) (n : Nat) (hB : xBk v π n) (a b : Int32) : uMi l y_B_find b_B_find 4 (some .int) 2 45 D clsAll (tysAll ca) 165 ad (xG ca ad) (v, π) [.ref (ad 4), .int a, .int b] (fun r u => u = (v, π) ∧ r = oI (fndO v π n a b)) := by
  refine uStart (by decide) (Nat.le_of_ble_eq_true rfl) ?_
  intro p e s m below meth c ls S hr hlk hK hN hP hl
  have hU : ∀ w ∈ uWS, w ∈ (Cond.code y_B_find b_B_find 4 (some .int) :: uWS) := fun w h => List.mem_cons_of_mem _ h
  have hS : va_S (uA 165 ad s.heap.size) s.heap s.heap [] := va_S.rf
  have hl : lv_has ls 4 [(0, .ref (ad 4)), (1, .int a), (2, .int b)] := hl
  have hn40 : n ≤ 40 := hB.2.1
  refine lv_aload_n S.1 S.2.1 d_B_find_0 rfl (lv_at hl 0 rfl) ?_
  refine lv_iload_n S.1 S.2.1 d_B_find_1 rfl (lv_at hl 1 rfl) ?_
  refine lv_iload_n S.1 S.2.1 d_B_find_2 rfl (lv_at hl 2 rfl) ?_
  refine uVi (n := 2) (b := 4) (As := [.int a, .int b]) (rest := []) S hK hN hP hS (c_B_placeFor hJ v π n hB a b) ⟨hU, t1_236, t1_233, t1_5, by decide +kernel, by decide, by decide⟩ t1_235 tp_0 (by decide) xg_book rfl rfl rfl hl.1 rfl (Nat.le_of_ble_eq_true rfl) d_B_find_3 ⟨Nat.le_of_ble_eq_true rfl, Nat.le_of_ble_eq_true rfl⟩ (fun r u H locs hp hP hS => ?_)
  obtain ⟨rfl, rfl⟩ := hp
  refine lv_istore_n (lv' := [(3, .int (nI (pFor v π n a b))), (0, .ref (ad 4)), (1, .int a), (2, .int b)]) S.1 S.2.1 d_B_find_6 rfl hl (by decide) rfl (fun ls hl => ?_)
  refine lv_aload_n S.1 S.2.1 d_B_find_7 rfl (lv_at hl 1 rfl) ?_
  refine lv_iload_n S.1 S.2.1 d_B_find_8 rfl (lv_at hl 0 rfl) ?_
  refine lv_iload_n S.1 S.2.1 d_B_find_9 rfl (lv_at hl 2 rfl) ?_
  refine uVi (n := 2) (b := 4) (As := [.int (nI (pFor v π n a b)), .int a]) (rest := []) S hK hN hP hS (c_B_isIn hJ v π n hB (pFor v π n a b) (by have := pFor_le v π n a b; omega) a) ⟨hU, t2_4, t2_1, t1_5, by decide +kernel, by decide, by decide⟩ t2_3 tp_1 (by decide) xg_book rfl rfl rfl hl.1 rfl (Nat.le_of_ble_eq_true rfl) d_B_find_10 ⟨Nat.le_of_ble_eq_true rfl, Nat.le_of_ble_eq_true rfl⟩ (fun r u H locs hp hP hS => ?_)
  obtain ⟨rfl, rfl⟩ := hp
  refine lv_if_eq (tgt := 33) S.1 S.2.1 d_B_find_13 (by decide) (fun c_i => ?_) (fun c_i => ?_)
  · have c_i := pI_no c_i
    refine lv_iconst (v := (-1)) S.1 S.2.1 d_B_find_33 (by decide) ?_
    exact uIret S hr hlk (v, π) hP hS (by refine ⟨rfl, ?_⟩; rw [fndO, if_neg (fun z => c_i z.1)]; rfl) d_B_find_34
  · have c_i := pI_yes c_i
    have hpn : pFor v π n a b < n := c_i.1
    refine lv_aload_n S.1 S.2.1 d_B_find_16 rfl (lv_at hl 1 rfl) ?_
    refine ur_get (k := 4) (v := .ref (ad 5)) S hK hP (by decide) xg_book rfl (fun w h => hU w (in_B w h)) 0 (by decide) (hU _ t1_106) rfl d_B_find_17 ?_
    refine lv_iload_n S.1 S.2.1 d_B_find_20 rfl (lv_at hl 0 rfl) ?_
    refine ur_aald (k := 5) (q := ad (89 + π (pFor v π n a b))) (j := (pFor v π n a b)) S hK hP (by decide) 2 xg_cues rfl rfl (by omega) (by decide) rfl d_B_find_21 ?_
    refine ur_getN (k := (89 + (π (pFor v π n a b)))) (v := .int (v 11 (π (pFor v π n a b)) 0)) S hK hP (kb_C (hB.2.2 _ (by omega))) (xg_cue (hB.2.2 _ (by omega))) rfl (fun w h => hU w (in_C w h)) 2 (by decide) (hN _ t1_78) rfl d_B_find_22 ?_
    refine lv_iload_n S.1 S.2.1 d_B_find_25 rfl (lv_at hl 3 rfl) ?_
    refine lv_icmp_ne (tgt := 33) S.1 S.2.1 d_B_find_26 (by decide) (fun c_1 => ?_) (fun c_1 => ?_)
    · refine lv_iconst (v := (-1)) S.1 S.2.1 d_B_find_33 (by decide) ?_
      exact uIret S hr hlk (v, π) hP hS (by refine ⟨rfl, ?_⟩; rw [fndO, if_neg (fun z => c_1 z.2)]; rfl) d_B_find_34
    · refine lv_iload_n S.1 S.2.1 d_B_find_29 rfl (lv_at hl 0 rfl) ?_
      refine lv_goto (tgt := 34) S.1 S.2.1 d_B_find_30 (by decide) ?_
      exact uIret S hr hlk (v, π) hP hS (by refine ⟨rfl, ?_⟩; rw [fndO, if_pos ⟨c_i, c_1⟩]; rfl) d_B_find_34

set_option maxRecDepth 100000 in
set_option maxHeartbeats 4000000 in
theorem c_B_placeAbove {l : Launch} {D : va_G} {ca : Nat → ClassId} {ad : Nat → Nat} (hJ : uJ 165 ad) (v : Nat → Nat → Nat → Int32) (π : Nat → Nat) (n : Nat) (hB : xBk v π n) (a b : Int32) : uMi l y_B_placeAbove b_B_placeAbove 4 (some .int) 2 45 D clsAll (tysAll ca) 165 ad (xG ca ad) (v, π) [.ref (ad 4), .int a, .int b] (fun r u => u = (v, π) ∧ r = oI (abvO v π n a b)) := by
  refine uStart (by decide) (Nat.le_of_ble_eq_true rfl) ?_
  intro p e s m below meth c ls S hr hlk hK hN hP hl
  have hU : ∀ w ∈ uWS, w ∈ (Cond.code y_B_placeAbove b_B_placeAbove 4 (some .int) :: uWS) := fun w h => List.mem_cons_of_mem _ h
  have hS : va_S (uA 165 ad s.heap.size) s.heap s.heap [] := va_S.rf
  have hl : lv_has ls 4 [(0, .ref (ad 4)), (1, .int a), (2, .int b)] := hl
  have hn40 : n ≤ 40 := hB.2.1
  refine lv_aload_n S.1 S.2.1 d_B_placeAbove_0 rfl (lv_at hl 0 rfl) ?_
  refine lv_iload_n S.1 S.2.1 d_B_placeAbove_1 rfl (lv_at hl 1 rfl) ?_
  refine lv_iload_n S.1 S.2.1 d_B_placeAbove_2 rfl (lv_at hl 2 rfl) ?_
  refine lv_iconst (v := 1) S.1 S.2.1 d_B_placeAbove_3 (by decide) ?_
  refine lv_iadd S.1 S.2.1 d_B_placeAbove_4 ?_
  refine uVi (n := 2) (b := 4) (As := [.int a, .int (b + 1)]) (rest := []) S hK hN hP hS (c_B_placeFor hJ v π n hB a (b + 1)) ⟨hU, t1_236, t1_233, t1_5, by decide +kernel, by decide, by decide⟩ t1_235 tp_0 (by decide) xg_book rfl rfl rfl hl.1 rfl (Nat.le_of_ble_eq_true rfl) d_B_placeAbove_5 ⟨Nat.le_of_ble_eq_true rfl, Nat.le_of_ble_eq_true rfl⟩ (fun r u H locs hp hP hS => ?_)
  obtain ⟨rfl, rfl⟩ := hp
  refine lv_istore_n (lv' := [(3, .int (nI (pFor v π n a (b + 1)))), (0, .ref (ad 4)), (1, .int a), (2, .int b)]) S.1 S.2.1 d_B_placeAbove_8 rfl hl (by decide) rfl (fun ls hl => ?_)
  refine lv_aload_n S.1 S.2.1 d_B_placeAbove_9 rfl (lv_at hl 1 rfl) ?_
  refine lv_iload_n S.1 S.2.1 d_B_placeAbove_10 rfl (lv_at hl 0 rfl) ?_
  refine lv_iload_n S.1 S.2.1 d_B_placeAbove_11 rfl (lv_at hl 2 rfl) ?_
  refine uVi (n := 2) (b := 4) (As := [.int (nI (pFor v π n a (b + 1))), .int a]) (rest := []) S hK hN hP hS (c_B_isIn hJ v π n hB (pFor v π n a (b + 1)) (by have := pFor_le v π n a (b + 1); omega) a) ⟨hU, t2_4, t2_1, t1_5, by decide +kernel, by decide, by decide⟩ t2_3 tp_1 (by decide) xg_book rfl rfl rfl hl.1 rfl (Nat.le_of_ble_eq_true rfl) d_B_placeAbove_12 ⟨Nat.le_of_ble_eq_true rfl, Nat.le_of_ble_eq_true rfl⟩ (fun r u H locs hp hP hS => ?_)
  obtain ⟨rfl, rfl⟩ := hp
  refine lv_if_eq (tgt := 22) S.1 S.2.1 d_B_placeAbove_15 (by decide) (fun c_i => ?_) (fun c_i => ?_)
  · have c_i := pI_no c_i
    refine lv_iconst (v := (-1)) S.1 S.2.1 d_B_placeAbove_22 (by decide) ?_
    exact uIret S hr hlk (v, π) hP hS (by refine ⟨rfl, ?_⟩; rw [abvO, if_neg c_i]; rfl) d_B_placeAbove_23
  · have c_i := pI_yes c_i
    refine lv_iload_n S.1 S.2.1 d_B_placeAbove_18 rfl (lv_at hl 0 rfl) ?_
    refine lv_goto (tgt := 23) S.1 S.2.1 d_B_placeAbove_19 (by decide) ?_
    exact uIret S hr hlk (v, π) hP hS (by refine ⟨rfl, ?_⟩; rw [abvO, if_pos c_i]; rfl) d_B_placeAbove_23

set_option maxRecDepth 100000 in
set_option maxHeartbeats 4000000 in
theorem c_B_isInN {l : Launch} {D : va_G} {ca : Nat → ClassId} {ad : Nat → Nat} (hJ : uJ 165 ad) (v : Nat → Nat → Nat → Int32) (π : Nat → Nat) (n : Nat) (hB : xBk v π n) (a : Int32) : uMi l y_B_isIn b_B_isIn 3 (some .boolean) 0 0 D clsAll (tysAll ca) 165 ad (xG ca ad) (v, π) [.ref (ad 4), .int (-1), .int a] (fun r u => u = (v, π) ∧ r = pI False) := by
  refine uStart (by decide) (Nat.le_of_ble_eq_true rfl) ?_
  intro p e s m below meth c ls S hr hlk hK hN hP hl
  have hU : ∀ w ∈ uWS, w ∈ (Cond.code y_B_isIn b_B_isIn 3 (some .boolean) :: uWS) := fun w h => List.mem_cons_of_mem _ h
  have hS : va_S (uA 165 ad s.heap.size) s.heap s.heap [] := va_S.rf
  have hl : lv_has ls 3 [(0, .ref (ad 4)), (1, .int (-1)), (2, .int a)] := hl
  have hn40 : n ≤ 40 := hB.2.1
  refine lv_iload_n S.1 S.2.1 d_B_isIn_0 rfl (lv_at hl 1 rfl) ?_
  refine lv_if_lt (tgt := 29) S.1 S.2.1 d_B_isIn_1 (by decide) (fun c_neg => ?_) (fun c_neg => ?_)
  · refine lv_iconst (v := 0) S.1 S.2.1 d_B_isIn_29 (by decide) ?_
    exact uZret S hr hlk rfl (v, π) hP hS (⟨rfl, rfl⟩) d_B_isIn_30
  · exact absurd (by decide) c_neg

set_option maxRecDepth 100000 in
set_option maxHeartbeats 4000000 in
theorem c_B_placeBelow {l : Launch} {D : va_G} {ca : Nat → ClassId} {ad : Nat → Nat} (hJ : uJ 165 ad) (v : Nat → Nat → Nat → Int32) (π : Nat → Nat) (n : Nat) (hB : xBk v π n) (a b : Int32) : uMi l y_B_placeBelow b_B_placeBelow 4 (some .int) 2 45 D clsAll (tysAll ca) 165 ad (xG ca ad) (v, π) [.ref (ad 4), .int a, .int b] (fun r u => u = (v, π) ∧ r = oI (blwO v π n a b)) := by
  refine uStart (by decide) (Nat.le_of_ble_eq_true rfl) ?_
  intro p e s m below meth c ls S hr hlk hK hN hP hl
  have hU : ∀ w ∈ uWS, w ∈ (Cond.code y_B_placeBelow b_B_placeBelow 4 (some .int) :: uWS) := fun w h => List.mem_cons_of_mem _ h
  have hS : va_S (uA 165 ad s.heap.size) s.heap s.heap [] := va_S.rf
  have hl : lv_has ls 4 [(0, .ref (ad 4)), (1, .int a), (2, .int b)] := hl
  have hn40 : n ≤ 40 := hB.2.1
  refine lv_aload_n S.1 S.2.1 d_B_placeBelow_0 rfl (lv_at hl 0 rfl) ?_
  refine lv_iload_n S.1 S.2.1 d_B_placeBelow_1 rfl (lv_at hl 1 rfl) ?_
  refine lv_iload_n S.1 S.2.1 d_B_placeBelow_2 rfl (lv_at hl 2 rfl) ?_
  refine uVi (n := 2) (b := 4) (As := [.int a, .int b]) (rest := []) S hK hN hP hS (c_B_placeFor hJ v π n hB a b) ⟨hU, t1_236, t1_233, t1_5, by decide +kernel, by decide, by decide⟩ t1_235 tp_0 (by decide) xg_book rfl rfl rfl hl.1 rfl (Nat.le_of_ble_eq_true rfl) d_B_placeBelow_3 ⟨Nat.le_of_ble_eq_true rfl, Nat.le_of_ble_eq_true rfl⟩ (fun r u H locs hp hP hS => ?_)
  obtain ⟨rfl, rfl⟩ := hp
  refine lv_iconst (v := 1) S.1 S.2.1 d_B_placeBelow_6 (by decide) ?_
  refine lv_isub S.1 S.2.1 d_B_placeBelow_7 ?_
  have hle := pFor_le v π n a b
  rcases hp0 : pFor v π n a b with _ | q
  · rw [show nI 0 - 1 = -1 from by decide]
    refine lv_istore_n (lv' := [(3, .int (-1)), (0, .ref (ad 4)), (1, .int a), (2, .int b)]) S.1 S.2.1 d_B_placeBelow_8 rfl hl (by decide) rfl (fun ls hl => ?_)
    refine lv_aload_n S.1 S.2.1 d_B_placeBelow_9 rfl (lv_at hl 1 rfl) ?_
    refine lv_iload_n S.1 S.2.1 d_B_placeBelow_10 rfl (lv_at hl 0 rfl) ?_
    refine lv_iload_n S.1 S.2.1 d_B_placeBelow_11 rfl (lv_at hl 2 rfl) ?_
    refine uVi (n := 2) (b := 4) (As := [.int (-1), .int a]) (rest := []) S hK hN hP hS (c_B_isInN hJ v π n hB a) ⟨hU, t2_4, t2_1, t1_5, by decide +kernel, by decide, by decide⟩ t2_3 tp_1 (by decide) xg_book rfl rfl rfl hl.1 rfl (Nat.le_of_ble_eq_true rfl) d_B_placeBelow_12 ⟨Nat.le_of_ble_eq_true rfl, Nat.le_of_ble_eq_true rfl⟩ (fun r u H locs hp hP hS => ?_)
    obtain ⟨rfl, rfl⟩ := hp
    refine lv_if_eq (tgt := 22) S.1 S.2.1 d_B_placeBelow_15 (by decide) (fun c_i => ?_) (fun c_i => ?_)
    · have c_i := pI_no c_i
      refine lv_iconst (v := (-1)) S.1 S.2.1 d_B_placeBelow_22 (by decide) ?_
      exact uIret S hr hlk (v, π) hP hS (by refine ⟨rfl, ?_⟩; simp only [blwO, hp0]; first | rfl | (rw [if_neg c_i]; rfl)) d_B_placeBelow_23
    · have c_i := pI_yes c_i
      refine lv_iload_n S.1 S.2.1 d_B_placeBelow_18 rfl (lv_at hl 0 rfl) ?_
      refine lv_goto (tgt := 23) S.1 S.2.1 d_B_placeBelow_19 (by decide) ?_
      exact uIret S hr hlk (v, π) hP hS (by refine ⟨rfl, ?_⟩; simp only [blwO, hp0]; first | rfl | (rw [if_neg c_i]; rfl)) d_B_placeBelow_23
  · rw [nI_pred]
    rw [hp0] at hle
    refine lv_istore_n (lv' := [(3, .int (nI q)), (0, .ref (ad 4)), (1, .int a), (2, .int b)]) S.1 S.2.1 d_B_placeBelow_8 rfl hl (by decide) rfl (fun ls hl => ?_)
    refine lv_aload_n S.1 S.2.1 d_B_placeBelow_9 rfl (lv_at hl 1 rfl) ?_
    refine lv_iload_n S.1 S.2.1 d_B_placeBelow_10 rfl (lv_at hl 0 rfl) ?_
    refine lv_iload_n S.1 S.2.1 d_B_placeBelow_11 rfl (lv_at hl 2 rfl) ?_
    refine uVi (n := 2) (b := 4) (As := [.int (nI q), .int a]) (rest := []) S hK hN hP hS (c_B_isIn hJ v π n hB q (by omega) a) ⟨hU, t2_4, t2_1, t1_5, by decide +kernel, by decide, by decide⟩ t2_3 tp_1 (by decide) xg_book rfl rfl rfl hl.1 rfl (Nat.le_of_ble_eq_true rfl) d_B_placeBelow_12 ⟨Nat.le_of_ble_eq_true rfl, Nat.le_of_ble_eq_true rfl⟩ (fun r u H locs hp hP hS => ?_)
    obtain ⟨rfl, rfl⟩ := hp
    refine lv_if_eq (tgt := 22) S.1 S.2.1 d_B_placeBelow_15 (by decide) (fun c_i => ?_) (fun c_i => ?_)
    · have c_i := pI_no c_i
      refine lv_iconst (v := (-1)) S.1 S.2.1 d_B_placeBelow_22 (by decide) ?_
      exact uIret S hr hlk (v, π) hP hS (by refine ⟨rfl, ?_⟩; simp only [blwO, hp0]; first | rfl | (rw [if_neg c_i]; rfl)) d_B_placeBelow_23
    · have c_i := pI_yes c_i
      refine lv_iload_n S.1 S.2.1 d_B_placeBelow_18 rfl (lv_at hl 0 rfl) ?_
      refine lv_goto (tgt := 23) S.1 S.2.1 d_B_placeBelow_19 (by decide) ?_
      exact uIret S hr hlk (v, π) hP hS (by refine ⟨rfl, ?_⟩; simp only [blwO, hp0]; first | rw [if_pos c_i]; rfl | exact c_i.elim) d_B_placeBelow_23

set_option maxRecDepth 100000 in
set_option maxHeartbeats 4000000 in
theorem c_B_firstOf {l : Launch} {D : va_G} {ca : Nat → ClassId} {ad : Nat → Nat} (hJ : uJ 165 ad) (v : Nat → Nat → Nat → Int32) (π : Nat → Nat) (n : Nat) (hB : xBk v π n) (a : Int32) : uMi l y_B_firstOf b_B_firstOf 2 (some .int) 2 45 D clsAll (tysAll ca) 165 ad (xG ca ad) (v, π) [.ref (ad 4), .int a] (fun r u => u = (v, π) ∧ r = nI (pFor v π n a 0)) := by
  refine uStart (by decide) (Nat.le_of_ble_eq_true rfl) ?_
  intro p e s m below meth c ls S hr hlk hK hN hP hl
  have hU : ∀ w ∈ uWS, w ∈ (Cond.code y_B_firstOf b_B_firstOf 2 (some .int) :: uWS) := fun w h => List.mem_cons_of_mem _ h
  have hS : va_S (uA 165 ad s.heap.size) s.heap s.heap [] := va_S.rf
  have hl : lv_has ls 2 [(0, .ref (ad 4)), (1, .int a)] := hl
  refine lv_aload_n S.1 S.2.1 d_B_firstOf_0 rfl (lv_at hl 0 rfl) ?_
  refine lv_iload_n S.1 S.2.1 d_B_firstOf_1 rfl (lv_at hl 1 rfl) ?_
  refine lv_iconst (v := 0) S.1 S.2.1 d_B_firstOf_2 (by decide) ?_
  refine uVi (n := 2) (b := 4) (As := [.int a, .int 0]) (rest := []) S hK hN hP hS (c_B_placeFor hJ v π n hB a 0) ⟨hU, t1_236, t1_233, t1_5, by decide +kernel, by decide, by decide⟩ t1_235 tp_0 (by decide) xg_book rfl rfl rfl hl.1 rfl (Nat.le_of_ble_eq_true rfl) d_B_firstOf_3 ⟨Nat.le_of_ble_eq_true rfl, Nat.le_of_ble_eq_true rfl⟩ (fun r u H locs hp hP hS => ?_)
  obtain ⟨rfl, rfl⟩ := hp
  exact uIret S hr hlk (v, π) hP hS (⟨rfl, rfl⟩) d_B_firstOf_6

set_option maxRecDepth 100000 in
set_option maxHeartbeats 4000000 in
theorem c_B_lengthOf {l : Launch} {D : va_G} {ca : Nat → ClassId} {ad : Nat → Nat} (hJ : uJ 165 ad) (v : Nat → Nat → Nat → Int32) (π : Nat → Nat) (n : Nat) (hB : xBk v π n) (a : Int32) : uMi l y_B_lengthOf b_B_lengthOf 2 (some .int) 3 66 D clsAll (tysAll ca) 165 ad (xG ca ad) (v, π) [.ref (ad 4), .int a] (fun r u => u = (v, π) ∧ r = nI (pFor v π n (a + 1) 0) - nI (pFor v π n a 0)) := by
  refine uStart (by decide) (Nat.le_of_ble_eq_true rfl) ?_
  intro p e s m below meth c ls S hr hlk hK hN hP hl
  have hU : ∀ w ∈ uWS, w ∈ (Cond.code y_B_lengthOf b_B_lengthOf 2 (some .int) :: uWS) := fun w h => List.mem_cons_of_mem _ h
  have hS : va_S (uA 165 ad s.heap.size) s.heap s.heap [] := va_S.rf
  have hl : lv_has ls 2 [(0, .ref (ad 4)), (1, .int a)] := hl
  refine lv_aload_n S.1 S.2.1 d_B_lengthOf_0 rfl (lv_at hl 0 rfl) ?_
  refine lv_iload_n S.1 S.2.1 d_B_lengthOf_1 rfl (lv_at hl 1 rfl) ?_
  refine lv_iconst (v := 1) S.1 S.2.1 d_B_lengthOf_2 (by decide) ?_
  refine lv_iadd S.1 S.2.1 d_B_lengthOf_3 ?_
  refine uVi (n := 1) (b := 4) (As := [.int (a + 1)]) (rest := []) S hK hN hP hS (c_B_firstOf hJ v π n hB (a + 1)) ⟨hU, t3_73, t3_70, t1_5, by decide +kernel, by decide, by decide⟩ t3_71 t3_72 (by decide) xg_book rfl rfl rfl hl.1 rfl (Nat.le_of_ble_eq_true rfl) d_B_lengthOf_4 ⟨Nat.le_of_ble_eq_true rfl, Nat.le_of_ble_eq_true rfl⟩ (fun r u H locs hp hP hS => ?_)
  obtain ⟨rfl, rfl⟩ := hp
  refine lv_aload_n S.1 S.2.1 d_B_lengthOf_7 rfl (lv_at hl 0 rfl) ?_
  refine lv_iload_n S.1 S.2.1 d_B_lengthOf_8 rfl (lv_at hl 1 rfl) ?_
  refine uVi (n := 1) (b := 4) (As := [.int a]) (rest := [.int (nI (pFor v π n (a + 1) 0))]) S hK hN hP hS (c_B_firstOf hJ v π n hB a) ⟨hU, t3_73, t3_70, t1_5, by decide +kernel, by decide, by decide⟩ t3_71 t3_72 (by decide) xg_book rfl rfl rfl hl.1 rfl (Nat.le_of_ble_eq_true rfl) d_B_lengthOf_9 ⟨Nat.le_of_ble_eq_true rfl, Nat.le_of_ble_eq_true rfl⟩ (fun r u H locs hp hP hS => ?_)
  obtain ⟨rfl, rfl⟩ := hp
  refine lv_isub S.1 S.2.1 d_B_lengthOf_12 ?_
  exact uIret S hr hlk (v, π) hP hS (⟨rfl, rfl⟩) d_B_lengthOf_13

set_option maxRecDepth 100000 in
set_option maxHeartbeats 4000000 in
theorem c_B_moveCount {l : Launch} {D : va_G} {ca : Nat → ClassId} {ad : Nat → Nat} (hJ : uJ 165 ad) (v : Nat → Nat → Nat → Int32) (π : Nat → Nat) (n : Nat) (hB : xBk v π n) : uMi l y_B_moveCount b_B_moveCount 3 (some .int) 0 0 D clsAll (tysAll ca) 165 ad (xG ca ad) (v, π) [.ref (ad 4)] (fun r u => u = (v, π) ∧ r = mvs v π n) := by
  refine uStart (by decide) (Nat.le_of_ble_eq_true rfl) ?_
  intro p e s m below meth c ls S hr hlk hK hN hP hl
  have hU : ∀ w ∈ uWS, w ∈ (Cond.code y_B_moveCount b_B_moveCount 3 (some .int) :: uWS) := fun w h => List.mem_cons_of_mem _ h
  have hS : va_S (uA 165 ad s.heap.size) s.heap s.heap [] := va_S.rf
  have hl : lv_has ls 3 [(0, .ref (ad 4))] := hl
  have hn40 : n ≤ 40 := hB.2.1
  refine lv_iconst (v := 0) S.1 S.2.1 d_B_moveCount_0 (by decide) ?_
  refine lv_istore_n (lv' := [(1, .int 0), (0, .ref (ad 4))]) S.1 S.2.1 d_B_moveCount_1 rfl hl (by decide) rfl (fun ls hl => ?_)
  refine lv_iconst (v := 0) S.1 S.2.1 d_B_moveCount_2 (by decide) ?_
  refine lv_istore_n (lv' := [(2, .int 0), (1, .int 0), (0, .ref (ad 4))]) S.1 S.2.1 d_B_moveCount_3 rfl hl (by decide) rfl (fun ls hl => ?_)
  have L : ∀ i, i ≤ n → ∀ (H : Heap) (locs : List Loc) (ls : Array Slot), va_P D clsAll (uw 165 ad (xG ca ad (v, π))) H → va_S (uA 165 ad s.heap.size) s.heap H locs → lv_has ls 3 [(2, .int (nI i)), (1, .int (mvs v π i)), (0, .ref (ad 4))] → uGi 0 0 D clsAll 165 ad (xG ca ad) (fun r u => u = (v, π) ∧ r = mvs v π n) [.ref (ad 4)] p l e s m below meth c H locs 4 ls [] := by
    refine upTo n ?_ ?_
    · intro H locs ls hP hS hl
      refine lv_iload_n S.1 S.2.1 d_B_moveCount_4 rfl (lv_at hl 0 rfl) ?_
      refine lv_aload_n S.1 S.2.1 d_B_moveCount_5 rfl (lv_at hl 2 rfl) ?_
      refine ur_get (k := 4) (v := .int (v 4 0 0)) S hK hP (by decide) xg_book rfl (fun w h => hU w (in_B w h)) 1 (by decide) (hU _ t1_107) rfl d_B_moveCount_6 ?_
      refine lv_icmp_ge (tgt := 33) S.1 S.2.1 d_B_moveCount_9 (by decide) (fun c_h => ?_) (fun c_h => ?_)
      · refine lv_iload_n S.1 S.2.1 d_B_moveCount_33 rfl (lv_at hl 1 rfl) ?_
        exact uIret S hr hlk (v, π) hP hS (⟨rfl, rfl⟩) d_B_moveCount_34
      · exact absurd (by rw [hB.1]; exact nI_le (Nat.le_refl _) (by have := hB.2.1; omega)) c_h
    · intro i hi ih H locs ls hP hS hl
      refine lv_iload_n S.1 S.2.1 d_B_moveCount_4 rfl (lv_at hl 0 rfl) ?_
      refine lv_aload_n S.1 S.2.1 d_B_moveCount_5 rfl (lv_at hl 2 rfl) ?_
      refine ur_get (k := 4) (v := .int (v 4 0 0)) S hK hP (by decide) xg_book rfl (fun w h => hU w (in_B w h)) 1 (by decide) (hU _ t1_107) rfl d_B_moveCount_6 ?_
      refine lv_icmp_ge (tgt := 33) S.1 S.2.1 d_B_moveCount_9 (by decide) (fun c_h => ?_) (fun c_h => ?_)
      · exact absurd c_h (nI_litge hi (by have := hB.2.1; omega) hB.1)
      · refine lv_iload_n S.1 S.2.1 d_B_moveCount_12 rfl (lv_at hl 1 rfl) ?_
        refine lv_aload_n S.1 S.2.1 d_B_moveCount_13 rfl (lv_at hl 2 rfl) ?_
        refine ur_get (k := 4) (v := .ref (ad 5)) S hK hP (by decide) xg_book rfl (fun w h => hU w (in_B w h)) 0 (by decide) (hU _ t1_106) rfl d_B_moveCount_14 ?_
        refine lv_iload_n S.1 S.2.1 d_B_moveCount_17 rfl (lv_at hl 0 rfl) ?_
        refine ur_aald (k := 5) (q := ad (89 + π i)) (j := i) S hK hP (by decide) 2 xg_cues rfl rfl (by omega) (by decide) rfl d_B_moveCount_18 ?_
        refine ur_getN (k := (89 + (π i))) (v := .ref (ad (7 + 2 * (π i)))) S hK hP (kb_C (hB.2.2 _ (by omega))) (xg_cue (hB.2.2 _ (by omega))) rfl (fun w h => hU w (in_C w h)) 0 (by decide) (hN _ t1_74) rfl d_B_moveCount_19 ?_
        refine ur_getN (k := (7 + 2 * (π i))) (v := .int (v 16 (π i) 0)) S hK hP (kb_V (Nat.lt_succ_of_lt (hB.2.2 _ (by omega)))) (xg_row (Nat.lt_succ_of_lt (hB.2.2 _ (by omega)))) rfl (fun w h => hU w (in_V w h)) 1 (by decide) (hN _ t1_37) rfl d_B_moveCount_22 ?_
        refine lv_iadd S.1 S.2.1 d_B_moveCount_25 ?_
        refine lv_topi (fun x_1 ex_1 => ?_)
        refine lv_istore_n (lv' := [(1, .int x_1), (2, .int (nI i)), (0, .ref (ad 4))]) S.1 S.2.1 d_B_moveCount_26 rfl hl (by decide) rfl (fun ls hl => ?_)
        refine lv_iinc (v := nI (i + 1)) (lv' := [(2, .int (nI (i + 1))), (1, .int x_1), (0, .ref (ad 4))]) S.1 S.2.1 d_B_moveCount_27 hl (k := 1) rfl (nI_1 i) (by decide) rfl (fun ls hl => ?_)
        refine lv_goto (tgt := 4) S.1 S.2.1 d_B_moveCount_30 (by decide) ?_
        subst ex_1
        exact ih _ _ ls hP hS (lv_sub hl [0, 1, 2] rfl)
  exact L 0 (Nat.zero_le _) _ _ ls hP hS (lv_sub hl [0, 1, 2] rfl)

set_option maxRecDepth 100000 in
set_option maxHeartbeats 4000000 in
theorem c_B_at {l : Launch} {D : va_G} {ca : Nat → ClassId} {ad : Nat → Nat} (hJ : uJ 165 ad) (v : Nat → Nat → Nat → Int32) (π : Nat → Nat) (q : Nat) (hq : q < 40) : uMr l y_B_at b_B_at 2 (some (.object "LightingDesk$Cue")) 0 0 D clsAll (tysAll ca) 165 ad (xG ca ad) (v, π) [.ref (ad 4), .int (nI q)] (fun r u => u = (v, π) ∧ r = ad (89 + π q)) := by
  refine uStart (by decide) (Nat.le_of_ble_eq_true rfl) ?_
  intro p e s m below meth c ls S hr hlk hK hN hP hl
  have hU : ∀ w ∈ uWS, w ∈ (Cond.code y_B_at b_B_at 2 (some (.object "LightingDesk$Cue")) :: uWS) := fun w h => List.mem_cons_of_mem _ h
  have hS : va_S (uA 165 ad s.heap.size) s.heap s.heap [] := va_S.rf
  have hl : lv_has ls 2 [(0, .ref (ad 4)), (1, .int (nI q))] := hl
  refine lv_aload_n S.1 S.2.1 d_B_at_0 rfl (lv_at hl 0 rfl) ?_
  refine ur_get (k := 4) (v := .ref (ad 5)) S hK hP (by decide) xg_book rfl (fun w h => hU w (in_B w h)) 0 (by decide) (hU _ t1_106) rfl d_B_at_1 ?_
  refine lv_iload_n S.1 S.2.1 d_B_at_4 rfl (lv_at hl 1 rfl) ?_
  refine ur_aald (k := 5) (q := ad (89 + π q)) (j := q) S hK hP (by decide) 2 xg_cues rfl rfl hq (by decide) rfl d_B_at_5 ?_
  exact uRret S hr hlk (v, π) hP hS (⟨rfl, rfl⟩) d_B_at_6

set_option maxRecDepth 100000 in
set_option maxHeartbeats 4000000 in
theorem c_B_orUnset {l : Launch} {D : va_G} {ca : Nat → ClassId} {ad : Nat → Nat} (hJ : uJ 165 ad) (v : Nat → Nat → Nat → Int32) (π : Nat → Nat) (x0 : Int32) : uMi l y_B_orUnset b_B_orUnset 1 (some .int) 0 0 D clsAll (tysAll ca) 165 ad (xG ca ad) (v, π) [.int x0] (fun r u => u = (v, π) ∧ r = orU x0) := by
  refine uStart (by decide) (Nat.le_of_ble_eq_true rfl) ?_
  intro p e s m below meth c ls S hr hlk hK hN hP hl
  have hU : ∀ w ∈ uWS, w ∈ (Cond.code y_B_orUnset b_B_orUnset 1 (some .int) :: uWS) := fun w h => List.mem_cons_of_mem _ h
  have hS : va_S (uA 165 ad s.heap.size) s.heap s.heap [] := va_S.rf
  have hl : lv_has ls 1 [(0, .int x0)] := hl
  refine lv_iload_n S.1 S.2.1 d_B_orUnset_0 rfl (lv_at hl 0 rfl) ?_
  refine lv_iconst (v := (-1)) S.1 S.2.1 d_B_orUnset_1 (by decide) ?_
  refine lv_icmp_ne (tgt := 11) S.1 S.2.1 d_B_orUnset_2 (by decide) (fun c_1 => ?_) (fun c_1 => ?_)
  · refine lv_iload_n S.1 S.2.1 d_B_orUnset_11 rfl (lv_at hl 0 rfl) ?_
    exact uIret S hr hlk (v, π) hP hS (by refine ⟨rfl, ?_⟩; simp [orU, c_1]) d_B_orUnset_12
  · refine lv_sipush (v := 272) S.1 S.2.1 d_B_orUnset_5 (by decide) ?_
    refine lv_goto (tgt := 12) S.1 S.2.1 d_B_orUnset_8 (by decide) ?_
    exact uIret S hr hlk (v, π) hP hS (by refine ⟨rfl, ?_⟩; simp [orU, c_1]) d_B_orUnset_12
end
section
/-! The class: sources, rows, levels, fades (printed by wip/gen/gen_x3.py) -/
set_option maxRecDepth 100000 in
set_option maxHeartbeats 4000000 in
theorem c_B_sourceOfN {l : Launch} {D : va_G} {ca : Nat → ClassId} {ad : Nat → Nat} (hJ : uJ 165 ad) (v : Nat → Nat → Nat → Int32) (π : Nat → Nat) (n : Nat) (hB : xBk v π n) (ch : Nat) (hch : ch < 64) : uMi l y_B_sourceOf b_B_sourceOf 5 (some .int) 1 21 D clsAll (tysAll ca) 165 ad (xG ca ad) (v, π) [.ref (ad 4), .int (-1), .int (nI ch)] (fun r u => u = (v, π) ∧ r = oI none) := by
  refine uStart (by decide) (Nat.le_of_ble_eq_true rfl) ?_
  intro p e s m below meth c ls S hr hlk hK hN hP hl
  have hU : ∀ w ∈ uWS, w ∈ (Cond.code y_B_sourceOf b_B_sourceOf 5 (some .int) :: uWS) := fun w h => List.mem_cons_of_mem _ h
  have hS : va_S (uA 165 ad s.heap.size) s.heap s.heap [] := va_S.rf
  have hl : lv_has ls 5 [(0, .ref (ad 4)), (1, .int (-1)), (2, .int (nI ch))] := hl
  refine lv_iload_n S.1 S.2.1 d_B_sourceOf_0 rfl (lv_at hl 1 rfl) ?_
  refine lv_if_lt (tgt := 12) S.1 S.2.1 d_B_sourceOf_1 (by decide) (fun c_n => ?_) (fun c_n => ?_)
  · refine lv_iconst (v := (-1)) S.1 S.2.1 d_B_sourceOf_12 (by decide) ?_
    exact uIret S hr hlk (v, π) hP hS (⟨rfl, rfl⟩) d_B_sourceOf_13
  · exact absurd (by decide) c_n

set_option maxRecDepth 100000 in
set_option maxHeartbeats 4000000 in
theorem c_B_sourceOfS {l : Launch} {D : va_G} {ca : Nat → ClassId} {ad : Nat → Nat} (hJ : uJ 165 ad) (v : Nat → Nat → Nat → Int32) (π : Nat → Nat) (n : Nat) (hB : xBk v π n) (q ch : Nat) (hq : q < n) (hch : ch < 64) : uMi l y_B_sourceOf b_B_sourceOf 5 (some .int) 1 21 D clsAll (tysAll ca) 165 ad (xG ca ad) (v, π) [.ref (ad 4), .int (nI q), .int (nI ch)] (fun r u => u = (v, π) ∧ r = oI (sGo v π (v 10 (π q) 0) ch (q + 1))) := by
  refine uStart (by decide) (Nat.le_of_ble_eq_true rfl) ?_
  intro p e s m below meth c ls S hr hlk hK hN hP hl
  have hU : ∀ w ∈ uWS, w ∈ (Cond.code y_B_sourceOf b_B_sourceOf 5 (some .int) :: uWS) := fun w h => List.mem_cons_of_mem _ h
  have hS : va_S (uA 165 ad s.heap.size) s.heap s.heap [] := va_S.rf
  have hl : lv_has ls 5 [(0, .ref (ad 4)), (1, .int (nI q)), (2, .int (nI ch))] := hl
  have hn40 : n ≤ 40 := hB.2.1
  refine lv_iload_n S.1 S.2.1 d_B_sourceOf_0 rfl (lv_at hl 1 rfl) ?_
  refine lv_if_lt (tgt := 12) S.1 S.2.1 d_B_sourceOf_1 (by decide) (fun c_n => ?_) (fun c_n => ?_)
  · exact absurd c_n (nI_pos (by omega))
  · refine lv_iload_n S.1 S.2.1 d_B_sourceOf_4 rfl (lv_at hl 1 rfl) ?_
    refine lv_aload_n S.1 S.2.1 d_B_sourceOf_5 rfl (lv_at hl 0 rfl) ?_
    refine ur_get (k := 4) (v := .int (v 4 0 0)) S hK hP (by decide) xg_book rfl (fun w h => hU w (in_B w h)) 1 (by decide) (hU _ t1_107) rfl d_B_sourceOf_6 ?_
    refine lv_icmp_lt (tgt := 14) S.1 S.2.1 d_B_sourceOf_9 (by decide) (fun c_s => ?_) (fun c_s => ?_)
    · refine lv_aload_n S.1 S.2.1 d_B_sourceOf_14 rfl (lv_at hl 0 rfl) ?_
      refine ur_get (k := 4) (v := .ref (ad 5)) S hK hP (by decide) xg_book rfl (fun w h => hU w (in_B w h)) 0 (by decide) (hU _ t1_106) rfl d_B_sourceOf_15 ?_
      refine lv_iload_n S.1 S.2.1 d_B_sourceOf_18 rfl (lv_at hl 1 rfl) ?_
      refine ur_aald (k := 5) (q := ad (89 + π q)) (j := q) S hK hP (by decide) 2 xg_cues rfl rfl (by omega) (by decide) rfl d_B_sourceOf_19 ?_
      refine ur_getN (k := (89 + (π q))) (v := .int (v 10 (π q) 0)) S hK hP (kb_C (hB.2.2 _ (by omega))) (xg_cue (hB.2.2 _ (by omega))) rfl (fun w h => hU w (in_C w h)) 1 (by decide) (hN _ t1_76) rfl d_B_sourceOf_20 ?_
      refine lv_istore_n (lv' := [(3, .int (v 10 (π q) 0)), (0, .ref (ad 4)), (1, .int (nI q)), (2, .int (nI ch))]) S.1 S.2.1 d_B_sourceOf_23 rfl hl (by decide) rfl (fun ls hl => ?_)
      refine lv_iload_n S.1 S.2.1 d_B_sourceOf_24 rfl (lv_at hl 2 rfl) ?_
      refine lv_istore (lv' := [(4, .int (nI q)), (3, .int (v 10 (π q) 0)), (0, .ref (ad 4)), (1, .int (nI q)), (2, .int (nI ch))]) S.1 S.2.1 d_B_sourceOf_25 hl (by decide) rfl (fun ls hl => ?_)
      have L : ∀ k, k ≤ q + 1 → sGo v π (v 10 (π q) 0) ch (q + 1) = sGo v π (v 10 (π q) 0) ch k → ∀ (H : Heap) (locs : List Loc) (ls : Array Slot), va_P D clsAll (uw 165 ad (xG ca ad (v, π))) H → va_S (uA 165 ad s.heap.size) s.heap H locs → lv_has ls 5 [(4, .int (nI k - 1)), (3, .int (v 10 (π q) 0)), (0, .ref (ad 4)), (1, .int (nI q)), (2, .int (nI ch))] → uGi 1 21 D clsAll 165 ad (xG ca ad) (fun r u => u = (v, π) ∧ r = oI (sGo v π (v 10 (π q) 0) ch (q + 1))) [.ref (ad 4), .int (nI q), .int (nI ch)] p l e s m below meth c H locs 27 ls [] := by
        refine downTo ?_ ?_
        · intro hk hI H locs ls hP hS hl
          rw [show nI 0 - 1 = -1 from by decide] at hl
          refine lv_iload S.1 S.2.1 d_B_sourceOf_27 (lv_at hl 0 rfl) ?_
          refine lv_if_lt (tgt := 72) S.1 S.2.1 d_B_sourceOf_29 (by decide) (fun c_z => ?_) (fun c_z => ?_)
          · refine lv_iconst (v := (-1)) S.1 S.2.1 d_B_sourceOf_72 (by decide) ?_
            exact uIret S hr hlk (v, π) hP hS (by refine ⟨rfl, ?_⟩; rw [hI]; rfl) d_B_sourceOf_73
          · exact absurd (by decide) c_z
        · intro i ih hk hI H locs ls hP hS hl
          rw [nI_pred] at hl
          refine lv_iload S.1 S.2.1 d_B_sourceOf_27 (lv_at hl 0 rfl) ?_
          refine lv_if_lt (tgt := 72) S.1 S.2.1 d_B_sourceOf_29 (by decide) (fun c_z => ?_) (fun c_z => ?_)
          · exact absurd c_z (nI_pos (by omega))
          · refine lv_aload_n S.1 S.2.1 d_B_sourceOf_32 rfl (lv_at hl 2 rfl) ?_
            refine ur_get (k := 4) (v := .ref (ad 5)) S hK hP (by decide) xg_book rfl (fun w h => hU w (in_B w h)) 0 (by decide) (hU _ t1_106) rfl d_B_sourceOf_33 ?_
            refine lv_iload S.1 S.2.1 d_B_sourceOf_36 (lv_at hl 0 rfl) ?_
            refine ur_aald (k := 5) (q := ad (89 + π i)) (j := i) S hK hP (by decide) 2 xg_cues rfl rfl (by omega) (by decide) rfl d_B_sourceOf_38 ?_
            refine ur_getN (k := (89 + (π i))) (v := .int (v 10 (π i) 0)) S hK hP (kb_C (hB.2.2 _ (by omega))) (xg_cue (hB.2.2 _ (by omega))) rfl (fun w h => hU w (in_C w h)) 1 (by decide) (hN _ t1_76) rfl d_B_sourceOf_39 ?_
            refine lv_iload_n S.1 S.2.1 d_B_sourceOf_42 rfl (lv_at hl 1 rfl) ?_
            refine lv_icmp_ne (tgt := 72) S.1 S.2.1 d_B_sourceOf_43 (by decide) (fun c_l => ?_) (fun c_l => ?_)
            · refine lv_iconst (v := (-1)) S.1 S.2.1 d_B_sourceOf_72 (by decide) ?_
              exact uIret S hr hlk (v, π) hP hS (by refine ⟨rfl, ?_⟩; rw [hI, sGo, if_neg c_l]; rfl) d_B_sourceOf_73
            · refine lv_aload_n S.1 S.2.1 d_B_sourceOf_46 rfl (lv_at hl 2 rfl) ?_
              refine ur_get (k := 4) (v := .ref (ad 5)) S hK hP (by decide) xg_book rfl (fun w h => hU w (in_B w h)) 0 (by decide) (hU _ t1_106) rfl d_B_sourceOf_47 ?_
              refine lv_iload S.1 S.2.1 d_B_sourceOf_50 (lv_at hl 0 rfl) ?_
              refine ur_aald (k := 5) (q := ad (89 + π i)) (j := i) S hK hP (by decide) 2 xg_cues rfl rfl (by omega) (by decide) rfl d_B_sourceOf_52 ?_
              refine ur_getN (k := (89 + (π i))) (v := .ref (ad (7 + 2 * (π i)))) S hK hP (kb_C (hB.2.2 _ (by omega))) (xg_cue (hB.2.2 _ (by omega))) rfl (fun w h => hU w (in_C w h)) 0 (by decide) (hN _ t1_74) rfl d_B_sourceOf_53 ?_
              refine lv_iload_n S.1 S.2.1 d_B_sourceOf_56 rfl (lv_at hl 4 rfl) ?_
              refine uVi (n := 1) (b := (7 + 2 * (π i))) (As := [.int (nI ch)]) (rest := []) S hK hN hP hS (c_V_has hJ v π (π i) ch (Nat.lt_succ_of_lt (hB.2.2 _ (by omega))) hch) ⟨hU, t2_135, t2_150, t1_2, by decide +kernel, by decide, by decide⟩ t2_133 t2_134 (kb_V (Nat.lt_succ_of_lt (hB.2.2 _ (by omega)))) (xg_row (Nat.lt_succ_of_lt (hB.2.2 _ (by omega)))) rfl rfl rfl hl.1 rfl (Nat.le_of_ble_eq_true rfl) d_B_sourceOf_57 ⟨Nat.le_of_ble_eq_true rfl, Nat.le_of_ble_eq_true rfl⟩ (fun r u H locs hp hP hS => ?_)
              obtain ⟨rfl, rfl⟩ := hp
              refine lv_if_eq (tgt := 66) S.1 S.2.1 d_B_sourceOf_60 (by decide) (fun c_v => ?_) (fun c_v => ?_)
              · have c_v := pI_no c_v
                refine lv_iinc (v := nI i - 1) (lv' := [(4, .int (nI i - 1)), (3, .int (v 10 (π q) 0)), (0, .ref (ad 4)), (1, .int (nI q)), (2, .int (nI ch))]) S.1 S.2.1 d_B_sourceOf_66 hl (k := 0) rfl (nI_dec _) (by decide) rfl (fun ls hl => ?_)
                refine lv_goto (tgt := 27) S.1 S.2.1 d_B_sourceOf_69 (by decide) ?_
                exact ih (by omega) (by rw [hI, sGo, if_pos c_l, if_pos (Decidable.not_not.mp c_v)]) _ _ ls hP hS (lv_sub hl [0, 1, 2, 3, 4] rfl)
              · have c_v := pI_yes c_v
                refine lv_iload S.1 S.2.1 d_B_sourceOf_63 (lv_at hl 0 rfl) ?_
                exact uIret S hr hlk (v, π) hP hS (by refine ⟨rfl, ?_⟩; rw [hI, sGo, if_pos c_l, if_neg c_v]; rfl) d_B_sourceOf_65
      refine L (q + 1) (Nat.le_refl _) rfl _ _ ls hP hS ?_
      rw [nI_pred]
      exact lv_sub hl [0, 1, 2, 3, 4] rfl
    · exact absurd (by rw [hB.1]; exact nI_lt hq (by omega)) c_s

theorem c_B_sourceOf {l : Launch} {D : va_G} {ca : Nat → ClassId} {ad : Nat → Nat} (hJ : uJ 165 ad) (v : Nat → Nat → Nat → Int32) (π : Nat → Nat) (n : Nat) (hB : xBk v π n) (X : Option Nat) (hX : ∀ p, X = some p → p < n) (ch : Nat) (hch : ch < 64) : uMi l y_B_sourceOf b_B_sourceOf 5 (some .int) 1 21 D clsAll (tysAll ca) 165 ad (xG ca ad) (v, π) [.ref (ad 4), .int (oI X), .int (nI ch)] (fun r u => u = (v, π) ∧ r = oI (srcO v π ch X)) := by
  cases X with
  | none => exact c_B_sourceOfN hJ v π n hB ch hch
  | some q => exact c_B_sourceOfS hJ v π n hB q ch (hX q rfl) hch

set_option maxRecDepth 100000 in
set_option maxHeartbeats 4000000 in
theorem c_B_trackedAt {l : Launch} {D : va_G} {ca : Nat → ClassId} {ad : Nat → Nat} (hJ : uJ 165 ad) (v : Nat → Nat → Nat → Int32) (π : Nat → Nat) (n : Nat) (hB : xBk v π n) (X : Option Nat) (hX : ∀ p, X = some p → p < n) (ch : Nat) (hch : ch < 64) : uMi l y_B_trackedAt b_B_trackedAt 4 (some .int) 2 45 D clsAll (tysAll ca) 165 ad (xG ca ad) (v, π) [.ref (ad 4), .int (oI X), .int (nI ch)] (fun r u => u = (v, π) ∧ r = trk v π ch X) := by
  refine uStart (by decide) (Nat.le_of_ble_eq_true rfl) ?_
  intro p e s m below meth c ls S hr hlk hK hN hP hl
  have hU : ∀ w ∈ uWS, w ∈ (Cond.code y_B_trackedAt b_B_trackedAt 4 (some .int) :: uWS) := fun w h => List.mem_cons_of_mem _ h
  have hS : va_S (uA 165 ad s.heap.size) s.heap s.heap [] := va_S.rf
  have hl : lv_has ls 4 [(0, .ref (ad 4)), (1, .int (oI X)), (2, .int (nI ch))] := hl
  have hn40 : n ≤ 40 := hB.2.1
  refine lv_aload_n S.1 S.2.1 d_B_trackedAt_0 rfl (lv_at hl 0 rfl) ?_
  refine lv_iload_n S.1 S.2.1 d_B_trackedAt_1 rfl (lv_at hl 1 rfl) ?_
  refine lv_iload_n S.1 S.2.1 d_B_trackedAt_2 rfl (lv_at hl 2 rfl) ?_
  refine uVi (n := 2) (b := 4) (As := [.int (oI X), .int (nI ch)]) (rest := []) S hK hN hP hS (c_B_sourceOf hJ v π n hB (X) (fun p h => hX _ h) ch hch) ⟨hU, t2_158, t2_155, t1_5, by decide +kernel, by decide, by decide⟩ t2_156 t2_157 (by decide) xg_book rfl rfl rfl hl.1 rfl (Nat.le_of_ble_eq_true rfl) d_B_trackedAt_3 ⟨Nat.le_of_ble_eq_true rfl, Nat.le_of_ble_eq_true rfl⟩ (fun r u H locs hp hP hS => ?_)
  obtain ⟨rfl, rfl⟩ := hp
  rcases hX_1 : srcO v π ch (X) with _ | p_2
  · refine lv_istore_n (lv' := [(3, .int (-1)), (0, .ref (ad 4)), (1, .int (oI X)), (2, .int (nI ch))]) S.1 S.2.1 d_B_trackedAt_6 rfl hl (by decide) rfl (fun ls hl => ?_)
    refine lv_iload_n S.1 S.2.1 d_B_trackedAt_7 rfl (lv_at hl 0 rfl) ?_
    refine lv_iconst (v := (-1)) S.1 S.2.1 d_B_trackedAt_8 (by decide) ?_
    refine lv_icmp_ne (tgt := 16) S.1 S.2.1 d_B_trackedAt_9 (by decide) (fun c_3 => ?_) (fun c_3 => ?_)
    · exact absurd rfl c_3
    · refine lv_iconst (v := (-1)) S.1 S.2.1 d_B_trackedAt_12 (by decide) ?_
      refine lv_goto (tgt := 29) S.1 S.2.1 d_B_trackedAt_13 (by decide) ?_
      exact uIret S hr hlk (v, π) hP hS (by refine ⟨rfl, ?_⟩; simp only [trk, hX_1]) d_B_trackedAt_29
  · have hp_2 : p_2 < n := srcO_lt (fun p h => hX _ h) _ hX_1
    refine lv_istore_n (lv' := [(3, .int (nI p_2)), (0, .ref (ad 4)), (1, .int (oI X)), (2, .int (nI ch))]) S.1 S.2.1 d_B_trackedAt_6 rfl hl (by decide) rfl (fun ls hl => ?_)
    refine lv_iload_n S.1 S.2.1 d_B_trackedAt_7 rfl (lv_at hl 0 rfl) ?_
    refine lv_iconst (v := (-1)) S.1 S.2.1 d_B_trackedAt_8 (by decide) ?_
    refine lv_icmp_ne (tgt := 16) S.1 S.2.1 d_B_trackedAt_9 (by decide) (fun c_4 => ?_) (fun c_4 => ?_)
    · refine lv_aload_n S.1 S.2.1 d_B_trackedAt_16 rfl (lv_at hl 1 rfl) ?_
      refine ur_get (k := 4) (v := .ref (ad 5)) S hK hP (by decide) xg_book rfl (fun w h => hU w (in_B w h)) 0 (by decide) (hU _ t1_106) rfl d_B_trackedAt_17 ?_
      refine lv_iload_n S.1 S.2.1 d_B_trackedAt_20 rfl (lv_at hl 0 rfl) ?_
      refine ur_aald (k := 5) (q := ad (89 + π p_2)) (j := p_2) S hK hP (by decide) 2 xg_cues rfl rfl (by omega) (by decide) rfl d_B_trackedAt_21 ?_
      refine ur_getN (k := (89 + (π p_2))) (v := .ref (ad (7 + 2 * (π p_2)))) S hK hP (kb_C (hB.2.2 _ (by omega))) (xg_cue (hB.2.2 _ (by omega))) rfl (fun w h => hU w (in_C w h)) 0 (by decide) (hN _ t1_74) rfl d_B_trackedAt_22 ?_
      refine lv_iload_n S.1 S.2.1 d_B_trackedAt_25 rfl (lv_at hl 3 rfl) ?_
      refine uVi (n := 1) (b := (7 + 2 * (π p_2))) (As := [.int (nI ch)]) (rest := []) S hK hN hP hS (c_V_valueAt hJ v π (π p_2) ch (Nat.lt_succ_of_lt (hB.2.2 _ (by omega))) hch) ⟨hU, t2_162, t2_159, t1_2, by decide +kernel, by decide, by decide⟩ t2_160 t2_161 (kb_V (Nat.lt_succ_of_lt (hB.2.2 _ (by omega)))) (xg_row (Nat.lt_succ_of_lt (hB.2.2 _ (by omega)))) rfl rfl rfl hl.1 rfl (Nat.le_of_ble_eq_true rfl) d_B_trackedAt_26 ⟨Nat.le_of_ble_eq_true rfl, Nat.le_of_ble_eq_true rfl⟩ (fun r u H locs hp hP hS => ?_)
      obtain ⟨rfl, rfl⟩ := hp
      exact uIret S hr hlk (v, π) hP hS (by refine ⟨rfl, ?_⟩; simp only [trk, hX_1]) d_B_trackedAt_29
    · exact absurd c_4 (nI_nm1 (by omega))

set_option maxRecDepth 100000 in
set_option maxHeartbeats 4000000 in
theorem c_V_lackedOf {l : Launch} {D : va_G} {ca : Nat → ClassId} {ad : Nat → Nat} (hJ : uJ 165 ad) (v : Nat → Nat → Nat → Int32) (π : Nat → Nat) (M : Nat) (hM : M = 64) (j k : Nat) (hj : j < 41) (hk : k < 41) : uMi l y_V_lackedOf b_V_lackedOf 4 (some .int) 1 21 D clsAll (tysAll ca) 165 ad (xG ca ad) (v, π) [.ref (ad (7 + 2 * j)), .ref (ad (7 + 2 * k))] (fun r u => u = (v, π) ∧ r = lacks v j k M) := by
  refine uStart (by decide) (Nat.le_of_ble_eq_true rfl) ?_
  intro p e s m below meth c ls S hr hlk hK hN hP hl
  have hU : ∀ w ∈ uWS, w ∈ (Cond.code y_V_lackedOf b_V_lackedOf 4 (some .int) :: uWS) := fun w h => List.mem_cons_of_mem _ h
  have hS : va_S (uA 165 ad s.heap.size) s.heap s.heap [] := va_S.rf
  have hl : lv_has ls 4 [(0, .ref (ad (7 + 2 * j))), (1, .ref (ad (7 + 2 * k)))] := hl
  refine lv_iconst (v := 0) S.1 S.2.1 d_V_lackedOf_0 (by decide) ?_
  refine lv_istore_n (lv' := [(2, .int 0), (0, .ref (ad (7 + 2 * j))), (1, .ref (ad (7 + 2 * k)))]) S.1 S.2.1 d_V_lackedOf_1 rfl hl (by decide) rfl (fun ls hl => ?_)
  refine lv_iconst (v := 0) S.1 S.2.1 d_V_lackedOf_2 (by decide) ?_
  refine lv_istore_n (lv' := [(3, .int 0), (2, .int 0), (0, .ref (ad (7 + 2 * j))), (1, .ref (ad (7 + 2 * k)))]) S.1 S.2.1 d_V_lackedOf_3 rfl hl (by decide) rfl (fun ls hl => ?_)
  have L : ∀ i, i ≤ M → ∀ (H : Heap) (locs : List Loc) (ls : Array Slot), va_P D clsAll (uw 165 ad (xG ca ad (v, π))) H → va_S (uA 165 ad s.heap.size) s.heap H locs → lv_has ls 4 [(3, .int (nI i)), (2, .int (lacks v j k i)), (0, .ref (ad (7 + 2 * j))), (1, .ref (ad (7 + 2 * k)))] → uGi 1 21 D clsAll 165 ad (xG ca ad) (fun r u => u = (v, π) ∧ r = lacks v j k M) [.ref (ad (7 + 2 * j)), .ref (ad (7 + 2 * k))] p l e s m below meth c H locs 4 ls [] := by
    refine upTo M ?_ ?_
    · intro H locs ls hP hS hl
      refine lv_iload_n S.1 S.2.1 d_V_lackedOf_4 rfl (lv_at hl 0 rfl) ?_
      refine lv_bipush (v := 64) S.1 S.2.1 d_V_lackedOf_5 (by decide) ?_
      refine lv_icmp_ge (tgt := 35) S.1 S.2.1 d_V_lackedOf_7 (by decide) (fun c_h => ?_) (fun c_h => ?_)
      · refine lv_iload_n S.1 S.2.1 d_V_lackedOf_35 rfl (lv_at hl 1 rfl) ?_
        exact uIret S hr hlk (v, π) hP hS (⟨rfl, rfl⟩) d_V_lackedOf_36
      · exact absurd (by subst hM; exact nI_le (Nat.le_refl 64) (by decide)) c_h
    · intro i hi ih H locs ls hP hS hl
      refine lv_iload_n S.1 S.2.1 d_V_lackedOf_4 rfl (lv_at hl 0 rfl) ?_
      refine lv_bipush (v := 64) S.1 S.2.1 d_V_lackedOf_5 (by decide) ?_
      refine lv_icmp_ge (tgt := 35) S.1 S.2.1 d_V_lackedOf_7 (by decide) (fun c_h => ?_) (fun c_h => ?_)
      · exact absurd c_h (nI_ge (b := 64) (by omega) (by decide))
      · refine lv_aload_n S.1 S.2.1 d_V_lackedOf_10 rfl (lv_at hl 3 rfl) ?_
        refine lv_iload_n S.1 S.2.1 d_V_lackedOf_11 rfl (lv_at hl 0 rfl) ?_
        refine uVi (n := 1) (b := (7 + 2 * k)) (As := [.int (nI i)]) (rest := []) S hK hN hP hS (c_V_has hJ v π k i hk (by omega)) ⟨hU, t2_135, t2_132, t1_2, by decide +kernel, by decide, by decide⟩ t2_133 t2_134 (kb_V hk) (xg_row hk) rfl rfl rfl hl.1 rfl (Nat.le_of_ble_eq_true rfl) d_V_lackedOf_12 ⟨Nat.le_of_ble_eq_true rfl, Nat.le_of_ble_eq_true rfl⟩ (fun r u H locs hp hP hS => ?_)
        obtain ⟨rfl, rfl⟩ := hp
        refine lv_if_eq (tgt := 29) S.1 S.2.1 d_V_lackedOf_15 (by decide) (fun c_a => ?_) (fun c_a => ?_)
        · have c_a := pI_no c_a
          refine lv_iinc (v := nI (i + 1)) (lv' := [(3, .int (nI (i + 1))), (2, .int (lacks v j k i)), (0, .ref (ad (7 + 2 * j))), (1, .ref (ad (7 + 2 * k)))]) S.1 S.2.1 d_V_lackedOf_29 hl (k := 0) rfl (nI_1 i) (by decide) rfl (fun ls hl => ?_)
          refine lv_goto (tgt := 4) S.1 S.2.1 d_V_lackedOf_32 (by decide) ?_
          rw [show lacks v j k i = lacks v j k (i + 1) from by rw [lacks, if_neg (fun z => c_a z.1)]] at hl
          exact ih _ _ ls hP hS (lv_sub hl [0, 1, 2, 3] rfl)
        · have c_a := pI_yes c_a
          refine lv_aload_n S.1 S.2.1 d_V_lackedOf_18 rfl (lv_at hl 2 rfl) ?_
          refine lv_iload_n S.1 S.2.1 d_V_lackedOf_19 rfl (lv_at hl 0 rfl) ?_
          refine uVi (n := 1) (b := (7 + 2 * j)) (As := [.int (nI i)]) (rest := []) S hK hN hP hS (c_V_has hJ v π j i hj (by omega)) ⟨hU, t2_135, t2_132, t1_2, by decide +kernel, by decide, by decide⟩ t2_133 t2_134 (kb_V hj) (xg_row hj) rfl rfl rfl hl.1 rfl (Nat.le_of_ble_eq_true rfl) d_V_lackedOf_20 ⟨Nat.le_of_ble_eq_true rfl, Nat.le_of_ble_eq_true rfl⟩ (fun r u H locs hp hP hS => ?_)
          obtain ⟨rfl, rfl⟩ := hp
          refine lv_if_ne (tgt := 29) S.1 S.2.1 d_V_lackedOf_23 (by decide) (fun c_b => ?_) (fun c_b => ?_)
          · have c_b := pI_yes c_b
            refine lv_iinc (v := nI (i + 1)) (lv' := [(3, .int (nI (i + 1))), (2, .int (lacks v j k i)), (0, .ref (ad (7 + 2 * j))), (1, .ref (ad (7 + 2 * k)))]) S.1 S.2.1 d_V_lackedOf_29 hl (k := 0) rfl (nI_1 i) (by decide) rfl (fun ls hl => ?_)
            refine lv_goto (tgt := 4) S.1 S.2.1 d_V_lackedOf_32 (by decide) ?_
            rw [show lacks v j k i = lacks v j k (i + 1) from by rw [lacks, if_neg (fun z => c_b z.2)]] at hl
            exact ih _ _ ls hP hS (lv_sub hl [0, 1, 2, 3] rfl)
          · have c_b := pI_no c_b
            obtain ⟨x_1, ex_1⟩ : ∃ y : Int32, y = lacks v j k i + 1 := ⟨_, rfl⟩
            refine lv_iinc (v := x_1) (lv' := [(2, .int x_1), (3, .int (nI i)), (0, .ref (ad (7 + 2 * j))), (1, .ref (ad (7 + 2 * k)))]) S.1 S.2.1 d_V_lackedOf_26 hl (k := 1) rfl (by rw [ex_1]; rfl) (by decide) rfl (fun ls hl => ?_)
            refine lv_iinc (v := nI (i + 1)) (lv' := [(3, .int (nI (i + 1))), (2, .int x_1), (0, .ref (ad (7 + 2 * j))), (1, .ref (ad (7 + 2 * k)))]) S.1 S.2.1 d_V_lackedOf_29 hl (k := 1) rfl (nI_1 i) (by decide) rfl (fun ls hl => ?_)
            refine lv_goto (tgt := 4) S.1 S.2.1 d_V_lackedOf_32 (by decide) ?_
            rw [ex_1] at hl
            have hl := hl
            rw [show lacks v j k i + 1 = lacks v j k (i + 1) from by rw [lacks, if_pos ⟨c_a, Decidable.not_not.mp c_b⟩]] at hl
            exact ih _ _ ls hP hS (lv_sub hl [0, 1, 2, 3] rfl)
  exact L 0 (Nat.zero_le _) _ _ ls hP hS (lv_sub hl [0, 1, 2, 3] rfl)
end
section
/-! The class: rows emptied, cues begun, levels, fades (printed by wip/gen/gen_x4.py) -/
set_option maxRecDepth 100000 in
set_option maxHeartbeats 4000000 in
theorem c_V_dropAll {l : Launch} {D : va_G} {ca : Nat → ClassId} {ad : Nat → Nat} (hJ : uJ 165 ad) (v : Nat → Nat → Nat → Int32) (π : Nat → Nat) (j : Nat) (hj : j < 41) : uMv l y_V_dropAll b_V_dropAll 1 (none : Option Jvm.ClassFile.FieldType) 1 23 D clsAll (tysAll ca) 165 ad (xG ca ad) (v, π) [.ref (ad (7 + 2 * j))] (fun u => u = (vDropAll v j, π)) := by
  refine uStart (by decide) (Nat.le_of_ble_eq_true rfl) ?_
  intro p e s m below meth c ls S hr hlk hK hN hP hl
  have hU : ∀ w ∈ uWS, w ∈ (Cond.code y_V_dropAll b_V_dropAll 1 (none : Option Jvm.ClassFile.FieldType) :: uWS) := fun w h => List.mem_cons_of_mem _ h
  have hS : va_S (uA 165 ad s.heap.size) s.heap s.heap [] := va_S.rf
  have hl : lv_has ls 1 [(0, .ref (ad (7 + 2 * j)))] := hl
  refine lv_aload_n S.1 S.2.1 d_V_dropAll_0 rfl (lv_at hl 0 rfl) ?_
  refine ur_get (k := (7 + 2 * j)) (v := .ref (ad (8 + 2 * j))) S hK hP (kb_V hj) (xg_row hj) rfl (fun w h => hU w (in_V w h)) 0 (by decide) (hU _ t1_35) rfl d_V_dropAll_1 ?_
  refine lv_iconst (v := (-1)) S.1 S.2.1 d_V_dropAll_4 (by decide) ?_
  refine uSv1 (n := 2) (As := [.ref (ad (8 + 2 * j)), .int (-1)]) (rest := []) (G1 := aG (ca 0) 64) (f1 := v 17 j) (g' := fun u => (vRow v 17 j u, π)) S hK hN hJ hP hS (8 + 2 * j) (kb_W hj) (c_JA_fill _ 64 (by decide) _ _) (by rw [(xg_val hj)]; rfl) (fun u => xG_row (by simp [xOwn]) (by rw [(xg_val hj)]; simp [vRow, aG])) ⟨hU, t1_34, t1_32, t1_3, by decide +kernel, by decide, by decide⟩ t1_33 rfl hl.1 rfl (Nat.le_of_ble_eq_true rfl) d_V_dropAll_5 ⟨Nat.le_of_ble_eq_true rfl, Nat.le_of_ble_eq_true rfl⟩ (fun u H locs hp hP hS => ?_)
  subst hp
  refine lv_aload_n S.1 S.2.1 d_V_dropAll_8 rfl (lv_at hl 0 rfl) ?_
  refine lv_iconst (v := 0) S.1 S.2.1 d_V_dropAll_9 (by decide) ?_
  refine ur_put (k := (7 + 2 * j)) (v := .int 0) (g' := xG ca ad (up3 (vRow v 17 j (fun i => if i < 64 then (-1) else v 17 j i)) 16 j 0 0, π)) S hK hP (uD _ hJ) hS (kb_V hj) (xg_row hj) rfl (fun w h => hU w (in_V w h)) ty_V tyk_V nm_V 1 (by decide) (hU _ t1_36) rfl rfl rfl (Nat.le_of_ble_eq_true rfl) (xs_held hj) d_V_dropAll_10 (fun H locs hP hS => ?_)
  exact uVret S hr hlk ((up3 (vRow v 17 j (fun i => if i < 64 then (-1) else v 17 j i)) 16 j 0 0), π) hP hS (rfl) d_V_dropAll_13

set_option maxRecDepth 100000 in
set_option maxHeartbeats 4000000 in
theorem c_C_beginAs {l : Launch} {D : va_G} {ca : Nat → ClassId} {ad : Nat → Nat} (hJ : uJ 165 ad) (v : Nat → Nat → Nat → Int32) (π : Nat → Nat) (j : Nat) (hj : j < 40) (a b : Int32) : uMv l y_C_beginAs b_C_beginAs 3 (none : Option Jvm.ClassFile.FieldType) 2 43 D clsAll (tysAll ca) 165 ad (xG ca ad) (v, π) [.ref (ad (89 + j)), .int a, .int b] (fun u => u = (vBegin v j a b, π)) := by
  refine uStart (by decide) (Nat.le_of_ble_eq_true rfl) ?_
  intro p e s m below meth c ls S hr hlk hK hN hP hl
  have hU : ∀ w ∈ uWS, w ∈ (Cond.code y_C_beginAs b_C_beginAs 3 (none : Option Jvm.ClassFile.FieldType) :: uWS) := fun w h => List.mem_cons_of_mem _ h
  have hS : va_S (uA 165 ad s.heap.size) s.heap s.heap [] := va_S.rf
  have hl : lv_has ls 3 [(0, .ref (ad (89 + j))), (1, .int a), (2, .int b)] := hl
  refine lv_aload_n S.1 S.2.1 d_C_beginAs_0 rfl (lv_at hl 0 rfl) ?_
  refine lv_iload_n S.1 S.2.1 d_C_beginAs_1 rfl (lv_at hl 1 rfl) ?_
  refine ur_put (k := (89 + j)) (v := .int a) (g' := xG ca ad (up3 v 10 j 0 a, π)) S hK hP (uD _ hJ) hS (kb_C hj) (xg_cue hj) rfl (fun w h => hU w (in_C w h)) ty_C tyk_C nm_C 1 (by decide) (hU _ t1_75) rfl rfl rfl (Nat.le_of_ble_eq_true rfl) (xs_clist hj) d_C_beginAs_2 (fun H locs hP hS => ?_)
  refine lv_aload_n S.1 S.2.1 d_C_beginAs_5 rfl (lv_at hl 0 rfl) ?_
  refine lv_iload_n S.1 S.2.1 d_C_beginAs_6 rfl (lv_at hl 2 rfl) ?_
  refine ur_put (k := (89 + j)) (v := .int b) (g' := xG ca ad (up3 (up3 v 10 j 0 a) 11 j 0 b, π)) S hK hP (uD _ hJ) hS (kb_C hj) (xg_cue hj) rfl (fun w h => hU w (in_C w h)) ty_C tyk_C nm_C 2 (by decide) (hU _ t1_77) rfl rfl rfl (Nat.le_of_ble_eq_true rfl) (xs_cnumber hj) d_C_beginAs_7 (fun H locs hP hS => ?_)
  refine lv_aload_n S.1 S.2.1 d_C_beginAs_10 rfl (lv_at hl 0 rfl) ?_
  refine lv_iconst (v := 0) S.1 S.2.1 d_C_beginAs_11 (by decide) ?_
  refine ur_put (k := (89 + j)) (v := .int 0) (g' := xG ca ad (up3 (up3 (up3 v 10 j 0 a) 11 j 0 b) 12 j 0 0, π)) S hK hP (uD _ hJ) hS (kb_C hj) (xg_cue hj) rfl (fun w h => hU w (in_C w h)) ty_C tyk_C nm_C 3 (by decide) (hU _ t1_80) rfl rfl rfl (Nat.le_of_ble_eq_true rfl) (xs_cup hj) d_C_beginAs_12 (fun H locs hP hS => ?_)
  refine lv_aload_n S.1 S.2.1 d_C_beginAs_15 rfl (lv_at hl 0 rfl) ?_
  refine lv_iconst (v := 0) S.1 S.2.1 d_C_beginAs_16 (by decide) ?_
  refine ur_put (k := (89 + j)) (v := .int 0) (g' := xG ca ad (up3 (up3 (up3 (up3 v 10 j 0 a) 11 j 0 b) 12 j 0 0) 13 j 0 0, π)) S hK hP (uD _ hJ) hS (kb_C hj) (xg_cue hj) rfl (fun w h => hU w (in_C w h)) ty_C tyk_C nm_C 4 (by decide) (hU _ t1_83) rfl rfl rfl (Nat.le_of_ble_eq_true rfl) (xs_cdown hj) d_C_beginAs_17 (fun H locs hP hS => ?_)
  refine lv_aload_n S.1 S.2.1 d_C_beginAs_20 rfl (lv_at hl 0 rfl) ?_
  refine lv_iconst (v := 0) S.1 S.2.1 d_C_beginAs_21 (by decide) ?_
  refine ur_put (k := (89 + j)) (v := .int 0) (g' := xG ca ad (up3 (up3 (up3 (up3 (up3 v 10 j 0 a) 11 j 0 b) 12 j 0 0) 13 j 0 0) 14 j 0 0, π)) S hK hP (uD _ hJ) hS (kb_C hj) (xg_cue hj) rfl (fun w h => hU w (in_C w h)) ty_C tyk_C nm_C 5 (by decide) (hU _ t1_86) rfl rfl rfl (Nat.le_of_ble_eq_true rfl) (xs_cdelay hj) d_C_beginAs_22 (fun H locs hP hS => ?_)
  refine lv_aload_n S.1 S.2.1 d_C_beginAs_25 rfl (lv_at hl 0 rfl) ?_
  refine lv_iconst (v := (-1)) S.1 S.2.1 d_C_beginAs_26 (by decide) ?_
  refine ur_put (k := (89 + j)) (v := .int (-1)) (g' := xG ca ad (up3 (up3 (up3 (up3 (up3 (up3 v 10 j 0 a) 11 j 0 b) 12 j 0 0) 13 j 0 0) 14 j 0 0) 15 j 0 (-1), π)) S hK hP (uD _ hJ) hS (kb_C hj) (xg_cue hj) rfl (fun w h => hU w (in_C w h)) ty_C tyk_C nm_C 6 (by decide) (hU _ t1_89) rfl rfl rfl (Nat.le_of_ble_eq_true rfl) (xs_cfollow hj) d_C_beginAs_27 (fun H locs hP hS => ?_)
  refine lv_aload_n S.1 S.2.1 d_C_beginAs_30 rfl (lv_at hl 0 rfl) ?_
  refine ur_get (k := (89 + j)) (v := .ref (ad (7 + 2 * j))) S hK hP (kb_C hj) (xg_cue hj) rfl (fun w h => hU w (in_C w h)) 0 (by decide) (hU _ t1_73) rfl d_C_beginAs_31 ?_
  refine uVv (n := 0) (b := (7 + 2 * j)) (As := []) (rest := []) S hK hN hP hS (c_V_dropAll hJ (up3 (up3 (up3 (up3 (up3 (up3 v 10 j 0 a) 11 j 0 b) 12 j 0 0) 13 j 0 0) 14 j 0 0) 15 j 0 (-1)) π j (Nat.lt_succ_of_lt hj)) ⟨hU, t1_212, t2_145, t1_2, by decide +kernel, by decide, by decide⟩ t1_210 t1_211 (kb_V (Nat.lt_succ_of_lt hj)) (xg_row (Nat.lt_succ_of_lt hj)) rfl rfl rfl hl.1 rfl (Nat.le_of_ble_eq_true rfl) d_C_beginAs_34 ⟨Nat.le_of_ble_eq_true rfl, Nat.le_of_ble_eq_true rfl⟩ (fun u H locs hp hP hS => ?_)
  obtain rfl := hp
  exact uVret S hr hlk ((vDropAll (up3 (up3 (up3 (up3 (up3 (up3 v 10 j 0 a) 11 j 0 b) 12 j 0 0) 13 j 0 0) 14 j 0 0) 15 j 0 (-1)) j), π) hP hS (rfl) d_C_beginAs_37

set_option maxRecDepth 100000 in
set_option maxHeartbeats 4000000 in
theorem c_C_detail {l : Launch} {D : va_G} {ca : Nat → ClassId} {ad : Nat → Nat} (hJ : uJ 165 ad) (v : Nat → Nat → Nat → Int32) (π : Nat → Nat) (j : Nat) (hj : j < 40) (q : Nat) (hq : q < 6) : uMi l y_C_detail b_C_detail 2 (some .int) 0 0 D clsAll (tysAll ca) 165 ad (xG ca ad) (v, π) [.ref (ad (89 + j)), .int (nI q)] (fun r u => u = (v, π) ∧ r = cDet v j q) := by
  refine uStart (by decide) (Nat.le_of_ble_eq_true rfl) ?_
  intro p e s m below meth c ls S hr hlk hK hN hP hl
  have hU : ∀ w ∈ uWS, w ∈ (Cond.code y_C_detail b_C_detail 2 (some .int) :: uWS) := fun w h => List.mem_cons_of_mem _ h
  have hS : va_S (uA 165 ad s.heap.size) s.heap s.heap [] := va_S.rf
  have hl : lv_has ls 2 [(0, .ref (ad (89 + j))), (1, .int (nI q))] := hl
  refine lv_iload_n S.1 S.2.1 d_C_detail_0 rfl (lv_at hl 1 rfl) ?_
  rcases (by omega : q = 0 ∨ q = 1 ∨ q = 2 ∨ q = 3 ∨ q = 4 ∨ q = 5) with rfl | rfl | rfl | rfl | rfl | rfl
  · refine lv_tableIn (off := 39) (tgt := 40) S.1 S.2.1 d_C_detail_1 (by decide) (by decide) rfl (by decide) ?_
    refine lv_aload_n S.1 S.2.1 d_C_detail_40 rfl (lv_at hl 0 rfl) ?_
    refine ur_get (k := (89 + j)) (v := .int (v 11 j 0)) S hK hP (kb_C hj) (xg_cue hj) rfl (fun w h => hU w (in_C w h)) 2 (by decide) (hU _ t1_77) rfl d_C_detail_41 ?_
    exact uIret S hr hlk (v, π) hP hS (⟨rfl, rfl⟩) d_C_detail_44
  · refine lv_tableIn (off := 44) (tgt := 45) S.1 S.2.1 d_C_detail_1 (by decide) (by decide) rfl (by decide) ?_
    refine lv_aload_n S.1 S.2.1 d_C_detail_45 rfl (lv_at hl 0 rfl) ?_
    refine ur_get (k := (89 + j)) (v := .ref (ad (7 + 2 * j))) S hK hP (kb_C hj) (xg_cue hj) rfl (fun w h => hU w (in_C w h)) 0 (by decide) (hU _ t1_73) rfl d_C_detail_46 ?_
    refine ur_getN (k := (7 + 2 * j)) (v := .int (v 16 j 0)) S hK hP (kb_V (Nat.lt_succ_of_lt hj)) (xg_row (Nat.lt_succ_of_lt hj)) rfl (fun w h => hU w (in_V w h)) 1 (by decide) (hN _ t1_38) rfl d_C_detail_49 ?_
    exact uIret S hr hlk (v, π) hP hS (⟨rfl, rfl⟩) d_C_detail_52
  · refine lv_tableIn (off := 52) (tgt := 53) S.1 S.2.1 d_C_detail_1 (by decide) (by decide) rfl (by decide) ?_
    refine lv_aload_n S.1 S.2.1 d_C_detail_53 rfl (lv_at hl 0 rfl) ?_
    refine ur_get (k := (89 + j)) (v := .int (v 12 j 0)) S hK hP (kb_C hj) (xg_cue hj) rfl (fun w h => hU w (in_C w h)) 3 (by decide) (hU _ t1_80) rfl d_C_detail_54 ?_
    exact uIret S hr hlk (v, π) hP hS (⟨rfl, rfl⟩) d_C_detail_57
  · refine lv_tableIn (off := 57) (tgt := 58) S.1 S.2.1 d_C_detail_1 (by decide) (by decide) rfl (by decide) ?_
    refine lv_aload_n S.1 S.2.1 d_C_detail_58 rfl (lv_at hl 0 rfl) ?_
    refine ur_get (k := (89 + j)) (v := .int (v 13 j 0)) S hK hP (kb_C hj) (xg_cue hj) rfl (fun w h => hU w (in_C w h)) 4 (by decide) (hU _ t1_83) rfl d_C_detail_59 ?_
    exact uIret S hr hlk (v, π) hP hS (⟨rfl, rfl⟩) d_C_detail_62
  · refine lv_tableIn (off := 62) (tgt := 63) S.1 S.2.1 d_C_detail_1 (by decide) (by decide) rfl (by decide) ?_
    refine lv_aload_n S.1 S.2.1 d_C_detail_63 rfl (lv_at hl 0 rfl) ?_
    refine ur_get (k := (89 + j)) (v := .int (v 14 j 0)) S hK hP (kb_C hj) (xg_cue hj) rfl (fun w h => hU w (in_C w h)) 5 (by decide) (hU _ t1_86) rfl d_C_detail_64 ?_
    exact uIret S hr hlk (v, π) hP hS (⟨rfl, rfl⟩) d_C_detail_67
  · refine lv_tableIn (off := 67) (tgt := 68) S.1 S.2.1 d_C_detail_1 (by decide) (by decide) rfl (by decide) ?_
    refine lv_aload_n S.1 S.2.1 d_C_detail_68 rfl (lv_at hl 0 rfl) ?_
    refine ur_get (k := (89 + j)) (v := .int (v 15 j 0)) S hK hP (kb_C hj) (xg_cue hj) rfl (fun w h => hU w (in_C w h)) 6 (by decide) (hU _ t1_89) rfl d_C_detail_69 ?_
    exact uIret S hr hlk (v, π) hP hS (⟨rfl, rfl⟩) d_C_detail_72

set_option maxRecDepth 100000 in
set_option maxHeartbeats 4000000 in
theorem c_P_levelOf {l : Launch} {D : va_G} {ca : Nat → ClassId} {ad : Nat → Nat} (hJ : uJ 165 ad) (v : Nat → Nat → Nat → Int32) (π : Nat → Nat) (x : Int32) (ch : Nat) (hch : ch < 64) : uMi l y_P_levelOf b_P_levelOf 3 (some .int) 0 0 D clsAll (tysAll ca) 165 ad (xG ca ad) (v, π) [.ref (ad 2), .int x, .int (nI ch)] (fun r u => u = (v, π) ∧ r = vLev v x ch) := by
  refine uStart (by decide) (Nat.le_of_ble_eq_true rfl) ?_
  intro p e s m below meth c ls S hr hlk hK hN hP hl
  have hU : ∀ w ∈ uWS, w ∈ (Cond.code y_P_levelOf b_P_levelOf 3 (some .int) :: uWS) := fun w h => List.mem_cons_of_mem _ h
  have hS : va_S (uA 165 ad s.heap.size) s.heap s.heap [] := va_S.rf
  have hl : lv_has ls 3 [(0, .ref (ad 2)), (1, .int x), (2, .int (nI ch))] := hl
  refine lv_iload_n S.1 S.2.1 d_P_levelOf_0 rfl (lv_at hl 1 rfl) ?_
  refine lv_if_lt (tgt := 11) S.1 S.2.1 d_P_levelOf_1 (by decide) (fun c_0 => ?_) (fun c_0 => ?_)
  · refine lv_iconst (v := (-1)) S.1 S.2.1 d_P_levelOf_11 (by decide) ?_
    exact uIret S hr hlk (v, π) hP hS (by refine ⟨rfl, ?_⟩; simp [vLev, c_0]) d_P_levelOf_12
  · refine lv_iload_n S.1 S.2.1 d_P_levelOf_4 rfl (lv_at hl 1 rfl) ?_
    refine lv_sipush (v := 272) S.1 S.2.1 d_P_levelOf_5 (by decide) ?_
    refine lv_icmp_lt (tgt := 13) S.1 S.2.1 d_P_levelOf_8 (by decide) (fun c_7 => ?_) (fun c_7 => ?_)
    · have c_7 : ¬ 272 ≤ x := Int32.not_le.mpr c_7
      refine lv_iload_n S.1 S.2.1 d_P_levelOf_13 rfl (lv_at hl 1 rfl) ?_
      refine lv_sipush (v := 256) S.1 S.2.1 d_P_levelOf_14 (by decide) ?_
      refine lv_icmp_ge (tgt := 22) S.1 S.2.1 d_P_levelOf_17 (by decide) (fun c_6 => ?_) (fun c_6 => ?_)
      · have c_6 : ¬ x < 256 := Int32.not_lt.mpr c_6
        refine lv_aload_n S.1 S.2.1 d_P_levelOf_22 rfl (lv_at hl 0 rfl) ?_
        refine ur_get (k := 2) (v := .ref (ad 3)) S hK hP (by decide) xg_pal rfl (fun w h => hU w (in_P w h)) 0 (by decide) (hU _ t1_54) rfl d_P_levelOf_23 ?_
        refine lv_iload_n S.1 S.2.1 d_P_levelOf_26 rfl (lv_at hl 1 rfl) ?_
        refine lv_sipush (v := 256) S.1 S.2.1 d_P_levelOf_27 (by decide) ?_
        refine lv_isub S.1 S.2.1 d_P_levelOf_30 ?_
        refine lv_bipush (v := 64) S.1 S.2.1 d_P_levelOf_31 (by decide) ?_
        refine lv_imul S.1 S.2.1 d_P_levelOf_33 ?_
        refine lv_iload_n S.1 S.2.1 d_P_levelOf_34 rfl (lv_at hl 2 rfl) ?_
        refine lv_iadd S.1 S.2.1 d_P_levelOf_35 ?_
        refine ur_iald (k := 3) (f := (v 3 0)) (j := ((x.toNatClampNeg - 256) * 64 + ch)) S hK hP (by decide) 0 xg_lev rfl (lev_ix c_0 c_7 c_6 hch).1 (lev_ix c_0 c_7 c_6 hch).2 (by decide) d_P_levelOf_36 ?_
        exact uIret S hr hlk (v, π) hP hS (by refine ⟨rfl, ?_⟩; simp [vLev, c_0, c_7, c_6]) d_P_levelOf_37
      · have c_6 : x < 256 := Int32.not_le.mp c_6
        refine lv_iload_n S.1 S.2.1 d_P_levelOf_20 rfl (lv_at hl 1 rfl) ?_
        exact uIret S hr hlk (v, π) hP hS (by refine ⟨rfl, ?_⟩; simp [vLev, c_0, c_7, c_6]) d_P_levelOf_21
    · have c_7 : 272 ≤ x := Int32.not_lt.mp c_7
      refine lv_iconst (v := (-1)) S.1 S.2.1 d_P_levelOf_11 (by decide) ?_
      exact uIret S hr hlk (v, π) hP hS (by refine ⟨rfl, ?_⟩; simp [vLev, c_0, c_7]) d_P_levelOf_12

set_option maxRecDepth 100000 in
set_option maxHeartbeats 4000000 in
theorem c_Y_fade {l : Launch} {D : va_G} {ca : Nat → ClassId} {ad : Nat → Nat} (hJ : uJ 165 ad) (v : Nat → Nat → Nat → Int32) (π : Nat → Nat) (j ch : Nat) (hj : j < 6) (hch : ch < 64) (x : Int32) (o : Nat) (ho : o < 40) (t : Int32) : uMv l y_Y_fade b_Y_fade 6 (none : Option Jvm.ClassFile.FieldType) 1 24 D clsAll (tysAll ca) 165 ad (xG ca ad) (v, π) [.ref (ad (129 + 6 * j)), .int (nI ch), .int x, .ref (ad (89 + o)), .int t] (fun u => u = (vFd v j ch x o t, π)) := by
  refine uStart (by decide) (Nat.le_of_ble_eq_true rfl) ?_
  intro p e s m below meth c ls S hr hlk hK hN hP hl
  have hU : ∀ w ∈ uWS, w ∈ (Cond.code y_Y_fade b_Y_fade 6 (none : Option Jvm.ClassFile.FieldType) :: uWS) := fun w h => List.mem_cons_of_mem _ h
  have hS : va_S (uA 165 ad s.heap.size) s.heap s.heap [] := va_S.rf
  have hl : lv_has ls 6 [(0, .ref (ad (129 + 6 * j))), (1, .int (nI ch)), (2, .int x), (3, .ref (ad (89 + o))), (4, .int t)] := hl
  refine lv_aload_n S.1 S.2.1 d_Y_fade_0 rfl (lv_at hl 0 rfl) ?_
  refine lv_iload_n S.1 S.2.1 d_Y_fade_1 rfl (lv_at hl 1 rfl) ?_
  refine lv_iload S.1 S.2.1 d_Y_fade_2 (lv_at hl 4 rfl) ?_
  refine uVi (n := 2) (b := (129 + 6 * j)) (As := [.int (nI ch), .int t]) (rest := []) S hK hN hP hS (c_Y_levelAt hJ v π j ch hj hch t) ⟨hU, t3_117, t3_114, t1_7, by decide +kernel, by decide, by decide⟩ t3_115 t3_116 (kb_Y hj) (xg_ply hj) rfl rfl rfl hl.1 rfl (Nat.le_of_ble_eq_true rfl) d_Y_fade_4 ⟨Nat.le_of_ble_eq_true rfl, Nat.le_of_ble_eq_true rfl⟩ (fun r u H locs hp hP hS => ?_)
  obtain ⟨rfl, rfl⟩ := hp
  refine lv_topi (fun x_1 ex_1 => ?_)
  refine lv_istore (lv' := [(5, .int x_1), (0, .ref (ad (129 + 6 * j))), (1, .int (nI ch)), (2, .int x), (3, .ref (ad (89 + o))), (4, .int t)]) S.1 S.2.1 d_Y_fade_7 hl (by decide) rfl (fun ls hl => ?_)
  refine lv_aload_n S.1 S.2.1 d_Y_fade_9 rfl (lv_at hl 1 rfl) ?_
  refine ur_get (k := (129 + 6 * j)) (v := .ref (ad (130 + 6 * j))) S hK hP (kb_Y hj) (xg_ply hj) rfl (fun w h => hU w (in_Y w h)) 0 (by decide) (hU _ t1_122) rfl d_Y_fade_10 ?_
  refine lv_iload_n S.1 S.2.1 d_Y_fade_13 rfl (lv_at hl 2 rfl) ?_
  refine lv_iload S.1 S.2.1 d_Y_fade_14 (lv_at hl 0 rfl) ?_
  refine ur_iast (k := (130 + 0 + 6 * j)) (f := (v 20 j)) (j := ch) (g' := xG ca ad (up3 v 20 j ch x_1, π)) S hK hP (uD _ hJ) hS (kb_A 0 (by decide) hj) 0 (xg_arr 0 (by decide) hj) rfl rfl hch (by decide) (xs_a0 hj) d_Y_fade_16 (fun H locs hP hS => ?_)
  refine lv_aload_n S.1 S.2.1 d_Y_fade_17 rfl (lv_at hl 1 rfl) ?_
  refine ur_get (k := (129 + 6 * j)) (v := .ref (ad (131 + 6 * j))) S hK hP (kb_Y hj) (xg_ply hj) rfl (fun w h => hU w (in_Y w h)) 1 (by decide) (hU _ t1_123) rfl d_Y_fade_18 ?_
  refine lv_iload_n S.1 S.2.1 d_Y_fade_21 rfl (lv_at hl 2 rfl) ?_
  refine lv_iload_n S.1 S.2.1 d_Y_fade_22 rfl (lv_at hl 3 rfl) ?_
  refine ur_iast (k := (130 + 1 + 6 * j)) (f := ((up3 v 20 j ch x_1) 21 j)) (j := ch) (g' := xG ca ad (up3 (up3 v 20 j ch x_1) 21 j ch x, π)) S hK hP (uD _ hJ) hS (kb_A 1 (by decide) hj) 0 (xg_arr 1 (by decide) hj) rfl rfl hch (by decide) (xs_a1 hj) d_Y_fade_23 (fun H locs hP hS => ?_)
  refine lv_aload_n S.1 S.2.1 d_Y_fade_24 rfl (lv_at hl 1 rfl) ?_
  refine ur_get (k := (129 + 6 * j)) (v := .ref (ad (132 + 6 * j))) S hK hP (kb_Y hj) (xg_ply hj) rfl (fun w h => hU w (in_Y w h)) 2 (by decide) (hU _ t1_124) rfl d_Y_fade_25 ?_
  refine lv_iload_n S.1 S.2.1 d_Y_fade_28 rfl (lv_at hl 2 rfl) ?_
  refine lv_iload S.1 S.2.1 d_Y_fade_29 (lv_at hl 5 rfl) ?_
  refine lv_aload_n S.1 S.2.1 d_Y_fade_31 rfl (lv_at hl 4 rfl) ?_
  refine ur_getN (k := (89 + o)) (v := .int ((up3 (up3 v 20 j ch x_1) 21 j ch x) 14 o 0)) S hK hP (kb_C ho) (xg_cue ho) rfl (fun w h => hU w (in_C w h)) 5 (by decide) (hN _ t1_87) rfl d_Y_fade_32 ?_
  refine lv_iadd S.1 S.2.1 d_Y_fade_35 ?_
  refine lv_topi (fun x_2 ex_2 => ?_)
  refine ur_iast (k := (130 + 2 + 6 * j)) (f := ((up3 (up3 v 20 j ch x_1) 21 j ch x) 22 j)) (j := ch) (g' := xG ca ad (up3 (up3 (up3 v 20 j ch x_1) 21 j ch x) 22 j ch x_2, π)) S hK hP (uD _ hJ) hS (kb_A 2 (by decide) hj) 0 (xg_arr 2 (by decide) hj) rfl rfl hch (by decide) (xs_a2 hj) d_Y_fade_36 (fun H locs hP hS => ?_)
  refine lv_aload_n S.1 S.2.1 d_Y_fade_37 rfl (lv_at hl 1 rfl) ?_
  refine ur_get (k := (129 + 6 * j)) (v := .ref (ad (133 + 6 * j))) S hK hP (kb_Y hj) (xg_ply hj) rfl (fun w h => hU w (in_Y w h)) 3 (by decide) (hU _ t1_125) rfl d_Y_fade_38 ?_
  refine lv_iload_n S.1 S.2.1 d_Y_fade_41 rfl (lv_at hl 2 rfl) ?_
  refine lv_iload_n S.1 S.2.1 d_Y_fade_42 rfl (lv_at hl 3 rfl) ?_
  refine lv_iload S.1 S.2.1 d_Y_fade_43 (lv_at hl 0 rfl) ?_
  refine lv_icmp_lt (tgt := 55) S.1 S.2.1 d_Y_fade_45 (by decide) (fun c_3 => ?_) (fun c_3 => ?_)
  · refine lv_aload_n S.1 S.2.1 d_Y_fade_55 rfl (lv_at hl 4 rfl) ?_
    refine ur_getN (k := (89 + o)) (v := .int ((up3 (up3 (up3 v 20 j ch x_1) 21 j ch x) 22 j ch x_2) 13 o 0)) S hK hP (kb_C ho) (xg_cue ho) rfl (fun w h => hU w (in_C w h)) 4 (by decide) (hN _ t1_84) rfl d_Y_fade_56 ?_
    refine lv_topi (fun x_4 ex_4 => ?_)
    refine ur_iast (k := (130 + 3 + 6 * j)) (f := ((up3 (up3 (up3 v 20 j ch x_1) 21 j ch x) 22 j ch x_2) 23 j)) (j := ch) (g' := xG ca ad (up3 (up3 (up3 (up3 v 20 j ch x_1) 21 j ch x) 22 j ch x_2) 23 j ch x_4, π)) S hK hP (uD _ hJ) hS (kb_A 3 (by decide) hj) 0 (xg_arr 3 (by decide) hj) rfl rfl hch (by decide) (xs_a3 hj) d_Y_fade_59 (fun H locs hP hS => ?_)
    refine lv_aload_n S.1 S.2.1 d_Y_fade_60 rfl (lv_at hl 1 rfl) ?_
    refine ur_get (k := (129 + 6 * j)) (v := .ref (ad (134 + 6 * j))) S hK hP (kb_Y hj) (xg_ply hj) rfl (fun w h => hU w (in_Y w h)) 4 (by decide) (hU _ t1_126) rfl d_Y_fade_61 ?_
    refine lv_iload_n S.1 S.2.1 d_Y_fade_64 rfl (lv_at hl 2 rfl) ?_
    refine lv_iload S.1 S.2.1 d_Y_fade_65 (lv_at hl 5 rfl) ?_
    refine ur_iast (k := (130 + 4 + 6 * j)) (f := ((up3 (up3 (up3 (up3 v 20 j ch x_1) 21 j ch x) 22 j ch x_2) 23 j ch x_4) 24 j)) (j := ch) (g' := xG ca ad (up3 (up3 (up3 (up3 (up3 v 20 j ch x_1) 21 j ch x) 22 j ch x_2) 23 j ch x_4) 24 j ch t, π)) S hK hP (uD _ hJ) hS (kb_A 4 (by decide) hj) 0 (xg_arr 4 (by decide) hj) rfl rfl hch (by decide) (xs_a4 hj) d_Y_fade_67 (fun H locs hP hS => ?_)
    exact uVret S hr hlk ((up3 (up3 (up3 (up3 (up3 v 20 j ch x_1) 21 j ch x) 22 j ch x_2) 23 j ch x_4) 24 j ch t), π) hP hS (by subst_vars; simp [vFd, up3_f, c_3]) d_Y_fade_68
  · refine lv_aload_n S.1 S.2.1 d_Y_fade_48 rfl (lv_at hl 4 rfl) ?_
    refine ur_getN (k := (89 + o)) (v := .int ((up3 (up3 (up3 v 20 j ch x_1) 21 j ch x) 22 j ch x_2) 12 o 0)) S hK hP (kb_C ho) (xg_cue ho) rfl (fun w h => hU w (in_C w h)) 3 (by decide) (hN _ t1_81) rfl d_Y_fade_49 ?_
    refine lv_goto (tgt := 59) S.1 S.2.1 d_Y_fade_52 (by decide) ?_
    refine lv_topi (fun x_5 ex_5 => ?_)
    refine ur_iast (k := (130 + 3 + 6 * j)) (f := ((up3 (up3 (up3 v 20 j ch x_1) 21 j ch x) 22 j ch x_2) 23 j)) (j := ch) (g' := xG ca ad (up3 (up3 (up3 (up3 v 20 j ch x_1) 21 j ch x) 22 j ch x_2) 23 j ch x_5, π)) S hK hP (uD _ hJ) hS (kb_A 3 (by decide) hj) 0 (xg_arr 3 (by decide) hj) rfl rfl hch (by decide) (xs_a3 hj) d_Y_fade_59 (fun H locs hP hS => ?_)
    refine lv_aload_n S.1 S.2.1 d_Y_fade_60 rfl (lv_at hl 1 rfl) ?_
    refine ur_get (k := (129 + 6 * j)) (v := .ref (ad (134 + 6 * j))) S hK hP (kb_Y hj) (xg_ply hj) rfl (fun w h => hU w (in_Y w h)) 4 (by decide) (hU _ t1_126) rfl d_Y_fade_61 ?_
    refine lv_iload_n S.1 S.2.1 d_Y_fade_64 rfl (lv_at hl 2 rfl) ?_
    refine lv_iload S.1 S.2.1 d_Y_fade_65 (lv_at hl 5 rfl) ?_
    refine ur_iast (k := (130 + 4 + 6 * j)) (f := ((up3 (up3 (up3 (up3 v 20 j ch x_1) 21 j ch x) 22 j ch x_2) 23 j ch x_5) 24 j)) (j := ch) (g' := xG ca ad (up3 (up3 (up3 (up3 (up3 v 20 j ch x_1) 21 j ch x) 22 j ch x_2) 23 j ch x_5) 24 j ch t, π)) S hK hP (uD _ hJ) hS (kb_A 4 (by decide) hj) 0 (xg_arr 4 (by decide) hj) rfl rfl hch (by decide) (xs_a4 hj) d_Y_fade_67 (fun H locs hP hS => ?_)
    exact uVret S hr hlk ((up3 (up3 (up3 (up3 (up3 v 20 j ch x_1) 21 j ch x) 22 j ch x_2) 23 j ch x_5) 24 j ch t), π) hP hS (by subst_vars; simp [vFd, up3_f, c_3]) d_Y_fade_68
end
section
/-! Words for edits of the book -/
theorem xBk_put {v : Nat → Nat → Nat → Int32} {π : Nat → Nat} {n j ch : Nat} {x : Int32} (h : xBk v π n) : xBk (vPut v j ch x) π n := by
  refine ⟨?_, h.2⟩
  rw [← h.1]
  unfold vPut
  split <;> simp [up3]
theorem xBk_drop {v : Nat → Nat → Nat → Int32} {π : Nat → Nat} {n j ch : Nat} (h : xBk v π n) : xBk (vDrop v j ch) π n := by
  refine ⟨?_, h.2⟩
  rw [← h.1]
  unfold vDrop
  split <;> simp [up3]
/-- keeping: the cue at the place q gets, for the channels of the row k below i, what was tracked -/
def kp (v : Nat → Nat → Nat → Int32) (π : Nat → Nat) (q k : Nat) : Nat → Nat → Nat → Nat → Int32
  | 0 => v
  | i + 1 => if ¬ kp v π q k i 17 k i = -1 ∧ kp v π q k i 17 (π q) i = -1 then vPut (kp v π q k i) (π q) i (orU (trk (kp v π q k i) π i (some q))) else kp v π q k i
theorem kp_bk {v : Nat → Nat → Nat → Int32} {π : Nat → Nat} {n q k : Nat} (h : xBk v π n) : ∀ i, xBk (kp v π q k i) π n := by
  intro i
  induction i with
  | zero => exact h
  | succ i ih =>
    unfold kp
    split
    · exact xBk_put ih
    · exact ih
/-- the cue at q gets the row k's values -/
def pa (v : Nat → Nat → Nat → Int32) (π : Nat → Nat) (q k : Nat) : Nat → Nat → Nat → Nat → Int32
  | 0 => v
  | i + 1 => if ¬ pa v π q k i 17 k i = -1 then vPut (pa v π q k i) (π q) i (pa v π q k i 17 k i) else pa v π q k i
theorem pa_bk {v : Nat → Nat → Nat → Int32} {π : Nat → Nat} {n q k : Nat} (h : xBk v π n) : ∀ i, xBk (pa v π q k i) π n := by
  intro i
  induction i with
  | zero => exact h
  | succ i ih =>
    unfold pa
    split
    · exact xBk_put ih
    · exact ih
/-- block: how many moves come; the state behind -/
def bkc (v : Nat → Nat → Nat → Int32) (π : Nat → Nat) (q : Nat) : Nat → Int32
  | 0 => 0
  | i + 1 => if v 17 (π q) i = -1 ∧ ¬ srcO v π i (some q) = none then bkc v π q i + 1 else bkc v π q i
def bks (v : Nat → Nat → Nat → Int32) (π : Nat → Nat) (q : Nat) : Nat → Nat → Nat → Nat → Int32
  | 0 => v
  | i + 1 => if trk (bks v π q i) π i (some q) = -1 then bks v π q i else vPut (bks v π q i) (π q) i (trk (bks v π q i) π i (some q))
theorem bks_bk {v : Nat → Nat → Nat → Int32} {π : Nat → Nat} {n q : Nat} (h : xBk v π n) : ∀ i, xBk (bks v π q i) π n := by
  intro i
  induction i with
  | zero => exact h
  | succ i ih =>
    unfold bks
    split
    · exact ih
    · exact xBk_put ih
/-- unblock, B the place ahead -/
def ubs (v : Nat → Nat → Nat → Int32) (π : Nat → Nat) (q : Nat) (B : Option Nat) : Nat → Nat → Nat → Nat → Int32
  | 0 => v
  | i + 1 => if ubs v π q B i 17 (π q) i = orU (trk (ubs v π q B i) π i B) then vDrop (ubs v π q B i) (π q) i else ubs v π q B i
theorem ubs_bk {v : Nat → Nat → Nat → Int32} {π : Nat → Nat} {n q : Nat} {B : Option Nat} (h : xBk v π n) : ∀ i, xBk (ubs v π q B i) π n := by
  intro i
  induction i with
  | zero => exact h
  | succ i ih =>
    unfold ubs
    split
    · exact xBk_drop ih
    · exact ih
/-- update: how many moves come; the state and the places touched -/
def usc (v : Nat → Nat → Nat → Int32) (π : Nat → Nat) (q k : Nat) : Nat → Int32
  | 0 => 0
  | i + 1 => if ¬ v 17 k i = -1 ∧ srcO v π i (some q) = none then usc v π q k i + 1 else usc v π q k i
def tgt (v : Nat → Nat → Nat → Int32) (π : Nat → Nat) (q i : Nat) : Nat := (srcO v π i (some q)).getD q
def uss (v : Nat → Nat → Nat → Int32) (π : Nat → Nat) (q k : Nat) : Nat → Nat → Nat → Nat → Int32
  | 0 => v
  | i + 1 => if ¬ uss v π q k i 17 k i = -1 then vPut (uss v π q k i) (π (tgt (uss v π q k i) π q i)) i (uss v π q k i 17 k i) else uss v π q k i
def usl (v : Nat → Nat → Nat → Int32) (π : Nat → Nat) (q k : Nat) : Nat → Int64
  | 0 => 0
  | i + 1 => if ¬ uss v π q k i 17 k i = -1 then usl v π q k i ||| (1 <<< ((nI (tgt (uss v π q k i) π q i)).toInt64 &&& 63)) else usl v π q k i
theorem uss_bk {v : Nat → Nat → Nat → Int32} {π : Nat → Nat} {n q k : Nat} (h : xBk v π n) : ∀ i, xBk (uss v π q k i) π n := by
  intro i
  induction i with
  | zero => exact h
  | succ i ih =>
    unfold uss
    split
    · exact xBk_put ih
    · exact ih
/-- the book's row closes over the place q; opens at the place q -/
def tkp (π : Nat → Nat) (q : Nat) : Nat → Nat → Nat
  | 0 => π
  | d + 1 => va_up (tkp π q d) (q + d) (tkp π q d (q + d + 1))
def isp (π : Nat → Nat) (n : Nat) : Nat → Nat → Nat
  | 0 => π
  | d + 1 => va_up (isp π n d) (n - d) (isp π n d (n - d - 1))
theorem up_lt {π : Nat → Nat} (h : ∀ p, p < 40 → π p < 40) {i o : Nat} (ho : o < 40) : ∀ p, p < 40 → va_up π i o p < 40 := by
  intro p hp
  by_cases hq : p = i
  · rw [hq, va_up_self]; exact ho
  · rw [va_up_ne _ _ hq]; exact h p hp
theorem tkp_lt {π : Nat → Nat} {q : Nat} (h : ∀ p, p < 40 → π p < 40) : ∀ d, q + d < 40 → ∀ p, p < 40 → tkp π q d p < 40 := by
  intro d
  induction d with
  | zero => intro _; exact h
  | succ d ih =>
    intro hd
    have h1 := ih (by omega)
    exact up_lt h1 (h1 _ (by omega))
theorem isp_lt {π : Nat → Nat} {n : Nat} (hn : n < 40) (h : ∀ p, p < 40 → π p < 40) : ∀ d, ∀ p, p < 40 → isp π n d p < 40 := by
  intro d
  induction d with
  | zero => exact h
  | succ d ih => exact up_lt ih (ih _ (by omega))
theorem nI_sub1 {n : Nat} (h : 0 < n) : nI n - 1 = nI (n - 1) := by
  obtain ⟨m, rfl⟩ : ∃ m, n = m + 1 := ⟨n - 1, by omega⟩
  exact nI_pred m
theorem nI_decn {n : Nat} (h : 0 < n) : nI n + Int32.ofInt (-1) = nI (n - 1) := by rw [nI_dec, nI_sub1 h]
/-- a cue is made at the place q; the one at q is taken out -/
def vIns (v : Nat → Nat → Nat → Int32) (π : Nat → Nat) (n : Nat) (a b : Int32) : Nat → Nat → Nat → Int32 := vBegin (up3 v 4 0 0 (nI (n + 1))) (π n) a b
def pIns (π : Nat → Nat) (n q : Nat) : Nat → Nat := va_up (isp π n (n - q)) q (π n)
def vOut (v : Nat → Nat → Nat → Int32) (n : Nat) : Nat → Nat → Nat → Int32 := up3 v 4 0 0 (nI (n - 1))
def pOut (π : Nat → Nat) (n q : Nat) : Nat → Nat := va_up (tkp π q (n - 1 - q)) (n - 1) (π q)
/-- Long.bitCount, as it computes -/
def bc1 (i : Int64) : Int64 := i - ((i.toUInt64 >>> ((1 : Int32).toInt64.toUInt64 &&& Int64.toUInt64 63)).toInt64 &&& 6148914691236517205)
def bc2 (i : Int64) : Int64 := (i &&& 3689348814741910323) + ((i.toUInt64 >>> ((2 : Int32).toInt64.toUInt64 &&& Int64.toUInt64 63)).toInt64 &&& 3689348814741910323)
def bc3 (i : Int64) : Int64 := (i + (i.toUInt64 >>> ((4 : Int32).toInt64.toUInt64 &&& Int64.toUInt64 63)).toInt64) &&& 1085102592571150095
def bc4 (k : Int32) (i : Int64) : Int64 := i + (i.toUInt64 >>> (k.toInt64.toUInt64 &&& Int64.toUInt64 63)).toInt64
def bcL (i : Int64) : Int32 := (bc4 32 (bc4 16 (bc4 8 (bc3 (bc2 (bc1 i)))))).toInt32 &&& 127
end
section
/-! The class: edits of the book (printed by wip/gen/gen_x5.py) -/
set_option maxRecDepth 100000 in
set_option maxHeartbeats 4000000 in
theorem c_B_keepChannels {l : Launch} {D : va_G} {ca : Nat → ClassId} {ad : Nat → Nat} (hJ : uJ 165 ad) (v : Nat → Nat → Nat → Int32) (π : Nat → Nat) (M : Nat) (hM : M = 64) (n : Nat) (hB : xBk v π n) (q k : Nat) (hq : q < n) (hk : k < 41) : uMv l y_B_keepChannels b_B_keepChannels 5 (none : Option Jvm.ClassFile.FieldType) 3 68 D clsAll (tysAll ca) 165 ad (xG ca ad) (v, π) [.ref (ad 4), .int (nI q), .ref (ad (7 + 2 * k))] (fun u => u = (kp v π q k M, π)) := by
  refine uStart (by decide) (Nat.le_of_ble_eq_true rfl) ?_
  intro p e s m below meth c ls S hr hlk hK hN hP hl
  have hU : ∀ w ∈ uWS, w ∈ (Cond.code y_B_keepChannels b_B_keepChannels 5 (none : Option Jvm.ClassFile.FieldType) :: uWS) := fun w h => List.mem_cons_of_mem _ h
  have hS : va_S (uA 165 ad s.heap.size) s.heap s.heap [] := va_S.rf
  have hl : lv_has ls 5 [(0, .ref (ad 4)), (1, .int (nI q)), (2, .ref (ad (7 + 2 * k)))] := hl
  have hn40 : n ≤ 40 := hB.2.1
  refine lv_aload_n S.1 S.2.1 d_B_keepChannels_0 rfl (lv_at hl 0 rfl) ?_
  refine ur_get (k := 4) (v := .ref (ad 5)) S hK hP (by decide) xg_book rfl (fun w h => hU w (in_B w h)) 0 (by decide) (hU _ t1_106) rfl d_B_keepChannels_1 ?_
  refine lv_iload_n S.1 S.2.1 d_B_keepChannels_4 rfl (lv_at hl 1 rfl) ?_
  refine ur_aald (k := 5) (q := ad (89 + π q)) (j := q) S hK hP (by decide) 2 xg_cues rfl rfl (by omega) (by decide) rfl d_B_keepChannels_5 ?_
  refine ur_getN (k := (89 + (π q))) (v := .ref (ad (7 + 2 * (π q)))) S hK hP (kb_C (hB.2.2 _ (by omega))) (xg_cue (hB.2.2 _ (by omega))) rfl (fun w h => hU w (in_C w h)) 0 (by decide) (hN _ t1_74) rfl d_B_keepChannels_6 ?_
  refine lv_astore_n (lv' := [(3, .ref (ad (7 + 2 * (π q)))), (0, .ref (ad 4)), (1, .int (nI q)), (2, .ref (ad (7 + 2 * k)))]) S.1 S.2.1 d_B_keepChannels_9 rfl hl (by decide) rfl (fun ls hl => ?_)
  refine lv_iconst (v := 0) S.1 S.2.1 d_B_keepChannels_10 (by decide) ?_
  refine lv_istore (lv' := [(4, .int 0), (3, .ref (ad (7 + 2 * (π q)))), (0, .ref (ad 4)), (1, .int (nI q)), (2, .ref (ad (7 + 2 * k)))]) S.1 S.2.1 d_B_keepChannels_11 hl (by decide) rfl (fun ls hl => ?_)
  have L : ∀ i, i ≤ M → ∀ (H : Heap) (locs : List Loc) (ls : Array Slot), va_P D clsAll (uw 165 ad (xG ca ad ((kp v π q k i), π))) H → va_S (uA 165 ad s.heap.size) s.heap H locs → lv_has ls 5 [(4, .int (nI i)), (3, .ref (ad (7 + 2 * π q))), (0, .ref (ad 4)), (1, .int (nI q)), (2, .ref (ad (7 + 2 * k)))] → uGv 3 68 D clsAll 165 ad (xG ca ad) (fun u => u = (kp v π q k M, π)) [.ref (ad 4), .int (nI q), .ref (ad (7 + 2 * k))] p l e s m below meth c H locs 13 ls [] := by
    refine upTo M ?_ ?_
    · intro H locs ls hP hS hl
      refine lv_iload S.1 S.2.1 d_B_keepChannels_13 (lv_at hl 0 rfl) ?_
      refine lv_bipush (v := 64) S.1 S.2.1 d_B_keepChannels_15 (by decide) ?_
      refine lv_icmp_ge (tgt := 60) S.1 S.2.1 d_B_keepChannels_17 (by decide) (fun c_h => ?_) (fun c_h => ?_)
      · exact uVret S hr hlk ((kp v π q k M), π) hP hS (rfl) d_B_keepChannels_60
      · exact absurd (by subst hM; exact nI_le (Nat.le_refl 64) (by decide)) c_h
    · intro i hi ih H locs ls hP hS hl
      have hB := kp_bk (q := q) (k := k) hB i
      refine lv_iload S.1 S.2.1 d_B_keepChannels_13 (lv_at hl 0 rfl) ?_
      refine lv_bipush (v := 64) S.1 S.2.1 d_B_keepChannels_15 (by decide) ?_
      refine lv_icmp_ge (tgt := 60) S.1 S.2.1 d_B_keepChannels_17 (by decide) (fun c_h => ?_) (fun c_h => ?_)
      · exact absurd c_h (nI_ge (b := 64) (by omega) (by decide))
      · refine lv_aload_n S.1 S.2.1 d_B_keepChannels_20 rfl (lv_at hl 4 rfl) ?_
        refine lv_iload S.1 S.2.1 d_B_keepChannels_21 (lv_at hl 0 rfl) ?_
        refine uVi (n := 1) (b := (7 + 2 * k)) (As := [.int (nI i)]) (rest := []) S hK hN hP hS (c_V_has hJ (kp v π q k i) π k i hk (by omega)) ⟨hU, t2_135, t2_150, t1_2, by decide +kernel, by decide, by decide⟩ t2_133 t2_134 (kb_V hk) (xg_row hk) rfl rfl rfl hl.1 rfl (Nat.le_of_ble_eq_true rfl) d_B_keepChannels_23 ⟨Nat.le_of_ble_eq_true rfl, Nat.le_of_ble_eq_true rfl⟩ (fun r u H locs hp hP hS => ?_)
        obtain ⟨rfl, rfl⟩ := hp
        refine lv_if_eq (tgt := 54) S.1 S.2.1 d_B_keepChannels_26 (by decide) (fun c_a => ?_) (fun c_a => ?_)
        · have c_a := pI_no c_a
          refine lv_iinc (v := nI (i + 1)) (lv' := [(4, .int (nI (i + 1))), (3, .ref (ad (7 + 2 * π q))), (0, .ref (ad 4)), (1, .int (nI q)), (2, .ref (ad (7 + 2 * k)))]) S.1 S.2.1 d_B_keepChannels_54 hl (k := 0) rfl (nI_1 i) (by decide) rfl (fun ls hl => ?_)
          refine lv_goto (tgt := 13) S.1 S.2.1 d_B_keepChannels_57 (by decide) ?_
          exact ih _ _ ls (by rw [kp, if_neg (fun z => c_a z.1)]; exact hP) hS (lv_sub hl [0, 1, 2, 3, 4] rfl)
        · have c_a := pI_yes c_a
          refine lv_aload_n S.1 S.2.1 d_B_keepChannels_29 rfl (lv_at hl 1 rfl) ?_
          refine lv_iload S.1 S.2.1 d_B_keepChannels_30 (lv_at hl 0 rfl) ?_
          refine uVi (n := 1) (b := (7 + 2 * (π q))) (As := [.int (nI i)]) (rest := []) S hK hN hP hS (c_V_has hJ (kp v π q k i) π (π q) i (Nat.lt_succ_of_lt (hB.2.2 _ (by omega))) (by omega)) ⟨hU, t2_135, t2_150, t1_2, by decide +kernel, by decide, by decide⟩ t2_133 t2_134 (kb_V (Nat.lt_succ_of_lt (hB.2.2 _ (by omega)))) (xg_row (Nat.lt_succ_of_lt (hB.2.2 _ (by omega)))) rfl rfl rfl hl.1 rfl (Nat.le_of_ble_eq_true rfl) d_B_keepChannels_32 ⟨Nat.le_of_ble_eq_true rfl, Nat.le_of_ble_eq_true rfl⟩ (fun r u H locs hp hP hS => ?_)
          obtain ⟨rfl, rfl⟩ := hp
          refine lv_if_ne (tgt := 54) S.1 S.2.1 d_B_keepChannels_35 (by decide) (fun c_b => ?_) (fun c_b => ?_)
          · have c_b := pI_yes c_b
            refine lv_iinc (v := nI (i + 1)) (lv' := [(4, .int (nI (i + 1))), (3, .ref (ad (7 + 2 * π q))), (0, .ref (ad 4)), (1, .int (nI q)), (2, .ref (ad (7 + 2 * k)))]) S.1 S.2.1 d_B_keepChannels_54 hl (k := 0) rfl (nI_1 i) (by decide) rfl (fun ls hl => ?_)
            refine lv_goto (tgt := 13) S.1 S.2.1 d_B_keepChannels_57 (by decide) ?_
            exact ih _ _ ls (by rw [kp, if_neg (fun z => c_b z.2)]; exact hP) hS (lv_sub hl [0, 1, 2, 3, 4] rfl)
          · have c_b := pI_no c_b
            refine lv_aload_n S.1 S.2.1 d_B_keepChannels_38 rfl (lv_at hl 1 rfl) ?_
            refine lv_iload S.1 S.2.1 d_B_keepChannels_39 (lv_at hl 0 rfl) ?_
            refine lv_aload_n S.1 S.2.1 d_B_keepChannels_41 rfl (lv_at hl 2 rfl) ?_
            refine lv_iload_n S.1 S.2.1 d_B_keepChannels_42 rfl (lv_at hl 3 rfl) ?_
            refine lv_iload S.1 S.2.1 d_B_keepChannels_43 (lv_at hl 0 rfl) ?_
            refine uVi (n := 2) (b := 4) (As := [.int (nI q), .int (nI i)]) (rest := [.int (nI i), .ref (ad (7 + 2 * π q))]) S hK hN hP hS (c_B_trackedAt hJ (kp v π q k i) π n hB (some q) (fun p h => by cases h; omega) i (by omega)) ⟨hU, t2_154, t2_151, t1_5, by decide +kernel, by decide, by decide⟩ t2_152 t2_153 (by decide) xg_book rfl rfl rfl hl.1 rfl (Nat.le_of_ble_eq_true rfl) d_B_keepChannels_45 ⟨Nat.le_of_ble_eq_true rfl, Nat.le_of_ble_eq_true rfl⟩ (fun r u H locs hp hP hS => ?_)
            obtain ⟨rfl, rfl⟩ := hp
            refine uSi (n := 1) (As := [.int (trk (kp v π q k i) π i (some q))]) (rest := [.int (nI i), .ref (ad (7 + 2 * π q))]) S hK hN hP hS (c_B_orUnset hJ (kp v π q k i) π (trk (kp v π q k i) π i (some q))) ⟨hU, t2_165, t2_163, t1_5, by decide +kernel, by decide, by decide⟩ t2_164 rfl hl.1 rfl (Nat.le_of_ble_eq_true rfl) d_B_keepChannels_48 ⟨Nat.le_of_ble_eq_true rfl, Nat.le_of_ble_eq_true rfl⟩ (fun r u H locs hp hP hS => ?_)
            obtain ⟨rfl, rfl⟩ := hp
            refine uVv (n := 2) (b := (7 + 2 * (π q))) (As := [.int (nI i), .int (orU (trk (kp v π q k i) π i (some q)))]) (rest := []) S hK hN hP hS (c_V_put hJ (kp v π q k i) π (π q) i (Nat.lt_succ_of_lt (hB.2.2 _ (by omega))) (by omega) (orU (trk (kp v π q k i) π i (some q)))) ⟨hU, t1_197, t2_166, t1_2, by decide +kernel, by decide, by decide⟩ t1_195 t1_196 (kb_V (Nat.lt_succ_of_lt (hB.2.2 _ (by omega)))) (xg_row (Nat.lt_succ_of_lt (hB.2.2 _ (by omega)))) rfl rfl rfl hl.1 rfl (Nat.le_of_ble_eq_true rfl) d_B_keepChannels_51 ⟨Nat.le_of_ble_eq_true rfl, Nat.le_of_ble_eq_true rfl⟩ (fun u H locs hp hP hS => ?_)
            obtain rfl := hp
            refine lv_iinc (v := nI (i + 1)) (lv' := [(4, .int (nI (i + 1))), (3, .ref (ad (7 + 2 * π q))), (0, .ref (ad 4)), (1, .int (nI q)), (2, .ref (ad (7 + 2 * k)))]) S.1 S.2.1 d_B_keepChannels_54 hl (k := 0) rfl (nI_1 i) (by decide) rfl (fun ls hl => ?_)
            refine lv_goto (tgt := 13) S.1 S.2.1 d_B_keepChannels_57 (by decide) ?_
            exact ih _ _ ls (by rw [kp, if_pos ⟨c_a, Decidable.not_not.mp c_b⟩]; exact hP) hS (lv_sub hl [0, 1, 2, 3, 4] rfl)
  exact L 0 (Nat.zero_le _) _ _ ls hP hS (lv_sub hl [0, 1, 2, 3, 4] rfl)

set_option maxRecDepth 100000 in
set_option maxHeartbeats 4000000 in
theorem c_B_putAll {l : Launch} {D : va_G} {ca : Nat → ClassId} {ad : Nat → Nat} (hJ : uJ 165 ad) (v : Nat → Nat → Nat → Int32) (π : Nat → Nat) (M : Nat) (hM : M = 64) (n : Nat) (hB : xBk v π n) (q k : Nat) (hq : q < n) (hk : k < 41) : uMv l y_B_putAll b_B_putAll 4 (none : Option Jvm.ClassFile.FieldType) 1 22 D clsAll (tysAll ca) 165 ad (xG ca ad) (v, π) [.ref (ad 4), .int (nI q), .ref (ad (7 + 2 * k))] (fun u => u = (pa v π q k M, π)) := by
  refine uStart (by decide) (Nat.le_of_ble_eq_true rfl) ?_
  intro p e s m below meth c ls S hr hlk hK hN hP hl
  have hU : ∀ w ∈ uWS, w ∈ (Cond.code y_B_putAll b_B_putAll 4 (none : Option Jvm.ClassFile.FieldType) :: uWS) := fun w h => List.mem_cons_of_mem _ h
  have hS : va_S (uA 165 ad s.heap.size) s.heap s.heap [] := va_S.rf
  have hl : lv_has ls 4 [(0, .ref (ad 4)), (1, .int (nI q)), (2, .ref (ad (7 + 2 * k)))] := hl
  have hn40 : n ≤ 40 := hB.2.1
  refine lv_iconst (v := 0) S.1 S.2.1 d_B_putAll_0 (by decide) ?_
  refine lv_istore_n (lv' := [(3, .int 0), (0, .ref (ad 4)), (1, .int (nI q)), (2, .ref (ad (7 + 2 * k)))]) S.1 S.2.1 d_B_putAll_1 rfl hl (by decide) rfl (fun ls hl => ?_)
  have L : ∀ i, i ≤ M → ∀ (H : Heap) (locs : List Loc) (ls : Array Slot), va_P D clsAll (uw 165 ad (xG ca ad ((pa v π q k i), π))) H → va_S (uA 165 ad s.heap.size) s.heap H locs → lv_has ls 4 [(3, .int (nI i)), (0, .ref (ad 4)), (1, .int (nI q)), (2, .ref (ad (7 + 2 * k)))] → uGv 1 22 D clsAll 165 ad (xG ca ad) (fun u => u = (pa v π q k M, π)) [.ref (ad 4), .int (nI q), .ref (ad (7 + 2 * k))] p l e s m below meth c H locs 2 ls [] := by
    refine upTo M ?_ ?_
    · intro H locs ls hP hS hl
      refine lv_iload_n S.1 S.2.1 d_B_putAll_2 rfl (lv_at hl 0 rfl) ?_
      refine lv_bipush (v := 64) S.1 S.2.1 d_B_putAll_3 (by decide) ?_
      refine lv_icmp_ge (tgt := 40) S.1 S.2.1 d_B_putAll_5 (by decide) (fun c_h => ?_) (fun c_h => ?_)
      · exact uVret S hr hlk ((pa v π q k M), π) hP hS (rfl) d_B_putAll_40
      · exact absurd (by subst hM; exact nI_le (Nat.le_refl 64) (by decide)) c_h
    · intro i hi ih H locs ls hP hS hl
      have hB := pa_bk (q := q) (k := k) hB i
      refine lv_iload_n S.1 S.2.1 d_B_putAll_2 rfl (lv_at hl 0 rfl) ?_
      refine lv_bipush (v := 64) S.1 S.2.1 d_B_putAll_3 (by decide) ?_
      refine lv_icmp_ge (tgt := 40) S.1 S.2.1 d_B_putAll_5 (by decide) (fun c_h => ?_) (fun c_h => ?_)
      · exact absurd c_h (nI_ge (b := 64) (by omega) (by decide))
      · refine lv_aload_n S.1 S.2.1 d_B_putAll_8 rfl (lv_at hl 3 rfl) ?_
        refine lv_iload_n S.1 S.2.1 d_B_putAll_9 rfl (lv_at hl 0 rfl) ?_
        refine uVi (n := 1) (b := (7 + 2 * k)) (As := [.int (nI i)]) (rest := []) S hK hN hP hS (c_V_has hJ (pa v π q k i) π k i hk (by omega)) ⟨hU, t2_135, t2_150, t1_2, by decide +kernel, by decide, by decide⟩ t2_133 t2_134 (kb_V hk) (xg_row hk) rfl rfl rfl hl.1 rfl (Nat.le_of_ble_eq_true rfl) d_B_putAll_10 ⟨Nat.le_of_ble_eq_true rfl, Nat.le_of_ble_eq_true rfl⟩ (fun r u H locs hp hP hS => ?_)
        obtain ⟨rfl, rfl⟩ := hp
        refine lv_if_eq (tgt := 34) S.1 S.2.1 d_B_putAll_13 (by decide) (fun c_a => ?_) (fun c_a => ?_)
        · have c_a := pI_no c_a
          refine lv_iinc (v := nI (i + 1)) (lv' := [(3, .int (nI (i + 1))), (0, .ref (ad 4)), (1, .int (nI q)), (2, .ref (ad (7 + 2 * k)))]) S.1 S.2.1 d_B_putAll_34 hl (k := 0) rfl (nI_1 i) (by decide) rfl (fun ls hl => ?_)
          refine lv_goto (tgt := 2) S.1 S.2.1 d_B_putAll_37 (by decide) ?_
          exact ih _ _ ls (by rw [pa, if_neg c_a]; exact hP) hS (lv_sub hl [0, 1, 2, 3] rfl)
        · have c_a := pI_yes c_a
          refine lv_aload_n S.1 S.2.1 d_B_putAll_16 rfl (lv_at hl 1 rfl) ?_
          refine ur_get (k := 4) (v := .ref (ad 5)) S hK hP (by decide) xg_book rfl (fun w h => hU w (in_B w h)) 0 (by decide) (hU _ t1_106) rfl d_B_putAll_17 ?_
          refine lv_iload_n S.1 S.2.1 d_B_putAll_20 rfl (lv_at hl 2 rfl) ?_
          refine ur_aald (k := 5) (q := ad (89 + π q)) (j := q) S hK hP (by decide) 2 xg_cues rfl rfl (by omega) (by decide) rfl d_B_putAll_21 ?_
          refine ur_getN (k := (89 + (π q))) (v := .ref (ad (7 + 2 * (π q)))) S hK hP (kb_C (hB.2.2 _ (by omega))) (xg_cue (hB.2.2 _ (by omega))) rfl (fun w h => hU w (in_C w h)) 0 (by decide) (hN _ t1_74) rfl d_B_putAll_22 ?_
          refine lv_iload_n S.1 S.2.1 d_B_putAll_25 rfl (lv_at hl 0 rfl) ?_
          refine lv_aload_n S.1 S.2.1 d_B_putAll_26 rfl (lv_at hl 3 rfl) ?_
          refine lv_iload_n S.1 S.2.1 d_B_putAll_27 rfl (lv_at hl 0 rfl) ?_
          refine uVi (n := 1) (b := (7 + 2 * k)) (As := [.int (nI i)]) (rest := [.int (nI i), .ref (ad (7 + 2 * (π q)))]) S hK hN hP hS (c_V_valueAt hJ (pa v π q k i) π k i hk (by omega)) ⟨hU, t2_162, t2_159, t1_2, by decide +kernel, by decide, by decide⟩ t2_160 t2_161 (kb_V hk) (xg_row hk) rfl rfl rfl hl.1 rfl (Nat.le_of_ble_eq_true rfl) d_B_putAll_28 ⟨Nat.le_of_ble_eq_true rfl, Nat.le_of_ble_eq_true rfl⟩ (fun r u H locs hp hP hS => ?_)
          obtain ⟨rfl, rfl⟩ := hp
          refine uVv (n := 2) (b := (7 + 2 * (π q))) (As := [.int (nI i), .int ((pa v π q k i) 17 k i)]) (rest := []) S hK hN hP hS (c_V_put hJ (pa v π q k i) π (π q) i (Nat.lt_succ_of_lt (hB.2.2 _ (by omega))) (by omega) ((pa v π q k i) 17 k i)) ⟨hU, t1_197, t2_166, t1_2, by decide +kernel, by decide, by decide⟩ t1_195 t1_196 (kb_V (Nat.lt_succ_of_lt (hB.2.2 _ (by omega)))) (xg_row (Nat.lt_succ_of_lt (hB.2.2 _ (by omega)))) rfl rfl rfl hl.1 rfl (Nat.le_of_ble_eq_true rfl) d_B_putAll_31 ⟨Nat.le_of_ble_eq_true rfl, Nat.le_of_ble_eq_true rfl⟩ (fun u H locs hp hP hS => ?_)
          obtain rfl := hp
          refine lv_iinc (v := nI (i + 1)) (lv' := [(3, .int (nI (i + 1))), (0, .ref (ad 4)), (1, .int (nI q)), (2, .ref (ad (7 + 2 * k)))]) S.1 S.2.1 d_B_putAll_34 hl (k := 0) rfl (nI_1 i) (by decide) rfl (fun ls hl => ?_)
          refine lv_goto (tgt := 2) S.1 S.2.1 d_B_putAll_37 (by decide) ?_
          exact ih _ _ ls (by rw [pa, if_pos c_a]; exact hP) hS (lv_sub hl [0, 1, 2, 3] rfl)
  exact L 0 (Nat.zero_le _) _ _ ls hP hS (lv_sub hl [0, 1, 2, 3] rfl)
end
section
/-! The class: edits of the book (printed by wip/gen/gen_x5.py) -/
set_option maxRecDepth 100000 in
set_option maxHeartbeats 4000000 in
theorem c_B_takeOut {l : Launch} {D : va_G} {ca : Nat → ClassId} {ad : Nat → Nat} (hJ : uJ 165 ad) (v : Nat → Nat → Nat → Int32) (π : Nat → Nat) (n : Nat) (hB : xBk v π n) (q : Nat) (hq : q < n) : uMv l y_B_takeOut b_B_takeOut 4 (none : Option Jvm.ClassFile.FieldType) 0 0 D clsAll (tysAll ca) 165 ad (xG ca ad) (v, π) [.ref (ad 4), .int (nI q)] (fun u => u = (vOut v n, pOut π n q)) := by
  refine uStart (by decide) (Nat.le_of_ble_eq_true rfl) ?_
  intro p e s m below meth c ls S hr hlk hK hN hP hl
  have hU : ∀ w ∈ uWS, w ∈ (Cond.code y_B_takeOut b_B_takeOut 4 (none : Option Jvm.ClassFile.FieldType) :: uWS) := fun w h => List.mem_cons_of_mem _ h
  have hS : va_S (uA 165 ad s.heap.size) s.heap s.heap [] := va_S.rf
  have hl : lv_has ls 4 [(0, .ref (ad 4)), (1, .int (nI q))] := hl
  have hn40 : n ≤ 40 := hB.2.1
  refine lv_aload_n S.1 S.2.1 d_B_takeOut_0 rfl (lv_at hl 0 rfl) ?_
  refine ur_get (k := 4) (v := .ref (ad 5)) S hK hP (by decide) xg_book rfl (fun w h => hU w (in_B w h)) 0 (by decide) (hU _ t1_106) rfl d_B_takeOut_1 ?_
  refine lv_iload_n S.1 S.2.1 d_B_takeOut_4 rfl (lv_at hl 1 rfl) ?_
  refine ur_aald (k := 5) (q := ad (89 + π q)) (j := q) S hK hP (by decide) 2 xg_cues rfl rfl (by omega) (by decide) rfl d_B_takeOut_5 ?_
  refine lv_astore_n (lv' := [(2, .ref (ad (89 + π q))), (0, .ref (ad 4)), (1, .int (nI q))]) S.1 S.2.1 d_B_takeOut_6 rfl hl (by decide) rfl (fun ls hl => ?_)
  refine lv_aload_n S.1 S.2.1 d_B_takeOut_7 rfl (lv_at hl 1 rfl) ?_
  refine lv_dup S.1 S.2.1 d_B_takeOut_8 rfl ?_
  refine ur_get (k := 4) (v := .int (v 4 0 0)) S hK hP (by decide) xg_book rfl (fun w h => hU w (in_B w h)) 1 (by decide) (hU _ t1_107) rfl d_B_takeOut_9 ?_
  refine lv_iconst (v := 1) S.1 S.2.1 d_B_takeOut_12 (by decide) ?_
  refine lv_isub S.1 S.2.1 d_B_takeOut_13 ?_
  rw [show v 4 0 0 - 1 = nI (n - 1) from by rw [hB.1]; exact nI_sub1 (by omega)]
  refine ur_put (k := 4) (v := .int (nI (n - 1))) (g' := xG ca ad (up3 v 4 0 0 (nI (n - 1)), π)) S hK hP (uD _ hJ) hS (by decide) xg_book rfl (fun w h => hU w (in_B w h)) ty_B tyk_B nm_B 1 (by decide) (hU _ t1_107) rfl rfl rfl (Nat.le_of_ble_eq_true rfl) xs_size d_B_takeOut_14 (fun H locs hP hS => ?_)
  refine lv_iload_n S.1 S.2.1 d_B_takeOut_17 rfl (lv_at hl 2 rfl) ?_
  refine lv_istore_n (lv' := [(3, .int (nI q)), (2, .ref (ad (89 + π q))), (0, .ref (ad 4)), (1, .int (nI q))]) S.1 S.2.1 d_B_takeOut_18 rfl hl (by decide) rfl (fun ls hl => ?_)
  have L : ∀ i, i ≤ (n - 1 - q) → ∀ (H : Heap) (locs : List Loc) (ls : Array Slot), va_P D clsAll (uw 165 ad (xG ca ad ((up3 v 4 0 0 (nI (n - 1))), (tkp π q i)))) H → va_S (uA 165 ad s.heap.size) s.heap H locs → lv_has ls 4 [(3, .int (nI (q + i))), (2, .ref (ad (89 + π q))), (0, .ref (ad 4)), (1, .int (nI q))] → uGv 0 0 D clsAll 165 ad (xG ca ad) (fun u => u = (vOut v n, pOut π n q)) [.ref (ad 4), .int (nI q)] p l e s m below meth c H locs 19 ls [] := by
    refine upTo (n - 1 - q) ?_ ?_
    · intro H locs ls hP hS hl
      refine lv_iload_n S.1 S.2.1 d_B_takeOut_19 rfl (lv_at hl 0 rfl) ?_
      refine lv_aload_n S.1 S.2.1 d_B_takeOut_20 rfl (lv_at hl 2 rfl) ?_
      refine ur_get (k := 4) (v := .int ((up3 v 4 0 0 (nI (n - 1))) 4 0 0)) S hK hP (by decide) xg_book rfl (fun w h => hU w (in_B w h)) 1 (by decide) (hU _ t1_107) rfl d_B_takeOut_21 ?_
      refine lv_icmp_ge (tgt := 47) S.1 S.2.1 d_B_takeOut_24 (by decide) (fun c_h => ?_) (fun c_h => ?_)
      · refine lv_aload_n S.1 S.2.1 d_B_takeOut_47 rfl (lv_at hl 2 rfl) ?_
        refine ur_get (k := 4) (v := .ref (ad 5)) S hK hP (by decide) xg_book rfl (fun w h => hU w (in_B w h)) 0 (by decide) (hU _ t1_106) rfl d_B_takeOut_48 ?_
        refine lv_aload_n S.1 S.2.1 d_B_takeOut_51 rfl (lv_at hl 2 rfl) ?_
        refine ur_get (k := 4) (v := .int ((up3 v 4 0 0 (nI (n - 1))) 4 0 0)) S hK hP (by decide) xg_book rfl (fun w h => hU w (in_B w h)) 1 (by decide) (hU _ t1_107) rfl d_B_takeOut_52 ?_
        refine lv_aload_n S.1 S.2.1 d_B_takeOut_55 rfl (lv_at hl 1 rfl) ?_
        refine ur_aast (k := 5) (j := (n - 1)) (kv := 89 + (π q)) (ci := 2) (g' := xG ca ad ((up3 v 4 0 0 (nI (n - 1))), va_up (tkp π q (n - 1 - q)) (n - 1) (π q))) S hK hP (uD _ hJ) hS (by decide) 2 xg_cues rfl (up3_s _ _ _ _ _) (by omega) (by decide) (kb_C (hB.2.2 _ (by omega))) (xg_cue (hB.2.2 _ (by omega))) rfl xs_cues d_B_takeOut_56 (fun H locs hP hS => ?_)
        exact uVret S hr hlk ((up3 v 4 0 0 (nI (n - 1))), (va_up (tkp π q (n - 1 - q)) (n - 1) (π q))) hP hS (rfl) d_B_takeOut_57
      · exact absurd (by rw [up3_s]; exact nI_le (by omega) (by omega)) c_h
    · intro i hi ih H locs ls hP hS hl
      refine lv_iload_n S.1 S.2.1 d_B_takeOut_19 rfl (lv_at hl 0 rfl) ?_
      refine lv_aload_n S.1 S.2.1 d_B_takeOut_20 rfl (lv_at hl 2 rfl) ?_
      refine ur_get (k := 4) (v := .int ((up3 v 4 0 0 (nI (n - 1))) 4 0 0)) S hK hP (by decide) xg_book rfl (fun w h => hU w (in_B w h)) 1 (by decide) (hU _ t1_107) rfl d_B_takeOut_21 ?_
      refine lv_icmp_ge (tgt := 47) S.1 S.2.1 d_B_takeOut_24 (by decide) (fun c_h => ?_) (fun c_h => ?_)
      · exact absurd c_h (by rw [up3_s]; exact nI_ge (by omega) (by omega))
      · refine lv_aload_n S.1 S.2.1 d_B_takeOut_27 rfl (lv_at hl 2 rfl) ?_
        refine ur_get (k := 4) (v := .ref (ad 5)) S hK hP (by decide) xg_book rfl (fun w h => hU w (in_B w h)) 0 (by decide) (hU _ t1_106) rfl d_B_takeOut_28 ?_
        refine lv_iload_n S.1 S.2.1 d_B_takeOut_31 rfl (lv_at hl 0 rfl) ?_
        refine lv_aload_n S.1 S.2.1 d_B_takeOut_32 rfl (lv_at hl 2 rfl) ?_
        refine ur_get (k := 4) (v := .ref (ad 5)) S hK hP (by decide) xg_book rfl (fun w h => hU w (in_B w h)) 0 (by decide) (hU _ t1_106) rfl d_B_takeOut_33 ?_
        refine lv_iload_n S.1 S.2.1 d_B_takeOut_36 rfl (lv_at hl 0 rfl) ?_
        refine lv_iconst (v := 1) S.1 S.2.1 d_B_takeOut_37 (by decide) ?_
        refine lv_iadd S.1 S.2.1 d_B_takeOut_38 ?_
        refine ur_aald (k := 5) (q := ad (89 + (tkp π q i) (q + i + 1))) (j := (q + i + 1)) S hK hP (by decide) 2 xg_cues rfl (nI_1 _) (by omega) (by decide) rfl d_B_takeOut_39 ?_
        refine ur_aast (k := 5) (j := (q + i)) (kv := 89 + ((tkp π q i) (q + i + 1))) (ci := 2) (g' := xG ca ad ((up3 v 4 0 0 (nI (n - 1))), va_up (tkp π q i) (q + i) ((tkp π q i) (q + i + 1)))) S hK hP (uD _ hJ) hS (by decide) 2 xg_cues rfl rfl (by omega) (by decide) (kb_C (tkp_lt hB.2.2 _ (by omega) _ (by omega))) (xg_cue (tkp_lt hB.2.2 _ (by omega) _ (by omega))) rfl xs_cues d_B_takeOut_40 (fun H locs hP hS => ?_)
        refine lv_iinc (v := nI ((q + i) + 1)) (lv' := [(3, .int (nI ((q + i) + 1))), (2, .ref (ad (89 + π q))), (0, .ref (ad 4)), (1, .int (nI q))]) S.1 S.2.1 d_B_takeOut_41 hl (k := 0) rfl (nI_1 (q + i)) (by decide) rfl (fun ls hl => ?_)
        refine lv_goto (tgt := 19) S.1 S.2.1 d_B_takeOut_44 (by decide) ?_
        exact ih _ _ ls (by rw [tkp]; exact hP) hS (lv_sub hl [0, 1, 2, 3] rfl)
  exact L 0 (Nat.zero_le _) _ _ ls hP hS (lv_sub hl [0, 1, 2, 3] rfl)
end
section
/-! insert -/
set_option maxRecDepth 100000 in
set_option maxHeartbeats 4000000 in
theorem c_B_insert {l : Launch} {D : va_G} {ca : Nat → ClassId} {ad : Nat → Nat} (hJ : uJ 165 ad) (v : Nat → Nat → Nat → Int32) (π : Nat → Nat) (n : Nat) (hB : xBk v π n) (hn : n < 40) (q : Nat) (hq : q ≤ n) (a b : Int32) : uMv l y_B_insert b_B_insert 6 (none : Option Jvm.ClassFile.FieldType) 3 65 D clsAll (tysAll ca) 165 ad (xG ca ad) (v, π) [.ref (ad 4), .int (nI q), .int a, .int b] (fun u => u = (vIns v π n a b, pIns π n q)) := by
  refine uStart (by decide) (Nat.le_of_ble_eq_true rfl) ?_
  intro p e s m below meth c ls S hr hlk hK hN hP hl
  have hU : ∀ w ∈ uWS, w ∈ (Cond.code y_B_insert b_B_insert 6 (none : Option Jvm.ClassFile.FieldType) :: uWS) := fun w h => List.mem_cons_of_mem _ h
  have hS : va_S (uA 165 ad s.heap.size) s.heap s.heap [] := va_S.rf
  have hl : lv_has ls 6 [(0, .ref (ad 4)), (1, .int (nI q)), (2, .int a), (3, .int b)] := hl
  refine lv_aload_n S.1 S.2.1 d_B_insert_0 rfl (lv_at hl 0 rfl) ?_
  refine ur_get (k := 4) (v := .ref (ad 5)) S hK hP (by decide) xg_book rfl (fun w h => hU w (in_B w h)) 0 (by decide) (hU _ t1_106) rfl d_B_insert_1 ?_
  refine lv_aload_n S.1 S.2.1 d_B_insert_4 rfl (lv_at hl 0 rfl) ?_
  refine ur_get (k := 4) (v := .int (v 4 0 0)) S hK hP (by decide) xg_book rfl (fun w h => hU w (in_B w h)) 1 (by decide) (hU _ t1_107) rfl d_B_insert_5 ?_
  refine ur_aald (k := 5) (q := ad (89 + π n)) (j := n) S hK hP (by decide) 2 xg_cues rfl hB.1 (by omega) (by decide) rfl d_B_insert_8 ?_
  refine lv_astore (lv' := [(4, .ref (ad (89 + π n))), (0, .ref (ad 4)), (1, .int (nI q)), (2, .int a), (3, .int b)]) S.1 S.2.1 d_B_insert_9 hl (by decide) rfl (fun ls hl => ?_)
  refine lv_aload_n S.1 S.2.1 d_B_insert_11 rfl (lv_at hl 1 rfl) ?_
  refine ur_get (k := 4) (v := .int (v 4 0 0)) S hK hP (by decide) xg_book rfl (fun w h => hU w (in_B w h)) 1 (by decide) (hU _ t1_107) rfl d_B_insert_12 ?_
  rw [hB.1]
  refine lv_istore (lv' := [(5, .int (nI n)), (4, .ref (ad (89 + π n))), (0, .ref (ad 4)), (1, .int (nI q)), (2, .int a), (3, .int b)]) S.1 S.2.1 d_B_insert_15 hl (by decide) rfl (fun ls hl => ?_)
  have L : ∀ i, i ≤ (n - q) → ∀ (H : Heap) (locs : List Loc) (ls : Array Slot), va_P D clsAll (uw 165 ad (xG ca ad (v, (isp π n i)))) H → va_S (uA 165 ad s.heap.size) s.heap H locs → lv_has ls 6 [(5, .int (nI (n - i))), (4, .ref (ad (89 + π n))), (0, .ref (ad 4)), (1, .int (nI q)), (2, .int a), (3, .int b)] → uGv 3 65 D clsAll 165 ad (xG ca ad) (fun u => u = (vIns v π n a b, pIns π n q)) [.ref (ad 4), .int (nI q), .int a, .int b] p l e s m below meth c H locs 17 ls [] := by
    refine upTo (n - q) ?_ ?_
    · intro H locs ls hP hS hl
      refine lv_iload S.1 S.2.1 d_B_insert_17 (lv_at hl 0 rfl) ?_
      refine lv_iload_n S.1 S.2.1 d_B_insert_19 rfl (lv_at hl 3 rfl) ?_
      refine lv_icmp_le (tgt := 45) S.1 S.2.1 d_B_insert_20 (by decide) (fun c_h => ?_) (fun c_h => ?_)
      · refine lv_aload_n S.1 S.2.1 d_B_insert_45 rfl (lv_at hl 2 rfl) ?_
        refine ur_get (k := 4) (v := .ref (ad 5)) S hK hP (by decide) xg_book rfl (fun w h => hU w (in_B w h)) 0 (by decide) (hU _ t1_106) rfl d_B_insert_46 ?_
        refine lv_iload_n S.1 S.2.1 d_B_insert_49 rfl (lv_at hl 3 rfl) ?_
        refine lv_aload S.1 S.2.1 d_B_insert_50 (lv_at hl 1 rfl) ?_
        refine ur_aast (k := 5) (j := q) (kv := 89 + (π n)) (ci := 2) (g' := xG ca ad (v, va_up (isp π n (n - q)) q (π n))) S hK hP (uD _ hJ) hS (by decide) 2 xg_cues rfl rfl (by omega) (by decide) (kb_C (hB.2.2 _ (by omega))) (xg_cue (hB.2.2 _ (by omega))) rfl xs_cues d_B_insert_52 (fun H locs hP hS => ?_)
        refine lv_aload_n S.1 S.2.1 d_B_insert_53 rfl (lv_at hl 2 rfl) ?_
        refine lv_dup S.1 S.2.1 d_B_insert_54 rfl ?_
        refine ur_get (k := 4) (v := .int (v 4 0 0)) S hK hP (by decide) xg_book rfl (fun w h => hU w (in_B w h)) 1 (by decide) (hU _ t1_107) rfl d_B_insert_55 ?_
        refine lv_iconst (v := 1) S.1 S.2.1 d_B_insert_58 (by decide) ?_
        refine lv_iadd S.1 S.2.1 d_B_insert_59 ?_
        rw [show v 4 0 0 + 1 = nI (n + 1) from by rw [hB.1]; exact nI_1 n]
        refine ur_put (k := 4) (v := .int (nI (n + 1))) (g' := xG ca ad (up3 v 4 0 0 (nI (n + 1)), (va_up (isp π n (n - q)) q (π n)))) S hK hP (uD _ hJ) hS (by decide) xg_book rfl (fun w h => hU w (in_B w h)) ty_B tyk_B nm_B 1 (by decide) (hU _ t1_107) rfl rfl rfl (Nat.le_of_ble_eq_true rfl) xs_size d_B_insert_60 (fun H locs hP hS => ?_)
        refine lv_aload S.1 S.2.1 d_B_insert_63 (lv_at hl 1 rfl) ?_
        refine lv_iload_n S.1 S.2.1 d_B_insert_65 rfl (lv_at hl 4 rfl) ?_
        refine lv_iload_n S.1 S.2.1 d_B_insert_66 rfl (lv_at hl 5 rfl) ?_
        refine uVv (n := 2) (b := (89 + (π n))) (As := [.int a, .int b]) (rest := []) S hK hN hP hS (c_C_beginAs hJ (up3 v 4 0 0 (nI (n + 1))) (va_up (isp π n (n - q)) q (π n)) (π n) (hB.2.2 _ (by omega)) a b) ⟨hU, t2_144, t2_141, t1_6, by decide +kernel, by decide, by decide⟩ t2_142 t2_143 (kb_C (hB.2.2 _ (by omega))) (xg_cue (hB.2.2 _ (by omega))) rfl rfl rfl hl.1 rfl (Nat.le_of_ble_eq_true rfl) d_B_insert_67 ⟨Nat.le_of_ble_eq_true rfl, Nat.le_of_ble_eq_true rfl⟩ (fun u H locs hp hP hS => ?_)
        obtain rfl := hp
        exact uVret S hr hlk ((vBegin (up3 v 4 0 0 (nI (n + 1))) (π n) a b), (va_up (isp π n (n - q)) q (π n))) hP hS (rfl) d_B_insert_70
      · exact absurd (nI_le (by omega) (by omega)) c_h
    · intro i hi ih H locs ls hP hS hl
      refine lv_iload S.1 S.2.1 d_B_insert_17 (lv_at hl 0 rfl) ?_
      refine lv_iload_n S.1 S.2.1 d_B_insert_19 rfl (lv_at hl 3 rfl) ?_
      refine lv_icmp_le (tgt := 45) S.1 S.2.1 d_B_insert_20 (by decide) (fun c_h => ?_) (fun c_h => ?_)
      · exact absurd c_h (nI_ge (by omega) (by omega))
      · refine lv_aload_n S.1 S.2.1 d_B_insert_23 rfl (lv_at hl 2 rfl) ?_
        refine ur_get (k := 4) (v := .ref (ad 5)) S hK hP (by decide) xg_book rfl (fun w h => hU w (in_B w h)) 0 (by decide) (hU _ t1_106) rfl d_B_insert_24 ?_
        refine lv_iload S.1 S.2.1 d_B_insert_27 (lv_at hl 0 rfl) ?_
        refine lv_aload_n S.1 S.2.1 d_B_insert_29 rfl (lv_at hl 2 rfl) ?_
        refine ur_get (k := 4) (v := .ref (ad 5)) S hK hP (by decide) xg_book rfl (fun w h => hU w (in_B w h)) 0 (by decide) (hU _ t1_106) rfl d_B_insert_30 ?_
        refine lv_iload S.1 S.2.1 d_B_insert_33 (lv_at hl 0 rfl) ?_
        refine lv_iconst (v := 1) S.1 S.2.1 d_B_insert_35 (by decide) ?_
        refine lv_isub S.1 S.2.1 d_B_insert_36 ?_
        refine ur_aald (k := 5) (q := ad (89 + (isp π n i) (n - i - 1))) (j := (n - i - 1)) S hK hP (by decide) 2 xg_cues rfl (nI_sub1 (by omega)) (by omega) (by decide) rfl d_B_insert_37 ?_
        refine ur_aast (k := 5) (j := (n - i)) (kv := 89 + ((isp π n i) (n - i - 1))) (ci := 2) (g' := xG ca ad (v, va_up (isp π n i) (n - i) ((isp π n i) (n - i - 1)))) S hK hP (uD _ hJ) hS (by decide) 2 xg_cues rfl rfl (by omega) (by decide) (kb_C (isp_lt hn hB.2.2 _ _ (by omega))) (xg_cue (isp_lt hn hB.2.2 _ _ (by omega))) rfl xs_cues d_B_insert_38 (fun H locs hP hS => ?_)
        refine lv_iinc (v := nI (n - (i + 1))) (lv' := [(5, .int (nI (n - (i + 1)))), (4, .ref (ad (89 + π n))), (0, .ref (ad 4)), (1, .int (nI q)), (2, .int a), (3, .int b)]) S.1 S.2.1 d_B_insert_39 hl (k := 0) rfl (by rw [nI_decn (by omega), Nat.sub_sub]) (by decide) rfl (fun ls hl => ?_)
        refine lv_goto (tgt := 17) S.1 S.2.1 d_B_insert_42 (by decide) ?_
        exact ih _ _ ls (by rw [isp]; exact hP) hS (lv_sub hl [0, 1, 2, 3, 4, 5] rfl)
  exact L 0 (Nat.zero_le _) _ _ ls hP hS (lv_sub hl [0, 1, 2, 3, 4, 5] rfl)
end
section
/-! unblockCue -/
set_option maxRecDepth 100000 in
set_option maxHeartbeats 4000000 in
theorem c_B_unblockCue {l : Launch} {D : va_G} {ca : Nat → ClassId} {ad : Nat → Nat} (hJ : uJ 165 ad) (v : Nat → Nat → Nat → Int32) (π : Nat → Nat) (M : Nat) (hM : M = 64) (n : Nat) (hB : xBk v π n) (q : Nat) (hq : q < n) : uMi l y_B_unblockCue b_B_unblockCue 5 (some .int) 3 68 D clsAll (tysAll ca) 165 ad (xG ca ad) (v, π) [.ref (ad 4), .int (nI q)] (fun r u => u = (ubs v π q (blwO v π n (v 10 (π q) 0) (v 11 (π q) 0)) M, π) ∧ r = ubs v π q (blwO v π n (v 10 (π q) 0) (v 11 (π q) 0)) M 16 (π q) 0) := by
  refine uStart (by decide) (Nat.le_of_ble_eq_true rfl) ?_
  intro p e s m below meth c ls S hr hlk hK hN hP hl
  have hU : ∀ w ∈ uWS, w ∈ (Cond.code y_B_unblockCue b_B_unblockCue 5 (some .int) :: uWS) := fun w h => List.mem_cons_of_mem _ h
  have hS : va_S (uA 165 ad s.heap.size) s.heap s.heap [] := va_S.rf
  have hl : lv_has ls 5 [(0, .ref (ad 4)), (1, .int (nI q))] := hl
  have hn40 : n ≤ 40 := hB.2.1
  refine lv_aload_n S.1 S.2.1 d_B_unblockCue_0 rfl (lv_at hl 0 rfl) ?_
  refine ur_get (k := 4) (v := .ref (ad 5)) S hK hP (by decide) xg_book rfl (fun w h => hU w (in_B w h)) 0 (by decide) (hU _ t1_106) rfl d_B_unblockCue_1 ?_
  refine lv_iload_n S.1 S.2.1 d_B_unblockCue_4 rfl (lv_at hl 1 rfl) ?_
  refine ur_aald (k := 5) (q := ad (89 + π q)) (j := q) S hK hP (by decide) 2 xg_cues rfl rfl (by omega) (by decide) rfl d_B_unblockCue_5 ?_
  refine ur_getN (k := (89 + (π q))) (v := .ref (ad (7 + 2 * (π q)))) S hK hP (kb_C (hB.2.2 _ (by omega))) (xg_cue (hB.2.2 _ (by omega))) rfl (fun w h => hU w (in_C w h)) 0 (by decide) (hN _ t1_74) rfl d_B_unblockCue_6 ?_
  refine lv_astore_n (lv' := [(2, .ref (ad (7 + 2 * (π q)))), (0, .ref (ad 4)), (1, .int (nI q))]) S.1 S.2.1 d_B_unblockCue_9 rfl hl (by decide) rfl (fun ls hl => ?_)
  refine lv_aload_n S.1 S.2.1 d_B_unblockCue_10 rfl (lv_at hl 1 rfl) ?_
  refine lv_aload_n S.1 S.2.1 d_B_unblockCue_11 rfl (lv_at hl 1 rfl) ?_
  refine ur_get (k := 4) (v := .ref (ad 5)) S hK hP (by decide) xg_book rfl (fun w h => hU w (in_B w h)) 0 (by decide) (hU _ t1_106) rfl d_B_unblockCue_12 ?_
  refine lv_iload_n S.1 S.2.1 d_B_unblockCue_15 rfl (lv_at hl 2 rfl) ?_
  refine ur_aald (k := 5) (q := ad (89 + π q)) (j := q) S hK hP (by decide) 2 xg_cues rfl rfl (by omega) (by decide) rfl d_B_unblockCue_16 ?_
  refine ur_getN (k := (89 + (π q))) (v := .int (v 10 (π q) 0)) S hK hP (kb_C (hB.2.2 _ (by omega))) (xg_cue (hB.2.2 _ (by omega))) rfl (fun w h => hU w (in_C w h)) 1 (by decide) (hN _ t1_76) rfl d_B_unblockCue_17 ?_
  refine lv_aload_n S.1 S.2.1 d_B_unblockCue_20 rfl (lv_at hl 1 rfl) ?_
  refine ur_get (k := 4) (v := .ref (ad 5)) S hK hP (by decide) xg_book rfl (fun w h => hU w (in_B w h)) 0 (by decide) (hU _ t1_106) rfl d_B_unblockCue_21 ?_
  refine lv_iload_n S.1 S.2.1 d_B_unblockCue_24 rfl (lv_at hl 2 rfl) ?_
  refine ur_aald (k := 5) (q := ad (89 + π q)) (j := q) S hK hP (by decide) 2 xg_cues rfl rfl (by omega) (by decide) rfl d_B_unblockCue_25 ?_
  refine ur_getN (k := (89 + (π q))) (v := .int (v 11 (π q) 0)) S hK hP (kb_C (hB.2.2 _ (by omega))) (xg_cue (hB.2.2 _ (by omega))) rfl (fun w h => hU w (in_C w h)) 2 (by decide) (hN _ t1_78) rfl d_B_unblockCue_26 ?_
  refine uVi (n := 2) (b := 4) (As := [.int (v 10 (π q) 0), .int (v 11 (π q) 0)]) (rest := []) S hK hN hP hS (c_B_placeBelow hJ v π n hB (v 10 (π q) 0) (v 11 (π q) 0)) ⟨hU, t3_19, t3_16, t1_5, by decide +kernel, by decide, by decide⟩ t3_17 t3_18 (by decide) xg_book rfl rfl rfl hl.1 rfl (Nat.le_of_ble_eq_true rfl) d_B_unblockCue_29 ⟨Nat.le_of_ble_eq_true rfl, Nat.le_of_ble_eq_true rfl⟩ (fun r u H locs hp hP hS => ?_)
  obtain ⟨rfl, rfl⟩ := hp
  refine lv_istore_n (lv' := [(3, .int (oI (blwO v π n (v 10 (π q) 0) (v 11 (π q) 0)))), (2, .ref (ad (7 + 2 * (π q)))), (0, .ref (ad 4)), (1, .int (nI q))]) S.1 S.2.1 d_B_unblockCue_32 rfl hl (by decide) rfl (fun ls hl => ?_)
  refine lv_iconst (v := 0) S.1 S.2.1 d_B_unblockCue_33 (by decide) ?_
  refine lv_istore (lv' := [(4, .int 0), (3, .int (oI (blwO v π n (v 10 (π q) 0) (v 11 (π q) 0)))), (2, .ref (ad (7 + 2 * (π q)))), (0, .ref (ad 4)), (1, .int (nI q))]) S.1 S.2.1 d_B_unblockCue_34 hl (by decide) rfl (fun ls hl => ?_)
  have L : ∀ i, i ≤ M → ∀ (H : Heap) (locs : List Loc) (ls : Array Slot), va_P D clsAll (uw 165 ad (xG ca ad ((ubs v π q (blwO v π n (v 10 (π q) 0) (v 11 (π q) 0)) i), π))) H → va_S (uA 165 ad s.heap.size) s.heap H locs → lv_has ls 5 [(4, .int (nI i)), (3, .int (oI (blwO v π n (v 10 (π q) 0) (v 11 (π q) 0)))), (2, .ref (ad (7 + 2 * π q))), (0, .ref (ad 4)), (1, .int (nI q))] → uGi 3 68 D clsAll 165 ad (xG ca ad) (fun r u => u = (ubs v π q (blwO v π n (v 10 (π q) 0) (v 11 (π q) 0)) M, π) ∧ r = ubs v π q (blwO v π n (v 10 (π q) 0) (v 11 (π q) 0)) M 16 (π q) 0) [.ref (ad 4), .int (nI q)] p l e s m below meth c H locs 36 ls [] := by
    refine upTo M ?_ ?_
    · intro H locs ls hP hS hl
      refine lv_iload S.1 S.2.1 d_B_unblockCue_36 (lv_at hl 0 rfl) ?_
      refine lv_bipush (v := 64) S.1 S.2.1 d_B_unblockCue_38 (by decide) ?_
      refine lv_icmp_ge (tgt := 74) S.1 S.2.1 d_B_unblockCue_40 (by decide) (fun c_h => ?_) (fun c_h => ?_)
      · refine lv_aload_n S.1 S.2.1 d_B_unblockCue_74 rfl (lv_at hl 2 rfl) ?_
        refine ur_getN (k := (7 + 2 * (π q))) (v := .int ((ubs v π q (blwO v π n (v 10 (π q) 0) (v 11 (π q) 0)) M) 16 (π q) 0)) S hK hP (kb_V (Nat.lt_succ_of_lt (hB.2.2 _ (by omega)))) (xg_row (Nat.lt_succ_of_lt (hB.2.2 _ (by omega)))) rfl (fun w h => hU w (in_V w h)) 1 (by decide) (hN _ t1_37) rfl d_B_unblockCue_75 ?_
        exact uIret S hr hlk ((ubs v π q (blwO v π n (v 10 (π q) 0) (v 11 (π q) 0)) M), π) hP hS (⟨rfl, rfl⟩) d_B_unblockCue_78
      · exact absurd (by subst hM; exact nI_le (Nat.le_refl 64) (by decide)) c_h
    · intro i hi ih H locs ls hP hS hl
      have hB := ubs_bk (q := q) (B := blwO v π n (v 10 (π q) 0) (v 11 (π q) 0)) hB i
      refine lv_iload S.1 S.2.1 d_B_unblockCue_36 (lv_at hl 0 rfl) ?_
      refine lv_bipush (v := 64) S.1 S.2.1 d_B_unblockCue_38 (by decide) ?_
      refine lv_icmp_ge (tgt := 74) S.1 S.2.1 d_B_unblockCue_40 (by decide) (fun c_h => ?_) (fun c_h => ?_)
      · exact absurd c_h (nI_ge (b := 64) (by omega) (by decide))
      · refine lv_aload_n S.1 S.2.1 d_B_unblockCue_43 rfl (lv_at hl 2 rfl) ?_
        refine lv_iload S.1 S.2.1 d_B_unblockCue_44 (lv_at hl 0 rfl) ?_
        refine uVi (n := 1) (b := (7 + 2 * (π q))) (As := [.int (nI i)]) (rest := []) S hK hN hP hS (c_V_valueAt hJ (ubs v π q (blwO v π n (v 10 (π q) 0) (v 11 (π q) 0)) i) π (π q) i (Nat.lt_succ_of_lt (hB.2.2 _ (by omega))) (by omega)) ⟨hU, t2_162, t2_159, t1_2, by decide +kernel, by decide, by decide⟩ t2_160 t2_161 (kb_V (Nat.lt_succ_of_lt (hB.2.2 _ (by omega)))) (xg_row (Nat.lt_succ_of_lt (hB.2.2 _ (by omega)))) rfl rfl rfl hl.1 rfl (Nat.le_of_ble_eq_true rfl) d_B_unblockCue_46 ⟨Nat.le_of_ble_eq_true rfl, Nat.le_of_ble_eq_true rfl⟩ (fun r u H locs hp hP hS => ?_)
        obtain ⟨rfl, rfl⟩ := hp
        refine lv_aload_n S.1 S.2.1 d_B_unblockCue_49 rfl (lv_at hl 3 rfl) ?_
        refine lv_iload_n S.1 S.2.1 d_B_unblockCue_50 rfl (lv_at hl 1 rfl) ?_
        refine lv_iload S.1 S.2.1 d_B_unblockCue_51 (lv_at hl 0 rfl) ?_
        refine uVi (n := 2) (b := 4) (As := [.int (oI (blwO v π n (v 10 (π q) 0) (v 11 (π q) 0))), .int (nI i)]) (rest := [.int ((ubs v π q (blwO v π n (v 10 (π q) 0) (v 11 (π q) 0)) i) 17 (π q) i)]) S hK hN hP hS (c_B_trackedAt hJ (ubs v π q (blwO v π n (v 10 (π q) 0) (v 11 (π q) 0)) i) π n hB (blwO v π n (v 10 (π q) 0) (v 11 (π q) 0)) (fun p h => blwO_lt _ h) i (by omega)) ⟨hU, t2_154, t2_151, t1_5, by decide +kernel, by decide, by decide⟩ t2_152 t2_153 (by decide) xg_book rfl rfl rfl hl.1 rfl (Nat.le_of_ble_eq_true rfl) d_B_unblockCue_53 ⟨Nat.le_of_ble_eq_true rfl, Nat.le_of_ble_eq_true rfl⟩ (fun r u H locs hp hP hS => ?_)
        obtain ⟨rfl, rfl⟩ := hp
        refine uSi (n := 1) (As := [.int (trk (ubs v π q (blwO v π n (v 10 (π q) 0) (v 11 (π q) 0)) i) π i (blwO v π n (v 10 (π q) 0) (v 11 (π q) 0)))]) (rest := [.int ((ubs v π q (blwO v π n (v 10 (π q) 0) (v 11 (π q) 0)) i) 17 (π q) i)]) S hK hN hP hS (c_B_orUnset hJ (ubs v π q (blwO v π n (v 10 (π q) 0) (v 11 (π q) 0)) i) π (trk (ubs v π q (blwO v π n (v 10 (π q) 0) (v 11 (π q) 0)) i) π i (blwO v π n (v 10 (π q) 0) (v 11 (π q) 0)))) ⟨hU, t2_165, t2_163, t1_5, by decide +kernel, by decide, by decide⟩ t2_164 rfl hl.1 rfl (Nat.le_of_ble_eq_true rfl) d_B_unblockCue_56 ⟨Nat.le_of_ble_eq_true rfl, Nat.le_of_ble_eq_true rfl⟩ (fun r u H locs hp hP hS => ?_)
        obtain ⟨rfl, rfl⟩ := hp
        refine lv_icmp_ne (tgt := 68) S.1 S.2.1 d_B_unblockCue_59 (by decide) (fun c_e => ?_) (fun c_e => ?_)
        · refine lv_iinc (v := nI (i + 1)) (lv' := [(4, .int (nI (i + 1))), (3, .int (oI (blwO v π n (v 10 (π q) 0) (v 11 (π q) 0)))), (2, .ref (ad (7 + 2 * π q))), (0, .ref (ad 4)), (1, .int (nI q))]) S.1 S.2.1 d_B_unblockCue_68 hl (k := 0) rfl (nI_1 i) (by decide) rfl (fun ls hl => ?_)
          refine lv_goto (tgt := 36) S.1 S.2.1 d_B_unblockCue_71 (by decide) ?_
          exact ih _ _ ls (by rw [ubs, if_neg c_e]; exact hP) hS (lv_sub hl [0, 1, 2, 3, 4] rfl)
        · refine lv_aload_n S.1 S.2.1 d_B_unblockCue_62 rfl (lv_at hl 2 rfl) ?_
          refine lv_iload S.1 S.2.1 d_B_unblockCue_63 (lv_at hl 0 rfl) ?_
          refine uVv (n := 1) (b := (7 + 2 * (π q))) (As := [.int (nI i)]) (rest := []) S hK hN hP hS (c_V_drop hJ (ubs v π q (blwO v π n (v 10 (π q) 0) (v 11 (π q) 0)) i) π (π q) i (Nat.lt_succ_of_lt (hB.2.2 _ (by omega))) (by omega)) ⟨hU, t1_216, t3_20, t1_2, by decide +kernel, by decide, by decide⟩ t1_214 t1_215 (kb_V (Nat.lt_succ_of_lt (hB.2.2 _ (by omega)))) (xg_row (Nat.lt_succ_of_lt (hB.2.2 _ (by omega)))) rfl rfl rfl hl.1 rfl (Nat.le_of_ble_eq_true rfl) d_B_unblockCue_65 ⟨Nat.le_of_ble_eq_true rfl, Nat.le_of_ble_eq_true rfl⟩ (fun u H locs hp hP hS => ?_)
          obtain rfl := hp
          refine lv_iinc (v := nI (i + 1)) (lv' := [(4, .int (nI (i + 1))), (3, .int (oI (blwO v π n (v 10 (π q) 0) (v 11 (π q) 0)))), (2, .ref (ad (7 + 2 * π q))), (0, .ref (ad 4)), (1, .int (nI q))]) S.1 S.2.1 d_B_unblockCue_68 hl (k := 0) rfl (nI_1 i) (by decide) rfl (fun ls hl => ?_)
          refine lv_goto (tgt := 36) S.1 S.2.1 d_B_unblockCue_71 (by decide) ?_
          exact ih _ _ ls (by rw [ubs, if_pos c_e]; exact hP) hS (lv_sub hl [0, 1, 2, 3, 4] rfl)
  exact L 0 (Nat.zero_le _) _ _ ls hP hS (lv_sub hl [0, 1, 2, 3, 4] rfl)
end
section
/-! blockCue -/
set_option maxRecDepth 100000 in
set_option maxHeartbeats 4000000 in
theorem c_B_blockCue {l : Launch} {D : va_G} {ca : Nat → ClassId} {ad : Nat → Nat} (hJ : uJ 165 ad) (v : Nat → Nat → Nat → Int32) (π : Nat → Nat) (M : Nat) (hM : M = 64) (n : Nat) (hB : xBk v π n) (q : Nat) (hq : q < n) : uMi l y_B_blockCue b_B_blockCue 6 (some .int) 3 68 D clsAll (tysAll ca) 165 ad (xG ca ad) (v, π) [.ref (ad 4), .int (nI q)] (fun r u => if mvs v π n + bkc v π q M ≤ 600 then u = (bks v π q M, π) ∧ r = bks v π q M 16 (π q) 0 else u = (v, π) ∧ r = -1) := by
  refine uStart (by decide) (Nat.le_of_ble_eq_true rfl) ?_
  intro p e s m below meth c ls S hr hlk hK hN hP hl
  have hU : ∀ w ∈ uWS, w ∈ (Cond.code y_B_blockCue b_B_blockCue 6 (some .int) :: uWS) := fun w h => List.mem_cons_of_mem _ h
  have hS : va_S (uA 165 ad s.heap.size) s.heap s.heap [] := va_S.rf
  have hl : lv_has ls 6 [(0, .ref (ad 4)), (1, .int (nI q))] := hl
  have hn40 : n ≤ 40 := hB.2.1
  refine lv_aload_n S.1 S.2.1 d_B_blockCue_0 rfl (lv_at hl 0 rfl) ?_
  refine ur_get (k := 4) (v := .ref (ad 5)) S hK hP (by decide) xg_book rfl (fun w h => hU w (in_B w h)) 0 (by decide) (hU _ t1_106) rfl d_B_blockCue_1 ?_
  refine lv_iload_n S.1 S.2.1 d_B_blockCue_4 rfl (lv_at hl 1 rfl) ?_
  refine ur_aald (k := 5) (q := ad (89 + π q)) (j := q) S hK hP (by decide) 2 xg_cues rfl rfl (by omega) (by decide) rfl d_B_blockCue_5 ?_
  refine ur_getN (k := (89 + (π q))) (v := .ref (ad (7 + 2 * (π q)))) S hK hP (kb_C (hB.2.2 _ (by omega))) (xg_cue (hB.2.2 _ (by omega))) rfl (fun w h => hU w (in_C w h)) 0 (by decide) (hN _ t1_74) rfl d_B_blockCue_6 ?_
  refine lv_astore_n (lv' := [(2, .ref (ad (7 + 2 * (π q)))), (0, .ref (ad 4)), (1, .int (nI q))]) S.1 S.2.1 d_B_blockCue_9 rfl hl (by decide) rfl (fun ls hl => ?_)
  refine lv_iconst (v := 0) S.1 S.2.1 d_B_blockCue_10 (by decide) ?_
  refine lv_istore_n (lv' := [(3, .int 0), (2, .ref (ad (7 + 2 * (π q)))), (0, .ref (ad 4)), (1, .int (nI q))]) S.1 S.2.1 d_B_blockCue_11 rfl hl (by decide) rfl (fun ls hl => ?_)
  refine lv_iconst (v := 0) S.1 S.2.1 d_B_blockCue_12 (by decide) ?_
  refine lv_istore (lv' := [(4, .int 0), (3, .int 0), (2, .ref (ad (7 + 2 * (π q)))), (0, .ref (ad 4)), (1, .int (nI q))]) S.1 S.2.1 d_B_blockCue_13 hl (by decide) rfl (fun ls hl => ?_)
  have L : ∀ i, i ≤ M → ∀ (H : Heap) (locs : List Loc) (ls : Array Slot), va_P D clsAll (uw 165 ad (xG ca ad (v, π))) H → va_S (uA 165 ad s.heap.size) s.heap H locs → lv_has ls 6 [(4, .int (nI i)), (3, .int (bkc v π q i)), (2, .ref (ad (7 + 2 * π q))), (0, .ref (ad 4)), (1, .int (nI q))] → uGi 3 68 D clsAll 165 ad (xG ca ad) (fun r u => if mvs v π n + bkc v π q M ≤ 600 then u = (bks v π q M, π) ∧ r = bks v π q M 16 (π q) 0 else u = (v, π) ∧ r = -1) [.ref (ad 4), .int (nI q)] p l e s m below meth c H locs 15 ls [] := by
    refine upTo M ?_ ?_
    · intro H locs ls hP hS hl
      refine lv_iload S.1 S.2.1 d_B_blockCue_15 (lv_at hl 0 rfl) ?_
      refine lv_bipush (v := 64) S.1 S.2.1 d_B_blockCue_17 (by decide) ?_
      refine lv_icmp_ge (tgt := 51) S.1 S.2.1 d_B_blockCue_19 (by decide) (fun c_h1 => ?_) (fun c_h1 => ?_)
      · refine lv_aload_n S.1 S.2.1 d_B_blockCue_51 rfl (lv_at hl 3 rfl) ?_
        refine uVi (n := 0) (b := 4) (As := []) (rest := []) S hK hN hP hS (c_B_moveCount hJ v π n hB) ⟨hU, t2_37, t2_136, t1_5, by decide +kernel, by decide, by decide⟩ t2_35 t2_36 (by decide) xg_book rfl rfl rfl hl.1 rfl (Nat.le_of_ble_eq_true rfl) d_B_blockCue_52 ⟨Nat.le_of_ble_eq_true rfl, Nat.le_of_ble_eq_true rfl⟩ (fun r u H locs hp hP hS => ?_)
        obtain ⟨rfl, rfl⟩ := hp
        refine lv_iload_n S.1 S.2.1 d_B_blockCue_55 rfl (lv_at hl 1 rfl) ?_
        refine lv_iadd S.1 S.2.1 d_B_blockCue_56 ?_
        refine lv_sipush (v := 600) S.1 S.2.1 d_B_blockCue_57 (by decide) ?_
        refine lv_icmp_le (tgt := 65) S.1 S.2.1 d_B_blockCue_60 (by decide) (fun c_m => ?_) (fun c_m => ?_)
        · refine lv_iconst (v := 0) S.1 S.2.1 d_B_blockCue_65 (by decide) ?_
          refine lv_istore (lv' := [(4, .int 0), (3, .int (bkc v π q M)), (2, .ref (ad (7 + 2 * π q))), (0, .ref (ad 4)), (1, .int (nI q))]) S.1 S.2.1 d_B_blockCue_66 hl (by decide) rfl (fun ls hl => ?_)
          have L2 : ∀ i, i ≤ M → ∀ (H : Heap) (locs : List Loc) (ls : Array Slot), va_P D clsAll (uw 165 ad (xG ca ad ((bks v π q i), π))) H → va_S (uA 165 ad s.heap.size) s.heap H locs → lv_has ls 6 [(4, .int (nI i)), (2, .ref (ad (7 + 2 * π q))), (0, .ref (ad 4)), (1, .int (nI q))] → uGi 3 68 D clsAll 165 ad (xG ca ad) (fun r u => if mvs v π n + bkc v π q M ≤ 600 then u = (bks v π q M, π) ∧ r = bks v π q M 16 (π q) 0 else u = (v, π) ∧ r = -1) [.ref (ad 4), .int (nI q)] p l e s m below meth c H locs 68 ls [] := by
            refine upTo M ?_ ?_
            · intro H locs ls hP hS hl
              refine lv_iload S.1 S.2.1 d_B_blockCue_68 (lv_at hl 0 rfl) ?_
              refine lv_bipush (v := 64) S.1 S.2.1 d_B_blockCue_70 (by decide) ?_
              refine lv_icmp_ge (tgt := 104) S.1 S.2.1 d_B_blockCue_72 (by decide) (fun c_h2 => ?_) (fun c_h2 => ?_)
              · refine lv_aload_n S.1 S.2.1 d_B_blockCue_104 rfl (lv_at hl 1 rfl) ?_
                refine ur_getN (k := (7 + 2 * (π q))) (v := .int ((bks v π q M) 16 (π q) 0)) S hK hP (kb_V (Nat.lt_succ_of_lt (hB.2.2 _ (by omega)))) (xg_row (Nat.lt_succ_of_lt (hB.2.2 _ (by omega)))) rfl (fun w h => hU w (in_V w h)) 1 (by decide) (hN _ t1_37) rfl d_B_blockCue_105 ?_
                exact uIret S hr hlk ((bks v π q M), π) hP hS (by rw [if_pos c_m]; exact ⟨rfl, rfl⟩) d_B_blockCue_108
              · exact absurd (by subst hM; exact nI_le (Nat.le_refl 64) (by decide)) c_h2
            · intro i hi ih H locs ls hP hS hl
              have hB := bks_bk (q := q) hB i
              refine lv_iload S.1 S.2.1 d_B_blockCue_68 (lv_at hl 0 rfl) ?_
              refine lv_bipush (v := 64) S.1 S.2.1 d_B_blockCue_70 (by decide) ?_
              refine lv_icmp_ge (tgt := 104) S.1 S.2.1 d_B_blockCue_72 (by decide) (fun c_h2 => ?_) (fun c_h2 => ?_)
              · exact absurd c_h2 (nI_ge (b := 64) (by omega) (by decide))
              · refine lv_aload_n S.1 S.2.1 d_B_blockCue_75 rfl (lv_at hl 2 rfl) ?_
                refine lv_iload_n S.1 S.2.1 d_B_blockCue_76 rfl (lv_at hl 3 rfl) ?_
                refine lv_iload S.1 S.2.1 d_B_blockCue_77 (lv_at hl 0 rfl) ?_
                refine uVi (n := 2) (b := 4) (As := [.int (nI q), .int (nI i)]) (rest := []) S hK hN hP hS (c_B_trackedAt hJ (bks v π q i) π n hB (some q) (fun p h => by cases h; omega) i (by omega)) ⟨hU, t2_154, t2_151, t1_5, by decide +kernel, by decide, by decide⟩ t2_152 t2_153 (by decide) xg_book rfl rfl rfl hl.1 rfl (Nat.le_of_ble_eq_true rfl) d_B_blockCue_79 ⟨Nat.le_of_ble_eq_true rfl, Nat.le_of_ble_eq_true rfl⟩ (fun r u H locs hp hP hS => ?_)
                obtain ⟨rfl, rfl⟩ := hp
                refine lv_istore (lv' := [(5, .int (trk (bks v π q i) π i (some q))), (4, .int (nI i)), (2, .ref (ad (7 + 2 * π q))), (0, .ref (ad 4)), (1, .int (nI q))]) S.1 S.2.1 d_B_blockCue_82 hl (by decide) rfl (fun ls hl => ?_)
                refine lv_iload S.1 S.2.1 d_B_blockCue_84 (lv_at hl 0 rfl) ?_
                refine lv_iconst (v := (-1)) S.1 S.2.1 d_B_blockCue_86 (by decide) ?_
                refine lv_icmp_eq (tgt := 98) S.1 S.2.1 d_B_blockCue_87 (by decide) (fun c_t => ?_) (fun c_t => ?_)
                · refine lv_iinc (v := nI (i + 1)) (lv' := [(4, .int (nI (i + 1))), (5, .int (trk (bks v π q i) π i (some q))), (2, .ref (ad (7 + 2 * π q))), (0, .ref (ad 4)), (1, .int (nI q))]) S.1 S.2.1 d_B_blockCue_98 hl (k := 1) rfl (nI_1 i) (by decide) rfl (fun ls hl => ?_)
                  refine lv_goto (tgt := 68) S.1 S.2.1 d_B_blockCue_101 (by decide) ?_
                  exact ih _ _ ls (by rw [bks, if_pos c_t]; exact hP) hS (lv_sub hl [0, 2, 3, 4] rfl)
                · refine lv_aload_n S.1 S.2.1 d_B_blockCue_90 rfl (lv_at hl 2 rfl) ?_
                  refine lv_iload S.1 S.2.1 d_B_blockCue_91 (lv_at hl 1 rfl) ?_
                  refine lv_iload S.1 S.2.1 d_B_blockCue_93 (lv_at hl 0 rfl) ?_
                  refine uVv (n := 2) (b := (7 + 2 * (π q))) (As := [.int (nI i), .int (trk (bks v π q i) π i (some q))]) (rest := []) S hK hN hP hS (c_V_put hJ (bks v π q i) π (π q) i (Nat.lt_succ_of_lt (hB.2.2 _ (by omega))) (by omega) (trk (bks v π q i) π i (some q))) ⟨hU, t1_197, t2_166, t1_2, by decide +kernel, by decide, by decide⟩ t1_195 t1_196 (kb_V (Nat.lt_succ_of_lt (hB.2.2 _ (by omega)))) (xg_row (Nat.lt_succ_of_lt (hB.2.2 _ (by omega)))) rfl rfl rfl hl.1 rfl (Nat.le_of_ble_eq_true rfl) d_B_blockCue_95 ⟨Nat.le_of_ble_eq_true rfl, Nat.le_of_ble_eq_true rfl⟩ (fun u H locs hp hP hS => ?_)
                  obtain rfl := hp
                  refine lv_iinc (v := nI (i + 1)) (lv' := [(4, .int (nI (i + 1))), (5, .int (trk (bks v π q i) π i (some q))), (2, .ref (ad (7 + 2 * π q))), (0, .ref (ad 4)), (1, .int (nI q))]) S.1 S.2.1 d_B_blockCue_98 hl (k := 1) rfl (nI_1 i) (by decide) rfl (fun ls hl => ?_)
                  refine lv_goto (tgt := 68) S.1 S.2.1 d_B_blockCue_101 (by decide) ?_
                  exact ih _ _ ls (by rw [bks, if_neg c_t]; exact hP) hS (lv_sub hl [0, 2, 3, 4] rfl)
          exact L2 0 (Nat.zero_le _) _ _ ls hP hS (lv_sub hl [0, 2, 3, 4] rfl)
        · refine lv_iconst (v := (-1)) S.1 S.2.1 d_B_blockCue_63 (by decide) ?_
          exact uIret S hr hlk (v, π) hP hS (by rw [if_neg c_m]; exact ⟨rfl, rfl⟩) d_B_blockCue_64
      · exact absurd (by subst hM; exact nI_le (Nat.le_refl 64) (by decide)) c_h1
    · intro i hi ih H locs ls hP hS hl
      refine lv_iload S.1 S.2.1 d_B_blockCue_15 (lv_at hl 0 rfl) ?_
      refine lv_bipush (v := 64) S.1 S.2.1 d_B_blockCue_17 (by decide) ?_
      refine lv_icmp_ge (tgt := 51) S.1 S.2.1 d_B_blockCue_19 (by decide) (fun c_h1 => ?_) (fun c_h1 => ?_)
      · exact absurd c_h1 (nI_ge (b := 64) (by omega) (by decide))
      · refine lv_aload_n S.1 S.2.1 d_B_blockCue_22 rfl (lv_at hl 2 rfl) ?_
        refine lv_iload S.1 S.2.1 d_B_blockCue_23 (lv_at hl 0 rfl) ?_
        refine uVi (n := 1) (b := (7 + 2 * (π q))) (As := [.int (nI i)]) (rest := []) S hK hN hP hS (c_V_has hJ v π (π q) i (Nat.lt_succ_of_lt (hB.2.2 _ (by omega))) (by omega)) ⟨hU, t2_135, t2_150, t1_2, by decide +kernel, by decide, by decide⟩ t2_133 t2_134 (kb_V (Nat.lt_succ_of_lt (hB.2.2 _ (by omega)))) (xg_row (Nat.lt_succ_of_lt (hB.2.2 _ (by omega)))) rfl rfl rfl hl.1 rfl (Nat.le_of_ble_eq_true rfl) d_B_blockCue_25 ⟨Nat.le_of_ble_eq_true rfl, Nat.le_of_ble_eq_true rfl⟩ (fun r u H locs hp hP hS => ?_)
        obtain ⟨rfl, rfl⟩ := hp
        refine lv_if_ne (tgt := 45) S.1 S.2.1 d_B_blockCue_28 (by decide) (fun c_a => ?_) (fun c_a => ?_)
        · have c_a := pI_yes c_a
          refine lv_iinc (v := nI (i + 1)) (lv' := [(4, .int (nI (i + 1))), (3, .int (bkc v π q i)), (2, .ref (ad (7 + 2 * π q))), (0, .ref (ad 4)), (1, .int (nI q))]) S.1 S.2.1 d_B_blockCue_45 hl (k := 0) rfl (nI_1 i) (by decide) rfl (fun ls hl => ?_)
          refine lv_goto (tgt := 15) S.1 S.2.1 d_B_blockCue_48 (by decide) ?_
          rw [show bkc v π q i = bkc v π q (i + 1) from by rw [bkc, if_neg (fun z => c_a z.1)]] at hl
          exact ih _ _ ls hP hS (lv_sub hl [0, 1, 2, 3, 4] rfl)
        · have c_a := pI_no c_a
          refine lv_aload_n S.1 S.2.1 d_B_blockCue_31 rfl (lv_at hl 3 rfl) ?_
          refine lv_iload_n S.1 S.2.1 d_B_blockCue_32 rfl (lv_at hl 4 rfl) ?_
          refine lv_iload S.1 S.2.1 d_B_blockCue_33 (lv_at hl 0 rfl) ?_
          refine uVi (n := 2) (b := 4) (As := [.int (nI q), .int (nI i)]) (rest := []) S hK hN hP hS (c_B_sourceOf hJ v π n hB (some q) (fun p h => by cases h; omega) i (by omega)) ⟨hU, t2_158, t2_155, t1_5, by decide +kernel, by decide, by decide⟩ t2_156 t2_157 (by decide) xg_book rfl rfl rfl hl.1 rfl (Nat.le_of_ble_eq_true rfl) d_B_blockCue_35 ⟨Nat.le_of_ble_eq_true rfl, Nat.le_of_ble_eq_true rfl⟩ (fun r u H locs hp hP hS => ?_)
          obtain ⟨rfl, rfl⟩ := hp
          rcases hX_1 : srcO v π i (some q) with _ | p_2
          · refine lv_iconst (v := (-1)) S.1 S.2.1 d_B_blockCue_38 (by decide) ?_
            refine lv_icmp_eq (tgt := 45) S.1 S.2.1 d_B_blockCue_39 (by decide) (fun c_3 => ?_) (fun c_3 => ?_)
            · refine lv_iinc (v := nI (i + 1)) (lv' := [(4, .int (nI (i + 1))), (3, .int (bkc v π q i)), (2, .ref (ad (7 + 2 * π q))), (0, .ref (ad 4)), (1, .int (nI q))]) S.1 S.2.1 d_B_blockCue_45 hl (k := 0) rfl (nI_1 i) (by decide) rfl (fun ls hl => ?_)
              refine lv_goto (tgt := 15) S.1 S.2.1 d_B_blockCue_48 (by decide) ?_
              rw [show bkc v π q i = bkc v π q (i + 1) from by rw [bkc, if_neg (fun z => z.2 hX_1)]] at hl
              exact ih _ _ ls hP hS (lv_sub hl [0, 1, 2, 3, 4] rfl)
            · exact absurd rfl c_3
          · have hp_2 : p_2 < n := srcO_lt (fun p h => by cases h; omega) _ hX_1
            refine lv_iconst (v := (-1)) S.1 S.2.1 d_B_blockCue_38 (by decide) ?_
            refine lv_icmp_eq (tgt := 45) S.1 S.2.1 d_B_blockCue_39 (by decide) (fun c_4 => ?_) (fun c_4 => ?_)
            · exact absurd c_4 (nI_nm1 (by omega))
            · obtain ⟨x_5, ex_5⟩ : ∃ y : Int32, y = bkc v π q i + 1 := ⟨_, rfl⟩
              refine lv_iinc (v := x_5) (lv' := [(3, .int x_5), (4, .int (nI i)), (2, .ref (ad (7 + 2 * π q))), (0, .ref (ad 4)), (1, .int (nI q))]) S.1 S.2.1 d_B_blockCue_42 hl (k := 1) rfl (by rw [ex_5]; rfl) (by decide) rfl (fun ls hl => ?_)
              refine lv_iinc (v := nI (i + 1)) (lv' := [(4, .int (nI (i + 1))), (3, .int x_5), (2, .ref (ad (7 + 2 * π q))), (0, .ref (ad 4)), (1, .int (nI q))]) S.1 S.2.1 d_B_blockCue_45 hl (k := 1) rfl (nI_1 i) (by decide) rfl (fun ls hl => ?_)
              refine lv_goto (tgt := 15) S.1 S.2.1 d_B_blockCue_48 (by decide) ?_
              rw [ex_5, show bkc v π q i + 1 = bkc v π q (i + 1) from by rw [bkc, if_pos ⟨Decidable.not_not.mp c_a, by rw [hX_1]; exact (fun z => nomatch z)⟩]] at hl
              exact ih _ _ ls hP hS (lv_sub hl [0, 1, 2, 3, 4] rfl)
  exact L 0 (Nat.zero_le _) _ _ ls hP hS (lv_sub hl [0, 1, 2, 3, 4] rfl)
end
section
/-! Words for record, update, delete -/
theorem vBegin_4 {v : Nat → Nat → Nat → Int32} {j : Nat} {a b : Int32} {i : Nat} : vBegin v j a b 4 0 i = v 4 0 i := by
  simp [vBegin, vDropAll, vRow, up3]
theorem xBk_ins {v : Nat → Nat → Nat → Int32} {π : Nat → Nat} {n q : Nat} {a b : Int32} (h : xBk v π n) (hn : n < 40) (hq : q ≤ n) : xBk (vIns v π n a b) (pIns π n q) (n + 1) := by
  refine ⟨?_, hn, ?_⟩
  · unfold vIns; rw [vBegin_4, up3_s]
  · exact up_lt (isp_lt hn h.2.2 _) (h.2.2 _ (by omega))
def kl (v : Nat → Nat → Nat → Int32) (π : Nat → Nat) (M : Nat) : Option Nat → Int32
  | none => 0
  | some p => lacks v (π p) 40 M
def kps (v : Nat → Nat → Nat → Int32) (π : Nat → Nat) (k M : Nat) : Option Nat → Nat → Nat → Nat → Int32
  | none => v
  | some p => kp v π p k M
/-- the cue that keeps, if it is so wished -/
def kpr (v : Nat → Nat → Nat → Int32) (π : Nat → Nat) (n : Nat) (a b c : Int32) : Option Nat := if c = 0 then none else abvO v π n a b
/-- RECORD: r and u, of the cue a, b -/
def recPost (v : Nat → Nat → Nat → Int32) (π : Nat → Nat) (n : Nat) (a b c : Int32) (M : Nat) (r : Int32) (u : xS) : Prop :=
  match fndO v π n a b with
  | none => if n = 40 ∨ ¬ mvs v π n + (v 16 40 0 + kl v π M (kpr v π n a b c)) ≤ 600 then u = (v, π) ∧ r = -1
    else u = (pa (kps (vIns v π n a b) (pIns π n (pFor v π n a b)) 40 M ((kpr v π n a b c).map (· + 1))) (pIns π n (pFor v π n a b)) (pFor v π n a b) 40 M, pIns π n (pFor v π n a b)) ∧ r = u.1 16 (u.2 (pFor v π n a b)) 0
  | some _ => if ¬ mvs v π n + (lacks v (π (pFor v π n a b)) 40 M + kl v π M (kpr v π n a b c)) ≤ 600 then u = (v, π) ∧ r = -1
    else u = (pa (kps v π 40 M (kpr v π n a b c)) π (pFor v π n a b) 40 M, π) ∧ r = u.1 16 (u.2 (pFor v π n a b)) 0
theorem i32_add0 (x : Int32) : x + 0 = x := Int32.add_zero x
/-- DELETE of the cue at the place q -/
def delK (v : Nat → Nat → Nat → Int32) (π : Nat → Nat) (n q : Nat) (c : Int32) : Option Nat := if c = 0 then none else abvO v π n (v 10 (π q) 0) (v 11 (π q) 0)
theorem fndO_pf {v : Nat → Nat → Nat → Int32} {π : Nat → Nat} {n : Nat} {a b : Int32} {p : Nat} (h : fndO v π n a b = some p) : p = pFor v π n a b := by
  unfold fndO at h
  split at h
  · cases h; rfl
  · cases h
end
section
/-! The class: delete, record (printed by wip/gen/gen_x6.py) -/
set_option maxRecDepth 100000 in
set_option maxHeartbeats 4000000 in
theorem c_B_deleteCue {l : Launch} {D : va_G} {ca : Nat → ClassId} {ad : Nat → Nat} (hJ : uJ 165 ad) (v : Nat → Nat → Nat → Int32) (π : Nat → Nat) (M : Nat) (hM : M = 64) (n : Nat) (hB : xBk v π n) (q : Nat) (hq : q < n) (x2 : Int32) : uMi l y_B_deleteCue b_B_deleteCue 5 (some .int) 4 92 D clsAll (tysAll ca) 165 ad (xG ca ad) (v, π) [.ref (ad 4), .int (nI q), .int x2] (fun r u => u = (vOut (kps v π (π q) M (delK v π n q x2)) n, pOut π n q) ∧ r = kps v π (π q) M (delK v π n q x2) 16 (π q) 0) := by
  refine uStart (by decide) (Nat.le_of_ble_eq_true rfl) ?_
  intro p e s m below meth c ls S hr hlk hK hN hP hl
  have hU : ∀ w ∈ uWS, w ∈ (Cond.code y_B_deleteCue b_B_deleteCue 5 (some .int) :: uWS) := fun w h => List.mem_cons_of_mem _ h
  have hS : va_S (uA 165 ad s.heap.size) s.heap s.heap [] := va_S.rf
  have hl : lv_has ls 5 [(0, .ref (ad 4)), (1, .int (nI q)), (2, .int x2)] := hl
  have hn40 : n ≤ 40 := hB.2.1
  refine lv_aload_n S.1 S.2.1 d_B_deleteCue_0 rfl (lv_at hl 0 rfl) ?_
  refine ur_get (k := 4) (v := .ref (ad 5)) S hK hP (by decide) xg_book rfl (fun w h => hU w (in_B w h)) 0 (by decide) (hU _ t1_106) rfl d_B_deleteCue_1 ?_
  refine lv_iload_n S.1 S.2.1 d_B_deleteCue_4 rfl (lv_at hl 1 rfl) ?_
  refine ur_aald (k := 5) (q := ad (89 + π q)) (j := q) S hK hP (by decide) 2 xg_cues rfl rfl (by omega) (by decide) rfl d_B_deleteCue_5 ?_
  refine ur_getN (k := (89 + (π q))) (v := .ref (ad (7 + 2 * (π q)))) S hK hP (kb_C (hB.2.2 _ (by omega))) (xg_cue (hB.2.2 _ (by omega))) rfl (fun w h => hU w (in_C w h)) 0 (by decide) (hN _ t1_74) rfl d_B_deleteCue_6 ?_
  refine lv_astore_n (lv' := [(3, .ref (ad (7 + 2 * (π q)))), (0, .ref (ad 4)), (1, .int (nI q)), (2, .int x2)]) S.1 S.2.1 d_B_deleteCue_9 rfl hl (by decide) rfl (fun ls hl => ?_)
  refine lv_aload_n S.1 S.2.1 d_B_deleteCue_10 rfl (lv_at hl 1 rfl) ?_
  refine lv_aload_n S.1 S.2.1 d_B_deleteCue_11 rfl (lv_at hl 1 rfl) ?_
  refine ur_get (k := 4) (v := .ref (ad 5)) S hK hP (by decide) xg_book rfl (fun w h => hU w (in_B w h)) 0 (by decide) (hU _ t1_106) rfl d_B_deleteCue_12 ?_
  refine lv_iload_n S.1 S.2.1 d_B_deleteCue_15 rfl (lv_at hl 2 rfl) ?_
  refine ur_aald (k := 5) (q := ad (89 + π q)) (j := q) S hK hP (by decide) 2 xg_cues rfl rfl (by omega) (by decide) rfl d_B_deleteCue_16 ?_
  refine ur_getN (k := (89 + (π q))) (v := .int (v 10 (π q) 0)) S hK hP (kb_C (hB.2.2 _ (by omega))) (xg_cue (hB.2.2 _ (by omega))) rfl (fun w h => hU w (in_C w h)) 1 (by decide) (hN _ t1_76) rfl d_B_deleteCue_17 ?_
  refine lv_aload_n S.1 S.2.1 d_B_deleteCue_20 rfl (lv_at hl 1 rfl) ?_
  refine ur_get (k := 4) (v := .ref (ad 5)) S hK hP (by decide) xg_book rfl (fun w h => hU w (in_B w h)) 0 (by decide) (hU _ t1_106) rfl d_B_deleteCue_21 ?_
  refine lv_iload_n S.1 S.2.1 d_B_deleteCue_24 rfl (lv_at hl 2 rfl) ?_
  refine ur_aald (k := 5) (q := ad (89 + π q)) (j := q) S hK hP (by decide) 2 xg_cues rfl rfl (by omega) (by decide) rfl d_B_deleteCue_25 ?_
  refine ur_getN (k := (89 + (π q))) (v := .int (v 11 (π q) 0)) S hK hP (kb_C (hB.2.2 _ (by omega))) (xg_cue (hB.2.2 _ (by omega))) rfl (fun w h => hU w (in_C w h)) 2 (by decide) (hN _ t1_78) rfl d_B_deleteCue_26 ?_
  refine uVi (n := 2) (b := 4) (As := [.int (v 10 (π q) 0), .int (v 11 (π q) 0)]) (rest := []) S hK hN hP hS (c_B_placeAbove hJ v π n hB (v 10 (π q) 0) (v 11 (π q) 0)) ⟨hU, t2_127, t2_124, t1_5, by decide +kernel, by decide, by decide⟩ t2_125 t2_126 (by decide) xg_book rfl rfl rfl hl.1 rfl (Nat.le_of_ble_eq_true rfl) d_B_deleteCue_29 ⟨Nat.le_of_ble_eq_true rfl, Nat.le_of_ble_eq_true rfl⟩ (fun r u H locs hp hP hS => ?_)
  obtain ⟨rfl, rfl⟩ := hp
  rcases hX_1 : abvO v π n (v 10 (π q) 0) (v 11 (π q) 0) with _ | p_2
  · refine lv_istore (lv' := [(4, .int (-1)), (3, .ref (ad (7 + 2 * (π q)))), (0, .ref (ad 4)), (1, .int (nI q)), (2, .int x2)]) S.1 S.2.1 d_B_deleteCue_32 hl (by decide) rfl (fun ls hl => ?_)
    refine lv_iload_n S.1 S.2.1 d_B_deleteCue_34 rfl (lv_at hl 4 rfl) ?_
    refine lv_if_eq (tgt := 51) S.1 S.2.1 d_B_deleteCue_35 (by decide) (fun c_k => ?_) (fun c_k => ?_)
    · refine lv_aload_n S.1 S.2.1 d_B_deleteCue_51 rfl (lv_at hl 2 rfl) ?_
      refine lv_iload_n S.1 S.2.1 d_B_deleteCue_52 rfl (lv_at hl 3 rfl) ?_
      refine uVv (n := 1) (b := 4) (As := [.int (nI q)]) (rest := []) S hK hN hP hS (c_B_takeOut hJ v π n hB q (by omega)) ⟨hU, t3_0, t2_237, t1_5, by decide +kernel, by decide, by decide⟩ t2_239 tp_7 (by decide) xg_book rfl rfl rfl hl.1 rfl (Nat.le_of_ble_eq_true rfl) d_B_deleteCue_53 ⟨Nat.le_of_ble_eq_true rfl, Nat.le_of_ble_eq_true rfl⟩ (fun u H locs hp hP hS => ?_)
      obtain rfl := hp
      refine lv_aload_n S.1 S.2.1 d_B_deleteCue_56 rfl (lv_at hl 1 rfl) ?_
      refine ur_getN (k := (7 + 2 * (π q))) (v := .int ((vOut v n) 16 (π q) 0)) S hK hP (kb_V (Nat.lt_succ_of_lt (hB.2.2 _ (by omega)))) (xg_row (Nat.lt_succ_of_lt (hB.2.2 _ (by omega)))) rfl (fun w h => hU w (in_V w h)) 1 (by decide) (hN _ t1_37) rfl d_B_deleteCue_57 ?_
      have e9 : delK v π n q x2 = none := by unfold delK; first | rw [if_pos c_k] | rw [if_neg c_k, hX_1]
      exact uIret S hr hlk ((vOut v n), (pOut π n q)) hP hS (by rw [e9]; exact ⟨rfl, by simp [vOut, up3_f, kps]⟩) d_B_deleteCue_60
    · refine lv_iload S.1 S.2.1 d_B_deleteCue_38 (lv_at hl 0 rfl) ?_
      refine lv_iconst (v := (-1)) S.1 S.2.1 d_B_deleteCue_40 (by decide) ?_
      refine lv_icmp_eq (tgt := 51) S.1 S.2.1 d_B_deleteCue_41 (by decide) (fun c_3 => ?_) (fun c_3 => ?_)
      · refine lv_aload_n S.1 S.2.1 d_B_deleteCue_51 rfl (lv_at hl 2 rfl) ?_
        refine lv_iload_n S.1 S.2.1 d_B_deleteCue_52 rfl (lv_at hl 3 rfl) ?_
        refine uVv (n := 1) (b := 4) (As := [.int (nI q)]) (rest := []) S hK hN hP hS (c_B_takeOut hJ v π n hB q (by omega)) ⟨hU, t3_0, t2_237, t1_5, by decide +kernel, by decide, by decide⟩ t2_239 tp_7 (by decide) xg_book rfl rfl rfl hl.1 rfl (Nat.le_of_ble_eq_true rfl) d_B_deleteCue_53 ⟨Nat.le_of_ble_eq_true rfl, Nat.le_of_ble_eq_true rfl⟩ (fun u H locs hp hP hS => ?_)
        obtain rfl := hp
        refine lv_aload_n S.1 S.2.1 d_B_deleteCue_56 rfl (lv_at hl 1 rfl) ?_
        refine ur_getN (k := (7 + 2 * (π q))) (v := .int ((vOut v n) 16 (π q) 0)) S hK hP (kb_V (Nat.lt_succ_of_lt (hB.2.2 _ (by omega)))) (xg_row (Nat.lt_succ_of_lt (hB.2.2 _ (by omega)))) rfl (fun w h => hU w (in_V w h)) 1 (by decide) (hN _ t1_37) rfl d_B_deleteCue_57 ?_
        have e9 : delK v π n q x2 = none := by unfold delK; first | rw [if_pos c_k] | rw [if_neg c_k, hX_1]
        exact uIret S hr hlk ((vOut v n), (pOut π n q)) hP hS (by rw [e9]; exact ⟨rfl, by simp [vOut, up3_f, kps]⟩) d_B_deleteCue_60
      · exact absurd rfl c_3
  · have hp_2 : p_2 < n := abvO_lt _ hX_1
    refine lv_istore (lv' := [(4, .int (nI p_2)), (3, .ref (ad (7 + 2 * (π q)))), (0, .ref (ad 4)), (1, .int (nI q)), (2, .int x2)]) S.1 S.2.1 d_B_deleteCue_32 hl (by decide) rfl (fun ls hl => ?_)
    refine lv_iload_n S.1 S.2.1 d_B_deleteCue_34 rfl (lv_at hl 4 rfl) ?_
    refine lv_if_eq (tgt := 51) S.1 S.2.1 d_B_deleteCue_35 (by decide) (fun c_k => ?_) (fun c_k => ?_)
    · refine lv_aload_n S.1 S.2.1 d_B_deleteCue_51 rfl (lv_at hl 2 rfl) ?_
      refine lv_iload_n S.1 S.2.1 d_B_deleteCue_52 rfl (lv_at hl 3 rfl) ?_
      refine uVv (n := 1) (b := 4) (As := [.int (nI q)]) (rest := []) S hK hN hP hS (c_B_takeOut hJ v π n hB q (by omega)) ⟨hU, t3_0, t2_237, t1_5, by decide +kernel, by decide, by decide⟩ t2_239 tp_7 (by decide) xg_book rfl rfl rfl hl.1 rfl (Nat.le_of_ble_eq_true rfl) d_B_deleteCue_53 ⟨Nat.le_of_ble_eq_true rfl, Nat.le_of_ble_eq_true rfl⟩ (fun u H locs hp hP hS => ?_)
      obtain rfl := hp
      refine lv_aload_n S.1 S.2.1 d_B_deleteCue_56 rfl (lv_at hl 1 rfl) ?_
      refine ur_getN (k := (7 + 2 * (π q))) (v := .int ((vOut v n) 16 (π q) 0)) S hK hP (kb_V (Nat.lt_succ_of_lt (hB.2.2 _ (by omega)))) (xg_row (Nat.lt_succ_of_lt (hB.2.2 _ (by omega)))) rfl (fun w h => hU w (in_V w h)) 1 (by decide) (hN _ t1_37) rfl d_B_deleteCue_57 ?_
      have e9 : delK v π n q x2 = none := by unfold delK; first | rw [if_pos c_k] | rw [if_neg c_k, hX_1]
      exact uIret S hr hlk ((vOut v n), (pOut π n q)) hP hS (by rw [e9]; exact ⟨rfl, by simp [vOut, up3_f, kps]⟩) d_B_deleteCue_60
    · refine lv_iload S.1 S.2.1 d_B_deleteCue_38 (lv_at hl 0 rfl) ?_
      refine lv_iconst (v := (-1)) S.1 S.2.1 d_B_deleteCue_40 (by decide) ?_
      refine lv_icmp_eq (tgt := 51) S.1 S.2.1 d_B_deleteCue_41 (by decide) (fun c_4 => ?_) (fun c_4 => ?_)
      · exact absurd c_4 (nI_nm1 (by omega))
      · refine lv_aload_n S.1 S.2.1 d_B_deleteCue_44 rfl (lv_at hl 2 rfl) ?_
        refine lv_iload S.1 S.2.1 d_B_deleteCue_45 (lv_at hl 0 rfl) ?_
        refine lv_aload_n S.1 S.2.1 d_B_deleteCue_47 rfl (lv_at hl 1 rfl) ?_
        refine uVv (n := 2) (b := 4) (As := [.int (nI p_2), .ref (ad (7 + 2 * (π q)))]) (rest := []) S hK hN hP hS (c_B_keepChannels hJ v π M hM n hB p_2 (π q) (by omega) (Nat.lt_succ_of_lt (hB.2.2 _ (by omega)))) ⟨hU, t2_149, t2_146, t1_5, by decide +kernel, by decide, by decide⟩ t2_148 tp_4 (by decide) xg_book rfl rfl rfl hl.1 rfl (Nat.le_of_ble_eq_true rfl) d_B_deleteCue_48 ⟨Nat.le_of_ble_eq_true rfl, Nat.le_of_ble_eq_true rfl⟩ (fun u H locs hp hP hS => ?_)
        obtain rfl := hp
        have hBw_5 := kp_bk (q := p_2) (k := (π q)) hB M
        obtain ⟨w_5, hw_5⟩ : ∃ z, z = kp v π p_2 (π q) M := ⟨_, rfl⟩
        rw [← hw_5] at hP hBw_5
        refine lv_aload_n S.1 S.2.1 d_B_deleteCue_51 rfl (lv_at hl 2 rfl) ?_
        refine lv_iload_n S.1 S.2.1 d_B_deleteCue_52 rfl (lv_at hl 3 rfl) ?_
        refine uVv (n := 1) (b := 4) (As := [.int (nI q)]) (rest := []) S hK hN hP hS (c_B_takeOut hJ w_5 π n hBw_5 q (by omega)) ⟨hU, t3_0, t2_237, t1_5, by decide +kernel, by decide, by decide⟩ t2_239 tp_7 (by decide) xg_book rfl rfl rfl hl.1 rfl (Nat.le_of_ble_eq_true rfl) d_B_deleteCue_53 ⟨Nat.le_of_ble_eq_true rfl, Nat.le_of_ble_eq_true rfl⟩ (fun u H locs hp hP hS => ?_)
        obtain rfl := hp
        refine lv_aload_n S.1 S.2.1 d_B_deleteCue_56 rfl (lv_at hl 1 rfl) ?_
        refine ur_getN (k := (7 + 2 * (π q))) (v := .int ((vOut w_5 n) 16 (π q) 0)) S hK hP (kb_V (Nat.lt_succ_of_lt (hB.2.2 _ (by omega)))) (xg_row (Nat.lt_succ_of_lt (hB.2.2 _ (by omega)))) rfl (fun w h => hU w (in_V w h)) 1 (by decide) (hN _ t1_37) rfl d_B_deleteCue_57 ?_
        have e9 : delK v π n q x2 = (some p_2) := by unfold delK; first | rw [if_pos c_k] | rw [if_neg c_k, hX_1]
        exact uIret S hr hlk ((vOut w_5 n), (pOut π n q)) hP hS (by subst hw_5; rw [e9]; exact ⟨rfl, by simp [vOut, up3_f, kps]⟩) d_B_deleteCue_60

set_option maxRecDepth 100000 in
set_option maxHeartbeats 4000000 in
theorem c_B_recordCue {l : Launch} {D : va_G} {ca : Nat → ClassId} {ad : Nat → Nat} (hJ : uJ 165 ad) (v : Nat → Nat → Nat → Int32) (π : Nat → Nat) (M : Nat) (hM : M = 64) (n : Nat) (hB : xBk v π n) (a b x4 : Int32) : uMi l y_B_recordCue b_B_recordCue 9 (some .int) 4 92 D clsAll (tysAll ca) 165 ad (xG ca ad) (v, π) [.ref (ad 4), .ref (ad 87), .int a, .int b, .int x4] (fun r u => recPost v π n a b x4 M r u) := by
  refine uStart (by decide) (Nat.le_of_ble_eq_true rfl) ?_
  intro p e s m below meth c ls S hr hlk hK hN hP hl
  have hU : ∀ w ∈ uWS, w ∈ (Cond.code y_B_recordCue b_B_recordCue 9 (some .int) :: uWS) := fun w h => List.mem_cons_of_mem _ h
  have hS : va_S (uA 165 ad s.heap.size) s.heap s.heap [] := va_S.rf
  have hl : lv_has ls 9 [(0, .ref (ad 4)), (1, .ref (ad 87)), (2, .int a), (3, .int b), (4, .int x4)] := hl
  have hn40 : n ≤ 40 := hB.2.1
  have hpf := pFor_le v π n a b
  refine lv_aload_n S.1 S.2.1 d_B_recordCue_0 rfl (lv_at hl 0 rfl) ?_
  refine lv_iload_n S.1 S.2.1 d_B_recordCue_1 rfl (lv_at hl 2 rfl) ?_
  refine lv_iload_n S.1 S.2.1 d_B_recordCue_2 rfl (lv_at hl 3 rfl) ?_
  refine uVi (n := 2) (b := 4) (As := [.int a, .int b]) (rest := []) S hK hN hP hS (c_B_placeFor hJ v π n hB a b) ⟨hU, t1_236, t1_233, t1_5, by decide +kernel, by decide, by decide⟩ t1_235 tp_0 (by decide) xg_book rfl rfl rfl hl.1 rfl (Nat.le_of_ble_eq_true rfl) d_B_recordCue_3 ⟨Nat.le_of_ble_eq_true rfl, Nat.le_of_ble_eq_true rfl⟩ (fun r u H locs hp hP hS => ?_)
  obtain ⟨rfl, rfl⟩ := hp
  refine lv_istore (lv' := [(5, .int (nI (pFor v π n a b))), (0, .ref (ad 4)), (1, .ref (ad 87)), (2, .int a), (3, .int b), (4, .int x4)]) S.1 S.2.1 d_B_recordCue_6 hl (by decide) rfl (fun ls hl => ?_)
  refine lv_aload_n S.1 S.2.1 d_B_recordCue_8 rfl (lv_at hl 1 rfl) ?_
  refine lv_iload_n S.1 S.2.1 d_B_recordCue_9 rfl (lv_at hl 3 rfl) ?_
  refine lv_iload_n S.1 S.2.1 d_B_recordCue_10 rfl (lv_at hl 4 rfl) ?_
  refine uVi (n := 2) (b := 4) (As := [.int a, .int b]) (rest := []) S hK hN hP hS (c_B_find hJ v π n hB a b) ⟨hU, t1_232, t2_123, t1_5, by decide +kernel, by decide, by decide⟩ t1_230 t1_231 (by decide) xg_book rfl rfl rfl hl.1 rfl (Nat.le_of_ble_eq_true rfl) d_B_recordCue_11 ⟨Nat.le_of_ble_eq_true rfl, Nat.le_of_ble_eq_true rfl⟩ (fun r u H locs hp hP hS => ?_)
  obtain ⟨rfl, rfl⟩ := hp
  rcases hX_1 : fndO v π n a b with _ | p_2
  · refine lv_iconst (v := (-1)) S.1 S.2.1 d_B_recordCue_14 (by decide) ?_
    refine lv_icmp_ne (tgt := 22) S.1 S.2.1 d_B_recordCue_15 (by decide) (fun c_3 => ?_) (fun c_3 => ?_)
    · exact absurd rfl c_3
    · refine lv_iconst (v := 1) S.1 S.2.1 d_B_recordCue_18 (by decide) ?_
      refine lv_goto (tgt := 23) S.1 S.2.1 d_B_recordCue_19 (by decide) ?_
      refine lv_istore (lv' := [(6, .int 1), (5, .int (nI (pFor v π n a b))), (0, .ref (ad 4)), (1, .ref (ad 87)), (2, .int a), (3, .int b), (4, .int x4)]) S.1 S.2.1 d_B_recordCue_23 hl (by decide) rfl (fun ls hl => ?_)
      refine lv_iload S.1 S.2.1 d_B_recordCue_25 (lv_at hl 0 rfl) ?_
      refine lv_if_eq (tgt := 41) S.1 S.2.1 d_B_recordCue_27 (by decide) (fun c_4 => ?_) (fun c_4 => ?_)
      · exact absurd c_4 (by decide)
      · refine lv_aload_n S.1 S.2.1 d_B_recordCue_30 rfl (lv_at hl 2 rfl) ?_
        refine ur_get (k := 4) (v := .int (v 4 0 0)) S hK hP (by decide) xg_book rfl (fun w h => hU w (in_B w h)) 1 (by decide) (hU _ t1_107) rfl d_B_recordCue_31 ?_
        refine lv_bipush (v := 40) S.1 S.2.1 d_B_recordCue_34 (by decide) ?_
        refine lv_icmp_lt (tgt := 41) S.1 S.2.1 d_B_recordCue_36 (by decide) (fun c_s => ?_) (fun c_s => ?_)
        · have hn : n < 40 := Nat.not_le.mp (fun z => absurd c_s (by rw [hB.1]; exact nI_nlt z (by omega)))
          refine lv_iload S.1 S.2.1 d_B_recordCue_41 (lv_at hl 6 rfl) ?_
          refine lv_if_eq (tgt := 55) S.1 S.2.1 d_B_recordCue_43 (by decide) (fun c_k => ?_) (fun c_k => ?_)
          · refine lv_iconst (v := (-1)) S.1 S.2.1 d_B_recordCue_55 (by decide) ?_
            refine lv_istore (lv' := [(7, .int (-1)), (6, .int 1), (5, .int (nI (pFor v π n a b))), (0, .ref (ad 4)), (1, .ref (ad 87)), (2, .int a), (3, .int b), (4, .int x4)]) S.1 S.2.1 d_B_recordCue_56 hl (by decide) rfl (fun ls hl => ?_)
            refine lv_iload S.1 S.2.1 d_B_recordCue_58 (lv_at hl 1 rfl) ?_
            refine lv_if_eq (tgt := 70) S.1 S.2.1 d_B_recordCue_60 (by decide) (fun c_5 => ?_) (fun c_5 => ?_)
            · exact absurd c_5 (by decide)
            · refine lv_aload_n S.1 S.2.1 d_B_recordCue_63 rfl (lv_at hl 4 rfl) ?_
              refine ur_getN (k := (7 + 2 * 40)) (v := .int (v 16 40 0)) S hK hP (kb_V (by decide)) (xg_row (by decide)) rfl (fun w h => hU w (in_V w h)) 1 (by decide) (hN _ t1_37) rfl d_B_recordCue_64 ?_
              refine lv_goto (tgt := 84) S.1 S.2.1 d_B_recordCue_67 (by decide) ?_
              refine lv_topi (fun x_6 ex_6 => ?_)
              refine lv_istore (lv' := [(8, .int x_6), (7, .int (-1)), (6, .int 1), (5, .int (nI (pFor v π n a b))), (0, .ref (ad 4)), (1, .ref (ad 87)), (2, .int a), (3, .int b), (4, .int x4)]) S.1 S.2.1 d_B_recordCue_84 hl (by decide) rfl (fun ls hl => ?_)
              refine lv_iload S.1 S.2.1 d_B_recordCue_86 (lv_at hl 1 rfl) ?_
              refine lv_iconst (v := (-1)) S.1 S.2.1 d_B_recordCue_88 (by decide) ?_
              refine lv_icmp_eq (tgt := 111) S.1 S.2.1 d_B_recordCue_89 (by decide) (fun c_7 => ?_) (fun c_7 => ?_)
              · refine lv_aload_n S.1 S.2.1 d_B_recordCue_111 rfl (lv_at hl 4 rfl) ?_
                refine uVi (n := 0) (b := 4) (As := []) (rest := []) S hK hN hP hS (c_B_moveCount hJ v π n hB) ⟨hU, t2_37, t2_136, t1_5, by decide +kernel, by decide, by decide⟩ t2_35 t2_36 (by decide) xg_book rfl rfl rfl hl.1 rfl (Nat.le_of_ble_eq_true rfl) d_B_recordCue_112 ⟨Nat.le_of_ble_eq_true rfl, Nat.le_of_ble_eq_true rfl⟩ (fun r u H locs hp hP hS => ?_)
                obtain ⟨rfl, rfl⟩ := hp
                refine lv_iload S.1 S.2.1 d_B_recordCue_115 (lv_at hl 0 rfl) ?_
                refine lv_iadd S.1 S.2.1 d_B_recordCue_117 ?_
                refine lv_sipush (v := 600) S.1 S.2.1 d_B_recordCue_118 (by decide) ?_
                refine lv_icmp_le (tgt := 126) S.1 S.2.1 d_B_recordCue_121 (by decide) (fun c_m => ?_) (fun c_m => ?_)
                · refine lv_iload S.1 S.2.1 d_B_recordCue_126 (lv_at hl 2 rfl) ?_
                  refine lv_if_eq (tgt := 139) S.1 S.2.1 d_B_recordCue_128 (by decide) (fun c_8 => ?_) (fun c_8 => ?_)
                  · exact absurd c_8 (by decide)
                  · refine lv_aload_n S.1 S.2.1 d_B_recordCue_131 rfl (lv_at hl 4 rfl) ?_
                    refine lv_iload S.1 S.2.1 d_B_recordCue_132 (lv_at hl 3 rfl) ?_
                    refine lv_iload_n S.1 S.2.1 d_B_recordCue_134 rfl (lv_at hl 6 rfl) ?_
                    refine lv_iload_n S.1 S.2.1 d_B_recordCue_135 rfl (lv_at hl 7 rfl) ?_
                    refine uVv (n := 3) (b := 4) (As := [.int (nI (pFor v π n a b)), .int a, .int b]) (rest := []) S hK hN hP hS (c_B_insert hJ v π n hB (by omega) (pFor v π n a b) (pFor_le v π n a b) a b) ⟨hU, t2_140, t2_137, t1_5, by decide +kernel, by decide, by decide⟩ t2_139 tp_3 (by decide) xg_book rfl rfl rfl hl.1 rfl (Nat.le_of_ble_eq_true rfl) d_B_recordCue_136 ⟨Nat.le_of_ble_eq_true rfl, Nat.le_of_ble_eq_true rfl⟩ (fun u H locs hp hP hS => ?_)
                    obtain rfl := hp
                    have hB1 := xBk_ins (a := a) (b := b) hB (by omega) (pFor_le v π n a b)
                    refine lv_iload S.1 S.2.1 d_B_recordCue_139 (lv_at hl 1 rfl) ?_
                    refine lv_iconst (v := (-1)) S.1 S.2.1 d_B_recordCue_141 (by decide) ?_
                    refine lv_icmp_eq (tgt := 164) S.1 S.2.1 d_B_recordCue_142 (by decide) (fun c_9 => ?_) (fun c_9 => ?_)
                    · refine lv_aload_n S.1 S.2.1 d_B_recordCue_164 rfl (lv_at hl 4 rfl) ?_
                      refine lv_iload S.1 S.2.1 d_B_recordCue_165 (lv_at hl 3 rfl) ?_
                      refine lv_aload_n S.1 S.2.1 d_B_recordCue_167 rfl (lv_at hl 5 rfl) ?_
                      refine uVv (n := 2) (b := 4) (As := [.int (nI (pFor v π n a b)), .ref (ad 87)]) (rest := []) S hK hN hP hS (c_B_putAll hJ (vIns v π n a b) (pIns π n (pFor v π n a b)) M hM (n + 1) hB1 (pFor v π n a b) 40 (by omega) (by decide)) ⟨hU, t2_170, t2_167, t1_5, by decide +kernel, by decide, by decide⟩ t2_169 tp_5 (by decide) xg_book rfl rfl rfl hl.1 rfl (Nat.le_of_ble_eq_true rfl) d_B_recordCue_168 ⟨Nat.le_of_ble_eq_true rfl, Nat.le_of_ble_eq_true rfl⟩ (fun u H locs hp hP hS => ?_)
                      obtain rfl := hp
                      have hBw_10 := pa_bk (q := (pFor v π n a b)) (k := 40) hB1 M
                      obtain ⟨w_10, hw_10⟩ : ∃ z, z = pa (vIns v π n a b) (pIns π n (pFor v π n a b)) (pFor v π n a b) 40 M := ⟨_, rfl⟩
                      rw [← hw_10] at hP hBw_10
                      refine lv_aload_n S.1 S.2.1 d_B_recordCue_171 rfl (lv_at hl 4 rfl) ?_
                      refine ur_get (k := 4) (v := .ref (ad 5)) S hK hP (by decide) xg_book rfl (fun w h => hU w (in_B w h)) 0 (by decide) (hU _ t1_106) rfl d_B_recordCue_172 ?_
                      refine lv_iload S.1 S.2.1 d_B_recordCue_175 (lv_at hl 3 rfl) ?_
                      refine ur_aald (k := 5) (q := ad (89 + (pIns π n (pFor v π n a b)) (pFor v π n a b))) (j := (pFor v π n a b)) S hK hP (by decide) 2 xg_cues rfl rfl (by omega) (by decide) rfl d_B_recordCue_177 ?_
                      refine ur_getN (k := (89 + ((pIns π n (pFor v π n a b)) (pFor v π n a b)))) (v := .ref (ad (7 + 2 * ((pIns π n (pFor v π n a b)) (pFor v π n a b))))) S hK hP (kb_C (hBw_10.2.2 _ (by omega))) (xg_cue (hBw_10.2.2 _ (by omega))) rfl (fun w h => hU w (in_C w h)) 0 (by decide) (hN _ t1_74) rfl d_B_recordCue_178 ?_
                      refine ur_getN (k := (7 + 2 * ((pIns π n (pFor v π n a b)) (pFor v π n a b)))) (v := .int (w_10 16 ((pIns π n (pFor v π n a b)) (pFor v π n a b)) 0)) S hK hP (kb_V (Nat.lt_succ_of_lt (hBw_10.2.2 _ (by omega)))) (xg_row (Nat.lt_succ_of_lt (hBw_10.2.2 _ (by omega)))) rfl (fun w h => hU w (in_V w h)) 1 (by decide) (hN _ t1_37) rfl d_B_recordCue_181 ?_
                      have e9 : kpr v π n a b x4 = none := by unfold kpr; first | rw [if_pos c_k] | rw [if_neg c_k, hX_1]
                      have h9 := c_m
                      try rw [ex_6] at h9
                      exact uIret S hr hlk (w_10, (pIns π n (pFor v π n a b))) hP hS (by subst hw_10; unfold recPost; rw [hX_1]; show ite _ _ _; rw [e9]; rw [if_neg ((fun z => z.elim (fun z => by omega) (fun z => z (by simpa [kl] using h9))))]; exact ⟨rfl, rfl⟩) d_B_recordCue_184
                    · exact absurd rfl c_9
                · refine lv_iconst (v := (-1)) S.1 S.2.1 d_B_recordCue_124 (by decide) ?_
                  have e9 : kpr v π n a b x4 = none := by unfold kpr; first | rw [if_pos c_k] | rw [if_neg c_k, hX_1]
                  have h9 := c_m
                  try rw [ex_6] at h9
                  exact uIret S hr hlk (v, π) hP hS (by unfold recPost; rw [hX_1]; show ite _ _ _; rw [e9]; rw [if_pos (Or.inr (by simpa [kl] using h9))]; exact ⟨rfl, rfl⟩) d_B_recordCue_125
              · exact absurd rfl c_7
          · refine lv_aload_n S.1 S.2.1 d_B_recordCue_46 rfl (lv_at hl 2 rfl) ?_
            refine lv_iload_n S.1 S.2.1 d_B_recordCue_47 rfl (lv_at hl 4 rfl) ?_
            refine lv_iload_n S.1 S.2.1 d_B_recordCue_48 rfl (lv_at hl 5 rfl) ?_
            refine uVi (n := 2) (b := 4) (As := [.int a, .int b]) (rest := []) S hK hN hP hS (c_B_placeAbove hJ v π n hB a b) ⟨hU, t2_127, t2_124, t1_5, by decide +kernel, by decide, by decide⟩ t2_125 t2_126 (by decide) xg_book rfl rfl rfl hl.1 rfl (Nat.le_of_ble_eq_true rfl) d_B_recordCue_49 ⟨Nat.le_of_ble_eq_true rfl, Nat.le_of_ble_eq_true rfl⟩ (fun r u H locs hp hP hS => ?_)
            obtain ⟨rfl, rfl⟩ := hp
            rcases hX_11 : abvO v π n a b with _ | p_12
            · refine lv_goto (tgt := 56) S.1 S.2.1 d_B_recordCue_52 (by decide) ?_
              refine lv_istore (lv' := [(7, .int (-1)), (6, .int 1), (5, .int (nI (pFor v π n a b))), (0, .ref (ad 4)), (1, .ref (ad 87)), (2, .int a), (3, .int b), (4, .int x4)]) S.1 S.2.1 d_B_recordCue_56 hl (by decide) rfl (fun ls hl => ?_)
              refine lv_iload S.1 S.2.1 d_B_recordCue_58 (lv_at hl 1 rfl) ?_
              refine lv_if_eq (tgt := 70) S.1 S.2.1 d_B_recordCue_60 (by decide) (fun c_13 => ?_) (fun c_13 => ?_)
              · exact absurd c_13 (by decide)
              · refine lv_aload_n S.1 S.2.1 d_B_recordCue_63 rfl (lv_at hl 4 rfl) ?_
                refine ur_getN (k := (7 + 2 * 40)) (v := .int (v 16 40 0)) S hK hP (kb_V (by decide)) (xg_row (by decide)) rfl (fun w h => hU w (in_V w h)) 1 (by decide) (hN _ t1_37) rfl d_B_recordCue_64 ?_
                refine lv_goto (tgt := 84) S.1 S.2.1 d_B_recordCue_67 (by decide) ?_
                refine lv_topi (fun x_14 ex_14 => ?_)
                refine lv_istore (lv' := [(8, .int x_14), (7, .int (-1)), (6, .int 1), (5, .int (nI (pFor v π n a b))), (0, .ref (ad 4)), (1, .ref (ad 87)), (2, .int a), (3, .int b), (4, .int x4)]) S.1 S.2.1 d_B_recordCue_84 hl (by decide) rfl (fun ls hl => ?_)
                refine lv_iload S.1 S.2.1 d_B_recordCue_86 (lv_at hl 1 rfl) ?_
                refine lv_iconst (v := (-1)) S.1 S.2.1 d_B_recordCue_88 (by decide) ?_
                refine lv_icmp_eq (tgt := 111) S.1 S.2.1 d_B_recordCue_89 (by decide) (fun c_15 => ?_) (fun c_15 => ?_)
                · refine lv_aload_n S.1 S.2.1 d_B_recordCue_111 rfl (lv_at hl 4 rfl) ?_
                  refine uVi (n := 0) (b := 4) (As := []) (rest := []) S hK hN hP hS (c_B_moveCount hJ v π n hB) ⟨hU, t2_37, t2_136, t1_5, by decide +kernel, by decide, by decide⟩ t2_35 t2_36 (by decide) xg_book rfl rfl rfl hl.1 rfl (Nat.le_of_ble_eq_true rfl) d_B_recordCue_112 ⟨Nat.le_of_ble_eq_true rfl, Nat.le_of_ble_eq_true rfl⟩ (fun r u H locs hp hP hS => ?_)
                  obtain ⟨rfl, rfl⟩ := hp
                  refine lv_iload S.1 S.2.1 d_B_recordCue_115 (lv_at hl 0 rfl) ?_
                  refine lv_iadd S.1 S.2.1 d_B_recordCue_117 ?_
                  refine lv_sipush (v := 600) S.1 S.2.1 d_B_recordCue_118 (by decide) ?_
                  refine lv_icmp_le (tgt := 126) S.1 S.2.1 d_B_recordCue_121 (by decide) (fun c_m => ?_) (fun c_m => ?_)
                  · refine lv_iload S.1 S.2.1 d_B_recordCue_126 (lv_at hl 2 rfl) ?_
                    refine lv_if_eq (tgt := 139) S.1 S.2.1 d_B_recordCue_128 (by decide) (fun c_16 => ?_) (fun c_16 => ?_)
                    · exact absurd c_16 (by decide)
                    · refine lv_aload_n S.1 S.2.1 d_B_recordCue_131 rfl (lv_at hl 4 rfl) ?_
                      refine lv_iload S.1 S.2.1 d_B_recordCue_132 (lv_at hl 3 rfl) ?_
                      refine lv_iload_n S.1 S.2.1 d_B_recordCue_134 rfl (lv_at hl 6 rfl) ?_
                      refine lv_iload_n S.1 S.2.1 d_B_recordCue_135 rfl (lv_at hl 7 rfl) ?_
                      refine uVv (n := 3) (b := 4) (As := [.int (nI (pFor v π n a b)), .int a, .int b]) (rest := []) S hK hN hP hS (c_B_insert hJ v π n hB (by omega) (pFor v π n a b) (pFor_le v π n a b) a b) ⟨hU, t2_140, t2_137, t1_5, by decide +kernel, by decide, by decide⟩ t2_139 tp_3 (by decide) xg_book rfl rfl rfl hl.1 rfl (Nat.le_of_ble_eq_true rfl) d_B_recordCue_136 ⟨Nat.le_of_ble_eq_true rfl, Nat.le_of_ble_eq_true rfl⟩ (fun u H locs hp hP hS => ?_)
                      obtain rfl := hp
                      have hB1 := xBk_ins (a := a) (b := b) hB (by omega) (pFor_le v π n a b)
                      refine lv_iload S.1 S.2.1 d_B_recordCue_139 (lv_at hl 1 rfl) ?_
                      refine lv_iconst (v := (-1)) S.1 S.2.1 d_B_recordCue_141 (by decide) ?_
                      refine lv_icmp_eq (tgt := 164) S.1 S.2.1 d_B_recordCue_142 (by decide) (fun c_17 => ?_) (fun c_17 => ?_)
                      · refine lv_aload_n S.1 S.2.1 d_B_recordCue_164 rfl (lv_at hl 4 rfl) ?_
                        refine lv_iload S.1 S.2.1 d_B_recordCue_165 (lv_at hl 3 rfl) ?_
                        refine lv_aload_n S.1 S.2.1 d_B_recordCue_167 rfl (lv_at hl 5 rfl) ?_
                        refine uVv (n := 2) (b := 4) (As := [.int (nI (pFor v π n a b)), .ref (ad 87)]) (rest := []) S hK hN hP hS (c_B_putAll hJ (vIns v π n a b) (pIns π n (pFor v π n a b)) M hM (n + 1) hB1 (pFor v π n a b) 40 (by omega) (by decide)) ⟨hU, t2_170, t2_167, t1_5, by decide +kernel, by decide, by decide⟩ t2_169 tp_5 (by decide) xg_book rfl rfl rfl hl.1 rfl (Nat.le_of_ble_eq_true rfl) d_B_recordCue_168 ⟨Nat.le_of_ble_eq_true rfl, Nat.le_of_ble_eq_true rfl⟩ (fun u H locs hp hP hS => ?_)
                        obtain rfl := hp
                        have hBw_18 := pa_bk (q := (pFor v π n a b)) (k := 40) hB1 M
                        obtain ⟨w_18, hw_18⟩ : ∃ z, z = pa (vIns v π n a b) (pIns π n (pFor v π n a b)) (pFor v π n a b) 40 M := ⟨_, rfl⟩
                        rw [← hw_18] at hP hBw_18
                        refine lv_aload_n S.1 S.2.1 d_B_recordCue_171 rfl (lv_at hl 4 rfl) ?_
                        refine ur_get (k := 4) (v := .ref (ad 5)) S hK hP (by decide) xg_book rfl (fun w h => hU w (in_B w h)) 0 (by decide) (hU _ t1_106) rfl d_B_recordCue_172 ?_
                        refine lv_iload S.1 S.2.1 d_B_recordCue_175 (lv_at hl 3 rfl) ?_
                        refine ur_aald (k := 5) (q := ad (89 + (pIns π n (pFor v π n a b)) (pFor v π n a b))) (j := (pFor v π n a b)) S hK hP (by decide) 2 xg_cues rfl rfl (by omega) (by decide) rfl d_B_recordCue_177 ?_
                        refine ur_getN (k := (89 + ((pIns π n (pFor v π n a b)) (pFor v π n a b)))) (v := .ref (ad (7 + 2 * ((pIns π n (pFor v π n a b)) (pFor v π n a b))))) S hK hP (kb_C (hBw_18.2.2 _ (by omega))) (xg_cue (hBw_18.2.2 _ (by omega))) rfl (fun w h => hU w (in_C w h)) 0 (by decide) (hN _ t1_74) rfl d_B_recordCue_178 ?_
                        refine ur_getN (k := (7 + 2 * ((pIns π n (pFor v π n a b)) (pFor v π n a b)))) (v := .int (w_18 16 ((pIns π n (pFor v π n a b)) (pFor v π n a b)) 0)) S hK hP (kb_V (Nat.lt_succ_of_lt (hBw_18.2.2 _ (by omega)))) (xg_row (Nat.lt_succ_of_lt (hBw_18.2.2 _ (by omega)))) rfl (fun w h => hU w (in_V w h)) 1 (by decide) (hN _ t1_37) rfl d_B_recordCue_181 ?_
                        have e9 : kpr v π n a b x4 = none := by unfold kpr; first | rw [if_pos c_k] | rw [if_neg c_k, hX_11]
                        have h9 := c_m
                        try rw [ex_14] at h9
                        exact uIret S hr hlk (w_18, (pIns π n (pFor v π n a b))) hP hS (by subst hw_18; unfold recPost; rw [hX_1]; show ite _ _ _; rw [e9]; rw [if_neg ((fun z => z.elim (fun z => by omega) (fun z => z (by simpa [kl] using h9))))]; exact ⟨rfl, rfl⟩) d_B_recordCue_184
                      · exact absurd rfl c_17
                  · refine lv_iconst (v := (-1)) S.1 S.2.1 d_B_recordCue_124 (by decide) ?_
                    have e9 : kpr v π n a b x4 = none := by unfold kpr; first | rw [if_pos c_k] | rw [if_neg c_k, hX_11]
                    have h9 := c_m
                    try rw [ex_14] at h9
                    exact uIret S hr hlk (v, π) hP hS (by unfold recPost; rw [hX_1]; show ite _ _ _; rw [e9]; rw [if_pos (Or.inr (by simpa [kl] using h9))]; exact ⟨rfl, rfl⟩) d_B_recordCue_125
                · exact absurd rfl c_15
            · have hp_12 : p_12 < n := abvO_lt _ hX_11
              refine lv_goto (tgt := 56) S.1 S.2.1 d_B_recordCue_52 (by decide) ?_
              refine lv_istore (lv' := [(7, .int (nI p_12)), (6, .int 1), (5, .int (nI (pFor v π n a b))), (0, .ref (ad 4)), (1, .ref (ad 87)), (2, .int a), (3, .int b), (4, .int x4)]) S.1 S.2.1 d_B_recordCue_56 hl (by decide) rfl (fun ls hl => ?_)
              refine lv_iload S.1 S.2.1 d_B_recordCue_58 (lv_at hl 1 rfl) ?_
              refine lv_if_eq (tgt := 70) S.1 S.2.1 d_B_recordCue_60 (by decide) (fun c_19 => ?_) (fun c_19 => ?_)
              · exact absurd c_19 (by decide)
              · refine lv_aload_n S.1 S.2.1 d_B_recordCue_63 rfl (lv_at hl 4 rfl) ?_
                refine ur_getN (k := (7 + 2 * 40)) (v := .int (v 16 40 0)) S hK hP (kb_V (by decide)) (xg_row (by decide)) rfl (fun w h => hU w (in_V w h)) 1 (by decide) (hN _ t1_37) rfl d_B_recordCue_64 ?_
                refine lv_goto (tgt := 84) S.1 S.2.1 d_B_recordCue_67 (by decide) ?_
                refine lv_topi (fun x_20 ex_20 => ?_)
                refine lv_istore (lv' := [(8, .int x_20), (7, .int (nI p_12)), (6, .int 1), (5, .int (nI (pFor v π n a b))), (0, .ref (ad 4)), (1, .ref (ad 87)), (2, .int a), (3, .int b), (4, .int x4)]) S.1 S.2.1 d_B_recordCue_84 hl (by decide) rfl (fun ls hl => ?_)
                refine lv_iload S.1 S.2.1 d_B_recordCue_86 (lv_at hl 1 rfl) ?_
                refine lv_iconst (v := (-1)) S.1 S.2.1 d_B_recordCue_88 (by decide) ?_
                refine lv_icmp_eq (tgt := 111) S.1 S.2.1 d_B_recordCue_89 (by decide) (fun c_21 => ?_) (fun c_21 => ?_)
                · exact absurd c_21 (nI_nm1 (by omega))
                · refine lv_iload S.1 S.2.1 d_B_recordCue_92 (lv_at hl 0 rfl) ?_
                  refine lv_aload_n S.1 S.2.1 d_B_recordCue_94 rfl (lv_at hl 4 rfl) ?_
                  refine ur_get (k := 4) (v := .ref (ad 5)) S hK hP (by decide) xg_book rfl (fun w h => hU w (in_B w h)) 0 (by decide) (hU _ t1_106) rfl d_B_recordCue_95 ?_
                  refine lv_iload S.1 S.2.1 d_B_recordCue_98 (lv_at hl 1 rfl) ?_
                  refine ur_aald (k := 5) (q := ad (89 + π p_12)) (j := p_12) S hK hP (by decide) 2 xg_cues rfl rfl (by omega) (by decide) rfl d_B_recordCue_100 ?_
                  refine ur_getN (k := (89 + (π p_12))) (v := .ref (ad (7 + 2 * (π p_12)))) S hK hP (kb_C (hB.2.2 _ (by omega))) (xg_cue (hB.2.2 _ (by omega))) rfl (fun w h => hU w (in_C w h)) 0 (by decide) (hN _ t1_74) rfl d_B_recordCue_101 ?_
                  refine lv_aload_n S.1 S.2.1 d_B_recordCue_104 rfl (lv_at hl 5 rfl) ?_
                  refine uVi (n := 1) (b := (7 + 2 * (π p_12))) (As := [.ref (ad 87)]) (rest := [.int x_20]) S hK hN hP hS (c_V_lackedOf hJ v π M hM (π p_12) 40 (Nat.lt_succ_of_lt (hB.2.2 _ (by omega))) (by decide)) ⟨hU, t2_131, t2_128, t1_2, by decide +kernel, by decide, by decide⟩ t2_129 t2_130 (kb_V (Nat.lt_succ_of_lt (hB.2.2 _ (by omega)))) (xg_row (Nat.lt_succ_of_lt (hB.2.2 _ (by omega)))) rfl rfl rfl hl.1 rfl (Nat.le_of_ble_eq_true rfl) d_B_recordCue_105 ⟨Nat.le_of_ble_eq_true rfl, Nat.le_of_ble_eq_true rfl⟩ (fun r u H locs hp hP hS => ?_)
                  obtain ⟨rfl, rfl⟩ := hp
                  refine lv_iadd S.1 S.2.1 d_B_recordCue_108 ?_
                  refine lv_topi (fun x_22 ex_22 => ?_)
                  refine lv_istore (lv' := [(8, .int x_22), (7, .int (nI p_12)), (6, .int 1), (5, .int (nI (pFor v π n a b))), (0, .ref (ad 4)), (1, .ref (ad 87)), (2, .int a), (3, .int b), (4, .int x4)]) S.1 S.2.1 d_B_recordCue_109 hl (by decide) rfl (fun ls hl => ?_)
                  refine lv_aload_n S.1 S.2.1 d_B_recordCue_111 rfl (lv_at hl 4 rfl) ?_
                  refine uVi (n := 0) (b := 4) (As := []) (rest := []) S hK hN hP hS (c_B_moveCount hJ v π n hB) ⟨hU, t2_37, t2_136, t1_5, by decide +kernel, by decide, by decide⟩ t2_35 t2_36 (by decide) xg_book rfl rfl rfl hl.1 rfl (Nat.le_of_ble_eq_true rfl) d_B_recordCue_112 ⟨Nat.le_of_ble_eq_true rfl, Nat.le_of_ble_eq_true rfl⟩ (fun r u H locs hp hP hS => ?_)
                  obtain ⟨rfl, rfl⟩ := hp
                  refine lv_iload S.1 S.2.1 d_B_recordCue_115 (lv_at hl 0 rfl) ?_
                  refine lv_iadd S.1 S.2.1 d_B_recordCue_117 ?_
                  refine lv_sipush (v := 600) S.1 S.2.1 d_B_recordCue_118 (by decide) ?_
                  refine lv_icmp_le (tgt := 126) S.1 S.2.1 d_B_recordCue_121 (by decide) (fun c_m => ?_) (fun c_m => ?_)
                  · refine lv_iload S.1 S.2.1 d_B_recordCue_126 (lv_at hl 2 rfl) ?_
                    refine lv_if_eq (tgt := 139) S.1 S.2.1 d_B_recordCue_128 (by decide) (fun c_23 => ?_) (fun c_23 => ?_)
                    · exact absurd c_23 (by decide)
                    · refine lv_aload_n S.1 S.2.1 d_B_recordCue_131 rfl (lv_at hl 4 rfl) ?_
                      refine lv_iload S.1 S.2.1 d_B_recordCue_132 (lv_at hl 3 rfl) ?_
                      refine lv_iload_n S.1 S.2.1 d_B_recordCue_134 rfl (lv_at hl 6 rfl) ?_
                      refine lv_iload_n S.1 S.2.1 d_B_recordCue_135 rfl (lv_at hl 7 rfl) ?_
                      refine uVv (n := 3) (b := 4) (As := [.int (nI (pFor v π n a b)), .int a, .int b]) (rest := []) S hK hN hP hS (c_B_insert hJ v π n hB (by omega) (pFor v π n a b) (pFor_le v π n a b) a b) ⟨hU, t2_140, t2_137, t1_5, by decide +kernel, by decide, by decide⟩ t2_139 tp_3 (by decide) xg_book rfl rfl rfl hl.1 rfl (Nat.le_of_ble_eq_true rfl) d_B_recordCue_136 ⟨Nat.le_of_ble_eq_true rfl, Nat.le_of_ble_eq_true rfl⟩ (fun u H locs hp hP hS => ?_)
                      obtain rfl := hp
                      have hB1 := xBk_ins (a := a) (b := b) hB (by omega) (pFor_le v π n a b)
                      refine lv_iload S.1 S.2.1 d_B_recordCue_139 (lv_at hl 1 rfl) ?_
                      refine lv_iconst (v := (-1)) S.1 S.2.1 d_B_recordCue_141 (by decide) ?_
                      refine lv_icmp_eq (tgt := 164) S.1 S.2.1 d_B_recordCue_142 (by decide) (fun c_24 => ?_) (fun c_24 => ?_)
                      · exact absurd c_24 (nI_nm1 (by omega))
                      · refine lv_aload_n S.1 S.2.1 d_B_recordCue_145 rfl (lv_at hl 4 rfl) ?_
                        refine lv_iload S.1 S.2.1 d_B_recordCue_146 (lv_at hl 2 rfl) ?_
                        refine lv_if_eq (tgt := 158) S.1 S.2.1 d_B_recordCue_148 (by decide) (fun c_25 => ?_) (fun c_25 => ?_)
                        · exact absurd c_25 (by decide)
                        · refine lv_iload S.1 S.2.1 d_B_recordCue_151 (lv_at hl 1 rfl) ?_
                          refine lv_iconst (v := 1) S.1 S.2.1 d_B_recordCue_153 (by decide) ?_
                          refine lv_iadd S.1 S.2.1 d_B_recordCue_154 ?_
                          rw [nI_1]
                          refine lv_goto (tgt := 160) S.1 S.2.1 d_B_recordCue_155 (by decide) ?_
                          refine lv_aload_n S.1 S.2.1 d_B_recordCue_160 rfl (lv_at hl 5 rfl) ?_
                          refine uVv (n := 2) (b := 4) (As := [.int (nI (p_12 + 1)), .ref (ad 87)]) (rest := []) S hK hN hP hS (c_B_keepChannels hJ (vIns v π n a b) (pIns π n (pFor v π n a b)) M hM (n + 1) hB1 (p_12 + 1) 40 (by omega) (by decide)) ⟨hU, t2_149, t2_146, t1_5, by decide +kernel, by decide, by decide⟩ t2_148 tp_4 (by decide) xg_book rfl rfl rfl hl.1 rfl (Nat.le_of_ble_eq_true rfl) d_B_recordCue_161 ⟨Nat.le_of_ble_eq_true rfl, Nat.le_of_ble_eq_true rfl⟩ (fun u H locs hp hP hS => ?_)
                          obtain rfl := hp
                          have hBw_26 := kp_bk (q := (p_12 + 1)) (k := 40) hB1 M
                          obtain ⟨w_26, hw_26⟩ : ∃ z, z = kp (vIns v π n a b) (pIns π n (pFor v π n a b)) (p_12 + 1) 40 M := ⟨_, rfl⟩
                          rw [← hw_26] at hP hBw_26
                          refine lv_aload_n S.1 S.2.1 d_B_recordCue_164 rfl (lv_at hl 4 rfl) ?_
                          refine lv_iload S.1 S.2.1 d_B_recordCue_165 (lv_at hl 3 rfl) ?_
                          refine lv_aload_n S.1 S.2.1 d_B_recordCue_167 rfl (lv_at hl 5 rfl) ?_
                          refine uVv (n := 2) (b := 4) (As := [.int (nI (pFor v π n a b)), .ref (ad 87)]) (rest := []) S hK hN hP hS (c_B_putAll hJ w_26 (pIns π n (pFor v π n a b)) M hM (n + 1) hBw_26 (pFor v π n a b) 40 (by omega) (by decide)) ⟨hU, t2_170, t2_167, t1_5, by decide +kernel, by decide, by decide⟩ t2_169 tp_5 (by decide) xg_book rfl rfl rfl hl.1 rfl (Nat.le_of_ble_eq_true rfl) d_B_recordCue_168 ⟨Nat.le_of_ble_eq_true rfl, Nat.le_of_ble_eq_true rfl⟩ (fun u H locs hp hP hS => ?_)
                          obtain rfl := hp
                          have hBw_27 := pa_bk (q := (pFor v π n a b)) (k := 40) hBw_26 M
                          obtain ⟨w_27, hw_27⟩ : ∃ z, z = pa w_26 (pIns π n (pFor v π n a b)) (pFor v π n a b) 40 M := ⟨_, rfl⟩
                          rw [← hw_27] at hP hBw_27
                          refine lv_aload_n S.1 S.2.1 d_B_recordCue_171 rfl (lv_at hl 4 rfl) ?_
                          refine ur_get (k := 4) (v := .ref (ad 5)) S hK hP (by decide) xg_book rfl (fun w h => hU w (in_B w h)) 0 (by decide) (hU _ t1_106) rfl d_B_recordCue_172 ?_
                          refine lv_iload S.1 S.2.1 d_B_recordCue_175 (lv_at hl 3 rfl) ?_
                          refine ur_aald (k := 5) (q := ad (89 + (pIns π n (pFor v π n a b)) (pFor v π n a b))) (j := (pFor v π n a b)) S hK hP (by decide) 2 xg_cues rfl rfl (by omega) (by decide) rfl d_B_recordCue_177 ?_
                          refine ur_getN (k := (89 + ((pIns π n (pFor v π n a b)) (pFor v π n a b)))) (v := .ref (ad (7 + 2 * ((pIns π n (pFor v π n a b)) (pFor v π n a b))))) S hK hP (kb_C (hBw_27.2.2 _ (by omega))) (xg_cue (hBw_27.2.2 _ (by omega))) rfl (fun w h => hU w (in_C w h)) 0 (by decide) (hN _ t1_74) rfl d_B_recordCue_178 ?_
                          refine ur_getN (k := (7 + 2 * ((pIns π n (pFor v π n a b)) (pFor v π n a b)))) (v := .int (w_27 16 ((pIns π n (pFor v π n a b)) (pFor v π n a b)) 0)) S hK hP (kb_V (Nat.lt_succ_of_lt (hBw_27.2.2 _ (by omega)))) (xg_row (Nat.lt_succ_of_lt (hBw_27.2.2 _ (by omega)))) rfl (fun w h => hU w (in_V w h)) 1 (by decide) (hN _ t1_37) rfl d_B_recordCue_181 ?_
                          have e9 : kpr v π n a b x4 = (some p_12) := by unfold kpr; first | rw [if_pos c_k] | rw [if_neg c_k, hX_11]
                          have h9 := c_m
                          try rw [ex_22] at h9; try rw [ex_20] at h9
                          exact uIret S hr hlk (w_27, (pIns π n (pFor v π n a b))) hP hS (by subst hw_27; subst hw_26; unfold recPost; rw [hX_1]; show ite _ _ _; rw [e9]; rw [if_neg ((fun z => z.elim (fun z => by omega) (fun z => z (by simpa [kl] using h9))))]; exact ⟨rfl, rfl⟩) d_B_recordCue_184
                  · refine lv_iconst (v := (-1)) S.1 S.2.1 d_B_recordCue_124 (by decide) ?_
                    have e9 : kpr v π n a b x4 = (some p_12) := by unfold kpr; first | rw [if_pos c_k] | rw [if_neg c_k, hX_11]
                    have h9 := c_m
                    try rw [ex_22] at h9; try rw [ex_20] at h9
                    exact uIret S hr hlk (v, π) hP hS (by unfold recPost; rw [hX_1]; show ite _ _ _; rw [e9]; rw [if_pos (Or.inr (by simpa [kl] using h9))]; exact ⟨rfl, rfl⟩) d_B_recordCue_125
        · have hn : ¬ n < 40 := fun z => absurd (by rw [hB.1]; exact nI_lt z (by decide)) c_s
          refine lv_iconst (v := (-1)) S.1 S.2.1 d_B_recordCue_39 (by decide) ?_
          exact uIret S hr hlk (v, π) hP hS (by unfold recPost; rw [hX_1]; show ite _ _ _; rw [if_pos (Or.inl (by have := hn40; omega))]; exact ⟨rfl, rfl⟩) d_B_recordCue_40
  · have hp_2 : p_2 < n := fndO_lt _ hX_1
    have hpn : pFor v π n a b < n := by have := fndO_pf hX_1; omega
    refine lv_iconst (v := (-1)) S.1 S.2.1 d_B_recordCue_14 (by decide) ?_
    refine lv_icmp_ne (tgt := 22) S.1 S.2.1 d_B_recordCue_15 (by decide) (fun c_28 => ?_) (fun c_28 => ?_)
    · refine lv_iconst (v := 0) S.1 S.2.1 d_B_recordCue_22 (by decide) ?_
      refine lv_istore (lv' := [(6, .int 0), (5, .int (nI (pFor v π n a b))), (0, .ref (ad 4)), (1, .ref (ad 87)), (2, .int a), (3, .int b), (4, .int x4)]) S.1 S.2.1 d_B_recordCue_23 hl (by decide) rfl (fun ls hl => ?_)
      refine lv_iload S.1 S.2.1 d_B_recordCue_25 (lv_at hl 0 rfl) ?_
      refine lv_if_eq (tgt := 41) S.1 S.2.1 d_B_recordCue_27 (by decide) (fun c_29 => ?_) (fun c_29 => ?_)
      · refine lv_iload S.1 S.2.1 d_B_recordCue_41 (lv_at hl 6 rfl) ?_
        refine lv_if_eq (tgt := 55) S.1 S.2.1 d_B_recordCue_43 (by decide) (fun c_k => ?_) (fun c_k => ?_)
        · refine lv_iconst (v := (-1)) S.1 S.2.1 d_B_recordCue_55 (by decide) ?_
          refine lv_istore (lv' := [(7, .int (-1)), (6, .int 0), (5, .int (nI (pFor v π n a b))), (0, .ref (ad 4)), (1, .ref (ad 87)), (2, .int a), (3, .int b), (4, .int x4)]) S.1 S.2.1 d_B_recordCue_56 hl (by decide) rfl (fun ls hl => ?_)
          refine lv_iload S.1 S.2.1 d_B_recordCue_58 (lv_at hl 1 rfl) ?_
          refine lv_if_eq (tgt := 70) S.1 S.2.1 d_B_recordCue_60 (by decide) (fun c_30 => ?_) (fun c_30 => ?_)
          · refine lv_aload_n S.1 S.2.1 d_B_recordCue_70 rfl (lv_at hl 3 rfl) ?_
            refine ur_get (k := 4) (v := .ref (ad 5)) S hK hP (by decide) xg_book rfl (fun w h => hU w (in_B w h)) 0 (by decide) (hU _ t1_106) rfl d_B_recordCue_71 ?_
            refine lv_iload S.1 S.2.1 d_B_recordCue_74 (lv_at hl 2 rfl) ?_
            refine ur_aald (k := 5) (q := ad (89 + π (pFor v π n a b))) (j := (pFor v π n a b)) S hK hP (by decide) 2 xg_cues rfl rfl (by omega) (by decide) rfl d_B_recordCue_76 ?_
            refine ur_getN (k := (89 + (π (pFor v π n a b)))) (v := .ref (ad (7 + 2 * (π (pFor v π n a b))))) S hK hP (kb_C (hB.2.2 _ (by omega))) (xg_cue (hB.2.2 _ (by omega))) rfl (fun w h => hU w (in_C w h)) 0 (by decide) (hN _ t1_74) rfl d_B_recordCue_77 ?_
            refine lv_aload_n S.1 S.2.1 d_B_recordCue_80 rfl (lv_at hl 4 rfl) ?_
            refine uVi (n := 1) (b := (7 + 2 * (π (pFor v π n a b)))) (As := [.ref (ad 87)]) (rest := []) S hK hN hP hS (c_V_lackedOf hJ v π M hM (π (pFor v π n a b)) 40 (Nat.lt_succ_of_lt (hB.2.2 _ (by omega))) (by decide)) ⟨hU, t2_131, t2_128, t1_2, by decide +kernel, by decide, by decide⟩ t2_129 t2_130 (kb_V (Nat.lt_succ_of_lt (hB.2.2 _ (by omega)))) (xg_row (Nat.lt_succ_of_lt (hB.2.2 _ (by omega)))) rfl rfl rfl hl.1 rfl (Nat.le_of_ble_eq_true rfl) d_B_recordCue_81 ⟨Nat.le_of_ble_eq_true rfl, Nat.le_of_ble_eq_true rfl⟩ (fun r u H locs hp hP hS => ?_)
            obtain ⟨rfl, rfl⟩ := hp
            refine lv_topi (fun x_31 ex_31 => ?_)
            refine lv_istore (lv' := [(8, .int x_31), (7, .int (-1)), (6, .int 0), (5, .int (nI (pFor v π n a b))), (0, .ref (ad 4)), (1, .ref (ad 87)), (2, .int a), (3, .int b), (4, .int x4)]) S.1 S.2.1 d_B_recordCue_84 hl (by decide) rfl (fun ls hl => ?_)
            refine lv_iload S.1 S.2.1 d_B_recordCue_86 (lv_at hl 1 rfl) ?_
            refine lv_iconst (v := (-1)) S.1 S.2.1 d_B_recordCue_88 (by decide) ?_
            refine lv_icmp_eq (tgt := 111) S.1 S.2.1 d_B_recordCue_89 (by decide) (fun c_32 => ?_) (fun c_32 => ?_)
            · refine lv_aload_n S.1 S.2.1 d_B_recordCue_111 rfl (lv_at hl 4 rfl) ?_
              refine uVi (n := 0) (b := 4) (As := []) (rest := []) S hK hN hP hS (c_B_moveCount hJ v π n hB) ⟨hU, t2_37, t2_136, t1_5, by decide +kernel, by decide, by decide⟩ t2_35 t2_36 (by decide) xg_book rfl rfl rfl hl.1 rfl (Nat.le_of_ble_eq_true rfl) d_B_recordCue_112 ⟨Nat.le_of_ble_eq_true rfl, Nat.le_of_ble_eq_true rfl⟩ (fun r u H locs hp hP hS => ?_)
              obtain ⟨rfl, rfl⟩ := hp
              refine lv_iload S.1 S.2.1 d_B_recordCue_115 (lv_at hl 0 rfl) ?_
              refine lv_iadd S.1 S.2.1 d_B_recordCue_117 ?_
              refine lv_sipush (v := 600) S.1 S.2.1 d_B_recordCue_118 (by decide) ?_
              refine lv_icmp_le (tgt := 126) S.1 S.2.1 d_B_recordCue_121 (by decide) (fun c_m => ?_) (fun c_m => ?_)
              · refine lv_iload S.1 S.2.1 d_B_recordCue_126 (lv_at hl 2 rfl) ?_
                refine lv_if_eq (tgt := 139) S.1 S.2.1 d_B_recordCue_128 (by decide) (fun c_33 => ?_) (fun c_33 => ?_)
                · refine lv_iload S.1 S.2.1 d_B_recordCue_139 (lv_at hl 1 rfl) ?_
                  refine lv_iconst (v := (-1)) S.1 S.2.1 d_B_recordCue_141 (by decide) ?_
                  refine lv_icmp_eq (tgt := 164) S.1 S.2.1 d_B_recordCue_142 (by decide) (fun c_34 => ?_) (fun c_34 => ?_)
                  · refine lv_aload_n S.1 S.2.1 d_B_recordCue_164 rfl (lv_at hl 4 rfl) ?_
                    refine lv_iload S.1 S.2.1 d_B_recordCue_165 (lv_at hl 3 rfl) ?_
                    refine lv_aload_n S.1 S.2.1 d_B_recordCue_167 rfl (lv_at hl 5 rfl) ?_
                    refine uVv (n := 2) (b := 4) (As := [.int (nI (pFor v π n a b)), .ref (ad 87)]) (rest := []) S hK hN hP hS (c_B_putAll hJ v π M hM n hB (pFor v π n a b) 40 (by omega) (by decide)) ⟨hU, t2_170, t2_167, t1_5, by decide +kernel, by decide, by decide⟩ t2_169 tp_5 (by decide) xg_book rfl rfl rfl hl.1 rfl (Nat.le_of_ble_eq_true rfl) d_B_recordCue_168 ⟨Nat.le_of_ble_eq_true rfl, Nat.le_of_ble_eq_true rfl⟩ (fun u H locs hp hP hS => ?_)
                    obtain rfl := hp
                    have hBw_35 := pa_bk (q := (pFor v π n a b)) (k := 40) hB M
                    obtain ⟨w_35, hw_35⟩ : ∃ z, z = pa v π (pFor v π n a b) 40 M := ⟨_, rfl⟩
                    rw [← hw_35] at hP hBw_35
                    refine lv_aload_n S.1 S.2.1 d_B_recordCue_171 rfl (lv_at hl 4 rfl) ?_
                    refine ur_get (k := 4) (v := .ref (ad 5)) S hK hP (by decide) xg_book rfl (fun w h => hU w (in_B w h)) 0 (by decide) (hU _ t1_106) rfl d_B_recordCue_172 ?_
                    refine lv_iload S.1 S.2.1 d_B_recordCue_175 (lv_at hl 3 rfl) ?_
                    refine ur_aald (k := 5) (q := ad (89 + π (pFor v π n a b))) (j := (pFor v π n a b)) S hK hP (by decide) 2 xg_cues rfl rfl (by omega) (by decide) rfl d_B_recordCue_177 ?_
                    refine ur_getN (k := (89 + (π (pFor v π n a b)))) (v := .ref (ad (7 + 2 * (π (pFor v π n a b))))) S hK hP (kb_C (hBw_35.2.2 _ (by omega))) (xg_cue (hBw_35.2.2 _ (by omega))) rfl (fun w h => hU w (in_C w h)) 0 (by decide) (hN _ t1_74) rfl d_B_recordCue_178 ?_
                    refine ur_getN (k := (7 + 2 * (π (pFor v π n a b)))) (v := .int (w_35 16 (π (pFor v π n a b)) 0)) S hK hP (kb_V (Nat.lt_succ_of_lt (hBw_35.2.2 _ (by omega)))) (xg_row (Nat.lt_succ_of_lt (hBw_35.2.2 _ (by omega)))) rfl (fun w h => hU w (in_V w h)) 1 (by decide) (hN _ t1_37) rfl d_B_recordCue_181 ?_
                    have e9 : kpr v π n a b x4 = none := by unfold kpr; first | rw [if_pos c_k] | rw [if_neg c_k, hX_1]
                    have h9 := c_m
                    try rw [ex_31] at h9
                    exact uIret S hr hlk (w_35, π) hP hS (by subst hw_35; unfold recPost; rw [hX_1]; show ite _ _ _; rw [e9]; rw [if_neg (fun z => z (by simpa [kl] using h9))]; exact ⟨rfl, rfl⟩) d_B_recordCue_184
                  · exact absurd rfl c_34
                · exact absurd (by decide) c_33
              · refine lv_iconst (v := (-1)) S.1 S.2.1 d_B_recordCue_124 (by decide) ?_
                have e9 : kpr v π n a b x4 = none := by unfold kpr; first | rw [if_pos c_k] | rw [if_neg c_k, hX_1]
                have h9 := c_m
                try rw [ex_31] at h9
                exact uIret S hr hlk (v, π) hP hS (by unfold recPost; rw [hX_1]; show ite _ _ _; rw [e9]; rw [if_pos (by simpa [kl] using h9)]; exact ⟨rfl, rfl⟩) d_B_recordCue_125
            · exact absurd rfl c_32
          · exact absurd (by decide) c_30
        · refine lv_aload_n S.1 S.2.1 d_B_recordCue_46 rfl (lv_at hl 2 rfl) ?_
          refine lv_iload_n S.1 S.2.1 d_B_recordCue_47 rfl (lv_at hl 4 rfl) ?_
          refine lv_iload_n S.1 S.2.1 d_B_recordCue_48 rfl (lv_at hl 5 rfl) ?_
          refine uVi (n := 2) (b := 4) (As := [.int a, .int b]) (rest := []) S hK hN hP hS (c_B_placeAbove hJ v π n hB a b) ⟨hU, t2_127, t2_124, t1_5, by decide +kernel, by decide, by decide⟩ t2_125 t2_126 (by decide) xg_book rfl rfl rfl hl.1 rfl (Nat.le_of_ble_eq_true rfl) d_B_recordCue_49 ⟨Nat.le_of_ble_eq_true rfl, Nat.le_of_ble_eq_true rfl⟩ (fun r u H locs hp hP hS => ?_)
          obtain ⟨rfl, rfl⟩ := hp
          rcases hX_36 : abvO v π n a b with _ | p_37
          · refine lv_goto (tgt := 56) S.1 S.2.1 d_B_recordCue_52 (by decide) ?_
            refine lv_istore (lv' := [(7, .int (-1)), (6, .int 0), (5, .int (nI (pFor v π n a b))), (0, .ref (ad 4)), (1, .ref (ad 87)), (2, .int a), (3, .int b), (4, .int x4)]) S.1 S.2.1 d_B_recordCue_56 hl (by decide) rfl (fun ls hl => ?_)
            refine lv_iload S.1 S.2.1 d_B_recordCue_58 (lv_at hl 1 rfl) ?_
            refine lv_if_eq (tgt := 70) S.1 S.2.1 d_B_recordCue_60 (by decide) (fun c_38 => ?_) (fun c_38 => ?_)
            · refine lv_aload_n S.1 S.2.1 d_B_recordCue_70 rfl (lv_at hl 3 rfl) ?_
              refine ur_get (k := 4) (v := .ref (ad 5)) S hK hP (by decide) xg_book rfl (fun w h => hU w (in_B w h)) 0 (by decide) (hU _ t1_106) rfl d_B_recordCue_71 ?_
              refine lv_iload S.1 S.2.1 d_B_recordCue_74 (lv_at hl 2 rfl) ?_
              refine ur_aald (k := 5) (q := ad (89 + π (pFor v π n a b))) (j := (pFor v π n a b)) S hK hP (by decide) 2 xg_cues rfl rfl (by omega) (by decide) rfl d_B_recordCue_76 ?_
              refine ur_getN (k := (89 + (π (pFor v π n a b)))) (v := .ref (ad (7 + 2 * (π (pFor v π n a b))))) S hK hP (kb_C (hB.2.2 _ (by omega))) (xg_cue (hB.2.2 _ (by omega))) rfl (fun w h => hU w (in_C w h)) 0 (by decide) (hN _ t1_74) rfl d_B_recordCue_77 ?_
              refine lv_aload_n S.1 S.2.1 d_B_recordCue_80 rfl (lv_at hl 4 rfl) ?_
              refine uVi (n := 1) (b := (7 + 2 * (π (pFor v π n a b)))) (As := [.ref (ad 87)]) (rest := []) S hK hN hP hS (c_V_lackedOf hJ v π M hM (π (pFor v π n a b)) 40 (Nat.lt_succ_of_lt (hB.2.2 _ (by omega))) (by decide)) ⟨hU, t2_131, t2_128, t1_2, by decide +kernel, by decide, by decide⟩ t2_129 t2_130 (kb_V (Nat.lt_succ_of_lt (hB.2.2 _ (by omega)))) (xg_row (Nat.lt_succ_of_lt (hB.2.2 _ (by omega)))) rfl rfl rfl hl.1 rfl (Nat.le_of_ble_eq_true rfl) d_B_recordCue_81 ⟨Nat.le_of_ble_eq_true rfl, Nat.le_of_ble_eq_true rfl⟩ (fun r u H locs hp hP hS => ?_)
              obtain ⟨rfl, rfl⟩ := hp
              refine lv_topi (fun x_39 ex_39 => ?_)
              refine lv_istore (lv' := [(8, .int x_39), (7, .int (-1)), (6, .int 0), (5, .int (nI (pFor v π n a b))), (0, .ref (ad 4)), (1, .ref (ad 87)), (2, .int a), (3, .int b), (4, .int x4)]) S.1 S.2.1 d_B_recordCue_84 hl (by decide) rfl (fun ls hl => ?_)
              refine lv_iload S.1 S.2.1 d_B_recordCue_86 (lv_at hl 1 rfl) ?_
              refine lv_iconst (v := (-1)) S.1 S.2.1 d_B_recordCue_88 (by decide) ?_
              refine lv_icmp_eq (tgt := 111) S.1 S.2.1 d_B_recordCue_89 (by decide) (fun c_40 => ?_) (fun c_40 => ?_)
              · refine lv_aload_n S.1 S.2.1 d_B_recordCue_111 rfl (lv_at hl 4 rfl) ?_
                refine uVi (n := 0) (b := 4) (As := []) (rest := []) S hK hN hP hS (c_B_moveCount hJ v π n hB) ⟨hU, t2_37, t2_136, t1_5, by decide +kernel, by decide, by decide⟩ t2_35 t2_36 (by decide) xg_book rfl rfl rfl hl.1 rfl (Nat.le_of_ble_eq_true rfl) d_B_recordCue_112 ⟨Nat.le_of_ble_eq_true rfl, Nat.le_of_ble_eq_true rfl⟩ (fun r u H locs hp hP hS => ?_)
                obtain ⟨rfl, rfl⟩ := hp
                refine lv_iload S.1 S.2.1 d_B_recordCue_115 (lv_at hl 0 rfl) ?_
                refine lv_iadd S.1 S.2.1 d_B_recordCue_117 ?_
                refine lv_sipush (v := 600) S.1 S.2.1 d_B_recordCue_118 (by decide) ?_
                refine lv_icmp_le (tgt := 126) S.1 S.2.1 d_B_recordCue_121 (by decide) (fun c_m => ?_) (fun c_m => ?_)
                · refine lv_iload S.1 S.2.1 d_B_recordCue_126 (lv_at hl 2 rfl) ?_
                  refine lv_if_eq (tgt := 139) S.1 S.2.1 d_B_recordCue_128 (by decide) (fun c_41 => ?_) (fun c_41 => ?_)
                  · refine lv_iload S.1 S.2.1 d_B_recordCue_139 (lv_at hl 1 rfl) ?_
                    refine lv_iconst (v := (-1)) S.1 S.2.1 d_B_recordCue_141 (by decide) ?_
                    refine lv_icmp_eq (tgt := 164) S.1 S.2.1 d_B_recordCue_142 (by decide) (fun c_42 => ?_) (fun c_42 => ?_)
                    · refine lv_aload_n S.1 S.2.1 d_B_recordCue_164 rfl (lv_at hl 4 rfl) ?_
                      refine lv_iload S.1 S.2.1 d_B_recordCue_165 (lv_at hl 3 rfl) ?_
                      refine lv_aload_n S.1 S.2.1 d_B_recordCue_167 rfl (lv_at hl 5 rfl) ?_
                      refine uVv (n := 2) (b := 4) (As := [.int (nI (pFor v π n a b)), .ref (ad 87)]) (rest := []) S hK hN hP hS (c_B_putAll hJ v π M hM n hB (pFor v π n a b) 40 (by omega) (by decide)) ⟨hU, t2_170, t2_167, t1_5, by decide +kernel, by decide, by decide⟩ t2_169 tp_5 (by decide) xg_book rfl rfl rfl hl.1 rfl (Nat.le_of_ble_eq_true rfl) d_B_recordCue_168 ⟨Nat.le_of_ble_eq_true rfl, Nat.le_of_ble_eq_true rfl⟩ (fun u H locs hp hP hS => ?_)
                      obtain rfl := hp
                      have hBw_43 := pa_bk (q := (pFor v π n a b)) (k := 40) hB M
                      obtain ⟨w_43, hw_43⟩ : ∃ z, z = pa v π (pFor v π n a b) 40 M := ⟨_, rfl⟩
                      rw [← hw_43] at hP hBw_43
                      refine lv_aload_n S.1 S.2.1 d_B_recordCue_171 rfl (lv_at hl 4 rfl) ?_
                      refine ur_get (k := 4) (v := .ref (ad 5)) S hK hP (by decide) xg_book rfl (fun w h => hU w (in_B w h)) 0 (by decide) (hU _ t1_106) rfl d_B_recordCue_172 ?_
                      refine lv_iload S.1 S.2.1 d_B_recordCue_175 (lv_at hl 3 rfl) ?_
                      refine ur_aald (k := 5) (q := ad (89 + π (pFor v π n a b))) (j := (pFor v π n a b)) S hK hP (by decide) 2 xg_cues rfl rfl (by omega) (by decide) rfl d_B_recordCue_177 ?_
                      refine ur_getN (k := (89 + (π (pFor v π n a b)))) (v := .ref (ad (7 + 2 * (π (pFor v π n a b))))) S hK hP (kb_C (hBw_43.2.2 _ (by omega))) (xg_cue (hBw_43.2.2 _ (by omega))) rfl (fun w h => hU w (in_C w h)) 0 (by decide) (hN _ t1_74) rfl d_B_recordCue_178 ?_
                      refine ur_getN (k := (7 + 2 * (π (pFor v π n a b)))) (v := .int (w_43 16 (π (pFor v π n a b)) 0)) S hK hP (kb_V (Nat.lt_succ_of_lt (hBw_43.2.2 _ (by omega)))) (xg_row (Nat.lt_succ_of_lt (hBw_43.2.2 _ (by omega)))) rfl (fun w h => hU w (in_V w h)) 1 (by decide) (hN _ t1_37) rfl d_B_recordCue_181 ?_
                      have e9 : kpr v π n a b x4 = none := by unfold kpr; first | rw [if_pos c_k] | rw [if_neg c_k, hX_36]
                      have h9 := c_m
                      try rw [ex_39] at h9
                      exact uIret S hr hlk (w_43, π) hP hS (by subst hw_43; unfold recPost; rw [hX_1]; show ite _ _ _; rw [e9]; rw [if_neg (fun z => z (by simpa [kl] using h9))]; exact ⟨rfl, rfl⟩) d_B_recordCue_184
                    · exact absurd rfl c_42
                  · exact absurd (by decide) c_41
                · refine lv_iconst (v := (-1)) S.1 S.2.1 d_B_recordCue_124 (by decide) ?_
                  have e9 : kpr v π n a b x4 = none := by unfold kpr; first | rw [if_pos c_k] | rw [if_neg c_k, hX_36]
                  have h9 := c_m
                  try rw [ex_39] at h9
                  exact uIret S hr hlk (v, π) hP hS (by unfold recPost; rw [hX_1]; show ite _ _ _; rw [e9]; rw [if_pos (by simpa [kl] using h9)]; exact ⟨rfl, rfl⟩) d_B_recordCue_125
              · exact absurd rfl c_40
            · exact absurd (by decide) c_38
          · have hp_37 : p_37 < n := abvO_lt _ hX_36
            refine lv_goto (tgt := 56) S.1 S.2.1 d_B_recordCue_52 (by decide) ?_
            refine lv_istore (lv' := [(7, .int (nI p_37)), (6, .int 0), (5, .int (nI (pFor v π n a b))), (0, .ref (ad 4)), (1, .ref (ad 87)), (2, .int a), (3, .int b), (4, .int x4)]) S.1 S.2.1 d_B_recordCue_56 hl (by decide) rfl (fun ls hl => ?_)
            refine lv_iload S.1 S.2.1 d_B_recordCue_58 (lv_at hl 1 rfl) ?_
            refine lv_if_eq (tgt := 70) S.1 S.2.1 d_B_recordCue_60 (by decide) (fun c_44 => ?_) (fun c_44 => ?_)
            · refine lv_aload_n S.1 S.2.1 d_B_recordCue_70 rfl (lv_at hl 3 rfl) ?_
              refine ur_get (k := 4) (v := .ref (ad 5)) S hK hP (by decide) xg_book rfl (fun w h => hU w (in_B w h)) 0 (by decide) (hU _ t1_106) rfl d_B_recordCue_71 ?_
              refine lv_iload S.1 S.2.1 d_B_recordCue_74 (lv_at hl 2 rfl) ?_
              refine ur_aald (k := 5) (q := ad (89 + π (pFor v π n a b))) (j := (pFor v π n a b)) S hK hP (by decide) 2 xg_cues rfl rfl (by omega) (by decide) rfl d_B_recordCue_76 ?_
              refine ur_getN (k := (89 + (π (pFor v π n a b)))) (v := .ref (ad (7 + 2 * (π (pFor v π n a b))))) S hK hP (kb_C (hB.2.2 _ (by omega))) (xg_cue (hB.2.2 _ (by omega))) rfl (fun w h => hU w (in_C w h)) 0 (by decide) (hN _ t1_74) rfl d_B_recordCue_77 ?_
              refine lv_aload_n S.1 S.2.1 d_B_recordCue_80 rfl (lv_at hl 4 rfl) ?_
              refine uVi (n := 1) (b := (7 + 2 * (π (pFor v π n a b)))) (As := [.ref (ad 87)]) (rest := []) S hK hN hP hS (c_V_lackedOf hJ v π M hM (π (pFor v π n a b)) 40 (Nat.lt_succ_of_lt (hB.2.2 _ (by omega))) (by decide)) ⟨hU, t2_131, t2_128, t1_2, by decide +kernel, by decide, by decide⟩ t2_129 t2_130 (kb_V (Nat.lt_succ_of_lt (hB.2.2 _ (by omega)))) (xg_row (Nat.lt_succ_of_lt (hB.2.2 _ (by omega)))) rfl rfl rfl hl.1 rfl (Nat.le_of_ble_eq_true rfl) d_B_recordCue_81 ⟨Nat.le_of_ble_eq_true rfl, Nat.le_of_ble_eq_true rfl⟩ (fun r u H locs hp hP hS => ?_)
              obtain ⟨rfl, rfl⟩ := hp
              refine lv_topi (fun x_45 ex_45 => ?_)
              refine lv_istore (lv' := [(8, .int x_45), (7, .int (nI p_37)), (6, .int 0), (5, .int (nI (pFor v π n a b))), (0, .ref (ad 4)), (1, .ref (ad 87)), (2, .int a), (3, .int b), (4, .int x4)]) S.1 S.2.1 d_B_recordCue_84 hl (by decide) rfl (fun ls hl => ?_)
              refine lv_iload S.1 S.2.1 d_B_recordCue_86 (lv_at hl 1 rfl) ?_
              refine lv_iconst (v := (-1)) S.1 S.2.1 d_B_recordCue_88 (by decide) ?_
              refine lv_icmp_eq (tgt := 111) S.1 S.2.1 d_B_recordCue_89 (by decide) (fun c_46 => ?_) (fun c_46 => ?_)
              · exact absurd c_46 (nI_nm1 (by omega))
              · refine lv_iload S.1 S.2.1 d_B_recordCue_92 (lv_at hl 0 rfl) ?_
                refine lv_aload_n S.1 S.2.1 d_B_recordCue_94 rfl (lv_at hl 4 rfl) ?_
                refine ur_get (k := 4) (v := .ref (ad 5)) S hK hP (by decide) xg_book rfl (fun w h => hU w (in_B w h)) 0 (by decide) (hU _ t1_106) rfl d_B_recordCue_95 ?_
                refine lv_iload S.1 S.2.1 d_B_recordCue_98 (lv_at hl 1 rfl) ?_
                refine ur_aald (k := 5) (q := ad (89 + π p_37)) (j := p_37) S hK hP (by decide) 2 xg_cues rfl rfl (by omega) (by decide) rfl d_B_recordCue_100 ?_
                refine ur_getN (k := (89 + (π p_37))) (v := .ref (ad (7 + 2 * (π p_37)))) S hK hP (kb_C (hB.2.2 _ (by omega))) (xg_cue (hB.2.2 _ (by omega))) rfl (fun w h => hU w (in_C w h)) 0 (by decide) (hN _ t1_74) rfl d_B_recordCue_101 ?_
                refine lv_aload_n S.1 S.2.1 d_B_recordCue_104 rfl (lv_at hl 5 rfl) ?_
                refine uVi (n := 1) (b := (7 + 2 * (π p_37))) (As := [.ref (ad 87)]) (rest := [.int x_45]) S hK hN hP hS (c_V_lackedOf hJ v π M hM (π p_37) 40 (Nat.lt_succ_of_lt (hB.2.2 _ (by omega))) (by decide)) ⟨hU, t2_131, t2_128, t1_2, by decide +kernel, by decide, by decide⟩ t2_129 t2_130 (kb_V (Nat.lt_succ_of_lt (hB.2.2 _ (by omega)))) (xg_row (Nat.lt_succ_of_lt (hB.2.2 _ (by omega)))) rfl rfl rfl hl.1 rfl (Nat.le_of_ble_eq_true rfl) d_B_recordCue_105 ⟨Nat.le_of_ble_eq_true rfl, Nat.le_of_ble_eq_true rfl⟩ (fun r u H locs hp hP hS => ?_)
                obtain ⟨rfl, rfl⟩ := hp
                refine lv_iadd S.1 S.2.1 d_B_recordCue_108 ?_
                refine lv_topi (fun x_47 ex_47 => ?_)
                refine lv_istore (lv' := [(8, .int x_47), (7, .int (nI p_37)), (6, .int 0), (5, .int (nI (pFor v π n a b))), (0, .ref (ad 4)), (1, .ref (ad 87)), (2, .int a), (3, .int b), (4, .int x4)]) S.1 S.2.1 d_B_recordCue_109 hl (by decide) rfl (fun ls hl => ?_)
                refine lv_aload_n S.1 S.2.1 d_B_recordCue_111 rfl (lv_at hl 4 rfl) ?_
                refine uVi (n := 0) (b := 4) (As := []) (rest := []) S hK hN hP hS (c_B_moveCount hJ v π n hB) ⟨hU, t2_37, t2_136, t1_5, by decide +kernel, by decide, by decide⟩ t2_35 t2_36 (by decide) xg_book rfl rfl rfl hl.1 rfl (Nat.le_of_ble_eq_true rfl) d_B_recordCue_112 ⟨Nat.le_of_ble_eq_true rfl, Nat.le_of_ble_eq_true rfl⟩ (fun r u H locs hp hP hS => ?_)
                obtain ⟨rfl, rfl⟩ := hp
                refine lv_iload S.1 S.2.1 d_B_recordCue_115 (lv_at hl 0 rfl) ?_
                refine lv_iadd S.1 S.2.1 d_B_recordCue_117 ?_
                refine lv_sipush (v := 600) S.1 S.2.1 d_B_recordCue_118 (by decide) ?_
                refine lv_icmp_le (tgt := 126) S.1 S.2.1 d_B_recordCue_121 (by decide) (fun c_m => ?_) (fun c_m => ?_)
                · refine lv_iload S.1 S.2.1 d_B_recordCue_126 (lv_at hl 2 rfl) ?_
                  refine lv_if_eq (tgt := 139) S.1 S.2.1 d_B_recordCue_128 (by decide) (fun c_48 => ?_) (fun c_48 => ?_)
                  · refine lv_iload S.1 S.2.1 d_B_recordCue_139 (lv_at hl 1 rfl) ?_
                    refine lv_iconst (v := (-1)) S.1 S.2.1 d_B_recordCue_141 (by decide) ?_
                    refine lv_icmp_eq (tgt := 164) S.1 S.2.1 d_B_recordCue_142 (by decide) (fun c_49 => ?_) (fun c_49 => ?_)
                    · exact absurd c_49 (nI_nm1 (by omega))
                    · refine lv_aload_n S.1 S.2.1 d_B_recordCue_145 rfl (lv_at hl 4 rfl) ?_
                      refine lv_iload S.1 S.2.1 d_B_recordCue_146 (lv_at hl 2 rfl) ?_
                      refine lv_if_eq (tgt := 158) S.1 S.2.1 d_B_recordCue_148 (by decide) (fun c_50 => ?_) (fun c_50 => ?_)
                      · refine lv_iload S.1 S.2.1 d_B_recordCue_158 (lv_at hl 1 rfl) ?_
                        refine lv_aload_n S.1 S.2.1 d_B_recordCue_160 rfl (lv_at hl 5 rfl) ?_
                        refine uVv (n := 2) (b := 4) (As := [.int (nI p_37), .ref (ad 87)]) (rest := []) S hK hN hP hS (c_B_keepChannels hJ v π M hM n hB p_37 40 (by omega) (by decide)) ⟨hU, t2_149, t2_146, t1_5, by decide +kernel, by decide, by decide⟩ t2_148 tp_4 (by decide) xg_book rfl rfl rfl hl.1 rfl (Nat.le_of_ble_eq_true rfl) d_B_recordCue_161 ⟨Nat.le_of_ble_eq_true rfl, Nat.le_of_ble_eq_true rfl⟩ (fun u H locs hp hP hS => ?_)
                        obtain rfl := hp
                        have hBw_51 := kp_bk (q := p_37) (k := 40) hB M
                        obtain ⟨w_51, hw_51⟩ : ∃ z, z = kp v π p_37 40 M := ⟨_, rfl⟩
                        rw [← hw_51] at hP hBw_51
                        refine lv_aload_n S.1 S.2.1 d_B_recordCue_164 rfl (lv_at hl 4 rfl) ?_
                        refine lv_iload S.1 S.2.1 d_B_recordCue_165 (lv_at hl 3 rfl) ?_
                        refine lv_aload_n S.1 S.2.1 d_B_recordCue_167 rfl (lv_at hl 5 rfl) ?_
                        refine uVv (n := 2) (b := 4) (As := [.int (nI (pFor v π n a b)), .ref (ad 87)]) (rest := []) S hK hN hP hS (c_B_putAll hJ w_51 π M hM n hBw_51 (pFor v π n a b) 40 (by omega) (by decide)) ⟨hU, t2_170, t2_167, t1_5, by decide +kernel, by decide, by decide⟩ t2_169 tp_5 (by decide) xg_book rfl rfl rfl hl.1 rfl (Nat.le_of_ble_eq_true rfl) d_B_recordCue_168 ⟨Nat.le_of_ble_eq_true rfl, Nat.le_of_ble_eq_true rfl⟩ (fun u H locs hp hP hS => ?_)
                        obtain rfl := hp
                        have hBw_52 := pa_bk (q := (pFor v π n a b)) (k := 40) hBw_51 M
                        obtain ⟨w_52, hw_52⟩ : ∃ z, z = pa w_51 π (pFor v π n a b) 40 M := ⟨_, rfl⟩
                        rw [← hw_52] at hP hBw_52
                        refine lv_aload_n S.1 S.2.1 d_B_recordCue_171 rfl (lv_at hl 4 rfl) ?_
                        refine ur_get (k := 4) (v := .ref (ad 5)) S hK hP (by decide) xg_book rfl (fun w h => hU w (in_B w h)) 0 (by decide) (hU _ t1_106) rfl d_B_recordCue_172 ?_
                        refine lv_iload S.1 S.2.1 d_B_recordCue_175 (lv_at hl 3 rfl) ?_
                        refine ur_aald (k := 5) (q := ad (89 + π (pFor v π n a b))) (j := (pFor v π n a b)) S hK hP (by decide) 2 xg_cues rfl rfl (by omega) (by decide) rfl d_B_recordCue_177 ?_
                        refine ur_getN (k := (89 + (π (pFor v π n a b)))) (v := .ref (ad (7 + 2 * (π (pFor v π n a b))))) S hK hP (kb_C (hBw_52.2.2 _ (by omega))) (xg_cue (hBw_52.2.2 _ (by omega))) rfl (fun w h => hU w (in_C w h)) 0 (by decide) (hN _ t1_74) rfl d_B_recordCue_178 ?_
                        refine ur_getN (k := (7 + 2 * (π (pFor v π n a b)))) (v := .int (w_52 16 (π (pFor v π n a b)) 0)) S hK hP (kb_V (Nat.lt_succ_of_lt (hBw_52.2.2 _ (by omega)))) (xg_row (Nat.lt_succ_of_lt (hBw_52.2.2 _ (by omega)))) rfl (fun w h => hU w (in_V w h)) 1 (by decide) (hN _ t1_37) rfl d_B_recordCue_181 ?_
                        have e9 : kpr v π n a b x4 = (some p_37) := by unfold kpr; first | rw [if_pos c_k] | rw [if_neg c_k, hX_36]
                        have h9 := c_m
                        try rw [ex_47] at h9; try rw [ex_45] at h9
                        exact uIret S hr hlk (w_52, π) hP hS (by subst hw_52; subst hw_51; unfold recPost; rw [hX_1]; show ite _ _ _; rw [e9]; rw [if_neg (fun z => z (by simpa [kl] using h9))]; exact ⟨rfl, rfl⟩) d_B_recordCue_184
                      · exact absurd (by decide) c_50
                  · exact absurd (by decide) c_48
                · refine lv_iconst (v := (-1)) S.1 S.2.1 d_B_recordCue_124 (by decide) ?_
                  have e9 : kpr v π n a b x4 = (some p_37) := by unfold kpr; first | rw [if_pos c_k] | rw [if_neg c_k, hX_36]
                  have h9 := c_m
                  try rw [ex_47] at h9; try rw [ex_45] at h9
                  exact uIret S hr hlk (v, π) hP hS (by unfold recPost; rw [hX_1]; show ite _ _ _; rw [e9]; rw [if_pos (by simpa [kl] using h9)]; exact ⟨rfl, rfl⟩) d_B_recordCue_125
            · exact absurd (by decide) c_44
      · exact absurd (by decide) c_29
    · exact absurd c_28 (nI_nm1 (by omega))
end
section
/-! Long.bitCount, Math.max; update (printed by wip/gen/gen_x7.py) -/
set_option maxRecDepth 100000 in
set_option maxHeartbeats 4000000 in
theorem c_JL_bitCount {l : Launch} {D : va_G} {ca : Nat → ClassId} {ad : Nat → Nat} (hJ : uJ 165 ad) (v : Nat → Nat → Nat → Int32) (π : Nat → Nat) (x : Int64) : uMi l y_JL_bitCount b_JL_bitCount 2 (some .int) 0 0 D clsAll (tysAll ca) 165 ad (xG ca ad) (v, π) [.long x] (fun r u => u = (v, π) ∧ r = bcL x) := by
  refine uStart (by decide) (Nat.le_of_ble_eq_true rfl) ?_
  intro p e s m below meth c ls S hr hlk hK hN hP hl
  have hU : ∀ w ∈ uWS, w ∈ (Cond.code y_JL_bitCount b_JL_bitCount 2 (some .int) :: uWS) := fun w h => List.mem_cons_of_mem _ h
  have hS : va_S (uA 165 ad s.heap.size) s.heap s.heap [] := va_S.rf
  have hl : lv_has ls 2 [(0, .long x)] := hl
  refine lv_lload_n S.1 S.2.1 d_JL_bitCount_0 rfl (lv_at hl 0 rfl) ?_
  refine lv_lload_n S.1 S.2.1 d_JL_bitCount_1 rfl (lv_at hl 0 rfl) ?_
  refine lv_iconst (v := 1) S.1 S.2.1 d_JL_bitCount_2 (by decide) ?_
  refine lv_lushr S.1 S.2.1 d_JL_bitCount_3 rfl ?_
  refine lv_ldc2 (v := 6148914691236517205) S.1 S.2.1 S.2.2.2.1 (S.2.2.2.2 _ (hU _ t2_222)) d_JL_bitCount_4 ?_
  refine lv_land S.1 S.2.1 d_JL_bitCount_7 ?_
  refine lv_lsub S.1 S.2.1 d_JL_bitCount_8 ?_
  refine lv_topl (fun x_1 ex_1 => ?_)
  refine lv_lstore_n (lv' := [(0, .long x_1)]) S.1 S.2.1 d_JL_bitCount_9 rfl hl (by decide) rfl (fun ls hl => ?_)
  refine lv_lload_n S.1 S.2.1 d_JL_bitCount_10 rfl (lv_at hl 0 rfl) ?_
  refine lv_ldc2 (v := 3689348814741910323) S.1 S.2.1 S.2.2.2.1 (S.2.2.2.2 _ (hU _ t2_223)) d_JL_bitCount_11 ?_
  refine lv_land S.1 S.2.1 d_JL_bitCount_14 ?_
  refine lv_lload_n S.1 S.2.1 d_JL_bitCount_15 rfl (lv_at hl 0 rfl) ?_
  refine lv_iconst (v := 2) S.1 S.2.1 d_JL_bitCount_16 (by decide) ?_
  refine lv_lushr S.1 S.2.1 d_JL_bitCount_17 rfl ?_
  refine lv_ldc2 (v := 3689348814741910323) S.1 S.2.1 S.2.2.2.1 (S.2.2.2.2 _ (hU _ t2_223)) d_JL_bitCount_18 ?_
  refine lv_land S.1 S.2.1 d_JL_bitCount_21 ?_
  refine lv_ladd S.1 S.2.1 d_JL_bitCount_22 ?_
  refine lv_topl (fun x_2 ex_2 => ?_)
  refine lv_lstore_n (lv' := [(0, .long x_2)]) S.1 S.2.1 d_JL_bitCount_23 rfl hl (by decide) rfl (fun ls hl => ?_)
  refine lv_lload_n S.1 S.2.1 d_JL_bitCount_24 rfl (lv_at hl 0 rfl) ?_
  refine lv_lload_n S.1 S.2.1 d_JL_bitCount_25 rfl (lv_at hl 0 rfl) ?_
  refine lv_iconst (v := 4) S.1 S.2.1 d_JL_bitCount_26 (by decide) ?_
  refine lv_lushr S.1 S.2.1 d_JL_bitCount_27 rfl ?_
  refine lv_ladd S.1 S.2.1 d_JL_bitCount_28 ?_
  refine lv_ldc2 (v := 1085102592571150095) S.1 S.2.1 S.2.2.2.1 (S.2.2.2.2 _ (hU _ t2_224)) d_JL_bitCount_29 ?_
  refine lv_land S.1 S.2.1 d_JL_bitCount_32 ?_
  refine lv_topl (fun x_3 ex_3 => ?_)
  refine lv_lstore_n (lv' := [(0, .long x_3)]) S.1 S.2.1 d_JL_bitCount_33 rfl hl (by decide) rfl (fun ls hl => ?_)
  refine lv_lload_n S.1 S.2.1 d_JL_bitCount_34 rfl (lv_at hl 0 rfl) ?_
  refine lv_lload_n S.1 S.2.1 d_JL_bitCount_35 rfl (lv_at hl 0 rfl) ?_
  refine lv_bipush (v := 8) S.1 S.2.1 d_JL_bitCount_36 (by decide) ?_
  refine lv_lushr S.1 S.2.1 d_JL_bitCount_38 rfl ?_
  refine lv_ladd S.1 S.2.1 d_JL_bitCount_39 ?_
  refine lv_topl (fun x_4 ex_4 => ?_)
  refine lv_lstore_n (lv' := [(0, .long x_4)]) S.1 S.2.1 d_JL_bitCount_40 rfl hl (by decide) rfl (fun ls hl => ?_)
  refine lv_lload_n S.1 S.2.1 d_JL_bitCount_41 rfl (lv_at hl 0 rfl) ?_
  refine lv_lload_n S.1 S.2.1 d_JL_bitCount_42 rfl (lv_at hl 0 rfl) ?_
  refine lv_bipush (v := 16) S.1 S.2.1 d_JL_bitCount_43 (by decide) ?_
  refine lv_lushr S.1 S.2.1 d_JL_bitCount_45 rfl ?_
  refine lv_ladd S.1 S.2.1 d_JL_bitCount_46 ?_
  refine lv_topl (fun x_5 ex_5 => ?_)
  refine lv_lstore_n (lv' := [(0, .long x_5)]) S.1 S.2.1 d_JL_bitCount_47 rfl hl (by decide) rfl (fun ls hl => ?_)
  refine lv_lload_n S.1 S.2.1 d_JL_bitCount_48 rfl (lv_at hl 0 rfl) ?_
  refine lv_lload_n S.1 S.2.1 d_JL_bitCount_49 rfl (lv_at hl 0 rfl) ?_
  refine lv_bipush (v := 32) S.1 S.2.1 d_JL_bitCount_50 (by decide) ?_
  refine lv_lushr S.1 S.2.1 d_JL_bitCount_52 rfl ?_
  refine lv_ladd S.1 S.2.1 d_JL_bitCount_53 ?_
  refine lv_topl (fun x_6 ex_6 => ?_)
  refine lv_lstore_n (lv' := [(0, .long x_6)]) S.1 S.2.1 d_JL_bitCount_54 rfl hl (by decide) rfl (fun ls hl => ?_)
  refine lv_lload_n S.1 S.2.1 d_JL_bitCount_55 rfl (lv_at hl 0 rfl) ?_
  refine lv_l2i S.1 S.2.1 d_JL_bitCount_56 rfl ?_
  refine lv_bipush (v := 127) S.1 S.2.1 d_JL_bitCount_57 (by decide) ?_
  refine lv_iand S.1 S.2.1 d_JL_bitCount_59 ?_
  have fx_1 : x_1 = bc1 x := ex_1
  have fx_2 : x_2 = bc2 x_1 := ex_2
  have fx_3 : x_3 = bc3 x_2 := ex_3
  have fx_4 : x_4 = bc4 8 x_3 := ex_4
  have fx_5 : x_5 = bc4 16 x_4 := ex_5
  have fx_6 : x_6 = bc4 32 x_5 := ex_6
  exact uIret S hr hlk (v, π) hP hS (by refine ⟨rfl, ?_⟩; rw [fx_6, fx_5, fx_4, fx_3, fx_2, fx_1]; rfl) d_JL_bitCount_60

set_option maxRecDepth 100000 in
set_option maxHeartbeats 4000000 in
theorem c_B_updateSources {l : Launch} {D : va_G} {ca : Nat → ClassId} {ad : Nat → Nat} (hJ : uJ 165 ad) (v : Nat → Nat → Nat → Int32) (π : Nat → Nat) (M : Nat) (hM : M = 64) (n : Nat) (hB : xBk v π n) (q : Nat) (hq : q < n) : uMi l y_B_updateSources b_B_updateSources 9 (some .int) 2 45 D clsAll (tysAll ca) 165 ad (xG ca ad) (v, π) [.ref (ad 4), .ref (ad 87), .int (nI q)] (fun r u => if mvs v π n + usc v π q 40 M ≤ 600 then u = (uss v π q 40 M, π) ∧ r = bcL (usl v π q 40 M) else u = (v, π) ∧ r = -1) := by
  refine uStart (by decide) (Nat.le_of_ble_eq_true rfl) ?_
  intro p e s m below meth c ls S hr hlk hK hN hP hl
  have hU : ∀ w ∈ uWS, w ∈ (Cond.code y_B_updateSources b_B_updateSources 9 (some .int) :: uWS) := fun w h => List.mem_cons_of_mem _ h
  have hS : va_S (uA 165 ad s.heap.size) s.heap s.heap [] := va_S.rf
  have hl : lv_has ls 9 [(0, .ref (ad 4)), (1, .ref (ad 87)), (2, .int (nI q))] := hl
  have hn40 : n ≤ 40 := hB.2.1
  refine lv_iconst (v := 0) S.1 S.2.1 d_B_updateSources_0 (by decide) ?_
  refine lv_istore_n (lv' := [(3, .int 0), (0, .ref (ad 4)), (1, .ref (ad 87)), (2, .int (nI q))]) S.1 S.2.1 d_B_updateSources_1 rfl hl (by decide) rfl (fun ls hl => ?_)
  refine lv_iconst (v := 0) S.1 S.2.1 d_B_updateSources_2 (by decide) ?_
  refine lv_istore (lv' := [(4, .int 0), (3, .int 0), (0, .ref (ad 4)), (1, .ref (ad 87)), (2, .int (nI q))]) S.1 S.2.1 d_B_updateSources_3 hl (by decide) rfl (fun ls hl => ?_)
  have L : ∀ i, i ≤ M → ∀ (H : Heap) (locs : List Loc) (ls : Array Slot), va_P D clsAll (uw 165 ad (xG ca ad (v, π))) H → va_S (uA 165 ad s.heap.size) s.heap H locs → lv_has ls 9 [(4, .int (nI i)), (3, .int (usc v π q 40 i)), (0, .ref (ad 4)), (1, .ref (ad 87)), (2, .int (nI q))] → uGi 2 45 D clsAll 165 ad (xG ca ad) (fun r u => if mvs v π n + usc v π q 40 M ≤ 600 then u = (uss v π q 40 M, π) ∧ r = bcL (usl v π q 40 M) else u = (v, π) ∧ r = -1) [.ref (ad 4), .ref (ad 87), .int (nI q)] p l e s m below meth c H locs 5 ls [] := by
    refine upTo M ?_ ?_
    · intro H locs ls hP hS hl
      refine lv_iload S.1 S.2.1 d_B_updateSources_5 (lv_at hl 0 rfl) ?_
      refine lv_bipush (v := 64) S.1 S.2.1 d_B_updateSources_7 (by decide) ?_
      refine lv_icmp_ge (tgt := 41) S.1 S.2.1 d_B_updateSources_9 (by decide) (fun c_h1 => ?_) (fun c_h1 => ?_)
      · refine lv_aload_n S.1 S.2.1 d_B_updateSources_41 rfl (lv_at hl 2 rfl) ?_
        refine uVi (n := 0) (b := 4) (As := []) (rest := []) S hK hN hP hS (c_B_moveCount hJ v π n hB) ⟨hU, t2_37, t2_136, t1_5, by decide +kernel, by decide, by decide⟩ t2_35 t2_36 (by decide) xg_book rfl rfl rfl hl.1 rfl (Nat.le_of_ble_eq_true rfl) d_B_updateSources_42 ⟨Nat.le_of_ble_eq_true rfl, Nat.le_of_ble_eq_true rfl⟩ (fun r u H locs hp hP hS => ?_)
        obtain ⟨rfl, rfl⟩ := hp
        refine lv_iload_n S.1 S.2.1 d_B_updateSources_45 rfl (lv_at hl 1 rfl) ?_
        refine lv_iadd S.1 S.2.1 d_B_updateSources_46 ?_
        refine lv_sipush (v := 600) S.1 S.2.1 d_B_updateSources_47 (by decide) ?_
        refine lv_icmp_le (tgt := 55) S.1 S.2.1 d_B_updateSources_50 (by decide) (fun c_m => ?_) (fun c_m => ?_)
        · refine lv_lconst (v := 0) S.1 S.2.1 d_B_updateSources_55 (by decide) ?_
          refine lv_lstore (lv' := [(4, .long 0), (3, .int (usc v π q 40 M)), (0, .ref (ad 4)), (1, .ref (ad 87)), (2, .int (nI q))]) S.1 S.2.1 d_B_updateSources_56 hl (by decide) rfl (fun ls hl => ?_)
          refine lv_iconst (v := 0) S.1 S.2.1 d_B_updateSources_58 (by decide) ?_
          refine lv_istore (lv' := [(6, .int 0), (4, .long 0), (3, .int (usc v π q 40 M)), (0, .ref (ad 4)), (1, .ref (ad 87)), (2, .int (nI q))]) S.1 S.2.1 d_B_updateSources_59 hl (by decide) rfl (fun ls hl => ?_)
          have L2 : ∀ i, i ≤ M → ∀ (H : Heap) (locs : List Loc) (ls : Array Slot), va_P D clsAll (uw 165 ad (xG ca ad ((uss v π q 40 i), π))) H → va_S (uA 165 ad s.heap.size) s.heap H locs → lv_has ls 9 [(6, .int (nI i)), (4, .long (usl v π q 40 i)), (0, .ref (ad 4)), (1, .ref (ad 87)), (2, .int (nI q))] → uGi 2 45 D clsAll 165 ad (xG ca ad) (fun r u => if mvs v π n + usc v π q 40 M ≤ 600 then u = (uss v π q 40 M, π) ∧ r = bcL (usl v π q 40 M) else u = (v, π) ∧ r = -1) [.ref (ad 4), .ref (ad 87), .int (nI q)] p l e s m below meth c H locs 61 ls [] := by
            refine upTo M ?_ ?_
            · intro H locs ls hP hS hl
              refine lv_iload S.1 S.2.1 d_B_updateSources_61 (lv_at hl 0 rfl) ?_
              refine lv_bipush (v := 64) S.1 S.2.1 d_B_updateSources_63 (by decide) ?_
              refine lv_icmp_ge (tgt := 136) S.1 S.2.1 d_B_updateSources_65 (by decide) (fun c_h2 => ?_) (fun c_h2 => ?_)
              · refine lv_lload S.1 S.2.1 d_B_updateSources_136 (lv_at hl 1 rfl) ?_
                refine uSi (n := 1) (As := [.long (usl v π q 40 M)]) (rest := []) S hK hN hP hS (c_JL_bitCount hJ (uss v π q 40 M) π (usl v π q 40 M)) ⟨hU, t2_221, t2_219, t1_15, by decide +kernel, by decide, by decide⟩ t2_220 rfl hl.1 rfl (Nat.le_of_ble_eq_true rfl) d_B_updateSources_138 ⟨Nat.le_of_ble_eq_true rfl, Nat.le_of_ble_eq_true rfl⟩ (fun r u H locs hp hP hS => ?_)
                obtain ⟨rfl, rfl⟩ := hp
                exact uIret S hr hlk ((uss v π q 40 M), π) hP hS (by rw [if_pos c_m]; exact ⟨rfl, rfl⟩) d_B_updateSources_141
              · exact absurd (by subst hM; exact nI_le (Nat.le_refl 64) (by decide)) c_h2
            · intro i hi ih H locs ls hP hS hl
              have hB := uss_bk (q := q) (k := 40) hB i
              refine lv_iload S.1 S.2.1 d_B_updateSources_61 (lv_at hl 0 rfl) ?_
              refine lv_bipush (v := 64) S.1 S.2.1 d_B_updateSources_63 (by decide) ?_
              refine lv_icmp_ge (tgt := 136) S.1 S.2.1 d_B_updateSources_65 (by decide) (fun c_h2 => ?_) (fun c_h2 => ?_)
              · exact absurd c_h2 (nI_ge (b := 64) (by omega) (by decide))
              · refine lv_aload_n S.1 S.2.1 d_B_updateSources_68 rfl (lv_at hl 3 rfl) ?_
                refine lv_iload S.1 S.2.1 d_B_updateSources_69 (lv_at hl 0 rfl) ?_
                refine uVi (n := 1) (b := (7 + 2 * 40)) (As := [.int (nI i)]) (rest := []) S hK hN hP hS (c_V_has hJ (uss v π q 40 i) π 40 i (by decide) (by omega)) ⟨hU, t2_135, t2_150, t1_2, by decide +kernel, by decide, by decide⟩ t2_133 t2_134 (kb_V (by decide)) (xg_row (by decide)) rfl rfl rfl hl.1 rfl (Nat.le_of_ble_eq_true rfl) d_B_updateSources_71 ⟨Nat.le_of_ble_eq_true rfl, Nat.le_of_ble_eq_true rfl⟩ (fun r u H locs hp hP hS => ?_)
                obtain ⟨rfl, rfl⟩ := hp
                refine lv_if_eq (tgt := 130) S.1 S.2.1 d_B_updateSources_74 (by decide) (fun c_b => ?_) (fun c_b => ?_)
                · have c_b := pI_no c_b
                  refine lv_iinc (v := nI (i + 1)) (lv' := [(6, .int (nI (i + 1))), (4, .long (usl v π q 40 i)), (0, .ref (ad 4)), (1, .ref (ad 87)), (2, .int (nI q))]) S.1 S.2.1 d_B_updateSources_130 hl (k := 0) rfl (nI_1 i) (by decide) rfl (fun ls hl => ?_)
                  refine lv_goto (tgt := 61) S.1 S.2.1 d_B_updateSources_133 (by decide) ?_
                  rw [show usl v π q 40 i = usl v π q 40 (i + 1) from by rw [usl, if_neg c_b]] at hl
                  exact ih _ _ ls (by rw [uss, if_neg c_b]; exact hP) hS (lv_sub hl [0, 1, 2, 3, 4] rfl)
                · have c_b := pI_yes c_b
                  refine lv_aload_n S.1 S.2.1 d_B_updateSources_77 rfl (lv_at hl 2 rfl) ?_
                  refine lv_iload_n S.1 S.2.1 d_B_updateSources_78 rfl (lv_at hl 4 rfl) ?_
                  refine lv_iload S.1 S.2.1 d_B_updateSources_79 (lv_at hl 0 rfl) ?_
                  refine uVi (n := 2) (b := 4) (As := [.int (nI q), .int (nI i)]) (rest := []) S hK hN hP hS (c_B_sourceOf hJ (uss v π q 40 i) π n hB (some q) (fun p h => by cases h; omega) i (by omega)) ⟨hU, t2_158, t2_155, t1_5, by decide +kernel, by decide, by decide⟩ t2_156 t2_157 (by decide) xg_book rfl rfl rfl hl.1 rfl (Nat.le_of_ble_eq_true rfl) d_B_updateSources_81 ⟨Nat.le_of_ble_eq_true rfl, Nat.le_of_ble_eq_true rfl⟩ (fun r u H locs hp hP hS => ?_)
                  obtain ⟨rfl, rfl⟩ := hp
                  rcases hX_1 : srcO (uss v π q 40 i) π i (some q) with _ | p_2
                  · refine lv_istore (lv' := [(7, .int (-1)), (6, .int (nI i)), (4, .long (usl v π q 40 i)), (0, .ref (ad 4)), (1, .ref (ad 87)), (2, .int (nI q))]) S.1 S.2.1 d_B_updateSources_84 hl (by decide) rfl (fun ls hl => ?_)
                    refine lv_iload S.1 S.2.1 d_B_updateSources_86 (lv_at hl 0 rfl) ?_
                    refine lv_iconst (v := (-1)) S.1 S.2.1 d_B_updateSources_88 (by decide) ?_
                    refine lv_icmp_ne (tgt := 96) S.1 S.2.1 d_B_updateSources_89 (by decide) (fun c_3 => ?_) (fun c_3 => ?_)
                    · exact absurd rfl c_3
                    · refine lv_iload_n S.1 S.2.1 d_B_updateSources_92 rfl (lv_at hl 5 rfl) ?_
                      refine lv_goto (tgt := 98) S.1 S.2.1 d_B_updateSources_93 (by decide) ?_
                      refine lv_istore (lv' := [(8, .int (nI q)), (7, .int (-1)), (6, .int (nI i)), (4, .long (usl v π q 40 i)), (0, .ref (ad 4)), (1, .ref (ad 87)), (2, .int (nI q))]) S.1 S.2.1 d_B_updateSources_98 hl (by decide) rfl (fun ls hl => ?_)
                      refine lv_aload_n S.1 S.2.1 d_B_updateSources_100 rfl (lv_at hl 4 rfl) ?_
                      refine ur_get (k := 4) (v := .ref (ad 5)) S hK hP (by decide) xg_book rfl (fun w h => hU w (in_B w h)) 0 (by decide) (hU _ t1_106) rfl d_B_updateSources_101 ?_
                      refine lv_iload S.1 S.2.1 d_B_updateSources_104 (lv_at hl 0 rfl) ?_
                      refine ur_aald (k := 5) (q := ad (89 + π q)) (j := q) S hK hP (by decide) 2 xg_cues rfl rfl (by omega) (by decide) rfl d_B_updateSources_106 ?_
                      refine ur_getN (k := (89 + (π q))) (v := .ref (ad (7 + 2 * (π q)))) S hK hP (kb_C (hB.2.2 _ (by omega))) (xg_cue (hB.2.2 _ (by omega))) rfl (fun w h => hU w (in_C w h)) 0 (by decide) (hN _ t1_74) rfl d_B_updateSources_107 ?_
                      refine lv_iload S.1 S.2.1 d_B_updateSources_110 (lv_at hl 2 rfl) ?_
                      refine lv_aload_n S.1 S.2.1 d_B_updateSources_112 rfl (lv_at hl 5 rfl) ?_
                      refine lv_iload S.1 S.2.1 d_B_updateSources_113 (lv_at hl 2 rfl) ?_
                      refine uVi (n := 1) (b := (7 + 2 * 40)) (As := [.int (nI i)]) (rest := [.int (nI i), .ref (ad (7 + 2 * (π q)))]) S hK hN hP hS (c_V_valueAt hJ (uss v π q 40 i) π 40 i (by decide) (by omega)) ⟨hU, t2_162, t2_159, t1_2, by decide +kernel, by decide, by decide⟩ t2_160 t2_161 (kb_V (by decide)) (xg_row (by decide)) rfl rfl rfl hl.1 rfl (Nat.le_of_ble_eq_true rfl) d_B_updateSources_115 ⟨Nat.le_of_ble_eq_true rfl, Nat.le_of_ble_eq_true rfl⟩ (fun r u H locs hp hP hS => ?_)
                      obtain ⟨rfl, rfl⟩ := hp
                      refine uVv (n := 2) (b := (7 + 2 * (π q))) (As := [.int (nI i), .int ((uss v π q 40 i) 17 40 i)]) (rest := []) S hK hN hP hS (c_V_put hJ (uss v π q 40 i) π (π q) i (Nat.lt_succ_of_lt (hB.2.2 _ (by omega))) (by omega) ((uss v π q 40 i) 17 40 i)) ⟨hU, t1_197, t2_166, t1_2, by decide +kernel, by decide, by decide⟩ t1_195 t1_196 (kb_V (Nat.lt_succ_of_lt (hB.2.2 _ (by omega)))) (xg_row (Nat.lt_succ_of_lt (hB.2.2 _ (by omega)))) rfl rfl rfl hl.1 rfl (Nat.le_of_ble_eq_true rfl) d_B_updateSources_118 ⟨Nat.le_of_ble_eq_true rfl, Nat.le_of_ble_eq_true rfl⟩ (fun u H locs hp hP hS => ?_)
                      obtain rfl := hp
                      refine lv_lload S.1 S.2.1 d_B_updateSources_121 (lv_at hl 3 rfl) ?_
                      refine lv_lconst (v := 1) S.1 S.2.1 d_B_updateSources_123 (by decide) ?_
                      refine lv_iload S.1 S.2.1 d_B_updateSources_124 (lv_at hl 0 rfl) ?_
                      refine lv_lshl S.1 S.2.1 d_B_updateSources_126 rfl ?_
                      refine lv_lor S.1 S.2.1 d_B_updateSources_127 ?_
                      refine lv_topl (fun x_4 ex_4 => ?_)
                      refine lv_lstore (lv' := [(4, .long x_4), (8, .int (nI q)), (7, .int (-1)), (6, .int (nI i)), (0, .ref (ad 4)), (1, .ref (ad 87)), (2, .int (nI q))]) S.1 S.2.1 d_B_updateSources_128 hl (by decide) rfl (fun ls hl => ?_)
                      refine lv_iinc (v := nI (i + 1)) (lv' := [(6, .int (nI (i + 1))), (4, .long x_4), (8, .int (nI q)), (7, .int (-1)), (0, .ref (ad 4)), (1, .ref (ad 87)), (2, .int (nI q))]) S.1 S.2.1 d_B_updateSources_130 hl (k := 3) rfl (nI_1 i) (by decide) rfl (fun ls hl => ?_)
                      refine lv_goto (tgt := 61) S.1 S.2.1 d_B_updateSources_133 (by decide) ?_
                      rw [show x_4 = usl v π q 40 (i + 1) from by rw [ex_4, usl, if_pos c_b, tgt, hX_1]; rfl] at hl
                      exact ih _ _ ls (by rw [uss, if_pos c_b, tgt, hX_1]; exact hP) hS (lv_sub hl [0, 1, 4, 5, 6] rfl)
                  · have hp_2 : p_2 < n := srcO_lt (fun p h => by cases h; omega) _ hX_1
                    refine lv_istore (lv' := [(7, .int (nI p_2)), (6, .int (nI i)), (4, .long (usl v π q 40 i)), (0, .ref (ad 4)), (1, .ref (ad 87)), (2, .int (nI q))]) S.1 S.2.1 d_B_updateSources_84 hl (by decide) rfl (fun ls hl => ?_)
                    refine lv_iload S.1 S.2.1 d_B_updateSources_86 (lv_at hl 0 rfl) ?_
                    refine lv_iconst (v := (-1)) S.1 S.2.1 d_B_updateSources_88 (by decide) ?_
                    refine lv_icmp_ne (tgt := 96) S.1 S.2.1 d_B_updateSources_89 (by decide) (fun c_5 => ?_) (fun c_5 => ?_)
                    · refine lv_iload S.1 S.2.1 d_B_updateSources_96 (lv_at hl 0 rfl) ?_
                      refine lv_istore (lv' := [(8, .int (nI p_2)), (7, .int (nI p_2)), (6, .int (nI i)), (4, .long (usl v π q 40 i)), (0, .ref (ad 4)), (1, .ref (ad 87)), (2, .int (nI q))]) S.1 S.2.1 d_B_updateSources_98 hl (by decide) rfl (fun ls hl => ?_)
                      refine lv_aload_n S.1 S.2.1 d_B_updateSources_100 rfl (lv_at hl 4 rfl) ?_
                      refine ur_get (k := 4) (v := .ref (ad 5)) S hK hP (by decide) xg_book rfl (fun w h => hU w (in_B w h)) 0 (by decide) (hU _ t1_106) rfl d_B_updateSources_101 ?_
                      refine lv_iload S.1 S.2.1 d_B_updateSources_104 (lv_at hl 0 rfl) ?_
                      refine ur_aald (k := 5) (q := ad (89 + π p_2)) (j := p_2) S hK hP (by decide) 2 xg_cues rfl rfl (by omega) (by decide) rfl d_B_updateSources_106 ?_
                      refine ur_getN (k := (89 + (π p_2))) (v := .ref (ad (7 + 2 * (π p_2)))) S hK hP (kb_C (hB.2.2 _ (by omega))) (xg_cue (hB.2.2 _ (by omega))) rfl (fun w h => hU w (in_C w h)) 0 (by decide) (hN _ t1_74) rfl d_B_updateSources_107 ?_
                      refine lv_iload S.1 S.2.1 d_B_updateSources_110 (lv_at hl 2 rfl) ?_
                      refine lv_aload_n S.1 S.2.1 d_B_updateSources_112 rfl (lv_at hl 5 rfl) ?_
                      refine lv_iload S.1 S.2.1 d_B_updateSources_113 (lv_at hl 2 rfl) ?_
                      refine uVi (n := 1) (b := (7 + 2 * 40)) (As := [.int (nI i)]) (rest := [.int (nI i), .ref (ad (7 + 2 * (π p_2)))]) S hK hN hP hS (c_V_valueAt hJ (uss v π q 40 i) π 40 i (by decide) (by omega)) ⟨hU, t2_162, t2_159, t1_2, by decide +kernel, by decide, by decide⟩ t2_160 t2_161 (kb_V (by decide)) (xg_row (by decide)) rfl rfl rfl hl.1 rfl (Nat.le_of_ble_eq_true rfl) d_B_updateSources_115 ⟨Nat.le_of_ble_eq_true rfl, Nat.le_of_ble_eq_true rfl⟩ (fun r u H locs hp hP hS => ?_)
                      obtain ⟨rfl, rfl⟩ := hp
                      refine uVv (n := 2) (b := (7 + 2 * (π p_2))) (As := [.int (nI i), .int ((uss v π q 40 i) 17 40 i)]) (rest := []) S hK hN hP hS (c_V_put hJ (uss v π q 40 i) π (π p_2) i (Nat.lt_succ_of_lt (hB.2.2 _ (by omega))) (by omega) ((uss v π q 40 i) 17 40 i)) ⟨hU, t1_197, t2_166, t1_2, by decide +kernel, by decide, by decide⟩ t1_195 t1_196 (kb_V (Nat.lt_succ_of_lt (hB.2.2 _ (by omega)))) (xg_row (Nat.lt_succ_of_lt (hB.2.2 _ (by omega)))) rfl rfl rfl hl.1 rfl (Nat.le_of_ble_eq_true rfl) d_B_updateSources_118 ⟨Nat.le_of_ble_eq_true rfl, Nat.le_of_ble_eq_true rfl⟩ (fun u H locs hp hP hS => ?_)
                      obtain rfl := hp
                      refine lv_lload S.1 S.2.1 d_B_updateSources_121 (lv_at hl 3 rfl) ?_
                      refine lv_lconst (v := 1) S.1 S.2.1 d_B_updateSources_123 (by decide) ?_
                      refine lv_iload S.1 S.2.1 d_B_updateSources_124 (lv_at hl 0 rfl) ?_
                      refine lv_lshl S.1 S.2.1 d_B_updateSources_126 rfl ?_
                      refine lv_lor S.1 S.2.1 d_B_updateSources_127 ?_
                      refine lv_topl (fun x_6 ex_6 => ?_)
                      refine lv_lstore (lv' := [(4, .long x_6), (8, .int (nI p_2)), (7, .int (nI p_2)), (6, .int (nI i)), (0, .ref (ad 4)), (1, .ref (ad 87)), (2, .int (nI q))]) S.1 S.2.1 d_B_updateSources_128 hl (by decide) rfl (fun ls hl => ?_)
                      refine lv_iinc (v := nI (i + 1)) (lv' := [(6, .int (nI (i + 1))), (4, .long x_6), (8, .int (nI p_2)), (7, .int (nI p_2)), (0, .ref (ad 4)), (1, .ref (ad 87)), (2, .int (nI q))]) S.1 S.2.1 d_B_updateSources_130 hl (k := 3) rfl (nI_1 i) (by decide) rfl (fun ls hl => ?_)
                      refine lv_goto (tgt := 61) S.1 S.2.1 d_B_updateSources_133 (by decide) ?_
                      rw [show x_6 = usl v π q 40 (i + 1) from by rw [ex_6, usl, if_pos c_b, tgt, hX_1]; rfl] at hl
                      exact ih _ _ ls (by rw [uss, if_pos c_b, tgt, hX_1]; exact hP) hS (lv_sub hl [0, 1, 4, 5, 6] rfl)
                    · exact absurd c_5 (nI_nm1 (by omega))
          exact L2 0 (Nat.zero_le _) _ _ ls hP hS (lv_sub hl [0, 1, 3, 4, 5] rfl)
        · refine lv_iconst (v := (-1)) S.1 S.2.1 d_B_updateSources_53 (by decide) ?_
          exact uIret S hr hlk (v, π) hP hS (by rw [if_neg c_m]; exact ⟨rfl, rfl⟩) d_B_updateSources_54
      · exact absurd (by subst hM; exact nI_le (Nat.le_refl 64) (by decide)) c_h1
    · intro i hi ih H locs ls hP hS hl
      refine lv_iload S.1 S.2.1 d_B_updateSources_5 (lv_at hl 0 rfl) ?_
      refine lv_bipush (v := 64) S.1 S.2.1 d_B_updateSources_7 (by decide) ?_
      refine lv_icmp_ge (tgt := 41) S.1 S.2.1 d_B_updateSources_9 (by decide) (fun c_h1 => ?_) (fun c_h1 => ?_)
      · exact absurd c_h1 (nI_ge (b := 64) (by omega) (by decide))
      · refine lv_aload_n S.1 S.2.1 d_B_updateSources_12 rfl (lv_at hl 3 rfl) ?_
        refine lv_iload S.1 S.2.1 d_B_updateSources_13 (lv_at hl 0 rfl) ?_
        refine uVi (n := 1) (b := (7 + 2 * 40)) (As := [.int (nI i)]) (rest := []) S hK hN hP hS (c_V_has hJ v π 40 i (by decide) (by omega)) ⟨hU, t2_135, t2_150, t1_2, by decide +kernel, by decide, by decide⟩ t2_133 t2_134 (kb_V (by decide)) (xg_row (by decide)) rfl rfl rfl hl.1 rfl (Nat.le_of_ble_eq_true rfl) d_B_updateSources_15 ⟨Nat.le_of_ble_eq_true rfl, Nat.le_of_ble_eq_true rfl⟩ (fun r u H locs hp hP hS => ?_)
        obtain ⟨rfl, rfl⟩ := hp
        refine lv_if_eq (tgt := 35) S.1 S.2.1 d_B_updateSources_18 (by decide) (fun c_a => ?_) (fun c_a => ?_)
        · have c_a := pI_no c_a
          refine lv_iinc (v := nI (i + 1)) (lv' := [(4, .int (nI (i + 1))), (3, .int (usc v π q 40 i)), (0, .ref (ad 4)), (1, .ref (ad 87)), (2, .int (nI q))]) S.1 S.2.1 d_B_updateSources_35 hl (k := 0) rfl (nI_1 i) (by decide) rfl (fun ls hl => ?_)
          refine lv_goto (tgt := 5) S.1 S.2.1 d_B_updateSources_38 (by decide) ?_
          rw [show usc v π q 40 i = usc v π q 40 (i + 1) from by rw [usc, if_neg (fun z => c_a z.1)]] at hl
          exact ih _ _ ls hP hS (lv_sub hl [0, 1, 2, 3, 4] rfl)
        · have c_a := pI_yes c_a
          refine lv_aload_n S.1 S.2.1 d_B_updateSources_21 rfl (lv_at hl 2 rfl) ?_
          refine lv_iload_n S.1 S.2.1 d_B_updateSources_22 rfl (lv_at hl 4 rfl) ?_
          refine lv_iload S.1 S.2.1 d_B_updateSources_23 (lv_at hl 0 rfl) ?_
          refine uVi (n := 2) (b := 4) (As := [.int (nI q), .int (nI i)]) (rest := []) S hK hN hP hS (c_B_sourceOf hJ v π n hB (some q) (fun p h => by cases h; omega) i (by omega)) ⟨hU, t2_158, t2_155, t1_5, by decide +kernel, by decide, by decide⟩ t2_156 t2_157 (by decide) xg_book rfl rfl rfl hl.1 rfl (Nat.le_of_ble_eq_true rfl) d_B_updateSources_25 ⟨Nat.le_of_ble_eq_true rfl, Nat.le_of_ble_eq_true rfl⟩ (fun r u H locs hp hP hS => ?_)
          obtain ⟨rfl, rfl⟩ := hp
          rcases hX_7 : srcO v π i (some q) with _ | p_8
          · refine lv_iconst (v := (-1)) S.1 S.2.1 d_B_updateSources_28 (by decide) ?_
            refine lv_icmp_ne (tgt := 35) S.1 S.2.1 d_B_updateSources_29 (by decide) (fun c_9 => ?_) (fun c_9 => ?_)
            · exact absurd rfl c_9
            · obtain ⟨x_10, ex_10⟩ : ∃ y : Int32, y = usc v π q 40 i + 1 := ⟨_, rfl⟩
              refine lv_iinc (v := x_10) (lv' := [(3, .int x_10), (4, .int (nI i)), (0, .ref (ad 4)), (1, .ref (ad 87)), (2, .int (nI q))]) S.1 S.2.1 d_B_updateSources_32 hl (k := 1) rfl (by rw [ex_10]; rfl) (by decide) rfl (fun ls hl => ?_)
              refine lv_iinc (v := nI (i + 1)) (lv' := [(4, .int (nI (i + 1))), (3, .int x_10), (0, .ref (ad 4)), (1, .ref (ad 87)), (2, .int (nI q))]) S.1 S.2.1 d_B_updateSources_35 hl (k := 1) rfl (nI_1 i) (by decide) rfl (fun ls hl => ?_)
              refine lv_goto (tgt := 5) S.1 S.2.1 d_B_updateSources_38 (by decide) ?_
              rw [ex_10, show usc v π q 40 i + 1 = usc v π q 40 (i + 1) from by rw [usc, if_pos ⟨c_a, hX_7⟩]] at hl
              exact ih _ _ ls hP hS (lv_sub hl [0, 1, 2, 3, 4] rfl)
          · have hp_8 : p_8 < n := srcO_lt (fun p h => by cases h; omega) _ hX_7
            refine lv_iconst (v := (-1)) S.1 S.2.1 d_B_updateSources_28 (by decide) ?_
            refine lv_icmp_ne (tgt := 35) S.1 S.2.1 d_B_updateSources_29 (by decide) (fun c_11 => ?_) (fun c_11 => ?_)
            · refine lv_iinc (v := nI (i + 1)) (lv' := [(4, .int (nI (i + 1))), (3, .int (usc v π q 40 i)), (0, .ref (ad 4)), (1, .ref (ad 87)), (2, .int (nI q))]) S.1 S.2.1 d_B_updateSources_35 hl (k := 0) rfl (nI_1 i) (by decide) rfl (fun ls hl => ?_)
              refine lv_goto (tgt := 5) S.1 S.2.1 d_B_updateSources_38 (by decide) ?_
              rw [show usc v π q 40 i = usc v π q 40 (i + 1) from by rw [usc, if_neg (fun z => by rw [hX_7] at z; exact nomatch z.2)]] at hl
              exact ih _ _ ls hP hS (lv_sub hl [0, 1, 2, 3, 4] rfl)
            · exact absurd c_11 (nI_nm1 (by omega))
  exact L 0 (Nat.zero_le _) _ _ ls hP hS (lv_sub hl [0, 1, 2, 3, 4] rfl)
end
section
/-! Words for the desk's own methods -/
def cntS (v : Nat → Nat → Nat → Int32) (π : Nat → Nat) (n : Nat) (x : Int32) : Int32 := if x = 0 then v 4 0 0 else if x = 1 then mvs v π n else if x = 2 then v 16 40 0 else if x = 3 then v 5 0 0 else if x = 4 then v 6 0 0 else -1
theorem xBk_fd {v : Nat → Nat → Nat → Int32} {π : Nat → Nat} {n j ch o : Nat} {x t : Int32} (h : xBk v π n) : xBk (vFd v j ch x o t) π n := by
  refine ⟨?_, h.2⟩
  rw [← h.1]
  simp [vFd, up3]
/-- a cue's fades, channel by channel: playback j, the cue at the place q, the tick t -/
def stt (v : Nat → Nat → Nat → Int32) (π : Nat → Nat) (j q : Nat) (t : Int32) : Nat → Nat → Nat → Nat → Int32
  | 0 => v
  | i + 1 => if vLev (stt v π j q t i) (trk (stt v π j q t i) π i (some q)) i = -1 then stt v π j q t i else vFd (stt v π j q t i) j i (vLev (stt v π j q t i) (trk (stt v π j q t i) π i (some q)) i) (π q) t
theorem stt_bk {v : Nat → Nat → Nat → Int32} {π : Nat → Nat} {n j q : Nat} {t : Int32} (h : xBk v π n) : ∀ i, xBk (stt v π j q t i) π n := by
  intro i
  induction i with
  | zero => exact h
  | succ i ih =>
    unfold stt
    split
    · exact ih
    · exact xBk_fd ih
def vStart1 (w : Nat → Nat → Nat → Int32) (j o : Nat) (t : Int32) : Nat → Nat → Nat → Int32 :=
  up3 (up3 (up3 (up3 w 27 j 0 (w 11 o 0)) 28 j 0 t) 29 j 0 (if w 15 o 0 = -1 then -1 else t + w 15 o 0)) 6 0 0 (w 6 0 0 + 1)
def vStart (v : Nat → Nat → Nat → Int32) (π : Nat → Nat) (j q : Nat) (t : Int32) (M : Nat) : Nat → Nat → Nat → Int32 := vStart1 (stt v π j q t M) j (π q) t
theorem xBk_start {v : Nat → Nat → Nat → Int32} {π : Nat → Nat} {n j q : Nat} {t : Int32} {M : Nat} (h : xBk v π n) : xBk (vStart v π j q t M) π n := by
  have h1 := stt_bk (j := j) (q := q) (t := t) h M
  refine ⟨?_, h.2⟩
  rw [← h1.1]
  simp [vStart, vStart1, up3]
/-- a follow-on is done -/
def vFol (v : Nat → Nat → Nat → Int32) (π : Nat → Nat) (n j M : Nat) : Nat → Nat → Nat → Int32 := match abvO v π n (v 25 j 0) (v 27 j 0) with
  | none => up3 v 29 j 0 (-1)
  | some q => vStart v π j q (v 29 j 0) M
theorem xBk_fol {v : Nat → Nat → Nat → Int32} {π : Nat → Nat} {n j M : Nat} (h : xBk v π n) : xBk (vFol v π n j M) π n := by
  unfold vFol
  split
  · refine ⟨?_, h.2⟩
    rw [← h.1]
    simp [up3]
  · exact xBk_start h
theorem vp_nb0 : vp_nar .boolean 0 = 0 := by decide
theorem vp_nb1 : vp_nar .boolean 1 = 1 := by decide
/-- the follow-on that is due first: playbacks below i -/
def eD (v : Nat → Nat → Nat → Int32) (t : Int32) : Nat → Option Nat × Int32
  | 0 => (none, t)
  | i + 1 => if v 29 i 0 = -1 then eD v t i else if v 29 i 0 ≤ (eD v t i).2 then (if (eD v t i).1 = none then (some i, v 29 i 0) else if (eD v t i).2 ≤ v 29 i 0 then eD v t i else (some i, v 29 i 0)) else eD v t i
theorem eD_lt {v : Nat → Nat → Nat → Int32} {t : Int32} : ∀ i p, (eD v t i).1 = some p → p < i := by
  intro i
  induction i with
  | zero => intro p h; cases h
  | succ i ih =>
    intro p h
    unfold eD at h
    split at h
    · exact Nat.lt_succ_of_lt (ih p h)
    · split at h
      · split at h
        · cases h; exact Nat.lt_succ_self _
        · split at h
          · exact Nat.lt_succ_of_lt (ih p h)
          · cases h; exact Nat.lt_succ_self _
      · exact Nat.lt_succ_of_lt (ih p h)
/-- all follow-ons that are due at the tick t: at most k -/
def tl (π : Nat → Nat) (n : Nat) (t : Int32) (M Q6 : Nat) : Nat → (Nat → Nat → Nat → Int32) → Nat → Nat → Nat → Int32
  | 0, v => v
  | k + 1, v => match (eD v t Q6).1 with
    | none => v
    | some j => tl π n t M Q6 k (vFol v π n j M)
theorem tl_bk {π : Nat → Nat} {n : Nat} {t : Int32} {M Q6 : Nat} : ∀ k (v : Nat → Nat → Nat → Int32), xBk v π n → xBk (tl π n t M Q6 k v) π n := by
  intro k
  induction k with
  | zero => intro v h; exact h
  | succ k ih =>
    intro v h
    unfold tl
    split
    · exact h
    · exact ih _ (xBk_fol h)
/-- OUT's two merges -/
def gL (v : Nat → Nat → Nat → Int32) (ch : Nat) : Nat → Int32
  | 0 => 0
  | i + 1 => if gL v ch i < vAt v i ch (v 5 0 0) * v 26 i 0 / 255 then vAt v i ch (v 5 0 0) * v 26 i 0 / 255 else gL v ch i
def lL (v : Nat → Nat → Nat → Int32) (ch : Nat) : Nat → Int32 × Int32
  | 0 => (0, 0)
  | i + 1 => if v 24 i ch = -1 then lL v ch i else if v 24 i ch < (lL v ch i).2 then lL v ch i else (vAt v i ch (v 5 0 0), v 24 i ch)
end
section
/-! The desk: methods that throw nothing (printed by wip/gen/gen_x8.py) -/
set_option maxRecDepth 100000 in
set_option maxHeartbeats 4000000 in
theorem c_D_isTellable {l : Launch} {D : va_G} {ca : Nat → ClassId} {ad : Nat → Nat} (hJ : uJ 165 ad) (v : Nat → Nat → Nat → Int32) (π : Nat → Nat) (x1 : Int32) : uMi l y_D_isTellable b_D_isTellable 2 (some .boolean) 0 0 D clsAll (tysAll ca) 165 ad (xG ca ad) (v, π) [.ref (ad 0), .int x1] (fun r u => u = (v, π) ∧ r = pI (¬ x1 < v 5 0 0 ∧ ¬ 1000000000 < x1)) := by
  refine uStart (by decide) (Nat.le_of_ble_eq_true rfl) ?_
  intro p e s m below meth c ls S hr hlk hK hN hP hl
  have hU : ∀ w ∈ uWS, w ∈ (Cond.code y_D_isTellable b_D_isTellable 2 (some .boolean) :: uWS) := fun w h => List.mem_cons_of_mem _ h
  have hS : va_S (uA 165 ad s.heap.size) s.heap s.heap [] := va_S.rf
  have hl : lv_has ls 2 [(0, .ref (ad 0)), (1, .int x1)] := hl
  refine lv_iload_n S.1 S.2.1 d_D_isTellable_0 rfl (lv_at hl 1 rfl) ?_
  refine lv_aload_n S.1 S.2.1 d_D_isTellable_1 rfl (lv_at hl 0 rfl) ?_
  refine ur_get (k := 0) (v := .int (v 5 0 0)) S hK hP (by decide) xg_desk rfl (fun w h => hU w (in_D w h)) 5 (by decide) (hU _ t1_163) rfl d_D_isTellable_2 ?_
  refine lv_icmp_lt (tgt := 18) S.1 S.2.1 d_D_isTellable_5 (by decide) (fun c_1 => ?_) (fun c_1 => ?_)
  · refine lv_iconst (v := 0) S.1 S.2.1 d_D_isTellable_18 (by decide) ?_
    exact uZret S hr hlk rfl (v, π) hP hS (by refine ⟨rfl, ?_⟩; simp [pI, c_1]) d_D_isTellable_19
  · refine lv_iload_n S.1 S.2.1 d_D_isTellable_8 rfl (lv_at hl 1 rfl) ?_
    refine lv_ldc (v := 1000000000) S.1 S.2.1 S.2.2.2.1 (S.2.2.2.2 _ (hU _ t3_91)) d_D_isTellable_9 ?_
    refine lv_icmp_gt (tgt := 18) S.1 S.2.1 d_D_isTellable_11 (by decide) (fun c_2 => ?_) (fun c_2 => ?_)
    · refine lv_iconst (v := 0) S.1 S.2.1 d_D_isTellable_18 (by decide) ?_
      exact uZret S hr hlk rfl (v, π) hP hS (by refine ⟨rfl, ?_⟩; simp [pI, c_1, c_2]) d_D_isTellable_19
    · refine lv_iconst (v := 1) S.1 S.2.1 d_D_isTellable_14 (by decide) ?_
      refine lv_goto (tgt := 19) S.1 S.2.1 d_D_isTellable_15 (by decide) ?_
      exact uZret S hr hlk rfl (v, π) hP hS (by refine ⟨rfl, ?_⟩; simp [pI, c_1, c_2]) d_D_isTellable_19

set_option maxRecDepth 100000 in
set_option maxHeartbeats 4000000 in
theorem c_D_kind {l : Launch} {D : va_G} {ca : Nat → ClassId} {ad : Nat → Nat} (hJ : uJ 165 ad) (v : Nat → Nat → Nat → Int32) (π : Nat → Nat) (x1 x2 : Int32) (hz : vp_nar .boolean x2 = x2) : uMi l y_D_kind b_D_kind 3 (some .boolean) 1 20 D clsAll (tysAll ca) 165 ad (xG ca ad) (v, π) [.ref (ad 0), .int x1, .int x2] (fun r u => if isCh x1 then u = (up3 v 0 0 x1.toNatClampNeg x2, π) ∧ r = 1 else u = (v, π) ∧ r = 0) := by
  refine uStart (by decide) (Nat.le_of_ble_eq_true rfl) ?_
  intro p e s m below meth c ls S hr hlk hK hN hP hl
  have hU : ∀ w ∈ uWS, w ∈ (Cond.code y_D_kind b_D_kind 3 (some .boolean) :: uWS) := fun w h => List.mem_cons_of_mem _ h
  have hS : va_S (uA 165 ad s.heap.size) s.heap s.heap [] := va_S.rf
  have hl : lv_has ls 3 [(0, .ref (ad 0)), (1, .int x1), (2, .int x2)] := hl
  refine lv_iload_n S.1 S.2.1 d_D_kind_0 rfl (lv_at hl 1 rfl) ?_
  refine uSi (n := 1) (As := [.int x1]) (rest := []) S hK hN hP hS (c_D_isChannel hJ v π x1) ⟨hU, t1_186, t1_184, t1_1, by decide +kernel, by decide, by decide⟩ t1_185 rfl hl.1 rfl (Nat.le_of_ble_eq_true rfl) d_D_kind_1 ⟨Nat.le_of_ble_eq_true rfl, Nat.le_of_ble_eq_true rfl⟩ (fun r u H locs hp hP hS => ?_)
  obtain ⟨rfl, rfl⟩ := hp
  refine lv_if_ne (tgt := 9) S.1 S.2.1 d_D_kind_4 (by decide) (fun c_a => ?_) (fun c_a => ?_)
  · have c_a := pI_yes c_a
    obtain ⟨ch, hch, ech⟩ := isCh_nat c_a
    subst ech
    refine lv_aload_n S.1 S.2.1 d_D_kind_9 rfl (lv_at hl 0 rfl) ?_
    refine ur_get (k := 0) (v := .ref (ad 1)) S hK hP (by decide) xg_desk rfl (fun w h => hU w (in_D w h)) 0 (by decide) (hU _ t1_158) rfl d_D_kind_10 ?_
    refine lv_iload_n S.1 S.2.1 d_D_kind_13 rfl (lv_at hl 1 rfl) ?_
    refine lv_iload_n S.1 S.2.1 d_D_kind_14 rfl (lv_at hl 2 rfl) ?_
    refine ur_zast (k := 1) (f := (v 0 0)) (j := ch) (g' := xG ca ad (up3 v 0 0 ch x2, π)) S hK hP (uD _ hJ) hS (by decide) 1 xg_att rfl rfl hch (by decide) hz xs_att d_D_kind_15 (fun H locs hP hS => ?_)
    refine lv_iconst (v := 1) S.1 S.2.1 d_D_kind_16 (by decide) ?_
    exact uZret S hr hlk rfl ((up3 v 0 0 ch x2), π) hP hS (by rw [if_pos c_a]; exact ⟨by rw [nI_clamp (by omega)], rfl⟩) d_D_kind_17
  · have c_a := pI_no c_a
    refine lv_iconst (v := 0) S.1 S.2.1 d_D_kind_7 (by decide) ?_
    exact uZret S hr hlk rfl (v, π) hP hS (by rw [if_neg (fun z => c_a z)]; exact ⟨rfl, rfl⟩) d_D_kind_8

set_option maxRecDepth 100000 in
set_option maxHeartbeats 4000000 in
theorem c_D_set {l : Launch} {D : va_G} {ca : Nat → ClassId} {ad : Nat → Nat} (hJ : uJ 165 ad) (v : Nat → Nat → Nat → Int32) (π : Nat → Nat) (x1 x2 : Int32) : uMi l y_D_set b_D_set 3 (some .boolean) 1 22 D clsAll (tysAll ca) 165 ad (xG ca ad) (v, π) [.ref (ad 0), .int x1, .int x2] (fun r u => if isCh x1 ∧ isLv x2 then u = (vPut v 40 x1.toNatClampNeg x2, π) ∧ r = 1 else u = (v, π) ∧ r = 0) := by
  refine uStart (by decide) (Nat.le_of_ble_eq_true rfl) ?_
  intro p e s m below meth c ls S hr hlk hK hN hP hl
  have hU : ∀ w ∈ uWS, w ∈ (Cond.code y_D_set b_D_set 3 (some .boolean) :: uWS) := fun w h => List.mem_cons_of_mem _ h
  have hS : va_S (uA 165 ad s.heap.size) s.heap s.heap [] := va_S.rf
  have hl : lv_has ls 3 [(0, .ref (ad 0)), (1, .int x1), (2, .int x2)] := hl
  refine lv_iload_n S.1 S.2.1 d_D_set_0 rfl (lv_at hl 1 rfl) ?_
  refine uSi (n := 1) (As := [.int x1]) (rest := []) S hK hN hP hS (c_D_isChannel hJ v π x1) ⟨hU, t1_186, t1_184, t1_1, by decide +kernel, by decide, by decide⟩ t1_185 rfl hl.1 rfl (Nat.le_of_ble_eq_true rfl) d_D_set_1 ⟨Nat.le_of_ble_eq_true rfl, Nat.le_of_ble_eq_true rfl⟩ (fun r u H locs hp hP hS => ?_)
  obtain ⟨rfl, rfl⟩ := hp
  refine lv_if_eq (tgt := 14) S.1 S.2.1 d_D_set_4 (by decide) (fun c_a => ?_) (fun c_a => ?_)
  · have c_a := pI_no c_a
    refine lv_iconst (v := 0) S.1 S.2.1 d_D_set_14 (by decide) ?_
    exact uZret S hr hlk rfl (v, π) hP hS (by rw [if_neg (fun z => c_a z.1)]; exact ⟨rfl, rfl⟩) d_D_set_15
  · have c_a := pI_yes c_a
    refine lv_iload_n S.1 S.2.1 d_D_set_7 rfl (lv_at hl 2 rfl) ?_
    refine uSi (n := 1) (As := [.int x2]) (rest := []) S hK hN hP hS (c_D_isLevel hJ v π x2) ⟨hU, t1_193, t1_191, t1_1, by decide +kernel, by decide, by decide⟩ t1_192 rfl hl.1 rfl (Nat.le_of_ble_eq_true rfl) d_D_set_8 ⟨Nat.le_of_ble_eq_true rfl, Nat.le_of_ble_eq_true rfl⟩ (fun r u H locs hp hP hS => ?_)
    obtain ⟨rfl, rfl⟩ := hp
    refine lv_if_ne (tgt := 16) S.1 S.2.1 d_D_set_11 (by decide) (fun c_b => ?_) (fun c_b => ?_)
    · have c_b := pI_yes c_b
      obtain ⟨ch, hch, ech⟩ := isCh_nat c_a
      subst ech
      refine lv_aload_n S.1 S.2.1 d_D_set_16 rfl (lv_at hl 0 rfl) ?_
      refine ur_get (k := 0) (v := .ref (ad 87)) S hK hP (by decide) xg_desk rfl (fun w h => hU w (in_D w h)) 1 (by decide) (hU _ t1_159) rfl d_D_set_17 ?_
      refine lv_iload_n S.1 S.2.1 d_D_set_20 rfl (lv_at hl 1 rfl) ?_
      refine lv_iload_n S.1 S.2.1 d_D_set_21 rfl (lv_at hl 2 rfl) ?_
      refine uVv (n := 2) (b := (7 + 2 * 40)) (As := [.int (nI ch), .int x2]) (rest := []) S hK hN hP hS (c_V_put hJ v π 40 ch (by decide) hch x2) ⟨hU, t1_197, t1_194, t1_2, by decide +kernel, by decide, by decide⟩ t1_195 t1_196 (kb_V (by decide)) (xg_row (by decide)) rfl rfl rfl hl.1 rfl (Nat.le_of_ble_eq_true rfl) d_D_set_22 ⟨Nat.le_of_ble_eq_true rfl, Nat.le_of_ble_eq_true rfl⟩ (fun u H locs hp hP hS => ?_)
      obtain rfl := hp
      refine lv_iconst (v := 1) S.1 S.2.1 d_D_set_25 (by decide) ?_
      exact uZret S hr hlk rfl ((vPut v 40 ch x2), π) hP hS (by rw [if_pos ⟨c_a, c_b⟩]; exact ⟨by rw [nI_clamp (by omega)], rfl⟩) d_D_set_26
    · have c_b := pI_no c_b
      refine lv_iconst (v := 0) S.1 S.2.1 d_D_set_14 (by decide) ?_
      exact uZret S hr hlk rfl (v, π) hP hS (by rw [if_neg (fun z => c_b z.2)]; exact ⟨rfl, rfl⟩) d_D_set_15

set_option maxRecDepth 100000 in
set_option maxHeartbeats 4000000 in
theorem c_D_use {l : Launch} {D : va_G} {ca : Nat → ClassId} {ad : Nat → Nat} (hJ : uJ 165 ad) (v : Nat → Nat → Nat → Int32) (π : Nat → Nat) (x1 x2 : Int32) : uMi l y_D_use b_D_use 3 (some .boolean) 1 22 D clsAll (tysAll ca) 165 ad (xG ca ad) (v, π) [.ref (ad 0), .int x1, .int x2] (fun r u => if isCh x1 ∧ isPal x2 then u = (vPut v 40 x1.toNatClampNeg (256 + x2), π) ∧ r = 1 else u = (v, π) ∧ r = 0) := by
  refine uStart (by decide) (Nat.le_of_ble_eq_true rfl) ?_
  intro p e s m below meth c ls S hr hlk hK hN hP hl
  have hU : ∀ w ∈ uWS, w ∈ (Cond.code y_D_use b_D_use 3 (some .boolean) :: uWS) := fun w h => List.mem_cons_of_mem _ h
  have hS : va_S (uA 165 ad s.heap.size) s.heap s.heap [] := va_S.rf
  have hl : lv_has ls 3 [(0, .ref (ad 0)), (1, .int x1), (2, .int x2)] := hl
  refine lv_iload_n S.1 S.2.1 d_D_use_0 rfl (lv_at hl 1 rfl) ?_
  refine uSi (n := 1) (As := [.int x1]) (rest := []) S hK hN hP hS (c_D_isChannel hJ v π x1) ⟨hU, t1_186, t1_184, t1_1, by decide +kernel, by decide, by decide⟩ t1_185 rfl hl.1 rfl (Nat.le_of_ble_eq_true rfl) d_D_use_1 ⟨Nat.le_of_ble_eq_true rfl, Nat.le_of_ble_eq_true rfl⟩ (fun r u H locs hp hP hS => ?_)
  obtain ⟨rfl, rfl⟩ := hp
  refine lv_if_eq (tgt := 14) S.1 S.2.1 d_D_use_4 (by decide) (fun c_a => ?_) (fun c_a => ?_)
  · have c_a := pI_no c_a
    refine lv_iconst (v := 0) S.1 S.2.1 d_D_use_14 (by decide) ?_
    exact uZret S hr hlk rfl (v, π) hP hS (by rw [if_neg (fun z => c_a z.1)]; exact ⟨rfl, rfl⟩) d_D_use_15
  · have c_a := pI_yes c_a
    refine lv_iload_n S.1 S.2.1 d_D_use_7 rfl (lv_at hl 2 rfl) ?_
    refine uSi (n := 1) (As := [.int x2]) (rest := []) S hK hN hP hS (c_D_isPalette hJ v π x2) ⟨hU, t1_204, t1_202, t1_1, by decide +kernel, by decide, by decide⟩ t1_203 rfl hl.1 rfl (Nat.le_of_ble_eq_true rfl) d_D_use_8 ⟨Nat.le_of_ble_eq_true rfl, Nat.le_of_ble_eq_true rfl⟩ (fun r u H locs hp hP hS => ?_)
    obtain ⟨rfl, rfl⟩ := hp
    refine lv_if_ne (tgt := 16) S.1 S.2.1 d_D_use_11 (by decide) (fun c_b => ?_) (fun c_b => ?_)
    · have c_b := pI_yes c_b
      obtain ⟨ch, hch, ech⟩ := isCh_nat c_a
      subst ech
      refine lv_aload_n S.1 S.2.1 d_D_use_16 rfl (lv_at hl 0 rfl) ?_
      refine ur_get (k := 0) (v := .ref (ad 87)) S hK hP (by decide) xg_desk rfl (fun w h => hU w (in_D w h)) 1 (by decide) (hU _ t1_159) rfl d_D_use_17 ?_
      refine lv_iload_n S.1 S.2.1 d_D_use_20 rfl (lv_at hl 1 rfl) ?_
      refine lv_sipush (v := 256) S.1 S.2.1 d_D_use_21 (by decide) ?_
      refine lv_iload_n S.1 S.2.1 d_D_use_24 rfl (lv_at hl 2 rfl) ?_
      refine lv_iadd S.1 S.2.1 d_D_use_25 ?_
      refine uVv (n := 2) (b := (7 + 2 * 40)) (As := [.int (nI ch), .int (256 + x2)]) (rest := []) S hK hN hP hS (c_V_put hJ v π 40 ch (by decide) hch (256 + x2)) ⟨hU, t1_197, t1_194, t1_2, by decide +kernel, by decide, by decide⟩ t1_195 t1_196 (kb_V (by decide)) (xg_row (by decide)) rfl rfl rfl hl.1 rfl (Nat.le_of_ble_eq_true rfl) d_D_use_26 ⟨Nat.le_of_ble_eq_true rfl, Nat.le_of_ble_eq_true rfl⟩ (fun u H locs hp hP hS => ?_)
      obtain rfl := hp
      refine lv_iconst (v := 1) S.1 S.2.1 d_D_use_29 (by decide) ?_
      exact uZret S hr hlk rfl ((vPut v 40 ch (256 + x2)), π) hP hS (by rw [if_pos ⟨c_a, c_b⟩]; exact ⟨by rw [nI_clamp (by omega)], rfl⟩) d_D_use_30
    · have c_b := pI_no c_b
      refine lv_iconst (v := 0) S.1 S.2.1 d_D_use_14 (by decide) ?_
      exact uZret S hr hlk rfl (v, π) hP hS (by rw [if_neg (fun z => c_b z.2)]; exact ⟨rfl, rfl⟩) d_D_use_15

set_option maxRecDepth 100000 in
set_option maxHeartbeats 4000000 in
theorem c_D_master {l : Launch} {D : va_G} {ca : Nat → ClassId} {ad : Nat → Nat} (hJ : uJ 165 ad) (v : Nat → Nat → Nat → Int32) (π : Nat → Nat) (x1 x2 : Int32) : uMi l y_D_master b_D_master 3 (some .boolean) 1 20 D clsAll (tysAll ca) 165 ad (xG ca ad) (v, π) [.ref (ad 0), .int x1, .int x2] (fun r u => if isPb x1 ∧ isLv x2 then u = (up3 v 26 x1.toNatClampNeg 0 x2, π) ∧ r = 1 else u = (v, π) ∧ r = 0) := by
  refine uStart (by decide) (Nat.le_of_ble_eq_true rfl) ?_
  intro p e s m below meth c ls S hr hlk hK hN hP hl
  have hU : ∀ w ∈ uWS, w ∈ (Cond.code y_D_master b_D_master 3 (some .boolean) :: uWS) := fun w h => List.mem_cons_of_mem _ h
  have hS : va_S (uA 165 ad s.heap.size) s.heap s.heap [] := va_S.rf
  have hl : lv_has ls 3 [(0, .ref (ad 0)), (1, .int x1), (2, .int x2)] := hl
  refine lv_iload_n S.1 S.2.1 d_D_master_0 rfl (lv_at hl 1 rfl) ?_
  refine uSi (n := 1) (As := [.int x1]) (rest := []) S hK hN hP hS (c_D_isPlayback hJ v π x1) ⟨hU, t2_22, t2_20, t1_1, by decide +kernel, by decide, by decide⟩ t2_21 rfl hl.1 rfl (Nat.le_of_ble_eq_true rfl) d_D_master_1 ⟨Nat.le_of_ble_eq_true rfl, Nat.le_of_ble_eq_true rfl⟩ (fun r u H locs hp hP hS => ?_)
  obtain ⟨rfl, rfl⟩ := hp
  refine lv_if_eq (tgt := 14) S.1 S.2.1 d_D_master_4 (by decide) (fun c_a => ?_) (fun c_a => ?_)
  · have c_a := pI_no c_a
    refine lv_iconst (v := 0) S.1 S.2.1 d_D_master_14 (by decide) ?_
    exact uZret S hr hlk rfl (v, π) hP hS (by rw [if_neg (fun z => c_a z.1)]; exact ⟨rfl, rfl⟩) d_D_master_15
  · have c_a := pI_yes c_a
    refine lv_iload_n S.1 S.2.1 d_D_master_7 rfl (lv_at hl 2 rfl) ?_
    refine uSi (n := 1) (As := [.int x2]) (rest := []) S hK hN hP hS (c_D_isLevel hJ v π x2) ⟨hU, t1_193, t1_191, t1_1, by decide +kernel, by decide, by decide⟩ t1_192 rfl hl.1 rfl (Nat.le_of_ble_eq_true rfl) d_D_master_8 ⟨Nat.le_of_ble_eq_true rfl, Nat.le_of_ble_eq_true rfl⟩ (fun r u H locs hp hP hS => ?_)
    obtain ⟨rfl, rfl⟩ := hp
    refine lv_if_ne (tgt := 16) S.1 S.2.1 d_D_master_11 (by decide) (fun c_b => ?_) (fun c_b => ?_)
    · have c_b := pI_yes c_b
      obtain ⟨j, hj, ej⟩ := isPb_nat c_a
      subst ej
      refine lv_aload_n S.1 S.2.1 d_D_master_16 rfl (lv_at hl 0 rfl) ?_
      refine ur_get (k := 0) (v := .ref (ad 6)) S hK hP (by decide) xg_desk rfl (fun w h => hU w (in_D w h)) 4 (by decide) (hU _ t1_162) rfl d_D_master_17 ?_
      refine lv_iload_n S.1 S.2.1 d_D_master_20 rfl (lv_at hl 1 rfl) ?_
      refine ur_aald (k := 6) (q := ad (129 + 6 * j)) (j := j) S hK hP (by decide) 3 xg_plys rfl rfl hj (by decide) rfl d_D_master_21 ?_
      refine lv_iload_n S.1 S.2.1 d_D_master_22 rfl (lv_at hl 2 rfl) ?_
      refine ur_putN (k := (129 + 6 * j)) (v := .int x2) (g' := xG ca ad (up3 v 26 j 0 x2, π)) S hK hP (uD _ hJ) hS (kb_Y hj) (xg_ply hj) rfl (fun w h => hU w (in_Y w h)) ty_Y tyk_Y nm_Y 6 (by decide) (hN _ t1_130) rfl rfl rfl (Nat.le_of_ble_eq_true rfl) (xs_pmaster hj) d_D_master_23 (fun H locs hP hS => ?_)
      refine lv_iconst (v := 1) S.1 S.2.1 d_D_master_26 (by decide) ?_
      exact uZret S hr hlk rfl ((up3 v 26 j 0 x2), π) hP hS (by rw [if_pos ⟨c_a, c_b⟩]; exact ⟨by rw [nI_clamp (by omega)], rfl⟩) d_D_master_27
    · have c_b := pI_no c_b
      refine lv_iconst (v := 0) S.1 S.2.1 d_D_master_14 (by decide) ?_
      exact uZret S hr hlk rfl (v, π) hP hS (by rw [if_neg (fun z => c_b z.2)]; exact ⟨rfl, rfl⟩) d_D_master_15

set_option maxRecDepth 100000 in
set_option maxHeartbeats 4000000 in
theorem c_D_assign {l : Launch} {D : va_G} {ca : Nat → ClassId} {ad : Nat → Nat} (hJ : uJ 165 ad) (v : Nat → Nat → Nat → Int32) (π : Nat → Nat) (x1 x2 : Int32) : uMi l y_D_assign b_D_assign 4 (some .boolean) 1 20 D clsAll (tysAll ca) 165 ad (xG ca ad) (v, π) [.ref (ad 0), .int x1, .int x2] (fun r u => if isPb x1 ∧ isLst x2 ∧ v 28 x1.toNatClampNeg 0 = -1 then u = (up3 v 25 x1.toNatClampNeg 0 x2, π) ∧ r = 1 else u = (v, π) ∧ r = 0) := by
  refine uStart (by decide) (Nat.le_of_ble_eq_true rfl) ?_
  intro p e s m below meth c ls S hr hlk hK hN hP hl
  have hU : ∀ w ∈ uWS, w ∈ (Cond.code y_D_assign b_D_assign 4 (some .boolean) :: uWS) := fun w h => List.mem_cons_of_mem _ h
  have hS : va_S (uA 165 ad s.heap.size) s.heap s.heap [] := va_S.rf
  have hl : lv_has ls 4 [(0, .ref (ad 0)), (1, .int x1), (2, .int x2)] := hl
  refine lv_iload_n S.1 S.2.1 d_D_assign_0 rfl (lv_at hl 1 rfl) ?_
  refine uSi (n := 1) (As := [.int x1]) (rest := []) S hK hN hP hS (c_D_isPlayback hJ v π x1) ⟨hU, t2_22, t2_20, t1_1, by decide +kernel, by decide, by decide⟩ t2_21 rfl hl.1 rfl (Nat.le_of_ble_eq_true rfl) d_D_assign_1 ⟨Nat.le_of_ble_eq_true rfl, Nat.le_of_ble_eq_true rfl⟩ (fun r u H locs hp hP hS => ?_)
  obtain ⟨rfl, rfl⟩ := hp
  refine lv_if_eq (tgt := 14) S.1 S.2.1 d_D_assign_4 (by decide) (fun c_a => ?_) (fun c_a => ?_)
  · have c_a := pI_no c_a
    refine lv_iconst (v := 0) S.1 S.2.1 d_D_assign_14 (by decide) ?_
    exact uZret S hr hlk rfl (v, π) hP hS (by rw [if_neg (fun z => c_a z.1)]; exact ⟨rfl, rfl⟩) d_D_assign_15
  · have c_a := pI_yes c_a
    refine lv_iload_n S.1 S.2.1 d_D_assign_7 rfl (lv_at hl 2 rfl) ?_
    refine uSi (n := 1) (As := [.int x2]) (rest := []) S hK hN hP hS (c_D_isList hJ v π x2) ⟨hU, t2_25, t2_23, t1_1, by decide +kernel, by decide, by decide⟩ t2_24 rfl hl.1 rfl (Nat.le_of_ble_eq_true rfl) d_D_assign_8 ⟨Nat.le_of_ble_eq_true rfl, Nat.le_of_ble_eq_true rfl⟩ (fun r u H locs hp hP hS => ?_)
    obtain ⟨rfl, rfl⟩ := hp
    refine lv_if_ne (tgt := 16) S.1 S.2.1 d_D_assign_11 (by decide) (fun c_b => ?_) (fun c_b => ?_)
    · have c_b := pI_yes c_b
      obtain ⟨j, hj, ej⟩ := isPb_nat c_a
      subst ej
      refine lv_aload_n S.1 S.2.1 d_D_assign_16 rfl (lv_at hl 0 rfl) ?_
      refine ur_get (k := 0) (v := .ref (ad 6)) S hK hP (by decide) xg_desk rfl (fun w h => hU w (in_D w h)) 4 (by decide) (hU _ t1_162) rfl d_D_assign_17 ?_
      refine lv_iload_n S.1 S.2.1 d_D_assign_20 rfl (lv_at hl 1 rfl) ?_
      refine ur_aald (k := 6) (q := ad (129 + 6 * j)) (j := j) S hK hP (by decide) 3 xg_plys rfl rfl hj (by decide) rfl d_D_assign_21 ?_
      refine lv_astore_n (lv' := [(3, .ref (ad (129 + 6 * j))), (0, .ref (ad 0)), (1, .int (nI j)), (2, .int x2)]) S.1 S.2.1 d_D_assign_22 rfl hl (by decide) rfl (fun ls hl => ?_)
      refine lv_aload_n S.1 S.2.1 d_D_assign_23 rfl (lv_at hl 0 rfl) ?_
      refine ur_getN (k := (129 + 6 * j)) (v := .int (v 28 j 0)) S hK hP (kb_Y hj) (xg_ply hj) rfl (fun w h => hU w (in_Y w h)) 8 (by decide) (hN _ t1_134) rfl d_D_assign_24 ?_
      refine lv_iconst (v := (-1)) S.1 S.2.1 d_D_assign_27 (by decide) ?_
      refine lv_icmp_eq (tgt := 33) S.1 S.2.1 d_D_assign_28 (by decide) (fun c_s => ?_) (fun c_s => ?_)
      · refine lv_aload_n S.1 S.2.1 d_D_assign_33 rfl (lv_at hl 0 rfl) ?_
        refine lv_iload_n S.1 S.2.1 d_D_assign_34 rfl (lv_at hl 3 rfl) ?_
        refine ur_putN (k := (129 + 6 * j)) (v := .int x2) (g' := xG ca ad (up3 v 25 j 0 x2, π)) S hK hP (uD _ hJ) hS (kb_Y hj) (xg_ply hj) rfl (fun w h => hU w (in_Y w h)) ty_Y tyk_Y nm_Y 5 (by decide) (hN _ t1_128) rfl rfl rfl (Nat.le_of_ble_eq_true rfl) (xs_plist hj) d_D_assign_35 (fun H locs hP hS => ?_)
        refine lv_iconst (v := 1) S.1 S.2.1 d_D_assign_38 (by decide) ?_
        exact uZret S hr hlk rfl ((up3 v 25 j 0 x2), π) hP hS (by rw [nI_clamp (by omega), if_pos ⟨c_a, c_b, c_s⟩]; exact ⟨rfl, rfl⟩) d_D_assign_39
      · refine lv_iconst (v := 0) S.1 S.2.1 d_D_assign_31 (by decide) ?_
        exact uZret S hr hlk rfl (v, π) hP hS (by rw [nI_clamp (by omega), if_neg (fun z => c_s z.2.2)]; exact ⟨rfl, rfl⟩) d_D_assign_32
    · have c_b := pI_no c_b
      refine lv_iconst (v := 0) S.1 S.2.1 d_D_assign_14 (by decide) ?_
      exact uZret S hr hlk rfl (v, π) hP hS (by rw [if_neg (fun z => c_b z.2.1)]; exact ⟨rfl, rfl⟩) d_D_assign_15

set_option maxRecDepth 100000 in
set_option maxHeartbeats 4000000 in
theorem c_D_release {l : Launch} {D : va_G} {ca : Nat → ClassId} {ad : Nat → Nat} (hJ : uJ 165 ad) (v : Nat → Nat → Nat → Int32) (π : Nat → Nat) (x1 : Int32) : uMi l y_D_release b_D_release 3 (some .int) 2 43 D clsAll (tysAll ca) 165 ad (xG ca ad) (v, π) [.ref (ad 0), .int x1] (fun r u => if x1 = -1 then u = (vDropAll v 40, π) ∧ r = v 16 40 0 - vDropAll v 40 16 40 0 else if isCh x1 then u = (vDrop v 40 x1.toNatClampNeg, π) ∧ r = v 16 40 0 - vDrop v 40 x1.toNatClampNeg 16 40 0 else u = (v, π) ∧ r = v 16 40 0 - v 16 40 0) := by
  refine uStart (by decide) (Nat.le_of_ble_eq_true rfl) ?_
  intro p e s m below meth c ls S hr hlk hK hN hP hl
  have hU : ∀ w ∈ uWS, w ∈ (Cond.code y_D_release b_D_release 3 (some .int) :: uWS) := fun w h => List.mem_cons_of_mem _ h
  have hS : va_S (uA 165 ad s.heap.size) s.heap s.heap [] := va_S.rf
  have hl : lv_has ls 3 [(0, .ref (ad 0)), (1, .int x1)] := hl
  refine lv_aload_n S.1 S.2.1 d_D_release_0 rfl (lv_at hl 0 rfl) ?_
  refine ur_get (k := 0) (v := .ref (ad 87)) S hK hP (by decide) xg_desk rfl (fun w h => hU w (in_D w h)) 1 (by decide) (hU _ t1_159) rfl d_D_release_1 ?_
  refine ur_getN (k := (7 + 2 * 40)) (v := .int (v 16 40 0)) S hK hP (kb_V (by decide)) (xg_row (by decide)) rfl (fun w h => hU w (in_V w h)) 1 (by decide) (hN _ t1_39) rfl d_D_release_4 ?_
  refine lv_istore_n (lv' := [(2, .int (v 16 40 0)), (0, .ref (ad 0)), (1, .int x1)]) S.1 S.2.1 d_D_release_7 rfl hl (by decide) rfl (fun ls hl => ?_)
  refine lv_iload_n S.1 S.2.1 d_D_release_8 rfl (lv_at hl 2 rfl) ?_
  refine lv_iconst (v := (-1)) S.1 S.2.1 d_D_release_9 (by decide) ?_
  refine lv_icmp_ne (tgt := 23) S.1 S.2.1 d_D_release_10 (by decide) (fun c_n => ?_) (fun c_n => ?_)
  · refine lv_iload_n S.1 S.2.1 d_D_release_23 rfl (lv_at hl 2 rfl) ?_
    refine uSi (n := 1) (As := [.int x1]) (rest := []) S hK hN hP hS (c_D_isChannel hJ v π x1) ⟨hU, t1_186, t1_184, t1_1, by decide +kernel, by decide, by decide⟩ t1_185 rfl hl.1 rfl (Nat.le_of_ble_eq_true rfl) d_D_release_24 ⟨Nat.le_of_ble_eq_true rfl, Nat.le_of_ble_eq_true rfl⟩ (fun r u H locs hp hP hS => ?_)
    obtain ⟨rfl, rfl⟩ := hp
    refine lv_if_eq (tgt := 38) S.1 S.2.1 d_D_release_27 (by decide) (fun c_a => ?_) (fun c_a => ?_)
    · have c_a := pI_no c_a
      refine lv_iload_n S.1 S.2.1 d_D_release_38 rfl (lv_at hl 0 rfl) ?_
      refine lv_aload_n S.1 S.2.1 d_D_release_39 rfl (lv_at hl 1 rfl) ?_
      refine ur_get (k := 0) (v := .ref (ad 87)) S hK hP (by decide) xg_desk rfl (fun w h => hU w (in_D w h)) 1 (by decide) (hU _ t1_159) rfl d_D_release_40 ?_
      refine ur_getN (k := (7 + 2 * 40)) (v := .int (v 16 40 0)) S hK hP (kb_V (by decide)) (xg_row (by decide)) rfl (fun w h => hU w (in_V w h)) 1 (by decide) (hN _ t1_39) rfl d_D_release_43 ?_
      refine lv_isub S.1 S.2.1 d_D_release_46 ?_
      exact uIret S hr hlk (v, π) hP hS (by rw [if_neg c_n, if_neg c_a]; exact ⟨rfl, rfl⟩) d_D_release_47
    · have c_a := pI_yes c_a
      obtain ⟨ch, hch, ech⟩ := isCh_nat c_a
      subst ech
      refine lv_aload_n S.1 S.2.1 d_D_release_30 rfl (lv_at hl 1 rfl) ?_
      refine ur_get (k := 0) (v := .ref (ad 87)) S hK hP (by decide) xg_desk rfl (fun w h => hU w (in_D w h)) 1 (by decide) (hU _ t1_159) rfl d_D_release_31 ?_
      refine lv_iload_n S.1 S.2.1 d_D_release_34 rfl (lv_at hl 2 rfl) ?_
      refine uVv (n := 1) (b := (7 + 2 * 40)) (As := [.int (nI ch)]) (rest := []) S hK hN hP hS (c_V_drop hJ v π 40 ch (by decide) hch) ⟨hU, t1_216, t1_213, t1_2, by decide +kernel, by decide, by decide⟩ t1_214 t1_215 (kb_V (by decide)) (xg_row (by decide)) rfl rfl rfl hl.1 rfl (Nat.le_of_ble_eq_true rfl) d_D_release_35 ⟨Nat.le_of_ble_eq_true rfl, Nat.le_of_ble_eq_true rfl⟩ (fun u H locs hp hP hS => ?_)
      obtain rfl := hp
      refine lv_iload_n S.1 S.2.1 d_D_release_38 rfl (lv_at hl 0 rfl) ?_
      refine lv_aload_n S.1 S.2.1 d_D_release_39 rfl (lv_at hl 1 rfl) ?_
      refine ur_get (k := 0) (v := .ref (ad 87)) S hK hP (by decide) xg_desk rfl (fun w h => hU w (in_D w h)) 1 (by decide) (hU _ t1_159) rfl d_D_release_40 ?_
      refine ur_getN (k := (7 + 2 * 40)) (v := .int ((vDrop v 40 ch) 16 40 0)) S hK hP (kb_V (by decide)) (xg_row (by decide)) rfl (fun w h => hU w (in_V w h)) 1 (by decide) (hN _ t1_39) rfl d_D_release_43 ?_
      refine lv_isub S.1 S.2.1 d_D_release_46 ?_
      exact uIret S hr hlk ((vDrop v 40 ch), π) hP hS (by rw [if_neg c_n, if_pos c_a, nI_clamp (by omega)]; exact ⟨rfl, rfl⟩) d_D_release_47
  · refine lv_aload_n S.1 S.2.1 d_D_release_13 rfl (lv_at hl 1 rfl) ?_
    refine ur_get (k := 0) (v := .ref (ad 87)) S hK hP (by decide) xg_desk rfl (fun w h => hU w (in_D w h)) 1 (by decide) (hU _ t1_159) rfl d_D_release_14 ?_
    refine uVv (n := 0) (b := (7 + 2 * 40)) (As := []) (rest := []) S hK hN hP hS (c_V_dropAll hJ v π 40 (by decide)) ⟨hU, t1_212, t1_209, t1_2, by decide +kernel, by decide, by decide⟩ t1_210 t1_211 (kb_V (by decide)) (xg_row (by decide)) rfl rfl rfl hl.1 rfl (Nat.le_of_ble_eq_true rfl) d_D_release_17 ⟨Nat.le_of_ble_eq_true rfl, Nat.le_of_ble_eq_true rfl⟩ (fun u H locs hp hP hS => ?_)
    obtain rfl := hp
    refine lv_goto (tgt := 38) S.1 S.2.1 d_D_release_20 (by decide) ?_
    refine lv_iload_n S.1 S.2.1 d_D_release_38 rfl (lv_at hl 0 rfl) ?_
    refine lv_aload_n S.1 S.2.1 d_D_release_39 rfl (lv_at hl 1 rfl) ?_
    refine ur_get (k := 0) (v := .ref (ad 87)) S hK hP (by decide) xg_desk rfl (fun w h => hU w (in_D w h)) 1 (by decide) (hU _ t1_159) rfl d_D_release_40 ?_
    refine ur_getN (k := (7 + 2 * 40)) (v := .int ((vDropAll v 40) 16 40 0)) S hK hP (kb_V (by decide)) (xg_row (by decide)) rfl (fun w h => hU w (in_V w h)) 1 (by decide) (hN _ t1_39) rfl d_D_release_43 ?_
    refine lv_isub S.1 S.2.1 d_D_release_46 ?_
    exact uIret S hr hlk ((vDropAll v 40), π) hP hS (by rw [if_pos c_n]; exact ⟨rfl, rfl⟩) d_D_release_47

set_option maxRecDepth 100000 in
set_option maxHeartbeats 4000000 in
theorem c_D_palette {l : Launch} {D : va_G} {ca : Nat → ClassId} {ad : Nat → Nat} (hJ : uJ 165 ad) (v : Nat → Nat → Nat → Int32) (π : Nat → Nat) (x1 x2 x3 : Int32) : uMi l y_D_palette b_D_palette 4 (some .boolean) 1 23 D clsAll (tysAll ca) 165 ad (xG ca ad) (v, π) [.ref (ad 0), .int x1, .int x2, .int x3] (fun r u => if isPal x1 ∧ isCh x2 ∧ (x3 = -1 ∨ isLv x3) then u = (up3 v 3 0 (x1.toNatClampNeg * 64 + x2.toNatClampNeg) x3, π) ∧ r = 1 else u = (v, π) ∧ r = 0) := by
  refine uStart (by decide) (Nat.le_of_ble_eq_true rfl) ?_
  intro p e s m below meth c ls S hr hlk hK hN hP hl
  have hU : ∀ w ∈ uWS, w ∈ (Cond.code y_D_palette b_D_palette 4 (some .boolean) :: uWS) := fun w h => List.mem_cons_of_mem _ h
  have hS : va_S (uA 165 ad s.heap.size) s.heap s.heap [] := va_S.rf
  have hl : lv_has ls 4 [(0, .ref (ad 0)), (1, .int x1), (2, .int x2), (3, .int x3)] := hl
  refine lv_iload_n S.1 S.2.1 d_D_palette_0 rfl (lv_at hl 1 rfl) ?_
  refine uSi (n := 1) (As := [.int x1]) (rest := []) S hK hN hP hS (c_D_isPalette hJ v π x1) ⟨hU, t1_204, t1_202, t1_1, by decide +kernel, by decide, by decide⟩ t1_203 rfl hl.1 rfl (Nat.le_of_ble_eq_true rfl) d_D_palette_1 ⟨Nat.le_of_ble_eq_true rfl, Nat.le_of_ble_eq_true rfl⟩ (fun r u H locs hp hP hS => ?_)
  obtain ⟨rfl, rfl⟩ := hp
  refine lv_if_eq (tgt := 14) S.1 S.2.1 d_D_palette_4 (by decide) (fun c_a => ?_) (fun c_a => ?_)
  · have c_a := pI_no c_a
    refine lv_iconst (v := 0) S.1 S.2.1 d_D_palette_14 (by decide) ?_
    exact uZret S hr hlk rfl (v, π) hP hS (by rw [if_neg (fun z => c_a z.1)]; exact ⟨rfl, rfl⟩) d_D_palette_15
  · have c_a := pI_yes c_a
    refine lv_iload_n S.1 S.2.1 d_D_palette_7 rfl (lv_at hl 2 rfl) ?_
    refine uSi (n := 1) (As := [.int x2]) (rest := []) S hK hN hP hS (c_D_isChannel hJ v π x2) ⟨hU, t1_186, t1_184, t1_1, by decide +kernel, by decide, by decide⟩ t1_185 rfl hl.1 rfl (Nat.le_of_ble_eq_true rfl) d_D_palette_8 ⟨Nat.le_of_ble_eq_true rfl, Nat.le_of_ble_eq_true rfl⟩ (fun r u H locs hp hP hS => ?_)
    obtain ⟨rfl, rfl⟩ := hp
    refine lv_if_ne (tgt := 16) S.1 S.2.1 d_D_palette_11 (by decide) (fun c_b => ?_) (fun c_b => ?_)
    · have c_b := pI_yes c_b
      obtain ⟨q, hq, eq⟩ := isPal_nat c_a
      subst eq
      obtain ⟨ch, hch, ech⟩ := isCh_nat c_b
      subst ech
      refine lv_iload_n S.1 S.2.1 d_D_palette_16 rfl (lv_at hl 3 rfl) ?_
      refine lv_iconst (v := (-1)) S.1 S.2.1 d_D_palette_17 (by decide) ?_
      refine lv_icmp_eq (tgt := 30) S.1 S.2.1 d_D_palette_18 (by decide) (fun c_n => ?_) (fun c_n => ?_)
      · refine lv_aload_n S.1 S.2.1 d_D_palette_30 rfl (lv_at hl 0 rfl) ?_
        refine ur_get (k := 0) (v := .ref (ad 2)) S hK hP (by decide) xg_desk rfl (fun w h => hU w (in_D w h)) 2 (by decide) (hU _ t1_160) rfl d_D_palette_31 ?_
        refine lv_iload_n S.1 S.2.1 d_D_palette_34 rfl (lv_at hl 1 rfl) ?_
        refine lv_iload_n S.1 S.2.1 d_D_palette_35 rfl (lv_at hl 2 rfl) ?_
        refine lv_iload_n S.1 S.2.1 d_D_palette_36 rfl (lv_at hl 3 rfl) ?_
        refine uVv (n := 3) (b := 2) (As := [.int (nI q), .int (nI ch), .int x3]) (rest := []) S hK hN hP hS (c_P_store hJ v π q ch hq hch x3) ⟨hU, t1_224, t1_221, t1_4, by decide +kernel, by decide, by decide⟩ t1_222 t1_223 (by decide) xg_pal rfl rfl rfl hl.1 rfl (Nat.le_of_ble_eq_true rfl) d_D_palette_37 ⟨Nat.le_of_ble_eq_true rfl, Nat.le_of_ble_eq_true rfl⟩ (fun u H locs hp hP hS => ?_)
        obtain rfl := hp
        refine lv_iconst (v := 1) S.1 S.2.1 d_D_palette_40 (by decide) ?_
        exact uZret S hr hlk rfl ((up3 v 3 0 (q * 64 + ch) x3), π) hP hS (by rw [if_pos ⟨c_a, c_b, Or.inl c_n⟩, nI_clamp (by omega), nI_clamp (by omega)]; exact ⟨rfl, rfl⟩) d_D_palette_41
      · refine lv_iload_n S.1 S.2.1 d_D_palette_21 rfl (lv_at hl 3 rfl) ?_
        refine uSi (n := 1) (As := [.int x3]) (rest := []) S hK hN hP hS (c_D_isLevel hJ v π x3) ⟨hU, t1_193, t1_191, t1_1, by decide +kernel, by decide, by decide⟩ t1_192 rfl hl.1 rfl (Nat.le_of_ble_eq_true rfl) d_D_palette_22 ⟨Nat.le_of_ble_eq_true rfl, Nat.le_of_ble_eq_true rfl⟩ (fun r u H locs hp hP hS => ?_)
        obtain ⟨rfl, rfl⟩ := hp
        refine lv_if_ne (tgt := 30) S.1 S.2.1 d_D_palette_25 (by decide) (fun c_l => ?_) (fun c_l => ?_)
        · have c_l := pI_yes c_l
          refine lv_aload_n S.1 S.2.1 d_D_palette_30 rfl (lv_at hl 0 rfl) ?_
          refine ur_get (k := 0) (v := .ref (ad 2)) S hK hP (by decide) xg_desk rfl (fun w h => hU w (in_D w h)) 2 (by decide) (hU _ t1_160) rfl d_D_palette_31 ?_
          refine lv_iload_n S.1 S.2.1 d_D_palette_34 rfl (lv_at hl 1 rfl) ?_
          refine lv_iload_n S.1 S.2.1 d_D_palette_35 rfl (lv_at hl 2 rfl) ?_
          refine lv_iload_n S.1 S.2.1 d_D_palette_36 rfl (lv_at hl 3 rfl) ?_
          refine uVv (n := 3) (b := 2) (As := [.int (nI q), .int (nI ch), .int x3]) (rest := []) S hK hN hP hS (c_P_store hJ v π q ch hq hch x3) ⟨hU, t1_224, t1_221, t1_4, by decide +kernel, by decide, by decide⟩ t1_222 t1_223 (by decide) xg_pal rfl rfl rfl hl.1 rfl (Nat.le_of_ble_eq_true rfl) d_D_palette_37 ⟨Nat.le_of_ble_eq_true rfl, Nat.le_of_ble_eq_true rfl⟩ (fun u H locs hp hP hS => ?_)
          obtain rfl := hp
          refine lv_iconst (v := 1) S.1 S.2.1 d_D_palette_40 (by decide) ?_
          exact uZret S hr hlk rfl ((up3 v 3 0 (q * 64 + ch) x3), π) hP hS (by rw [if_pos ⟨c_a, c_b, Or.inr c_l⟩, nI_clamp (by omega), nI_clamp (by omega)]; exact ⟨rfl, rfl⟩) d_D_palette_41
        · have c_l := pI_no c_l
          refine lv_iconst (v := 0) S.1 S.2.1 d_D_palette_28 (by decide) ?_
          exact uZret S hr hlk rfl (v, π) hP hS (by rw [if_neg (fun z => z.2.2.elim c_n c_l)]; exact ⟨rfl, rfl⟩) d_D_palette_29
    · have c_b := pI_no c_b
      refine lv_iconst (v := 0) S.1 S.2.1 d_D_palette_14 (by decide) ?_
      exact uZret S hr hlk rfl (v, π) hP hS (by rw [if_neg (fun z => c_b z.2.1)]; exact ⟨rfl, rfl⟩) d_D_palette_15

set_option maxRecDepth 100000 in
set_option maxHeartbeats 4000000 in
theorem c_D_times {l : Launch} {D : va_G} {ca : Nat → ClassId} {ad : Nat → Nat} (hJ : uJ 165 ad) (v : Nat → Nat → Nat → Int32) (π : Nat → Nat) (n : Nat) (hB : xBk v π n) (a b x3 x4 : Int32) : uMi l y_D_times b_D_times 7 (some .boolean) 3 68 D clsAll (tysAll ca) 165 ad (xG ca ad) (v, π) [.ref (ad 0), .int a, .int b, .int x3, .int x4] (fun r u => match fndO v π n a b with | none => u = (v, π) ∧ r = 0 | some q => if isTm x3 ∧ isTm x4 then u = (up3 (up3 v 12 (π q) 0 x3) 13 (π q) 0 x4, π) ∧ r = 1 else u = (v, π) ∧ r = 0) := by
  refine uStart (by decide) (Nat.le_of_ble_eq_true rfl) ?_
  intro p e s m below meth c ls S hr hlk hK hN hP hl
  have hU : ∀ w ∈ uWS, w ∈ (Cond.code y_D_times b_D_times 7 (some .boolean) :: uWS) := fun w h => List.mem_cons_of_mem _ h
  have hS : va_S (uA 165 ad s.heap.size) s.heap s.heap [] := va_S.rf
  have hl : lv_has ls 7 [(0, .ref (ad 0)), (1, .int a), (2, .int b), (3, .int x3), (4, .int x4)] := hl
  have hn40 : n ≤ 40 := hB.2.1
  refine lv_aload_n S.1 S.2.1 d_D_times_0 rfl (lv_at hl 0 rfl) ?_
  refine ur_get (k := 0) (v := .ref (ad 4)) S hK hP (by decide) xg_desk rfl (fun w h => hU w (in_D w h)) 3 (by decide) (hU _ t1_161) rfl d_D_times_1 ?_
  refine lv_iload_n S.1 S.2.1 d_D_times_4 rfl (lv_at hl 1 rfl) ?_
  refine lv_iload_n S.1 S.2.1 d_D_times_5 rfl (lv_at hl 2 rfl) ?_
  refine uVi (n := 2) (b := 4) (As := [.int a, .int b]) (rest := []) S hK hN hP hS (c_B_find hJ v π n hB a b) ⟨hU, t1_232, t1_229, t1_5, by decide +kernel, by decide, by decide⟩ t1_230 t1_231 (by decide) xg_book rfl rfl rfl hl.1 rfl (Nat.le_of_ble_eq_true rfl) d_D_times_6 ⟨Nat.le_of_ble_eq_true rfl, Nat.le_of_ble_eq_true rfl⟩ (fun r u H locs hp hP hS => ?_)
  obtain ⟨rfl, rfl⟩ := hp
  rcases hX_1 : fndO v π n a b with _ | p_2
  · refine lv_istore (lv' := [(5, .int (-1)), (0, .ref (ad 0)), (1, .int a), (2, .int b), (3, .int x3), (4, .int x4)]) S.1 S.2.1 d_D_times_9 hl (by decide) rfl (fun ls hl => ?_)
    refine lv_iload S.1 S.2.1 d_D_times_11 (lv_at hl 0 rfl) ?_
    refine lv_iconst (v := (-1)) S.1 S.2.1 d_D_times_13 (by decide) ?_
    refine lv_icmp_eq (tgt := 32) S.1 S.2.1 d_D_times_14 (by decide) (fun c_3 => ?_) (fun c_3 => ?_)
    · refine lv_iconst (v := 0) S.1 S.2.1 d_D_times_32 (by decide) ?_
      exact uZret S hr hlk rfl (v, π) hP hS (by (try rw [hX_1]); exact ⟨rfl, rfl⟩) d_D_times_33
    · exact absurd rfl c_3
  · have hp_2 : p_2 < n := fndO_lt _ hX_1
    refine lv_istore (lv' := [(5, .int (nI p_2)), (0, .ref (ad 0)), (1, .int a), (2, .int b), (3, .int x3), (4, .int x4)]) S.1 S.2.1 d_D_times_9 hl (by decide) rfl (fun ls hl => ?_)
    refine lv_iload S.1 S.2.1 d_D_times_11 (lv_at hl 0 rfl) ?_
    refine lv_iconst (v := (-1)) S.1 S.2.1 d_D_times_13 (by decide) ?_
    refine lv_icmp_eq (tgt := 32) S.1 S.2.1 d_D_times_14 (by decide) (fun c_4 => ?_) (fun c_4 => ?_)
    · exact absurd c_4 (nI_nm1 (by omega))
    · refine lv_iload_n S.1 S.2.1 d_D_times_17 rfl (lv_at hl 4 rfl) ?_
      refine uSi (n := 1) (As := [.int x3]) (rest := []) S hK hN hP hS (c_D_isTime hJ v π x3) ⟨hU, t2_7, t2_5, t1_1, by decide +kernel, by decide, by decide⟩ t2_6 rfl hl.1 rfl (Nat.le_of_ble_eq_true rfl) d_D_times_18 ⟨Nat.le_of_ble_eq_true rfl, Nat.le_of_ble_eq_true rfl⟩ (fun r u H locs hp hP hS => ?_)
      obtain ⟨rfl, rfl⟩ := hp
      refine lv_if_eq (tgt := 32) S.1 S.2.1 d_D_times_21 (by decide) (fun c_t => ?_) (fun c_t => ?_)
      · have c_t := pI_no c_t
        refine lv_iconst (v := 0) S.1 S.2.1 d_D_times_32 (by decide) ?_
        exact uZret S hr hlk rfl (v, π) hP hS (by (try rw [hX_1]); show ite _ _ _; rw [if_neg (fun z => c_t z.1)]; exact ⟨rfl, rfl⟩) d_D_times_33
      · have c_t := pI_yes c_t
        refine lv_iload S.1 S.2.1 d_D_times_24 (lv_at hl 5 rfl) ?_
        refine uSi (n := 1) (As := [.int x4]) (rest := []) S hK hN hP hS (c_D_isTime hJ v π x4) ⟨hU, t2_7, t2_5, t1_1, by decide +kernel, by decide, by decide⟩ t2_6 rfl hl.1 rfl (Nat.le_of_ble_eq_true rfl) d_D_times_26 ⟨Nat.le_of_ble_eq_true rfl, Nat.le_of_ble_eq_true rfl⟩ (fun r u H locs hp hP hS => ?_)
        obtain ⟨rfl, rfl⟩ := hp
        refine lv_if_ne (tgt := 34) S.1 S.2.1 d_D_times_29 (by decide) (fun c_u => ?_) (fun c_u => ?_)
        · have c_u := pI_yes c_u
          refine lv_aload_n S.1 S.2.1 d_D_times_34 rfl (lv_at hl 1 rfl) ?_
          refine ur_get (k := 0) (v := .ref (ad 4)) S hK hP (by decide) xg_desk rfl (fun w h => hU w (in_D w h)) 3 (by decide) (hU _ t1_161) rfl d_D_times_35 ?_
          refine lv_iload S.1 S.2.1 d_D_times_38 (lv_at hl 0 rfl) ?_
          refine uVr (n := 1) (b := 4) (As := [.int (nI p_2)]) (rest := []) S hK hN hP hS (c_B_at hJ v π p_2 (by omega)) ⟨hU, t2_11, t2_8, t1_5, by decide +kernel, by decide, by decide⟩ t2_9 t2_10 (by decide) xg_book rfl rfl rfl hl.1 rfl (Nat.le_of_ble_eq_true rfl) d_D_times_40 ⟨Nat.le_of_ble_eq_true rfl, Nat.le_of_ble_eq_true rfl⟩ (fun r u H locs hp hP hS => ?_)
          obtain ⟨rfl, rfl⟩ := hp
          refine lv_astore (lv' := [(6, .ref (ad (89 + π p_2))), (5, .int (nI p_2)), (0, .ref (ad 0)), (1, .int a), (2, .int b), (3, .int x3), (4, .int x4)]) S.1 S.2.1 d_D_times_43 hl (by decide) rfl (fun ls hl => ?_)
          refine lv_aload S.1 S.2.1 d_D_times_45 (lv_at hl 0 rfl) ?_
          refine lv_iload_n S.1 S.2.1 d_D_times_47 rfl (lv_at hl 5 rfl) ?_
          refine ur_putN (k := (89 + (π p_2))) (v := .int x3) (g' := xG ca ad (up3 v 12 (π p_2) 0 x3, π)) S hK hP (uD _ hJ) hS (kb_C (hB.2.2 _ (by omega))) (xg_cue (hB.2.2 _ (by omega))) rfl (fun w h => hU w (in_C w h)) ty_C tyk_C nm_C 3 (by decide) (hN _ t1_82) rfl rfl rfl (Nat.le_of_ble_eq_true rfl) (xs_cup (hB.2.2 _ (by omega))) d_D_times_48 (fun H locs hP hS => ?_)
          refine lv_aload S.1 S.2.1 d_D_times_51 (lv_at hl 0 rfl) ?_
          refine lv_iload S.1 S.2.1 d_D_times_53 (lv_at hl 6 rfl) ?_
          refine ur_putN (k := (89 + (π p_2))) (v := .int x4) (g' := xG ca ad (up3 (up3 v 12 (π p_2) 0 x3) 13 (π p_2) 0 x4, π)) S hK hP (uD _ hJ) hS (kb_C (hB.2.2 _ (by omega))) (xg_cue (hB.2.2 _ (by omega))) rfl (fun w h => hU w (in_C w h)) ty_C tyk_C nm_C 4 (by decide) (hN _ t1_85) rfl rfl rfl (Nat.le_of_ble_eq_true rfl) (xs_cdown (hB.2.2 _ (by omega))) d_D_times_55 (fun H locs hP hS => ?_)
          refine lv_iconst (v := 1) S.1 S.2.1 d_D_times_58 (by decide) ?_
          exact uZret S hr hlk rfl ((up3 (up3 v 12 (π p_2) 0 x3) 13 (π p_2) 0 x4), π) hP hS (by (try rw [hX_1]); show ite _ _ _; rw [if_pos ⟨c_t, c_u⟩]; exact ⟨rfl, rfl⟩) d_D_times_59
        · have c_u := pI_no c_u
          refine lv_iconst (v := 0) S.1 S.2.1 d_D_times_32 (by decide) ?_
          exact uZret S hr hlk rfl (v, π) hP hS (by (try rw [hX_1]); show ite _ _ _; rw [if_neg (fun z => c_u z.2)]; exact ⟨rfl, rfl⟩) d_D_times_33

set_option maxRecDepth 100000 in
set_option maxHeartbeats 4000000 in
theorem c_D_delays {l : Launch} {D : va_G} {ca : Nat → ClassId} {ad : Nat → Nat} (hJ : uJ 165 ad) (v : Nat → Nat → Nat → Int32) (π : Nat → Nat) (n : Nat) (hB : xBk v π n) (a b x3 x4 : Int32) : uMi l y_D_delays b_D_delays 7 (some .boolean) 3 68 D clsAll (tysAll ca) 165 ad (xG ca ad) (v, π) [.ref (ad 0), .int a, .int b, .int x3, .int x4] (fun r u => match fndO v π n a b with | none => u = (v, π) ∧ r = 0 | some q => if isTm x3 ∧ (x4 = -1 ∨ isTm x4) then u = (up3 (up3 v 14 (π q) 0 x3) 15 (π q) 0 x4, π) ∧ r = 1 else u = (v, π) ∧ r = 0) := by
  refine uStart (by decide) (Nat.le_of_ble_eq_true rfl) ?_
  intro p e s m below meth c ls S hr hlk hK hN hP hl
  have hU : ∀ w ∈ uWS, w ∈ (Cond.code y_D_delays b_D_delays 7 (some .boolean) :: uWS) := fun w h => List.mem_cons_of_mem _ h
  have hS : va_S (uA 165 ad s.heap.size) s.heap s.heap [] := va_S.rf
  have hl : lv_has ls 7 [(0, .ref (ad 0)), (1, .int a), (2, .int b), (3, .int x3), (4, .int x4)] := hl
  have hn40 : n ≤ 40 := hB.2.1
  refine lv_aload_n S.1 S.2.1 d_D_delays_0 rfl (lv_at hl 0 rfl) ?_
  refine ur_get (k := 0) (v := .ref (ad 4)) S hK hP (by decide) xg_desk rfl (fun w h => hU w (in_D w h)) 3 (by decide) (hU _ t1_161) rfl d_D_delays_1 ?_
  refine lv_iload_n S.1 S.2.1 d_D_delays_4 rfl (lv_at hl 1 rfl) ?_
  refine lv_iload_n S.1 S.2.1 d_D_delays_5 rfl (lv_at hl 2 rfl) ?_
  refine uVi (n := 2) (b := 4) (As := [.int a, .int b]) (rest := []) S hK hN hP hS (c_B_find hJ v π n hB a b) ⟨hU, t1_232, t1_229, t1_5, by decide +kernel, by decide, by decide⟩ t1_230 t1_231 (by decide) xg_book rfl rfl rfl hl.1 rfl (Nat.le_of_ble_eq_true rfl) d_D_delays_6 ⟨Nat.le_of_ble_eq_true rfl, Nat.le_of_ble_eq_true rfl⟩ (fun r u H locs hp hP hS => ?_)
  obtain ⟨rfl, rfl⟩ := hp
  rcases hX_1 : fndO v π n a b with _ | p_2
  · refine lv_istore (lv' := [(5, .int (-1)), (0, .ref (ad 0)), (1, .int a), (2, .int b), (3, .int x3), (4, .int x4)]) S.1 S.2.1 d_D_delays_9 hl (by decide) rfl (fun ls hl => ?_)
    refine lv_iload S.1 S.2.1 d_D_delays_11 (lv_at hl 0 rfl) ?_
    refine lv_iconst (v := (-1)) S.1 S.2.1 d_D_delays_13 (by decide) ?_
    refine lv_icmp_eq (tgt := 24) S.1 S.2.1 d_D_delays_14 (by decide) (fun c_3 => ?_) (fun c_3 => ?_)
    · refine lv_iconst (v := 0) S.1 S.2.1 d_D_delays_24 (by decide) ?_
      exact uZret S hr hlk rfl (v, π) hP hS (by (try rw [hX_1]); exact ⟨rfl, rfl⟩) d_D_delays_25
    · exact absurd rfl c_3
  · have hp_2 : p_2 < n := fndO_lt _ hX_1
    refine lv_istore (lv' := [(5, .int (nI p_2)), (0, .ref (ad 0)), (1, .int a), (2, .int b), (3, .int x3), (4, .int x4)]) S.1 S.2.1 d_D_delays_9 hl (by decide) rfl (fun ls hl => ?_)
    refine lv_iload S.1 S.2.1 d_D_delays_11 (lv_at hl 0 rfl) ?_
    refine lv_iconst (v := (-1)) S.1 S.2.1 d_D_delays_13 (by decide) ?_
    refine lv_icmp_eq (tgt := 24) S.1 S.2.1 d_D_delays_14 (by decide) (fun c_4 => ?_) (fun c_4 => ?_)
    · exact absurd c_4 (nI_nm1 (by omega))
    · refine lv_iload_n S.1 S.2.1 d_D_delays_17 rfl (lv_at hl 4 rfl) ?_
      refine uSi (n := 1) (As := [.int x3]) (rest := []) S hK hN hP hS (c_D_isTime hJ v π x3) ⟨hU, t2_7, t2_5, t1_1, by decide +kernel, by decide, by decide⟩ t2_6 rfl hl.1 rfl (Nat.le_of_ble_eq_true rfl) d_D_delays_18 ⟨Nat.le_of_ble_eq_true rfl, Nat.le_of_ble_eq_true rfl⟩ (fun r u H locs hp hP hS => ?_)
      obtain ⟨rfl, rfl⟩ := hp
      refine lv_if_ne (tgt := 26) S.1 S.2.1 d_D_delays_21 (by decide) (fun c_t => ?_) (fun c_t => ?_)
      · have c_t := pI_yes c_t
        refine lv_iload S.1 S.2.1 d_D_delays_26 (lv_at hl 5 rfl) ?_
        refine lv_iconst (v := (-1)) S.1 S.2.1 d_D_delays_28 (by decide) ?_
        refine lv_icmp_eq (tgt := 42) S.1 S.2.1 d_D_delays_29 (by decide) (fun c_n => ?_) (fun c_n => ?_)
        · refine lv_aload_n S.1 S.2.1 d_D_delays_42 rfl (lv_at hl 1 rfl) ?_
          refine ur_get (k := 0) (v := .ref (ad 4)) S hK hP (by decide) xg_desk rfl (fun w h => hU w (in_D w h)) 3 (by decide) (hU _ t1_161) rfl d_D_delays_43 ?_
          refine lv_iload S.1 S.2.1 d_D_delays_46 (lv_at hl 0 rfl) ?_
          refine uVr (n := 1) (b := 4) (As := [.int (nI p_2)]) (rest := []) S hK hN hP hS (c_B_at hJ v π p_2 (by omega)) ⟨hU, t2_11, t2_8, t1_5, by decide +kernel, by decide, by decide⟩ t2_9 t2_10 (by decide) xg_book rfl rfl rfl hl.1 rfl (Nat.le_of_ble_eq_true rfl) d_D_delays_48 ⟨Nat.le_of_ble_eq_true rfl, Nat.le_of_ble_eq_true rfl⟩ (fun r u H locs hp hP hS => ?_)
          obtain ⟨rfl, rfl⟩ := hp
          refine lv_astore (lv' := [(6, .ref (ad (89 + π p_2))), (5, .int (nI p_2)), (0, .ref (ad 0)), (1, .int a), (2, .int b), (3, .int x3), (4, .int x4)]) S.1 S.2.1 d_D_delays_51 hl (by decide) rfl (fun ls hl => ?_)
          refine lv_aload S.1 S.2.1 d_D_delays_53 (lv_at hl 0 rfl) ?_
          refine lv_iload_n S.1 S.2.1 d_D_delays_55 rfl (lv_at hl 5 rfl) ?_
          refine ur_putN (k := (89 + (π p_2))) (v := .int x3) (g' := xG ca ad (up3 v 14 (π p_2) 0 x3, π)) S hK hP (uD _ hJ) hS (kb_C (hB.2.2 _ (by omega))) (xg_cue (hB.2.2 _ (by omega))) rfl (fun w h => hU w (in_C w h)) ty_C tyk_C nm_C 5 (by decide) (hN _ t1_88) rfl rfl rfl (Nat.le_of_ble_eq_true rfl) (xs_cdelay (hB.2.2 _ (by omega))) d_D_delays_56 (fun H locs hP hS => ?_)
          refine lv_aload S.1 S.2.1 d_D_delays_59 (lv_at hl 0 rfl) ?_
          refine lv_iload S.1 S.2.1 d_D_delays_61 (lv_at hl 6 rfl) ?_
          refine ur_putN (k := (89 + (π p_2))) (v := .int x4) (g' := xG ca ad (up3 (up3 v 14 (π p_2) 0 x3) 15 (π p_2) 0 x4, π)) S hK hP (uD _ hJ) hS (kb_C (hB.2.2 _ (by omega))) (xg_cue (hB.2.2 _ (by omega))) rfl (fun w h => hU w (in_C w h)) ty_C tyk_C nm_C 6 (by decide) (hN _ t1_90) rfl rfl rfl (Nat.le_of_ble_eq_true rfl) (xs_cfollow (hB.2.2 _ (by omega))) d_D_delays_63 (fun H locs hP hS => ?_)
          refine lv_iconst (v := 1) S.1 S.2.1 d_D_delays_66 (by decide) ?_
          exact uZret S hr hlk rfl ((up3 (up3 v 14 (π p_2) 0 x3) 15 (π p_2) 0 x4), π) hP hS (by (try rw [hX_1]); show ite _ _ _; rw [if_pos ⟨c_t, Or.inl c_n⟩]; exact ⟨rfl, rfl⟩) d_D_delays_67
        · refine lv_iload S.1 S.2.1 d_D_delays_32 (lv_at hl 5 rfl) ?_
          refine uSi (n := 1) (As := [.int x4]) (rest := []) S hK hN hP hS (c_D_isTime hJ v π x4) ⟨hU, t2_7, t2_5, t1_1, by decide +kernel, by decide, by decide⟩ t2_6 rfl hl.1 rfl (Nat.le_of_ble_eq_true rfl) d_D_delays_34 ⟨Nat.le_of_ble_eq_true rfl, Nat.le_of_ble_eq_true rfl⟩ (fun r u H locs hp hP hS => ?_)
          obtain ⟨rfl, rfl⟩ := hp
          refine lv_if_ne (tgt := 42) S.1 S.2.1 d_D_delays_37 (by decide) (fun c_u => ?_) (fun c_u => ?_)
          · have c_u := pI_yes c_u
            refine lv_aload_n S.1 S.2.1 d_D_delays_42 rfl (lv_at hl 1 rfl) ?_
            refine ur_get (k := 0) (v := .ref (ad 4)) S hK hP (by decide) xg_desk rfl (fun w h => hU w (in_D w h)) 3 (by decide) (hU _ t1_161) rfl d_D_delays_43 ?_
            refine lv_iload S.1 S.2.1 d_D_delays_46 (lv_at hl 0 rfl) ?_
            refine uVr (n := 1) (b := 4) (As := [.int (nI p_2)]) (rest := []) S hK hN hP hS (c_B_at hJ v π p_2 (by omega)) ⟨hU, t2_11, t2_8, t1_5, by decide +kernel, by decide, by decide⟩ t2_9 t2_10 (by decide) xg_book rfl rfl rfl hl.1 rfl (Nat.le_of_ble_eq_true rfl) d_D_delays_48 ⟨Nat.le_of_ble_eq_true rfl, Nat.le_of_ble_eq_true rfl⟩ (fun r u H locs hp hP hS => ?_)
            obtain ⟨rfl, rfl⟩ := hp
            refine lv_astore (lv' := [(6, .ref (ad (89 + π p_2))), (5, .int (nI p_2)), (0, .ref (ad 0)), (1, .int a), (2, .int b), (3, .int x3), (4, .int x4)]) S.1 S.2.1 d_D_delays_51 hl (by decide) rfl (fun ls hl => ?_)
            refine lv_aload S.1 S.2.1 d_D_delays_53 (lv_at hl 0 rfl) ?_
            refine lv_iload_n S.1 S.2.1 d_D_delays_55 rfl (lv_at hl 5 rfl) ?_
            refine ur_putN (k := (89 + (π p_2))) (v := .int x3) (g' := xG ca ad (up3 v 14 (π p_2) 0 x3, π)) S hK hP (uD _ hJ) hS (kb_C (hB.2.2 _ (by omega))) (xg_cue (hB.2.2 _ (by omega))) rfl (fun w h => hU w (in_C w h)) ty_C tyk_C nm_C 5 (by decide) (hN _ t1_88) rfl rfl rfl (Nat.le_of_ble_eq_true rfl) (xs_cdelay (hB.2.2 _ (by omega))) d_D_delays_56 (fun H locs hP hS => ?_)
            refine lv_aload S.1 S.2.1 d_D_delays_59 (lv_at hl 0 rfl) ?_
            refine lv_iload S.1 S.2.1 d_D_delays_61 (lv_at hl 6 rfl) ?_
            refine ur_putN (k := (89 + (π p_2))) (v := .int x4) (g' := xG ca ad (up3 (up3 v 14 (π p_2) 0 x3) 15 (π p_2) 0 x4, π)) S hK hP (uD _ hJ) hS (kb_C (hB.2.2 _ (by omega))) (xg_cue (hB.2.2 _ (by omega))) rfl (fun w h => hU w (in_C w h)) ty_C tyk_C nm_C 6 (by decide) (hN _ t1_90) rfl rfl rfl (Nat.le_of_ble_eq_true rfl) (xs_cfollow (hB.2.2 _ (by omega))) d_D_delays_63 (fun H locs hP hS => ?_)
            refine lv_iconst (v := 1) S.1 S.2.1 d_D_delays_66 (by decide) ?_
            exact uZret S hr hlk rfl ((up3 (up3 v 14 (π p_2) 0 x3) 15 (π p_2) 0 x4), π) hP hS (by (try rw [hX_1]); show ite _ _ _; rw [if_pos ⟨c_t, Or.inr c_u⟩]; exact ⟨rfl, rfl⟩) d_D_delays_67
          · have c_u := pI_no c_u
            refine lv_iconst (v := 0) S.1 S.2.1 d_D_delays_40 (by decide) ?_
            exact uZret S hr hlk rfl (v, π) hP hS (by (try rw [hX_1]); show ite _ _ _; rw [if_neg (fun z => z.2.elim c_n c_u)]; exact ⟨rfl, rfl⟩) d_D_delays_41
      · have c_t := pI_no c_t
        refine lv_iconst (v := 0) S.1 S.2.1 d_D_delays_24 (by decide) ?_
        exact uZret S hr hlk rfl (v, π) hP hS (by (try rw [hX_1]); show ite _ _ _; rw [if_neg (fun z => c_t z.1)]; exact ⟨rfl, rfl⟩) d_D_delays_25

set_option maxRecDepth 100000 in
set_option maxHeartbeats 4000000 in
theorem c_D_count {l : Launch} {D : va_G} {ca : Nat → ClassId} {ad : Nat → Nat} (hJ : uJ 165 ad) (v : Nat → Nat → Nat → Int32) (π : Nat → Nat) (n : Nat) (hB : xBk v π n) (x1 : Int32) : uMi l y_D_count b_D_count 2 (some .int) 1 22 D clsAll (tysAll ca) 165 ad (xG ca ad) (v, π) [.ref (ad 0), .int x1] (fun r u => u = (v, π) ∧ r = cntS v π n x1) := by
  refine uStart (by decide) (Nat.le_of_ble_eq_true rfl) ?_
  intro p e s m below meth c ls S hr hlk hK hN hP hl
  have hU : ∀ w ∈ uWS, w ∈ (Cond.code y_D_count b_D_count 2 (some .int) :: uWS) := fun w h => List.mem_cons_of_mem _ h
  have hS : va_S (uA 165 ad s.heap.size) s.heap s.heap [] := va_S.rf
  have hl : lv_has ls 2 [(0, .ref (ad 0)), (1, .int x1)] := hl
  have hn40 : n ≤ 40 := hB.2.1
  refine lv_iload_n S.1 S.2.1 d_D_count_0 rfl (lv_at hl 1 rfl) ?_
  rcases pk_ix x1 (n := 5) (by decide) with c_x | c_x | ⟨j, hj, e_x⟩
  · refine lv_tableOut (tgt := 70) S.1 S.2.1 d_D_count_1 (Or.inl (by rw [Int32.lt_iff_toInt_lt] at c_x; exact c_x)) (by decide) ?_
    refine lv_iconst (v := (-1)) S.1 S.2.1 d_D_count_70 (by decide) ?_
    exact uIret S hr hlk (v, π) hP hS (by refine ⟨rfl, ?_⟩; unfold cntS; rw [if_neg (fun h => by subst h; exact absurd c_x (by decide)), if_neg (fun h => by subst h; exact absurd c_x (by decide)), if_neg (fun h => by subst h; exact absurd c_x (by decide)), if_neg (fun h => by subst h; exact absurd c_x (by decide)), if_neg (fun h => by subst h; exact absurd c_x (by decide))]) d_D_count_71
  · refine lv_tableOut (tgt := 70) S.1 S.2.1 d_D_count_1 (Or.inr (by rw [Int32.le_iff_toInt_le, nI_toInt (by decide)] at c_x; omega)) (by decide) ?_
    refine lv_iconst (v := (-1)) S.1 S.2.1 d_D_count_70 (by decide) ?_
    exact uIret S hr hlk (v, π) hP hS (by refine ⟨rfl, ?_⟩; unfold cntS; rw [if_neg (fun h => by subst h; exact absurd c_x (by decide)), if_neg (fun h => by subst h; exact absurd c_x (by decide)), if_neg (fun h => by subst h; exact absurd c_x (by decide)), if_neg (fun h => by subst h; exact absurd c_x (by decide)), if_neg (fun h => by subst h; exact absurd c_x (by decide))]) d_D_count_71
  · subst e_x
    rcases (by omega : j = 0 ∨ j = 1 ∨ j = 2 ∨ j = 3 ∨ j = 4) with rfl | rfl | rfl | rfl | rfl
    · refine lv_tableIn (off := 35) (tgt := 36) S.1 S.2.1 d_D_count_1 (by decide) (by decide) rfl (by decide) ?_
      refine lv_aload_n S.1 S.2.1 d_D_count_36 rfl (lv_at hl 0 rfl) ?_
      refine ur_get (k := 0) (v := .ref (ad 4)) S hK hP (by decide) xg_desk rfl (fun w h => hU w (in_D w h)) 3 (by decide) (hU _ t1_161) rfl d_D_count_37 ?_
      refine ur_getN (k := 4) (v := .int (v 4 0 0)) S hK hP (by decide) xg_book rfl (fun w h => hU w (in_B w h)) 1 (by decide) (hN _ t1_108) rfl d_D_count_40 ?_
      exact uIret S hr hlk (v, π) hP hS (⟨rfl, rfl⟩) d_D_count_43
    · refine lv_tableIn (off := 43) (tgt := 44) S.1 S.2.1 d_D_count_1 (by decide) (by decide) rfl (by decide) ?_
      refine lv_aload_n S.1 S.2.1 d_D_count_44 rfl (lv_at hl 0 rfl) ?_
      refine ur_get (k := 0) (v := .ref (ad 4)) S hK hP (by decide) xg_desk rfl (fun w h => hU w (in_D w h)) 3 (by decide) (hU _ t1_161) rfl d_D_count_45 ?_
      refine uVi (n := 0) (b := 4) (As := []) (rest := []) S hK hN hP hS (c_B_moveCount hJ v π n hB) ⟨hU, t2_37, t2_34, t1_5, by decide +kernel, by decide, by decide⟩ t2_35 t2_36 (by decide) xg_book rfl rfl rfl hl.1 rfl (Nat.le_of_ble_eq_true rfl) d_D_count_48 ⟨Nat.le_of_ble_eq_true rfl, Nat.le_of_ble_eq_true rfl⟩ (fun r u H locs hp hP hS => ?_)
      obtain ⟨rfl, rfl⟩ := hp
      exact uIret S hr hlk (v, π) hP hS (⟨rfl, rfl⟩) d_D_count_51
    · refine lv_tableIn (off := 51) (tgt := 52) S.1 S.2.1 d_D_count_1 (by decide) (by decide) rfl (by decide) ?_
      refine lv_aload_n S.1 S.2.1 d_D_count_52 rfl (lv_at hl 0 rfl) ?_
      refine ur_get (k := 0) (v := .ref (ad 87)) S hK hP (by decide) xg_desk rfl (fun w h => hU w (in_D w h)) 1 (by decide) (hU _ t1_159) rfl d_D_count_53 ?_
      refine ur_getN (k := (7 + 2 * 40)) (v := .int (v 16 40 0)) S hK hP (kb_V (by decide)) (xg_row (by decide)) rfl (fun w h => hU w (in_V w h)) 1 (by decide) (hN _ t1_39) rfl d_D_count_56 ?_
      exact uIret S hr hlk (v, π) hP hS (⟨rfl, rfl⟩) d_D_count_59
    · refine lv_tableIn (off := 59) (tgt := 60) S.1 S.2.1 d_D_count_1 (by decide) (by decide) rfl (by decide) ?_
      refine lv_aload_n S.1 S.2.1 d_D_count_60 rfl (lv_at hl 0 rfl) ?_
      refine ur_get (k := 0) (v := .int (v 5 0 0)) S hK hP (by decide) xg_desk rfl (fun w h => hU w (in_D w h)) 5 (by decide) (hU _ t1_163) rfl d_D_count_61 ?_
      exact uIret S hr hlk (v, π) hP hS (⟨rfl, rfl⟩) d_D_count_64
    · refine lv_tableIn (off := 64) (tgt := 65) S.1 S.2.1 d_D_count_1 (by decide) (by decide) rfl (by decide) ?_
      refine lv_aload_n S.1 S.2.1 d_D_count_65 rfl (lv_at hl 0 rfl) ?_
      refine ur_get (k := 0) (v := .int (v 6 0 0)) S hK hP (by decide) xg_desk rfl (fun w h => hU w (in_D w h)) 6 (by decide) (hU _ t1_164) rfl d_D_count_66 ?_
      exact uIret S hr hlk (v, π) hP hS (⟨rfl, rfl⟩) d_D_count_69
end
