section
-- ===== PART A: goes FIRST, ahead of the names: the tables' words, and 'selects' of the private methods out of them =====
/-- a private method of a class that the tables say can be made, by its rows of tables_1 -/
def lw_okq (q : MethodName × Nat) : Prop := (q.1.cls ≠ "java/lang/invoke/MethodHandle" ∧ q.1.cls ≠ "java/lang/invoke/VarHandle") ∧ Cond.instantiable q.1.cls q.2 ∈ tables_1 ∧ Cond.privateMethod q.1 ∈ tables_1 ∧ Cond.instanceMethod q.1 ∈ tables_1
theorem lw_p0 : lw_okq (⟨"LightingDesk$CueBook", "placeFor", "(II)I"⟩, 2) := ⟨⟨by decide +kernel, by decide +kernel⟩, List.mem_of_getElem? (i := 59) (by decide +kernel), List.mem_of_getElem? (i := 234) (by decide +kernel), List.mem_of_getElem? (i := 235) (by decide +kernel)⟩
theorem lw_p1 : lw_okq (⟨"LightingDesk$CueBook", "isIn", "(II)Z"⟩, 2) := ⟨⟨by decide +kernel, by decide +kernel⟩, List.mem_of_getElem? (i := 59) (by decide +kernel), List.mem_of_getElem? (i := 242) (by decide +kernel), List.mem_of_getElem? (i := 243) (by decide +kernel)⟩
theorem lw_p2 : lw_okq (⟨"java/lang/Throwable", "fillInStackTrace", "(I)Ljava/lang/Throwable;"⟩, 6) := ⟨⟨by decide +kernel, by decide +kernel⟩, List.mem_of_getElem? (i := 330) (by decide +kernel), List.mem_of_getElem? (i := 328) (by decide +kernel), List.mem_of_getElem? (i := 329) (by decide +kernel)⟩
theorem lw_p3 : lw_okq (⟨"LightingDesk$CueBook", "insert", "(III)V"⟩, 2) := ⟨⟨by decide +kernel, by decide +kernel⟩, List.mem_of_getElem? (i := 59) (by decide +kernel), List.mem_of_getElem? (i := 378) (by decide +kernel), List.mem_of_getElem? (i := 379) (by decide +kernel)⟩
theorem lw_p4 : lw_okq (⟨"LightingDesk$CueBook", "keepChannels", "(ILLightingDesk$ValueRow;)V"⟩, 2) := ⟨⟨by decide +kernel, by decide +kernel⟩, List.mem_of_getElem? (i := 59) (by decide +kernel), List.mem_of_getElem? (i := 387) (by decide +kernel), List.mem_of_getElem? (i := 388) (by decide +kernel)⟩
theorem lw_p5 : lw_okq (⟨"LightingDesk$CueBook", "putAll", "(ILLightingDesk$ValueRow;)V"⟩, 2) := ⟨⟨by decide +kernel, by decide +kernel⟩, List.mem_of_getElem? (i := 59) (by decide +kernel), List.mem_of_getElem? (i := 408) (by decide +kernel), List.mem_of_getElem? (i := 409) (by decide +kernel)⟩
theorem lw_p6 : lw_okq (⟨"LightingDesk", "placeOrThrow", "(II)I"⟩, 7) := ⟨⟨by decide +kernel, by decide +kernel⟩, List.mem_of_getElem? (i := 19) (by decide +kernel), List.mem_of_getElem? (i := 436) (by decide +kernel), List.mem_of_getElem? (i := 437) (by decide +kernel)⟩
theorem lw_p7 : lw_okq (⟨"LightingDesk$CueBook", "takeOut", "(I)V"⟩, 2) := ⟨⟨by decide +kernel, by decide +kernel⟩, List.mem_of_getElem? (i := 59) (by decide +kernel), List.mem_of_getElem? (i := 478) (by decide +kernel), List.mem_of_getElem? (i := 479) (by decide +kernel)⟩
theorem lw_p8 : lw_okq (⟨"LightingDesk", "isTellable", "(I)Z"⟩, 7) := ⟨⟨by decide +kernel, by decide +kernel⟩, List.mem_of_getElem? (i := 19) (by decide +kernel), List.mem_of_getElem? (i := 568) (by decide +kernel), List.mem_of_getElem? (i := 569) (by decide +kernel)⟩
theorem lw_p9 : lw_okq (⟨"LightingDesk", "tell", "(I)V"⟩, 7) := ⟨⟨by decide +kernel, by decide +kernel⟩, List.mem_of_getElem? (i := 19) (by decide +kernel), List.mem_of_getElem? (i := 574) (by decide +kernel), List.mem_of_getElem? (i := 575) (by decide +kernel)⟩
theorem lw_p10 : lw_okq (⟨"LightingDesk", "earliestDue", "(I)I"⟩, 7) := ⟨⟨by decide +kernel, by decide +kernel⟩, List.mem_of_getElem? (i := 19) (by decide +kernel), List.mem_of_getElem? (i := 578) (by decide +kernel), List.mem_of_getElem? (i := 579) (by decide +kernel)⟩
theorem lw_p11 : lw_okq (⟨"LightingDesk", "followOn", "(LLightingDesk$Player;)V"⟩, 7) := ⟨⟨by decide +kernel, by decide +kernel⟩, List.mem_of_getElem? (i := 19) (by decide +kernel), List.mem_of_getElem? (i := 582) (by decide +kernel), List.mem_of_getElem? (i := 583) (by decide +kernel)⟩
theorem lw_p12 : lw_okq (⟨"LightingDesk", "startCue", "(LLightingDesk$Player;II)V"⟩, 7) := ⟨⟨by decide +kernel, by decide +kernel⟩, List.mem_of_getElem? (i := 19) (by decide +kernel), List.mem_of_getElem? (i := 587) (by decide +kernel), List.mem_of_getElem? (i := 588) (by decide +kernel)⟩
theorem lw_p13 : lw_okq (⟨"LightingDesk", "latestLevel", "(I)I"⟩, 7) := ⟨⟨by decide +kernel, by decide +kernel⟩, List.mem_of_getElem? (i := 19) (by decide +kernel), List.mem_of_getElem? (i := 610) (by decide +kernel), List.mem_of_getElem? (i := 611) (by decide +kernel)⟩
theorem lw_p14 : lw_okq (⟨"LightingDesk", "greatestLevel", "(I)I"⟩, 7) := ⟨⟨by decide +kernel, by decide +kernel⟩, List.mem_of_getElem? (i := 19) (by decide +kernel), List.mem_of_getElem? (i := 619) (by decide +kernel), List.mem_of_getElem? (i := 620) (by decide +kernel)⟩
theorem lw_p15 : lw_okq (⟨"LightingDeskModel", "find", "(II)I"⟩, 24) := ⟨⟨by decide +kernel, by decide +kernel⟩, List.mem_of_getElem? (i := 635) (by decide +kernel), List.mem_of_getElem? (i := 749) (by decide +kernel), List.mem_of_getElem? (i := 750) (by decide +kernel)⟩
def lw_privs_1 : List (MethodName × Nat) := [(⟨"LightingDesk$CueBook", "placeFor", "(II)I"⟩, 2), (⟨"LightingDesk$CueBook", "isIn", "(II)Z"⟩, 2), (⟨"java/lang/Throwable", "fillInStackTrace", "(I)Ljava/lang/Throwable;"⟩, 6), (⟨"LightingDesk$CueBook", "insert", "(III)V"⟩, 2), (⟨"LightingDesk$CueBook", "keepChannels", "(ILLightingDesk$ValueRow;)V"⟩, 2), (⟨"LightingDesk$CueBook", "putAll", "(ILLightingDesk$ValueRow;)V"⟩, 2), (⟨"LightingDesk", "placeOrThrow", "(II)I"⟩, 7), (⟨"LightingDesk$CueBook", "takeOut", "(I)V"⟩, 2), (⟨"LightingDesk", "isTellable", "(I)Z"⟩, 7), (⟨"LightingDesk", "tell", "(I)V"⟩, 7), (⟨"LightingDesk", "earliestDue", "(I)I"⟩, 7), (⟨"LightingDesk", "followOn", "(LLightingDesk$Player;)V"⟩, 7), (⟨"LightingDesk", "startCue", "(LLightingDesk$Player;II)V"⟩, 7), (⟨"LightingDesk", "latestLevel", "(I)I"⟩, 7), (⟨"LightingDesk", "greatestLevel", "(I)I"⟩, 7), (⟨"LightingDeskModel", "find", "(II)I"⟩, 24)]
theorem lw_r1 : ∀ q ∈ lw_privs_1, lw_okq q := List.forall_mem_cons.mpr ⟨lw_p0, List.forall_mem_cons.mpr ⟨lw_p1, List.forall_mem_cons.mpr ⟨lw_p2, List.forall_mem_cons.mpr ⟨lw_p3, List.forall_mem_cons.mpr ⟨lw_p4, List.forall_mem_cons.mpr ⟨lw_p5, List.forall_mem_cons.mpr ⟨lw_p6, List.forall_mem_cons.mpr ⟨lw_p7, List.forall_mem_cons.mpr ⟨lw_p8, List.forall_mem_cons.mpr ⟨lw_p9, List.forall_mem_cons.mpr ⟨lw_p10, List.forall_mem_cons.mpr ⟨lw_p11, List.forall_mem_cons.mpr ⟨lw_p12, List.forall_mem_cons.mpr ⟨lw_p13, List.forall_mem_cons.mpr ⟨lw_p14, List.forall_mem_cons.mpr ⟨lw_p15, fun _ h => absurd h List.not_mem_nil⟩⟩⟩⟩⟩⟩⟩⟩⟩⟩⟩⟩⟩⟩⟩⟩
theorem lw_p16 : lw_okq (⟨"LightingDeskModel", "above", "(II)I"⟩, 24) := ⟨⟨by decide +kernel, by decide +kernel⟩, List.mem_of_getElem? (i := 635) (by decide +kernel), List.mem_of_getElem? (i := 753) (by decide +kernel), List.mem_of_getElem? (i := 754) (by decide +kernel)⟩
theorem lw_p17 : lw_okq (⟨"LightingDeskModel", "moveOf", "(II)I"⟩, 24) := ⟨⟨by decide +kernel, by decide +kernel⟩, List.mem_of_getElem? (i := 635) (by decide +kernel), List.mem_of_getElem? (i := 757) (by decide +kernel), List.mem_of_getElem? (i := 758) (by decide +kernel)⟩
theorem lw_p18 : lw_okq (⟨"LightingDeskModel", "cueCount", "()I"⟩, 24) := ⟨⟨by decide +kernel, by decide +kernel⟩, List.mem_of_getElem? (i := 635) (by decide +kernel), List.mem_of_getElem? (i := 761) (by decide +kernel), List.mem_of_getElem? (i := 762) (by decide +kernel)⟩
theorem lw_p19 : lw_okq (⟨"LightingDeskModel", "moveCount", "()I"⟩, 24) := ⟨⟨by decide +kernel, by decide +kernel⟩, List.mem_of_getElem? (i := 635) (by decide +kernel), List.mem_of_getElem? (i := 765) (by decide +kernel), List.mem_of_getElem? (i := 766) (by decide +kernel)⟩
theorem lw_p20 : lw_okq (⟨"LightingDeskModel", "movesOf", "(I)I"⟩, 24) := ⟨⟨by decide +kernel, by decide +kernel⟩, List.mem_of_getElem? (i := 635) (by decide +kernel), List.mem_of_getElem? (i := 769) (by decide +kernel), List.mem_of_getElem? (i := 770) (by decide +kernel)⟩
theorem lw_p21 : lw_okq (⟨"LightingDeskModel", "keptMoves", "(I)I"⟩, 24) := ⟨⟨by decide +kernel, by decide +kernel⟩, List.mem_of_getElem? (i := 635) (by decide +kernel), List.mem_of_getElem? (i := 773) (by decide +kernel), List.mem_of_getElem? (i := 774) (by decide +kernel)⟩
theorem lw_p22 : lw_okq (⟨"LightingDeskModel", "note", "(I)V"⟩, 24) := ⟨⟨by decide +kernel, by decide +kernel⟩, List.mem_of_getElem? (i := 635) (by decide +kernel), List.mem_of_getElem? (i := 777) (by decide +kernel), List.mem_of_getElem? (i := 778) (by decide +kernel)⟩
theorem lw_p23 : lw_okq (⟨"LightingDeskModel", "tracked", "(III)I"⟩, 24) := ⟨⟨by decide +kernel, by decide +kernel⟩, List.mem_of_getElem? (i := 635) (by decide +kernel), List.mem_of_getElem? (i := 781) (by decide +kernel), List.mem_of_getElem? (i := 782) (by decide +kernel)⟩
theorem lw_p24 : lw_okq (⟨"LightingDeskModel", "sourceOf", "(III)I"⟩, 24) := ⟨⟨by decide +kernel, by decide +kernel⟩, List.mem_of_getElem? (i := 635) (by decide +kernel), List.mem_of_getElem? (i := 785) (by decide +kernel), List.mem_of_getElem? (i := 786) (by decide +kernel)⟩
theorem lw_p25 : lw_okq (⟨"LightingDeskModel", "below", "(II)I"⟩, 24) := ⟨⟨by decide +kernel, by decide +kernel⟩, List.mem_of_getElem? (i := 635) (by decide +kernel), List.mem_of_getElem? (i := 789) (by decide +kernel), List.mem_of_getElem? (i := 790) (by decide +kernel)⟩
theorem lw_p26 : lw_okq (⟨"LightingDeskModel", "make", "(II)I"⟩, 24) := ⟨⟨by decide +kernel, by decide +kernel⟩, List.mem_of_getElem? (i := 635) (by decide +kernel), List.mem_of_getElem? (i := 793) (by decide +kernel), List.mem_of_getElem? (i := 794) (by decide +kernel)⟩
theorem lw_p27 : lw_okq (⟨"LightingDeskModel", "put", "(III)V"⟩, 24) := ⟨⟨by decide +kernel, by decide +kernel⟩, List.mem_of_getElem? (i := 635) (by decide +kernel), List.mem_of_getElem? (i := 797) (by decide +kernel), List.mem_of_getElem? (i := 798) (by decide +kernel)⟩
theorem lw_p28 : lw_okq (⟨"LightingDeskModel", "keep", "(II)V"⟩, 24) := ⟨⟨by decide +kernel, by decide +kernel⟩, List.mem_of_getElem? (i := 635) (by decide +kernel), List.mem_of_getElem? (i := 801) (by decide +kernel), List.mem_of_getElem? (i := 802) (by decide +kernel)⟩
theorem lw_p29 : lw_okq (⟨"LightingDeskModel", "has", "(II)Z"⟩, 24) := ⟨⟨by decide +kernel, by decide +kernel⟩, List.mem_of_getElem? (i := 635) (by decide +kernel), List.mem_of_getElem? (i := 809) (by decide +kernel), List.mem_of_getElem? (i := 810) (by decide +kernel)⟩
theorem lw_p30 : lw_okq (⟨"LightingDeskModel", "lookOf", "(III)I"⟩, 24) := ⟨⟨by decide +kernel, by decide +kernel⟩, List.mem_of_getElem? (i := 635) (by decide +kernel), List.mem_of_getElem? (i := 836) (by decide +kernel), List.mem_of_getElem? (i := 837) (by decide +kernel)⟩
theorem lw_p31 : lw_okq (⟨"LightingDeskModel", "levelOf", "(II)I"⟩, 24) := ⟨⟨by decide +kernel, by decide +kernel⟩, List.mem_of_getElem? (i := 635) (by decide +kernel), List.mem_of_getElem? (i := 840) (by decide +kernel), List.mem_of_getElem? (i := 841) (by decide +kernel)⟩
def lw_privs_2 : List (MethodName × Nat) := [(⟨"LightingDeskModel", "above", "(II)I"⟩, 24), (⟨"LightingDeskModel", "moveOf", "(II)I"⟩, 24), (⟨"LightingDeskModel", "cueCount", "()I"⟩, 24), (⟨"LightingDeskModel", "moveCount", "()I"⟩, 24), (⟨"LightingDeskModel", "movesOf", "(I)I"⟩, 24), (⟨"LightingDeskModel", "keptMoves", "(I)I"⟩, 24), (⟨"LightingDeskModel", "note", "(I)V"⟩, 24), (⟨"LightingDeskModel", "tracked", "(III)I"⟩, 24), (⟨"LightingDeskModel", "sourceOf", "(III)I"⟩, 24), (⟨"LightingDeskModel", "below", "(II)I"⟩, 24), (⟨"LightingDeskModel", "make", "(II)I"⟩, 24), (⟨"LightingDeskModel", "put", "(III)V"⟩, 24), (⟨"LightingDeskModel", "keep", "(II)V"⟩, 24), (⟨"LightingDeskModel", "has", "(II)Z"⟩, 24), (⟨"LightingDeskModel", "lookOf", "(III)I"⟩, 24), (⟨"LightingDeskModel", "levelOf", "(II)I"⟩, 24)]
theorem lw_r2 : ∀ q ∈ lw_privs_2, lw_okq q := List.forall_mem_cons.mpr ⟨lw_p16, List.forall_mem_cons.mpr ⟨lw_p17, List.forall_mem_cons.mpr ⟨lw_p18, List.forall_mem_cons.mpr ⟨lw_p19, List.forall_mem_cons.mpr ⟨lw_p20, List.forall_mem_cons.mpr ⟨lw_p21, List.forall_mem_cons.mpr ⟨lw_p22, List.forall_mem_cons.mpr ⟨lw_p23, List.forall_mem_cons.mpr ⟨lw_p24, List.forall_mem_cons.mpr ⟨lw_p25, List.forall_mem_cons.mpr ⟨lw_p26, List.forall_mem_cons.mpr ⟨lw_p27, List.forall_mem_cons.mpr ⟨lw_p28, List.forall_mem_cons.mpr ⟨lw_p29, List.forall_mem_cons.mpr ⟨lw_p30, List.forall_mem_cons.mpr ⟨lw_p31, fun _ h => absurd h List.not_mem_nil⟩⟩⟩⟩⟩⟩⟩⟩⟩⟩⟩⟩⟩⟩⟩⟩
theorem lw_p32 : lw_okq (⟨"LightingDeskModel", "isTick", "(I)Z"⟩, 24) := ⟨⟨by decide +kernel, by decide +kernel⟩, List.mem_of_getElem? (i := 635) (by decide +kernel), List.mem_of_getElem? (i := 863) (by decide +kernel), List.mem_of_getElem? (i := 864) (by decide +kernel)⟩
theorem lw_p33 : lw_okq (⟨"LightingDeskModel", "tell", "(I)V"⟩, 24) := ⟨⟨by decide +kernel, by decide +kernel⟩, List.mem_of_getElem? (i := 635) (by decide +kernel), List.mem_of_getElem? (i := 868) (by decide +kernel), List.mem_of_getElem? (i := 869) (by decide +kernel)⟩
theorem lw_p34 : lw_okq (⟨"LightingDeskModel", "start", "(III)V"⟩, 24) := ⟨⟨by decide +kernel, by decide +kernel⟩, List.mem_of_getElem? (i := 635) (by decide +kernel), List.mem_of_getElem? (i := 872) (by decide +kernel), List.mem_of_getElem? (i := 873) (by decide +kernel)⟩
theorem lw_p35 : lw_okq (⟨"LightingDeskModel", "levelAt", "(III)I"⟩, 24) := ⟨⟨by decide +kernel, by decide +kernel⟩, List.mem_of_getElem? (i := 635) (by decide +kernel), List.mem_of_getElem? (i := 876) (by decide +kernel), List.mem_of_getElem? (i := 877) (by decide +kernel)⟩
theorem lw_p36 : lw_okq (⟨"LightingDeskModel", "merged", "(I)I"⟩, 24) := ⟨⟨by decide +kernel, by decide +kernel⟩, List.mem_of_getElem? (i := 635) (by decide +kernel), List.mem_of_getElem? (i := 888) (by decide +kernel), List.mem_of_getElem? (i := 889) (by decide +kernel)⟩
def lw_privs_3 : List (MethodName × Nat) := [(⟨"LightingDeskModel", "isTick", "(I)Z"⟩, 24), (⟨"LightingDeskModel", "tell", "(I)V"⟩, 24), (⟨"LightingDeskModel", "start", "(III)V"⟩, 24), (⟨"LightingDeskModel", "levelAt", "(III)I"⟩, 24), (⟨"LightingDeskModel", "merged", "(I)I"⟩, 24)]
theorem lw_r3 : ∀ q ∈ lw_privs_3, lw_okq q := List.forall_mem_cons.mpr ⟨lw_p32, List.forall_mem_cons.mpr ⟨lw_p33, List.forall_mem_cons.mpr ⟨lw_p34, List.forall_mem_cons.mpr ⟨lw_p35, List.forall_mem_cons.mpr ⟨lw_p36, fun _ h => absurd h List.not_mem_nil⟩⟩⟩⟩⟩
def lw_privs : List (MethodName × Nat) := lw_privs_1 ++ (lw_privs_2 ++ (lw_privs_3))
def lw_tbl : List Cond := k2_sels lw_privs ++ tables_1
theorem lw_privs_ok : ∀ q ∈ lw_privs, lw_okq q := by
  show ∀ q ∈ lw_privs_1 ++ (lw_privs_2 ++ (lw_privs_3)), lw_okq q
  exact List.forall_mem_append.mpr ⟨lw_r1, List.forall_mem_append.mpr ⟨lw_r2, lw_r3⟩⟩
end
section
/-! UNIFORM WORLDS: a world of N cells; cell k lies at the address ad k and holds g k. -/
def uw (N : Nat) (ad : Nat → Nat) (g : Nat → va_E) : va_W := (List.range N).map (fun k => (ad k, g k))
theorem uw_get {N : Nat} {ad : Nat → Nat} {g : Nat → va_E} {k : Nat} (h : k < N) : (uw N ad g)[k]? = some (ad k, g k) := by
  simp [uw, h]
theorem uw_at {N : Nat} {ad : Nat → Nat} {g : Nat → va_E} {k : Nat} {e : va_E} (h : k < N) (hg : g k = e) : (uw N ad g)[k]? = some (ad k, e) := by
  rw [← hg]; exact uw_get h
theorem uw_inv {N : Nat} {ad : Nat → Nat} {g : Nat → va_E} {k : Nat} {q : Nat × va_E} (h : (uw N ad g)[k]? = some q) : k < N ∧ q = (ad k, g k) := by
  have hl : k < (uw N ad g).length := (List.getElem?_eq_some_iff.mp h).1
  have hk : k < N := by simpa [uw] using hl
  rw [uw_get hk] at h
  exact ⟨hk, (Option.some.inj h).symm⟩
theorem uw_set {N : Nat} {ad : Nat → Nat} {g : Nat → va_E} {k : Nat} {e : va_E} (h : k < N) : (uw N ad g).set k (ad k, e) = uw N ad (va_up g k e) := by
  apply List.ext_getElem?
  intro j
  by_cases hj : k = j
  · subst hj
    rw [List.getElem?_set_self (by simpa [uw] using h), uw_get h]
    simp [va_up]
  · rw [List.getElem?_set_ne hj]
    by_cases h2 : j < N
    · rw [uw_get h2, uw_get h2]
      simp [va_up, Ne.symm hj]
    · rw [List.getElem?_eq_none (by simpa [uw] using h2), List.getElem?_eq_none (by simpa [uw] using h2)]
/-- the addresses are apart -/
def uJ (N : Nat) (ad : Nat → Nat) : Prop := ∀ i j : Nat, i < N → j < N → ad i = ad j → i = j
/-- the cells that a method of this world may change -/
def uA (N : Nat) (ad : Nat → Nat) (sz : Nat) : Nat → Prop := fun q => (∃ k : Nat, k < N ∧ q = ad k) ∨ sz ≤ q
theorem uD {N : Nat} {ad : Nat → Nat} {g : Nat → va_E} (sz : Nat) (h : uJ N ad) : va_D (uA N ad sz) (uw N ad g) := by
  refine ⟨fun i j p q hi hj hpq => ?_, fun k q hk => ?_⟩
  · obtain ⟨h1, rfl⟩ := uw_inv hi
    obtain ⟨h2, rfl⟩ := uw_inv hj
    exact h i j h1 h2 hpq
  · obtain ⟨h1, rfl⟩ := uw_inv hk
    exact Or.inl ⟨k, h1, rfl⟩
theorem uA_mono {N : Nat} {ad : Nat → Nat} {a b : Nat} (h : a ≤ b) : ∀ q, uA N ad b q → uA N ad a q := fun _ hq => hq.elim Or.inl (fun z => Or.inr (Nat.le_trans h z))
theorem uP_lt {D : va_G} {cl : List vw_C} {N : Nat} {ad : Nat → Nat} {g : Nat → va_E} {H : Heap} (hP : va_P D cl (uw N ad g) H) {k : Nat} (hk : k < N) : ad k < H.size := (hP k _ (uw_get hk)).lt
/-- another world, cells unchanged: it stays -/
theorem uP_kept {D : va_G} {cl : List vw_C} {N : Nat} {ad : Nat → Nat} {g : Nat → va_E} {H H1 : Heap} (hP : va_P D cl (uw N ad g) H) (h : ∀ k, k < N → H1[ad k]? = H[ad k]?) : va_P D cl (uw N ad g) H1 := by
  refine hP.kept (fun k q hk => ?_)
  obtain ⟨h1, rfl⟩ := uw_inv hk
  exact h k h1
section UR
variable {p : Program} {l : Launch} {e : Env} {R : Room} {s : State} {m : MethodId} {args : Array Value} {below : List Frame} {meth : Method} {c : Code} {H H0 : Heap} {locs : List Loc} {cells slots : Nat} {Q : State → Prop}
variable {cc : ByteArray} {pc nL : Nat} {ls : Array Slot} {rest : List Value} {D : va_G} {cl : List vw_C} {A : Nat → Prop} {tys : List (ClassId × FieldType)} {Ts : List Cond} {own : String} {N : Nat} {ad : Nat → Nat} {g g' : Nat → va_E}
theorem ur_get (S : CallFix p m c cc nL s args Ts own) (hK : va_K D cl tys s) (hP : va_P D cl (uw N ad g) H) {k : Nat} (hk : k < N) {C : String} {T : u_T} {Nf ci : Nat} {fs : List Value} (hg : g k = .inr (ci, fs)) (hc : cl[ci]? = some (C, T, Nf)) (hin : ∀ w ∈ u_ws C T Nf, w ∈ Ts) (f : Nat) (hf : f < Nf) {index : Nat} (hlink : (Cond.fieldLink own index (T f).1 (T f).2.1 (T f).2.2.1) ∈ Ts) {v : Value} (hv : fs[f]? = some v) (hdg : decode cc pc = .ok (.getfield index, 3))
    (kk : W p l e R s m args below meth c H locs cells slots Q (F0 m (pc + 3) ls (v :: rest))) : W p l e R s m args below meth c H locs cells slots Q (F0 m pc ls (.ref (ad k) :: rest)) :=
  va_get S.1 S.2.1 S.2.2.2.2 hin S.2.2.2.1 hK hP k (uw_at hk hg) hc f hf (S.2.2.2.2 _ hlink) (fun _ h => h) hv hdg kk
theorem ur_getN (S : CallFix p m c cc nL s args Ts own) (hK : va_K D cl tys s) (hP : va_P D cl (uw N ad g) H) {k : Nat} (hk : k < N) {C host : String} {T : u_T} {Nf ci : Nat} {fs : List Value} (hg : g k = .inr (ci, fs)) (hc : cl[ci]? = some (C, T, Nf)) (hin : ∀ w ∈ u_ws C T Nf, w ∈ Ts) (f : Nat) (hf : f < Nf) {index : Nat} (hlink : va_Nw (Cond.fieldLinkNest own index (T f).1 (T f).2.1 (T f).2.2.1 host) s) {v : Value} (hv : fs[f]? = some v) (hdg : decode cc pc = .ok (.getfield index, 3))
    (kk : W p l e R s m args below meth c H locs cells slots Q (F0 m (pc + 3) ls (v :: rest))) : W p l e R s m args below meth c H locs cells slots Q (F0 m pc ls (.ref (ad k) :: rest)) :=
  va_getN S.1 S.2.1 S.2.2.2.2 hin S.2.2.2.1 hK hP k (uw_at hk hg) hc f hf (va_Nw.use rfl hlink) (fun _ h => h) hv hdg kk
theorem ur_put (S : CallFix p m c cc nL s args Ts own) (hK : va_K D cl tys s) (hP : va_P D cl (uw N ad g) H) (hD : va_D A (uw N ad g)) (hS : va_S A H0 H locs) {k : Nat} (hk : k < N) {C : String} {T : u_T} {Nf ci : Nat} {fs : List Value} (hg : g k = .inr (ci, fs)) (hc : cl[ci]? = some (C, T, Nf)) (hin : ∀ w ∈ u_ws C T Nf, w ∈ Ts) (ty0 : Nat → FieldType) (hty : ∀ k, k < Nf → parseFieldDescriptor (T k).2.2.1 = some (ty0 k)) (hnm : ∀ a, a < Nf → ∀ b, b < Nf → a ≠ b → (T a).2.1 ≠ (T b).2.1) (f : Nat) (hf : f < Nf) {index : Nat} (hlink : (Cond.fieldLink own index (T f).1 (T f).2.1 (T f).2.2.1) ∈ Ts) (hfin : (T f).2.2.2 = false) {v : Value} (hn : narrow (ty0 f) v = v) (hfit : fits (ty0 f) v = true) (hl : f < fs.length) (hu : va_up g k (.inr (ci, fs.set f v)) = g') (hdg : decode cc pc = .ok (.putfield index, 3))
    (kk : ∀ (H1 : Heap) (locs1 : List Loc), va_P D cl (uw N ad g') H1 → va_S A H0 H1 locs1 → W p l e R s m args below meth c H1 locs1 cells slots Q (F0 m (pc + 3) ls rest)) : W p l e R s m args below meth c H locs cells slots Q (F0 m pc ls (v :: .ref (ad k) :: rest)) :=
  va_put S.1 S.2.1 S.2.2.2.2 hin ty0 hty hnm S.2.2.2.1 hK hP hD hS k (uw_at hk hg) hc f hf (S.2.2.2.2 _ hlink) (fun _ h => h) hfin (hty f hf) hn hfit hl hdg (fun H1 locs1 h1 _ h3 => kk H1 locs1 (by rw [uw_set hk, hu] at h1; exact h1) h3)
theorem ur_putN (S : CallFix p m c cc nL s args Ts own) (hK : va_K D cl tys s) (hP : va_P D cl (uw N ad g) H) (hD : va_D A (uw N ad g)) (hS : va_S A H0 H locs) {k : Nat} (hk : k < N) {C host : String} {T : u_T} {Nf ci : Nat} {fs : List Value} (hg : g k = .inr (ci, fs)) (hc : cl[ci]? = some (C, T, Nf)) (hin : ∀ w ∈ u_ws C T Nf, w ∈ Ts) (ty0 : Nat → FieldType) (hty : ∀ k, k < Nf → parseFieldDescriptor (T k).2.2.1 = some (ty0 k)) (hnm : ∀ a, a < Nf → ∀ b, b < Nf → a ≠ b → (T a).2.1 ≠ (T b).2.1) (f : Nat) (hf : f < Nf) {index : Nat} (hlink : va_Nw (Cond.fieldLinkNest own index (T f).1 (T f).2.1 (T f).2.2.1 host) s) (hfin : (T f).2.2.2 = false) {v : Value} (hn : narrow (ty0 f) v = v) (hfit : fits (ty0 f) v = true) (hl : f < fs.length) (hu : va_up g k (.inr (ci, fs.set f v)) = g') (hdg : decode cc pc = .ok (.putfield index, 3))
    (kk : ∀ (H1 : Heap) (locs1 : List Loc), va_P D cl (uw N ad g') H1 → va_S A H0 H1 locs1 → W p l e R s m args below meth c H1 locs1 cells slots Q (F0 m (pc + 3) ls rest)) : W p l e R s m args below meth c H locs cells slots Q (F0 m pc ls (v :: .ref (ad k) :: rest)) :=
  va_putN S.1 S.2.1 S.2.2.2.2 hin ty0 hty hnm S.2.2.2.1 hK hP hD hS k (uw_at hk hg) hc f hf (va_Nw.use rfl hlink) (fun _ h => h) hfin (hty f hf) hn hfit hl hdg (fun H1 locs1 h1 _ h3 => kk H1 locs1 (by rw [uw_set hk, hu] at h1; exact h1) h3)
/-- an int of an array, at the place j -/
theorem ur_iald (S : CallFix p m c cc nL s args Ts own) (hK : va_K D cl tys s) (hP : va_P D cl (uw N ad g) H) {k : Nat} (hk : k < N) (t0 : Nat) {cA : ClassId} {n : Nat} {f : Nat → Int32} (hg : g k = .inl (cA, n, .inl f)) (ht : tys[t0]? = some (cA, .int)) {j : Nat} {i : Int32} (hi : i = nI j) (hj : j < n) (hn : n < 2 ^ 31) (hdg : decode cc pc = .ok (.iaload, 1))
    (kk : W p l e R s m args below meth c H locs cells slots Q (F0 m (pc + 1) ls (.int (f j) :: rest))) : W p l e R s m args below meth c H locs cells slots Q (F0 m pc ls (.int i :: .ref (ad k) :: rest)) := by
  subst hi
  refine va_iald S.1 S.2.1 hK hP k t0 (uw_at hk hg) ht (vp_in_nI hj hn) hdg ?_
  rw [nI_clamp (Nat.lt_trans hj hn)]
  exact kk
theorem ur_zald (S : CallFix p m c cc nL s args Ts own) (hK : va_K D cl tys s) (hP : va_P D cl (uw N ad g) H) {k : Nat} (hk : k < N) (t0 : Nat) {cA : ClassId} {n : Nat} {f : Nat → Int32} (hg : g k = .inl (cA, n, .inl f)) (ht : tys[t0]? = some (cA, .boolean)) {j : Nat} {i : Int32} (hi : i = nI j) (hj : j < n) (hn : n < 2 ^ 31) (hdg : decode cc pc = .ok (.baload, 1))
    (kk : W p l e R s m args below meth c H locs cells slots Q (F0 m (pc + 1) ls (.int (f j) :: rest))) : W p l e R s m args below meth c H locs cells slots Q (F0 m pc ls (.int i :: .ref (ad k) :: rest)) := by
  subst hi
  refine va_zald S.1 S.2.1 hK hP k t0 (uw_at hk hg) ht (vp_in_nI hj hn) hdg ?_
  rw [nI_clamp (Nat.lt_trans hj hn)]
  exact kk
theorem ur_iast (S : CallFix p m c cc nL s args Ts own) (hK : va_K D cl tys s) (hP : va_P D cl (uw N ad g) H) (hD : va_D A (uw N ad g)) (hS : va_S A H0 H locs) {k : Nat} (hk : k < N) (t0 : Nat) {cA : ClassId} {n : Nat} {f : Nat → Int32} (hg : g k = .inl (cA, n, .inl f)) (ht : tys[t0]? = some (cA, .int)) {j : Nat} {i x : Int32} (hi : i = nI j) (hj : j < n) (hn : n < 2 ^ 31) (hu : va_up g k (.inl (cA, n, .inl (upd f j x))) = g') (hdg : decode cc pc = .ok (.iastore, 1))
    (kk : ∀ (H1 : Heap) (locs1 : List Loc), va_P D cl (uw N ad g') H1 → va_S A H0 H1 locs1 → W p l e R s m args below meth c H1 locs1 cells slots Q (F0 m (pc + 1) ls rest)) : W p l e R s m args below meth c H locs cells slots Q (F0 m pc ls (.int x :: .int i :: .ref (ad k) :: rest)) := by
  subst hi
  refine va_iast S.1 S.2.1 hK hP hD hS k t0 (uw_at hk hg) ht (vp_in_nI hj hn) hdg (fun H1 locs1 h1 _ h3 => kk H1 locs1 ?_ h3)
  rw [nI_clamp (Nat.lt_trans hj hn), uw_set hk, hu] at h1
  exact h1
theorem ur_zast (S : CallFix p m c cc nL s args Ts own) (hK : va_K D cl tys s) (hP : va_P D cl (uw N ad g) H) (hD : va_D A (uw N ad g)) (hS : va_S A H0 H locs) {k : Nat} (hk : k < N) (t0 : Nat) {cA : ClassId} {n : Nat} {f : Nat → Int32} (hg : g k = .inl (cA, n, .inl f)) (ht : tys[t0]? = some (cA, .boolean)) {j : Nat} {i x : Int32} (hi : i = nI j) (hj : j < n) (hn : n < 2 ^ 31) (hx : vp_nar .boolean x = x) (hu : va_up g k (.inl (cA, n, .inl (upd f j x))) = g') (hdg : decode cc pc = .ok (.bastore, 1))
    (kk : ∀ (H1 : Heap) (locs1 : List Loc), va_P D cl (uw N ad g') H1 → va_S A H0 H1 locs1 → W p l e R s m args below meth c H1 locs1 cells slots Q (F0 m (pc + 1) ls rest)) : W p l e R s m args below meth c H locs cells slots Q (F0 m pc ls (.int x :: .int i :: .ref (ad k) :: rest)) := by
  subst hi
  refine va_zast S.1 S.2.1 hK hP hD hS k t0 (uw_at hk hg) ht (vp_in_nI hj hn) hdg (fun H1 locs1 h1 _ h3 => kk H1 locs1 ?_ h3)
  rw [nI_clamp (Nat.lt_trans hj hn), hx, uw_set hk, hu] at h1
  exact h1
/-- a reference out of an array of objects -/
theorem ur_aald (S : CallFix p m c cc nL s args Ts own) (hK : va_K D cl tys s) (hP : va_P D cl (uw N ad g) H) {k : Nat} (hk : k < N) (t0 : Nat) {cA : ClassId} {C : String} {n q : Nat} {f : Nat → Option Nat} (hg : g k = .inl (cA, n, .inr (.inr (.inr (.inr f))))) (ht : tys[t0]? = some (cA, .object C)) {j : Nat} {i : Int32} (hi : i = nI j) (hj : j < n) (hn : n < 2 ^ 31) (hq : f j = some q) (hdg : decode cc pc = .ok (.aaload, 1))
    (kk : W p l e R s m args below meth c H locs cells slots Q (F0 m (pc + 1) ls (.ref q :: rest))) : W p l e R s m args below meth c H locs cells slots Q (F0 m pc ls (.int i :: .ref (ad k) :: rest)) := by
  subst hi
  refine va_aldq S.1 S.2.1 hK hP k t0 (uw_at hk hg) ht (vp_in_nI hj hn) hdg ?_
  rw [nI_clamp (Nat.lt_trans hj hn), hq]
  exact kk
theorem ur_aast (S : CallFix p m c cc nL s args Ts own) (hK : va_K D cl tys s) (hP : va_P D cl (uw N ad g) H) (hD : va_D A (uw N ad g)) (hS : va_S A H0 H locs) {k : Nat} (hk : k < N) (t0 : Nat) {cA : ClassId} {r : vw_C} {n : Nat} {f : Nat → Option Nat} (hg : g k = .inl (cA, n, .inr (.inr (.inr (.inr f))))) (ht : tys[t0]? = some (cA, .object r.1)) {j : Nat} {i : Int32} (hi : i = nI j) (hj : j < n) (hn : n < 2 ^ 31) {kv ci : Nat} (hkv : kv < N) {fs : List Value} (hgv : g kv = .inr (ci, fs)) (hc : cl[ci]? = some r) (hu : va_up g k (.inl (cA, n, .inr (.inr (.inr (.inr (va_up f j (some (ad kv)))))))) = g') (hdg : decode cc pc = .ok (.aastore, 1))
    (kk : ∀ (H1 : Heap) (locs1 : List Loc), va_P D cl (uw N ad g') H1 → va_S A H0 H1 locs1 → W p l e R s m args below meth c H1 locs1 cells slots Q (F0 m (pc + 1) ls rest)) : W p l e R s m args below meth c H locs cells slots Q (F0 m pc ls (.ref (ad kv) :: .int i :: .ref (ad k) :: rest)) := by
  subst hi
  refine va_astq S.1 S.2.1 hK hP hD hS k t0 kv ci (uw_at hk hg) ht (uw_at hkv hgv) hc (vp_in_nI hj hn) hdg (fun H1 locs1 h1 _ h3 => kk H1 locs1 ?_ h3)
  rw [nI_clamp (Nat.lt_trans hj hn), uw_set hk, hu] at h1
  exact h1
end UR
end
section
/-! CONTRACTS IN A UNIFORM WORLD. The words of every method: its own code, and all good words of the tables. -/
def uWS : List Cond := lw_tbl.filter goodWord
theorem uWS_mem {w : Cond} (h : w ∈ lw_tbl) (hg : goodWord w = true) : w ∈ uWS := List.mem_filter.mpr ⟨h, hg⟩
theorem uWS_in {w : Cond} (h : w ∈ uWS) : w ∈ lw_tbl := (List.mem_filter.mp h).1
theorem uWS_good {w : Cond} (h : w ∈ uWS) : (w.onTables && w.keeps) = true ∨ ∃ ty, w = .arrayClass ty := good_of_word (List.mem_filter.mp h).2
theorem uGood {Ts : List Cond} (hT : ∀ w ∈ uWS, w ∈ Ts) {y : MethodName} {b : ByteArray} {n : Nat} {r : Option FieldType} (h : Cond.code y b n r ∈ uWS) : GoodIn Ts (Cond.code y b n r :: uWS) := by
  intro w hw
  rcases List.mem_cons.mp hw with rfl | hw
  · exact ⟨hT _ h, uWS_good h⟩
  · exact ⟨hT w hw, uWS_good hw⟩
/-- words on links between nest mates: they hold of the tables, and stay -/
def uNest : Cond → Bool
  | .fieldLinkNest .. => true
  | .methodLinkNest .. => true
  | _ => false
theorem uNest_on {w : Cond} (h : uNest w = true) : w.onTables = true := by
  cases w <;> first | rfl | cases h
theorem uNest_warm {w : Cond} (h : uNest w = true) {s U : State} (hW : s.WarmedH U.vm) (hz : va_Nw w s) : va_Nw w U := by
  cases w <;> first | exact va_Nw.warmF hW hz | exact va_Nw.warmM hW hz | cases h
def uNW : List Cond := lw_tbl.filter uNest
theorem uNW_mem {w : Cond} (h : w ∈ lw_tbl) (hg : uNest w = true) : w ∈ uNW := List.mem_filter.mpr ⟨h, hg⟩
/-- what a method finds: the world g, the tables -/
def uB (D : va_G) (cl : List vw_C) (tys : List (ClassId × FieldType)) (N : Nat) (ad : Nat → Nat) (g : Nat → va_E) (sz : Nat) (U : State) : Prop :=
  U.heap.size = sz ∧ va_P D cl (uw N ad g) U.heap ∧ va_K D cl tys U ∧ ∀ w ∈ uNW, va_Nw w U
theorem uB_blind {D : va_G} {cl : List vw_C} {tys : List (ClassId × FieldType)} {N : Nat} {ad : Nat → Nat} {g : Nat → va_E} {sz : Nat} {av : List Value} : FrameBlind (va_Pc av (uB D cl tys N ad g sz)) := by
  intro a U fr mk q
  obtain ⟨q0, q1, qP, qK, qN⟩ := q
  exact ⟨q0, q1, qP, va_K.moved (u := U) (U := U.calling fr mk a) (Vm.Alike.refl U.vm) qK, fun w hw => va_Nw.same (u := U) (U := U.calling fr mk a) (uNest_on (List.mem_filter.mp hw).2) rfl (qN w hw)⟩
theorem uB_at {D : va_G} {cl : List vw_C} {tys : List (ClassId × FieldType)} {N : Nat} {ad : Nat → Nat} {g : Nat → va_E} {s : State} {H : Heap} {av : List Value} (hP : va_P D cl (uw N ad g) H) (hK : va_K D cl tys s) (hN : ∀ w ∈ uNW, va_Nw w s) : ∀ U : State, U.heap = H → s.WarmedH U.vm → va_Pc av (uB D cl tys N ad g H.size) av.toArray U :=
  fun U hU hW => ⟨rfl, by rw [hU], by rw [hU]; exact hP, va_K.moved hW.alike hK, fun w hw => uNest_warm (List.mem_filter.mp hw).2 hW (hN w hw)⟩
/-- the world behind a method -/
def uT {σ : Type} (D : va_G) (cl : List vw_C) (N : Nat) (ad : Nat → Nat) (G : σ → Nat → va_E) (u : σ) (t : State) : Prop := va_P D cl (uw N ad (G u)) t.heap
section UMET
variable {σ : Type} (l : Launch) (y : MethodName) (cc : ByteArray) (maxL : Nat) (ret : Option FieldType) (fr lo : Nat) (D : va_G) (cl : List vw_C) (tys : List (ClassId × FieldType)) (N : Nat) (ad : Nat → Nat) (G : σ → Nat → va_E) (st : σ) (av : List Value)
/-- contracts: an int (or boolean) answer; none; a reference -/
def uMi (post : Int32 → σ → Prop) : Prop := ∀ sz : Nat, Met l y (Cond.code y cc maxL ret :: uWS) { frames := fr, cells := 0, slots := 0, locals := lo } (va_Pc av (uB D cl tys N ad (G st) sz)) (va_Qi post (uT D cl N ad G) (uA N ad sz)) 0 0 (uA N ad sz)
def uMv (post : σ → Prop) : Prop := ∀ sz : Nat, Met l y (Cond.code y cc maxL ret :: uWS) { frames := fr, cells := 0, slots := 0, locals := lo } (va_Pc av (uB D cl tys N ad (G st) sz)) (va_Qv post (uT D cl N ad G) (uA N ad sz)) 0 0 (uA N ad sz)
def uMr (post : Nat → σ → Prop) : Prop := ∀ sz : Nat, Met l y (Cond.code y cc maxL ret :: uWS) { frames := fr, cells := 0, slots := 0, locals := lo } (va_Pc av (uB D cl tys N ad (G st) sz)) (va_Qr (fun _ : σ => True) (fun u a t => post a u ∧ uT D cl N ad G u t) (uA N ad sz)) 0 0 (uA N ad sz)
end UMET
section UENTRY
variable {σ : Type} {l : Launch} {y : MethodName} {cc : ByteArray} {maxL : Nat} {ret : Option FieldType} {fr lo : Nat} {D : va_G} {cl : List vw_C} {tys : List (ClassId × FieldType)} {N : Nat} {ad : Nat → Nat} {G : σ → Nat → va_E} {st : σ} {av : List Value}
/-- a body, from its entry: what it has -/
def uBody (l : Launch) (y : MethodName) (cc : ByteArray) (maxL : Nat) (ret : Option FieldType) (fr lo : Nat) (D : va_G) (cl : List vw_C) (tys : List (ClassId × FieldType)) (N : Nat) (ad : Nat → Nat) (G : σ → Nat → va_E) (st : σ) (av : List Value) (Qc : Nat → Array Value → State → Outcome → State → Prop) : Prop :=
  ∀ (p : Program) (e : Env) (s : State) (m : MethodId) (below : List Frame) (meth : Method) (c : Code) (ls : Array Slot), CallFix p m c cc maxL s av.toArray (Cond.code y cc maxL ret :: uWS) y.cls → meth.sig.returnType = ret → meth.locks = false → va_K D cl tys s → (∀ w ∈ uNW, va_Nw w s) → va_P D cl (uw N ad (G st)) s.heap → lv_has ls maxL (lv_args 0 av) →
    W p l e { frames := fr, cells := 0, slots := 0, locals := lo } s m av.toArray below meth c s.heap [] 0 0 (MQ below (Qc s.heap.size) av.toArray s 0 0 (uA N ad s.heap.size)) (F0 m 0 ls [])
theorem uStart {Qc : Nat → Array Value → State → Outcome → State → Prop} (hy : plainName y.cls = true) (hlen : (lg_sl av).length ≤ maxL) (h : uBody l y cc maxL ret fr lo D cl tys N ad G st av Qc) (sz : Nat) : Met l y (Cond.code y cc maxL ret :: uWS) { frames := fr, cells := 0, slots := 0, locals := lo } (va_Pc av (uB D cl tys N ad (G st) sz)) (Qc sz) 0 0 (uA N ad sz) := by
  refine Met.ofW (cc := cc) (maxL := maxL) (ret := ret) hy rfl ?_
  intro p e s m args below meth c s₁ B hml hv
  obtain ⟨rfl, rfl, hP, hK, hN⟩ := hv
  have hl := lv_entry av (n := maxL) hlen
  rw [lg_entry_eq]
  exact h p e s m below meth c _ ⟨B.exec, B.bytes, hml, findClass_of_methodNamed B.named, atoms_spec (ws := Cond.code y cc maxL ret :: uWS) B.pre⟩ B.returns B.notSynchronized hK hN hP hl
end UENTRY
section UENDS
variable {σ : Type} {p : Program} {l : Launch} {e : Env} {R : Room} {s : State} {m : MethodId} {args : Array Value} {below : List Frame} {meth : Method} {c : Code} {H : Heap} {locs : List Loc}
variable {cc : ByteArray} {pc nL : Nat} {ls : Array Slot} {D : va_G} {cl : List vw_C} {Ts : List Cond} {own : String} {N : Nat} {ad : Nat → Nat} {G : σ → Nat → va_E}
theorem uIret {post : Int32 → σ → Prop} (S : CallFix p m c cc nL s args Ts own) (hr : meth.sig.returnType = some .int) (hlk : meth.locks = false) {r : Int32} (u : σ) (hP : va_P D cl (uw N ad (G u)) H) (hS : va_S (uA N ad s.heap.size) s.heap H locs) (hp : post r u) (hdg : decode cc pc = .ok (.ireturn, 1)) :
    W p l e R s m args below meth c H locs 0 0 (MQ below (va_Qi post (uT D cl N ad G) (uA N ad s.heap.size)) args s 0 0 (uA N ad s.heap.size)) (F0 m pc ls [.int r]) :=
  W.iret S.1 S.2.1 hr (fun t ht _ => ⟨⟨r, u, rfl, hp, by show va_P D cl (uw N ad (G u)) t.heap; rw [ht]; exact hP⟩, hS.F ht⟩) hS.2.2 hdg hlk
theorem uZret {post : Int32 → σ → Prop} (S : CallFix p m c cc nL s args Ts own) (hr : meth.sig.returnType = some .boolean) (hlk : meth.locks = false) {r : Int32} (hn : narrow .boolean (.int r) = .int r) (u : σ) (hP : va_P D cl (uw N ad (G u)) H) (hS : va_S (uA N ad s.heap.size) s.heap H locs) (hp : post r u) (hdg : decode cc pc = .ok (.ireturn, 1)) :
    W p l e R s m args below meth c H locs 0 0 (MQ below (va_Qi post (uT D cl N ad G) (uA N ad s.heap.size)) args s 0 0 (uA N ad s.heap.size)) (F0 m pc ls [.int r]) :=
  W.zret S.1 S.2.1 hr hn (fun t ht _ => ⟨⟨r, u, rfl, hp, by show va_P D cl (uw N ad (G u)) t.heap; rw [ht]; exact hP⟩, hS.F ht⟩) hS.2.2 hdg hlk
theorem uVret {post : σ → Prop} (S : CallFix p m c cc nL s args Ts own) (hr : meth.sig.returnType = none) (hlk : meth.locks = false) (u : σ) (hP : va_P D cl (uw N ad (G u)) H) (hS : va_S (uA N ad s.heap.size) s.heap H locs) (hp : post u) (hdg : decode cc pc = .ok (.return_, 1)) :
    W p l e R s m args below meth c H locs 0 0 (MQ below (va_Qv post (uT D cl N ad G) (uA N ad s.heap.size)) args s 0 0 (uA N ad s.heap.size)) (F0 m pc ls []) :=
  W.vret S.1 S.2.1 hr (fun t ht _ => ⟨⟨u, rfl, hp, by show va_P D cl (uw N ad (G u)) t.heap; rw [ht]; exact hP⟩, hS.F ht⟩) hS.2.2 hdg hlk
theorem uRret {post : Nat → σ → Prop} {rt : String} (S : CallFix p m c cc nL s args Ts own) (hr : meth.sig.returnType = some (.object rt)) (hlk : meth.locks = false) {q : Nat} (u : σ) (hP : va_P D cl (uw N ad (G u)) H) (hS : va_S (uA N ad s.heap.size) s.heap H locs) (hp : post q u) (hdg : decode cc pc = .ok (.areturn, 1)) :
    W p l e R s m args below meth c H locs 0 0 (MQ below (va_Qr (fun _ : σ => True) (fun u a t => post a u ∧ uT D cl N ad G u t) (uA N ad s.heap.size)) args s 0 0 (uA N ad s.heap.size)) (F0 m pc ls [.ref q]) :=
  W.aret S.1 S.2.1 hr (Or.inl ⟨rt, rfl⟩) (Or.inr ⟨q, rfl⟩) (fun t ht _ => ⟨⟨u, q, rfl, trivial, hp, by show va_P D cl (uw N ad (G u)) t.heap; rw [ht]; exact hP⟩, hS.F ht⟩) hS.2.2 hdg hlk
end UENDS
section UCALLS
variable {σ : Type} {p : Program} {l : Launch} {e : Env} {R : Room} {s : State} {m : MethodId} {args : Array Value} {below : List Frame} {meth : Method} {c : Code} {H : Heap} {locs : List Loc} {cells slots : Nat} {Q : State → Prop}
variable {cc : ByteArray} {pc nL : Nat} {ls : Array Slot} {rest : List Value} {D : va_G} {cl : List vw_C} {tys : List (ClassId × FieldType)} {Ts : List Cond} {own C : String} {N : Nat} {ad : Nat → Nat} {G : σ → Nat → va_E} {st : σ}
variable {y : MethodName} {bytes : ByteArray} {maxL fr lo n index : Nat} {ret : Option FieldType} {As : List Value} {b : Nat}
theorem uKeep (hS : va_S (uA N ad s.heap.size) s.heap H locs) : ∀ q, uA N ad H.size q → uA N ad s.heap.size q := uA_mono hS.1
/-- what a call of a public or package method asks: words by their places in the list -/
def uCW (Ts : List Cond) (own : String) (index : Nat) (y : MethodName) (bytes : ByteArray) (maxL : Nat) (ret : Option FieldType) (n fr lo : Nat) (R : Room) : Prop :=
  (∀ w ∈ uWS, w ∈ Ts) ∧ Cond.code y bytes maxL ret ∈ uWS ∧ Cond.methodLink own index y ∈ uWS ∧ Cond.initialized y.cls ∈ uWS ∧ (y.cls ≠ "java/lang/invoke/MethodHandle" ∧ y.cls ≠ "java/lang/invoke/VarHandle" ∧ (parseMethodDescriptor y.desc).map (fun d => d.parameters.length) = some n) ∧ fr + 1 ≤ R.frames ∧ 8 + (maxL + 11) + lo ≤ R.locals
theorem uCB (S : CallFix p m c cc nL s args Ts own) (h : uCW Ts own index y bytes maxL ret n fr lo R) : CallB R s args own index y bytes maxL ret (Cond.code y bytes maxL ret :: uWS) { frames := fr, cells := 0, slots := 0, locals := lo } 0 0 n := by
  obtain ⟨h0, h1, h2, h3, h4, h5, h6⟩ := h
  exact callB_of n S.2.2.2.2 (uGood h0 h1) rfl rfl rfl (S.2.2.2.2 _ (h0 _ h3)) (S.2.2.2.2 _ (h0 _ h2)) h4 ⟨h5, h6⟩
theorem uRunV {Pc : Array Value → State → Prop} {Qc : Array Value → State → Outcome → State → Prop} {free : Addr → Prop} (S : CallFix p m c cc nL s args Ts own) (hcw : uCW Ts own index y bytes maxL ret n fr lo R) (hI : Cond.instanceMethod y ∈ uWS) (hX : Cond.selects C y y ∈ uWS) (hM : Met l y (Cond.code y bytes maxL ret :: uWS) { frames := fr, cells := 0, slots := 0, locals := lo } Pc Qc 0 0 free) (hp : PreV s H C b Pc As) (hn : As.length = n) (hls : ls.size = nL) {st0 : List Value} (hst : st0 = As.reverse ++ .ref b :: rest) (hW : (rest.map fun v => v.category).sum ≤ 8) (hdg : decode cc pc = .ok (.invokevirtual index, 3)) (hc : cells ≤ R.cells ∧ slots ≤ R.slots) :
    va_Run p l e R s m args below meth c H locs cells slots 0 0 (F0 m pc ls st0) rest (Qc (Value.ref b :: As).toArray) free :=
  va_runV S hM ⟨uCB S hcw, S.2.2.2.2 _ (hcw.1 _ hI), S.2.2.2.2 _ (hcw.1 _ hX)⟩ hp rfl hn hls hst (lv_room hW) hdg hc
theorem uRunS {Pc : Array Value → State → Prop} {Qc : Array Value → State → Outcome → State → Prop} {free : Addr → Prop} (S : CallFix p m c cc nL s args Ts own) (hcw : uCW Ts own index y bytes maxL ret n fr lo R) (hI : Cond.static y ∈ uWS) (hM : Met l y (Cond.code y bytes maxL ret :: uWS) { frames := fr, cells := 0, slots := 0, locals := lo } Pc Qc 0 0 free) (hp : PreS s H Pc As) (hn : As.length = n) (hls : ls.size = nL) {st0 : List Value} (hst : st0 = As.reverse ++ rest) (hW : (rest.map fun v => v.category).sum ≤ 8) (hdg : decode cc pc = .ok (.invokestatic index, 3)) (hc : cells ≤ R.cells ∧ slots ≤ R.slots) :
    va_Run p l e R s m args below meth c H locs cells slots 0 0 (F0 m pc ls st0) rest (Qc As.toArray) free :=
  va_runS S hM ⟨uCB S hcw, S.2.2.2.2 _ (hcw.1 _ hI)⟩ hp rfl hn hls hst (lv_room hW) hdg hc
/-- x.f(..) with an int answer, on an object of the same world -/
theorem uVi {post : Int32 → σ → Prop} (S : CallFix p m c cc nL s args Ts own) (hK : va_K D cl tys s) (hN : ∀ w ∈ uNW, va_Nw w s) (hP : va_P D cl (uw N ad (G st)) H) (hS : va_S (uA N ad s.heap.size) s.heap H locs) (hM : uMi l y bytes maxL ret fr lo D cl tys N ad G st (.ref (ad b) :: As) post) (hcw : uCW Ts own index y bytes maxL ret n fr lo R) (hI : Cond.instanceMethod y ∈ uWS) (hX : Cond.selects C y y ∈ uWS) (hb : b < N) {ci : Nat} {q : vw_C} {fs : List Value} (hg : G st b = .inr (ci, fs)) (hq : cl[ci]? = some q) (hqC : q.1 = C) (hn : As.length = n) (hls : ls.size = nL) {st0 : List Value} (hst : st0 = As.reverse ++ .ref (ad b) :: rest) (hW : (rest.map fun v => v.category).sum ≤ 8) (hdg : decode cc pc = .ok (.invokevirtual index, 3)) (hc : cells ≤ R.cells ∧ slots ≤ R.slots)
    (kk : ∀ (r : Int32) (u : σ) (H1 : Heap) (locs1 : List Loc), post r u → va_P D cl (uw N ad (G u)) H1 → va_S (uA N ad s.heap.size) s.heap H1 locs1 → W p l e R s m args below meth c H1 locs1 cells slots Q (F0 m (pc + 3) ls (.int r :: rest))) : W p l e R s m args below meth c H locs cells slots Q (F0 m pc ls st0) := by
  subst hqC
  refine va_calli (uRunV S hcw hI hX (hM H.size) ⟨uB_blind, va_recv hK hP hq (uw_at hb hg), uB_at hP hK hN⟩ hn hls hst hW hdg hc) hS (fun q _ h => uKeep hS q h) (uKeep hS) (fun r u t H1 locs1 ht _ hp hB _ _ hS1 => ?_)
  exact kk r u H1 locs1 hp (by have h9 : va_P D cl (uw N ad (G u)) t.heap := hB; rw [ht] at h9; exact h9) hS1
theorem uVv {post : σ → Prop} (S : CallFix p m c cc nL s args Ts own) (hK : va_K D cl tys s) (hN : ∀ w ∈ uNW, va_Nw w s) (hP : va_P D cl (uw N ad (G st)) H) (hS : va_S (uA N ad s.heap.size) s.heap H locs) (hM : uMv l y bytes maxL ret fr lo D cl tys N ad G st (.ref (ad b) :: As) post) (hcw : uCW Ts own index y bytes maxL ret n fr lo R) (hI : Cond.instanceMethod y ∈ uWS) (hX : Cond.selects C y y ∈ uWS) (hb : b < N) {ci : Nat} {q : vw_C} {fs : List Value} (hg : G st b = .inr (ci, fs)) (hq : cl[ci]? = some q) (hqC : q.1 = C) (hn : As.length = n) (hls : ls.size = nL) {st0 : List Value} (hst : st0 = As.reverse ++ .ref (ad b) :: rest) (hW : (rest.map fun v => v.category).sum ≤ 8) (hdg : decode cc pc = .ok (.invokevirtual index, 3)) (hc : cells ≤ R.cells ∧ slots ≤ R.slots)
    (kk : ∀ (u : σ) (H1 : Heap) (locs1 : List Loc), post u → va_P D cl (uw N ad (G u)) H1 → va_S (uA N ad s.heap.size) s.heap H1 locs1 → W p l e R s m args below meth c H1 locs1 cells slots Q (F0 m (pc + 3) ls rest)) : W p l e R s m args below meth c H locs cells slots Q (F0 m pc ls st0) := by
  subst hqC
  refine va_callv (uRunV S hcw hI hX (hM H.size) ⟨uB_blind, va_recv hK hP hq (uw_at hb hg), uB_at hP hK hN⟩ hn hls hst hW hdg hc) hS (fun q _ h => uKeep hS q h) (uKeep hS) (fun u t H1 locs1 ht _ hp hB _ _ hS1 => ?_)
  exact kk u H1 locs1 hp (by have h9 : va_P D cl (uw N ad (G u)) t.heap := hB; rw [ht] at h9; exact h9) hS1
/-- a static method with an int answer -/
theorem uSi {post : Int32 → σ → Prop} (S : CallFix p m c cc nL s args Ts own) (hK : va_K D cl tys s) (hN : ∀ w ∈ uNW, va_Nw w s) (hP : va_P D cl (uw N ad (G st)) H) (hS : va_S (uA N ad s.heap.size) s.heap H locs) (hM : uMi l y bytes maxL ret fr lo D cl tys N ad G st As post) (hcw : uCW Ts own index y bytes maxL ret n fr lo R) (hI : Cond.static y ∈ uWS) (hn : As.length = n) (hls : ls.size = nL) {st0 : List Value} (hst : st0 = As.reverse ++ rest) (hW : (rest.map fun v => v.category).sum ≤ 8) (hdg : decode cc pc = .ok (.invokestatic index, 3)) (hc : cells ≤ R.cells ∧ slots ≤ R.slots)
    (kk : ∀ (r : Int32) (u : σ) (H1 : Heap) (locs1 : List Loc), post r u → va_P D cl (uw N ad (G u)) H1 → va_S (uA N ad s.heap.size) s.heap H1 locs1 → W p l e R s m args below meth c H1 locs1 cells slots Q (F0 m (pc + 3) ls (.int r :: rest))) : W p l e R s m args below meth c H locs cells slots Q (F0 m pc ls st0) := by
  refine va_calli (uRunS S hcw hI (hM H.size) ⟨uB_blind, uB_at hP hK hN⟩ hn hls hst hW hdg hc) hS (fun q _ h => uKeep hS q h) (uKeep hS) (fun r u t H1 locs1 ht _ hp hB _ _ hS1 => ?_)
  exact kk r u H1 locs1 hp (by have h9 : va_P D cl (uw N ad (G u)) t.heap := hB; rw [ht] at h9; exact h9) hS1
theorem uSv {post : σ → Prop} (S : CallFix p m c cc nL s args Ts own) (hK : va_K D cl tys s) (hN : ∀ w ∈ uNW, va_Nw w s) (hP : va_P D cl (uw N ad (G st)) H) (hS : va_S (uA N ad s.heap.size) s.heap H locs) (hM : uMv l y bytes maxL ret fr lo D cl tys N ad G st As post) (hcw : uCW Ts own index y bytes maxL ret n fr lo R) (hI : Cond.static y ∈ uWS) (hn : As.length = n) (hls : ls.size = nL) {st0 : List Value} (hst : st0 = As.reverse ++ rest) (hW : (rest.map fun v => v.category).sum ≤ 8) (hdg : decode cc pc = .ok (.invokestatic index, 3)) (hc : cells ≤ R.cells ∧ slots ≤ R.slots)
    (kk : ∀ (u : σ) (H1 : Heap) (locs1 : List Loc), post u → va_P D cl (uw N ad (G u)) H1 → va_S (uA N ad s.heap.size) s.heap H1 locs1 → W p l e R s m args below meth c H1 locs1 cells slots Q (F0 m (pc + 3) ls rest)) : W p l e R s m args below meth c H locs cells slots Q (F0 m pc ls st0) := by
  refine va_callv (uRunS S hcw hI (hM H.size) ⟨uB_blind, uB_at hP hK hN⟩ hn hls hst hW hdg hc) hS (fun q _ h => uKeep hS q h) (uKeep hS) (fun u t H1 locs1 ht _ hp hB _ _ hS1 => ?_)
  exact kk u H1 locs1 hp (by have h9 : va_P D cl (uw N ad (G u)) t.heap := hB; rw [ht] at h9; exact h9) hS1
end UCALLS
end
