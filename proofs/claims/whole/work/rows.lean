section
-- ===== PART A: goes FIRST, ahead of the names: the tables' words, and 'selects' of the private methods out of them =====
/-- a private method of a class that the tables say can be made, by its rows of tables_1 -/
def lw_okq (q : MethodName × Nat) : Prop := (q.1.cls ≠ "java/lang/invoke/MethodHandle" ∧ q.1.cls ≠ "java/lang/invoke/VarHandle") ∧ Cond.instantiable q.1.cls q.2 ∈ tables_1 ∧ Cond.privateMethod q.1 ∈ tables_1 ∧ Cond.instanceMethod q.1 ∈ tables_1
theorem lw_p0 : lw_okq (⟨"SealedFile$History", "startRow", "(I)V"⟩, 10) := ⟨⟨by decide +kernel, by decide +kernel⟩, List.mem_of_getElem? (i := 111) (by decide +kernel), List.mem_of_getElem? (i := 184) (by decide +kernel), List.mem_of_getElem? (i := 185) (by decide +kernel)⟩
theorem lw_p1 : lw_okq (⟨"SealedFile$History", "takeWrites", "(II)V"⟩, 10) := ⟨⟨by decide +kernel, by decide +kernel⟩, List.mem_of_getElem? (i := 111) (by decide +kernel), List.mem_of_getElem? (i := 197) (by decide +kernel), List.mem_of_getElem? (i := 198) (by decide +kernel)⟩
theorem lw_p2 : lw_okq (⟨"SealedFile$History", "thingsThere", "(I)I"⟩, 10) := ⟨⟨by decide +kernel, by decide +kernel⟩, List.mem_of_getElem? (i := 111) (by decide +kernel), List.mem_of_getElem? (i := 213) (by decide +kernel), List.mem_of_getElem? (i := 214) (by decide +kernel)⟩
theorem lw_p3 : lw_okq (⟨"SealedFile$History", "noteChanges", "(I)V"⟩, 10) := ⟨⟨by decide +kernel, by decide +kernel⟩, List.mem_of_getElem? (i := 111) (by decide +kernel), List.mem_of_getElem? (i := 221) (by decide +kernel), List.mem_of_getElem? (i := 222) (by decide +kernel)⟩
theorem lw_p4 : lw_okq (⟨"SealedFile$History", "isOther", "(II)Z"⟩, 10) := ⟨⟨by decide +kernel, by decide +kernel⟩, List.mem_of_getElem? (i := 111) (by decide +kernel), List.mem_of_getElem? (i := 228) (by decide +kernel), List.mem_of_getElem? (i := 229) (by decide +kernel)⟩
theorem lw_p5 : lw_okq (⟨"SealedFile$History", "judgeBehind", "(I)V"⟩, 10) := ⟨⟨by decide +kernel, by decide +kernel⟩, List.mem_of_getElem? (i := 111) (by decide +kernel), List.mem_of_getElem? (i := 232) (by decide +kernel), List.mem_of_getElem? (i := 233) (by decide +kernel)⟩
theorem lw_p6 : lw_okq (⟨"SealedFile", "takeWrite", "(III)I"⟩, 7) := ⟨⟨by decide +kernel, by decide +kernel⟩, List.mem_of_getElem? (i := 13) (by decide +kernel), List.mem_of_getElem? (i := 275) (by decide +kernel), List.mem_of_getElem? (i := 276) (by decide +kernel)⟩
theorem lw_p7 : lw_okq (⟨"SealedFile", "reckon", "()V"⟩, 7) := ⟨⟨by decide +kernel, by decide +kernel⟩, List.mem_of_getElem? (i := 13) (by decide +kernel), List.mem_of_getElem? (i := 305) (by decide +kernel), List.mem_of_getElem? (i := 306) (by decide +kernel)⟩
theorem lw_p8 : lw_okq (⟨"SealedFile$Covers", "numberNow", "(I)I"⟩, 7) := ⟨⟨by decide +kernel, by decide +kernel⟩, List.mem_of_getElem? (i := 79) (by decide +kernel), List.mem_of_getElem? (i := 325) (by decide +kernel), List.mem_of_getElem? (i := 326) (by decide +kernel)⟩
theorem lw_p9 : lw_okq (⟨"SealedFile$Covers", "edgeIfUntold", "(II)I"⟩, 7) := ⟨⟨by decide +kernel, by decide +kernel⟩, List.mem_of_getElem? (i := 79) (by decide +kernel), List.mem_of_getElem? (i := 333) (by decide +kernel), List.mem_of_getElem? (i := 334) (by decide +kernel)⟩
theorem lw_p10 : lw_okq (⟨"SealedFile$Covers", "flawsOfEdges", "(I)I"⟩, 7) := ⟨⟨by decide +kernel, by decide +kernel⟩, List.mem_of_getElem? (i := 79) (by decide +kernel), List.mem_of_getElem? (i := 352) (by decide +kernel), List.mem_of_getElem? (i := 353) (by decide +kernel)⟩
theorem lw_p11 : lw_okq (⟨"SealedFile", "find", "(I)I"⟩, 7) := ⟨⟨by decide +kernel, by decide +kernel⟩, List.mem_of_getElem? (i := 13) (by decide +kernel), List.mem_of_getElem? (i := 413) (by decide +kernel), List.mem_of_getElem? (i := 414) (by decide +kernel)⟩
theorem lw_p12 : lw_okq (⟨"SealedFile", "holds", "(ILSealedFile$History;)Z"⟩, 7) := ⟨⟨by decide +kernel, by decide +kernel⟩, List.mem_of_getElem? (i := 13) (by decide +kernel), List.mem_of_getElem? (i := 489) (by decide +kernel), List.mem_of_getElem? (i := 490) (by decide +kernel)⟩
theorem lw_p13 : lw_okq (⟨"SealedFile", "firstSealAgainst", "(I)I"⟩, 7) := ⟨⟨by decide +kernel, by decide +kernel⟩, List.mem_of_getElem? (i := 13) (by decide +kernel), List.mem_of_getElem? (i := 507) (by decide +kernel), List.mem_of_getElem? (i := 508) (by decide +kernel)⟩
theorem lw_p14 : lw_okq (⟨"SealedFile", "howManyHold", "(LSealedFile$History;I)I"⟩, 7) := ⟨⟨by decide +kernel, by decide +kernel⟩, List.mem_of_getElem? (i := 13) (by decide +kernel), List.mem_of_getElem? (i := 515) (by decide +kernel), List.mem_of_getElem? (i := 516) (by decide +kernel)⟩
theorem lw_p15 : lw_okq (⟨"SealedFile", "howManyClosedSeals", "()I"⟩, 7) := ⟨⟨by decide +kernel, by decide +kernel⟩, List.mem_of_getElem? (i := 13) (by decide +kernel), List.mem_of_getElem? (i := 519) (by decide +kernel), List.mem_of_getElem? (i := 520) (by decide +kernel)⟩
def lw_privs_1 : List (MethodName × Nat) := [(⟨"SealedFile$History", "startRow", "(I)V"⟩, 10), (⟨"SealedFile$History", "takeWrites", "(II)V"⟩, 10), (⟨"SealedFile$History", "thingsThere", "(I)I"⟩, 10), (⟨"SealedFile$History", "noteChanges", "(I)V"⟩, 10), (⟨"SealedFile$History", "isOther", "(II)Z"⟩, 10), (⟨"SealedFile$History", "judgeBehind", "(I)V"⟩, 10), (⟨"SealedFile", "takeWrite", "(III)I"⟩, 7), (⟨"SealedFile", "reckon", "()V"⟩, 7), (⟨"SealedFile$Covers", "numberNow", "(I)I"⟩, 7), (⟨"SealedFile$Covers", "edgeIfUntold", "(II)I"⟩, 7), (⟨"SealedFile$Covers", "flawsOfEdges", "(I)I"⟩, 7), (⟨"SealedFile", "find", "(I)I"⟩, 7), (⟨"SealedFile", "holds", "(ILSealedFile$History;)Z"⟩, 7), (⟨"SealedFile", "firstSealAgainst", "(I)I"⟩, 7), (⟨"SealedFile", "howManyHold", "(LSealedFile$History;I)I"⟩, 7), (⟨"SealedFile", "howManyClosedSeals", "()I"⟩, 7)]
theorem lw_r1 : ∀ q ∈ lw_privs_1, lw_okq q := List.forall_mem_cons.mpr ⟨lw_p0, List.forall_mem_cons.mpr ⟨lw_p1, List.forall_mem_cons.mpr ⟨lw_p2, List.forall_mem_cons.mpr ⟨lw_p3, List.forall_mem_cons.mpr ⟨lw_p4, List.forall_mem_cons.mpr ⟨lw_p5, List.forall_mem_cons.mpr ⟨lw_p6, List.forall_mem_cons.mpr ⟨lw_p7, List.forall_mem_cons.mpr ⟨lw_p8, List.forall_mem_cons.mpr ⟨lw_p9, List.forall_mem_cons.mpr ⟨lw_p10, List.forall_mem_cons.mpr ⟨lw_p11, List.forall_mem_cons.mpr ⟨lw_p12, List.forall_mem_cons.mpr ⟨lw_p13, List.forall_mem_cons.mpr ⟨lw_p14, List.forall_mem_cons.mpr ⟨lw_p15, fun _ h => absurd h List.not_mem_nil⟩⟩⟩⟩⟩⟩⟩⟩⟩⟩⟩⟩⟩⟩⟩⟩
theorem lw_p16 : lw_okq (⟨"SealedFile", "howManyShadowed", "()I"⟩, 7) := ⟨⟨by decide +kernel, by decide +kernel⟩, List.mem_of_getElem? (i := 13) (by decide +kernel), List.mem_of_getElem? (i := 585) (by decide +kernel), List.mem_of_getElem? (i := 586) (by decide +kernel)⟩
theorem lw_p17 : lw_okq (⟨"SealedFile", "digestRevision", "(JI)J"⟩, 7) := ⟨⟨by decide +kernel, by decide +kernel⟩, List.mem_of_getElem? (i := 13) (by decide +kernel), List.mem_of_getElem? (i := 597) (by decide +kernel), List.mem_of_getElem? (i := 598) (by decide +kernel)⟩
theorem lw_p18 : lw_okq (⟨"SealedFile", "digestThing", "(JI)J"⟩, 7) := ⟨⟨by decide +kernel, by decide +kernel⟩, List.mem_of_getElem? (i := 13) (by decide +kernel), List.mem_of_getElem? (i := 603) (by decide +kernel), List.mem_of_getElem? (i := 604) (by decide +kernel)⟩
theorem lw_p19 : lw_okq (⟨"SealedFile", "digestWrite", "(JI)J"⟩, 7) := ⟨⟨by decide +kernel, by decide +kernel⟩, List.mem_of_getElem? (i := 13) (by decide +kernel), List.mem_of_getElem? (i := 608) (by decide +kernel), List.mem_of_getElem? (i := 609) (by decide +kernel)⟩
theorem lw_p20 : lw_okq (⟨"SealedFile", "digestChanges", "(JI)J"⟩, 7) := ⟨⟨by decide +kernel, by decide +kernel⟩, List.mem_of_getElem? (i := 13) (by decide +kernel), List.mem_of_getElem? (i := 618) (by decide +kernel), List.mem_of_getElem? (i := 619) (by decide +kernel)⟩
theorem lw_p21 : lw_okq (⟨"SealedFile", "digestFile", "(J)J"⟩, 7) := ⟨⟨by decide +kernel, by decide +kernel⟩, List.mem_of_getElem? (i := 13) (by decide +kernel), List.mem_of_getElem? (i := 624) (by decide +kernel), List.mem_of_getElem? (i := 625) (by decide +kernel)⟩
theorem lw_p22 : lw_okq (⟨"SealedFileModel", "finds", "(I)I"⟩, 16) := ⟨⟨by decide +kernel, by decide +kernel⟩, List.mem_of_getElem? (i := 631) (by decide +kernel), List.mem_of_getElem? (i := 698) (by decide +kernel), List.mem_of_getElem? (i := 699) (by decide +kernel)⟩
theorem lw_p23 : lw_okq (⟨"SealedFileModel", "lacks", "(III)I"⟩, 16) := ⟨⟨by decide +kernel, by decide +kernel⟩, List.mem_of_getElem? (i := 631) (by decide +kernel), List.mem_of_getElem? (i := 710) (by decide +kernel), List.mem_of_getElem? (i := 711) (by decide +kernel)⟩
theorem lw_p24 : lw_okq (⟨"SealedFileModel", "manyOf", "(I)I"⟩, 16) := ⟨⟨by decide +kernel, by decide +kernel⟩, List.mem_of_getElem? (i := 631) (by decide +kernel), List.mem_of_getElem? (i := 740) (by decide +kernel), List.mem_of_getElem? (i := 741) (by decide +kernel)⟩
theorem lw_p25 : lw_okq (⟨"SealedFileModel", "numberOf", "(I)I"⟩, 16) := ⟨⟨by decide +kernel, by decide +kernel⟩, List.mem_of_getElem? (i := 631) (by decide +kernel), List.mem_of_getElem? (i := 744) (by decide +kernel), List.mem_of_getElem? (i := 745) (by decide +kernel)⟩
theorem lw_p26 : lw_okq (⟨"SealedFileModel", "coverOf", "(II)I"⟩, 16) := ⟨⟨by decide +kernel, by decide +kernel⟩, List.mem_of_getElem? (i := 631) (by decide +kernel), List.mem_of_getElem? (i := 748) (by decide +kernel), List.mem_of_getElem? (i := 749) (by decide +kernel)⟩
theorem lw_p27 : lw_okq (⟨"SealedFileModel", "usual", "(II)I"⟩, 16) := ⟨⟨by decide +kernel, by decide +kernel⟩, List.mem_of_getElem? (i := 631) (by decide +kernel), List.mem_of_getElem? (i := 752) (by decide +kernel), List.mem_of_getElem? (i := 753) (by decide +kernel)⟩
theorem lw_p28 : lw_okq (⟨"SealedFileModel", "placeOf", "(I)I"⟩, 16) := ⟨⟨by decide +kernel, by decide +kernel⟩, List.mem_of_getElem? (i := 631) (by decide +kernel), List.mem_of_getElem? (i := 756) (by decide +kernel), List.mem_of_getElem? (i := 757) (by decide +kernel)⟩
theorem lw_p29 : lw_okq (⟨"SealedFileModel", "endOf", "(I)I"⟩, 16) := ⟨⟨by decide +kernel, by decide +kernel⟩, List.mem_of_getElem? (i := 631) (by decide +kernel), List.mem_of_getElem? (i := 760) (by decide +kernel), List.mem_of_getElem? (i := 761) (by decide +kernel)⟩
theorem lw_p30 : lw_okq (⟨"SealedFileModel", "beginOf", "(I)I"⟩, 16) := ⟨⟨by decide +kernel, by decide +kernel⟩, List.mem_of_getElem? (i := 631) (by decide +kernel), List.mem_of_getElem? (i := 764) (by decide +kernel), List.mem_of_getElem? (i := 765) (by decide +kernel)⟩
theorem lw_p31 : lw_okq (⟨"SealedFileModel", "firstOf", "(I)I"⟩, 16) := ⟨⟨by decide +kernel, by decide +kernel⟩, List.mem_of_getElem? (i := 631) (by decide +kernel), List.mem_of_getElem? (i := 768) (by decide +kernel), List.mem_of_getElem? (i := 769) (by decide +kernel)⟩
def lw_privs_2 : List (MethodName × Nat) := [(⟨"SealedFile", "howManyShadowed", "()I"⟩, 7), (⟨"SealedFile", "digestRevision", "(JI)J"⟩, 7), (⟨"SealedFile", "digestThing", "(JI)J"⟩, 7), (⟨"SealedFile", "digestWrite", "(JI)J"⟩, 7), (⟨"SealedFile", "digestChanges", "(JI)J"⟩, 7), (⟨"SealedFile", "digestFile", "(J)J"⟩, 7), (⟨"SealedFileModel", "finds", "(I)I"⟩, 16), (⟨"SealedFileModel", "lacks", "(III)I"⟩, 16), (⟨"SealedFileModel", "manyOf", "(I)I"⟩, 16), (⟨"SealedFileModel", "numberOf", "(I)I"⟩, 16), (⟨"SealedFileModel", "coverOf", "(II)I"⟩, 16), (⟨"SealedFileModel", "usual", "(II)I"⟩, 16), (⟨"SealedFileModel", "placeOf", "(I)I"⟩, 16), (⟨"SealedFileModel", "endOf", "(I)I"⟩, 16), (⟨"SealedFileModel", "beginOf", "(I)I"⟩, 16), (⟨"SealedFileModel", "firstOf", "(I)I"⟩, 16)]
theorem lw_r2 : ∀ q ∈ lw_privs_2, lw_okq q := List.forall_mem_cons.mpr ⟨lw_p16, List.forall_mem_cons.mpr ⟨lw_p17, List.forall_mem_cons.mpr ⟨lw_p18, List.forall_mem_cons.mpr ⟨lw_p19, List.forall_mem_cons.mpr ⟨lw_p20, List.forall_mem_cons.mpr ⟨lw_p21, List.forall_mem_cons.mpr ⟨lw_p22, List.forall_mem_cons.mpr ⟨lw_p23, List.forall_mem_cons.mpr ⟨lw_p24, List.forall_mem_cons.mpr ⟨lw_p25, List.forall_mem_cons.mpr ⟨lw_p26, List.forall_mem_cons.mpr ⟨lw_p27, List.forall_mem_cons.mpr ⟨lw_p28, List.forall_mem_cons.mpr ⟨lw_p29, List.forall_mem_cons.mpr ⟨lw_p30, List.forall_mem_cons.mpr ⟨lw_p31, fun _ h => absurd h List.not_mem_nil⟩⟩⟩⟩⟩⟩⟩⟩⟩⟩⟩⟩⟩⟩⟩⟩
theorem lw_p32 : lw_okq (⟨"SealedFileModel", "allBytes", "()I"⟩, 16) := ⟨⟨by decide +kernel, by decide +kernel⟩, List.mem_of_getElem? (i := 631) (by decide +kernel), List.mem_of_getElem? (i := 772) (by decide +kernel), List.mem_of_getElem? (i := 773) (by decide +kernel)⟩
theorem lw_p33 : lw_okq (⟨"SealedFileModel", "byteAt", "(I)I"⟩, 16) := ⟨⟨by decide +kernel, by decide +kernel⟩, List.mem_of_getElem? (i := 631) (by decide +kernel), List.mem_of_getElem? (i := 779) (by decide +kernel), List.mem_of_getElem? (i := 780) (by decide +kernel)⟩
theorem lw_p34 : lw_okq (⟨"SealedFileModel", "byteOf", "(II)I"⟩, 16) := ⟨⟨by decide +kernel, by decide +kernel⟩, List.mem_of_getElem? (i := 631) (by decide +kernel), List.mem_of_getElem? (i := 783) (by decide +kernel), List.mem_of_getElem? (i := 784) (by decide +kernel)⟩
theorem lw_p35 : lw_okq (⟨"SealedFileModel", "isWrite", "(I)Z"⟩, 16) := ⟨⟨by decide +kernel, by decide +kernel⟩, List.mem_of_getElem? (i := 631) (by decide +kernel), List.mem_of_getElem? (i := 795) (by decide +kernel), List.mem_of_getElem? (i := 796) (by decide +kernel)⟩
theorem lw_p36 : lw_okq (⟨"SealedFileModel", "isSeal", "(I)Z"⟩, 16) := ⟨⟨by decide +kernel, by decide +kernel⟩, List.mem_of_getElem? (i := 631) (by decide +kernel), List.mem_of_getElem? (i := 803) (by decide +kernel), List.mem_of_getElem? (i := 804) (by decide +kernel)⟩
theorem lw_p37 : lw_okq (⟨"SealedFileModel", "isClosed", "(I)Z"⟩, 16) := ⟨⟨by decide +kernel, by decide +kernel⟩, List.mem_of_getElem? (i := 631) (by decide +kernel), List.mem_of_getElem? (i := 807) (by decide +kernel), List.mem_of_getElem? (i := 808) (by decide +kernel)⟩
theorem lw_p38 : lw_okq (⟨"SealedFileModel", "writeBy", "(II)I"⟩, 16) := ⟨⟨by decide +kernel, by decide +kernel⟩, List.mem_of_getElem? (i := 631) (by decide +kernel), List.mem_of_getElem? (i := 829) (by decide +kernel), List.mem_of_getElem? (i := 830) (by decide +kernel)⟩
theorem lw_p39 : lw_okq (⟨"SealedFileModel", "isRevision", "(I)Z"⟩, 16) := ⟨⟨by decide +kernel, by decide +kernel⟩, List.mem_of_getElem? (i := 631) (by decide +kernel), List.mem_of_getElem? (i := 837) (by decide +kernel), List.mem_of_getElem? (i := 838) (by decide +kernel)⟩
theorem lw_p40 : lw_okq (⟨"SealedFileModel", "revisionBy", "(II)I"⟩, 16) := ⟨⟨by decide +kernel, by decide +kernel⟩, List.mem_of_getElem? (i := 631) (by decide +kernel), List.mem_of_getElem? (i := 841) (by decide +kernel), List.mem_of_getElem? (i := 842) (by decide +kernel)⟩
theorem lw_p41 : lw_okq (⟨"SealedFileModel", "thingBy", "(III)I"⟩, 16) := ⟨⟨by decide +kernel, by decide +kernel⟩, List.mem_of_getElem? (i := 631) (by decide +kernel), List.mem_of_getElem? (i := 852) (by decide +kernel), List.mem_of_getElem? (i := 853) (by decide +kernel)⟩
theorem lw_p42 : lw_okq (⟨"SealedFileModel", "lastOf", "(II)I"⟩, 16) := ⟨⟨by decide +kernel, by decide +kernel⟩, List.mem_of_getElem? (i := 631) (by decide +kernel), List.mem_of_getElem? (i := 856) (by decide +kernel), List.mem_of_getElem? (i := 857) (by decide +kernel)⟩
theorem lw_p43 : lw_okq (⟨"SealedFileModel", "shadowsIn", "(I)I"⟩, 16) := ⟨⟨by decide +kernel, by decide +kernel⟩, List.mem_of_getElem? (i := 631) (by decide +kernel), List.mem_of_getElem? (i := 864) (by decide +kernel), List.mem_of_getElem? (i := 865) (by decide +kernel)⟩
theorem lw_p44 : lw_okq (⟨"SealedFileModel", "isShadowed", "(II)Z"⟩, 16) := ⟨⟨by decide +kernel, by decide +kernel⟩, List.mem_of_getElem? (i := 631) (by decide +kernel), List.mem_of_getElem? (i := 868) (by decide +kernel), List.mem_of_getElem? (i := 869) (by decide +kernel)⟩
theorem lw_p45 : lw_okq (⟨"SealedFileModel", "coveredBy", "(I)I"⟩, 16) := ⟨⟨by decide +kernel, by decide +kernel⟩, List.mem_of_getElem? (i := 631) (by decide +kernel), List.mem_of_getElem? (i := 880) (by decide +kernel), List.mem_of_getElem? (i := 881) (by decide +kernel)⟩
theorem lw_p46 : lw_okq (⟨"SealedFileModel", "numberBy", "(II)I"⟩, 16) := ⟨⟨by decide +kernel, by decide +kernel⟩, List.mem_of_getElem? (i := 631) (by decide +kernel), List.mem_of_getElem? (i := 888) (by decide +kernel), List.mem_of_getElem? (i := 889) (by decide +kernel)⟩
theorem lw_p47 : lw_okq (⟨"SealedFileModel", "flawsOf", "(I)I"⟩, 16) := ⟨⟨by decide +kernel, by decide +kernel⟩, List.mem_of_getElem? (i := 631) (by decide +kernel), List.mem_of_getElem? (i := 899) (by decide +kernel), List.mem_of_getElem? (i := 900) (by decide +kernel)⟩
def lw_privs_3 : List (MethodName × Nat) := [(⟨"SealedFileModel", "allBytes", "()I"⟩, 16), (⟨"SealedFileModel", "byteAt", "(I)I"⟩, 16), (⟨"SealedFileModel", "byteOf", "(II)I"⟩, 16), (⟨"SealedFileModel", "isWrite", "(I)Z"⟩, 16), (⟨"SealedFileModel", "isSeal", "(I)Z"⟩, 16), (⟨"SealedFileModel", "isClosed", "(I)Z"⟩, 16), (⟨"SealedFileModel", "writeBy", "(II)I"⟩, 16), (⟨"SealedFileModel", "isRevision", "(I)Z"⟩, 16), (⟨"SealedFileModel", "revisionBy", "(II)I"⟩, 16), (⟨"SealedFileModel", "thingBy", "(III)I"⟩, 16), (⟨"SealedFileModel", "lastOf", "(II)I"⟩, 16), (⟨"SealedFileModel", "shadowsIn", "(I)I"⟩, 16), (⟨"SealedFileModel", "isShadowed", "(II)Z"⟩, 16), (⟨"SealedFileModel", "coveredBy", "(I)I"⟩, 16), (⟨"SealedFileModel", "numberBy", "(II)I"⟩, 16), (⟨"SealedFileModel", "flawsOf", "(I)I"⟩, 16)]
theorem lw_r3 : ∀ q ∈ lw_privs_3, lw_okq q := List.forall_mem_cons.mpr ⟨lw_p32, List.forall_mem_cons.mpr ⟨lw_p33, List.forall_mem_cons.mpr ⟨lw_p34, List.forall_mem_cons.mpr ⟨lw_p35, List.forall_mem_cons.mpr ⟨lw_p36, List.forall_mem_cons.mpr ⟨lw_p37, List.forall_mem_cons.mpr ⟨lw_p38, List.forall_mem_cons.mpr ⟨lw_p39, List.forall_mem_cons.mpr ⟨lw_p40, List.forall_mem_cons.mpr ⟨lw_p41, List.forall_mem_cons.mpr ⟨lw_p42, List.forall_mem_cons.mpr ⟨lw_p43, List.forall_mem_cons.mpr ⟨lw_p44, List.forall_mem_cons.mpr ⟨lw_p45, List.forall_mem_cons.mpr ⟨lw_p46, List.forall_mem_cons.mpr ⟨lw_p47, fun _ h => absurd h List.not_mem_nil⟩⟩⟩⟩⟩⟩⟩⟩⟩⟩⟩⟩⟩⟩⟩⟩
theorem lw_p48 : lw_okq (⟨"SealedFileModel", "judgeBy", "(II)I"⟩, 16) := ⟨⟨by decide +kernel, by decide +kernel⟩, List.mem_of_getElem? (i := 631) (by decide +kernel), List.mem_of_getElem? (i := 907) (by decide +kernel), List.mem_of_getElem? (i := 908) (by decide +kernel)⟩
theorem lw_p49 : lw_okq (⟨"SealedFileModel", "verdictOf", "(I)I"⟩, 16) := ⟨⟨by decide +kernel, by decide +kernel⟩, List.mem_of_getElem? (i := 631) (by decide +kernel), List.mem_of_getElem? (i := 911) (by decide +kernel), List.mem_of_getElem? (i := 912) (by decide +kernel)⟩
theorem lw_p50 : lw_okq (⟨"SealedFileModel", "sortOf", "(III)I"⟩, 16) := ⟨⟨by decide +kernel, by decide +kernel⟩, List.mem_of_getElem? (i := 631) (by decide +kernel), List.mem_of_getElem? (i := 915) (by decide +kernel), List.mem_of_getElem? (i := 916) (by decide +kernel)⟩
theorem lw_p51 : lw_okq (⟨"SealedFileModel", "kindAt", "(I)I"⟩, 16) := ⟨⟨by decide +kernel, by decide +kernel⟩, List.mem_of_getElem? (i := 631) (by decide +kernel), List.mem_of_getElem? (i := 919) (by decide +kernel), List.mem_of_getElem? (i := 920) (by decide +kernel)⟩
theorem lw_p52 : lw_okq (⟨"SealedFileModel", "isFree", "(III)Z"⟩, 16) := ⟨⟨by decide +kernel, by decide +kernel⟩, List.mem_of_getElem? (i := 631) (by decide +kernel), List.mem_of_getElem? (i := 926) (by decide +kernel), List.mem_of_getElem? (i := 927) (by decide +kernel)⟩
theorem lw_p53 : lw_okq (⟨"SealedFileModel", "manyChanges", "(II)I"⟩, 16) := ⟨⟨by decide +kernel, by decide +kernel⟩, List.mem_of_getElem? (i := 631) (by decide +kernel), List.mem_of_getElem? (i := 936) (by decide +kernel), List.mem_of_getElem? (i := 937) (by decide +kernel)⟩
theorem lw_p54 : lw_okq (⟨"SealedFileModel", "isHolding", "(II)Z"⟩, 16) := ⟨⟨by decide +kernel, by decide +kernel⟩, List.mem_of_getElem? (i := 631) (by decide +kernel), List.mem_of_getElem? (i := 940) (by decide +kernel), List.mem_of_getElem? (i := 941) (by decide +kernel)⟩
theorem lw_p55 : lw_okq (⟨"SealedFileModel", "changeBy", "(III)I"⟩, 16) := ⟨⟨by decide +kernel, by decide +kernel⟩, List.mem_of_getElem? (i := 631) (by decide +kernel), List.mem_of_getElem? (i := 949) (by decide +kernel), List.mem_of_getElem? (i := 950) (by decide +kernel)⟩
theorem lw_p56 : lw_okq (⟨"SealedFileModel", "allowedIn", "(I)I"⟩, 16) := ⟨⟨by decide +kernel, by decide +kernel⟩, List.mem_of_getElem? (i := 631) (by decide +kernel), List.mem_of_getElem? (i := 957) (by decide +kernel), List.mem_of_getElem? (i := 958) (by decide +kernel)⟩
theorem lw_p57 : lw_okq (⟨"SealedFileModel", "firstBy", "(I)I"⟩, 16) := ⟨⟨by decide +kernel, by decide +kernel⟩, List.mem_of_getElem? (i := 631) (by decide +kernel), List.mem_of_getElem? (i := 965) (by decide +kernel), List.mem_of_getElem? (i := 966) (by decide +kernel)⟩
theorem lw_p58 : lw_okq (⟨"SealedFileModel", "holdingBy", "(I)I"⟩, 16) := ⟨⟨by decide +kernel, by decide +kernel⟩, List.mem_of_getElem? (i := 631) (by decide +kernel), List.mem_of_getElem? (i := 973) (by decide +kernel), List.mem_of_getElem? (i := 974) (by decide +kernel)⟩
theorem lw_p59 : lw_okq (⟨"SealedFileModel", "looks", "()V"⟩, 16) := ⟨⟨by decide +kernel, by decide +kernel⟩, List.mem_of_getElem? (i := 631) (by decide +kernel), List.mem_of_getElem? (i := 977) (by decide +kernel), List.mem_of_getElem? (i := 978) (by decide +kernel)⟩
theorem lw_p60 : lw_okq (⟨"SealedFileModel", "manyHold", "()I"⟩, 16) := ⟨⟨by decide +kernel, by decide +kernel⟩, List.mem_of_getElem? (i := 631) (by decide +kernel), List.mem_of_getElem? (i := 981) (by decide +kernel), List.mem_of_getElem? (i := 982) (by decide +kernel)⟩
theorem lw_p61 : lw_okq (⟨"SealedFileModel", "manySeals", "()I"⟩, 16) := ⟨⟨by decide +kernel, by decide +kernel⟩, List.mem_of_getElem? (i := 631) (by decide +kernel), List.mem_of_getElem? (i := 985) (by decide +kernel), List.mem_of_getElem? (i := 986) (by decide +kernel)⟩
theorem lw_p62 : lw_okq (⟨"SealedFileModel", "betterBy", "(I)I"⟩, 16) := ⟨⟨by decide +kernel, by decide +kernel⟩, List.mem_of_getElem? (i := 631) (by decide +kernel), List.mem_of_getElem? (i := 993) (by decide +kernel), List.mem_of_getElem? (i := 994) (by decide +kernel)⟩
theorem lw_p63 : lw_okq (⟨"SealedFileModel", "manyThere", "()I"⟩, 16) := ⟨⟨by decide +kernel, by decide +kernel⟩, List.mem_of_getElem? (i := 631) (by decide +kernel), List.mem_of_getElem? (i := 1005) (by decide +kernel), List.mem_of_getElem? (i := 1006) (by decide +kernel)⟩
def lw_privs_4 : List (MethodName × Nat) := [(⟨"SealedFileModel", "judgeBy", "(II)I"⟩, 16), (⟨"SealedFileModel", "verdictOf", "(I)I"⟩, 16), (⟨"SealedFileModel", "sortOf", "(III)I"⟩, 16), (⟨"SealedFileModel", "kindAt", "(I)I"⟩, 16), (⟨"SealedFileModel", "isFree", "(III)Z"⟩, 16), (⟨"SealedFileModel", "manyChanges", "(II)I"⟩, 16), (⟨"SealedFileModel", "isHolding", "(II)Z"⟩, 16), (⟨"SealedFileModel", "changeBy", "(III)I"⟩, 16), (⟨"SealedFileModel", "allowedIn", "(I)I"⟩, 16), (⟨"SealedFileModel", "firstBy", "(I)I"⟩, 16), (⟨"SealedFileModel", "holdingBy", "(I)I"⟩, 16), (⟨"SealedFileModel", "looks", "()V"⟩, 16), (⟨"SealedFileModel", "manyHold", "()I"⟩, 16), (⟨"SealedFileModel", "manySeals", "()I"⟩, 16), (⟨"SealedFileModel", "betterBy", "(I)I"⟩, 16), (⟨"SealedFileModel", "manyThere", "()I"⟩, 16)]
theorem lw_r4 : ∀ q ∈ lw_privs_4, lw_okq q := List.forall_mem_cons.mpr ⟨lw_p48, List.forall_mem_cons.mpr ⟨lw_p49, List.forall_mem_cons.mpr ⟨lw_p50, List.forall_mem_cons.mpr ⟨lw_p51, List.forall_mem_cons.mpr ⟨lw_p52, List.forall_mem_cons.mpr ⟨lw_p53, List.forall_mem_cons.mpr ⟨lw_p54, List.forall_mem_cons.mpr ⟨lw_p55, List.forall_mem_cons.mpr ⟨lw_p56, List.forall_mem_cons.mpr ⟨lw_p57, List.forall_mem_cons.mpr ⟨lw_p58, List.forall_mem_cons.mpr ⟨lw_p59, List.forall_mem_cons.mpr ⟨lw_p60, List.forall_mem_cons.mpr ⟨lw_p61, List.forall_mem_cons.mpr ⟨lw_p62, List.forall_mem_cons.mpr ⟨lw_p63, fun _ h => absurd h List.not_mem_nil⟩⟩⟩⟩⟩⟩⟩⟩⟩⟩⟩⟩⟩⟩⟩⟩
theorem lw_p64 : lw_okq (⟨"SealedFileModel", "manyShadowed", "()I"⟩, 16) := ⟨⟨by decide +kernel, by decide +kernel⟩, List.mem_of_getElem? (i := 631) (by decide +kernel), List.mem_of_getElem? (i := 1009) (by decide +kernel), List.mem_of_getElem? (i := 1010) (by decide +kernel)⟩
theorem lw_p65 : lw_okq (⟨"SealedFileModel", "tellsWrite", "(JI)J"⟩, 16) := ⟨⟨by decide +kernel, by decide +kernel⟩, List.mem_of_getElem? (i := 631) (by decide +kernel), List.mem_of_getElem? (i := 1024) (by decide +kernel), List.mem_of_getElem? (i := 1025) (by decide +kernel)⟩
def lw_privs_5 : List (MethodName × Nat) := [(⟨"SealedFileModel", "manyShadowed", "()I"⟩, 16), (⟨"SealedFileModel", "tellsWrite", "(JI)J"⟩, 16)]
theorem lw_r5 : ∀ q ∈ lw_privs_5, lw_okq q := List.forall_mem_cons.mpr ⟨lw_p64, List.forall_mem_cons.mpr ⟨lw_p65, fun _ h => absurd h List.not_mem_nil⟩⟩
def lw_privs : List (MethodName × Nat) := lw_privs_1 ++ (lw_privs_2 ++ (lw_privs_3 ++ (lw_privs_4 ++ (lw_privs_5))))
def lw_tbl : List Cond := k2_sels lw_privs ++ tables_1
theorem lw_privs_ok : ∀ q ∈ lw_privs, lw_okq q := by
  show ∀ q ∈ lw_privs_1 ++ (lw_privs_2 ++ (lw_privs_3 ++ (lw_privs_4 ++ (lw_privs_5)))), lw_okq q
  exact List.forall_mem_append.mpr ⟨lw_r1, List.forall_mem_append.mpr ⟨lw_r2, List.forall_mem_append.mpr ⟨lw_r3, List.forall_mem_append.mpr ⟨lw_r4, lw_r5⟩⟩⟩⟩
end
section
def RX0 : String := "SealedFile$ByteFile"
def TX0 : u_T := fun k => match k with
  | 0 => ("SealedFile$ByteFile", "items", "[I", true)
  | _ => ("SealedFile$ByteFile", "size", "I", false)
def tyX0 : Nat → FieldType := fun k => match k with
  | 0 => .array .int
  | _ => .int
theorem nmX0 : ∀ a, a < 2 → ∀ b, b < 2 → a ≠ b → (TX0 a).2.1 ≠ (TX0 b).2.1 := by decide +kernel
theorem tyX0_ok : ∀ k, k < 2 → parseFieldDescriptor (TX0 k).2.2.1 = some (tyX0 k) := by decide +kernel
abbrev cX0_init : ByteArray := prog_2_method_1_code
def yX0_init : MethodName := ⟨RX0, "<init>", "()V"⟩
abbrev cX0_has : ByteArray := prog_2_method_2_code
def yX0_has : MethodName := ⟨RX0, "has", "(I)Z"⟩
abbrev cX0_appendWrite : ByteArray := prog_2_method_3_code
def yX0_appendWrite : MethodName := ⟨RX0, "appendWrite", "(III)V"⟩
abbrev cX0_appendClosing : ByteArray := prog_2_method_4_code
def yX0_appendClosing : MethodName := ⟨RX0, "appendClosing", "(I)V"⟩
abbrev cX0_dropWrite : ByteArray := prog_2_method_5_code
def yX0_dropWrite : MethodName := ⟨RX0, "dropWrite", "()V"⟩
abbrev cX0_layValue : ByteArray := prog_2_method_6_code
def yX0_layValue : MethodName := ⟨RX0, "layValue", "(II)V"⟩
abbrev cX0_lengthWithin : ByteArray := prog_2_method_7_code
def yX0_lengthWithin : MethodName := ⟨RX0, "lengthWithin", "(II)I"⟩
abbrev cX0_numberOver : ByteArray := prog_2_method_8_code
def yX0_numberOver : MethodName := ⟨RX0, "numberOver", "(III)I"⟩
def RX1 : String := "SealedFile$Covers"
def TX1 : u_T := fun k => match k with
  | 0 => ("SealedFile$Covers", "writes", "LSealedFile$Writes;", true)
  | 1 => ("SealedFile$Covers", "file", "LSealedFile$ByteFile;", true)
  | 2 => ("SealedFile$Covers", "told", "[Z", true)
  | 3 => ("SealedFile$Covers", "edges", "[I", true)
  | 4 => ("SealedFile$Covers", "kept", "[I", true)
  | 5 => ("SealedFile$Covers", "numberIs", "[I", true)
  | _ => ("SealedFile$Covers", "flawsAre", "[I", true)
def tyX1 : Nat → FieldType := fun k => match k with
  | 0 => .object "SealedFile$Writes"
  | 1 => .object "SealedFile$ByteFile"
  | 2 => .array .boolean
  | 3 => .array .int
  | 4 => .array .int
  | 5 => .array .int
  | _ => .array .int
theorem nmX1 : ∀ a, a < 7 → ∀ b, b < 7 → a ≠ b → (TX1 a).2.1 ≠ (TX1 b).2.1 := by decide +kernel
theorem tyX1_ok : ∀ k, k < 7 → parseFieldDescriptor (TX1 k).2.2.1 = some (tyX1 k) := by decide +kernel
abbrev cX1_init : ByteArray := prog_3_method_1_code
def yX1_init : MethodName := ⟨RX1, "<init>", "(LSealedFile$Writes;LSealedFile$ByteFile;)V"⟩
abbrev cX1_forget : ByteArray := prog_3_method_2_code
def yX1_forget : MethodName := ⟨RX1, "forget", "(I)V"⟩
abbrev cX1_keepEdges : ByteArray := prog_3_method_3_code
def yX1_keepEdges : MethodName := ⟨RX1, "keepEdges", "(IIIII)V"⟩
abbrev cX1_edge : ByteArray := prog_3_method_4_code
def yX1_edge : MethodName := ⟨RX1, "edge", "(II)I"⟩
abbrev cX1_bytesWithin : ByteArray := prog_3_method_5_code
def yX1_bytesWithin : MethodName := ⟨RX1, "bytesWithin", "(I)I"⟩
abbrev cX1_keepNumbers : ByteArray := prog_3_method_6_code
def yX1_keepNumbers : MethodName := ⟨RX1, "keepNumbers", "(I)V"⟩
abbrev cX1_reckonAll : ByteArray := prog_3_method_7_code
def yX1_reckonAll : MethodName := ⟨RX1, "reckonAll", "()V"⟩
abbrev cX1_numberNow : ByteArray := prog_3_method_8_code
def yX1_numberNow : MethodName := ⟨RX1, "numberNow", "(I)I"⟩
abbrev cX1_flawsOfEdges : ByteArray := prog_3_method_9_code
def yX1_flawsOfEdges : MethodName := ⟨RX1, "flawsOfEdges", "(I)I"⟩
abbrev cX1_edgeIfUntold : ByteArray := prog_3_method_10_code
def yX1_edgeIfUntold : MethodName := ⟨RX1, "edgeIfUntold", "(II)I"⟩
def RX2 : String := "SealedFile$History"
def TX2 : u_T := fun k => match k with
  | 0 => ("SealedFile$History", "writes", "LSealedFile$Writes;", true)
  | 1 => ("SealedFile$History", "latest", "[I", true)
  | 2 => ("SealedFile$History", "there", "[I", true)
  | 3 => ("SealedFile$History", "shadowed", "[I", true)
  | 4 => ("SealedFile$History", "changeRevision", "[I", true)
  | 5 => ("SealedFile$History", "changeThing", "[I", true)
  | 6 => ("SealedFile$History", "changesUpTo", "[I", true)
  | 7 => ("SealedFile$History", "verdict", "[I", true)
  | 8 => ("SealedFile$History", "tamperings", "[I", true)
  | _ => ("SealedFile$History", "changes", "I", false)
def tyX2 : Nat → FieldType := fun k => match k with
  | 0 => .object "SealedFile$Writes"
  | 1 => .array .int
  | 2 => .array .int
  | 3 => .array .int
  | 4 => .array .int
  | 5 => .array .int
  | 6 => .array .int
  | 7 => .array .int
  | 8 => .array .int
  | _ => .int
theorem nmX2 : ∀ a, a < 10 → ∀ b, b < 10 → a ≠ b → (TX2 a).2.1 ≠ (TX2 b).2.1 := by decide +kernel
theorem tyX2_ok : ∀ k, k < 10 → parseFieldDescriptor (TX2 k).2.2.1 = some (tyX2 k) := by decide +kernel
abbrev cX2_init : ByteArray := prog_4_method_1_code
def yX2_init : MethodName := ⟨RX2, "<init>", "(LSealedFile$Writes;)V"⟩
abbrev cX2_retell : ByteArray := prog_4_method_2_code
def yX2_retell : MethodName := ⟨RX2, "retell", "(I)V"⟩
abbrev cX2_latestOf : ByteArray := prog_4_method_3_code
def yX2_latestOf : MethodName := ⟨RX2, "latestOf", "(II)I"⟩
abbrev cX2_changesBehind : ByteArray := prog_4_method_4_code
def yX2_changesBehind : MethodName := ⟨RX2, "changesBehind", "(I)I"⟩
abbrev cX2_sortOf : ByteArray := prog_4_method_5_code
def yX2_sortOf : MethodName := ⟨RX2, "sortOf", "(II)I"⟩
abbrev cX2_judgeBehind : ByteArray := prog_4_method_6_code
def yX2_judgeBehind : MethodName := ⟨RX2, "judgeBehind", "(I)V"⟩
abbrev cX2_startRow : ByteArray := prog_4_method_7_code
def yX2_startRow : MethodName := ⟨RX2, "startRow", "(I)V"⟩
abbrev cX2_takeWrites : ByteArray := prog_4_method_8_code
def yX2_takeWrites : MethodName := ⟨RX2, "takeWrites", "(II)V"⟩
abbrev cX2_thingsThere : ByteArray := prog_4_method_9_code
def yX2_thingsThere : MethodName := ⟨RX2, "thingsThere", "(I)I"⟩
abbrev cX2_noteChanges : ByteArray := prog_4_method_10_code
def yX2_noteChanges : MethodName := ⟨RX2, "noteChanges", "(I)V"⟩
abbrev cX2_isOther : ByteArray := prog_4_method_11_code
def yX2_isOther : MethodName := ⟨RX2, "isOther", "(II)Z"⟩
abbrev cX2_isIn : ByteArray := prog_4_method_12_code
def yX2_isIn : MethodName := ⟨RX2, "isIn", "(II)Z"⟩
abbrev cX2_isFilling : ByteArray := prog_4_method_13_code
def yX2_isFilling : MethodName := ⟨RX2, "isFilling", "(II)Z"⟩
abbrev cX2_isNoteOrGone : ByteArray := prog_4_method_14_code
def yX2_isNoteOrGone : MethodName := ⟨RX2, "isNoteOrGone", "(I)Z"⟩
def RX3 : String := "SealedFile$Sheet"
def TX3 : u_T := fun k => match k with
  | 0 => ("SealedFile$Sheet", "items", "[I", true)
  | 1 => ("SealedFile$Sheet", "lost", "Z", false)
  | 2 => ("SealedFile$Sheet", "form", "I", false)
  | _ => ("SealedFile$Sheet", "size", "I", false)
def tyX3 : Nat → FieldType := fun k => match k with
  | 0 => .array .int
  | 1 => .boolean
  | 2 => .int
  | _ => .int
theorem nmX3 : ∀ a, a < 4 → ∀ b, b < 4 → a ≠ b → (TX3 a).2.1 ≠ (TX3 b).2.1 := by decide +kernel
theorem tyX3_ok : ∀ k, k < 4 → parseFieldDescriptor (TX3 k).2.2.1 = some (tyX3 k) := by decide +kernel
abbrev cX3_init : ByteArray := prog_5_method_1_code
def yX3_init : MethodName := ⟨RX3, "<init>", "()V"⟩
abbrev cX3_renew : ByteArray := prog_5_method_2_code
def yX3_renew : MethodName := ⟨RX3, "renew", "(II)V"⟩
abbrev cX3_findingAt : ByteArray := prog_5_method_3_code
def yX3_findingAt : MethodName := ⟨RX3, "findingAt", "(II)I"⟩
abbrev cX3_hasItems : ByteArray := prog_5_method_4_code
def yX3_hasItems : MethodName := ⟨RX3, "hasItems", "(II)Z"⟩
abbrev cX3_layItem : ByteArray := prog_5_method_5_code
def yX3_layItem : MethodName := ⟨RX3, "layItem", "(II)V"⟩
def RX4 : String := "SealedFile$Writes"
def TX4 : u_T := fun k => match k with
  | 0 => ("SealedFile$Writes", "thingOf", "[I", true)
  | 1 => ("SealedFile$Writes", "kindOf", "[I", true)
  | 2 => ("SealedFile$Writes", "valueOf", "[I", true)
  | 3 => ("SealedFile$Writes", "home", "[I", true)
  | 4 => ("SealedFile$Writes", "firstOf", "[I", true)
  | 5 => ("SealedFile$Writes", "size", "I", false)
  | _ => ("SealedFile$Writes", "closed", "I", false)
def tyX4 : Nat → FieldType := fun k => match k with
  | 0 => .array .int
  | 1 => .array .int
  | 2 => .array .int
  | 3 => .array .int
  | 4 => .array .int
  | 5 => .int
  | _ => .int
theorem nmX4 : ∀ a, a < 7 → ∀ b, b < 7 → a ≠ b → (TX4 a).2.1 ≠ (TX4 b).2.1 := by decide +kernel
theorem tyX4_ok : ∀ k, k < 7 → parseFieldDescriptor (TX4 k).2.2.1 = some (tyX4 k) := by decide +kernel
abbrev cX4_init : ByteArray := prog_6_method_1_code
def yX4_init : MethodName := ⟨RX4, "<init>", "()V"⟩
abbrev cX4_append : ByteArray := prog_6_method_2_code
def yX4_append : MethodName := ⟨RX4, "append", "(III)V"⟩
abbrev cX4_openNext : ByteArray := prog_6_method_3_code
def yX4_openNext : MethodName := ⟨RX4, "openNext", "()V"⟩
abbrev cX4_has : ByteArray := prog_6_method_4_code
def yX4_has : MethodName := ⟨RX4, "has", "(I)Z"⟩
abbrev cX4_hasRevision : ByteArray := prog_6_method_5_code
def yX4_hasRevision : MethodName := ⟨RX4, "hasRevision", "(I)Z"⟩
abbrev cX4_openIsEmpty : ByteArray := prog_6_method_6_code
def yX4_openIsEmpty : MethodName := ⟨RX4, "openIsEmpty", "()Z"⟩
abbrev cX4_isSeal : ByteArray := prog_6_method_7_code
def yX4_isSeal : MethodName := ⟨RX4, "isSeal", "(I)Z"⟩
abbrev cX4_isClosed : ByteArray := prog_6_method_8_code
def yX4_isClosed : MethodName := ⟨RX4, "isClosed", "(I)Z"⟩
abbrev cX4_isClosedSeal : ByteArray := prog_6_method_9_code
def yX4_isClosedSeal : MethodName := ⟨RX4, "isClosedSeal", "(I)Z"⟩
abbrev cX4_unlike : ByteArray := prog_6_method_10_code
def yX4_unlike : MethodName := ⟨RX4, "unlike", "(II)Z"⟩
abbrev cX4_kindOrGone : ByteArray := prog_6_method_11_code
def yX4_kindOrGone : MethodName := ⟨RX4, "kindOrGone", "(I)I"⟩
abbrev cX4_behind : ByteArray := prog_6_method_12_code
def yX4_behind : MethodName := ⟨RX4, "behind", "(I)I"⟩
abbrev cX4_firstByte : ByteArray := prog_6_method_13_code
def yX4_firstByte : MethodName := ⟨RX4, "firstByte", "(I)I"⟩
abbrev cX4_firstByteOf : ByteArray := prog_6_method_14_code
def yX4_firstByteOf : MethodName := ⟨RX4, "firstByteOf", "(I)I"⟩
abbrev cX4_behindBytesOf : ByteArray := prog_6_method_15_code
def yX4_behindBytesOf : MethodName := ⟨RX4, "behindBytesOf", "(I)I"⟩
def RX5 : String := "SealedFile"
def TX5 : u_T := fun k => match k with
  | 0 => ("SealedFile", "writes", "LSealedFile$Writes;", true)
  | 1 => ("SealedFile", "file", "LSealedFile$ByteFile;", true)
  | 2 => ("SealedFile", "ranges", "LSealedFile$Covers;", true)
  | 3 => ("SealedFile", "history", "LSealedFile$History;", true)
  | 4 => ("SealedFile", "trial", "LSealedFile$History;", true)
  | 5 => ("SealedFile", "sheets", "[LSealedFile$Sheet;", true)
  | _ => ("SealedFile", "finding", "I", false)
def tyX5 : Nat → FieldType := fun k => match k with
  | 0 => .object "SealedFile$Writes"
  | 1 => .object "SealedFile$ByteFile"
  | 2 => .object "SealedFile$Covers"
  | 3 => .object "SealedFile$History"
  | 4 => .object "SealedFile$History"
  | 5 => .array (.object "SealedFile$Sheet")
  | _ => .int
theorem nmX5 : ∀ a, a < 7 → ∀ b, b < 7 → a ≠ b → (TX5 a).2.1 ≠ (TX5 b).2.1 := by decide +kernel
theorem tyX5_ok : ∀ k, k < 7 → parseFieldDescriptor (TX5 k).2.2.1 = some (tyX5 k) := by decide +kernel
abbrev cX5_init : ByteArray := prog_1_method_1_code
def yX5_init : MethodName := ⟨RX5, "<init>", "()V"⟩
abbrev cX5_put : ByteArray := prog_1_method_2_code
def yX5_put : MethodName := ⟨RX5, "put", "(III)I"⟩
abbrev cX5_close : ByteArray := prog_1_method_3_code
def yX5_close : MethodName := ⟨RX5, "close", "()I"⟩
abbrev cX5_undo : ByteArray := prog_1_method_4_code
def yX5_undo : MethodName := ⟨RX5, "undo", "()I"⟩
abbrev cX5_cover : ByteArray := prog_1_method_5_code
def yX5_cover : MethodName := ⟨RX5, "cover", "(IIIII)I"⟩
abbrev cX5_alter : ByteArray := prog_1_method_6_code
def yX5_alter : MethodName := ⟨RX5, "alter", "(II)I"⟩
abbrev cX5_read : ByteArray := prog_1_method_7_code
def yX5_read : MethodName := ⟨RX5, "read", "(I)I"⟩
abbrev cX5_write : ByteArray := prog_1_method_8_code
def yX5_write : MethodName := ⟨RX5, "write", "(II)I"⟩
abbrev cX5_revision : ByteArray := prog_1_method_9_code
def yX5_revision : MethodName := ⟨RX5, "revision", "(II)I"⟩
abbrev cX5_bytes : ByteArray := prog_1_method_10_code
def yX5_bytes : MethodName := ⟨RX5, "bytes", "(I)I"⟩
abbrev cX5_thing : ByteArray := prog_1_method_11_code
def yX5_thing : MethodName := ⟨RX5, "thing", "(III)I"⟩
abbrev cX5_shadows : ByteArray := prog_1_method_12_code
def yX5_shadows : MethodName := ⟨RX5, "shadows", "(I)I"⟩
abbrev cX5_covers : ByteArray := prog_1_method_13_code
def yX5_covers : MethodName := ⟨RX5, "covers", "(II)I"⟩
abbrev cX5_covered : ByteArray := prog_1_method_14_code
def yX5_covered : MethodName := ⟨RX5, "covered", "(I)I"⟩
abbrev cX5_number : ByteArray := prog_1_method_15_code
def yX5_number : MethodName := ⟨RX5, "number", "(II)I"⟩
abbrev cX5_flaws : ByteArray := prog_1_method_16_code
def yX5_flaws : MethodName := ⟨RX5, "flaws", "(I)I"⟩
abbrev cX5_judge : ByteArray := prog_1_method_17_code
def yX5_judge : MethodName := ⟨RX5, "judge", "(II)I"⟩
abbrev cX5_change : ByteArray := prog_1_method_18_code
def yX5_change : MethodName := ⟨RX5, "change", "(III)I"⟩
abbrev cX5_allowed : ByteArray := prog_1_method_19_code
def yX5_allowed : MethodName := ⟨RX5, "allowed", "(I)I"⟩
abbrev cX5_first : ByteArray := prog_1_method_20_code
def yX5_first : MethodName := ⟨RX5, "first", "(I)I"⟩
abbrev cX5_holding : ByteArray := prog_1_method_21_code
def yX5_holding : MethodName := ⟨RX5, "holding", "(I)I"⟩
abbrev cX5_better : ByteArray := prog_1_method_22_code
def yX5_better : MethodName := ⟨RX5, "better", "(I)I"⟩
abbrev cX5_sheet : ByteArray := prog_1_method_23_code
def yX5_sheet : MethodName := ⟨RX5, "sheet", "(III)I"⟩
abbrev cX5_lose : ByteArray := prog_1_method_24_code
def yX5_lose : MethodName := ⟨RX5, "lose", "(I)I"⟩
abbrev cX5_lay : ByteArray := prog_1_method_25_code
def yX5_lay : MethodName := ⟨RX5, "lay", "(IIII)I"⟩
abbrev cX5_get : ByteArray := prog_1_method_26_code
def yX5_get : MethodName := ⟨RX5, "get", "(III)I"⟩
abbrev cX5_copy : ByteArray := prog_1_method_27_code
def yX5_copy : MethodName := ⟨RX5, "copy", "(IIIII)I"⟩
abbrev cX5_tell : ByteArray := prog_1_method_28_code
def yX5_tell : MethodName := ⟨RX5, "tell", "(II)I"⟩
abbrev cX5_count : ByteArray := prog_1_method_29_code
def yX5_count : MethodName := ⟨RX5, "count", "(I)I"⟩
abbrev cX5_digest : ByteArray := prog_1_method_30_code
def yX5_digest : MethodName := ⟨RX5, "digest", "()J"⟩
abbrev cX5_digestRevision : ByteArray := prog_1_method_31_code
def yX5_digestRevision : MethodName := ⟨RX5, "digestRevision", "(JI)J"⟩
abbrev cX5_digestThing : ByteArray := prog_1_method_32_code
def yX5_digestThing : MethodName := ⟨RX5, "digestThing", "(JI)J"⟩
abbrev cX5_digestWrite : ByteArray := prog_1_method_33_code
def yX5_digestWrite : MethodName := ⟨RX5, "digestWrite", "(JI)J"⟩
abbrev cX5_digestChanges : ByteArray := prog_1_method_34_code
def yX5_digestChanges : MethodName := ⟨RX5, "digestChanges", "(JI)J"⟩
abbrev cX5_digestFile : ByteArray := prog_1_method_35_code
def yX5_digestFile : MethodName := ⟨RX5, "digestFile", "(J)J"⟩
abbrev cX5_isThing : ByteArray := prog_1_method_36_code
def yX5_isThing : MethodName := ⟨RX5, "isThing", "(I)Z"⟩
abbrev cX5_mayBeValue : ByteArray := prog_1_method_37_code
def yX5_mayBeValue : MethodName := ⟨RX5, "mayBeValue", "(II)Z"⟩
abbrev cX5_mayBeWrite : ByteArray := prog_1_method_38_code
def yX5_mayBeWrite : MethodName := ⟨RX5, "mayBeWrite", "(III)Z"⟩
abbrev cX5_isSheet : ByteArray := prog_1_method_39_code
def yX5_isSheet : MethodName := ⟨RX5, "isSheet", "(I)Z"⟩
abbrev cX5_isForm : ByteArray := prog_1_method_40_code
def yX5_isForm : MethodName := ⟨RX5, "isForm", "(I)Z"⟩
abbrev cX5_find : ByteArray := prog_1_method_41_code
def yX5_find : MethodName := ⟨RX5, "find", "(I)I"⟩
abbrev cX5_takeWrite : ByteArray := prog_1_method_42_code
def yX5_takeWrite : MethodName := ⟨RX5, "takeWrite", "(III)I"⟩
abbrev cX5_reckon : ByteArray := prog_1_method_43_code
def yX5_reckon : MethodName := ⟨RX5, "reckon", "()V"⟩
abbrev cX5_holds : ByteArray := prog_1_method_44_code
def yX5_holds : MethodName := ⟨RX5, "holds", "(ILSealedFile$History;)Z"⟩
abbrev cX5_howManyHold : ByteArray := prog_1_method_45_code
def yX5_howManyHold : MethodName := ⟨RX5, "howManyHold", "(LSealedFile$History;I)I"⟩
abbrev cX5_howManyClosedSeals : ByteArray := prog_1_method_46_code
def yX5_howManyClosedSeals : MethodName := ⟨RX5, "howManyClosedSeals", "()I"⟩
abbrev cX5_howManyShadowed : ByteArray := prog_1_method_47_code
def yX5_howManyShadowed : MethodName := ⟨RX5, "howManyShadowed", "()I"⟩
abbrev cX5_firstSealAgainst : ByteArray := prog_1_method_48_code
def yX5_firstSealAgainst : MethodName := ⟨RX5, "firstSealAgainst", "(I)I"⟩
def RX6 : String := "SealedFileModel"
def TX6 : u_T := fun k => match k with
  | 0 => ("SealedFileModel", "forms", "[I", true)
  | 1 => ("SealedFileModel", "sizes", "[I", true)
  | 2 => ("SealedFileModel", "items", "[I", true)
  | 3 => ("SealedFileModel", "moved", "[I", true)
  | 4 => ("SealedFileModel", "latest", "I", false)
  | 5 => ("SealedFileModel", "writes", "I", false)
  | 6 => ("SealedFileModel", "thing", "[I", true)
  | 7 => ("SealedFileModel", "kind", "[I", true)
  | 8 => ("SealedFileModel", "value", "[I", true)
  | 9 => ("SealedFileModel", "revision", "[I", true)
  | 10 => ("SealedFileModel", "told", "[Z", true)
  | 11 => ("SealedFileModel", "cover", "[I", true)
  | 12 => ("SealedFileModel", "kept", "[I", true)
  | 13 => ("SealedFileModel", "closed", "I", false)
  | 14 => ("SealedFileModel", "gone", "I", false)
  | _ => ("SealedFileModel", "flaw", "[I", true)
def tyX6 : Nat → FieldType := fun k => match k with
  | 0 => .array .int
  | 1 => .array .int
  | 2 => .array .int
  | 3 => .array .int
  | 4 => .int
  | 5 => .int
  | 6 => .array .int
  | 7 => .array .int
  | 8 => .array .int
  | 9 => .array .int
  | 10 => .array .boolean
  | 11 => .array .int
  | 12 => .array .int
  | 13 => .int
  | 14 => .int
  | _ => .array .int
theorem nmX6 : ∀ a, a < 16 → ∀ b, b < 16 → a ≠ b → (TX6 a).2.1 ≠ (TX6 b).2.1 := by decide +kernel
theorem tyX6_ok : ∀ k, k < 16 → parseFieldDescriptor (TX6 k).2.2.1 = some (tyX6 k) := by decide +kernel
abbrev cX6_init : ByteArray := prog_8_method_1_code
def yX6_init : MethodName := ⟨RX6, "<init>", "()V"⟩
abbrev cX6_in : ByteArray := prog_8_method_3_code
def yX6_in : MethodName := ⟨RX6, "in", "(JJJ)Z"⟩
abbrev cX6_isTwo : ByteArray := prog_8_method_4_code
def yX6_isTwo : MethodName := ⟨RX6, "isTwo", "(I)Z"⟩
abbrev cX6_isIn : ByteArray := prog_8_method_5_code
def yX6_isIn : MethodName := ⟨RX6, "isIn", "(II)Z"⟩
abbrev cX6_lesser : ByteArray := prog_8_method_6_code
def yX6_lesser : MethodName := ⟨RX6, "lesser", "(II)I"⟩
abbrev cX6_greater : ByteArray := prog_8_method_7_code
def yX6_greater : MethodName := ⟨RX6, "greater", "(II)I"⟩
abbrev cX6_finds : ByteArray := prog_8_method_8_code
def yX6_finds : MethodName := ⟨RX6, "finds", "(I)I"⟩
abbrev cX6_isSheet : ByteArray := prog_8_method_9_code
def yX6_isSheet : MethodName := ⟨RX6, "isSheet", "(I)Z"⟩
abbrev cX6_sheet : ByteArray := prog_8_method_10_code
def yX6_sheet : MethodName := ⟨RX6, "sheet", "(III)I"⟩
abbrev cX6_lose : ByteArray := prog_8_method_11_code
def yX6_lose : MethodName := ⟨RX6, "lose", "(I)I"⟩
abbrev cX6_lacks : ByteArray := prog_8_method_12_code
def yX6_lacks : MethodName := ⟨RX6, "lacks", "(III)I"⟩
abbrev cX6_cut : ByteArray := prog_8_method_13_code
def yX6_cut : MethodName := ⟨RX6, "cut", "(II)I"⟩
abbrev cX6_lay : ByteArray := prog_8_method_14_code
def yX6_lay : MethodName := ⟨RX6, "lay", "(IIII)I"⟩
abbrev cX6_get : ByteArray := prog_8_method_15_code
def yX6_get : MethodName := ⟨RX6, "get", "(III)I"⟩
abbrev cX6_copy : ByteArray := prog_8_method_16_code
def yX6_copy : MethodName := ⟨RX6, "copy", "(IIIII)I"⟩
abbrev cX6_isValue : ByteArray := prog_8_method_17_code
def yX6_isValue : MethodName := ⟨RX6, "isValue", "(II)Z"⟩
abbrev cX6_put : ByteArray := prog_8_method_18_code
def yX6_put : MethodName := ⟨RX6, "put", "(III)I"⟩
abbrev cX6_manyOf : ByteArray := prog_8_method_19_code
def yX6_manyOf : MethodName := ⟨RX6, "manyOf", "(I)I"⟩
abbrev cX6_close : ByteArray := prog_8_method_20_code
def yX6_close : MethodName := ⟨RX6, "close", "()I"⟩
abbrev cX6_undo : ByteArray := prog_8_method_21_code
def yX6_undo : MethodName := ⟨RX6, "undo", "()I"⟩
abbrev cX6_isWrite : ByteArray := prog_8_method_22_code
def yX6_isWrite : MethodName := ⟨RX6, "isWrite", "(I)Z"⟩
abbrev cX6_isSeal : ByteArray := prog_8_method_23_code
def yX6_isSeal : MethodName := ⟨RX6, "isSeal", "(I)Z"⟩
abbrev cX6_isClosed : ByteArray := prog_8_method_24_code
def yX6_isClosed : MethodName := ⟨RX6, "isClosed", "(I)Z"⟩
abbrev cX6_isCover : ByteArray := prog_8_method_25_code
def yX6_isCover : MethodName := ⟨RX6, "isCover", "(IIII)Z"⟩
abbrev cX6_cover : ByteArray := prog_8_method_26_code
def yX6_cover : MethodName := ⟨RX6, "cover", "(IIIII)I"⟩
abbrev cX6_alter : ByteArray := prog_8_method_27_code
def yX6_alter : MethodName := ⟨RX6, "alter", "(II)I"⟩
abbrev cX6_read : ByteArray := prog_8_method_28_code
def yX6_read : MethodName := ⟨RX6, "read", "(I)I"⟩
abbrev cX6_placeOf : ByteArray := prog_8_method_29_code
def yX6_placeOf : MethodName := ⟨RX6, "placeOf", "(I)I"⟩
abbrev cX6_firstOf : ByteArray := prog_8_method_30_code
def yX6_firstOf : MethodName := ⟨RX6, "firstOf", "(I)I"⟩
abbrev cX6_beginOf : ByteArray := prog_8_method_31_code
def yX6_beginOf : MethodName := ⟨RX6, "beginOf", "(I)I"⟩
abbrev cX6_endOf : ByteArray := prog_8_method_32_code
def yX6_endOf : MethodName := ⟨RX6, "endOf", "(I)I"⟩
abbrev cX6_allBytes : ByteArray := prog_8_method_33_code
def yX6_allBytes : MethodName := ⟨RX6, "allBytes", "()I"⟩
abbrev cX6_byteOf : ByteArray := prog_8_method_34_code
def yX6_byteOf : MethodName := ⟨RX6, "byteOf", "(II)I"⟩
abbrev cX6_byteAt : ByteArray := prog_8_method_35_code
def yX6_byteAt : MethodName := ⟨RX6, "byteAt", "(I)I"⟩
abbrev cX6_bytes : ByteArray := prog_8_method_36_code
def yX6_bytes : MethodName := ⟨RX6, "bytes", "(I)I"⟩
abbrev cX6_writeBy : ByteArray := prog_8_method_37_code
def yX6_writeBy : MethodName := ⟨RX6, "writeBy", "(II)I"⟩
abbrev cX6_write : ByteArray := prog_8_method_38_code
def yX6_write : MethodName := ⟨RX6, "write", "(II)I"⟩
abbrev cX6_isRevision : ByteArray := prog_8_method_39_code
def yX6_isRevision : MethodName := ⟨RX6, "isRevision", "(I)Z"⟩
abbrev cX6_revisionBy : ByteArray := prog_8_method_40_code
def yX6_revisionBy : MethodName := ⟨RX6, "revisionBy", "(II)I"⟩
abbrev cX6_revision : ByteArray := prog_8_method_41_code
def yX6_revision : MethodName := ⟨RX6, "revision", "(II)I"⟩
abbrev cX6_lastOf : ByteArray := prog_8_method_42_code
def yX6_lastOf : MethodName := ⟨RX6, "lastOf", "(II)I"⟩
abbrev cX6_thingBy : ByteArray := prog_8_method_43_code
def yX6_thingBy : MethodName := ⟨RX6, "thingBy", "(III)I"⟩
abbrev cX6_isThing : ByteArray := prog_8_method_44_code
def yX6_isThing : MethodName := ⟨RX6, "isThing", "(I)Z"⟩
abbrev cX6_thing : ByteArray := prog_8_method_45_code
def yX6_thing : MethodName := ⟨RX6, "thing", "(III)I"⟩
abbrev cX6_isShadowed : ByteArray := prog_8_method_46_code
def yX6_isShadowed : MethodName := ⟨RX6, "isShadowed", "(II)Z"⟩
abbrev cX6_shadowsIn : ByteArray := prog_8_method_47_code
def yX6_shadowsIn : MethodName := ⟨RX6, "shadowsIn", "(I)I"⟩
abbrev cX6_shadows : ByteArray := prog_8_method_48_code
def yX6_shadows : MethodName := ⟨RX6, "shadows", "(I)I"⟩
abbrev cX6_usual : ByteArray := prog_8_method_49_code
def yX6_usual : MethodName := ⟨RX6, "usual", "(II)I"⟩
abbrev cX6_coverOf : ByteArray := prog_8_method_50_code
def yX6_coverOf : MethodName := ⟨RX6, "coverOf", "(II)I"⟩
abbrev cX6_covers : ByteArray := prog_8_method_51_code
def yX6_covers : MethodName := ⟨RX6, "covers", "(II)I"⟩
abbrev cX6_coveredBy : ByteArray := prog_8_method_52_code
def yX6_coveredBy : MethodName := ⟨RX6, "coveredBy", "(I)I"⟩
abbrev cX6_covered : ByteArray := prog_8_method_53_code
def yX6_covered : MethodName := ⟨RX6, "covered", "(I)I"⟩
abbrev cX6_numberOf : ByteArray := prog_8_method_54_code
def yX6_numberOf : MethodName := ⟨RX6, "numberOf", "(I)I"⟩
abbrev cX6_numberBy : ByteArray := prog_8_method_55_code
def yX6_numberBy : MethodName := ⟨RX6, "numberBy", "(II)I"⟩
abbrev cX6_number : ByteArray := prog_8_method_56_code
def yX6_number : MethodName := ⟨RX6, "number", "(II)I"⟩
abbrev cX6_flawsOf : ByteArray := prog_8_method_57_code
def yX6_flawsOf : MethodName := ⟨RX6, "flawsOf", "(I)I"⟩
abbrev cX6_flaws : ByteArray := prog_8_method_58_code
def yX6_flaws : MethodName := ⟨RX6, "flaws", "(I)I"⟩
abbrev cX6_kindAt : ByteArray := prog_8_method_59_code
def yX6_kindAt : MethodName := ⟨RX6, "kindAt", "(I)I"⟩
abbrev cX6_isNoteOrNone : ByteArray := prog_8_method_60_code
def yX6_isNoteOrNone : MethodName := ⟨RX6, "isNoteOrNone", "(I)Z"⟩
abbrev cX6_isFree : ByteArray := prog_8_method_61_code
def yX6_isFree : MethodName := ⟨RX6, "isFree", "(III)Z"⟩
abbrev cX6_sortOf : ByteArray := prog_8_method_62_code
def yX6_sortOf : MethodName := ⟨RX6, "sortOf", "(III)I"⟩
abbrev cX6_verdictOf : ByteArray := prog_8_method_63_code
def yX6_verdictOf : MethodName := ⟨RX6, "verdictOf", "(I)I"⟩
abbrev cX6_manyChanges : ByteArray := prog_8_method_64_code
def yX6_manyChanges : MethodName := ⟨RX6, "manyChanges", "(II)I"⟩
abbrev cX6_isHolding : ByteArray := prog_8_method_65_code
def yX6_isHolding : MethodName := ⟨RX6, "isHolding", "(II)Z"⟩
abbrev cX6_judgeBy : ByteArray := prog_8_method_66_code
def yX6_judgeBy : MethodName := ⟨RX6, "judgeBy", "(II)I"⟩
abbrev cX6_judge : ByteArray := prog_8_method_67_code
def yX6_judge : MethodName := ⟨RX6, "judge", "(II)I"⟩
abbrev cX6_changeBy : ByteArray := prog_8_method_68_code
def yX6_changeBy : MethodName := ⟨RX6, "changeBy", "(III)I"⟩
abbrev cX6_change : ByteArray := prog_8_method_69_code
def yX6_change : MethodName := ⟨RX6, "change", "(III)I"⟩
abbrev cX6_allowedIn : ByteArray := prog_8_method_70_code
def yX6_allowedIn : MethodName := ⟨RX6, "allowedIn", "(I)I"⟩
abbrev cX6_allowed : ByteArray := prog_8_method_71_code
def yX6_allowed : MethodName := ⟨RX6, "allowed", "(I)I"⟩
abbrev cX6_firstBy : ByteArray := prog_8_method_72_code
def yX6_firstBy : MethodName := ⟨RX6, "firstBy", "(I)I"⟩
abbrev cX6_first : ByteArray := prog_8_method_73_code
def yX6_first : MethodName := ⟨RX6, "first", "(I)I"⟩
abbrev cX6_looks : ByteArray := prog_8_method_74_code
def yX6_looks : MethodName := ⟨RX6, "looks", "()V"⟩
abbrev cX6_manyHold : ByteArray := prog_8_method_75_code
def yX6_manyHold : MethodName := ⟨RX6, "manyHold", "()I"⟩
abbrev cX6_manySeals : ByteArray := prog_8_method_76_code
def yX6_manySeals : MethodName := ⟨RX6, "manySeals", "()I"⟩
abbrev cX6_holdingBy : ByteArray := prog_8_method_77_code
def yX6_holdingBy : MethodName := ⟨RX6, "holdingBy", "(I)I"⟩
abbrev cX6_holding : ByteArray := prog_8_method_78_code
def yX6_holding : MethodName := ⟨RX6, "holding", "(I)I"⟩
abbrev cX6_betterBy : ByteArray := prog_8_method_79_code
def yX6_betterBy : MethodName := ⟨RX6, "betterBy", "(I)I"⟩
abbrev cX6_better : ByteArray := prog_8_method_80_code
def yX6_better : MethodName := ⟨RX6, "better", "(I)I"⟩
abbrev cX6_tell : ByteArray := prog_8_method_81_code
def yX6_tell : MethodName := ⟨RX6, "tell", "(II)I"⟩
abbrev cX6_manyThere : ByteArray := prog_8_method_82_code
def yX6_manyThere : MethodName := ⟨RX6, "manyThere", "()I"⟩
abbrev cX6_manyShadowed : ByteArray := prog_8_method_83_code
def yX6_manyShadowed : MethodName := ⟨RX6, "manyShadowed", "()I"⟩
abbrev cX6_count : ByteArray := prog_8_method_84_code
def yX6_count : MethodName := ⟨RX6, "count", "(I)I"⟩
abbrev cX6_tellsWrite : ByteArray := prog_8_method_85_code
def yX6_tellsWrite : MethodName := ⟨RX6, "tellsWrite", "(JI)J"⟩
abbrev cX6_digest : ByteArray := prog_8_method_86_code
def yX6_digest : MethodName := ⟨RX6, "digest", "()J"⟩
def RJ6 : String := "java/lang/Integer"
abbrev cJ6_bitCount_0f7a4 : ByteArray := prog_9_method_49_code
def yJ6_bitCount_0f7a4 : MethodName := ⟨RJ6, "bitCount", "(I)I"⟩
def RJ9 : String := "java/lang/Math"
abbrev cJ9_max_7cf53 : ByteArray := prog_10_method_65_code
def yJ9_max_7cf53 : MethodName := ⟨RJ9, "max", "(II)I"⟩
abbrev cJ9_min_7cf53 : ByteArray := prog_10_method_69_code
def yJ9_min_7cf53 : MethodName := ⟨RJ9, "min", "(II)I"⟩
def RJ10 : String := "java/lang/System"
def RJ7 : String := "java/util/Arrays"
abbrev cJ7_rangeCheck_23922 : ByteArray := prog_12_method_30_code
def yJ7_rangeCheck_23922 : MethodName := ⟨RJ7, "rangeCheck", "(III)V"⟩
abbrev cJ7_fill_53178 : ByteArray := prog_12_method_103_code
def yJ7_fill_53178 : MethodName := ⟨RJ7, "fill", "([II)V"⟩
abbrev cJ7_fill_fda19 : ByteArray := prog_12_method_104_code
def yJ7_fill_fda19 : MethodName := ⟨RJ7, "fill", "([IIII)V"⟩
def RL : String := "SealedFileLaw"
abbrev cL_law : ByteArray := code
def yL_law : MethodName := ⟨RL, "law", "([I)Z"⟩
abbrev vwCl : List vw_C := [(RX0, TX0, 2), (RX1, TX1, 7), (RX2, TX2, 10), (RX3, TX3, 4), (RX4, TX4, 7), (RX5, TX5, 7), (RX6, TX6, 16)]
end
section
theorem dJ6_bitCount_0f7a4_0 : decode cJ6_bitCount_0f7a4 0 = .ok (.iload_n 0, 1) := by decide +kernel
theorem dJ6_bitCount_0f7a4_1 : decode cJ6_bitCount_0f7a4 1 = .ok (.iload_n 0, 1) := by decide +kernel
theorem dJ6_bitCount_0f7a4_2 : decode cJ6_bitCount_0f7a4 2 = .ok (.iconst 1, 1) := by decide +kernel
theorem dJ6_bitCount_0f7a4_3 : decode cJ6_bitCount_0f7a4 3 = .ok (.iushr, 1) := by decide +kernel
theorem dJ6_bitCount_0f7a4_4 : decode cJ6_bitCount_0f7a4 4 = .ok (.ldc_w 265, 3) := by decide +kernel
theorem dJ6_bitCount_0f7a4_7 : decode cJ6_bitCount_0f7a4 7 = .ok (.iand, 1) := by decide +kernel
theorem dJ6_bitCount_0f7a4_8 : decode cJ6_bitCount_0f7a4 8 = .ok (.isub, 1) := by decide +kernel
theorem dJ6_bitCount_0f7a4_9 : decode cJ6_bitCount_0f7a4 9 = .ok (.istore_n 0, 1) := by decide +kernel
theorem dJ6_bitCount_0f7a4_10 : decode cJ6_bitCount_0f7a4 10 = .ok (.iload_n 0, 1) := by decide +kernel
theorem dJ6_bitCount_0f7a4_11 : decode cJ6_bitCount_0f7a4 11 = .ok (.ldc_w 266, 3) := by decide +kernel
theorem dJ6_bitCount_0f7a4_14 : decode cJ6_bitCount_0f7a4 14 = .ok (.iand, 1) := by decide +kernel
theorem dJ6_bitCount_0f7a4_15 : decode cJ6_bitCount_0f7a4 15 = .ok (.iload_n 0, 1) := by decide +kernel
theorem dJ6_bitCount_0f7a4_16 : decode cJ6_bitCount_0f7a4 16 = .ok (.iconst 2, 1) := by decide +kernel
theorem dJ6_bitCount_0f7a4_17 : decode cJ6_bitCount_0f7a4 17 = .ok (.iushr, 1) := by decide +kernel
theorem dJ6_bitCount_0f7a4_18 : decode cJ6_bitCount_0f7a4 18 = .ok (.ldc_w 266, 3) := by decide +kernel
theorem dJ6_bitCount_0f7a4_21 : decode cJ6_bitCount_0f7a4 21 = .ok (.iand, 1) := by decide +kernel
theorem dJ6_bitCount_0f7a4_22 : decode cJ6_bitCount_0f7a4 22 = .ok (.iadd, 1) := by decide +kernel
theorem dJ6_bitCount_0f7a4_23 : decode cJ6_bitCount_0f7a4 23 = .ok (.istore_n 0, 1) := by decide +kernel
theorem dJ6_bitCount_0f7a4_24 : decode cJ6_bitCount_0f7a4 24 = .ok (.iload_n 0, 1) := by decide +kernel
theorem dJ6_bitCount_0f7a4_25 : decode cJ6_bitCount_0f7a4 25 = .ok (.iload_n 0, 1) := by decide +kernel
theorem dJ6_bitCount_0f7a4_26 : decode cJ6_bitCount_0f7a4 26 = .ok (.iconst 4, 1) := by decide +kernel
theorem dJ6_bitCount_0f7a4_27 : decode cJ6_bitCount_0f7a4 27 = .ok (.iushr, 1) := by decide +kernel
theorem dJ6_bitCount_0f7a4_28 : decode cJ6_bitCount_0f7a4 28 = .ok (.iadd, 1) := by decide +kernel
theorem dJ6_bitCount_0f7a4_29 : decode cJ6_bitCount_0f7a4 29 = .ok (.ldc_w 267, 3) := by decide +kernel
theorem dJ6_bitCount_0f7a4_32 : decode cJ6_bitCount_0f7a4 32 = .ok (.iand, 1) := by decide +kernel
theorem dJ6_bitCount_0f7a4_33 : decode cJ6_bitCount_0f7a4 33 = .ok (.istore_n 0, 1) := by decide +kernel
theorem dJ6_bitCount_0f7a4_34 : decode cJ6_bitCount_0f7a4 34 = .ok (.iload_n 0, 1) := by decide +kernel
theorem dJ6_bitCount_0f7a4_35 : decode cJ6_bitCount_0f7a4 35 = .ok (.iload_n 0, 1) := by decide +kernel
theorem dJ6_bitCount_0f7a4_36 : decode cJ6_bitCount_0f7a4 36 = .ok (.bipush 8, 2) := by decide +kernel
theorem dJ6_bitCount_0f7a4_38 : decode cJ6_bitCount_0f7a4 38 = .ok (.iushr, 1) := by decide +kernel
theorem dJ6_bitCount_0f7a4_39 : decode cJ6_bitCount_0f7a4 39 = .ok (.iadd, 1) := by decide +kernel
theorem dJ6_bitCount_0f7a4_40 : decode cJ6_bitCount_0f7a4 40 = .ok (.istore_n 0, 1) := by decide +kernel
theorem dJ6_bitCount_0f7a4_41 : decode cJ6_bitCount_0f7a4 41 = .ok (.iload_n 0, 1) := by decide +kernel
theorem dJ6_bitCount_0f7a4_42 : decode cJ6_bitCount_0f7a4 42 = .ok (.iload_n 0, 1) := by decide +kernel
theorem dJ6_bitCount_0f7a4_43 : decode cJ6_bitCount_0f7a4 43 = .ok (.bipush 16, 2) := by decide +kernel
theorem dJ6_bitCount_0f7a4_45 : decode cJ6_bitCount_0f7a4 45 = .ok (.iushr, 1) := by decide +kernel
theorem dJ6_bitCount_0f7a4_46 : decode cJ6_bitCount_0f7a4 46 = .ok (.iadd, 1) := by decide +kernel
theorem dJ6_bitCount_0f7a4_47 : decode cJ6_bitCount_0f7a4 47 = .ok (.istore_n 0, 1) := by decide +kernel
theorem dJ6_bitCount_0f7a4_48 : decode cJ6_bitCount_0f7a4 48 = .ok (.iload_n 0, 1) := by decide +kernel
theorem dJ6_bitCount_0f7a4_49 : decode cJ6_bitCount_0f7a4 49 = .ok (.bipush 63, 2) := by decide +kernel
theorem dJ6_bitCount_0f7a4_51 : decode cJ6_bitCount_0f7a4 51 = .ok (.iand, 1) := by decide +kernel
theorem dJ6_bitCount_0f7a4_52 : decode cJ6_bitCount_0f7a4 52 = .ok (.ireturn, 1) := by decide +kernel
theorem dJ7_rangeCheck_23922_0 : decode cJ7_rangeCheck_23922 0 = .ok (.iload_n 1, 1) := by decide +kernel
theorem dJ7_rangeCheck_23922_1 : decode cJ7_rangeCheck_23922 1 = .ok (.iload_n 2, 1) := by decide +kernel
theorem dJ7_rangeCheck_23922_2 : decode cJ7_rangeCheck_23922 2 = .ok (.if_icmp .le 44, 3) := by decide +kernel
theorem dJ7_rangeCheck_23922_5 : decode cJ7_rangeCheck_23922 5 = .ok (.new 43, 3) := by decide +kernel
theorem dJ7_rangeCheck_23922_8 : decode cJ7_rangeCheck_23922 8 = .ok (.dup, 1) := by decide +kernel
theorem dJ7_rangeCheck_23922_9 : decode cJ7_rangeCheck_23922 9 = .ok (.new 45, 3) := by decide +kernel
theorem dJ7_rangeCheck_23922_12 : decode cJ7_rangeCheck_23922 12 = .ok (.dup, 1) := by decide +kernel
theorem dJ7_rangeCheck_23922_13 : decode cJ7_rangeCheck_23922 13 = .ok (.invokespecial 47, 3) := by decide +kernel
theorem dJ7_rangeCheck_23922_16 : decode cJ7_rangeCheck_23922 16 = .ok (.ldc 48, 2) := by decide +kernel
theorem dJ7_rangeCheck_23922_18 : decode cJ7_rangeCheck_23922 18 = .ok (.invokevirtual 50, 3) := by decide +kernel
theorem dJ7_rangeCheck_23922_21 : decode cJ7_rangeCheck_23922 21 = .ok (.iload_n 1, 1) := by decide +kernel
theorem dJ7_rangeCheck_23922_22 : decode cJ7_rangeCheck_23922 22 = .ok (.invokevirtual 54, 3) := by decide +kernel
theorem dJ7_rangeCheck_23922_25 : decode cJ7_rangeCheck_23922 25 = .ok (.ldc 57, 2) := by decide +kernel
theorem dJ7_rangeCheck_23922_27 : decode cJ7_rangeCheck_23922 27 = .ok (.invokevirtual 50, 3) := by decide +kernel
theorem dJ7_rangeCheck_23922_30 : decode cJ7_rangeCheck_23922 30 = .ok (.iload_n 2, 1) := by decide +kernel
theorem dJ7_rangeCheck_23922_31 : decode cJ7_rangeCheck_23922 31 = .ok (.invokevirtual 54, 3) := by decide +kernel
theorem dJ7_rangeCheck_23922_34 : decode cJ7_rangeCheck_23922 34 = .ok (.ldc 59, 2) := by decide +kernel
theorem dJ7_rangeCheck_23922_36 : decode cJ7_rangeCheck_23922 36 = .ok (.invokevirtual 50, 3) := by decide +kernel
theorem dJ7_rangeCheck_23922_39 : decode cJ7_rangeCheck_23922 39 = .ok (.invokevirtual 61, 3) := by decide +kernel
theorem dJ7_rangeCheck_23922_42 : decode cJ7_rangeCheck_23922 42 = .ok (.invokespecial 65, 3) := by decide +kernel
theorem dJ7_rangeCheck_23922_45 : decode cJ7_rangeCheck_23922 45 = .ok (.athrow, 1) := by decide +kernel
theorem dJ7_rangeCheck_23922_46 : decode cJ7_rangeCheck_23922 46 = .ok (.iload_n 1, 1) := by decide +kernel
theorem dJ7_rangeCheck_23922_47 : decode cJ7_rangeCheck_23922 47 = .ok (.ifCond .ge 12, 3) := by decide +kernel
theorem dJ7_rangeCheck_23922_50 : decode cJ7_rangeCheck_23922 50 = .ok (.new 68, 3) := by decide +kernel
theorem dJ7_rangeCheck_23922_53 : decode cJ7_rangeCheck_23922 53 = .ok (.dup, 1) := by decide +kernel
theorem dJ7_rangeCheck_23922_54 : decode cJ7_rangeCheck_23922 54 = .ok (.iload_n 1, 1) := by decide +kernel
theorem dJ7_rangeCheck_23922_55 : decode cJ7_rangeCheck_23922 55 = .ok (.invokespecial 70, 3) := by decide +kernel
theorem dJ7_rangeCheck_23922_58 : decode cJ7_rangeCheck_23922 58 = .ok (.athrow, 1) := by decide +kernel
theorem dJ7_rangeCheck_23922_59 : decode cJ7_rangeCheck_23922 59 = .ok (.iload_n 2, 1) := by decide +kernel
theorem dJ7_rangeCheck_23922_60 : decode cJ7_rangeCheck_23922 60 = .ok (.iload_n 0, 1) := by decide +kernel
theorem dJ7_rangeCheck_23922_61 : decode cJ7_rangeCheck_23922 61 = .ok (.if_icmp .le 12, 3) := by decide +kernel
theorem dJ7_rangeCheck_23922_64 : decode cJ7_rangeCheck_23922 64 = .ok (.new 68, 3) := by decide +kernel
theorem dJ7_rangeCheck_23922_67 : decode cJ7_rangeCheck_23922 67 = .ok (.dup, 1) := by decide +kernel
theorem dJ7_rangeCheck_23922_68 : decode cJ7_rangeCheck_23922 68 = .ok (.iload_n 2, 1) := by decide +kernel
theorem dJ7_rangeCheck_23922_69 : decode cJ7_rangeCheck_23922 69 = .ok (.invokespecial 70, 3) := by decide +kernel
theorem dJ7_rangeCheck_23922_72 : decode cJ7_rangeCheck_23922 72 = .ok (.athrow, 1) := by decide +kernel
theorem dJ7_rangeCheck_23922_73 : decode cJ7_rangeCheck_23922 73 = .ok (.return_, 1) := by decide +kernel
theorem dJ7_fill_53178_0 : decode cJ7_fill_53178 0 = .ok (.iconst 0, 1) := by decide +kernel
theorem dJ7_fill_53178_1 : decode cJ7_fill_53178 1 = .ok (.istore_n 2, 1) := by decide +kernel
theorem dJ7_fill_53178_2 : decode cJ7_fill_53178 2 = .ok (.aload_n 0, 1) := by decide +kernel
theorem dJ7_fill_53178_3 : decode cJ7_fill_53178 3 = .ok (.arraylength, 1) := by decide +kernel
theorem dJ7_fill_53178_4 : decode cJ7_fill_53178 4 = .ok (.istore_n 3, 1) := by decide +kernel
theorem dJ7_fill_53178_5 : decode cJ7_fill_53178 5 = .ok (.iload_n 2, 1) := by decide +kernel
theorem dJ7_fill_53178_6 : decode cJ7_fill_53178 6 = .ok (.iload_n 3, 1) := by decide +kernel
theorem dJ7_fill_53178_7 : decode cJ7_fill_53178 7 = .ok (.if_icmp .ge 13, 3) := by decide +kernel
theorem dJ7_fill_53178_10 : decode cJ7_fill_53178 10 = .ok (.aload_n 0, 1) := by decide +kernel
theorem dJ7_fill_53178_11 : decode cJ7_fill_53178 11 = .ok (.iload_n 2, 1) := by decide +kernel
theorem dJ7_fill_53178_12 : decode cJ7_fill_53178 12 = .ok (.iload_n 1, 1) := by decide +kernel
theorem dJ7_fill_53178_13 : decode cJ7_fill_53178 13 = .ok (.iastore, 1) := by decide +kernel
theorem dJ7_fill_53178_14 : decode cJ7_fill_53178 14 = .ok (.iinc 2 1, 3) := by decide +kernel
theorem dJ7_fill_53178_17 : decode cJ7_fill_53178 17 = .ok (.goto (-12), 3) := by decide +kernel
theorem dJ7_fill_53178_20 : decode cJ7_fill_53178 20 = .ok (.return_, 1) := by decide +kernel
theorem dJ7_fill_fda19_0 : decode cJ7_fill_fda19 0 = .ok (.aload_n 0, 1) := by decide +kernel
theorem dJ7_fill_fda19_1 : decode cJ7_fill_fda19 1 = .ok (.arraylength, 1) := by decide +kernel
theorem dJ7_fill_fda19_2 : decode cJ7_fill_fda19 2 = .ok (.iload_n 1, 1) := by decide +kernel
theorem dJ7_fill_fda19_3 : decode cJ7_fill_fda19 3 = .ok (.iload_n 2, 1) := by decide +kernel
theorem dJ7_fill_fda19_4 : decode cJ7_fill_fda19 4 = .ok (.invokestatic 13, 3) := by decide +kernel
theorem dJ7_fill_fda19_7 : decode cJ7_fill_fda19 7 = .ok (.iload_n 1, 1) := by decide +kernel
theorem dJ7_fill_fda19_8 : decode cJ7_fill_fda19 8 = .ok (.istore 4, 2) := by decide +kernel
theorem dJ7_fill_fda19_10 : decode cJ7_fill_fda19 10 = .ok (.iload 4, 2) := by decide +kernel
theorem dJ7_fill_fda19_12 : decode cJ7_fill_fda19 12 = .ok (.iload_n 2, 1) := by decide +kernel
theorem dJ7_fill_fda19_13 : decode cJ7_fill_fda19 13 = .ok (.if_icmp .ge 14, 3) := by decide +kernel
theorem dJ7_fill_fda19_16 : decode cJ7_fill_fda19 16 = .ok (.aload_n 0, 1) := by decide +kernel
theorem dJ7_fill_fda19_17 : decode cJ7_fill_fda19 17 = .ok (.iload 4, 2) := by decide +kernel
theorem dJ7_fill_fda19_19 : decode cJ7_fill_fda19 19 = .ok (.iload_n 3, 1) := by decide +kernel
theorem dJ7_fill_fda19_20 : decode cJ7_fill_fda19 20 = .ok (.iastore, 1) := by decide +kernel
theorem dJ7_fill_fda19_21 : decode cJ7_fill_fda19 21 = .ok (.iinc 4 1, 3) := by decide +kernel
theorem dJ7_fill_fda19_24 : decode cJ7_fill_fda19 24 = .ok (.goto (-14), 3) := by decide +kernel
theorem dJ7_fill_fda19_27 : decode cJ7_fill_fda19 27 = .ok (.return_, 1) := by decide +kernel
theorem dJ9_max_7cf53_0 : decode cJ9_max_7cf53 0 = .ok (.iload_n 0, 1) := by decide +kernel
theorem dJ9_max_7cf53_1 : decode cJ9_max_7cf53 1 = .ok (.iload_n 1, 1) := by decide +kernel
theorem dJ9_max_7cf53_2 : decode cJ9_max_7cf53 2 = .ok (.if_icmp .lt 7, 3) := by decide +kernel
theorem dJ9_max_7cf53_5 : decode cJ9_max_7cf53 5 = .ok (.iload_n 0, 1) := by decide +kernel
theorem dJ9_max_7cf53_6 : decode cJ9_max_7cf53 6 = .ok (.goto 4, 3) := by decide +kernel
theorem dJ9_max_7cf53_9 : decode cJ9_max_7cf53 9 = .ok (.iload_n 1, 1) := by decide +kernel
theorem dJ9_max_7cf53_10 : decode cJ9_max_7cf53 10 = .ok (.ireturn, 1) := by decide +kernel
theorem dJ9_min_7cf53_0 : decode cJ9_min_7cf53 0 = .ok (.iload_n 0, 1) := by decide +kernel
theorem dJ9_min_7cf53_1 : decode cJ9_min_7cf53 1 = .ok (.iload_n 1, 1) := by decide +kernel
theorem dJ9_min_7cf53_2 : decode cJ9_min_7cf53 2 = .ok (.if_icmp .gt 7, 3) := by decide +kernel
theorem dJ9_min_7cf53_5 : decode cJ9_min_7cf53 5 = .ok (.iload_n 0, 1) := by decide +kernel
theorem dJ9_min_7cf53_6 : decode cJ9_min_7cf53 6 = .ok (.goto 4, 3) := by decide +kernel
theorem dJ9_min_7cf53_9 : decode cJ9_min_7cf53 9 = .ok (.iload_n 1, 1) := by decide +kernel
theorem dJ9_min_7cf53_10 : decode cJ9_min_7cf53 10 = .ok (.ireturn, 1) := by decide +kernel
theorem dL_law_0 : decode cL_law 0 = .ok (.new 7, 3) := by decide +kernel
theorem dL_law_3 : decode cL_law 3 = .ok (.dup, 1) := by decide +kernel
theorem dL_law_4 : decode cL_law 4 = .ok (.invokespecial 9, 3) := by decide +kernel
theorem dL_law_7 : decode cL_law 7 = .ok (.astore_n 1, 1) := by decide +kernel
theorem dL_law_8 : decode cL_law 8 = .ok (.new 10, 3) := by decide +kernel
theorem dL_law_11 : decode cL_law 11 = .ok (.dup, 1) := by decide +kernel
theorem dL_law_12 : decode cL_law 12 = .ok (.invokespecial 12, 3) := by decide +kernel
theorem dL_law_15 : decode cL_law 15 = .ok (.astore_n 2, 1) := by decide +kernel
theorem dL_law_16 : decode cL_law 16 = .ok (.iconst 0, 1) := by decide +kernel
theorem dL_law_17 : decode cL_law 17 = .ok (.istore_n 3, 1) := by decide +kernel
theorem dL_law_18 : decode cL_law 18 = .ok (.iload_n 3, 1) := by decide +kernel
theorem dL_law_19 : decode cL_law 19 = .ok (.aload_n 0, 1) := by decide +kernel
theorem dL_law_20 : decode cL_law 20 = .ok (.arraylength, 1) := by decide +kernel
theorem dL_law_21 : decode cL_law 21 = .ok (.bipush 6, 2) := by decide +kernel
theorem dL_law_23 : decode cL_law 23 = .ok (.isub, 1) := by decide +kernel
theorem dL_law_24 : decode cL_law 24 = .ok (.if_icmp .gt 1064, 3) := by decide +kernel
theorem dL_law_27 : decode cL_law 27 = .ok (.aload_n 0, 1) := by decide +kernel
theorem dL_law_28 : decode cL_law 28 = .ok (.iload_n 3, 1) := by decide +kernel
theorem dL_law_29 : decode cL_law 29 = .ok (.iaload, 1) := by decide +kernel
theorem dL_law_30 : decode cL_law 30 = .ok (.bipush 31, 2) := by decide +kernel
theorem dL_law_32 : decode cL_law 32 = .ok (.iand, 1) := by decide +kernel
theorem dL_law_33 : decode cL_law 33 = .ok (.tableswitch 1049 0 28 #[131, 174, 187, 200, 263, 296, 319, 352, 385, 408, 451, 474, 507, 530, 563, 586, 619, 662, 685, 708, 731, 754, 797, 820, 873, 916, 979, 1012, 1035], 131) := by decide +kernel
theorem dL_law_164 : decode cL_law 164 = .ok (.aload_n 1, 1) := by decide +kernel
theorem dL_law_165 : decode cL_law 165 = .ok (.aload_n 0, 1) := by decide +kernel
theorem dL_law_166 : decode cL_law 166 = .ok (.iload_n 3, 1) := by decide +kernel
theorem dL_law_167 : decode cL_law 167 = .ok (.iconst 1, 1) := by decide +kernel
theorem dL_law_168 : decode cL_law 168 = .ok (.iadd, 1) := by decide +kernel
theorem dL_law_169 : decode cL_law 169 = .ok (.iaload, 1) := by decide +kernel
theorem dL_law_170 : decode cL_law 170 = .ok (.aload_n 0, 1) := by decide +kernel
theorem dL_law_171 : decode cL_law 171 = .ok (.iload_n 3, 1) := by decide +kernel
theorem dL_law_172 : decode cL_law 172 = .ok (.iconst 2, 1) := by decide +kernel
theorem dL_law_173 : decode cL_law 173 = .ok (.iadd, 1) := by decide +kernel
theorem dL_law_174 : decode cL_law 174 = .ok (.iaload, 1) := by decide +kernel
theorem dL_law_175 : decode cL_law 175 = .ok (.aload_n 0, 1) := by decide +kernel
theorem dL_law_176 : decode cL_law 176 = .ok (.iload_n 3, 1) := by decide +kernel
theorem dL_law_177 : decode cL_law 177 = .ok (.iconst 3, 1) := by decide +kernel
theorem dL_law_178 : decode cL_law 178 = .ok (.iadd, 1) := by decide +kernel
theorem dL_law_179 : decode cL_law 179 = .ok (.iaload, 1) := by decide +kernel
theorem dL_law_180 : decode cL_law 180 = .ok (.invokevirtual 13, 3) := by decide +kernel
theorem dL_law_183 : decode cL_law 183 = .ok (.aload_n 2, 1) := by decide +kernel
theorem dL_law_184 : decode cL_law 184 = .ok (.aload_n 0, 1) := by decide +kernel
theorem dL_law_185 : decode cL_law 185 = .ok (.iload_n 3, 1) := by decide +kernel
theorem dL_law_186 : decode cL_law 186 = .ok (.iconst 1, 1) := by decide +kernel
theorem dL_law_187 : decode cL_law 187 = .ok (.iadd, 1) := by decide +kernel
theorem dL_law_188 : decode cL_law 188 = .ok (.iaload, 1) := by decide +kernel
theorem dL_law_189 : decode cL_law 189 = .ok (.aload_n 0, 1) := by decide +kernel
theorem dL_law_190 : decode cL_law 190 = .ok (.iload_n 3, 1) := by decide +kernel
theorem dL_law_191 : decode cL_law 191 = .ok (.iconst 2, 1) := by decide +kernel
theorem dL_law_192 : decode cL_law 192 = .ok (.iadd, 1) := by decide +kernel
theorem dL_law_193 : decode cL_law 193 = .ok (.iaload, 1) := by decide +kernel
theorem dL_law_194 : decode cL_law 194 = .ok (.aload_n 0, 1) := by decide +kernel
theorem dL_law_195 : decode cL_law 195 = .ok (.iload_n 3, 1) := by decide +kernel
theorem dL_law_196 : decode cL_law 196 = .ok (.iconst 3, 1) := by decide +kernel
theorem dL_law_197 : decode cL_law 197 = .ok (.iadd, 1) := by decide +kernel
theorem dL_law_198 : decode cL_law 198 = .ok (.iaload, 1) := by decide +kernel
theorem dL_law_199 : decode cL_law 199 = .ok (.invokevirtual 17, 3) := by decide +kernel
theorem dL_law_202 : decode cL_law 202 = .ok (.if_icmp .eq 880, 3) := by decide +kernel
theorem dL_law_205 : decode cL_law 205 = .ok (.iconst 0, 1) := by decide +kernel
theorem dL_law_206 : decode cL_law 206 = .ok (.ireturn, 1) := by decide +kernel
theorem dL_law_207 : decode cL_law 207 = .ok (.aload_n 1, 1) := by decide +kernel
theorem dL_law_208 : decode cL_law 208 = .ok (.invokevirtual 18, 3) := by decide +kernel
theorem dL_law_211 : decode cL_law 211 = .ok (.aload_n 2, 1) := by decide +kernel
theorem dL_law_212 : decode cL_law 212 = .ok (.invokevirtual 22, 3) := by decide +kernel
theorem dL_law_215 : decode cL_law 215 = .ok (.if_icmp .eq 867, 3) := by decide +kernel
theorem dL_law_218 : decode cL_law 218 = .ok (.iconst 0, 1) := by decide +kernel
theorem dL_law_219 : decode cL_law 219 = .ok (.ireturn, 1) := by decide +kernel
theorem dL_law_220 : decode cL_law 220 = .ok (.aload_n 1, 1) := by decide +kernel
theorem dL_law_221 : decode cL_law 221 = .ok (.invokevirtual 23, 3) := by decide +kernel
theorem dL_law_224 : decode cL_law 224 = .ok (.aload_n 2, 1) := by decide +kernel
theorem dL_law_225 : decode cL_law 225 = .ok (.invokevirtual 26, 3) := by decide +kernel
theorem dL_law_228 : decode cL_law 228 = .ok (.if_icmp .eq 854, 3) := by decide +kernel
theorem dL_law_231 : decode cL_law 231 = .ok (.iconst 0, 1) := by decide +kernel
theorem dL_law_232 : decode cL_law 232 = .ok (.ireturn, 1) := by decide +kernel
theorem dL_law_233 : decode cL_law 233 = .ok (.aload_n 1, 1) := by decide +kernel
theorem dL_law_234 : decode cL_law 234 = .ok (.aload_n 0, 1) := by decide +kernel
theorem dL_law_235 : decode cL_law 235 = .ok (.iload_n 3, 1) := by decide +kernel
theorem dL_law_236 : decode cL_law 236 = .ok (.iconst 1, 1) := by decide +kernel
theorem dL_law_237 : decode cL_law 237 = .ok (.iadd, 1) := by decide +kernel
theorem dL_law_238 : decode cL_law 238 = .ok (.iaload, 1) := by decide +kernel
theorem dL_law_239 : decode cL_law 239 = .ok (.aload_n 0, 1) := by decide +kernel
theorem dL_law_240 : decode cL_law 240 = .ok (.iload_n 3, 1) := by decide +kernel
theorem dL_law_241 : decode cL_law 241 = .ok (.iconst 2, 1) := by decide +kernel
theorem dL_law_242 : decode cL_law 242 = .ok (.iadd, 1) := by decide +kernel
theorem dL_law_243 : decode cL_law 243 = .ok (.iaload, 1) := by decide +kernel
theorem dL_law_244 : decode cL_law 244 = .ok (.aload_n 0, 1) := by decide +kernel
theorem dL_law_245 : decode cL_law 245 = .ok (.iload_n 3, 1) := by decide +kernel
theorem dL_law_246 : decode cL_law 246 = .ok (.iconst 3, 1) := by decide +kernel
theorem dL_law_247 : decode cL_law 247 = .ok (.iadd, 1) := by decide +kernel
theorem dL_law_248 : decode cL_law 248 = .ok (.iaload, 1) := by decide +kernel
theorem dL_law_249 : decode cL_law 249 = .ok (.aload_n 0, 1) := by decide +kernel
theorem dL_law_250 : decode cL_law 250 = .ok (.iload_n 3, 1) := by decide +kernel
theorem dL_law_251 : decode cL_law 251 = .ok (.iconst 4, 1) := by decide +kernel
theorem dL_law_252 : decode cL_law 252 = .ok (.iadd, 1) := by decide +kernel
theorem dL_law_253 : decode cL_law 253 = .ok (.iaload, 1) := by decide +kernel
theorem dL_law_254 : decode cL_law 254 = .ok (.aload_n 0, 1) := by decide +kernel
theorem dL_law_255 : decode cL_law 255 = .ok (.iload_n 3, 1) := by decide +kernel
theorem dL_law_256 : decode cL_law 256 = .ok (.iconst 5, 1) := by decide +kernel
theorem dL_law_257 : decode cL_law 257 = .ok (.iadd, 1) := by decide +kernel
theorem dL_law_258 : decode cL_law 258 = .ok (.iaload, 1) := by decide +kernel
theorem dL_law_259 : decode cL_law 259 = .ok (.invokevirtual 27, 3) := by decide +kernel
theorem dL_law_262 : decode cL_law 262 = .ok (.aload_n 2, 1) := by decide +kernel
theorem dL_law_263 : decode cL_law 263 = .ok (.aload_n 0, 1) := by decide +kernel
theorem dL_law_264 : decode cL_law 264 = .ok (.iload_n 3, 1) := by decide +kernel
theorem dL_law_265 : decode cL_law 265 = .ok (.iconst 1, 1) := by decide +kernel
theorem dL_law_266 : decode cL_law 266 = .ok (.iadd, 1) := by decide +kernel
theorem dL_law_267 : decode cL_law 267 = .ok (.iaload, 1) := by decide +kernel
theorem dL_law_268 : decode cL_law 268 = .ok (.aload_n 0, 1) := by decide +kernel
theorem dL_law_269 : decode cL_law 269 = .ok (.iload_n 3, 1) := by decide +kernel
theorem dL_law_270 : decode cL_law 270 = .ok (.iconst 2, 1) := by decide +kernel
theorem dL_law_271 : decode cL_law 271 = .ok (.iadd, 1) := by decide +kernel
theorem dL_law_272 : decode cL_law 272 = .ok (.iaload, 1) := by decide +kernel
theorem dL_law_273 : decode cL_law 273 = .ok (.aload_n 0, 1) := by decide +kernel
theorem dL_law_274 : decode cL_law 274 = .ok (.iload_n 3, 1) := by decide +kernel
theorem dL_law_275 : decode cL_law 275 = .ok (.iconst 3, 1) := by decide +kernel
theorem dL_law_276 : decode cL_law 276 = .ok (.iadd, 1) := by decide +kernel
theorem dL_law_277 : decode cL_law 277 = .ok (.iaload, 1) := by decide +kernel
theorem dL_law_278 : decode cL_law 278 = .ok (.aload_n 0, 1) := by decide +kernel
theorem dL_law_279 : decode cL_law 279 = .ok (.iload_n 3, 1) := by decide +kernel
theorem dL_law_280 : decode cL_law 280 = .ok (.iconst 4, 1) := by decide +kernel
theorem dL_law_281 : decode cL_law 281 = .ok (.iadd, 1) := by decide +kernel
theorem dL_law_282 : decode cL_law 282 = .ok (.iaload, 1) := by decide +kernel
theorem dL_law_283 : decode cL_law 283 = .ok (.aload_n 0, 1) := by decide +kernel
theorem dL_law_284 : decode cL_law 284 = .ok (.iload_n 3, 1) := by decide +kernel
theorem dL_law_285 : decode cL_law 285 = .ok (.iconst 5, 1) := by decide +kernel
theorem dL_law_286 : decode cL_law 286 = .ok (.iadd, 1) := by decide +kernel
theorem dL_law_287 : decode cL_law 287 = .ok (.iaload, 1) := by decide +kernel
theorem dL_law_288 : decode cL_law 288 = .ok (.invokevirtual 31, 3) := by decide +kernel
theorem dL_law_291 : decode cL_law 291 = .ok (.if_icmp .eq 791, 3) := by decide +kernel
theorem dL_law_294 : decode cL_law 294 = .ok (.iconst 0, 1) := by decide +kernel
theorem dL_law_295 : decode cL_law 295 = .ok (.ireturn, 1) := by decide +kernel
theorem dL_law_296 : decode cL_law 296 = .ok (.aload_n 1, 1) := by decide +kernel
theorem dL_law_297 : decode cL_law 297 = .ok (.aload_n 0, 1) := by decide +kernel
theorem dL_law_298 : decode cL_law 298 = .ok (.iload_n 3, 1) := by decide +kernel
theorem dL_law_299 : decode cL_law 299 = .ok (.iconst 1, 1) := by decide +kernel
theorem dL_law_300 : decode cL_law 300 = .ok (.iadd, 1) := by decide +kernel
theorem dL_law_301 : decode cL_law 301 = .ok (.iaload, 1) := by decide +kernel
theorem dL_law_302 : decode cL_law 302 = .ok (.aload_n 0, 1) := by decide +kernel
theorem dL_law_303 : decode cL_law 303 = .ok (.iload_n 3, 1) := by decide +kernel
theorem dL_law_304 : decode cL_law 304 = .ok (.iconst 2, 1) := by decide +kernel
theorem dL_law_305 : decode cL_law 305 = .ok (.iadd, 1) := by decide +kernel
theorem dL_law_306 : decode cL_law 306 = .ok (.iaload, 1) := by decide +kernel
theorem dL_law_307 : decode cL_law 307 = .ok (.invokevirtual 32, 3) := by decide +kernel
theorem dL_law_310 : decode cL_law 310 = .ok (.aload_n 2, 1) := by decide +kernel
theorem dL_law_311 : decode cL_law 311 = .ok (.aload_n 0, 1) := by decide +kernel
theorem dL_law_312 : decode cL_law 312 = .ok (.iload_n 3, 1) := by decide +kernel
theorem dL_law_313 : decode cL_law 313 = .ok (.iconst 1, 1) := by decide +kernel
theorem dL_law_314 : decode cL_law 314 = .ok (.iadd, 1) := by decide +kernel
theorem dL_law_315 : decode cL_law 315 = .ok (.iaload, 1) := by decide +kernel
theorem dL_law_316 : decode cL_law 316 = .ok (.aload_n 0, 1) := by decide +kernel
theorem dL_law_317 : decode cL_law 317 = .ok (.iload_n 3, 1) := by decide +kernel
theorem dL_law_318 : decode cL_law 318 = .ok (.iconst 2, 1) := by decide +kernel
theorem dL_law_319 : decode cL_law 319 = .ok (.iadd, 1) := by decide +kernel
theorem dL_law_320 : decode cL_law 320 = .ok (.iaload, 1) := by decide +kernel
theorem dL_law_321 : decode cL_law 321 = .ok (.invokevirtual 36, 3) := by decide +kernel
theorem dL_law_324 : decode cL_law 324 = .ok (.if_icmp .eq 758, 3) := by decide +kernel
theorem dL_law_327 : decode cL_law 327 = .ok (.iconst 0, 1) := by decide +kernel
theorem dL_law_328 : decode cL_law 328 = .ok (.ireturn, 1) := by decide +kernel
theorem dL_law_329 : decode cL_law 329 = .ok (.aload_n 1, 1) := by decide +kernel
theorem dL_law_330 : decode cL_law 330 = .ok (.aload_n 0, 1) := by decide +kernel
theorem dL_law_331 : decode cL_law 331 = .ok (.iload_n 3, 1) := by decide +kernel
theorem dL_law_332 : decode cL_law 332 = .ok (.iconst 1, 1) := by decide +kernel
theorem dL_law_333 : decode cL_law 333 = .ok (.iadd, 1) := by decide +kernel
theorem dL_law_334 : decode cL_law 334 = .ok (.iaload, 1) := by decide +kernel
theorem dL_law_335 : decode cL_law 335 = .ok (.invokevirtual 37, 3) := by decide +kernel
theorem dL_law_338 : decode cL_law 338 = .ok (.aload_n 2, 1) := by decide +kernel
theorem dL_law_339 : decode cL_law 339 = .ok (.aload_n 0, 1) := by decide +kernel
theorem dL_law_340 : decode cL_law 340 = .ok (.iload_n 3, 1) := by decide +kernel
theorem dL_law_341 : decode cL_law 341 = .ok (.iconst 1, 1) := by decide +kernel
theorem dL_law_342 : decode cL_law 342 = .ok (.iadd, 1) := by decide +kernel
theorem dL_law_343 : decode cL_law 343 = .ok (.iaload, 1) := by decide +kernel
theorem dL_law_344 : decode cL_law 344 = .ok (.invokevirtual 41, 3) := by decide +kernel
theorem dL_law_347 : decode cL_law 347 = .ok (.if_icmp .eq 735, 3) := by decide +kernel
theorem dL_law_350 : decode cL_law 350 = .ok (.iconst 0, 1) := by decide +kernel
theorem dL_law_351 : decode cL_law 351 = .ok (.ireturn, 1) := by decide +kernel
theorem dL_law_352 : decode cL_law 352 = .ok (.aload_n 1, 1) := by decide +kernel
theorem dL_law_353 : decode cL_law 353 = .ok (.aload_n 0, 1) := by decide +kernel
theorem dL_law_354 : decode cL_law 354 = .ok (.iload_n 3, 1) := by decide +kernel
theorem dL_law_355 : decode cL_law 355 = .ok (.iconst 1, 1) := by decide +kernel
theorem dL_law_356 : decode cL_law 356 = .ok (.iadd, 1) := by decide +kernel
theorem dL_law_357 : decode cL_law 357 = .ok (.iaload, 1) := by decide +kernel
theorem dL_law_358 : decode cL_law 358 = .ok (.aload_n 0, 1) := by decide +kernel
theorem dL_law_359 : decode cL_law 359 = .ok (.iload_n 3, 1) := by decide +kernel
theorem dL_law_360 : decode cL_law 360 = .ok (.iconst 2, 1) := by decide +kernel
theorem dL_law_361 : decode cL_law 361 = .ok (.iadd, 1) := by decide +kernel
theorem dL_law_362 : decode cL_law 362 = .ok (.iaload, 1) := by decide +kernel
theorem dL_law_363 : decode cL_law 363 = .ok (.invokevirtual 42, 3) := by decide +kernel
theorem dL_law_366 : decode cL_law 366 = .ok (.aload_n 2, 1) := by decide +kernel
theorem dL_law_367 : decode cL_law 367 = .ok (.aload_n 0, 1) := by decide +kernel
theorem dL_law_368 : decode cL_law 368 = .ok (.iload_n 3, 1) := by decide +kernel
theorem dL_law_369 : decode cL_law 369 = .ok (.iconst 1, 1) := by decide +kernel
theorem dL_law_370 : decode cL_law 370 = .ok (.iadd, 1) := by decide +kernel
theorem dL_law_371 : decode cL_law 371 = .ok (.iaload, 1) := by decide +kernel
theorem dL_law_372 : decode cL_law 372 = .ok (.aload_n 0, 1) := by decide +kernel
theorem dL_law_373 : decode cL_law 373 = .ok (.iload_n 3, 1) := by decide +kernel
theorem dL_law_374 : decode cL_law 374 = .ok (.iconst 2, 1) := by decide +kernel
theorem dL_law_375 : decode cL_law 375 = .ok (.iadd, 1) := by decide +kernel
theorem dL_law_376 : decode cL_law 376 = .ok (.iaload, 1) := by decide +kernel
theorem dL_law_377 : decode cL_law 377 = .ok (.invokevirtual 45, 3) := by decide +kernel
theorem dL_law_380 : decode cL_law 380 = .ok (.if_icmp .eq 702, 3) := by decide +kernel
theorem dL_law_383 : decode cL_law 383 = .ok (.iconst 0, 1) := by decide +kernel
theorem dL_law_384 : decode cL_law 384 = .ok (.ireturn, 1) := by decide +kernel
theorem dL_law_385 : decode cL_law 385 = .ok (.aload_n 1, 1) := by decide +kernel
theorem dL_law_386 : decode cL_law 386 = .ok (.aload_n 0, 1) := by decide +kernel
theorem dL_law_387 : decode cL_law 387 = .ok (.iload_n 3, 1) := by decide +kernel
theorem dL_law_388 : decode cL_law 388 = .ok (.iconst 1, 1) := by decide +kernel
theorem dL_law_389 : decode cL_law 389 = .ok (.iadd, 1) := by decide +kernel
theorem dL_law_390 : decode cL_law 390 = .ok (.iaload, 1) := by decide +kernel
theorem dL_law_391 : decode cL_law 391 = .ok (.aload_n 0, 1) := by decide +kernel
theorem dL_law_392 : decode cL_law 392 = .ok (.iload_n 3, 1) := by decide +kernel
theorem dL_law_393 : decode cL_law 393 = .ok (.iconst 2, 1) := by decide +kernel
theorem dL_law_394 : decode cL_law 394 = .ok (.iadd, 1) := by decide +kernel
theorem dL_law_395 : decode cL_law 395 = .ok (.iaload, 1) := by decide +kernel
theorem dL_law_396 : decode cL_law 396 = .ok (.invokevirtual 46, 3) := by decide +kernel
theorem dL_law_399 : decode cL_law 399 = .ok (.aload_n 2, 1) := by decide +kernel
theorem dL_law_400 : decode cL_law 400 = .ok (.aload_n 0, 1) := by decide +kernel
theorem dL_law_401 : decode cL_law 401 = .ok (.iload_n 3, 1) := by decide +kernel
theorem dL_law_402 : decode cL_law 402 = .ok (.iconst 1, 1) := by decide +kernel
theorem dL_law_403 : decode cL_law 403 = .ok (.iadd, 1) := by decide +kernel
theorem dL_law_404 : decode cL_law 404 = .ok (.iaload, 1) := by decide +kernel
theorem dL_law_405 : decode cL_law 405 = .ok (.aload_n 0, 1) := by decide +kernel
theorem dL_law_406 : decode cL_law 406 = .ok (.iload_n 3, 1) := by decide +kernel
theorem dL_law_407 : decode cL_law 407 = .ok (.iconst 2, 1) := by decide +kernel
theorem dL_law_408 : decode cL_law 408 = .ok (.iadd, 1) := by decide +kernel
theorem dL_law_409 : decode cL_law 409 = .ok (.iaload, 1) := by decide +kernel
theorem dL_law_410 : decode cL_law 410 = .ok (.invokevirtual 49, 3) := by decide +kernel
theorem dL_law_413 : decode cL_law 413 = .ok (.if_icmp .eq 669, 3) := by decide +kernel
theorem dL_law_416 : decode cL_law 416 = .ok (.iconst 0, 1) := by decide +kernel
theorem dL_law_417 : decode cL_law 417 = .ok (.ireturn, 1) := by decide +kernel
theorem dL_law_418 : decode cL_law 418 = .ok (.aload_n 1, 1) := by decide +kernel
theorem dL_law_419 : decode cL_law 419 = .ok (.aload_n 0, 1) := by decide +kernel
theorem dL_law_420 : decode cL_law 420 = .ok (.iload_n 3, 1) := by decide +kernel
theorem dL_law_421 : decode cL_law 421 = .ok (.iconst 1, 1) := by decide +kernel
theorem dL_law_422 : decode cL_law 422 = .ok (.iadd, 1) := by decide +kernel
theorem dL_law_423 : decode cL_law 423 = .ok (.iaload, 1) := by decide +kernel
theorem dL_law_424 : decode cL_law 424 = .ok (.invokevirtual 50, 3) := by decide +kernel
theorem dL_law_427 : decode cL_law 427 = .ok (.aload_n 2, 1) := by decide +kernel
theorem dL_law_428 : decode cL_law 428 = .ok (.aload_n 0, 1) := by decide +kernel
theorem dL_law_429 : decode cL_law 429 = .ok (.iload_n 3, 1) := by decide +kernel
theorem dL_law_430 : decode cL_law 430 = .ok (.iconst 1, 1) := by decide +kernel
theorem dL_law_431 : decode cL_law 431 = .ok (.iadd, 1) := by decide +kernel
theorem dL_law_432 : decode cL_law 432 = .ok (.iaload, 1) := by decide +kernel
theorem dL_law_433 : decode cL_law 433 = .ok (.invokevirtual 53, 3) := by decide +kernel
theorem dL_law_436 : decode cL_law 436 = .ok (.if_icmp .eq 646, 3) := by decide +kernel
theorem dL_law_439 : decode cL_law 439 = .ok (.iconst 0, 1) := by decide +kernel
theorem dL_law_440 : decode cL_law 440 = .ok (.ireturn, 1) := by decide +kernel
theorem dL_law_441 : decode cL_law 441 = .ok (.aload_n 1, 1) := by decide +kernel
theorem dL_law_442 : decode cL_law 442 = .ok (.aload_n 0, 1) := by decide +kernel
theorem dL_law_443 : decode cL_law 443 = .ok (.iload_n 3, 1) := by decide +kernel
theorem dL_law_444 : decode cL_law 444 = .ok (.iconst 1, 1) := by decide +kernel
theorem dL_law_445 : decode cL_law 445 = .ok (.iadd, 1) := by decide +kernel
theorem dL_law_446 : decode cL_law 446 = .ok (.iaload, 1) := by decide +kernel
theorem dL_law_447 : decode cL_law 447 = .ok (.aload_n 0, 1) := by decide +kernel
theorem dL_law_448 : decode cL_law 448 = .ok (.iload_n 3, 1) := by decide +kernel
theorem dL_law_449 : decode cL_law 449 = .ok (.iconst 2, 1) := by decide +kernel
theorem dL_law_450 : decode cL_law 450 = .ok (.iadd, 1) := by decide +kernel
theorem dL_law_451 : decode cL_law 451 = .ok (.iaload, 1) := by decide +kernel
theorem dL_law_452 : decode cL_law 452 = .ok (.aload_n 0, 1) := by decide +kernel
theorem dL_law_453 : decode cL_law 453 = .ok (.iload_n 3, 1) := by decide +kernel
theorem dL_law_454 : decode cL_law 454 = .ok (.iconst 3, 1) := by decide +kernel
theorem dL_law_455 : decode cL_law 455 = .ok (.iadd, 1) := by decide +kernel
theorem dL_law_456 : decode cL_law 456 = .ok (.iaload, 1) := by decide +kernel
theorem dL_law_457 : decode cL_law 457 = .ok (.invokevirtual 54, 3) := by decide +kernel
theorem dL_law_460 : decode cL_law 460 = .ok (.aload_n 2, 1) := by decide +kernel
theorem dL_law_461 : decode cL_law 461 = .ok (.aload_n 0, 1) := by decide +kernel
theorem dL_law_462 : decode cL_law 462 = .ok (.iload_n 3, 1) := by decide +kernel
theorem dL_law_463 : decode cL_law 463 = .ok (.iconst 1, 1) := by decide +kernel
theorem dL_law_464 : decode cL_law 464 = .ok (.iadd, 1) := by decide +kernel
theorem dL_law_465 : decode cL_law 465 = .ok (.iaload, 1) := by decide +kernel
theorem dL_law_466 : decode cL_law 466 = .ok (.aload_n 0, 1) := by decide +kernel
theorem dL_law_467 : decode cL_law 467 = .ok (.iload_n 3, 1) := by decide +kernel
theorem dL_law_468 : decode cL_law 468 = .ok (.iconst 2, 1) := by decide +kernel
theorem dL_law_469 : decode cL_law 469 = .ok (.iadd, 1) := by decide +kernel
theorem dL_law_470 : decode cL_law 470 = .ok (.iaload, 1) := by decide +kernel
theorem dL_law_471 : decode cL_law 471 = .ok (.aload_n 0, 1) := by decide +kernel
theorem dL_law_472 : decode cL_law 472 = .ok (.iload_n 3, 1) := by decide +kernel
theorem dL_law_473 : decode cL_law 473 = .ok (.iconst 3, 1) := by decide +kernel
theorem dL_law_474 : decode cL_law 474 = .ok (.iadd, 1) := by decide +kernel
theorem dL_law_475 : decode cL_law 475 = .ok (.iaload, 1) := by decide +kernel
theorem dL_law_476 : decode cL_law 476 = .ok (.invokevirtual 57, 3) := by decide +kernel
theorem dL_law_479 : decode cL_law 479 = .ok (.if_icmp .eq 603, 3) := by decide +kernel
theorem dL_law_482 : decode cL_law 482 = .ok (.iconst 0, 1) := by decide +kernel
theorem dL_law_483 : decode cL_law 483 = .ok (.ireturn, 1) := by decide +kernel
theorem dL_law_484 : decode cL_law 484 = .ok (.aload_n 1, 1) := by decide +kernel
theorem dL_law_485 : decode cL_law 485 = .ok (.aload_n 0, 1) := by decide +kernel
theorem dL_law_486 : decode cL_law 486 = .ok (.iload_n 3, 1) := by decide +kernel
theorem dL_law_487 : decode cL_law 487 = .ok (.iconst 1, 1) := by decide +kernel
theorem dL_law_488 : decode cL_law 488 = .ok (.iadd, 1) := by decide +kernel
theorem dL_law_489 : decode cL_law 489 = .ok (.iaload, 1) := by decide +kernel
theorem dL_law_490 : decode cL_law 490 = .ok (.invokevirtual 58, 3) := by decide +kernel
theorem dL_law_493 : decode cL_law 493 = .ok (.aload_n 2, 1) := by decide +kernel
theorem dL_law_494 : decode cL_law 494 = .ok (.aload_n 0, 1) := by decide +kernel
theorem dL_law_495 : decode cL_law 495 = .ok (.iload_n 3, 1) := by decide +kernel
theorem dL_law_496 : decode cL_law 496 = .ok (.iconst 1, 1) := by decide +kernel
theorem dL_law_497 : decode cL_law 497 = .ok (.iadd, 1) := by decide +kernel
theorem dL_law_498 : decode cL_law 498 = .ok (.iaload, 1) := by decide +kernel
theorem dL_law_499 : decode cL_law 499 = .ok (.invokevirtual 61, 3) := by decide +kernel
theorem dL_law_502 : decode cL_law 502 = .ok (.if_icmp .eq 580, 3) := by decide +kernel
theorem dL_law_505 : decode cL_law 505 = .ok (.iconst 0, 1) := by decide +kernel
theorem dL_law_506 : decode cL_law 506 = .ok (.ireturn, 1) := by decide +kernel
theorem dL_law_507 : decode cL_law 507 = .ok (.aload_n 1, 1) := by decide +kernel
theorem dL_law_508 : decode cL_law 508 = .ok (.aload_n 0, 1) := by decide +kernel
theorem dL_law_509 : decode cL_law 509 = .ok (.iload_n 3, 1) := by decide +kernel
theorem dL_law_510 : decode cL_law 510 = .ok (.iconst 1, 1) := by decide +kernel
theorem dL_law_511 : decode cL_law 511 = .ok (.iadd, 1) := by decide +kernel
theorem dL_law_512 : decode cL_law 512 = .ok (.iaload, 1) := by decide +kernel
theorem dL_law_513 : decode cL_law 513 = .ok (.aload_n 0, 1) := by decide +kernel
theorem dL_law_514 : decode cL_law 514 = .ok (.iload_n 3, 1) := by decide +kernel
theorem dL_law_515 : decode cL_law 515 = .ok (.iconst 2, 1) := by decide +kernel
theorem dL_law_516 : decode cL_law 516 = .ok (.iadd, 1) := by decide +kernel
theorem dL_law_517 : decode cL_law 517 = .ok (.iaload, 1) := by decide +kernel
theorem dL_law_518 : decode cL_law 518 = .ok (.invokevirtual 62, 3) := by decide +kernel
theorem dL_law_521 : decode cL_law 521 = .ok (.aload_n 2, 1) := by decide +kernel
theorem dL_law_522 : decode cL_law 522 = .ok (.aload_n 0, 1) := by decide +kernel
theorem dL_law_523 : decode cL_law 523 = .ok (.iload_n 3, 1) := by decide +kernel
theorem dL_law_524 : decode cL_law 524 = .ok (.iconst 1, 1) := by decide +kernel
theorem dL_law_525 : decode cL_law 525 = .ok (.iadd, 1) := by decide +kernel
theorem dL_law_526 : decode cL_law 526 = .ok (.iaload, 1) := by decide +kernel
theorem dL_law_527 : decode cL_law 527 = .ok (.aload_n 0, 1) := by decide +kernel
theorem dL_law_528 : decode cL_law 528 = .ok (.iload_n 3, 1) := by decide +kernel
theorem dL_law_529 : decode cL_law 529 = .ok (.iconst 2, 1) := by decide +kernel
theorem dL_law_530 : decode cL_law 530 = .ok (.iadd, 1) := by decide +kernel
theorem dL_law_531 : decode cL_law 531 = .ok (.iaload, 1) := by decide +kernel
theorem dL_law_532 : decode cL_law 532 = .ok (.invokevirtual 65, 3) := by decide +kernel
theorem dL_law_535 : decode cL_law 535 = .ok (.if_icmp .eq 547, 3) := by decide +kernel
theorem dL_law_538 : decode cL_law 538 = .ok (.iconst 0, 1) := by decide +kernel
theorem dL_law_539 : decode cL_law 539 = .ok (.ireturn, 1) := by decide +kernel
theorem dL_law_540 : decode cL_law 540 = .ok (.aload_n 1, 1) := by decide +kernel
theorem dL_law_541 : decode cL_law 541 = .ok (.aload_n 0, 1) := by decide +kernel
theorem dL_law_542 : decode cL_law 542 = .ok (.iload_n 3, 1) := by decide +kernel
theorem dL_law_543 : decode cL_law 543 = .ok (.iconst 1, 1) := by decide +kernel
theorem dL_law_544 : decode cL_law 544 = .ok (.iadd, 1) := by decide +kernel
theorem dL_law_545 : decode cL_law 545 = .ok (.iaload, 1) := by decide +kernel
theorem dL_law_546 : decode cL_law 546 = .ok (.invokevirtual 66, 3) := by decide +kernel
theorem dL_law_549 : decode cL_law 549 = .ok (.aload_n 2, 1) := by decide +kernel
theorem dL_law_550 : decode cL_law 550 = .ok (.aload_n 0, 1) := by decide +kernel
theorem dL_law_551 : decode cL_law 551 = .ok (.iload_n 3, 1) := by decide +kernel
theorem dL_law_552 : decode cL_law 552 = .ok (.iconst 1, 1) := by decide +kernel
theorem dL_law_553 : decode cL_law 553 = .ok (.iadd, 1) := by decide +kernel
theorem dL_law_554 : decode cL_law 554 = .ok (.iaload, 1) := by decide +kernel
theorem dL_law_555 : decode cL_law 555 = .ok (.invokevirtual 69, 3) := by decide +kernel
theorem dL_law_558 : decode cL_law 558 = .ok (.if_icmp .eq 524, 3) := by decide +kernel
theorem dL_law_561 : decode cL_law 561 = .ok (.iconst 0, 1) := by decide +kernel
theorem dL_law_562 : decode cL_law 562 = .ok (.ireturn, 1) := by decide +kernel
theorem dL_law_563 : decode cL_law 563 = .ok (.aload_n 1, 1) := by decide +kernel
theorem dL_law_564 : decode cL_law 564 = .ok (.aload_n 0, 1) := by decide +kernel
theorem dL_law_565 : decode cL_law 565 = .ok (.iload_n 3, 1) := by decide +kernel
theorem dL_law_566 : decode cL_law 566 = .ok (.iconst 1, 1) := by decide +kernel
theorem dL_law_567 : decode cL_law 567 = .ok (.iadd, 1) := by decide +kernel
theorem dL_law_568 : decode cL_law 568 = .ok (.iaload, 1) := by decide +kernel
theorem dL_law_569 : decode cL_law 569 = .ok (.aload_n 0, 1) := by decide +kernel
theorem dL_law_570 : decode cL_law 570 = .ok (.iload_n 3, 1) := by decide +kernel
theorem dL_law_571 : decode cL_law 571 = .ok (.iconst 2, 1) := by decide +kernel
theorem dL_law_572 : decode cL_law 572 = .ok (.iadd, 1) := by decide +kernel
theorem dL_law_573 : decode cL_law 573 = .ok (.iaload, 1) := by decide +kernel
theorem dL_law_574 : decode cL_law 574 = .ok (.invokevirtual 70, 3) := by decide +kernel
theorem dL_law_577 : decode cL_law 577 = .ok (.aload_n 2, 1) := by decide +kernel
theorem dL_law_578 : decode cL_law 578 = .ok (.aload_n 0, 1) := by decide +kernel
theorem dL_law_579 : decode cL_law 579 = .ok (.iload_n 3, 1) := by decide +kernel
theorem dL_law_580 : decode cL_law 580 = .ok (.iconst 1, 1) := by decide +kernel
theorem dL_law_581 : decode cL_law 581 = .ok (.iadd, 1) := by decide +kernel
theorem dL_law_582 : decode cL_law 582 = .ok (.iaload, 1) := by decide +kernel
theorem dL_law_583 : decode cL_law 583 = .ok (.aload_n 0, 1) := by decide +kernel
theorem dL_law_584 : decode cL_law 584 = .ok (.iload_n 3, 1) := by decide +kernel
theorem dL_law_585 : decode cL_law 585 = .ok (.iconst 2, 1) := by decide +kernel
theorem dL_law_586 : decode cL_law 586 = .ok (.iadd, 1) := by decide +kernel
theorem dL_law_587 : decode cL_law 587 = .ok (.iaload, 1) := by decide +kernel
theorem dL_law_588 : decode cL_law 588 = .ok (.invokevirtual 73, 3) := by decide +kernel
theorem dL_law_591 : decode cL_law 591 = .ok (.if_icmp .eq 491, 3) := by decide +kernel
theorem dL_law_594 : decode cL_law 594 = .ok (.iconst 0, 1) := by decide +kernel
theorem dL_law_595 : decode cL_law 595 = .ok (.ireturn, 1) := by decide +kernel
theorem dL_law_596 : decode cL_law 596 = .ok (.aload_n 1, 1) := by decide +kernel
theorem dL_law_597 : decode cL_law 597 = .ok (.aload_n 0, 1) := by decide +kernel
theorem dL_law_598 : decode cL_law 598 = .ok (.iload_n 3, 1) := by decide +kernel
theorem dL_law_599 : decode cL_law 599 = .ok (.iconst 1, 1) := by decide +kernel
theorem dL_law_600 : decode cL_law 600 = .ok (.iadd, 1) := by decide +kernel
theorem dL_law_601 : decode cL_law 601 = .ok (.iaload, 1) := by decide +kernel
theorem dL_law_602 : decode cL_law 602 = .ok (.invokevirtual 74, 3) := by decide +kernel
theorem dL_law_605 : decode cL_law 605 = .ok (.aload_n 2, 1) := by decide +kernel
theorem dL_law_606 : decode cL_law 606 = .ok (.aload_n 0, 1) := by decide +kernel
theorem dL_law_607 : decode cL_law 607 = .ok (.iload_n 3, 1) := by decide +kernel
theorem dL_law_608 : decode cL_law 608 = .ok (.iconst 1, 1) := by decide +kernel
theorem dL_law_609 : decode cL_law 609 = .ok (.iadd, 1) := by decide +kernel
theorem dL_law_610 : decode cL_law 610 = .ok (.iaload, 1) := by decide +kernel
theorem dL_law_611 : decode cL_law 611 = .ok (.invokevirtual 77, 3) := by decide +kernel
theorem dL_law_614 : decode cL_law 614 = .ok (.if_icmp .eq 468, 3) := by decide +kernel
theorem dL_law_617 : decode cL_law 617 = .ok (.iconst 0, 1) := by decide +kernel
theorem dL_law_618 : decode cL_law 618 = .ok (.ireturn, 1) := by decide +kernel
theorem dL_law_619 : decode cL_law 619 = .ok (.aload_n 1, 1) := by decide +kernel
theorem dL_law_620 : decode cL_law 620 = .ok (.aload_n 0, 1) := by decide +kernel
theorem dL_law_621 : decode cL_law 621 = .ok (.iload_n 3, 1) := by decide +kernel
theorem dL_law_622 : decode cL_law 622 = .ok (.iconst 1, 1) := by decide +kernel
theorem dL_law_623 : decode cL_law 623 = .ok (.iadd, 1) := by decide +kernel
theorem dL_law_624 : decode cL_law 624 = .ok (.iaload, 1) := by decide +kernel
theorem dL_law_625 : decode cL_law 625 = .ok (.aload_n 0, 1) := by decide +kernel
theorem dL_law_626 : decode cL_law 626 = .ok (.iload_n 3, 1) := by decide +kernel
theorem dL_law_627 : decode cL_law 627 = .ok (.iconst 2, 1) := by decide +kernel
theorem dL_law_628 : decode cL_law 628 = .ok (.iadd, 1) := by decide +kernel
theorem dL_law_629 : decode cL_law 629 = .ok (.iaload, 1) := by decide +kernel
theorem dL_law_630 : decode cL_law 630 = .ok (.invokevirtual 78, 3) := by decide +kernel
theorem dL_law_633 : decode cL_law 633 = .ok (.aload_n 2, 1) := by decide +kernel
theorem dL_law_634 : decode cL_law 634 = .ok (.aload_n 0, 1) := by decide +kernel
theorem dL_law_635 : decode cL_law 635 = .ok (.iload_n 3, 1) := by decide +kernel
theorem dL_law_636 : decode cL_law 636 = .ok (.iconst 1, 1) := by decide +kernel
theorem dL_law_637 : decode cL_law 637 = .ok (.iadd, 1) := by decide +kernel
theorem dL_law_638 : decode cL_law 638 = .ok (.iaload, 1) := by decide +kernel
theorem dL_law_639 : decode cL_law 639 = .ok (.aload_n 0, 1) := by decide +kernel
theorem dL_law_640 : decode cL_law 640 = .ok (.iload_n 3, 1) := by decide +kernel
theorem dL_law_641 : decode cL_law 641 = .ok (.iconst 2, 1) := by decide +kernel
theorem dL_law_642 : decode cL_law 642 = .ok (.iadd, 1) := by decide +kernel
theorem dL_law_643 : decode cL_law 643 = .ok (.iaload, 1) := by decide +kernel
theorem dL_law_644 : decode cL_law 644 = .ok (.invokevirtual 81, 3) := by decide +kernel
theorem dL_law_647 : decode cL_law 647 = .ok (.if_icmp .eq 435, 3) := by decide +kernel
theorem dL_law_650 : decode cL_law 650 = .ok (.iconst 0, 1) := by decide +kernel
theorem dL_law_651 : decode cL_law 651 = .ok (.ireturn, 1) := by decide +kernel
theorem dL_law_652 : decode cL_law 652 = .ok (.aload_n 1, 1) := by decide +kernel
theorem dL_law_653 : decode cL_law 653 = .ok (.aload_n 0, 1) := by decide +kernel
theorem dL_law_654 : decode cL_law 654 = .ok (.iload_n 3, 1) := by decide +kernel
theorem dL_law_655 : decode cL_law 655 = .ok (.iconst 1, 1) := by decide +kernel
theorem dL_law_656 : decode cL_law 656 = .ok (.iadd, 1) := by decide +kernel
theorem dL_law_657 : decode cL_law 657 = .ok (.iaload, 1) := by decide +kernel
theorem dL_law_658 : decode cL_law 658 = .ok (.aload_n 0, 1) := by decide +kernel
theorem dL_law_659 : decode cL_law 659 = .ok (.iload_n 3, 1) := by decide +kernel
theorem dL_law_660 : decode cL_law 660 = .ok (.iconst 2, 1) := by decide +kernel
theorem dL_law_661 : decode cL_law 661 = .ok (.iadd, 1) := by decide +kernel
theorem dL_law_662 : decode cL_law 662 = .ok (.iaload, 1) := by decide +kernel
theorem dL_law_663 : decode cL_law 663 = .ok (.aload_n 0, 1) := by decide +kernel
theorem dL_law_664 : decode cL_law 664 = .ok (.iload_n 3, 1) := by decide +kernel
theorem dL_law_665 : decode cL_law 665 = .ok (.iconst 3, 1) := by decide +kernel
theorem dL_law_666 : decode cL_law 666 = .ok (.iadd, 1) := by decide +kernel
theorem dL_law_667 : decode cL_law 667 = .ok (.iaload, 1) := by decide +kernel
theorem dL_law_668 : decode cL_law 668 = .ok (.invokevirtual 82, 3) := by decide +kernel
theorem dL_law_671 : decode cL_law 671 = .ok (.aload_n 2, 1) := by decide +kernel
theorem dL_law_672 : decode cL_law 672 = .ok (.aload_n 0, 1) := by decide +kernel
theorem dL_law_673 : decode cL_law 673 = .ok (.iload_n 3, 1) := by decide +kernel
theorem dL_law_674 : decode cL_law 674 = .ok (.iconst 1, 1) := by decide +kernel
theorem dL_law_675 : decode cL_law 675 = .ok (.iadd, 1) := by decide +kernel
theorem dL_law_676 : decode cL_law 676 = .ok (.iaload, 1) := by decide +kernel
theorem dL_law_677 : decode cL_law 677 = .ok (.aload_n 0, 1) := by decide +kernel
theorem dL_law_678 : decode cL_law 678 = .ok (.iload_n 3, 1) := by decide +kernel
theorem dL_law_679 : decode cL_law 679 = .ok (.iconst 2, 1) := by decide +kernel
theorem dL_law_680 : decode cL_law 680 = .ok (.iadd, 1) := by decide +kernel
theorem dL_law_681 : decode cL_law 681 = .ok (.iaload, 1) := by decide +kernel
theorem dL_law_682 : decode cL_law 682 = .ok (.aload_n 0, 1) := by decide +kernel
theorem dL_law_683 : decode cL_law 683 = .ok (.iload_n 3, 1) := by decide +kernel
theorem dL_law_684 : decode cL_law 684 = .ok (.iconst 3, 1) := by decide +kernel
theorem dL_law_685 : decode cL_law 685 = .ok (.iadd, 1) := by decide +kernel
theorem dL_law_686 : decode cL_law 686 = .ok (.iaload, 1) := by decide +kernel
theorem dL_law_687 : decode cL_law 687 = .ok (.invokevirtual 85, 3) := by decide +kernel
theorem dL_law_690 : decode cL_law 690 = .ok (.if_icmp .eq 392, 3) := by decide +kernel
theorem dL_law_693 : decode cL_law 693 = .ok (.iconst 0, 1) := by decide +kernel
theorem dL_law_694 : decode cL_law 694 = .ok (.ireturn, 1) := by decide +kernel
theorem dL_law_695 : decode cL_law 695 = .ok (.aload_n 1, 1) := by decide +kernel
theorem dL_law_696 : decode cL_law 696 = .ok (.aload_n 0, 1) := by decide +kernel
theorem dL_law_697 : decode cL_law 697 = .ok (.iload_n 3, 1) := by decide +kernel
theorem dL_law_698 : decode cL_law 698 = .ok (.iconst 1, 1) := by decide +kernel
theorem dL_law_699 : decode cL_law 699 = .ok (.iadd, 1) := by decide +kernel
theorem dL_law_700 : decode cL_law 700 = .ok (.iaload, 1) := by decide +kernel
theorem dL_law_701 : decode cL_law 701 = .ok (.invokevirtual 86, 3) := by decide +kernel
theorem dL_law_704 : decode cL_law 704 = .ok (.aload_n 2, 1) := by decide +kernel
theorem dL_law_705 : decode cL_law 705 = .ok (.aload_n 0, 1) := by decide +kernel
theorem dL_law_706 : decode cL_law 706 = .ok (.iload_n 3, 1) := by decide +kernel
theorem dL_law_707 : decode cL_law 707 = .ok (.iconst 1, 1) := by decide +kernel
theorem dL_law_708 : decode cL_law 708 = .ok (.iadd, 1) := by decide +kernel
theorem dL_law_709 : decode cL_law 709 = .ok (.iaload, 1) := by decide +kernel
theorem dL_law_710 : decode cL_law 710 = .ok (.invokevirtual 89, 3) := by decide +kernel
theorem dL_law_713 : decode cL_law 713 = .ok (.if_icmp .eq 369, 3) := by decide +kernel
theorem dL_law_716 : decode cL_law 716 = .ok (.iconst 0, 1) := by decide +kernel
theorem dL_law_717 : decode cL_law 717 = .ok (.ireturn, 1) := by decide +kernel
theorem dL_law_718 : decode cL_law 718 = .ok (.aload_n 1, 1) := by decide +kernel
theorem dL_law_719 : decode cL_law 719 = .ok (.aload_n 0, 1) := by decide +kernel
theorem dL_law_720 : decode cL_law 720 = .ok (.iload_n 3, 1) := by decide +kernel
theorem dL_law_721 : decode cL_law 721 = .ok (.iconst 1, 1) := by decide +kernel
theorem dL_law_722 : decode cL_law 722 = .ok (.iadd, 1) := by decide +kernel
theorem dL_law_723 : decode cL_law 723 = .ok (.iaload, 1) := by decide +kernel
theorem dL_law_724 : decode cL_law 724 = .ok (.invokevirtual 90, 3) := by decide +kernel
theorem dL_law_727 : decode cL_law 727 = .ok (.aload_n 2, 1) := by decide +kernel
theorem dL_law_728 : decode cL_law 728 = .ok (.aload_n 0, 1) := by decide +kernel
theorem dL_law_729 : decode cL_law 729 = .ok (.iload_n 3, 1) := by decide +kernel
theorem dL_law_730 : decode cL_law 730 = .ok (.iconst 1, 1) := by decide +kernel
theorem dL_law_731 : decode cL_law 731 = .ok (.iadd, 1) := by decide +kernel
theorem dL_law_732 : decode cL_law 732 = .ok (.iaload, 1) := by decide +kernel
theorem dL_law_733 : decode cL_law 733 = .ok (.invokevirtual 93, 3) := by decide +kernel
theorem dL_law_736 : decode cL_law 736 = .ok (.if_icmp .eq 346, 3) := by decide +kernel
theorem dL_law_739 : decode cL_law 739 = .ok (.iconst 0, 1) := by decide +kernel
theorem dL_law_740 : decode cL_law 740 = .ok (.ireturn, 1) := by decide +kernel
theorem dL_law_741 : decode cL_law 741 = .ok (.aload_n 1, 1) := by decide +kernel
theorem dL_law_742 : decode cL_law 742 = .ok (.aload_n 0, 1) := by decide +kernel
theorem dL_law_743 : decode cL_law 743 = .ok (.iload_n 3, 1) := by decide +kernel
theorem dL_law_744 : decode cL_law 744 = .ok (.iconst 1, 1) := by decide +kernel
theorem dL_law_745 : decode cL_law 745 = .ok (.iadd, 1) := by decide +kernel
theorem dL_law_746 : decode cL_law 746 = .ok (.iaload, 1) := by decide +kernel
theorem dL_law_747 : decode cL_law 747 = .ok (.invokevirtual 94, 3) := by decide +kernel
theorem dL_law_750 : decode cL_law 750 = .ok (.aload_n 2, 1) := by decide +kernel
theorem dL_law_751 : decode cL_law 751 = .ok (.aload_n 0, 1) := by decide +kernel
theorem dL_law_752 : decode cL_law 752 = .ok (.iload_n 3, 1) := by decide +kernel
theorem dL_law_753 : decode cL_law 753 = .ok (.iconst 1, 1) := by decide +kernel
theorem dL_law_754 : decode cL_law 754 = .ok (.iadd, 1) := by decide +kernel
theorem dL_law_755 : decode cL_law 755 = .ok (.iaload, 1) := by decide +kernel
theorem dL_law_756 : decode cL_law 756 = .ok (.invokevirtual 97, 3) := by decide +kernel
theorem dL_law_759 : decode cL_law 759 = .ok (.if_icmp .eq 323, 3) := by decide +kernel
theorem dL_law_762 : decode cL_law 762 = .ok (.iconst 0, 1) := by decide +kernel
theorem dL_law_763 : decode cL_law 763 = .ok (.ireturn, 1) := by decide +kernel
theorem dL_law_764 : decode cL_law 764 = .ok (.aload_n 1, 1) := by decide +kernel
theorem dL_law_765 : decode cL_law 765 = .ok (.aload_n 0, 1) := by decide +kernel
theorem dL_law_766 : decode cL_law 766 = .ok (.iload_n 3, 1) := by decide +kernel
theorem dL_law_767 : decode cL_law 767 = .ok (.iconst 1, 1) := by decide +kernel
theorem dL_law_768 : decode cL_law 768 = .ok (.iadd, 1) := by decide +kernel
theorem dL_law_769 : decode cL_law 769 = .ok (.iaload, 1) := by decide +kernel
theorem dL_law_770 : decode cL_law 770 = .ok (.invokevirtual 98, 3) := by decide +kernel
theorem dL_law_773 : decode cL_law 773 = .ok (.aload_n 2, 1) := by decide +kernel
theorem dL_law_774 : decode cL_law 774 = .ok (.aload_n 0, 1) := by decide +kernel
theorem dL_law_775 : decode cL_law 775 = .ok (.iload_n 3, 1) := by decide +kernel
theorem dL_law_776 : decode cL_law 776 = .ok (.iconst 1, 1) := by decide +kernel
theorem dL_law_777 : decode cL_law 777 = .ok (.iadd, 1) := by decide +kernel
theorem dL_law_778 : decode cL_law 778 = .ok (.iaload, 1) := by decide +kernel
theorem dL_law_779 : decode cL_law 779 = .ok (.invokevirtual 101, 3) := by decide +kernel
theorem dL_law_782 : decode cL_law 782 = .ok (.if_icmp .eq 300, 3) := by decide +kernel
theorem dL_law_785 : decode cL_law 785 = .ok (.iconst 0, 1) := by decide +kernel
theorem dL_law_786 : decode cL_law 786 = .ok (.ireturn, 1) := by decide +kernel
theorem dL_law_787 : decode cL_law 787 = .ok (.aload_n 1, 1) := by decide +kernel
theorem dL_law_788 : decode cL_law 788 = .ok (.aload_n 0, 1) := by decide +kernel
theorem dL_law_789 : decode cL_law 789 = .ok (.iload_n 3, 1) := by decide +kernel
theorem dL_law_790 : decode cL_law 790 = .ok (.iconst 1, 1) := by decide +kernel
theorem dL_law_791 : decode cL_law 791 = .ok (.iadd, 1) := by decide +kernel
theorem dL_law_792 : decode cL_law 792 = .ok (.iaload, 1) := by decide +kernel
theorem dL_law_793 : decode cL_law 793 = .ok (.aload_n 0, 1) := by decide +kernel
theorem dL_law_794 : decode cL_law 794 = .ok (.iload_n 3, 1) := by decide +kernel
theorem dL_law_795 : decode cL_law 795 = .ok (.iconst 2, 1) := by decide +kernel
theorem dL_law_796 : decode cL_law 796 = .ok (.iadd, 1) := by decide +kernel
theorem dL_law_797 : decode cL_law 797 = .ok (.iaload, 1) := by decide +kernel
theorem dL_law_798 : decode cL_law 798 = .ok (.aload_n 0, 1) := by decide +kernel
theorem dL_law_799 : decode cL_law 799 = .ok (.iload_n 3, 1) := by decide +kernel
theorem dL_law_800 : decode cL_law 800 = .ok (.iconst 3, 1) := by decide +kernel
theorem dL_law_801 : decode cL_law 801 = .ok (.iadd, 1) := by decide +kernel
theorem dL_law_802 : decode cL_law 802 = .ok (.iaload, 1) := by decide +kernel
theorem dL_law_803 : decode cL_law 803 = .ok (.invokevirtual 102, 3) := by decide +kernel
theorem dL_law_806 : decode cL_law 806 = .ok (.aload_n 2, 1) := by decide +kernel
theorem dL_law_807 : decode cL_law 807 = .ok (.aload_n 0, 1) := by decide +kernel
theorem dL_law_808 : decode cL_law 808 = .ok (.iload_n 3, 1) := by decide +kernel
theorem dL_law_809 : decode cL_law 809 = .ok (.iconst 1, 1) := by decide +kernel
theorem dL_law_810 : decode cL_law 810 = .ok (.iadd, 1) := by decide +kernel
theorem dL_law_811 : decode cL_law 811 = .ok (.iaload, 1) := by decide +kernel
theorem dL_law_812 : decode cL_law 812 = .ok (.aload_n 0, 1) := by decide +kernel
theorem dL_law_813 : decode cL_law 813 = .ok (.iload_n 3, 1) := by decide +kernel
theorem dL_law_814 : decode cL_law 814 = .ok (.iconst 2, 1) := by decide +kernel
theorem dL_law_815 : decode cL_law 815 = .ok (.iadd, 1) := by decide +kernel
theorem dL_law_816 : decode cL_law 816 = .ok (.iaload, 1) := by decide +kernel
theorem dL_law_817 : decode cL_law 817 = .ok (.aload_n 0, 1) := by decide +kernel
theorem dL_law_818 : decode cL_law 818 = .ok (.iload_n 3, 1) := by decide +kernel
theorem dL_law_819 : decode cL_law 819 = .ok (.iconst 3, 1) := by decide +kernel
theorem dL_law_820 : decode cL_law 820 = .ok (.iadd, 1) := by decide +kernel
theorem dL_law_821 : decode cL_law 821 = .ok (.iaload, 1) := by decide +kernel
theorem dL_law_822 : decode cL_law 822 = .ok (.invokevirtual 105, 3) := by decide +kernel
theorem dL_law_825 : decode cL_law 825 = .ok (.if_icmp .eq 257, 3) := by decide +kernel
theorem dL_law_828 : decode cL_law 828 = .ok (.iconst 0, 1) := by decide +kernel
theorem dL_law_829 : decode cL_law 829 = .ok (.ireturn, 1) := by decide +kernel
theorem dL_law_830 : decode cL_law 830 = .ok (.aload_n 1, 1) := by decide +kernel
theorem dL_law_831 : decode cL_law 831 = .ok (.aload_n 0, 1) := by decide +kernel
theorem dL_law_832 : decode cL_law 832 = .ok (.iload_n 3, 1) := by decide +kernel
theorem dL_law_833 : decode cL_law 833 = .ok (.iconst 1, 1) := by decide +kernel
theorem dL_law_834 : decode cL_law 834 = .ok (.iadd, 1) := by decide +kernel
theorem dL_law_835 : decode cL_law 835 = .ok (.iaload, 1) := by decide +kernel
theorem dL_law_836 : decode cL_law 836 = .ok (.invokevirtual 106, 3) := by decide +kernel
theorem dL_law_839 : decode cL_law 839 = .ok (.aload_n 2, 1) := by decide +kernel
theorem dL_law_840 : decode cL_law 840 = .ok (.aload_n 0, 1) := by decide +kernel
theorem dL_law_841 : decode cL_law 841 = .ok (.iload_n 3, 1) := by decide +kernel
theorem dL_law_842 : decode cL_law 842 = .ok (.iconst 1, 1) := by decide +kernel
theorem dL_law_843 : decode cL_law 843 = .ok (.iadd, 1) := by decide +kernel
theorem dL_law_844 : decode cL_law 844 = .ok (.iaload, 1) := by decide +kernel
theorem dL_law_845 : decode cL_law 845 = .ok (.invokevirtual 109, 3) := by decide +kernel
theorem dL_law_848 : decode cL_law 848 = .ok (.if_icmp .eq 234, 3) := by decide +kernel
theorem dL_law_851 : decode cL_law 851 = .ok (.iconst 0, 1) := by decide +kernel
theorem dL_law_852 : decode cL_law 852 = .ok (.ireturn, 1) := by decide +kernel
theorem dL_law_853 : decode cL_law 853 = .ok (.aload_n 1, 1) := by decide +kernel
theorem dL_law_854 : decode cL_law 854 = .ok (.aload_n 0, 1) := by decide +kernel
theorem dL_law_855 : decode cL_law 855 = .ok (.iload_n 3, 1) := by decide +kernel
theorem dL_law_856 : decode cL_law 856 = .ok (.iconst 1, 1) := by decide +kernel
theorem dL_law_857 : decode cL_law 857 = .ok (.iadd, 1) := by decide +kernel
theorem dL_law_858 : decode cL_law 858 = .ok (.iaload, 1) := by decide +kernel
theorem dL_law_859 : decode cL_law 859 = .ok (.aload_n 0, 1) := by decide +kernel
theorem dL_law_860 : decode cL_law 860 = .ok (.iload_n 3, 1) := by decide +kernel
theorem dL_law_861 : decode cL_law 861 = .ok (.iconst 2, 1) := by decide +kernel
theorem dL_law_862 : decode cL_law 862 = .ok (.iadd, 1) := by decide +kernel
theorem dL_law_863 : decode cL_law 863 = .ok (.iaload, 1) := by decide +kernel
theorem dL_law_864 : decode cL_law 864 = .ok (.aload_n 0, 1) := by decide +kernel
theorem dL_law_865 : decode cL_law 865 = .ok (.iload_n 3, 1) := by decide +kernel
theorem dL_law_866 : decode cL_law 866 = .ok (.iconst 3, 1) := by decide +kernel
theorem dL_law_867 : decode cL_law 867 = .ok (.iadd, 1) := by decide +kernel
theorem dL_law_868 : decode cL_law 868 = .ok (.iaload, 1) := by decide +kernel
theorem dL_law_869 : decode cL_law 869 = .ok (.aload_n 0, 1) := by decide +kernel
theorem dL_law_870 : decode cL_law 870 = .ok (.iload_n 3, 1) := by decide +kernel
theorem dL_law_871 : decode cL_law 871 = .ok (.iconst 4, 1) := by decide +kernel
theorem dL_law_872 : decode cL_law 872 = .ok (.iadd, 1) := by decide +kernel
theorem dL_law_873 : decode cL_law 873 = .ok (.iaload, 1) := by decide +kernel
theorem dL_law_874 : decode cL_law 874 = .ok (.invokevirtual 110, 3) := by decide +kernel
theorem dL_law_877 : decode cL_law 877 = .ok (.aload_n 2, 1) := by decide +kernel
theorem dL_law_878 : decode cL_law 878 = .ok (.aload_n 0, 1) := by decide +kernel
theorem dL_law_879 : decode cL_law 879 = .ok (.iload_n 3, 1) := by decide +kernel
theorem dL_law_880 : decode cL_law 880 = .ok (.iconst 1, 1) := by decide +kernel
theorem dL_law_881 : decode cL_law 881 = .ok (.iadd, 1) := by decide +kernel
theorem dL_law_882 : decode cL_law 882 = .ok (.iaload, 1) := by decide +kernel
theorem dL_law_883 : decode cL_law 883 = .ok (.aload_n 0, 1) := by decide +kernel
theorem dL_law_884 : decode cL_law 884 = .ok (.iload_n 3, 1) := by decide +kernel
theorem dL_law_885 : decode cL_law 885 = .ok (.iconst 2, 1) := by decide +kernel
theorem dL_law_886 : decode cL_law 886 = .ok (.iadd, 1) := by decide +kernel
theorem dL_law_887 : decode cL_law 887 = .ok (.iaload, 1) := by decide +kernel
theorem dL_law_888 : decode cL_law 888 = .ok (.aload_n 0, 1) := by decide +kernel
theorem dL_law_889 : decode cL_law 889 = .ok (.iload_n 3, 1) := by decide +kernel
theorem dL_law_890 : decode cL_law 890 = .ok (.iconst 3, 1) := by decide +kernel
theorem dL_law_891 : decode cL_law 891 = .ok (.iadd, 1) := by decide +kernel
theorem dL_law_892 : decode cL_law 892 = .ok (.iaload, 1) := by decide +kernel
theorem dL_law_893 : decode cL_law 893 = .ok (.aload_n 0, 1) := by decide +kernel
theorem dL_law_894 : decode cL_law 894 = .ok (.iload_n 3, 1) := by decide +kernel
theorem dL_law_895 : decode cL_law 895 = .ok (.iconst 4, 1) := by decide +kernel
theorem dL_law_896 : decode cL_law 896 = .ok (.iadd, 1) := by decide +kernel
theorem dL_law_897 : decode cL_law 897 = .ok (.iaload, 1) := by decide +kernel
theorem dL_law_898 : decode cL_law 898 = .ok (.invokevirtual 114, 3) := by decide +kernel
theorem dL_law_901 : decode cL_law 901 = .ok (.if_icmp .eq 181, 3) := by decide +kernel
theorem dL_law_904 : decode cL_law 904 = .ok (.iconst 0, 1) := by decide +kernel
theorem dL_law_905 : decode cL_law 905 = .ok (.ireturn, 1) := by decide +kernel
theorem dL_law_906 : decode cL_law 906 = .ok (.aload_n 1, 1) := by decide +kernel
theorem dL_law_907 : decode cL_law 907 = .ok (.aload_n 0, 1) := by decide +kernel
theorem dL_law_908 : decode cL_law 908 = .ok (.iload_n 3, 1) := by decide +kernel
theorem dL_law_909 : decode cL_law 909 = .ok (.iconst 1, 1) := by decide +kernel
theorem dL_law_910 : decode cL_law 910 = .ok (.iadd, 1) := by decide +kernel
theorem dL_law_911 : decode cL_law 911 = .ok (.iaload, 1) := by decide +kernel
theorem dL_law_912 : decode cL_law 912 = .ok (.aload_n 0, 1) := by decide +kernel
theorem dL_law_913 : decode cL_law 913 = .ok (.iload_n 3, 1) := by decide +kernel
theorem dL_law_914 : decode cL_law 914 = .ok (.iconst 2, 1) := by decide +kernel
theorem dL_law_915 : decode cL_law 915 = .ok (.iadd, 1) := by decide +kernel
theorem dL_law_916 : decode cL_law 916 = .ok (.iaload, 1) := by decide +kernel
theorem dL_law_917 : decode cL_law 917 = .ok (.aload_n 0, 1) := by decide +kernel
theorem dL_law_918 : decode cL_law 918 = .ok (.iload_n 3, 1) := by decide +kernel
theorem dL_law_919 : decode cL_law 919 = .ok (.iconst 3, 1) := by decide +kernel
theorem dL_law_920 : decode cL_law 920 = .ok (.iadd, 1) := by decide +kernel
theorem dL_law_921 : decode cL_law 921 = .ok (.iaload, 1) := by decide +kernel
theorem dL_law_922 : decode cL_law 922 = .ok (.invokevirtual 115, 3) := by decide +kernel
theorem dL_law_925 : decode cL_law 925 = .ok (.aload_n 2, 1) := by decide +kernel
theorem dL_law_926 : decode cL_law 926 = .ok (.aload_n 0, 1) := by decide +kernel
theorem dL_law_927 : decode cL_law 927 = .ok (.iload_n 3, 1) := by decide +kernel
theorem dL_law_928 : decode cL_law 928 = .ok (.iconst 1, 1) := by decide +kernel
theorem dL_law_929 : decode cL_law 929 = .ok (.iadd, 1) := by decide +kernel
theorem dL_law_930 : decode cL_law 930 = .ok (.iaload, 1) := by decide +kernel
theorem dL_law_931 : decode cL_law 931 = .ok (.aload_n 0, 1) := by decide +kernel
theorem dL_law_932 : decode cL_law 932 = .ok (.iload_n 3, 1) := by decide +kernel
theorem dL_law_933 : decode cL_law 933 = .ok (.iconst 2, 1) := by decide +kernel
theorem dL_law_934 : decode cL_law 934 = .ok (.iadd, 1) := by decide +kernel
theorem dL_law_935 : decode cL_law 935 = .ok (.iaload, 1) := by decide +kernel
theorem dL_law_936 : decode cL_law 936 = .ok (.aload_n 0, 1) := by decide +kernel
theorem dL_law_937 : decode cL_law 937 = .ok (.iload_n 3, 1) := by decide +kernel
theorem dL_law_938 : decode cL_law 938 = .ok (.iconst 3, 1) := by decide +kernel
theorem dL_law_939 : decode cL_law 939 = .ok (.iadd, 1) := by decide +kernel
theorem dL_law_940 : decode cL_law 940 = .ok (.iaload, 1) := by decide +kernel
theorem dL_law_941 : decode cL_law 941 = .ok (.invokevirtual 118, 3) := by decide +kernel
theorem dL_law_944 : decode cL_law 944 = .ok (.if_icmp .eq 138, 3) := by decide +kernel
theorem dL_law_947 : decode cL_law 947 = .ok (.iconst 0, 1) := by decide +kernel
theorem dL_law_948 : decode cL_law 948 = .ok (.ireturn, 1) := by decide +kernel
theorem dL_law_949 : decode cL_law 949 = .ok (.aload_n 1, 1) := by decide +kernel
theorem dL_law_950 : decode cL_law 950 = .ok (.aload_n 0, 1) := by decide +kernel
theorem dL_law_951 : decode cL_law 951 = .ok (.iload_n 3, 1) := by decide +kernel
theorem dL_law_952 : decode cL_law 952 = .ok (.iconst 1, 1) := by decide +kernel
theorem dL_law_953 : decode cL_law 953 = .ok (.iadd, 1) := by decide +kernel
theorem dL_law_954 : decode cL_law 954 = .ok (.iaload, 1) := by decide +kernel
theorem dL_law_955 : decode cL_law 955 = .ok (.aload_n 0, 1) := by decide +kernel
theorem dL_law_956 : decode cL_law 956 = .ok (.iload_n 3, 1) := by decide +kernel
theorem dL_law_957 : decode cL_law 957 = .ok (.iconst 2, 1) := by decide +kernel
theorem dL_law_958 : decode cL_law 958 = .ok (.iadd, 1) := by decide +kernel
theorem dL_law_959 : decode cL_law 959 = .ok (.iaload, 1) := by decide +kernel
theorem dL_law_960 : decode cL_law 960 = .ok (.aload_n 0, 1) := by decide +kernel
theorem dL_law_961 : decode cL_law 961 = .ok (.iload_n 3, 1) := by decide +kernel
theorem dL_law_962 : decode cL_law 962 = .ok (.iconst 3, 1) := by decide +kernel
theorem dL_law_963 : decode cL_law 963 = .ok (.iadd, 1) := by decide +kernel
theorem dL_law_964 : decode cL_law 964 = .ok (.iaload, 1) := by decide +kernel
theorem dL_law_965 : decode cL_law 965 = .ok (.aload_n 0, 1) := by decide +kernel
theorem dL_law_966 : decode cL_law 966 = .ok (.iload_n 3, 1) := by decide +kernel
theorem dL_law_967 : decode cL_law 967 = .ok (.iconst 4, 1) := by decide +kernel
theorem dL_law_968 : decode cL_law 968 = .ok (.iadd, 1) := by decide +kernel
theorem dL_law_969 : decode cL_law 969 = .ok (.iaload, 1) := by decide +kernel
theorem dL_law_970 : decode cL_law 970 = .ok (.aload_n 0, 1) := by decide +kernel
theorem dL_law_971 : decode cL_law 971 = .ok (.iload_n 3, 1) := by decide +kernel
theorem dL_law_972 : decode cL_law 972 = .ok (.iconst 5, 1) := by decide +kernel
theorem dL_law_973 : decode cL_law 973 = .ok (.iadd, 1) := by decide +kernel
theorem dL_law_974 : decode cL_law 974 = .ok (.iaload, 1) := by decide +kernel
theorem dL_law_975 : decode cL_law 975 = .ok (.invokevirtual 119, 3) := by decide +kernel
theorem dL_law_978 : decode cL_law 978 = .ok (.aload_n 2, 1) := by decide +kernel
theorem dL_law_979 : decode cL_law 979 = .ok (.aload_n 0, 1) := by decide +kernel
theorem dL_law_980 : decode cL_law 980 = .ok (.iload_n 3, 1) := by decide +kernel
theorem dL_law_981 : decode cL_law 981 = .ok (.iconst 1, 1) := by decide +kernel
theorem dL_law_982 : decode cL_law 982 = .ok (.iadd, 1) := by decide +kernel
theorem dL_law_983 : decode cL_law 983 = .ok (.iaload, 1) := by decide +kernel
theorem dL_law_984 : decode cL_law 984 = .ok (.aload_n 0, 1) := by decide +kernel
theorem dL_law_985 : decode cL_law 985 = .ok (.iload_n 3, 1) := by decide +kernel
theorem dL_law_986 : decode cL_law 986 = .ok (.iconst 2, 1) := by decide +kernel
theorem dL_law_987 : decode cL_law 987 = .ok (.iadd, 1) := by decide +kernel
theorem dL_law_988 : decode cL_law 988 = .ok (.iaload, 1) := by decide +kernel
theorem dL_law_989 : decode cL_law 989 = .ok (.aload_n 0, 1) := by decide +kernel
theorem dL_law_990 : decode cL_law 990 = .ok (.iload_n 3, 1) := by decide +kernel
theorem dL_law_991 : decode cL_law 991 = .ok (.iconst 3, 1) := by decide +kernel
theorem dL_law_992 : decode cL_law 992 = .ok (.iadd, 1) := by decide +kernel
theorem dL_law_993 : decode cL_law 993 = .ok (.iaload, 1) := by decide +kernel
theorem dL_law_994 : decode cL_law 994 = .ok (.aload_n 0, 1) := by decide +kernel
theorem dL_law_995 : decode cL_law 995 = .ok (.iload_n 3, 1) := by decide +kernel
theorem dL_law_996 : decode cL_law 996 = .ok (.iconst 4, 1) := by decide +kernel
theorem dL_law_997 : decode cL_law 997 = .ok (.iadd, 1) := by decide +kernel
theorem dL_law_998 : decode cL_law 998 = .ok (.iaload, 1) := by decide +kernel
theorem dL_law_999 : decode cL_law 999 = .ok (.aload_n 0, 1) := by decide +kernel
theorem dL_law_1000 : decode cL_law 1000 = .ok (.iload_n 3, 1) := by decide +kernel
theorem dL_law_1001 : decode cL_law 1001 = .ok (.iconst 5, 1) := by decide +kernel
theorem dL_law_1002 : decode cL_law 1002 = .ok (.iadd, 1) := by decide +kernel
theorem dL_law_1003 : decode cL_law 1003 = .ok (.iaload, 1) := by decide +kernel
theorem dL_law_1004 : decode cL_law 1004 = .ok (.invokevirtual 122, 3) := by decide +kernel
theorem dL_law_1007 : decode cL_law 1007 = .ok (.if_icmp .eq 75, 3) := by decide +kernel
theorem dL_law_1010 : decode cL_law 1010 = .ok (.iconst 0, 1) := by decide +kernel
theorem dL_law_1011 : decode cL_law 1011 = .ok (.ireturn, 1) := by decide +kernel
theorem dL_law_1012 : decode cL_law 1012 = .ok (.aload_n 1, 1) := by decide +kernel
theorem dL_law_1013 : decode cL_law 1013 = .ok (.aload_n 0, 1) := by decide +kernel
theorem dL_law_1014 : decode cL_law 1014 = .ok (.iload_n 3, 1) := by decide +kernel
theorem dL_law_1015 : decode cL_law 1015 = .ok (.iconst 1, 1) := by decide +kernel
theorem dL_law_1016 : decode cL_law 1016 = .ok (.iadd, 1) := by decide +kernel
theorem dL_law_1017 : decode cL_law 1017 = .ok (.iaload, 1) := by decide +kernel
theorem dL_law_1018 : decode cL_law 1018 = .ok (.aload_n 0, 1) := by decide +kernel
theorem dL_law_1019 : decode cL_law 1019 = .ok (.iload_n 3, 1) := by decide +kernel
theorem dL_law_1020 : decode cL_law 1020 = .ok (.iconst 2, 1) := by decide +kernel
theorem dL_law_1021 : decode cL_law 1021 = .ok (.iadd, 1) := by decide +kernel
theorem dL_law_1022 : decode cL_law 1022 = .ok (.iaload, 1) := by decide +kernel
theorem dL_law_1023 : decode cL_law 1023 = .ok (.invokevirtual 123, 3) := by decide +kernel
theorem dL_law_1026 : decode cL_law 1026 = .ok (.aload_n 2, 1) := by decide +kernel
theorem dL_law_1027 : decode cL_law 1027 = .ok (.aload_n 0, 1) := by decide +kernel
theorem dL_law_1028 : decode cL_law 1028 = .ok (.iload_n 3, 1) := by decide +kernel
theorem dL_law_1029 : decode cL_law 1029 = .ok (.iconst 1, 1) := by decide +kernel
theorem dL_law_1030 : decode cL_law 1030 = .ok (.iadd, 1) := by decide +kernel
theorem dL_law_1031 : decode cL_law 1031 = .ok (.iaload, 1) := by decide +kernel
theorem dL_law_1032 : decode cL_law 1032 = .ok (.aload_n 0, 1) := by decide +kernel
theorem dL_law_1033 : decode cL_law 1033 = .ok (.iload_n 3, 1) := by decide +kernel
theorem dL_law_1034 : decode cL_law 1034 = .ok (.iconst 2, 1) := by decide +kernel
theorem dL_law_1035 : decode cL_law 1035 = .ok (.iadd, 1) := by decide +kernel
theorem dL_law_1036 : decode cL_law 1036 = .ok (.iaload, 1) := by decide +kernel
theorem dL_law_1037 : decode cL_law 1037 = .ok (.invokevirtual 126, 3) := by decide +kernel
theorem dL_law_1040 : decode cL_law 1040 = .ok (.if_icmp .eq 42, 3) := by decide +kernel
theorem dL_law_1043 : decode cL_law 1043 = .ok (.iconst 0, 1) := by decide +kernel
theorem dL_law_1044 : decode cL_law 1044 = .ok (.ireturn, 1) := by decide +kernel
theorem dL_law_1045 : decode cL_law 1045 = .ok (.aload_n 1, 1) := by decide +kernel
theorem dL_law_1046 : decode cL_law 1046 = .ok (.aload_n 0, 1) := by decide +kernel
theorem dL_law_1047 : decode cL_law 1047 = .ok (.iload_n 3, 1) := by decide +kernel
theorem dL_law_1048 : decode cL_law 1048 = .ok (.iconst 1, 1) := by decide +kernel
theorem dL_law_1049 : decode cL_law 1049 = .ok (.iadd, 1) := by decide +kernel
theorem dL_law_1050 : decode cL_law 1050 = .ok (.iaload, 1) := by decide +kernel
theorem dL_law_1051 : decode cL_law 1051 = .ok (.invokevirtual 127, 3) := by decide +kernel
theorem dL_law_1054 : decode cL_law 1054 = .ok (.aload_n 2, 1) := by decide +kernel
theorem dL_law_1055 : decode cL_law 1055 = .ok (.aload_n 0, 1) := by decide +kernel
theorem dL_law_1056 : decode cL_law 1056 = .ok (.iload_n 3, 1) := by decide +kernel
theorem dL_law_1057 : decode cL_law 1057 = .ok (.iconst 1, 1) := by decide +kernel
theorem dL_law_1058 : decode cL_law 1058 = .ok (.iadd, 1) := by decide +kernel
theorem dL_law_1059 : decode cL_law 1059 = .ok (.iaload, 1) := by decide +kernel
theorem dL_law_1060 : decode cL_law 1060 = .ok (.invokevirtual 130, 3) := by decide +kernel
theorem dL_law_1063 : decode cL_law 1063 = .ok (.if_icmp .eq 19, 3) := by decide +kernel
theorem dL_law_1066 : decode cL_law 1066 = .ok (.iconst 0, 1) := by decide +kernel
theorem dL_law_1067 : decode cL_law 1067 = .ok (.ireturn, 1) := by decide +kernel
theorem dL_law_1068 : decode cL_law 1068 = .ok (.aload_n 1, 1) := by decide +kernel
theorem dL_law_1069 : decode cL_law 1069 = .ok (.invokevirtual 131, 3) := by decide +kernel
theorem dL_law_1072 : decode cL_law 1072 = .ok (.aload_n 2, 1) := by decide +kernel
theorem dL_law_1073 : decode cL_law 1073 = .ok (.invokevirtual 135, 3) := by decide +kernel
theorem dL_law_1076 : decode cL_law 1076 = .ok (.lcmp, 1) := by decide +kernel
theorem dL_law_1077 : decode cL_law 1077 = .ok (.ifCond .eq 5, 3) := by decide +kernel
theorem dL_law_1080 : decode cL_law 1080 = .ok (.iconst 0, 1) := by decide +kernel
theorem dL_law_1081 : decode cL_law 1081 = .ok (.ireturn, 1) := by decide +kernel
theorem dL_law_1082 : decode cL_law 1082 = .ok (.iinc 3 6, 3) := by decide +kernel
theorem dL_law_1085 : decode cL_law 1085 = .ok (.goto (-1067), 3) := by decide +kernel
theorem dL_law_1088 : decode cL_law 1088 = .ok (.iconst 1, 1) := by decide +kernel
theorem dL_law_1089 : decode cL_law 1089 = .ok (.ireturn, 1) := by decide +kernel
theorem dX0_init_0 : decode cX0_init 0 = .ok (.aload_n 0, 1) := by decide +kernel
theorem dX0_init_1 : decode cX0_init 1 = .ok (.invokespecial 3, 3) := by decide +kernel
theorem dX0_init_4 : decode cX0_init 4 = .ok (.aload_n 0, 1) := by decide +kernel
theorem dX0_init_5 : decode cX0_init 5 = .ok (.sipush 216, 3) := by decide +kernel
theorem dX0_init_8 : decode cX0_init 8 = .ok (.newarray .int, 2) := by decide +kernel
theorem dX0_init_10 : decode cX0_init 10 = .ok (.putfield 9, 3) := by decide +kernel
theorem dX0_init_13 : decode cX0_init 13 = .ok (.aload_n 0, 1) := by decide +kernel
theorem dX0_init_14 : decode cX0_init 14 = .ok (.iconst 0, 1) := by decide +kernel
theorem dX0_init_15 : decode cX0_init 15 = .ok (.putfield 15, 3) := by decide +kernel
theorem dX0_init_18 : decode cX0_init 18 = .ok (.return_, 1) := by decide +kernel
theorem dX0_has_0 : decode cX0_has 0 = .ok (.iload_n 1, 1) := by decide +kernel
theorem dX0_has_1 : decode cX0_has 1 = .ok (.ifCond .lt 15, 3) := by decide +kernel
theorem dX0_has_4 : decode cX0_has 4 = .ok (.iload_n 1, 1) := by decide +kernel
theorem dX0_has_5 : decode cX0_has 5 = .ok (.aload_n 0, 1) := by decide +kernel
theorem dX0_has_6 : decode cX0_has 6 = .ok (.getfield 15, 3) := by decide +kernel
theorem dX0_has_9 : decode cX0_has 9 = .ok (.if_icmp .ge 7, 3) := by decide +kernel
theorem dX0_has_12 : decode cX0_has 12 = .ok (.iconst 1, 1) := by decide +kernel
theorem dX0_has_13 : decode cX0_has 13 = .ok (.goto 4, 3) := by decide +kernel
theorem dX0_has_16 : decode cX0_has 16 = .ok (.iconst 0, 1) := by decide +kernel
theorem dX0_has_17 : decode cX0_has 17 = .ok (.ireturn, 1) := by decide +kernel
theorem dX0_appendWrite_0 : decode cX0_appendWrite 0 = .ok (.aload_n 0, 1) := by decide +kernel
theorem dX0_appendWrite_1 : decode cX0_appendWrite 1 = .ok (.getfield 9, 3) := by decide +kernel
theorem dX0_appendWrite_4 : decode cX0_appendWrite 4 = .ok (.aload_n 0, 1) := by decide +kernel
theorem dX0_appendWrite_5 : decode cX0_appendWrite 5 = .ok (.getfield 15, 3) := by decide +kernel
theorem dX0_appendWrite_8 : decode cX0_appendWrite 8 = .ok (.bipush 79, 2) := by decide +kernel
theorem dX0_appendWrite_10 : decode cX0_appendWrite 10 = .ok (.iastore, 1) := by decide +kernel
theorem dX0_appendWrite_11 : decode cX0_appendWrite 11 = .ok (.aload_n 0, 1) := by decide +kernel
theorem dX0_appendWrite_12 : decode cX0_appendWrite 12 = .ok (.getfield 9, 3) := by decide +kernel
theorem dX0_appendWrite_15 : decode cX0_appendWrite 15 = .ok (.aload_n 0, 1) := by decide +kernel
theorem dX0_appendWrite_16 : decode cX0_appendWrite 16 = .ok (.getfield 15, 3) := by decide +kernel
theorem dX0_appendWrite_19 : decode cX0_appendWrite 19 = .ok (.iconst 1, 1) := by decide +kernel
theorem dX0_appendWrite_20 : decode cX0_appendWrite 20 = .ok (.iadd, 1) := by decide +kernel
theorem dX0_appendWrite_21 : decode cX0_appendWrite 21 = .ok (.iload_n 1, 1) := by decide +kernel
theorem dX0_appendWrite_22 : decode cX0_appendWrite 22 = .ok (.iastore, 1) := by decide +kernel
theorem dX0_appendWrite_23 : decode cX0_appendWrite 23 = .ok (.aload_n 0, 1) := by decide +kernel
theorem dX0_appendWrite_24 : decode cX0_appendWrite 24 = .ok (.getfield 9, 3) := by decide +kernel
theorem dX0_appendWrite_27 : decode cX0_appendWrite 27 = .ok (.aload_n 0, 1) := by decide +kernel
theorem dX0_appendWrite_28 : decode cX0_appendWrite 28 = .ok (.getfield 15, 3) := by decide +kernel
theorem dX0_appendWrite_31 : decode cX0_appendWrite 31 = .ok (.iconst 2, 1) := by decide +kernel
theorem dX0_appendWrite_32 : decode cX0_appendWrite 32 = .ok (.iadd, 1) := by decide +kernel
theorem dX0_appendWrite_33 : decode cX0_appendWrite 33 = .ok (.iload_n 2, 1) := by decide +kernel
theorem dX0_appendWrite_34 : decode cX0_appendWrite 34 = .ok (.iastore, 1) := by decide +kernel
theorem dX0_appendWrite_35 : decode cX0_appendWrite 35 = .ok (.aload_n 0, 1) := by decide +kernel
theorem dX0_appendWrite_36 : decode cX0_appendWrite 36 = .ok (.aload_n 0, 1) := by decide +kernel
theorem dX0_appendWrite_37 : decode cX0_appendWrite 37 = .ok (.getfield 15, 3) := by decide +kernel
theorem dX0_appendWrite_40 : decode cX0_appendWrite 40 = .ok (.iconst 3, 1) := by decide +kernel
theorem dX0_appendWrite_41 : decode cX0_appendWrite 41 = .ok (.iadd, 1) := by decide +kernel
theorem dX0_appendWrite_42 : decode cX0_appendWrite 42 = .ok (.iload_n 3, 1) := by decide +kernel
theorem dX0_appendWrite_43 : decode cX0_appendWrite 43 = .ok (.invokevirtual 19, 3) := by decide +kernel
theorem dX0_appendWrite_46 : decode cX0_appendWrite 46 = .ok (.aload_n 0, 1) := by decide +kernel
theorem dX0_appendWrite_47 : decode cX0_appendWrite 47 = .ok (.dup, 1) := by decide +kernel
theorem dX0_appendWrite_48 : decode cX0_appendWrite 48 = .ok (.getfield 15, 3) := by decide +kernel
theorem dX0_appendWrite_51 : decode cX0_appendWrite 51 = .ok (.iconst 5, 1) := by decide +kernel
theorem dX0_appendWrite_52 : decode cX0_appendWrite 52 = .ok (.iadd, 1) := by decide +kernel
theorem dX0_appendWrite_53 : decode cX0_appendWrite 53 = .ok (.putfield 15, 3) := by decide +kernel
theorem dX0_appendWrite_56 : decode cX0_appendWrite 56 = .ok (.return_, 1) := by decide +kernel
theorem dX0_appendClosing_0 : decode cX0_appendClosing 0 = .ok (.aload_n 0, 1) := by decide +kernel
theorem dX0_appendClosing_1 : decode cX0_appendClosing 1 = .ok (.getfield 9, 3) := by decide +kernel
theorem dX0_appendClosing_4 : decode cX0_appendClosing 4 = .ok (.aload_n 0, 1) := by decide +kernel
theorem dX0_appendClosing_5 : decode cX0_appendClosing 5 = .ok (.getfield 15, 3) := by decide +kernel
theorem dX0_appendClosing_8 : decode cX0_appendClosing 8 = .ok (.iconst 0, 1) := by decide +kernel
theorem dX0_appendClosing_9 : decode cX0_appendClosing 9 = .ok (.iastore, 1) := by decide +kernel
theorem dX0_appendClosing_10 : decode cX0_appendClosing 10 = .ok (.aload_n 0, 1) := by decide +kernel
theorem dX0_appendClosing_11 : decode cX0_appendClosing 11 = .ok (.getfield 9, 3) := by decide +kernel
theorem dX0_appendClosing_14 : decode cX0_appendClosing 14 = .ok (.aload_n 0, 1) := by decide +kernel
theorem dX0_appendClosing_15 : decode cX0_appendClosing 15 = .ok (.getfield 15, 3) := by decide +kernel
theorem dX0_appendClosing_18 : decode cX0_appendClosing 18 = .ok (.iconst 1, 1) := by decide +kernel
theorem dX0_appendClosing_19 : decode cX0_appendClosing 19 = .ok (.iadd, 1) := by decide +kernel
theorem dX0_appendClosing_20 : decode cX0_appendClosing 20 = .ok (.iload_n 1, 1) := by decide +kernel
theorem dX0_appendClosing_21 : decode cX0_appendClosing 21 = .ok (.iastore, 1) := by decide +kernel
theorem dX0_appendClosing_22 : decode cX0_appendClosing 22 = .ok (.aload_n 0, 1) := by decide +kernel
theorem dX0_appendClosing_23 : decode cX0_appendClosing 23 = .ok (.dup, 1) := by decide +kernel
theorem dX0_appendClosing_24 : decode cX0_appendClosing 24 = .ok (.getfield 15, 3) := by decide +kernel
theorem dX0_appendClosing_27 : decode cX0_appendClosing 27 = .ok (.iconst 2, 1) := by decide +kernel
theorem dX0_appendClosing_28 : decode cX0_appendClosing 28 = .ok (.iadd, 1) := by decide +kernel
theorem dX0_appendClosing_29 : decode cX0_appendClosing 29 = .ok (.putfield 15, 3) := by decide +kernel
theorem dX0_appendClosing_32 : decode cX0_appendClosing 32 = .ok (.return_, 1) := by decide +kernel
theorem dX0_dropWrite_0 : decode cX0_dropWrite 0 = .ok (.aload_n 0, 1) := by decide +kernel
theorem dX0_dropWrite_1 : decode cX0_dropWrite 1 = .ok (.dup, 1) := by decide +kernel
theorem dX0_dropWrite_2 : decode cX0_dropWrite 2 = .ok (.getfield 15, 3) := by decide +kernel
theorem dX0_dropWrite_5 : decode cX0_dropWrite 5 = .ok (.iconst 5, 1) := by decide +kernel
theorem dX0_dropWrite_6 : decode cX0_dropWrite 6 = .ok (.isub, 1) := by decide +kernel
theorem dX0_dropWrite_7 : decode cX0_dropWrite 7 = .ok (.putfield 15, 3) := by decide +kernel
theorem dX0_dropWrite_10 : decode cX0_dropWrite 10 = .ok (.return_, 1) := by decide +kernel
theorem dX0_layValue_0 : decode cX0_layValue 0 = .ok (.aload_n 0, 1) := by decide +kernel
theorem dX0_layValue_1 : decode cX0_layValue 1 = .ok (.getfield 9, 3) := by decide +kernel
theorem dX0_layValue_4 : decode cX0_layValue 4 = .ok (.iload_n 1, 1) := by decide +kernel
theorem dX0_layValue_5 : decode cX0_layValue 5 = .ok (.iload_n 2, 1) := by decide +kernel
theorem dX0_layValue_6 : decode cX0_layValue 6 = .ok (.sipush 256, 3) := by decide +kernel
theorem dX0_layValue_9 : decode cX0_layValue 9 = .ok (.idiv, 1) := by decide +kernel
theorem dX0_layValue_10 : decode cX0_layValue 10 = .ok (.iastore, 1) := by decide +kernel
theorem dX0_layValue_11 : decode cX0_layValue 11 = .ok (.aload_n 0, 1) := by decide +kernel
theorem dX0_layValue_12 : decode cX0_layValue 12 = .ok (.getfield 9, 3) := by decide +kernel
theorem dX0_layValue_15 : decode cX0_layValue 15 = .ok (.iload_n 1, 1) := by decide +kernel
theorem dX0_layValue_16 : decode cX0_layValue 16 = .ok (.iconst 1, 1) := by decide +kernel
theorem dX0_layValue_17 : decode cX0_layValue 17 = .ok (.iadd, 1) := by decide +kernel
theorem dX0_layValue_18 : decode cX0_layValue 18 = .ok (.iload_n 2, 1) := by decide +kernel
theorem dX0_layValue_19 : decode cX0_layValue 19 = .ok (.sipush 256, 3) := by decide +kernel
theorem dX0_layValue_22 : decode cX0_layValue 22 = .ok (.irem, 1) := by decide +kernel
theorem dX0_layValue_23 : decode cX0_layValue 23 = .ok (.iastore, 1) := by decide +kernel
theorem dX0_layValue_24 : decode cX0_layValue 24 = .ok (.return_, 1) := by decide +kernel
theorem dX0_lengthWithin_0 : decode cX0_lengthWithin 0 = .ok (.iconst 0, 1) := by decide +kernel
theorem dX0_lengthWithin_1 : decode cX0_lengthWithin 1 = .ok (.iload_n 2, 1) := by decide +kernel
theorem dX0_lengthWithin_2 : decode cX0_lengthWithin 2 = .ok (.aload_n 0, 1) := by decide +kernel
theorem dX0_lengthWithin_3 : decode cX0_lengthWithin 3 = .ok (.getfield 15, 3) := by decide +kernel
theorem dX0_lengthWithin_6 : decode cX0_lengthWithin 6 = .ok (.invokestatic 23, 3) := by decide +kernel
theorem dX0_lengthWithin_9 : decode cX0_lengthWithin 9 = .ok (.iload_n 1, 1) := by decide +kernel
theorem dX0_lengthWithin_10 : decode cX0_lengthWithin 10 = .ok (.isub, 1) := by decide +kernel
theorem dX0_lengthWithin_11 : decode cX0_lengthWithin 11 = .ok (.invokestatic 29, 3) := by decide +kernel
theorem dX0_lengthWithin_14 : decode cX0_lengthWithin 14 = .ok (.ireturn, 1) := by decide +kernel
theorem dX0_numberOver_0 : decode cX0_numberOver 0 = .ok (.iload_n 1, 1) := by decide +kernel
theorem dX0_numberOver_1 : decode cX0_numberOver 1 = .ok (.istore 4, 2) := by decide +kernel
theorem dX0_numberOver_3 : decode cX0_numberOver 3 = .ok (.iload_n 3, 1) := by decide +kernel
theorem dX0_numberOver_4 : decode cX0_numberOver 4 = .ok (.aload_n 0, 1) := by decide +kernel
theorem dX0_numberOver_5 : decode cX0_numberOver 5 = .ok (.getfield 15, 3) := by decide +kernel
theorem dX0_numberOver_8 : decode cX0_numberOver 8 = .ok (.invokestatic 23, 3) := by decide +kernel
theorem dX0_numberOver_11 : decode cX0_numberOver 11 = .ok (.istore 5, 2) := by decide +kernel
theorem dX0_numberOver_13 : decode cX0_numberOver 13 = .ok (.iload_n 2, 1) := by decide +kernel
theorem dX0_numberOver_14 : decode cX0_numberOver 14 = .ok (.istore 6, 2) := by decide +kernel
theorem dX0_numberOver_16 : decode cX0_numberOver 16 = .ok (.iload 6, 2) := by decide +kernel
theorem dX0_numberOver_18 : decode cX0_numberOver 18 = .ok (.iload 5, 2) := by decide +kernel
theorem dX0_numberOver_20 : decode cX0_numberOver 20 = .ok (.if_icmp .ge 24, 3) := by decide +kernel
theorem dX0_numberOver_23 : decode cX0_numberOver 23 = .ok (.bipush 31, 2) := by decide +kernel
theorem dX0_numberOver_25 : decode cX0_numberOver 25 = .ok (.iload 4, 2) := by decide +kernel
theorem dX0_numberOver_27 : decode cX0_numberOver 27 = .ok (.imul, 1) := by decide +kernel
theorem dX0_numberOver_28 : decode cX0_numberOver 28 = .ok (.aload_n 0, 1) := by decide +kernel
theorem dX0_numberOver_29 : decode cX0_numberOver 29 = .ok (.getfield 9, 3) := by decide +kernel
theorem dX0_numberOver_32 : decode cX0_numberOver 32 = .ok (.iload 6, 2) := by decide +kernel
theorem dX0_numberOver_34 : decode cX0_numberOver 34 = .ok (.iaload, 1) := by decide +kernel
theorem dX0_numberOver_35 : decode cX0_numberOver 35 = .ok (.iadd, 1) := by decide +kernel
theorem dX0_numberOver_36 : decode cX0_numberOver 36 = .ok (.istore 4, 2) := by decide +kernel
theorem dX0_numberOver_38 : decode cX0_numberOver 38 = .ok (.iinc 6 1, 3) := by decide +kernel
theorem dX0_numberOver_41 : decode cX0_numberOver 41 = .ok (.goto (-25), 3) := by decide +kernel
theorem dX0_numberOver_44 : decode cX0_numberOver 44 = .ok (.iload 4, 2) := by decide +kernel
theorem dX0_numberOver_46 : decode cX0_numberOver 46 = .ok (.ireturn, 1) := by decide +kernel
theorem dX1_init_0 : decode cX1_init 0 = .ok (.aload_n 0, 1) := by decide +kernel
theorem dX1_init_1 : decode cX1_init 1 = .ok (.invokespecial 3, 3) := by decide +kernel
theorem dX1_init_4 : decode cX1_init 4 = .ok (.aload_n 0, 1) := by decide +kernel
theorem dX1_init_5 : decode cX1_init 5 = .ok (.bipush 40, 2) := by decide +kernel
theorem dX1_init_7 : decode cX1_init 7 = .ok (.newarray .boolean, 2) := by decide +kernel
theorem dX1_init_9 : decode cX1_init 9 = .ok (.putfield 9, 3) := by decide +kernel
theorem dX1_init_12 : decode cX1_init 12 = .ok (.aload_n 0, 1) := by decide +kernel
theorem dX1_init_13 : decode cX1_init 13 = .ok (.sipush 160, 3) := by decide +kernel
theorem dX1_init_16 : decode cX1_init 16 = .ok (.newarray .int, 2) := by decide +kernel
theorem dX1_init_18 : decode cX1_init 18 = .ok (.putfield 15, 3) := by decide +kernel
theorem dX1_init_21 : decode cX1_init 21 = .ok (.aload_n 0, 1) := by decide +kernel
theorem dX1_init_22 : decode cX1_init 22 = .ok (.bipush 40, 2) := by decide +kernel
theorem dX1_init_24 : decode cX1_init 24 = .ok (.newarray .int, 2) := by decide +kernel
theorem dX1_init_26 : decode cX1_init 26 = .ok (.putfield 19, 3) := by decide +kernel
theorem dX1_init_29 : decode cX1_init 29 = .ok (.aload_n 0, 1) := by decide +kernel
theorem dX1_init_30 : decode cX1_init 30 = .ok (.bipush 40, 2) := by decide +kernel
theorem dX1_init_32 : decode cX1_init 32 = .ok (.newarray .int, 2) := by decide +kernel
theorem dX1_init_34 : decode cX1_init 34 = .ok (.putfield 22, 3) := by decide +kernel
theorem dX1_init_37 : decode cX1_init 37 = .ok (.aload_n 0, 1) := by decide +kernel
theorem dX1_init_38 : decode cX1_init 38 = .ok (.bipush 40, 2) := by decide +kernel
theorem dX1_init_40 : decode cX1_init 40 = .ok (.newarray .int, 2) := by decide +kernel
theorem dX1_init_42 : decode cX1_init 42 = .ok (.putfield 25, 3) := by decide +kernel
theorem dX1_init_45 : decode cX1_init 45 = .ok (.aload_n 0, 1) := by decide +kernel
theorem dX1_init_46 : decode cX1_init 46 = .ok (.aload_n 1, 1) := by decide +kernel
theorem dX1_init_47 : decode cX1_init 47 = .ok (.putfield 28, 3) := by decide +kernel
theorem dX1_init_50 : decode cX1_init 50 = .ok (.aload_n 0, 1) := by decide +kernel
theorem dX1_init_51 : decode cX1_init 51 = .ok (.aload_n 2, 1) := by decide +kernel
theorem dX1_init_52 : decode cX1_init 52 = .ok (.putfield 32, 3) := by decide +kernel
theorem dX1_init_55 : decode cX1_init 55 = .ok (.return_, 1) := by decide +kernel
theorem dX1_forget_0 : decode cX1_forget 0 = .ok (.aload_n 0, 1) := by decide +kernel
theorem dX1_forget_1 : decode cX1_forget 1 = .ok (.getfield 9, 3) := by decide +kernel
theorem dX1_forget_4 : decode cX1_forget 4 = .ok (.iload_n 1, 1) := by decide +kernel
theorem dX1_forget_5 : decode cX1_forget 5 = .ok (.iconst 0, 1) := by decide +kernel
theorem dX1_forget_6 : decode cX1_forget 6 = .ok (.bastore, 1) := by decide +kernel
theorem dX1_forget_7 : decode cX1_forget 7 = .ok (.return_, 1) := by decide +kernel
theorem dX1_keepEdges_0 : decode cX1_keepEdges 0 = .ok (.aload_n 0, 1) := by decide +kernel
theorem dX1_keepEdges_1 : decode cX1_keepEdges 1 = .ok (.getfield 9, 3) := by decide +kernel
theorem dX1_keepEdges_4 : decode cX1_keepEdges 4 = .ok (.iload_n 1, 1) := by decide +kernel
theorem dX1_keepEdges_5 : decode cX1_keepEdges 5 = .ok (.iconst 1, 1) := by decide +kernel
theorem dX1_keepEdges_6 : decode cX1_keepEdges 6 = .ok (.bastore, 1) := by decide +kernel
theorem dX1_keepEdges_7 : decode cX1_keepEdges 7 = .ok (.aload_n 0, 1) := by decide +kernel
theorem dX1_keepEdges_8 : decode cX1_keepEdges 8 = .ok (.getfield 15, 3) := by decide +kernel
theorem dX1_keepEdges_11 : decode cX1_keepEdges 11 = .ok (.iconst 4, 1) := by decide +kernel
theorem dX1_keepEdges_12 : decode cX1_keepEdges 12 = .ok (.iload_n 1, 1) := by decide +kernel
theorem dX1_keepEdges_13 : decode cX1_keepEdges 13 = .ok (.imul, 1) := by decide +kernel
theorem dX1_keepEdges_14 : decode cX1_keepEdges 14 = .ok (.iload_n 2, 1) := by decide +kernel
theorem dX1_keepEdges_15 : decode cX1_keepEdges 15 = .ok (.iastore, 1) := by decide +kernel
theorem dX1_keepEdges_16 : decode cX1_keepEdges 16 = .ok (.aload_n 0, 1) := by decide +kernel
theorem dX1_keepEdges_17 : decode cX1_keepEdges 17 = .ok (.getfield 15, 3) := by decide +kernel
theorem dX1_keepEdges_20 : decode cX1_keepEdges 20 = .ok (.iconst 4, 1) := by decide +kernel
theorem dX1_keepEdges_21 : decode cX1_keepEdges 21 = .ok (.iload_n 1, 1) := by decide +kernel
theorem dX1_keepEdges_22 : decode cX1_keepEdges 22 = .ok (.imul, 1) := by decide +kernel
theorem dX1_keepEdges_23 : decode cX1_keepEdges 23 = .ok (.iconst 1, 1) := by decide +kernel
theorem dX1_keepEdges_24 : decode cX1_keepEdges 24 = .ok (.iadd, 1) := by decide +kernel
theorem dX1_keepEdges_25 : decode cX1_keepEdges 25 = .ok (.iload_n 3, 1) := by decide +kernel
theorem dX1_keepEdges_26 : decode cX1_keepEdges 26 = .ok (.iastore, 1) := by decide +kernel
theorem dX1_keepEdges_27 : decode cX1_keepEdges 27 = .ok (.aload_n 0, 1) := by decide +kernel
theorem dX1_keepEdges_28 : decode cX1_keepEdges 28 = .ok (.getfield 15, 3) := by decide +kernel
theorem dX1_keepEdges_31 : decode cX1_keepEdges 31 = .ok (.iconst 4, 1) := by decide +kernel
theorem dX1_keepEdges_32 : decode cX1_keepEdges 32 = .ok (.iload_n 1, 1) := by decide +kernel
theorem dX1_keepEdges_33 : decode cX1_keepEdges 33 = .ok (.imul, 1) := by decide +kernel
theorem dX1_keepEdges_34 : decode cX1_keepEdges 34 = .ok (.iconst 2, 1) := by decide +kernel
theorem dX1_keepEdges_35 : decode cX1_keepEdges 35 = .ok (.iadd, 1) := by decide +kernel
theorem dX1_keepEdges_36 : decode cX1_keepEdges 36 = .ok (.iload 4, 2) := by decide +kernel
theorem dX1_keepEdges_38 : decode cX1_keepEdges 38 = .ok (.iastore, 1) := by decide +kernel
theorem dX1_keepEdges_39 : decode cX1_keepEdges 39 = .ok (.aload_n 0, 1) := by decide +kernel
theorem dX1_keepEdges_40 : decode cX1_keepEdges 40 = .ok (.getfield 15, 3) := by decide +kernel
theorem dX1_keepEdges_43 : decode cX1_keepEdges 43 = .ok (.iconst 4, 1) := by decide +kernel
theorem dX1_keepEdges_44 : decode cX1_keepEdges 44 = .ok (.iload_n 1, 1) := by decide +kernel
theorem dX1_keepEdges_45 : decode cX1_keepEdges 45 = .ok (.imul, 1) := by decide +kernel
theorem dX1_keepEdges_46 : decode cX1_keepEdges 46 = .ok (.iconst 3, 1) := by decide +kernel
theorem dX1_keepEdges_47 : decode cX1_keepEdges 47 = .ok (.iadd, 1) := by decide +kernel
theorem dX1_keepEdges_48 : decode cX1_keepEdges 48 = .ok (.iload 5, 2) := by decide +kernel
theorem dX1_keepEdges_50 : decode cX1_keepEdges 50 = .ok (.iastore, 1) := by decide +kernel
theorem dX1_keepEdges_51 : decode cX1_keepEdges 51 = .ok (.return_, 1) := by decide +kernel
theorem dX1_edge_0 : decode cX1_edge 0 = .ok (.aload_n 0, 1) := by decide +kernel
theorem dX1_edge_1 : decode cX1_edge 1 = .ok (.getfield 9, 3) := by decide +kernel
theorem dX1_edge_4 : decode cX1_edge 4 = .ok (.iload_n 1, 1) := by decide +kernel
theorem dX1_edge_5 : decode cX1_edge 5 = .ok (.baload, 1) := by decide +kernel
theorem dX1_edge_6 : decode cX1_edge 6 = .ok (.ifCond .eq 16, 3) := by decide +kernel
theorem dX1_edge_9 : decode cX1_edge 9 = .ok (.aload_n 0, 1) := by decide +kernel
theorem dX1_edge_10 : decode cX1_edge 10 = .ok (.getfield 15, 3) := by decide +kernel
theorem dX1_edge_13 : decode cX1_edge 13 = .ok (.iconst 4, 1) := by decide +kernel
theorem dX1_edge_14 : decode cX1_edge 14 = .ok (.iload_n 1, 1) := by decide +kernel
theorem dX1_edge_15 : decode cX1_edge 15 = .ok (.imul, 1) := by decide +kernel
theorem dX1_edge_16 : decode cX1_edge 16 = .ok (.iload_n 2, 1) := by decide +kernel
theorem dX1_edge_17 : decode cX1_edge 17 = .ok (.iadd, 1) := by decide +kernel
theorem dX1_edge_18 : decode cX1_edge 18 = .ok (.iaload, 1) := by decide +kernel
theorem dX1_edge_19 : decode cX1_edge 19 = .ok (.goto 9, 3) := by decide +kernel
theorem dX1_edge_22 : decode cX1_edge 22 = .ok (.aload_n 0, 1) := by decide +kernel
theorem dX1_edge_23 : decode cX1_edge 23 = .ok (.iload_n 1, 1) := by decide +kernel
theorem dX1_edge_24 : decode cX1_edge 24 = .ok (.iload_n 2, 1) := by decide +kernel
theorem dX1_edge_25 : decode cX1_edge 25 = .ok (.invokevirtual 36, 3) := by decide +kernel
theorem dX1_edge_28 : decode cX1_edge 28 = .ok (.ireturn, 1) := by decide +kernel
theorem dX1_bytesWithin_0 : decode cX1_bytesWithin 0 = .ok (.aload_n 0, 1) := by decide +kernel
theorem dX1_bytesWithin_1 : decode cX1_bytesWithin 1 = .ok (.getfield 32, 3) := by decide +kernel
theorem dX1_bytesWithin_4 : decode cX1_bytesWithin 4 = .ok (.aload_n 0, 1) := by decide +kernel
theorem dX1_bytesWithin_5 : decode cX1_bytesWithin 5 = .ok (.iload_n 1, 1) := by decide +kernel
theorem dX1_bytesWithin_6 : decode cX1_bytesWithin 6 = .ok (.iconst 0, 1) := by decide +kernel
theorem dX1_bytesWithin_7 : decode cX1_bytesWithin 7 = .ok (.invokevirtual 40, 3) := by decide +kernel
theorem dX1_bytesWithin_10 : decode cX1_bytesWithin 10 = .ok (.aload_n 0, 1) := by decide +kernel
theorem dX1_bytesWithin_11 : decode cX1_bytesWithin 11 = .ok (.iload_n 1, 1) := by decide +kernel
theorem dX1_bytesWithin_12 : decode cX1_bytesWithin 12 = .ok (.iconst 1, 1) := by decide +kernel
theorem dX1_bytesWithin_13 : decode cX1_bytesWithin 13 = .ok (.invokevirtual 40, 3) := by decide +kernel
theorem dX1_bytesWithin_16 : decode cX1_bytesWithin 16 = .ok (.invokevirtual 43, 3) := by decide +kernel
theorem dX1_bytesWithin_19 : decode cX1_bytesWithin 19 = .ok (.aload_n 0, 1) := by decide +kernel
theorem dX1_bytesWithin_20 : decode cX1_bytesWithin 20 = .ok (.getfield 32, 3) := by decide +kernel
theorem dX1_bytesWithin_23 : decode cX1_bytesWithin 23 = .ok (.aload_n 0, 1) := by decide +kernel
theorem dX1_bytesWithin_24 : decode cX1_bytesWithin 24 = .ok (.iload_n 1, 1) := by decide +kernel
theorem dX1_bytesWithin_25 : decode cX1_bytesWithin 25 = .ok (.iconst 2, 1) := by decide +kernel
theorem dX1_bytesWithin_26 : decode cX1_bytesWithin 26 = .ok (.invokevirtual 40, 3) := by decide +kernel
theorem dX1_bytesWithin_29 : decode cX1_bytesWithin 29 = .ok (.aload_n 0, 1) := by decide +kernel
theorem dX1_bytesWithin_30 : decode cX1_bytesWithin 30 = .ok (.iload_n 1, 1) := by decide +kernel
theorem dX1_bytesWithin_31 : decode cX1_bytesWithin 31 = .ok (.iconst 3, 1) := by decide +kernel
theorem dX1_bytesWithin_32 : decode cX1_bytesWithin 32 = .ok (.invokevirtual 40, 3) := by decide +kernel
theorem dX1_bytesWithin_35 : decode cX1_bytesWithin 35 = .ok (.invokevirtual 43, 3) := by decide +kernel
theorem dX1_bytesWithin_38 : decode cX1_bytesWithin 38 = .ok (.iadd, 1) := by decide +kernel
theorem dX1_bytesWithin_39 : decode cX1_bytesWithin 39 = .ok (.ireturn, 1) := by decide +kernel
theorem dX1_keepNumbers_0 : decode cX1_keepNumbers 0 = .ok (.aload_n 0, 1) := by decide +kernel
theorem dX1_keepNumbers_1 : decode cX1_keepNumbers 1 = .ok (.getfield 28, 3) := by decide +kernel
theorem dX1_keepNumbers_4 : decode cX1_keepNumbers 4 = .ok (.getfield 48, 3) := by decide +kernel
theorem dX1_keepNumbers_7 : decode cX1_keepNumbers 7 = .ok (.iload_n 1, 1) := by decide +kernel
theorem dX1_keepNumbers_8 : decode cX1_keepNumbers 8 = .ok (.iaload, 1) := by decide +kernel
theorem dX1_keepNumbers_9 : decode cX1_keepNumbers 9 = .ok (.istore_n 2, 1) := by decide +kernel
theorem dX1_keepNumbers_10 : decode cX1_keepNumbers 10 = .ok (.iload_n 2, 1) := by decide +kernel
theorem dX1_keepNumbers_11 : decode cX1_keepNumbers 11 = .ok (.aload_n 0, 1) := by decide +kernel
theorem dX1_keepNumbers_12 : decode cX1_keepNumbers 12 = .ok (.getfield 28, 3) := by decide +kernel
theorem dX1_keepNumbers_15 : decode cX1_keepNumbers 15 = .ok (.iload_n 1, 1) := by decide +kernel
theorem dX1_keepNumbers_16 : decode cX1_keepNumbers 16 = .ok (.invokevirtual 53, 3) := by decide +kernel
theorem dX1_keepNumbers_19 : decode cX1_keepNumbers 19 = .ok (.if_icmp .ge 31, 3) := by decide +kernel
theorem dX1_keepNumbers_22 : decode cX1_keepNumbers 22 = .ok (.aload_n 0, 1) := by decide +kernel
theorem dX1_keepNumbers_23 : decode cX1_keepNumbers 23 = .ok (.getfield 28, 3) := by decide +kernel
theorem dX1_keepNumbers_26 : decode cX1_keepNumbers 26 = .ok (.iload_n 2, 1) := by decide +kernel
theorem dX1_keepNumbers_27 : decode cX1_keepNumbers 27 = .ok (.invokevirtual 57, 3) := by decide +kernel
theorem dX1_keepNumbers_30 : decode cX1_keepNumbers 30 = .ok (.ifCond .eq 14, 3) := by decide +kernel
theorem dX1_keepNumbers_33 : decode cX1_keepNumbers 33 = .ok (.aload_n 0, 1) := by decide +kernel
theorem dX1_keepNumbers_34 : decode cX1_keepNumbers 34 = .ok (.getfield 19, 3) := by decide +kernel
theorem dX1_keepNumbers_37 : decode cX1_keepNumbers 37 = .ok (.iload_n 2, 1) := by decide +kernel
theorem dX1_keepNumbers_38 : decode cX1_keepNumbers 38 = .ok (.aload_n 0, 1) := by decide +kernel
theorem dX1_keepNumbers_39 : decode cX1_keepNumbers 39 = .ok (.iload_n 2, 1) := by decide +kernel
theorem dX1_keepNumbers_40 : decode cX1_keepNumbers 40 = .ok (.invokevirtual 61, 3) := by decide +kernel
theorem dX1_keepNumbers_43 : decode cX1_keepNumbers 43 = .ok (.iastore, 1) := by decide +kernel
theorem dX1_keepNumbers_44 : decode cX1_keepNumbers 44 = .ok (.iinc 2 1, 3) := by decide +kernel
theorem dX1_keepNumbers_47 : decode cX1_keepNumbers 47 = .ok (.goto (-37), 3) := by decide +kernel
theorem dX1_keepNumbers_50 : decode cX1_keepNumbers 50 = .ok (.return_, 1) := by decide +kernel
theorem dX1_reckonAll_0 : decode cX1_reckonAll 0 = .ok (.iconst 0, 1) := by decide +kernel
theorem dX1_reckonAll_1 : decode cX1_reckonAll 1 = .ok (.istore_n 1, 1) := by decide +kernel
theorem dX1_reckonAll_2 : decode cX1_reckonAll 2 = .ok (.iload_n 1, 1) := by decide +kernel
theorem dX1_reckonAll_3 : decode cX1_reckonAll 3 = .ok (.aload_n 0, 1) := by decide +kernel
theorem dX1_reckonAll_4 : decode cX1_reckonAll 4 = .ok (.getfield 28, 3) := by decide +kernel
theorem dX1_reckonAll_7 : decode cX1_reckonAll 7 = .ok (.getfield 64, 3) := by decide +kernel
theorem dX1_reckonAll_10 : decode cX1_reckonAll 10 = .ok (.if_icmp .ge 64, 3) := by decide +kernel
theorem dX1_reckonAll_13 : decode cX1_reckonAll 13 = .ok (.aload_n 0, 1) := by decide +kernel
theorem dX1_reckonAll_14 : decode cX1_reckonAll 14 = .ok (.getfield 28, 3) := by decide +kernel
theorem dX1_reckonAll_17 : decode cX1_reckonAll 17 = .ok (.iload_n 1, 1) := by decide +kernel
theorem dX1_reckonAll_18 : decode cX1_reckonAll 18 = .ok (.invokevirtual 68, 3) := by decide +kernel
theorem dX1_reckonAll_21 : decode cX1_reckonAll 21 = .ok (.ifCond .eq 47, 3) := by decide +kernel
theorem dX1_reckonAll_24 : decode cX1_reckonAll 24 = .ok (.aload_n 0, 1) := by decide +kernel
theorem dX1_reckonAll_25 : decode cX1_reckonAll 25 = .ok (.getfield 22, 3) := by decide +kernel
theorem dX1_reckonAll_28 : decode cX1_reckonAll 28 = .ok (.iload_n 1, 1) := by decide +kernel
theorem dX1_reckonAll_29 : decode cX1_reckonAll 29 = .ok (.aload_n 0, 1) := by decide +kernel
theorem dX1_reckonAll_30 : decode cX1_reckonAll 30 = .ok (.iload_n 1, 1) := by decide +kernel
theorem dX1_reckonAll_31 : decode cX1_reckonAll 31 = .ok (.invokevirtual 61, 3) := by decide +kernel
theorem dX1_reckonAll_34 : decode cX1_reckonAll 34 = .ok (.iastore, 1) := by decide +kernel
theorem dX1_reckonAll_35 : decode cX1_reckonAll 35 = .ok (.aload_n 0, 1) := by decide +kernel
theorem dX1_reckonAll_36 : decode cX1_reckonAll 36 = .ok (.getfield 25, 3) := by decide +kernel
theorem dX1_reckonAll_39 : decode cX1_reckonAll 39 = .ok (.iload_n 1, 1) := by decide +kernel
theorem dX1_reckonAll_40 : decode cX1_reckonAll 40 = .ok (.aload_n 0, 1) := by decide +kernel
theorem dX1_reckonAll_41 : decode cX1_reckonAll 41 = .ok (.iload_n 1, 1) := by decide +kernel
theorem dX1_reckonAll_42 : decode cX1_reckonAll 42 = .ok (.invokevirtual 71, 3) := by decide +kernel
theorem dX1_reckonAll_45 : decode cX1_reckonAll 45 = .ok (.aload_n 0, 1) := by decide +kernel
theorem dX1_reckonAll_46 : decode cX1_reckonAll 46 = .ok (.getfield 22, 3) := by decide +kernel
theorem dX1_reckonAll_49 : decode cX1_reckonAll 49 = .ok (.iload_n 1, 1) := by decide +kernel
theorem dX1_reckonAll_50 : decode cX1_reckonAll 50 = .ok (.iaload, 1) := by decide +kernel
theorem dX1_reckonAll_51 : decode cX1_reckonAll 51 = .ok (.aload_n 0, 1) := by decide +kernel
theorem dX1_reckonAll_52 : decode cX1_reckonAll 52 = .ok (.getfield 19, 3) := by decide +kernel
theorem dX1_reckonAll_55 : decode cX1_reckonAll 55 = .ok (.iload_n 1, 1) := by decide +kernel
theorem dX1_reckonAll_56 : decode cX1_reckonAll 56 = .ok (.iaload, 1) := by decide +kernel
theorem dX1_reckonAll_57 : decode cX1_reckonAll 57 = .ok (.if_icmp .ne 7, 3) := by decide +kernel
theorem dX1_reckonAll_60 : decode cX1_reckonAll 60 = .ok (.iconst 0, 1) := by decide +kernel
theorem dX1_reckonAll_61 : decode cX1_reckonAll 61 = .ok (.goto 5, 3) := by decide +kernel
theorem dX1_reckonAll_64 : decode cX1_reckonAll 64 = .ok (.bipush 8, 2) := by decide +kernel
theorem dX1_reckonAll_66 : decode cX1_reckonAll 66 = .ok (.ior, 1) := by decide +kernel
theorem dX1_reckonAll_67 : decode cX1_reckonAll 67 = .ok (.iastore, 1) := by decide +kernel
theorem dX1_reckonAll_68 : decode cX1_reckonAll 68 = .ok (.iinc 1 1, 3) := by decide +kernel
theorem dX1_reckonAll_71 : decode cX1_reckonAll 71 = .ok (.goto (-69), 3) := by decide +kernel
theorem dX1_reckonAll_74 : decode cX1_reckonAll 74 = .ok (.return_, 1) := by decide +kernel
theorem dX1_numberNow_0 : decode cX1_numberNow 0 = .ok (.aload_n 0, 1) := by decide +kernel
theorem dX1_numberNow_1 : decode cX1_numberNow 1 = .ok (.getfield 32, 3) := by decide +kernel
theorem dX1_numberNow_4 : decode cX1_numberNow 4 = .ok (.bipush 7, 2) := by decide +kernel
theorem dX1_numberNow_6 : decode cX1_numberNow 6 = .ok (.aload_n 0, 1) := by decide +kernel
theorem dX1_numberNow_7 : decode cX1_numberNow 7 = .ok (.iload_n 1, 1) := by decide +kernel
theorem dX1_numberNow_8 : decode cX1_numberNow 8 = .ok (.iconst 0, 1) := by decide +kernel
theorem dX1_numberNow_9 : decode cX1_numberNow 9 = .ok (.invokevirtual 40, 3) := by decide +kernel
theorem dX1_numberNow_12 : decode cX1_numberNow 12 = .ok (.aload_n 0, 1) := by decide +kernel
theorem dX1_numberNow_13 : decode cX1_numberNow 13 = .ok (.iload_n 1, 1) := by decide +kernel
theorem dX1_numberNow_14 : decode cX1_numberNow 14 = .ok (.iconst 1, 1) := by decide +kernel
theorem dX1_numberNow_15 : decode cX1_numberNow 15 = .ok (.invokevirtual 40, 3) := by decide +kernel
theorem dX1_numberNow_18 : decode cX1_numberNow 18 = .ok (.invokevirtual 74, 3) := by decide +kernel
theorem dX1_numberNow_21 : decode cX1_numberNow 21 = .ok (.istore_n 2, 1) := by decide +kernel
theorem dX1_numberNow_22 : decode cX1_numberNow 22 = .ok (.aload_n 0, 1) := by decide +kernel
theorem dX1_numberNow_23 : decode cX1_numberNow 23 = .ok (.getfield 32, 3) := by decide +kernel
theorem dX1_numberNow_26 : decode cX1_numberNow 26 = .ok (.iload_n 2, 1) := by decide +kernel
theorem dX1_numberNow_27 : decode cX1_numberNow 27 = .ok (.aload_n 0, 1) := by decide +kernel
theorem dX1_numberNow_28 : decode cX1_numberNow 28 = .ok (.iload_n 1, 1) := by decide +kernel
theorem dX1_numberNow_29 : decode cX1_numberNow 29 = .ok (.iconst 2, 1) := by decide +kernel
theorem dX1_numberNow_30 : decode cX1_numberNow 30 = .ok (.invokevirtual 40, 3) := by decide +kernel
theorem dX1_numberNow_33 : decode cX1_numberNow 33 = .ok (.aload_n 0, 1) := by decide +kernel
theorem dX1_numberNow_34 : decode cX1_numberNow 34 = .ok (.iload_n 1, 1) := by decide +kernel
theorem dX1_numberNow_35 : decode cX1_numberNow 35 = .ok (.iconst 3, 1) := by decide +kernel
theorem dX1_numberNow_36 : decode cX1_numberNow 36 = .ok (.invokevirtual 40, 3) := by decide +kernel
theorem dX1_numberNow_39 : decode cX1_numberNow 39 = .ok (.invokevirtual 74, 3) := by decide +kernel
theorem dX1_numberNow_42 : decode cX1_numberNow 42 = .ok (.ireturn, 1) := by decide +kernel
theorem dX1_flawsOfEdges_0 : decode cX1_flawsOfEdges 0 = .ok (.aload_n 0, 1) := by decide +kernel
theorem dX1_flawsOfEdges_1 : decode cX1_flawsOfEdges 1 = .ok (.iload_n 1, 1) := by decide +kernel
theorem dX1_flawsOfEdges_2 : decode cX1_flawsOfEdges 2 = .ok (.iconst 0, 1) := by decide +kernel
theorem dX1_flawsOfEdges_3 : decode cX1_flawsOfEdges 3 = .ok (.invokevirtual 40, 3) := by decide +kernel
theorem dX1_flawsOfEdges_6 : decode cX1_flawsOfEdges 6 = .ok (.aload_n 0, 1) := by decide +kernel
theorem dX1_flawsOfEdges_7 : decode cX1_flawsOfEdges 7 = .ok (.iload_n 1, 1) := by decide +kernel
theorem dX1_flawsOfEdges_8 : decode cX1_flawsOfEdges 8 = .ok (.iconst 0, 1) := by decide +kernel
theorem dX1_flawsOfEdges_9 : decode cX1_flawsOfEdges 9 = .ok (.invokevirtual 36, 3) := by decide +kernel
theorem dX1_flawsOfEdges_12 : decode cX1_flawsOfEdges 12 = .ok (.if_icmp .ne 7, 3) := by decide +kernel
theorem dX1_flawsOfEdges_15 : decode cX1_flawsOfEdges 15 = .ok (.iconst 0, 1) := by decide +kernel
theorem dX1_flawsOfEdges_16 : decode cX1_flawsOfEdges 16 = .ok (.goto 4, 3) := by decide +kernel
theorem dX1_flawsOfEdges_19 : decode cX1_flawsOfEdges 19 = .ok (.iconst 1, 1) := by decide +kernel
theorem dX1_flawsOfEdges_20 : decode cX1_flawsOfEdges 20 = .ok (.istore_n 2, 1) := by decide +kernel
theorem dX1_flawsOfEdges_21 : decode cX1_flawsOfEdges 21 = .ok (.aload_n 0, 1) := by decide +kernel
theorem dX1_flawsOfEdges_22 : decode cX1_flawsOfEdges 22 = .ok (.iload_n 1, 1) := by decide +kernel
theorem dX1_flawsOfEdges_23 : decode cX1_flawsOfEdges 23 = .ok (.iconst 1, 1) := by decide +kernel
theorem dX1_flawsOfEdges_24 : decode cX1_flawsOfEdges 24 = .ok (.invokevirtual 40, 3) := by decide +kernel
theorem dX1_flawsOfEdges_27 : decode cX1_flawsOfEdges 27 = .ok (.aload_n 0, 1) := by decide +kernel
theorem dX1_flawsOfEdges_28 : decode cX1_flawsOfEdges 28 = .ok (.iload_n 1, 1) := by decide +kernel
theorem dX1_flawsOfEdges_29 : decode cX1_flawsOfEdges 29 = .ok (.iconst 1, 1) := by decide +kernel
theorem dX1_flawsOfEdges_30 : decode cX1_flawsOfEdges 30 = .ok (.invokevirtual 36, 3) := by decide +kernel
theorem dX1_flawsOfEdges_33 : decode cX1_flawsOfEdges 33 = .ok (.if_icmp .ne 18, 3) := by decide +kernel
theorem dX1_flawsOfEdges_36 : decode cX1_flawsOfEdges 36 = .ok (.aload_n 0, 1) := by decide +kernel
theorem dX1_flawsOfEdges_37 : decode cX1_flawsOfEdges 37 = .ok (.iload_n 1, 1) := by decide +kernel
theorem dX1_flawsOfEdges_38 : decode cX1_flawsOfEdges 38 = .ok (.iconst 2, 1) := by decide +kernel
theorem dX1_flawsOfEdges_39 : decode cX1_flawsOfEdges 39 = .ok (.invokevirtual 40, 3) := by decide +kernel
theorem dX1_flawsOfEdges_42 : decode cX1_flawsOfEdges 42 = .ok (.aload_n 0, 1) := by decide +kernel
theorem dX1_flawsOfEdges_43 : decode cX1_flawsOfEdges 43 = .ok (.iload_n 1, 1) := by decide +kernel
theorem dX1_flawsOfEdges_44 : decode cX1_flawsOfEdges 44 = .ok (.iconst 2, 1) := by decide +kernel
theorem dX1_flawsOfEdges_45 : decode cX1_flawsOfEdges 45 = .ok (.invokevirtual 36, 3) := by decide +kernel
theorem dX1_flawsOfEdges_48 : decode cX1_flawsOfEdges 48 = .ok (.if_icmp .eq 7, 3) := by decide +kernel
theorem dX1_flawsOfEdges_51 : decode cX1_flawsOfEdges 51 = .ok (.iload_n 2, 1) := by decide +kernel
theorem dX1_flawsOfEdges_52 : decode cX1_flawsOfEdges 52 = .ok (.iconst 2, 1) := by decide +kernel
theorem dX1_flawsOfEdges_53 : decode cX1_flawsOfEdges 53 = .ok (.ior, 1) := by decide +kernel
theorem dX1_flawsOfEdges_54 : decode cX1_flawsOfEdges 54 = .ok (.istore_n 2, 1) := by decide +kernel
theorem dX1_flawsOfEdges_55 : decode cX1_flawsOfEdges 55 = .ok (.aload_n 0, 1) := by decide +kernel
theorem dX1_flawsOfEdges_56 : decode cX1_flawsOfEdges 56 = .ok (.iload_n 1, 1) := by decide +kernel
theorem dX1_flawsOfEdges_57 : decode cX1_flawsOfEdges 57 = .ok (.iconst 3, 1) := by decide +kernel
theorem dX1_flawsOfEdges_58 : decode cX1_flawsOfEdges 58 = .ok (.invokevirtual 40, 3) := by decide +kernel
theorem dX1_flawsOfEdges_61 : decode cX1_flawsOfEdges 61 = .ok (.aload_n 0, 1) := by decide +kernel
theorem dX1_flawsOfEdges_62 : decode cX1_flawsOfEdges 62 = .ok (.iload_n 1, 1) := by decide +kernel
theorem dX1_flawsOfEdges_63 : decode cX1_flawsOfEdges 63 = .ok (.iconst 3, 1) := by decide +kernel
theorem dX1_flawsOfEdges_64 : decode cX1_flawsOfEdges 64 = .ok (.invokevirtual 36, 3) := by decide +kernel
theorem dX1_flawsOfEdges_67 : decode cX1_flawsOfEdges 67 = .ok (.if_icmp .eq 7, 3) := by decide +kernel
theorem dX1_flawsOfEdges_70 : decode cX1_flawsOfEdges 70 = .ok (.iload_n 2, 1) := by decide +kernel
theorem dX1_flawsOfEdges_71 : decode cX1_flawsOfEdges 71 = .ok (.iconst 4, 1) := by decide +kernel
theorem dX1_flawsOfEdges_72 : decode cX1_flawsOfEdges 72 = .ok (.ior, 1) := by decide +kernel
theorem dX1_flawsOfEdges_73 : decode cX1_flawsOfEdges 73 = .ok (.istore_n 2, 1) := by decide +kernel
theorem dX1_flawsOfEdges_74 : decode cX1_flawsOfEdges 74 = .ok (.iload_n 2, 1) := by decide +kernel
theorem dX1_flawsOfEdges_75 : decode cX1_flawsOfEdges 75 = .ok (.ireturn, 1) := by decide +kernel
theorem dX1_edgeIfUntold_0 : decode cX1_edgeIfUntold 0 = .ok (.iload_n 2, 1) := by decide +kernel
theorem dX1_edgeIfUntold_1 : decode cX1_edgeIfUntold 1 = .ok (.tableswitch 49 0 2 #[27, 29, 38], 27) := by decide +kernel
theorem dX1_edgeIfUntold_28 : decode cX1_edgeIfUntold 28 = .ok (.iconst 0, 1) := by decide +kernel
theorem dX1_edgeIfUntold_29 : decode cX1_edgeIfUntold 29 = .ok (.ireturn, 1) := by decide +kernel
theorem dX1_edgeIfUntold_30 : decode cX1_edgeIfUntold 30 = .ok (.aload_n 0, 1) := by decide +kernel
theorem dX1_edgeIfUntold_31 : decode cX1_edgeIfUntold 31 = .ok (.getfield 28, 3) := by decide +kernel
theorem dX1_edgeIfUntold_34 : decode cX1_edgeIfUntold 34 = .ok (.iload_n 1, 1) := by decide +kernel
theorem dX1_edgeIfUntold_35 : decode cX1_edgeIfUntold 35 = .ok (.invokevirtual 78, 3) := by decide +kernel
theorem dX1_edgeIfUntold_38 : decode cX1_edgeIfUntold 38 = .ok (.ireturn, 1) := by decide +kernel
theorem dX1_edgeIfUntold_39 : decode cX1_edgeIfUntold 39 = .ok (.aload_n 0, 1) := by decide +kernel
theorem dX1_edgeIfUntold_40 : decode cX1_edgeIfUntold 40 = .ok (.getfield 28, 3) := by decide +kernel
theorem dX1_edgeIfUntold_43 : decode cX1_edgeIfUntold 43 = .ok (.iload_n 1, 1) := by decide +kernel
theorem dX1_edgeIfUntold_44 : decode cX1_edgeIfUntold 44 = .ok (.invokevirtual 78, 3) := by decide +kernel
theorem dX1_edgeIfUntold_47 : decode cX1_edgeIfUntold 47 = .ok (.iconst 5, 1) := by decide +kernel
theorem dX1_edgeIfUntold_48 : decode cX1_edgeIfUntold 48 = .ok (.iadd, 1) := by decide +kernel
theorem dX1_edgeIfUntold_49 : decode cX1_edgeIfUntold 49 = .ok (.ireturn, 1) := by decide +kernel
theorem dX1_edgeIfUntold_50 : decode cX1_edgeIfUntold 50 = .ok (.aload_n 0, 1) := by decide +kernel
theorem dX1_edgeIfUntold_51 : decode cX1_edgeIfUntold 51 = .ok (.getfield 28, 3) := by decide +kernel
theorem dX1_edgeIfUntold_54 : decode cX1_edgeIfUntold 54 = .ok (.aload_n 0, 1) := by decide +kernel
theorem dX1_edgeIfUntold_55 : decode cX1_edgeIfUntold 55 = .ok (.getfield 28, 3) := by decide +kernel
theorem dX1_edgeIfUntold_58 : decode cX1_edgeIfUntold 58 = .ok (.getfield 81, 3) := by decide +kernel
theorem dX1_edgeIfUntold_61 : decode cX1_edgeIfUntold 61 = .ok (.iload_n 1, 1) := by decide +kernel
theorem dX1_edgeIfUntold_62 : decode cX1_edgeIfUntold 62 = .ok (.iaload, 1) := by decide +kernel
theorem dX1_edgeIfUntold_63 : decode cX1_edgeIfUntold 63 = .ok (.invokevirtual 84, 3) := by decide +kernel
theorem dX1_edgeIfUntold_66 : decode cX1_edgeIfUntold 66 = .ok (.ireturn, 1) := by decide +kernel
theorem dX2_init_0 : decode cX2_init 0 = .ok (.aload_n 0, 1) := by decide +kernel
theorem dX2_init_1 : decode cX2_init 1 = .ok (.invokespecial 3, 3) := by decide +kernel
theorem dX2_init_4 : decode cX2_init 4 = .ok (.aload_n 0, 1) := by decide +kernel
theorem dX2_init_5 : decode cX2_init 5 = .ok (.sipush 128, 3) := by decide +kernel
theorem dX2_init_8 : decode cX2_init 8 = .ok (.newarray .int, 2) := by decide +kernel
theorem dX2_init_10 : decode cX2_init 10 = .ok (.putfield 9, 3) := by decide +kernel
theorem dX2_init_13 : decode cX2_init 13 = .ok (.aload_n 0, 1) := by decide +kernel
theorem dX2_init_14 : decode cX2_init 14 = .ok (.bipush 8, 2) := by decide +kernel
theorem dX2_init_16 : decode cX2_init 16 = .ok (.newarray .int, 2) := by decide +kernel
theorem dX2_init_18 : decode cX2_init 18 = .ok (.putfield 15, 3) := by decide +kernel
theorem dX2_init_21 : decode cX2_init 21 = .ok (.aload_n 0, 1) := by decide +kernel
theorem dX2_init_22 : decode cX2_init 22 = .ok (.bipush 8, 2) := by decide +kernel
theorem dX2_init_24 : decode cX2_init 24 = .ok (.newarray .int, 2) := by decide +kernel
theorem dX2_init_26 : decode cX2_init 26 = .ok (.putfield 18, 3) := by decide +kernel
theorem dX2_init_29 : decode cX2_init 29 = .ok (.aload_n 0, 1) := by decide +kernel
theorem dX2_init_30 : decode cX2_init 30 = .ok (.sipush 128, 3) := by decide +kernel
theorem dX2_init_33 : decode cX2_init 33 = .ok (.newarray .int, 2) := by decide +kernel
theorem dX2_init_35 : decode cX2_init 35 = .ok (.putfield 21, 3) := by decide +kernel
theorem dX2_init_38 : decode cX2_init 38 = .ok (.aload_n 0, 1) := by decide +kernel
theorem dX2_init_39 : decode cX2_init 39 = .ok (.sipush 128, 3) := by decide +kernel
theorem dX2_init_42 : decode cX2_init 42 = .ok (.newarray .int, 2) := by decide +kernel
theorem dX2_init_44 : decode cX2_init 44 = .ok (.putfield 24, 3) := by decide +kernel
theorem dX2_init_47 : decode cX2_init 47 = .ok (.aload_n 0, 1) := by decide +kernel
theorem dX2_init_48 : decode cX2_init 48 = .ok (.bipush 8, 2) := by decide +kernel
theorem dX2_init_50 : decode cX2_init 50 = .ok (.newarray .int, 2) := by decide +kernel
theorem dX2_init_52 : decode cX2_init 52 = .ok (.putfield 27, 3) := by decide +kernel
theorem dX2_init_55 : decode cX2_init 55 = .ok (.aload_n 0, 1) := by decide +kernel
theorem dX2_init_56 : decode cX2_init 56 = .ok (.bipush 8, 2) := by decide +kernel
theorem dX2_init_58 : decode cX2_init 58 = .ok (.newarray .int, 2) := by decide +kernel
theorem dX2_init_60 : decode cX2_init 60 = .ok (.putfield 30, 3) := by decide +kernel
theorem dX2_init_63 : decode cX2_init 63 = .ok (.aload_n 0, 1) := by decide +kernel
theorem dX2_init_64 : decode cX2_init 64 = .ok (.bipush 8, 2) := by decide +kernel
theorem dX2_init_66 : decode cX2_init 66 = .ok (.newarray .int, 2) := by decide +kernel
theorem dX2_init_68 : decode cX2_init 68 = .ok (.putfield 33, 3) := by decide +kernel
theorem dX2_init_71 : decode cX2_init 71 = .ok (.aload_n 0, 1) := by decide +kernel
theorem dX2_init_72 : decode cX2_init 72 = .ok (.iconst 0, 1) := by decide +kernel
theorem dX2_init_73 : decode cX2_init 73 = .ok (.putfield 36, 3) := by decide +kernel
theorem dX2_init_76 : decode cX2_init 76 = .ok (.aload_n 0, 1) := by decide +kernel
theorem dX2_init_77 : decode cX2_init 77 = .ok (.aload_n 1, 1) := by decide +kernel
theorem dX2_init_78 : decode cX2_init 78 = .ok (.putfield 40, 3) := by decide +kernel
theorem dX2_init_81 : decode cX2_init 81 = .ok (.return_, 1) := by decide +kernel
theorem dX2_retell_0 : decode cX2_retell 0 = .ok (.aload_n 0, 1) := by decide +kernel
theorem dX2_retell_1 : decode cX2_retell 1 = .ok (.iconst 0, 1) := by decide +kernel
theorem dX2_retell_2 : decode cX2_retell 2 = .ok (.putfield 36, 3) := by decide +kernel
theorem dX2_retell_5 : decode cX2_retell 5 = .ok (.iconst 0, 1) := by decide +kernel
theorem dX2_retell_6 : decode cX2_retell 6 = .ok (.istore_n 2, 1) := by decide +kernel
theorem dX2_retell_7 : decode cX2_retell 7 = .ok (.iload_n 2, 1) := by decide +kernel
theorem dX2_retell_8 : decode cX2_retell 8 = .ok (.aload_n 0, 1) := by decide +kernel
theorem dX2_retell_9 : decode cX2_retell 9 = .ok (.getfield 40, 3) := by decide +kernel
theorem dX2_retell_12 : decode cX2_retell 12 = .ok (.getfield 44, 3) := by decide +kernel
theorem dX2_retell_15 : decode cX2_retell 15 = .ok (.if_icmp .gt 46, 3) := by decide +kernel
theorem dX2_retell_18 : decode cX2_retell 18 = .ok (.aload_n 0, 1) := by decide +kernel
theorem dX2_retell_19 : decode cX2_retell 19 = .ok (.iload_n 2, 1) := by decide +kernel
theorem dX2_retell_20 : decode cX2_retell 20 = .ok (.invokevirtual 49, 3) := by decide +kernel
theorem dX2_retell_23 : decode cX2_retell 23 = .ok (.aload_n 0, 1) := by decide +kernel
theorem dX2_retell_24 : decode cX2_retell 24 = .ok (.iload_n 2, 1) := by decide +kernel
theorem dX2_retell_25 : decode cX2_retell 25 = .ok (.iload_n 1, 1) := by decide +kernel
theorem dX2_retell_26 : decode cX2_retell 26 = .ok (.invokevirtual 53, 3) := by decide +kernel
theorem dX2_retell_29 : decode cX2_retell 29 = .ok (.aload_n 0, 1) := by decide +kernel
theorem dX2_retell_30 : decode cX2_retell 30 = .ok (.getfield 15, 3) := by decide +kernel
theorem dX2_retell_33 : decode cX2_retell 33 = .ok (.iload_n 2, 1) := by decide +kernel
theorem dX2_retell_34 : decode cX2_retell 34 = .ok (.aload_n 0, 1) := by decide +kernel
theorem dX2_retell_35 : decode cX2_retell 35 = .ok (.iload_n 2, 1) := by decide +kernel
theorem dX2_retell_36 : decode cX2_retell 36 = .ok (.invokevirtual 57, 3) := by decide +kernel
theorem dX2_retell_39 : decode cX2_retell 39 = .ok (.iastore, 1) := by decide +kernel
theorem dX2_retell_40 : decode cX2_retell 40 = .ok (.aload_n 0, 1) := by decide +kernel
theorem dX2_retell_41 : decode cX2_retell 41 = .ok (.iload_n 2, 1) := by decide +kernel
theorem dX2_retell_42 : decode cX2_retell 42 = .ok (.invokevirtual 61, 3) := by decide +kernel
theorem dX2_retell_45 : decode cX2_retell 45 = .ok (.aload_n 0, 1) := by decide +kernel
theorem dX2_retell_46 : decode cX2_retell 46 = .ok (.getfield 27, 3) := by decide +kernel
theorem dX2_retell_49 : decode cX2_retell 49 = .ok (.iload_n 2, 1) := by decide +kernel
theorem dX2_retell_50 : decode cX2_retell 50 = .ok (.aload_n 0, 1) := by decide +kernel
theorem dX2_retell_51 : decode cX2_retell 51 = .ok (.getfield 36, 3) := by decide +kernel
theorem dX2_retell_54 : decode cX2_retell 54 = .ok (.iastore, 1) := by decide +kernel
theorem dX2_retell_55 : decode cX2_retell 55 = .ok (.iinc 2 1, 3) := by decide +kernel
theorem dX2_retell_58 : decode cX2_retell 58 = .ok (.goto (-51), 3) := by decide +kernel
theorem dX2_retell_61 : decode cX2_retell 61 = .ok (.iconst 0, 1) := by decide +kernel
theorem dX2_retell_62 : decode cX2_retell 62 = .ok (.istore_n 2, 1) := by decide +kernel
theorem dX2_retell_63 : decode cX2_retell 63 = .ok (.iload_n 2, 1) := by decide +kernel
theorem dX2_retell_64 : decode cX2_retell 64 = .ok (.aload_n 0, 1) := by decide +kernel
theorem dX2_retell_65 : decode cX2_retell 65 = .ok (.getfield 40, 3) := by decide +kernel
theorem dX2_retell_68 : decode cX2_retell 68 = .ok (.getfield 44, 3) := by decide +kernel
end
section
theorem dX2_retell_71 : decode cX2_retell 71 = .ok (.if_icmp .ge 14, 3) := by decide +kernel
theorem dX2_retell_74 : decode cX2_retell 74 = .ok (.aload_n 0, 1) := by decide +kernel
theorem dX2_retell_75 : decode cX2_retell 75 = .ok (.iload_n 2, 1) := by decide +kernel
theorem dX2_retell_76 : decode cX2_retell 76 = .ok (.invokevirtual 64, 3) := by decide +kernel
theorem dX2_retell_79 : decode cX2_retell 79 = .ok (.iinc 2 1, 3) := by decide +kernel
theorem dX2_retell_82 : decode cX2_retell 82 = .ok (.goto (-19), 3) := by decide +kernel
theorem dX2_retell_85 : decode cX2_retell 85 = .ok (.return_, 1) := by decide +kernel
theorem dX2_latestOf_0 : decode cX2_latestOf 0 = .ok (.aload_n 0, 1) := by decide +kernel
theorem dX2_latestOf_1 : decode cX2_latestOf 1 = .ok (.getfield 9, 3) := by decide +kernel
theorem dX2_latestOf_4 : decode cX2_latestOf 4 = .ok (.iload_n 1, 1) := by decide +kernel
theorem dX2_latestOf_5 : decode cX2_latestOf 5 = .ok (.bipush 16, 2) := by decide +kernel
theorem dX2_latestOf_7 : decode cX2_latestOf 7 = .ok (.imul, 1) := by decide +kernel
theorem dX2_latestOf_8 : decode cX2_latestOf 8 = .ok (.iload_n 2, 1) := by decide +kernel
theorem dX2_latestOf_9 : decode cX2_latestOf 9 = .ok (.iadd, 1) := by decide +kernel
theorem dX2_latestOf_10 : decode cX2_latestOf 10 = .ok (.iaload, 1) := by decide +kernel
theorem dX2_latestOf_11 : decode cX2_latestOf 11 = .ok (.ireturn, 1) := by decide +kernel
theorem dX2_changesBehind_0 : decode cX2_changesBehind 0 = .ok (.aload_n 0, 1) := by decide +kernel
theorem dX2_changesBehind_1 : decode cX2_changesBehind 1 = .ok (.getfield 36, 3) := by decide +kernel
theorem dX2_changesBehind_4 : decode cX2_changesBehind 4 = .ok (.aload_n 0, 1) := by decide +kernel
theorem dX2_changesBehind_5 : decode cX2_changesBehind 5 = .ok (.getfield 27, 3) := by decide +kernel
theorem dX2_changesBehind_8 : decode cX2_changesBehind 8 = .ok (.iload_n 1, 1) := by decide +kernel
theorem dX2_changesBehind_9 : decode cX2_changesBehind 9 = .ok (.iaload, 1) := by decide +kernel
theorem dX2_changesBehind_10 : decode cX2_changesBehind 10 = .ok (.isub, 1) := by decide +kernel
theorem dX2_changesBehind_11 : decode cX2_changesBehind 11 = .ok (.ireturn, 1) := by decide +kernel
theorem dX2_sortOf_0 : decode cX2_sortOf 0 = .ok (.aload_n 0, 1) := by decide +kernel
theorem dX2_sortOf_1 : decode cX2_sortOf 1 = .ok (.getfield 21, 3) := by decide +kernel
theorem dX2_sortOf_4 : decode cX2_sortOf 4 = .ok (.iload_n 1, 1) := by decide +kernel
theorem dX2_sortOf_5 : decode cX2_sortOf 5 = .ok (.iaload, 1) := by decide +kernel
theorem dX2_sortOf_6 : decode cX2_sortOf 6 = .ok (.istore_n 3, 1) := by decide +kernel
theorem dX2_sortOf_7 : decode cX2_sortOf 7 = .ok (.aload_n 0, 1) := by decide +kernel
theorem dX2_sortOf_8 : decode cX2_sortOf 8 = .ok (.getfield 24, 3) := by decide +kernel
theorem dX2_sortOf_11 : decode cX2_sortOf 11 = .ok (.iload_n 1, 1) := by decide +kernel
theorem dX2_sortOf_12 : decode cX2_sortOf 12 = .ok (.iaload, 1) := by decide +kernel
theorem dX2_sortOf_13 : decode cX2_sortOf 13 = .ok (.istore 4, 2) := by decide +kernel
theorem dX2_sortOf_15 : decode cX2_sortOf 15 = .ok (.aload_n 0, 1) := by decide +kernel
theorem dX2_sortOf_16 : decode cX2_sortOf 16 = .ok (.getfield 18, 3) := by decide +kernel
theorem dX2_sortOf_19 : decode cX2_sortOf 19 = .ok (.iload_n 3, 1) := by decide +kernel
theorem dX2_sortOf_20 : decode cX2_sortOf 20 = .ok (.iaload, 1) := by decide +kernel
theorem dX2_sortOf_21 : decode cX2_sortOf 21 = .ok (.iload 4, 2) := by decide +kernel
theorem dX2_sortOf_23 : decode cX2_sortOf 23 = .ok (.invokestatic 67, 3) := by decide +kernel
theorem dX2_sortOf_26 : decode cX2_sortOf 26 = .ok (.ifCond .eq 5, 3) := by decide +kernel
theorem dX2_sortOf_29 : decode cX2_sortOf 29 = .ok (.iconst 3, 1) := by decide +kernel
theorem dX2_sortOf_30 : decode cX2_sortOf 30 = .ok (.ireturn, 1) := by decide +kernel
theorem dX2_sortOf_31 : decode cX2_sortOf 31 = .ok (.aload_n 0, 1) := by decide +kernel
theorem dX2_sortOf_32 : decode cX2_sortOf 32 = .ok (.iload_n 3, 1) := by decide +kernel
theorem dX2_sortOf_33 : decode cX2_sortOf 33 = .ok (.iconst 1, 1) := by decide +kernel
theorem dX2_sortOf_34 : decode cX2_sortOf 34 = .ok (.isub, 1) := by decide +kernel
theorem dX2_sortOf_35 : decode cX2_sortOf 35 = .ok (.iload 4, 2) := by decide +kernel
theorem dX2_sortOf_37 : decode cX2_sortOf 37 = .ok (.invokevirtual 71, 3) := by decide +kernel
theorem dX2_sortOf_40 : decode cX2_sortOf 40 = .ok (.istore 5, 2) := by decide +kernel
theorem dX2_sortOf_42 : decode cX2_sortOf 42 = .ok (.aload_n 0, 1) := by decide +kernel
theorem dX2_sortOf_43 : decode cX2_sortOf 43 = .ok (.iload_n 3, 1) := by decide +kernel
theorem dX2_sortOf_44 : decode cX2_sortOf 44 = .ok (.iload 4, 2) := by decide +kernel
theorem dX2_sortOf_46 : decode cX2_sortOf 46 = .ok (.invokevirtual 71, 3) := by decide +kernel
theorem dX2_sortOf_49 : decode cX2_sortOf 49 = .ok (.istore 6, 2) := by decide +kernel
theorem dX2_sortOf_51 : decode cX2_sortOf 51 = .ok (.aload_n 0, 1) := by decide +kernel
theorem dX2_sortOf_52 : decode cX2_sortOf 52 = .ok (.getfield 40, 3) := by decide +kernel
theorem dX2_sortOf_55 : decode cX2_sortOf 55 = .ok (.iload 5, 2) := by decide +kernel
theorem dX2_sortOf_57 : decode cX2_sortOf 57 = .ok (.invokevirtual 75, 3) := by decide +kernel
theorem dX2_sortOf_60 : decode cX2_sortOf 60 = .ok (.istore 7, 2) := by decide +kernel
theorem dX2_sortOf_62 : decode cX2_sortOf 62 = .ok (.aload_n 0, 1) := by decide +kernel
theorem dX2_sortOf_63 : decode cX2_sortOf 63 = .ok (.getfield 40, 3) := by decide +kernel
theorem dX2_sortOf_66 : decode cX2_sortOf 66 = .ok (.iload 6, 2) := by decide +kernel
theorem dX2_sortOf_68 : decode cX2_sortOf 68 = .ok (.invokevirtual 75, 3) := by decide +kernel
theorem dX2_sortOf_71 : decode cX2_sortOf 71 = .ok (.istore 8, 2) := by decide +kernel
theorem dX2_sortOf_73 : decode cX2_sortOf 73 = .ok (.iload 7, 2) := by decide +kernel
theorem dX2_sortOf_75 : decode cX2_sortOf 75 = .ok (.iload 8, 2) := by decide +kernel
theorem dX2_sortOf_77 : decode cX2_sortOf 77 = .ok (.invokestatic 78, 3) := by decide +kernel
theorem dX2_sortOf_80 : decode cX2_sortOf 80 = .ok (.ifCond .eq 5, 3) := by decide +kernel
theorem dX2_sortOf_83 : decode cX2_sortOf 83 = .ok (.iconst 1, 1) := by decide +kernel
theorem dX2_sortOf_84 : decode cX2_sortOf 84 = .ok (.ireturn, 1) := by decide +kernel
theorem dX2_sortOf_85 : decode cX2_sortOf 85 = .ok (.aload_n 0, 1) := by decide +kernel
theorem dX2_sortOf_86 : decode cX2_sortOf 86 = .ok (.getfield 15, 3) := by decide +kernel
theorem dX2_sortOf_89 : decode cX2_sortOf 89 = .ok (.iload_n 2, 1) := by decide +kernel
theorem dX2_sortOf_90 : decode cX2_sortOf 90 = .ok (.iaload, 1) := by decide +kernel
theorem dX2_sortOf_91 : decode cX2_sortOf 91 = .ok (.istore 9, 2) := by decide +kernel
theorem dX2_sortOf_93 : decode cX2_sortOf 93 = .ok (.iload 7, 2) := by decide +kernel
theorem dX2_sortOf_95 : decode cX2_sortOf 95 = .ok (.invokestatic 81, 3) := by decide +kernel
theorem dX2_sortOf_98 : decode cX2_sortOf 98 = .ok (.ifCond .eq 23, 3) := by decide +kernel
theorem dX2_sortOf_101 : decode cX2_sortOf 101 = .ok (.iload 8, 2) := by decide +kernel
theorem dX2_sortOf_103 : decode cX2_sortOf 103 = .ok (.invokestatic 81, 3) := by decide +kernel
theorem dX2_sortOf_106 : decode cX2_sortOf 106 = .ok (.ifCond .eq 15, 3) := by decide +kernel
theorem dX2_sortOf_109 : decode cX2_sortOf 109 = .ok (.iload 9, 2) := by decide +kernel
theorem dX2_sortOf_111 : decode cX2_sortOf 111 = .ok (.iload 4, 2) := by decide +kernel
theorem dX2_sortOf_113 : decode cX2_sortOf 113 = .ok (.invokestatic 67, 3) := by decide +kernel
theorem dX2_sortOf_116 : decode cX2_sortOf 116 = .ok (.ifCond .ne 5, 3) := by decide +kernel
theorem dX2_sortOf_119 : decode cX2_sortOf 119 = .ok (.iconst 2, 1) := by decide +kernel
theorem dX2_sortOf_120 : decode cX2_sortOf 120 = .ok (.ireturn, 1) := by decide +kernel
theorem dX2_sortOf_121 : decode cX2_sortOf 121 = .ok (.iload 7, 2) := by decide +kernel
theorem dX2_sortOf_123 : decode cX2_sortOf 123 = .ok (.iconst 3, 1) := by decide +kernel
theorem dX2_sortOf_124 : decode cX2_sortOf 124 = .ok (.if_icmp .ne 46, 3) := by decide +kernel
theorem dX2_sortOf_127 : decode cX2_sortOf 127 = .ok (.iload 8, 2) := by decide +kernel
theorem dX2_sortOf_129 : decode cX2_sortOf 129 = .ok (.iconst 3, 1) := by decide +kernel
theorem dX2_sortOf_130 : decode cX2_sortOf 130 = .ok (.if_icmp .ne 40, 3) := by decide +kernel
theorem dX2_sortOf_133 : decode cX2_sortOf 133 = .ok (.aload_n 0, 1) := by decide +kernel
theorem dX2_sortOf_134 : decode cX2_sortOf 134 = .ok (.getfield 40, 3) := by decide +kernel
theorem dX2_sortOf_137 : decode cX2_sortOf 137 = .ok (.getfield 85, 3) := by decide +kernel
theorem dX2_sortOf_140 : decode cX2_sortOf 140 = .ok (.iload 5, 2) := by decide +kernel
theorem dX2_sortOf_142 : decode cX2_sortOf 142 = .ok (.iaload, 1) := by decide +kernel
theorem dX2_sortOf_143 : decode cX2_sortOf 143 = .ok (.aload_n 0, 1) := by decide +kernel
theorem dX2_sortOf_144 : decode cX2_sortOf 144 = .ok (.getfield 40, 3) := by decide +kernel
theorem dX2_sortOf_147 : decode cX2_sortOf 147 = .ok (.getfield 85, 3) := by decide +kernel
theorem dX2_sortOf_150 : decode cX2_sortOf 150 = .ok (.iload 6, 2) := by decide +kernel
theorem dX2_sortOf_152 : decode cX2_sortOf 152 = .ok (.iaload, 1) := by decide +kernel
theorem dX2_sortOf_153 : decode cX2_sortOf 153 = .ok (.ixor, 1) := by decide +kernel
theorem dX2_sortOf_154 : decode cX2_sortOf 154 = .ok (.istore 10, 2) := by decide +kernel
theorem dX2_sortOf_156 : decode cX2_sortOf 156 = .ok (.iload 10, 2) := by decide +kernel
theorem dX2_sortOf_158 : decode cX2_sortOf 158 = .ok (.iload 9, 2) := by decide +kernel
theorem dX2_sortOf_160 : decode cX2_sortOf 160 = .ok (.iand, 1) := by decide +kernel
theorem dX2_sortOf_161 : decode cX2_sortOf 161 = .ok (.ifCond .ne 7, 3) := by decide +kernel
theorem dX2_sortOf_164 : decode cX2_sortOf 164 = .ok (.iconst 2, 1) := by decide +kernel
theorem dX2_sortOf_165 : decode cX2_sortOf 165 = .ok (.goto 4, 3) := by decide +kernel
theorem dX2_sortOf_168 : decode cX2_sortOf 168 = .ok (.iconst 3, 1) := by decide +kernel
theorem dX2_sortOf_169 : decode cX2_sortOf 169 = .ok (.ireturn, 1) := by decide +kernel
theorem dX2_sortOf_170 : decode cX2_sortOf 170 = .ok (.iconst 3, 1) := by decide +kernel
theorem dX2_sortOf_171 : decode cX2_sortOf 171 = .ok (.ireturn, 1) := by decide +kernel
theorem dX2_judgeBehind_0 : decode cX2_judgeBehind 0 = .ok (.aload_n 0, 1) := by decide +kernel
theorem dX2_judgeBehind_1 : decode cX2_judgeBehind 1 = .ok (.getfield 30, 3) := by decide +kernel
theorem dX2_judgeBehind_4 : decode cX2_judgeBehind 4 = .ok (.iload_n 1, 1) := by decide +kernel
theorem dX2_judgeBehind_5 : decode cX2_judgeBehind 5 = .ok (.iconst 0, 1) := by decide +kernel
theorem dX2_judgeBehind_6 : decode cX2_judgeBehind 6 = .ok (.iastore, 1) := by decide +kernel
theorem dX2_judgeBehind_7 : decode cX2_judgeBehind 7 = .ok (.aload_n 0, 1) := by decide +kernel
theorem dX2_judgeBehind_8 : decode cX2_judgeBehind 8 = .ok (.getfield 33, 3) := by decide +kernel
theorem dX2_judgeBehind_11 : decode cX2_judgeBehind 11 = .ok (.iload_n 1, 1) := by decide +kernel
theorem dX2_judgeBehind_12 : decode cX2_judgeBehind 12 = .ok (.iconst 0, 1) := by decide +kernel
theorem dX2_judgeBehind_13 : decode cX2_judgeBehind 13 = .ok (.iastore, 1) := by decide +kernel
theorem dX2_judgeBehind_14 : decode cX2_judgeBehind 14 = .ok (.aload_n 0, 1) := by decide +kernel
theorem dX2_judgeBehind_15 : decode cX2_judgeBehind 15 = .ok (.getfield 27, 3) := by decide +kernel
theorem dX2_judgeBehind_18 : decode cX2_judgeBehind 18 = .ok (.iload_n 1, 1) := by decide +kernel
theorem dX2_judgeBehind_19 : decode cX2_judgeBehind 19 = .ok (.iaload, 1) := by decide +kernel
theorem dX2_judgeBehind_20 : decode cX2_judgeBehind 20 = .ok (.istore_n 2, 1) := by decide +kernel
theorem dX2_judgeBehind_21 : decode cX2_judgeBehind 21 = .ok (.iload_n 2, 1) := by decide +kernel
theorem dX2_judgeBehind_22 : decode cX2_judgeBehind 22 = .ok (.aload_n 0, 1) := by decide +kernel
theorem dX2_judgeBehind_23 : decode cX2_judgeBehind 23 = .ok (.getfield 36, 3) := by decide +kernel
theorem dX2_judgeBehind_26 : decode cX2_judgeBehind 26 = .ok (.if_icmp .ge 47, 3) := by decide +kernel
theorem dX2_judgeBehind_29 : decode cX2_judgeBehind 29 = .ok (.aload_n 0, 1) := by decide +kernel
theorem dX2_judgeBehind_30 : decode cX2_judgeBehind 30 = .ok (.iload_n 2, 1) := by decide +kernel
theorem dX2_judgeBehind_31 : decode cX2_judgeBehind 31 = .ok (.iload_n 1, 1) := by decide +kernel
theorem dX2_judgeBehind_32 : decode cX2_judgeBehind 32 = .ok (.invokevirtual 88, 3) := by decide +kernel
theorem dX2_judgeBehind_35 : decode cX2_judgeBehind 35 = .ok (.istore_n 3, 1) := by decide +kernel
theorem dX2_judgeBehind_36 : decode cX2_judgeBehind 36 = .ok (.aload_n 0, 1) := by decide +kernel
theorem dX2_judgeBehind_37 : decode cX2_judgeBehind 37 = .ok (.getfield 30, 3) := by decide +kernel
theorem dX2_judgeBehind_40 : decode cX2_judgeBehind 40 = .ok (.iload_n 1, 1) := by decide +kernel
theorem dX2_judgeBehind_41 : decode cX2_judgeBehind 41 = .ok (.aload_n 0, 1) := by decide +kernel
theorem dX2_judgeBehind_42 : decode cX2_judgeBehind 42 = .ok (.getfield 30, 3) := by decide +kernel
theorem dX2_judgeBehind_45 : decode cX2_judgeBehind 45 = .ok (.iload_n 1, 1) := by decide +kernel
theorem dX2_judgeBehind_46 : decode cX2_judgeBehind 46 = .ok (.iaload, 1) := by decide +kernel
theorem dX2_judgeBehind_47 : decode cX2_judgeBehind 47 = .ok (.iload_n 3, 1) := by decide +kernel
theorem dX2_judgeBehind_48 : decode cX2_judgeBehind 48 = .ok (.invokestatic 91, 3) := by decide +kernel
theorem dX2_judgeBehind_51 : decode cX2_judgeBehind 51 = .ok (.iastore, 1) := by decide +kernel
theorem dX2_judgeBehind_52 : decode cX2_judgeBehind 52 = .ok (.iload_n 3, 1) := by decide +kernel
theorem dX2_judgeBehind_53 : decode cX2_judgeBehind 53 = .ok (.iconst 3, 1) := by decide +kernel
theorem dX2_judgeBehind_54 : decode cX2_judgeBehind 54 = .ok (.if_icmp .ne 13, 3) := by decide +kernel
theorem dX2_judgeBehind_57 : decode cX2_judgeBehind 57 = .ok (.aload_n 0, 1) := by decide +kernel
theorem dX2_judgeBehind_58 : decode cX2_judgeBehind 58 = .ok (.getfield 33, 3) := by decide +kernel
theorem dX2_judgeBehind_61 : decode cX2_judgeBehind 61 = .ok (.iload_n 1, 1) := by decide +kernel
theorem dX2_judgeBehind_62 : decode cX2_judgeBehind 62 = .ok (.dup2, 1) := by decide +kernel
theorem dX2_judgeBehind_63 : decode cX2_judgeBehind 63 = .ok (.iaload, 1) := by decide +kernel
theorem dX2_judgeBehind_64 : decode cX2_judgeBehind 64 = .ok (.iconst 1, 1) := by decide +kernel
theorem dX2_judgeBehind_65 : decode cX2_judgeBehind 65 = .ok (.iadd, 1) := by decide +kernel
theorem dX2_judgeBehind_66 : decode cX2_judgeBehind 66 = .ok (.iastore, 1) := by decide +kernel
theorem dX2_judgeBehind_67 : decode cX2_judgeBehind 67 = .ok (.iinc 2 1, 3) := by decide +kernel
theorem dX2_judgeBehind_70 : decode cX2_judgeBehind 70 = .ok (.goto (-49), 3) := by decide +kernel
theorem dX2_judgeBehind_73 : decode cX2_judgeBehind 73 = .ok (.return_, 1) := by decide +kernel
theorem dX2_startRow_0 : decode cX2_startRow 0 = .ok (.iload_n 1, 1) := by decide +kernel
theorem dX2_startRow_1 : decode cX2_startRow 1 = .ok (.bipush 16, 2) := by decide +kernel
theorem dX2_startRow_3 : decode cX2_startRow 3 = .ok (.imul, 1) := by decide +kernel
theorem dX2_startRow_4 : decode cX2_startRow 4 = .ok (.istore_n 2, 1) := by decide +kernel
theorem dX2_startRow_5 : decode cX2_startRow 5 = .ok (.iload_n 1, 1) := by decide +kernel
theorem dX2_startRow_6 : decode cX2_startRow 6 = .ok (.ifCond .ne 17, 3) := by decide +kernel
theorem dX2_startRow_9 : decode cX2_startRow 9 = .ok (.aload_n 0, 1) := by decide +kernel
theorem dX2_startRow_10 : decode cX2_startRow 10 = .ok (.getfield 9, 3) := by decide +kernel
theorem dX2_startRow_13 : decode cX2_startRow 13 = .ok (.iconst 0, 1) := by decide +kernel
theorem dX2_startRow_14 : decode cX2_startRow 14 = .ok (.bipush 16, 2) := by decide +kernel
theorem dX2_startRow_16 : decode cX2_startRow 16 = .ok (.iconst (-1), 1) := by decide +kernel
theorem dX2_startRow_17 : decode cX2_startRow 17 = .ok (.invokestatic 96, 3) := by decide +kernel
theorem dX2_startRow_20 : decode cX2_startRow 20 = .ok (.goto 21, 3) := by decide +kernel
theorem dX2_startRow_23 : decode cX2_startRow 23 = .ok (.aload_n 0, 1) := by decide +kernel
theorem dX2_startRow_24 : decode cX2_startRow 24 = .ok (.getfield 9, 3) := by decide +kernel
theorem dX2_startRow_27 : decode cX2_startRow 27 = .ok (.iload_n 2, 1) := by decide +kernel
theorem dX2_startRow_28 : decode cX2_startRow 28 = .ok (.bipush 16, 2) := by decide +kernel
theorem dX2_startRow_30 : decode cX2_startRow 30 = .ok (.isub, 1) := by decide +kernel
theorem dX2_startRow_31 : decode cX2_startRow 31 = .ok (.aload_n 0, 1) := by decide +kernel
theorem dX2_startRow_32 : decode cX2_startRow 32 = .ok (.getfield 9, 3) := by decide +kernel
theorem dX2_startRow_35 : decode cX2_startRow 35 = .ok (.iload_n 2, 1) := by decide +kernel
theorem dX2_startRow_36 : decode cX2_startRow 36 = .ok (.bipush 16, 2) := by decide +kernel
theorem dX2_startRow_38 : decode cX2_startRow 38 = .ok (.invokestatic 102, 3) := by decide +kernel
theorem dX2_startRow_41 : decode cX2_startRow 41 = .ok (.aload_n 0, 1) := by decide +kernel
theorem dX2_startRow_42 : decode cX2_startRow 42 = .ok (.getfield 18, 3) := by decide +kernel
theorem dX2_startRow_45 : decode cX2_startRow 45 = .ok (.iload_n 1, 1) := by decide +kernel
theorem dX2_startRow_46 : decode cX2_startRow 46 = .ok (.iconst 0, 1) := by decide +kernel
theorem dX2_startRow_47 : decode cX2_startRow 47 = .ok (.iastore, 1) := by decide +kernel
theorem dX2_startRow_48 : decode cX2_startRow 48 = .ok (.return_, 1) := by decide +kernel
theorem dX2_takeWrites_0 : decode cX2_takeWrites 0 = .ok (.aload_n 0, 1) := by decide +kernel
theorem dX2_takeWrites_1 : decode cX2_takeWrites 1 = .ok (.getfield 40, 3) := by decide +kernel
theorem dX2_takeWrites_4 : decode cX2_takeWrites 4 = .ok (.getfield 108, 3) := by decide +kernel
theorem dX2_takeWrites_7 : decode cX2_takeWrites 7 = .ok (.iload_n 1, 1) := by decide +kernel
theorem dX2_takeWrites_8 : decode cX2_takeWrites 8 = .ok (.iaload, 1) := by decide +kernel
theorem dX2_takeWrites_9 : decode cX2_takeWrites 9 = .ok (.istore_n 3, 1) := by decide +kernel
theorem dX2_takeWrites_10 : decode cX2_takeWrites 10 = .ok (.iload_n 3, 1) := by decide +kernel
theorem dX2_takeWrites_11 : decode cX2_takeWrites 11 = .ok (.aload_n 0, 1) := by decide +kernel
theorem dX2_takeWrites_12 : decode cX2_takeWrites 12 = .ok (.getfield 40, 3) := by decide +kernel
theorem dX2_takeWrites_15 : decode cX2_takeWrites 15 = .ok (.iload_n 1, 1) := by decide +kernel
theorem dX2_takeWrites_16 : decode cX2_takeWrites 16 = .ok (.invokevirtual 111, 3) := by decide +kernel
theorem dX2_takeWrites_19 : decode cX2_takeWrites 19 = .ok (.if_icmp .ge 90, 3) := by decide +kernel
theorem dX2_takeWrites_22 : decode cX2_takeWrites 22 = .ok (.iload_n 3, 1) := by decide +kernel
theorem dX2_takeWrites_23 : decode cX2_takeWrites 23 = .ok (.iload_n 2, 1) := by decide +kernel
theorem dX2_takeWrites_24 : decode cX2_takeWrites 24 = .ok (.if_icmp .ne 6, 3) := by decide +kernel
theorem dX2_takeWrites_27 : decode cX2_takeWrites 27 = .ok (.goto 76, 3) := by decide +kernel
theorem dX2_takeWrites_30 : decode cX2_takeWrites 30 = .ok (.aload_n 0, 1) := by decide +kernel
theorem dX2_takeWrites_31 : decode cX2_takeWrites 31 = .ok (.getfield 40, 3) := by decide +kernel
theorem dX2_takeWrites_34 : decode cX2_takeWrites 34 = .ok (.getfield 114, 3) := by decide +kernel
theorem dX2_takeWrites_37 : decode cX2_takeWrites 37 = .ok (.iload_n 3, 1) := by decide +kernel
theorem dX2_takeWrites_38 : decode cX2_takeWrites 38 = .ok (.iaload, 1) := by decide +kernel
theorem dX2_takeWrites_39 : decode cX2_takeWrites 39 = .ok (.istore 4, 2) := by decide +kernel
theorem dX2_takeWrites_41 : decode cX2_takeWrites 41 = .ok (.aload_n 0, 1) := by decide +kernel
theorem dX2_takeWrites_42 : decode cX2_takeWrites 42 = .ok (.iload_n 1, 1) := by decide +kernel
theorem dX2_takeWrites_43 : decode cX2_takeWrites 43 = .ok (.iload 4, 2) := by decide +kernel
theorem dX2_takeWrites_45 : decode cX2_takeWrites 45 = .ok (.invokevirtual 71, 3) := by decide +kernel
theorem dX2_takeWrites_48 : decode cX2_takeWrites 48 = .ok (.istore 5, 2) := by decide +kernel
theorem dX2_takeWrites_50 : decode cX2_takeWrites 50 = .ok (.iload 5, 2) := by decide +kernel
theorem dX2_takeWrites_52 : decode cX2_takeWrites 52 = .ok (.aload_n 0, 1) := by decide +kernel
theorem dX2_takeWrites_53 : decode cX2_takeWrites 53 = .ok (.getfield 40, 3) := by decide +kernel
theorem dX2_takeWrites_56 : decode cX2_takeWrites 56 = .ok (.getfield 108, 3) := by decide +kernel
theorem dX2_takeWrites_59 : decode cX2_takeWrites 59 = .ok (.iload_n 1, 1) := by decide +kernel
theorem dX2_takeWrites_60 : decode cX2_takeWrites 60 = .ok (.iaload, 1) := by decide +kernel
theorem dX2_takeWrites_61 : decode cX2_takeWrites 61 = .ok (.if_icmp .lt 29, 3) := by decide +kernel
theorem dX2_takeWrites_64 : decode cX2_takeWrites 64 = .ok (.aload_n 0, 1) := by decide +kernel
theorem dX2_takeWrites_65 : decode cX2_takeWrites 65 = .ok (.getfield 40, 3) := by decide +kernel
theorem dX2_takeWrites_68 : decode cX2_takeWrites 68 = .ok (.iload 5, 2) := by decide +kernel
theorem dX2_takeWrites_70 : decode cX2_takeWrites 70 = .ok (.iload_n 3, 1) := by decide +kernel
theorem dX2_takeWrites_71 : decode cX2_takeWrites 71 = .ok (.invokevirtual 117, 3) := by decide +kernel
theorem dX2_takeWrites_74 : decode cX2_takeWrites 74 = .ok (.ifCond .eq 16, 3) := by decide +kernel
theorem dX2_takeWrites_77 : decode cX2_takeWrites 77 = .ok (.aload_n 0, 1) := by decide +kernel
theorem dX2_takeWrites_78 : decode cX2_takeWrites 78 = .ok (.getfield 18, 3) := by decide +kernel
theorem dX2_takeWrites_81 : decode cX2_takeWrites 81 = .ok (.iload_n 1, 1) := by decide +kernel
theorem dX2_takeWrites_82 : decode cX2_takeWrites 82 = .ok (.dup2, 1) := by decide +kernel
theorem dX2_takeWrites_83 : decode cX2_takeWrites 83 = .ok (.iaload, 1) := by decide +kernel
theorem dX2_takeWrites_84 : decode cX2_takeWrites 84 = .ok (.iconst 1, 1) := by decide +kernel
theorem dX2_takeWrites_85 : decode cX2_takeWrites 85 = .ok (.iload 4, 2) := by decide +kernel
theorem dX2_takeWrites_87 : decode cX2_takeWrites 87 = .ok (.ishl, 1) := by decide +kernel
theorem dX2_takeWrites_88 : decode cX2_takeWrites 88 = .ok (.ior, 1) := by decide +kernel
theorem dX2_takeWrites_89 : decode cX2_takeWrites 89 = .ok (.iastore, 1) := by decide +kernel
theorem dX2_takeWrites_90 : decode cX2_takeWrites 90 = .ok (.aload_n 0, 1) := by decide +kernel
theorem dX2_takeWrites_91 : decode cX2_takeWrites 91 = .ok (.getfield 9, 3) := by decide +kernel
theorem dX2_takeWrites_94 : decode cX2_takeWrites 94 = .ok (.iload_n 1, 1) := by decide +kernel
theorem dX2_takeWrites_95 : decode cX2_takeWrites 95 = .ok (.bipush 16, 2) := by decide +kernel
theorem dX2_takeWrites_97 : decode cX2_takeWrites 97 = .ok (.imul, 1) := by decide +kernel
theorem dX2_takeWrites_98 : decode cX2_takeWrites 98 = .ok (.iload 4, 2) := by decide +kernel
theorem dX2_takeWrites_100 : decode cX2_takeWrites 100 = .ok (.iadd, 1) := by decide +kernel
theorem dX2_takeWrites_101 : decode cX2_takeWrites 101 = .ok (.iload_n 3, 1) := by decide +kernel
theorem dX2_takeWrites_102 : decode cX2_takeWrites 102 = .ok (.iastore, 1) := by decide +kernel
theorem dX2_takeWrites_103 : decode cX2_takeWrites 103 = .ok (.iinc 3 1, 3) := by decide +kernel
theorem dX2_takeWrites_106 : decode cX2_takeWrites 106 = .ok (.goto (-96), 3) := by decide +kernel
theorem dX2_takeWrites_109 : decode cX2_takeWrites 109 = .ok (.return_, 1) := by decide +kernel
theorem dX2_thingsThere_0 : decode cX2_thingsThere 0 = .ok (.iconst 0, 1) := by decide +kernel
theorem dX2_thingsThere_1 : decode cX2_thingsThere 1 = .ok (.istore_n 2, 1) := by decide +kernel
theorem dX2_thingsThere_2 : decode cX2_thingsThere 2 = .ok (.iconst 0, 1) := by decide +kernel
theorem dX2_thingsThere_3 : decode cX2_thingsThere 3 = .ok (.istore_n 3, 1) := by decide +kernel
theorem dX2_thingsThere_4 : decode cX2_thingsThere 4 = .ok (.iload_n 3, 1) := by decide +kernel
theorem dX2_thingsThere_5 : decode cX2_thingsThere 5 = .ok (.bipush 16, 2) := by decide +kernel
theorem dX2_thingsThere_7 : decode cX2_thingsThere 7 = .ok (.if_icmp .ge 32, 3) := by decide +kernel
theorem dX2_thingsThere_10 : decode cX2_thingsThere 10 = .ok (.aload_n 0, 1) := by decide +kernel
theorem dX2_thingsThere_11 : decode cX2_thingsThere 11 = .ok (.getfield 40, 3) := by decide +kernel
theorem dX2_thingsThere_14 : decode cX2_thingsThere 14 = .ok (.aload_n 0, 1) := by decide +kernel
theorem dX2_thingsThere_15 : decode cX2_thingsThere 15 = .ok (.iload_n 1, 1) := by decide +kernel
theorem dX2_thingsThere_16 : decode cX2_thingsThere 16 = .ok (.iload_n 3, 1) := by decide +kernel
theorem dX2_thingsThere_17 : decode cX2_thingsThere 17 = .ok (.invokevirtual 71, 3) := by decide +kernel
theorem dX2_thingsThere_20 : decode cX2_thingsThere 20 = .ok (.invokevirtual 75, 3) := by decide +kernel
theorem dX2_thingsThere_23 : decode cX2_thingsThere 23 = .ok (.iconst 5, 1) := by decide +kernel
theorem dX2_thingsThere_24 : decode cX2_thingsThere 24 = .ok (.if_icmp .eq 9, 3) := by decide +kernel
theorem dX2_thingsThere_27 : decode cX2_thingsThere 27 = .ok (.iload_n 2, 1) := by decide +kernel
theorem dX2_thingsThere_28 : decode cX2_thingsThere 28 = .ok (.iconst 1, 1) := by decide +kernel
theorem dX2_thingsThere_29 : decode cX2_thingsThere 29 = .ok (.iload_n 3, 1) := by decide +kernel
theorem dX2_thingsThere_30 : decode cX2_thingsThere 30 = .ok (.ishl, 1) := by decide +kernel
theorem dX2_thingsThere_31 : decode cX2_thingsThere 31 = .ok (.ior, 1) := by decide +kernel
theorem dX2_thingsThere_32 : decode cX2_thingsThere 32 = .ok (.istore_n 2, 1) := by decide +kernel
theorem dX2_thingsThere_33 : decode cX2_thingsThere 33 = .ok (.iinc 3 1, 3) := by decide +kernel
theorem dX2_thingsThere_36 : decode cX2_thingsThere 36 = .ok (.goto (-32), 3) := by decide +kernel
theorem dX2_thingsThere_39 : decode cX2_thingsThere 39 = .ok (.iload_n 2, 1) := by decide +kernel
theorem dX2_thingsThere_40 : decode cX2_thingsThere 40 = .ok (.ireturn, 1) := by decide +kernel
theorem dX2_noteChanges_0 : decode cX2_noteChanges 0 = .ok (.iconst 0, 1) := by decide +kernel
theorem dX2_noteChanges_1 : decode cX2_noteChanges 1 = .ok (.istore_n 2, 1) := by decide +kernel
theorem dX2_noteChanges_2 : decode cX2_noteChanges 2 = .ok (.iload_n 1, 1) := by decide +kernel
theorem dX2_noteChanges_3 : decode cX2_noteChanges 3 = .ok (.ifCond .le 67, 3) := by decide +kernel
theorem dX2_noteChanges_6 : decode cX2_noteChanges 6 = .ok (.iload_n 2, 1) := by decide +kernel
theorem dX2_noteChanges_7 : decode cX2_noteChanges 7 = .ok (.bipush 16, 2) := by decide +kernel
theorem dX2_noteChanges_9 : decode cX2_noteChanges 9 = .ok (.if_icmp .ge 61, 3) := by decide +kernel
theorem dX2_noteChanges_12 : decode cX2_noteChanges 12 = .ok (.aload_n 0, 1) := by decide +kernel
theorem dX2_noteChanges_13 : decode cX2_noteChanges 13 = .ok (.getfield 18, 3) := by decide +kernel
theorem dX2_noteChanges_16 : decode cX2_noteChanges 16 = .ok (.iload_n 1, 1) := by decide +kernel
theorem dX2_noteChanges_17 : decode cX2_noteChanges 17 = .ok (.iaload, 1) := by decide +kernel
theorem dX2_noteChanges_18 : decode cX2_noteChanges 18 = .ok (.iload_n 2, 1) := by decide +kernel
theorem dX2_noteChanges_19 : decode cX2_noteChanges 19 = .ok (.invokestatic 67, 3) := by decide +kernel
theorem dX2_noteChanges_22 : decode cX2_noteChanges 22 = .ok (.ifCond .ne 12, 3) := by decide +kernel
theorem dX2_noteChanges_25 : decode cX2_noteChanges 25 = .ok (.aload_n 0, 1) := by decide +kernel
theorem dX2_noteChanges_26 : decode cX2_noteChanges 26 = .ok (.iload_n 1, 1) := by decide +kernel
theorem dX2_noteChanges_27 : decode cX2_noteChanges 27 = .ok (.iload_n 2, 1) := by decide +kernel
theorem dX2_noteChanges_28 : decode cX2_noteChanges 28 = .ok (.invokevirtual 120, 3) := by decide +kernel
theorem dX2_noteChanges_31 : decode cX2_noteChanges 31 = .ok (.ifCond .eq 33, 3) := by decide +kernel
theorem dX2_noteChanges_34 : decode cX2_noteChanges 34 = .ok (.aload_n 0, 1) := by decide +kernel
theorem dX2_noteChanges_35 : decode cX2_noteChanges 35 = .ok (.getfield 21, 3) := by decide +kernel
theorem dX2_noteChanges_38 : decode cX2_noteChanges 38 = .ok (.aload_n 0, 1) := by decide +kernel
theorem dX2_noteChanges_39 : decode cX2_noteChanges 39 = .ok (.getfield 36, 3) := by decide +kernel
theorem dX2_noteChanges_42 : decode cX2_noteChanges 42 = .ok (.iload_n 1, 1) := by decide +kernel
theorem dX2_noteChanges_43 : decode cX2_noteChanges 43 = .ok (.iastore, 1) := by decide +kernel
theorem dX2_noteChanges_44 : decode cX2_noteChanges 44 = .ok (.aload_n 0, 1) := by decide +kernel
theorem dX2_noteChanges_45 : decode cX2_noteChanges 45 = .ok (.getfield 24, 3) := by decide +kernel
theorem dX2_noteChanges_48 : decode cX2_noteChanges 48 = .ok (.aload_n 0, 1) := by decide +kernel
theorem dX2_noteChanges_49 : decode cX2_noteChanges 49 = .ok (.getfield 36, 3) := by decide +kernel
theorem dX2_noteChanges_52 : decode cX2_noteChanges 52 = .ok (.iload_n 2, 1) := by decide +kernel
theorem dX2_noteChanges_53 : decode cX2_noteChanges 53 = .ok (.iastore, 1) := by decide +kernel
theorem dX2_noteChanges_54 : decode cX2_noteChanges 54 = .ok (.aload_n 0, 1) := by decide +kernel
theorem dX2_noteChanges_55 : decode cX2_noteChanges 55 = .ok (.dup, 1) := by decide +kernel
theorem dX2_noteChanges_56 : decode cX2_noteChanges 56 = .ok (.getfield 36, 3) := by decide +kernel
theorem dX2_noteChanges_59 : decode cX2_noteChanges 59 = .ok (.iconst 1, 1) := by decide +kernel
theorem dX2_noteChanges_60 : decode cX2_noteChanges 60 = .ok (.iadd, 1) := by decide +kernel
theorem dX2_noteChanges_61 : decode cX2_noteChanges 61 = .ok (.putfield 36, 3) := by decide +kernel
theorem dX2_noteChanges_64 : decode cX2_noteChanges 64 = .ok (.iinc 2 1, 3) := by decide +kernel
theorem dX2_noteChanges_67 : decode cX2_noteChanges 67 = .ok (.goto (-65), 3) := by decide +kernel
theorem dX2_noteChanges_70 : decode cX2_noteChanges 70 = .ok (.return_, 1) := by decide +kernel
theorem dX2_isOther_0 : decode cX2_isOther 0 = .ok (.aload_n 0, 1) := by decide +kernel
theorem dX2_isOther_1 : decode cX2_isOther 1 = .ok (.getfield 15, 3) := by decide +kernel
theorem dX2_isOther_4 : decode cX2_isOther 4 = .ok (.iload_n 1, 1) := by decide +kernel
theorem dX2_isOther_5 : decode cX2_isOther 5 = .ok (.iconst 1, 1) := by decide +kernel
theorem dX2_isOther_6 : decode cX2_isOther 6 = .ok (.isub, 1) := by decide +kernel
theorem dX2_isOther_7 : decode cX2_isOther 7 = .ok (.iaload, 1) := by decide +kernel
theorem dX2_isOther_8 : decode cX2_isOther 8 = .ok (.iload_n 2, 1) := by decide +kernel
theorem dX2_isOther_9 : decode cX2_isOther 9 = .ok (.invokestatic 67, 3) := by decide +kernel
theorem dX2_isOther_12 : decode cX2_isOther 12 = .ok (.istore_n 3, 1) := by decide +kernel
theorem dX2_isOther_13 : decode cX2_isOther 13 = .ok (.aload_n 0, 1) := by decide +kernel
theorem dX2_isOther_14 : decode cX2_isOther 14 = .ok (.getfield 15, 3) := by decide +kernel
theorem dX2_isOther_17 : decode cX2_isOther 17 = .ok (.iload_n 1, 1) := by decide +kernel
theorem dX2_isOther_18 : decode cX2_isOther 18 = .ok (.iaload, 1) := by decide +kernel
theorem dX2_isOther_19 : decode cX2_isOther 19 = .ok (.iload_n 2, 1) := by decide +kernel
theorem dX2_isOther_20 : decode cX2_isOther 20 = .ok (.invokestatic 67, 3) := by decide +kernel
theorem dX2_isOther_23 : decode cX2_isOther 23 = .ok (.istore 4, 2) := by decide +kernel
theorem dX2_isOther_25 : decode cX2_isOther 25 = .ok (.iload_n 3, 1) := by decide +kernel
theorem dX2_isOther_26 : decode cX2_isOther 26 = .ok (.iload 4, 2) := by decide +kernel
theorem dX2_isOther_28 : decode cX2_isOther 28 = .ok (.if_icmp .ne 32, 3) := by decide +kernel
theorem dX2_isOther_31 : decode cX2_isOther 31 = .ok (.iload 4, 2) := by decide +kernel
theorem dX2_isOther_33 : decode cX2_isOther 33 = .ok (.ifCond .eq 31, 3) := by decide +kernel
theorem dX2_isOther_36 : decode cX2_isOther 36 = .ok (.aload_n 0, 1) := by decide +kernel
theorem dX2_isOther_37 : decode cX2_isOther 37 = .ok (.getfield 40, 3) := by decide +kernel
theorem dX2_isOther_40 : decode cX2_isOther 40 = .ok (.aload_n 0, 1) := by decide +kernel
theorem dX2_isOther_41 : decode cX2_isOther 41 = .ok (.iload_n 1, 1) := by decide +kernel
theorem dX2_isOther_42 : decode cX2_isOther 42 = .ok (.iconst 1, 1) := by decide +kernel
theorem dX2_isOther_43 : decode cX2_isOther 43 = .ok (.isub, 1) := by decide +kernel
theorem dX2_isOther_44 : decode cX2_isOther 44 = .ok (.iload_n 2, 1) := by decide +kernel
theorem dX2_isOther_45 : decode cX2_isOther 45 = .ok (.invokevirtual 71, 3) := by decide +kernel
theorem dX2_isOther_48 : decode cX2_isOther 48 = .ok (.aload_n 0, 1) := by decide +kernel
theorem dX2_isOther_49 : decode cX2_isOther 49 = .ok (.iload_n 1, 1) := by decide +kernel
theorem dX2_isOther_50 : decode cX2_isOther 50 = .ok (.iload_n 2, 1) := by decide +kernel
theorem dX2_isOther_51 : decode cX2_isOther 51 = .ok (.invokevirtual 71, 3) := by decide +kernel
theorem dX2_isOther_54 : decode cX2_isOther 54 = .ok (.invokevirtual 117, 3) := by decide +kernel
theorem dX2_isOther_57 : decode cX2_isOther 57 = .ok (.ifCond .eq 7, 3) := by decide +kernel
theorem dX2_isOther_60 : decode cX2_isOther 60 = .ok (.iconst 1, 1) := by decide +kernel
theorem dX2_isOther_61 : decode cX2_isOther 61 = .ok (.goto 4, 3) := by decide +kernel
theorem dX2_isOther_64 : decode cX2_isOther 64 = .ok (.iconst 0, 1) := by decide +kernel
theorem dX2_isOther_65 : decode cX2_isOther 65 = .ok (.ireturn, 1) := by decide +kernel
theorem dX2_isIn_0 : decode cX2_isIn 0 = .ok (.iload_n 0, 1) := by decide +kernel
theorem dX2_isIn_1 : decode cX2_isIn 1 = .ok (.iload_n 1, 1) := by decide +kernel
theorem dX2_isIn_2 : decode cX2_isIn 2 = .ok (.ishr, 1) := by decide +kernel
theorem dX2_isIn_3 : decode cX2_isIn 3 = .ok (.iconst 1, 1) := by decide +kernel
theorem dX2_isIn_4 : decode cX2_isIn 4 = .ok (.iand, 1) := by decide +kernel
theorem dX2_isIn_5 : decode cX2_isIn 5 = .ok (.ifCond .eq 7, 3) := by decide +kernel
theorem dX2_isIn_8 : decode cX2_isIn 8 = .ok (.iconst 1, 1) := by decide +kernel
theorem dX2_isIn_9 : decode cX2_isIn 9 = .ok (.goto 4, 3) := by decide +kernel
theorem dX2_isIn_12 : decode cX2_isIn 12 = .ok (.iconst 0, 1) := by decide +kernel
theorem dX2_isIn_13 : decode cX2_isIn 13 = .ok (.ireturn, 1) := by decide +kernel
theorem dX2_isFilling_0 : decode cX2_isFilling 0 = .ok (.iload_n 0, 1) := by decide +kernel
theorem dX2_isFilling_1 : decode cX2_isFilling 1 = .ok (.iconst 1, 1) := by decide +kernel
theorem dX2_isFilling_2 : decode cX2_isFilling 2 = .ok (.if_icmp .ne 8, 3) := by decide +kernel
theorem dX2_isFilling_5 : decode cX2_isFilling 5 = .ok (.iload_n 1, 1) := by decide +kernel
theorem dX2_isFilling_6 : decode cX2_isFilling 6 = .ok (.iconst 1, 1) := by decide +kernel
theorem dX2_isFilling_7 : decode cX2_isFilling 7 = .ok (.if_icmp .eq 13, 3) := by decide +kernel
theorem dX2_isFilling_10 : decode cX2_isFilling 10 = .ok (.iload_n 0, 1) := by decide +kernel
theorem dX2_isFilling_11 : decode cX2_isFilling 11 = .ok (.iconst 5, 1) := by decide +kernel
theorem dX2_isFilling_12 : decode cX2_isFilling 12 = .ok (.if_icmp .ne 12, 3) := by decide +kernel
theorem dX2_isFilling_15 : decode cX2_isFilling 15 = .ok (.iload_n 1, 1) := by decide +kernel
theorem dX2_isFilling_16 : decode cX2_isFilling 16 = .ok (.iconst 4, 1) := by decide +kernel
theorem dX2_isFilling_17 : decode cX2_isFilling 17 = .ok (.if_icmp .ne 7, 3) := by decide +kernel
theorem dX2_isFilling_20 : decode cX2_isFilling 20 = .ok (.iconst 1, 1) := by decide +kernel
theorem dX2_isFilling_21 : decode cX2_isFilling 21 = .ok (.goto 4, 3) := by decide +kernel
theorem dX2_isFilling_24 : decode cX2_isFilling 24 = .ok (.iconst 0, 1) := by decide +kernel
theorem dX2_isFilling_25 : decode cX2_isFilling 25 = .ok (.ireturn, 1) := by decide +kernel
theorem dX2_isNoteOrGone_0 : decode cX2_isNoteOrGone 0 = .ok (.iload_n 0, 1) := by decide +kernel
theorem dX2_isNoteOrGone_1 : decode cX2_isNoteOrGone 1 = .ok (.iconst 2, 1) := by decide +kernel
theorem dX2_isNoteOrGone_2 : decode cX2_isNoteOrGone 2 = .ok (.if_icmp .eq 8, 3) := by decide +kernel
theorem dX2_isNoteOrGone_5 : decode cX2_isNoteOrGone 5 = .ok (.iload_n 0, 1) := by decide +kernel
theorem dX2_isNoteOrGone_6 : decode cX2_isNoteOrGone 6 = .ok (.iconst 5, 1) := by decide +kernel
theorem dX2_isNoteOrGone_7 : decode cX2_isNoteOrGone 7 = .ok (.if_icmp .ne 7, 3) := by decide +kernel
theorem dX2_isNoteOrGone_10 : decode cX2_isNoteOrGone 10 = .ok (.iconst 1, 1) := by decide +kernel
theorem dX2_isNoteOrGone_11 : decode cX2_isNoteOrGone 11 = .ok (.goto 4, 3) := by decide +kernel
theorem dX2_isNoteOrGone_14 : decode cX2_isNoteOrGone 14 = .ok (.iconst 0, 1) := by decide +kernel
theorem dX2_isNoteOrGone_15 : decode cX2_isNoteOrGone 15 = .ok (.ireturn, 1) := by decide +kernel
theorem dX3_init_0 : decode cX3_init 0 = .ok (.aload_n 0, 1) := by decide +kernel
theorem dX3_init_1 : decode cX3_init 1 = .ok (.invokespecial 3, 3) := by decide +kernel
theorem dX3_init_4 : decode cX3_init 4 = .ok (.aload_n 0, 1) := by decide +kernel
theorem dX3_init_5 : decode cX3_init 5 = .ok (.bipush 60, 2) := by decide +kernel
theorem dX3_init_7 : decode cX3_init 7 = .ok (.newarray .int, 2) := by decide +kernel
theorem dX3_init_9 : decode cX3_init 9 = .ok (.putfield 9, 3) := by decide +kernel
theorem dX3_init_12 : decode cX3_init 12 = .ok (.aload_n 0, 1) := by decide +kernel
theorem dX3_init_13 : decode cX3_init 13 = .ok (.iconst 1, 1) := by decide +kernel
theorem dX3_init_14 : decode cX3_init 14 = .ok (.putfield 15, 3) := by decide +kernel
theorem dX3_init_17 : decode cX3_init 17 = .ok (.aload_n 0, 1) := by decide +kernel
theorem dX3_init_18 : decode cX3_init 18 = .ok (.iconst 0, 1) := by decide +kernel
theorem dX3_init_19 : decode cX3_init 19 = .ok (.putfield 19, 3) := by decide +kernel
theorem dX3_init_22 : decode cX3_init 22 = .ok (.aload_n 0, 1) := by decide +kernel
theorem dX3_init_23 : decode cX3_init 23 = .ok (.iconst 0, 1) := by decide +kernel
theorem dX3_init_24 : decode cX3_init 24 = .ok (.putfield 23, 3) := by decide +kernel
theorem dX3_init_27 : decode cX3_init 27 = .ok (.return_, 1) := by decide +kernel
theorem dX3_renew_0 : decode cX3_renew 0 = .ok (.aload_n 0, 1) := by decide +kernel
theorem dX3_renew_1 : decode cX3_renew 1 = .ok (.iconst 0, 1) := by decide +kernel
theorem dX3_renew_2 : decode cX3_renew 2 = .ok (.putfield 15, 3) := by decide +kernel
theorem dX3_renew_5 : decode cX3_renew 5 = .ok (.aload_n 0, 1) := by decide +kernel
theorem dX3_renew_6 : decode cX3_renew 6 = .ok (.iload_n 1, 1) := by decide +kernel
theorem dX3_renew_7 : decode cX3_renew 7 = .ok (.putfield 19, 3) := by decide +kernel
theorem dX3_renew_10 : decode cX3_renew 10 = .ok (.aload_n 0, 1) := by decide +kernel
theorem dX3_renew_11 : decode cX3_renew 11 = .ok (.iload_n 2, 1) := by decide +kernel
theorem dX3_renew_12 : decode cX3_renew 12 = .ok (.putfield 23, 3) := by decide +kernel
theorem dX3_renew_15 : decode cX3_renew 15 = .ok (.aload_n 0, 1) := by decide +kernel
theorem dX3_renew_16 : decode cX3_renew 16 = .ok (.getfield 9, 3) := by decide +kernel
theorem dX3_renew_19 : decode cX3_renew 19 = .ok (.iconst 0, 1) := by decide +kernel
theorem dX3_renew_20 : decode cX3_renew 20 = .ok (.invokestatic 26, 3) := by decide +kernel
theorem dX3_renew_23 : decode cX3_renew 23 = .ok (.return_, 1) := by decide +kernel
theorem dX3_findingAt_0 : decode cX3_findingAt 0 = .ok (.aload_n 0, 1) := by decide +kernel
theorem dX3_findingAt_1 : decode cX3_findingAt 1 = .ok (.getfield 15, 3) := by decide +kernel
theorem dX3_findingAt_4 : decode cX3_findingAt 4 = .ok (.ifCond .eq 5, 3) := by decide +kernel
theorem dX3_findingAt_7 : decode cX3_findingAt 7 = .ok (.iconst 1, 1) := by decide +kernel
theorem dX3_findingAt_8 : decode cX3_findingAt 8 = .ok (.ireturn, 1) := by decide +kernel
theorem dX3_findingAt_9 : decode cX3_findingAt 9 = .ok (.aload_n 0, 1) := by decide +kernel
theorem dX3_findingAt_10 : decode cX3_findingAt 10 = .ok (.getfield 19, 3) := by decide +kernel
theorem dX3_findingAt_13 : decode cX3_findingAt 13 = .ok (.iload_n 1, 1) := by decide +kernel
theorem dX3_findingAt_14 : decode cX3_findingAt 14 = .ok (.if_icmp .eq 5, 3) := by decide +kernel
theorem dX3_findingAt_17 : decode cX3_findingAt 17 = .ok (.iconst 3, 1) := by decide +kernel
theorem dX3_findingAt_18 : decode cX3_findingAt 18 = .ok (.ireturn, 1) := by decide +kernel
theorem dX3_findingAt_19 : decode cX3_findingAt 19 = .ok (.iload_n 2, 1) := by decide +kernel
theorem dX3_findingAt_20 : decode cX3_findingAt 20 = .ok (.ifCond .lt 11, 3) := by decide +kernel
theorem dX3_findingAt_23 : decode cX3_findingAt 23 = .ok (.iload_n 2, 1) := by decide +kernel
theorem dX3_findingAt_24 : decode cX3_findingAt 24 = .ok (.aload_n 0, 1) := by decide +kernel
theorem dX3_findingAt_25 : decode cX3_findingAt 25 = .ok (.getfield 23, 3) := by decide +kernel
theorem dX3_findingAt_28 : decode cX3_findingAt 28 = .ok (.if_icmp .lt 7, 3) := by decide +kernel
theorem dX3_findingAt_31 : decode cX3_findingAt 31 = .ok (.iconst 2, 1) := by decide +kernel
theorem dX3_findingAt_32 : decode cX3_findingAt 32 = .ok (.goto 4, 3) := by decide +kernel
theorem dX3_findingAt_35 : decode cX3_findingAt 35 = .ok (.iconst 0, 1) := by decide +kernel
theorem dX3_findingAt_36 : decode cX3_findingAt 36 = .ok (.ireturn, 1) := by decide +kernel
theorem dX3_hasItems_0 : decode cX3_hasItems 0 = .ok (.iload_n 1, 1) := by decide +kernel
theorem dX3_hasItems_1 : decode cX3_hasItems 1 = .ok (.ifCond .lt 21, 3) := by decide +kernel
theorem dX3_hasItems_4 : decode cX3_hasItems 4 = .ok (.iload_n 2, 1) := by decide +kernel
theorem dX3_hasItems_5 : decode cX3_hasItems 5 = .ok (.ifCond .lt 17, 3) := by decide +kernel
theorem dX3_hasItems_8 : decode cX3_hasItems 8 = .ok (.iload_n 2, 1) := by decide +kernel
theorem dX3_hasItems_9 : decode cX3_hasItems 9 = .ok (.aload_n 0, 1) := by decide +kernel
theorem dX3_hasItems_10 : decode cX3_hasItems 10 = .ok (.getfield 23, 3) := by decide +kernel
theorem dX3_hasItems_13 : decode cX3_hasItems 13 = .ok (.iload_n 1, 1) := by decide +kernel
theorem dX3_hasItems_14 : decode cX3_hasItems 14 = .ok (.isub, 1) := by decide +kernel
theorem dX3_hasItems_15 : decode cX3_hasItems 15 = .ok (.if_icmp .gt 7, 3) := by decide +kernel
theorem dX3_hasItems_18 : decode cX3_hasItems 18 = .ok (.iconst 1, 1) := by decide +kernel
theorem dX3_hasItems_19 : decode cX3_hasItems 19 = .ok (.goto 4, 3) := by decide +kernel
theorem dX3_hasItems_22 : decode cX3_hasItems 22 = .ok (.iconst 0, 1) := by decide +kernel
theorem dX3_hasItems_23 : decode cX3_hasItems 23 = .ok (.ireturn, 1) := by decide +kernel
theorem dX3_layItem_0 : decode cX3_layItem 0 = .ok (.aload_n 0, 1) := by decide +kernel
theorem dX3_layItem_1 : decode cX3_layItem 1 = .ok (.getfield 19, 3) := by decide +kernel
theorem dX3_layItem_4 : decode cX3_layItem 4 = .ok (.lookupswitch 50 #[(0, 28), (1, 39)], 28) := by decide +kernel
theorem dX3_layItem_32 : decode cX3_layItem 32 = .ok (.aload_n 0, 1) := by decide +kernel
theorem dX3_layItem_33 : decode cX3_layItem 33 = .ok (.getfield 9, 3) := by decide +kernel
theorem dX3_layItem_36 : decode cX3_layItem 36 = .ok (.iload_n 1, 1) := by decide +kernel
theorem dX3_layItem_37 : decode cX3_layItem 37 = .ok (.iload_n 2, 1) := by decide +kernel
theorem dX3_layItem_38 : decode cX3_layItem 38 = .ok (.i2b, 1) := by decide +kernel
theorem dX3_layItem_39 : decode cX3_layItem 39 = .ok (.iastore, 1) := by decide +kernel
theorem dX3_layItem_40 : decode cX3_layItem 40 = .ok (.goto 21, 3) := by decide +kernel
theorem dX3_layItem_43 : decode cX3_layItem 43 = .ok (.aload_n 0, 1) := by decide +kernel
theorem dX3_layItem_44 : decode cX3_layItem 44 = .ok (.getfield 9, 3) := by decide +kernel
theorem dX3_layItem_47 : decode cX3_layItem 47 = .ok (.iload_n 1, 1) := by decide +kernel
theorem dX3_layItem_48 : decode cX3_layItem 48 = .ok (.iload_n 2, 1) := by decide +kernel
theorem dX3_layItem_49 : decode cX3_layItem 49 = .ok (.i2s, 1) := by decide +kernel
theorem dX3_layItem_50 : decode cX3_layItem 50 = .ok (.iastore, 1) := by decide +kernel
theorem dX3_layItem_51 : decode cX3_layItem 51 = .ok (.goto 10, 3) := by decide +kernel
theorem dX3_layItem_54 : decode cX3_layItem 54 = .ok (.aload_n 0, 1) := by decide +kernel
theorem dX3_layItem_55 : decode cX3_layItem 55 = .ok (.getfield 9, 3) := by decide +kernel
theorem dX3_layItem_58 : decode cX3_layItem 58 = .ok (.iload_n 1, 1) := by decide +kernel
theorem dX3_layItem_59 : decode cX3_layItem 59 = .ok (.iload_n 2, 1) := by decide +kernel
theorem dX3_layItem_60 : decode cX3_layItem 60 = .ok (.iastore, 1) := by decide +kernel
theorem dX3_layItem_61 : decode cX3_layItem 61 = .ok (.return_, 1) := by decide +kernel
theorem dX4_init_0 : decode cX4_init 0 = .ok (.aload_n 0, 1) := by decide +kernel
theorem dX4_init_1 : decode cX4_init 1 = .ok (.invokespecial 3, 3) := by decide +kernel
theorem dX4_init_4 : decode cX4_init 4 = .ok (.aload_n 0, 1) := by decide +kernel
theorem dX4_init_5 : decode cX4_init 5 = .ok (.bipush 40, 2) := by decide +kernel
theorem dX4_init_7 : decode cX4_init 7 = .ok (.newarray .int, 2) := by decide +kernel
theorem dX4_init_9 : decode cX4_init 9 = .ok (.putfield 9, 3) := by decide +kernel
theorem dX4_init_12 : decode cX4_init 12 = .ok (.aload_n 0, 1) := by decide +kernel
theorem dX4_init_13 : decode cX4_init 13 = .ok (.bipush 40, 2) := by decide +kernel
theorem dX4_init_15 : decode cX4_init 15 = .ok (.newarray .int, 2) := by decide +kernel
theorem dX4_init_17 : decode cX4_init 17 = .ok (.putfield 15, 3) := by decide +kernel
theorem dX4_init_20 : decode cX4_init 20 = .ok (.aload_n 0, 1) := by decide +kernel
theorem dX4_init_21 : decode cX4_init 21 = .ok (.bipush 40, 2) := by decide +kernel
theorem dX4_init_23 : decode cX4_init 23 = .ok (.newarray .int, 2) := by decide +kernel
theorem dX4_init_25 : decode cX4_init 25 = .ok (.putfield 18, 3) := by decide +kernel
theorem dX4_init_28 : decode cX4_init 28 = .ok (.aload_n 0, 1) := by decide +kernel
theorem dX4_init_29 : decode cX4_init 29 = .ok (.bipush 40, 2) := by decide +kernel
theorem dX4_init_31 : decode cX4_init 31 = .ok (.newarray .int, 2) := by decide +kernel
theorem dX4_init_33 : decode cX4_init 33 = .ok (.putfield 21, 3) := by decide +kernel
theorem dX4_init_36 : decode cX4_init 36 = .ok (.aload_n 0, 1) := by decide +kernel
theorem dX4_init_37 : decode cX4_init 37 = .ok (.bipush 8, 2) := by decide +kernel
theorem dX4_init_39 : decode cX4_init 39 = .ok (.newarray .int, 2) := by decide +kernel
theorem dX4_init_41 : decode cX4_init 41 = .ok (.putfield 24, 3) := by decide +kernel
theorem dX4_init_44 : decode cX4_init 44 = .ok (.aload_n 0, 1) := by decide +kernel
theorem dX4_init_45 : decode cX4_init 45 = .ok (.iconst 0, 1) := by decide +kernel
theorem dX4_init_46 : decode cX4_init 46 = .ok (.putfield 27, 3) := by decide +kernel
theorem dX4_init_49 : decode cX4_init 49 = .ok (.aload_n 0, 1) := by decide +kernel
theorem dX4_init_50 : decode cX4_init 50 = .ok (.iconst 0, 1) := by decide +kernel
theorem dX4_init_51 : decode cX4_init 51 = .ok (.putfield 31, 3) := by decide +kernel
theorem dX4_init_54 : decode cX4_init 54 = .ok (.return_, 1) := by decide +kernel
theorem dX4_append_0 : decode cX4_append 0 = .ok (.aload_n 0, 1) := by decide +kernel
theorem dX4_append_1 : decode cX4_append 1 = .ok (.getfield 9, 3) := by decide +kernel
theorem dX4_append_4 : decode cX4_append 4 = .ok (.aload_n 0, 1) := by decide +kernel
theorem dX4_append_5 : decode cX4_append 5 = .ok (.getfield 27, 3) := by decide +kernel
theorem dX4_append_8 : decode cX4_append 8 = .ok (.iload_n 1, 1) := by decide +kernel
theorem dX4_append_9 : decode cX4_append 9 = .ok (.iastore, 1) := by decide +kernel
theorem dX4_append_10 : decode cX4_append 10 = .ok (.aload_n 0, 1) := by decide +kernel
theorem dX4_append_11 : decode cX4_append 11 = .ok (.getfield 15, 3) := by decide +kernel
theorem dX4_append_14 : decode cX4_append 14 = .ok (.aload_n 0, 1) := by decide +kernel
theorem dX4_append_15 : decode cX4_append 15 = .ok (.getfield 27, 3) := by decide +kernel
theorem dX4_append_18 : decode cX4_append 18 = .ok (.iload_n 2, 1) := by decide +kernel
theorem dX4_append_19 : decode cX4_append 19 = .ok (.iastore, 1) := by decide +kernel
theorem dX4_append_20 : decode cX4_append 20 = .ok (.aload_n 0, 1) := by decide +kernel
theorem dX4_append_21 : decode cX4_append 21 = .ok (.getfield 18, 3) := by decide +kernel
theorem dX4_append_24 : decode cX4_append 24 = .ok (.aload_n 0, 1) := by decide +kernel
theorem dX4_append_25 : decode cX4_append 25 = .ok (.getfield 27, 3) := by decide +kernel
theorem dX4_append_28 : decode cX4_append 28 = .ok (.iload_n 3, 1) := by decide +kernel
theorem dX4_append_29 : decode cX4_append 29 = .ok (.iastore, 1) := by decide +kernel
theorem dX4_append_30 : decode cX4_append 30 = .ok (.aload_n 0, 1) := by decide +kernel
theorem dX4_append_31 : decode cX4_append 31 = .ok (.getfield 21, 3) := by decide +kernel
theorem dX4_append_34 : decode cX4_append 34 = .ok (.aload_n 0, 1) := by decide +kernel
theorem dX4_append_35 : decode cX4_append 35 = .ok (.getfield 27, 3) := by decide +kernel
theorem dX4_append_38 : decode cX4_append 38 = .ok (.aload_n 0, 1) := by decide +kernel
theorem dX4_append_39 : decode cX4_append 39 = .ok (.getfield 31, 3) := by decide +kernel
theorem dX4_append_42 : decode cX4_append 42 = .ok (.iastore, 1) := by decide +kernel
theorem dX4_append_43 : decode cX4_append 43 = .ok (.aload_n 0, 1) := by decide +kernel
theorem dX4_append_44 : decode cX4_append 44 = .ok (.dup, 1) := by decide +kernel
theorem dX4_append_45 : decode cX4_append 45 = .ok (.getfield 27, 3) := by decide +kernel
theorem dX4_append_48 : decode cX4_append 48 = .ok (.iconst 1, 1) := by decide +kernel
theorem dX4_append_49 : decode cX4_append 49 = .ok (.iadd, 1) := by decide +kernel
theorem dX4_append_50 : decode cX4_append 50 = .ok (.putfield 27, 3) := by decide +kernel
theorem dX4_append_53 : decode cX4_append 53 = .ok (.return_, 1) := by decide +kernel
theorem dX4_openNext_0 : decode cX4_openNext 0 = .ok (.aload_n 0, 1) := by decide +kernel
theorem dX4_openNext_1 : decode cX4_openNext 1 = .ok (.dup, 1) := by decide +kernel
theorem dX4_openNext_2 : decode cX4_openNext 2 = .ok (.getfield 31, 3) := by decide +kernel
theorem dX4_openNext_5 : decode cX4_openNext 5 = .ok (.iconst 1, 1) := by decide +kernel
theorem dX4_openNext_6 : decode cX4_openNext 6 = .ok (.iadd, 1) := by decide +kernel
theorem dX4_openNext_7 : decode cX4_openNext 7 = .ok (.putfield 31, 3) := by decide +kernel
theorem dX4_openNext_10 : decode cX4_openNext 10 = .ok (.aload_n 0, 1) := by decide +kernel
theorem dX4_openNext_11 : decode cX4_openNext 11 = .ok (.getfield 24, 3) := by decide +kernel
theorem dX4_openNext_14 : decode cX4_openNext 14 = .ok (.aload_n 0, 1) := by decide +kernel
theorem dX4_openNext_15 : decode cX4_openNext 15 = .ok (.getfield 31, 3) := by decide +kernel
theorem dX4_openNext_18 : decode cX4_openNext 18 = .ok (.aload_n 0, 1) := by decide +kernel
theorem dX4_openNext_19 : decode cX4_openNext 19 = .ok (.getfield 27, 3) := by decide +kernel
theorem dX4_openNext_22 : decode cX4_openNext 22 = .ok (.iastore, 1) := by decide +kernel
theorem dX4_openNext_23 : decode cX4_openNext 23 = .ok (.return_, 1) := by decide +kernel
theorem dX4_has_0 : decode cX4_has 0 = .ok (.iload_n 1, 1) := by decide +kernel
theorem dX4_has_1 : decode cX4_has 1 = .ok (.ifCond .lt 15, 3) := by decide +kernel
theorem dX4_has_4 : decode cX4_has 4 = .ok (.iload_n 1, 1) := by decide +kernel
theorem dX4_has_5 : decode cX4_has 5 = .ok (.aload_n 0, 1) := by decide +kernel
theorem dX4_has_6 : decode cX4_has 6 = .ok (.getfield 27, 3) := by decide +kernel
theorem dX4_has_9 : decode cX4_has 9 = .ok (.if_icmp .ge 7, 3) := by decide +kernel
theorem dX4_has_12 : decode cX4_has 12 = .ok (.iconst 1, 1) := by decide +kernel
theorem dX4_has_13 : decode cX4_has 13 = .ok (.goto 4, 3) := by decide +kernel
theorem dX4_has_16 : decode cX4_has 16 = .ok (.iconst 0, 1) := by decide +kernel
theorem dX4_has_17 : decode cX4_has 17 = .ok (.ireturn, 1) := by decide +kernel
theorem dX4_hasRevision_0 : decode cX4_hasRevision 0 = .ok (.iload_n 1, 1) := by decide +kernel
theorem dX4_hasRevision_1 : decode cX4_hasRevision 1 = .ok (.ifCond .lt 15, 3) := by decide +kernel
theorem dX4_hasRevision_4 : decode cX4_hasRevision 4 = .ok (.iload_n 1, 1) := by decide +kernel
theorem dX4_hasRevision_5 : decode cX4_hasRevision 5 = .ok (.aload_n 0, 1) := by decide +kernel
theorem dX4_hasRevision_6 : decode cX4_hasRevision 6 = .ok (.getfield 31, 3) := by decide +kernel
theorem dX4_hasRevision_9 : decode cX4_hasRevision 9 = .ok (.if_icmp .gt 7, 3) := by decide +kernel
theorem dX4_hasRevision_12 : decode cX4_hasRevision 12 = .ok (.iconst 1, 1) := by decide +kernel
theorem dX4_hasRevision_13 : decode cX4_hasRevision 13 = .ok (.goto 4, 3) := by decide +kernel
theorem dX4_hasRevision_16 : decode cX4_hasRevision 16 = .ok (.iconst 0, 1) := by decide +kernel
theorem dX4_hasRevision_17 : decode cX4_hasRevision 17 = .ok (.ireturn, 1) := by decide +kernel
theorem dX4_openIsEmpty_0 : decode cX4_openIsEmpty 0 = .ok (.aload_n 0, 1) := by decide +kernel
theorem dX4_openIsEmpty_1 : decode cX4_openIsEmpty 1 = .ok (.getfield 24, 3) := by decide +kernel
theorem dX4_openIsEmpty_4 : decode cX4_openIsEmpty 4 = .ok (.aload_n 0, 1) := by decide +kernel
theorem dX4_openIsEmpty_5 : decode cX4_openIsEmpty 5 = .ok (.getfield 31, 3) := by decide +kernel
theorem dX4_openIsEmpty_8 : decode cX4_openIsEmpty 8 = .ok (.iaload, 1) := by decide +kernel
theorem dX4_openIsEmpty_9 : decode cX4_openIsEmpty 9 = .ok (.aload_n 0, 1) := by decide +kernel
theorem dX4_openIsEmpty_10 : decode cX4_openIsEmpty 10 = .ok (.getfield 27, 3) := by decide +kernel
theorem dX4_openIsEmpty_13 : decode cX4_openIsEmpty 13 = .ok (.if_icmp .lt 7, 3) := by decide +kernel
theorem dX4_openIsEmpty_16 : decode cX4_openIsEmpty 16 = .ok (.iconst 1, 1) := by decide +kernel
theorem dX4_openIsEmpty_17 : decode cX4_openIsEmpty 17 = .ok (.goto 4, 3) := by decide +kernel
theorem dX4_openIsEmpty_20 : decode cX4_openIsEmpty 20 = .ok (.iconst 0, 1) := by decide +kernel
theorem dX4_openIsEmpty_21 : decode cX4_openIsEmpty 21 = .ok (.ireturn, 1) := by decide +kernel
theorem dX4_isSeal_0 : decode cX4_isSeal 0 = .ok (.aload_n 0, 1) := by decide +kernel
theorem dX4_isSeal_1 : decode cX4_isSeal 1 = .ok (.getfield 15, 3) := by decide +kernel
theorem dX4_isSeal_4 : decode cX4_isSeal 4 = .ok (.iload_n 1, 1) := by decide +kernel
theorem dX4_isSeal_5 : decode cX4_isSeal 5 = .ok (.iaload, 1) := by decide +kernel
theorem dX4_isSeal_6 : decode cX4_isSeal 6 = .ok (.iconst 4, 1) := by decide +kernel
theorem dX4_isSeal_7 : decode cX4_isSeal 7 = .ok (.if_icmp .ne 7, 3) := by decide +kernel
theorem dX4_isSeal_10 : decode cX4_isSeal 10 = .ok (.iconst 1, 1) := by decide +kernel
theorem dX4_isSeal_11 : decode cX4_isSeal 11 = .ok (.goto 4, 3) := by decide +kernel
theorem dX4_isSeal_14 : decode cX4_isSeal 14 = .ok (.iconst 0, 1) := by decide +kernel
theorem dX4_isSeal_15 : decode cX4_isSeal 15 = .ok (.ireturn, 1) := by decide +kernel
theorem dX4_isClosed_0 : decode cX4_isClosed 0 = .ok (.aload_n 0, 1) := by decide +kernel
theorem dX4_isClosed_1 : decode cX4_isClosed 1 = .ok (.getfield 21, 3) := by decide +kernel
theorem dX4_isClosed_4 : decode cX4_isClosed 4 = .ok (.iload_n 1, 1) := by decide +kernel
theorem dX4_isClosed_5 : decode cX4_isClosed 5 = .ok (.iaload, 1) := by decide +kernel
theorem dX4_isClosed_6 : decode cX4_isClosed 6 = .ok (.aload_n 0, 1) := by decide +kernel
theorem dX4_isClosed_7 : decode cX4_isClosed 7 = .ok (.getfield 31, 3) := by decide +kernel
theorem dX4_isClosed_10 : decode cX4_isClosed 10 = .ok (.if_icmp .ge 7, 3) := by decide +kernel
theorem dX4_isClosed_13 : decode cX4_isClosed 13 = .ok (.iconst 1, 1) := by decide +kernel
theorem dX4_isClosed_14 : decode cX4_isClosed 14 = .ok (.goto 4, 3) := by decide +kernel
theorem dX4_isClosed_17 : decode cX4_isClosed 17 = .ok (.iconst 0, 1) := by decide +kernel
theorem dX4_isClosed_18 : decode cX4_isClosed 18 = .ok (.ireturn, 1) := by decide +kernel
theorem dX4_isClosedSeal_0 : decode cX4_isClosedSeal 0 = .ok (.aload_n 0, 1) := by decide +kernel
theorem dX4_isClosedSeal_1 : decode cX4_isClosedSeal 1 = .ok (.iload_n 1, 1) := by decide +kernel
theorem dX4_isClosedSeal_2 : decode cX4_isClosedSeal 2 = .ok (.invokevirtual 34, 3) := by decide +kernel
theorem dX4_isClosedSeal_5 : decode cX4_isClosedSeal 5 = .ok (.ifCond .eq 15, 3) := by decide +kernel
theorem dX4_isClosedSeal_8 : decode cX4_isClosedSeal 8 = .ok (.aload_n 0, 1) := by decide +kernel
theorem dX4_isClosedSeal_9 : decode cX4_isClosedSeal 9 = .ok (.iload_n 1, 1) := by decide +kernel
theorem dX4_isClosedSeal_10 : decode cX4_isClosedSeal 10 = .ok (.invokevirtual 38, 3) := by decide +kernel
theorem dX4_isClosedSeal_13 : decode cX4_isClosedSeal 13 = .ok (.ifCond .eq 7, 3) := by decide +kernel
theorem dX4_isClosedSeal_16 : decode cX4_isClosedSeal 16 = .ok (.iconst 1, 1) := by decide +kernel
theorem dX4_isClosedSeal_17 : decode cX4_isClosedSeal 17 = .ok (.goto 4, 3) := by decide +kernel
theorem dX4_isClosedSeal_20 : decode cX4_isClosedSeal 20 = .ok (.iconst 0, 1) := by decide +kernel
theorem dX4_isClosedSeal_21 : decode cX4_isClosedSeal 21 = .ok (.ireturn, 1) := by decide +kernel
theorem dX4_unlike_0 : decode cX4_unlike 0 = .ok (.aload_n 0, 1) := by decide +kernel
theorem dX4_unlike_1 : decode cX4_unlike 1 = .ok (.getfield 15, 3) := by decide +kernel
theorem dX4_unlike_4 : decode cX4_unlike 4 = .ok (.iload_n 1, 1) := by decide +kernel
theorem dX4_unlike_5 : decode cX4_unlike 5 = .ok (.iaload, 1) := by decide +kernel
theorem dX4_unlike_6 : decode cX4_unlike 6 = .ok (.aload_n 0, 1) := by decide +kernel
theorem dX4_unlike_7 : decode cX4_unlike 7 = .ok (.getfield 15, 3) := by decide +kernel
theorem dX4_unlike_10 : decode cX4_unlike 10 = .ok (.iload_n 2, 1) := by decide +kernel
theorem dX4_unlike_11 : decode cX4_unlike 11 = .ok (.iaload, 1) := by decide +kernel
theorem dX4_unlike_12 : decode cX4_unlike 12 = .ok (.if_icmp .ne 18, 3) := by decide +kernel
theorem dX4_unlike_15 : decode cX4_unlike 15 = .ok (.aload_n 0, 1) := by decide +kernel
theorem dX4_unlike_16 : decode cX4_unlike 16 = .ok (.getfield 18, 3) := by decide +kernel
theorem dX4_unlike_19 : decode cX4_unlike 19 = .ok (.iload_n 1, 1) := by decide +kernel
theorem dX4_unlike_20 : decode cX4_unlike 20 = .ok (.iaload, 1) := by decide +kernel
theorem dX4_unlike_21 : decode cX4_unlike 21 = .ok (.aload_n 0, 1) := by decide +kernel
theorem dX4_unlike_22 : decode cX4_unlike 22 = .ok (.getfield 18, 3) := by decide +kernel
theorem dX4_unlike_25 : decode cX4_unlike 25 = .ok (.iload_n 2, 1) := by decide +kernel
theorem dX4_unlike_26 : decode cX4_unlike 26 = .ok (.iaload, 1) := by decide +kernel
theorem dX4_unlike_27 : decode cX4_unlike 27 = .ok (.if_icmp .eq 7, 3) := by decide +kernel
theorem dX4_unlike_30 : decode cX4_unlike 30 = .ok (.iconst 1, 1) := by decide +kernel
theorem dX4_unlike_31 : decode cX4_unlike 31 = .ok (.goto 4, 3) := by decide +kernel
theorem dX4_unlike_34 : decode cX4_unlike 34 = .ok (.iconst 0, 1) := by decide +kernel
theorem dX4_unlike_35 : decode cX4_unlike 35 = .ok (.ireturn, 1) := by decide +kernel
theorem dX4_kindOrGone_0 : decode cX4_kindOrGone 0 = .ok (.iload_n 1, 1) := by decide +kernel
theorem dX4_kindOrGone_1 : decode cX4_kindOrGone 1 = .ok (.ifCond .lt 20, 3) := by decide +kernel
theorem dX4_kindOrGone_4 : decode cX4_kindOrGone 4 = .ok (.iload_n 1, 1) := by decide +kernel
theorem dX4_kindOrGone_5 : decode cX4_kindOrGone 5 = .ok (.aload_n 0, 1) := by decide +kernel
theorem dX4_kindOrGone_6 : decode cX4_kindOrGone 6 = .ok (.getfield 27, 3) := by decide +kernel
theorem dX4_kindOrGone_9 : decode cX4_kindOrGone 9 = .ok (.if_icmp .ge 12, 3) := by decide +kernel
theorem dX4_kindOrGone_12 : decode cX4_kindOrGone 12 = .ok (.aload_n 0, 1) := by decide +kernel
theorem dX4_kindOrGone_13 : decode cX4_kindOrGone 13 = .ok (.getfield 15, 3) := by decide +kernel
theorem dX4_kindOrGone_16 : decode cX4_kindOrGone 16 = .ok (.iload_n 1, 1) := by decide +kernel
theorem dX4_kindOrGone_17 : decode cX4_kindOrGone 17 = .ok (.iaload, 1) := by decide +kernel
theorem dX4_kindOrGone_18 : decode cX4_kindOrGone 18 = .ok (.goto 4, 3) := by decide +kernel
theorem dX4_kindOrGone_21 : decode cX4_kindOrGone 21 = .ok (.iconst 5, 1) := by decide +kernel
theorem dX4_kindOrGone_22 : decode cX4_kindOrGone 22 = .ok (.ireturn, 1) := by decide +kernel
theorem dX4_behind_0 : decode cX4_behind 0 = .ok (.iload_n 1, 1) := by decide +kernel
theorem dX4_behind_1 : decode cX4_behind 1 = .ok (.aload_n 0, 1) := by decide +kernel
theorem dX4_behind_2 : decode cX4_behind 2 = .ok (.getfield 31, 3) := by decide +kernel
theorem dX4_behind_5 : decode cX4_behind 5 = .ok (.if_icmp .ge 14, 3) := by decide +kernel
theorem dX4_behind_8 : decode cX4_behind 8 = .ok (.aload_n 0, 1) := by decide +kernel
theorem dX4_behind_9 : decode cX4_behind 9 = .ok (.getfield 24, 3) := by decide +kernel
theorem dX4_behind_12 : decode cX4_behind 12 = .ok (.iload_n 1, 1) := by decide +kernel
theorem dX4_behind_13 : decode cX4_behind 13 = .ok (.iconst 1, 1) := by decide +kernel
theorem dX4_behind_14 : decode cX4_behind 14 = .ok (.iadd, 1) := by decide +kernel
theorem dX4_behind_15 : decode cX4_behind 15 = .ok (.iaload, 1) := by decide +kernel
theorem dX4_behind_16 : decode cX4_behind 16 = .ok (.goto 7, 3) := by decide +kernel
theorem dX4_behind_19 : decode cX4_behind 19 = .ok (.aload_n 0, 1) := by decide +kernel
theorem dX4_behind_20 : decode cX4_behind 20 = .ok (.getfield 27, 3) := by decide +kernel
theorem dX4_behind_23 : decode cX4_behind 23 = .ok (.ireturn, 1) := by decide +kernel
theorem dX4_firstByte_0 : decode cX4_firstByte 0 = .ok (.iconst 5, 1) := by decide +kernel
theorem dX4_firstByte_1 : decode cX4_firstByte 1 = .ok (.iload_n 1, 1) := by decide +kernel
theorem dX4_firstByte_2 : decode cX4_firstByte 2 = .ok (.imul, 1) := by decide +kernel
theorem dX4_firstByte_3 : decode cX4_firstByte 3 = .ok (.iconst 2, 1) := by decide +kernel
theorem dX4_firstByte_4 : decode cX4_firstByte 4 = .ok (.aload_n 0, 1) := by decide +kernel
theorem dX4_firstByte_5 : decode cX4_firstByte 5 = .ok (.getfield 21, 3) := by decide +kernel
theorem dX4_firstByte_8 : decode cX4_firstByte 8 = .ok (.iload_n 1, 1) := by decide +kernel
theorem dX4_firstByte_9 : decode cX4_firstByte 9 = .ok (.iaload, 1) := by decide +kernel
theorem dX4_firstByte_10 : decode cX4_firstByte 10 = .ok (.imul, 1) := by decide +kernel
theorem dX4_firstByte_11 : decode cX4_firstByte 11 = .ok (.iadd, 1) := by decide +kernel
theorem dX4_firstByte_12 : decode cX4_firstByte 12 = .ok (.ireturn, 1) := by decide +kernel
theorem dX4_firstByteOf_0 : decode cX4_firstByteOf 0 = .ok (.iconst 5, 1) := by decide +kernel
theorem dX4_firstByteOf_1 : decode cX4_firstByteOf 1 = .ok (.aload_n 0, 1) := by decide +kernel
theorem dX4_firstByteOf_2 : decode cX4_firstByteOf 2 = .ok (.getfield 24, 3) := by decide +kernel
theorem dX4_firstByteOf_5 : decode cX4_firstByteOf 5 = .ok (.iload_n 1, 1) := by decide +kernel
theorem dX4_firstByteOf_6 : decode cX4_firstByteOf 6 = .ok (.iaload, 1) := by decide +kernel
theorem dX4_firstByteOf_7 : decode cX4_firstByteOf 7 = .ok (.imul, 1) := by decide +kernel
theorem dX4_firstByteOf_8 : decode cX4_firstByteOf 8 = .ok (.iconst 2, 1) := by decide +kernel
theorem dX4_firstByteOf_9 : decode cX4_firstByteOf 9 = .ok (.iload_n 1, 1) := by decide +kernel
theorem dX4_firstByteOf_10 : decode cX4_firstByteOf 10 = .ok (.imul, 1) := by decide +kernel
theorem dX4_firstByteOf_11 : decode cX4_firstByteOf 11 = .ok (.iadd, 1) := by decide +kernel
theorem dX4_firstByteOf_12 : decode cX4_firstByteOf 12 = .ok (.ireturn, 1) := by decide +kernel
theorem dX4_behindBytesOf_0 : decode cX4_behindBytesOf 0 = .ok (.iload_n 1, 1) := by decide +kernel
theorem dX4_behindBytesOf_1 : decode cX4_behindBytesOf 1 = .ok (.aload_n 0, 1) := by decide +kernel
theorem dX4_behindBytesOf_2 : decode cX4_behindBytesOf 2 = .ok (.getfield 31, 3) := by decide +kernel
theorem dX4_behindBytesOf_5 : decode cX4_behindBytesOf 5 = .ok (.if_icmp .ge 22, 3) := by decide +kernel
theorem dX4_behindBytesOf_8 : decode cX4_behindBytesOf 8 = .ok (.iconst 5, 1) := by decide +kernel
theorem dX4_behindBytesOf_9 : decode cX4_behindBytesOf 9 = .ok (.aload_n 0, 1) := by decide +kernel
theorem dX4_behindBytesOf_10 : decode cX4_behindBytesOf 10 = .ok (.getfield 24, 3) := by decide +kernel
theorem dX4_behindBytesOf_13 : decode cX4_behindBytesOf 13 = .ok (.iload_n 1, 1) := by decide +kernel
theorem dX4_behindBytesOf_14 : decode cX4_behindBytesOf 14 = .ok (.iconst 1, 1) := by decide +kernel
theorem dX4_behindBytesOf_15 : decode cX4_behindBytesOf 15 = .ok (.iadd, 1) := by decide +kernel
theorem dX4_behindBytesOf_16 : decode cX4_behindBytesOf 16 = .ok (.iaload, 1) := by decide +kernel
theorem dX4_behindBytesOf_17 : decode cX4_behindBytesOf 17 = .ok (.imul, 1) := by decide +kernel
theorem dX4_behindBytesOf_18 : decode cX4_behindBytesOf 18 = .ok (.iconst 2, 1) := by decide +kernel
theorem dX4_behindBytesOf_19 : decode cX4_behindBytesOf 19 = .ok (.iload_n 1, 1) := by decide +kernel
theorem dX4_behindBytesOf_20 : decode cX4_behindBytesOf 20 = .ok (.iconst 1, 1) := by decide +kernel
theorem dX4_behindBytesOf_21 : decode cX4_behindBytesOf 21 = .ok (.iadd, 1) := by decide +kernel
theorem dX4_behindBytesOf_22 : decode cX4_behindBytesOf 22 = .ok (.imul, 1) := by decide +kernel
theorem dX4_behindBytesOf_23 : decode cX4_behindBytesOf 23 = .ok (.iadd, 1) := by decide +kernel
theorem dX4_behindBytesOf_24 : decode cX4_behindBytesOf 24 = .ok (.goto 13, 3) := by decide +kernel
theorem dX4_behindBytesOf_27 : decode cX4_behindBytesOf 27 = .ok (.iconst 5, 1) := by decide +kernel
theorem dX4_behindBytesOf_28 : decode cX4_behindBytesOf 28 = .ok (.aload_n 0, 1) := by decide +kernel
theorem dX4_behindBytesOf_29 : decode cX4_behindBytesOf 29 = .ok (.getfield 27, 3) := by decide +kernel
theorem dX4_behindBytesOf_32 : decode cX4_behindBytesOf 32 = .ok (.imul, 1) := by decide +kernel
theorem dX4_behindBytesOf_33 : decode cX4_behindBytesOf 33 = .ok (.iconst 2, 1) := by decide +kernel
theorem dX4_behindBytesOf_34 : decode cX4_behindBytesOf 34 = .ok (.iload_n 1, 1) := by decide +kernel
theorem dX4_behindBytesOf_35 : decode cX4_behindBytesOf 35 = .ok (.imul, 1) := by decide +kernel
theorem dX4_behindBytesOf_36 : decode cX4_behindBytesOf 36 = .ok (.iadd, 1) := by decide +kernel
theorem dX4_behindBytesOf_37 : decode cX4_behindBytesOf 37 = .ok (.ireturn, 1) := by decide +kernel
theorem dX5_init_0 : decode cX5_init 0 = .ok (.aload_n 0, 1) := by decide +kernel
theorem dX5_init_1 : decode cX5_init 1 = .ok (.invokespecial 3, 3) := by decide +kernel
theorem dX5_init_4 : decode cX5_init 4 = .ok (.aload_n 0, 1) := by decide +kernel
theorem dX5_init_5 : decode cX5_init 5 = .ok (.new 9, 3) := by decide +kernel
theorem dX5_init_8 : decode cX5_init 8 = .ok (.dup, 1) := by decide +kernel
theorem dX5_init_9 : decode cX5_init 9 = .ok (.invokespecial 11, 3) := by decide +kernel
theorem dX5_init_12 : decode cX5_init 12 = .ok (.putfield 12, 3) := by decide +kernel
theorem dX5_init_15 : decode cX5_init 15 = .ok (.aload_n 0, 1) := by decide +kernel
theorem dX5_init_16 : decode cX5_init 16 = .ok (.new 16, 3) := by decide +kernel
theorem dX5_init_19 : decode cX5_init 19 = .ok (.dup, 1) := by decide +kernel
theorem dX5_init_20 : decode cX5_init 20 = .ok (.invokespecial 18, 3) := by decide +kernel
theorem dX5_init_23 : decode cX5_init 23 = .ok (.putfield 19, 3) := by decide +kernel
theorem dX5_init_26 : decode cX5_init 26 = .ok (.aload_n 0, 1) := by decide +kernel
theorem dX5_init_27 : decode cX5_init 27 = .ok (.new 23, 3) := by decide +kernel
theorem dX5_init_30 : decode cX5_init 30 = .ok (.dup, 1) := by decide +kernel
theorem dX5_init_31 : decode cX5_init 31 = .ok (.aload_n 0, 1) := by decide +kernel
theorem dX5_init_32 : decode cX5_init 32 = .ok (.getfield 12, 3) := by decide +kernel
theorem dX5_init_35 : decode cX5_init 35 = .ok (.aload_n 0, 1) := by decide +kernel
theorem dX5_init_36 : decode cX5_init 36 = .ok (.getfield 19, 3) := by decide +kernel
theorem dX5_init_39 : decode cX5_init 39 = .ok (.invokespecial 25, 3) := by decide +kernel
theorem dX5_init_42 : decode cX5_init 42 = .ok (.putfield 28, 3) := by decide +kernel
theorem dX5_init_45 : decode cX5_init 45 = .ok (.aload_n 0, 1) := by decide +kernel
theorem dX5_init_46 : decode cX5_init 46 = .ok (.new 32, 3) := by decide +kernel
theorem dX5_init_49 : decode cX5_init 49 = .ok (.dup, 1) := by decide +kernel
theorem dX5_init_50 : decode cX5_init 50 = .ok (.aload_n 0, 1) := by decide +kernel
theorem dX5_init_51 : decode cX5_init 51 = .ok (.getfield 12, 3) := by decide +kernel
theorem dX5_init_54 : decode cX5_init 54 = .ok (.invokespecial 34, 3) := by decide +kernel
theorem dX5_init_57 : decode cX5_init 57 = .ok (.putfield 37, 3) := by decide +kernel
theorem dX5_init_60 : decode cX5_init 60 = .ok (.aload_n 0, 1) := by decide +kernel
theorem dX5_init_61 : decode cX5_init 61 = .ok (.new 32, 3) := by decide +kernel
theorem dX5_init_64 : decode cX5_init 64 = .ok (.dup, 1) := by decide +kernel
theorem dX5_init_65 : decode cX5_init 65 = .ok (.aload_n 0, 1) := by decide +kernel
theorem dX5_init_66 : decode cX5_init 66 = .ok (.getfield 12, 3) := by decide +kernel
theorem dX5_init_69 : decode cX5_init 69 = .ok (.invokespecial 34, 3) := by decide +kernel
theorem dX5_init_72 : decode cX5_init 72 = .ok (.putfield 41, 3) := by decide +kernel
theorem dX5_init_75 : decode cX5_init 75 = .ok (.aload_n 0, 1) := by decide +kernel
theorem dX5_init_76 : decode cX5_init 76 = .ok (.iconst 4, 1) := by decide +kernel
theorem dX5_init_77 : decode cX5_init 77 = .ok (.anewarray 44, 3) := by decide +kernel
theorem dX5_init_80 : decode cX5_init 80 = .ok (.putfield 46, 3) := by decide +kernel
theorem dX5_init_83 : decode cX5_init 83 = .ok (.aload_n 0, 1) := by decide +kernel
theorem dX5_init_84 : decode cX5_init 84 = .ok (.iconst 0, 1) := by decide +kernel
theorem dX5_init_85 : decode cX5_init 85 = .ok (.putfield 50, 3) := by decide +kernel
theorem dX5_init_88 : decode cX5_init 88 = .ok (.iconst 0, 1) := by decide +kernel
theorem dX5_init_89 : decode cX5_init 89 = .ok (.istore_n 1, 1) := by decide +kernel
theorem dX5_init_90 : decode cX5_init 90 = .ok (.iload_n 1, 1) := by decide +kernel
theorem dX5_init_91 : decode cX5_init 91 = .ok (.iconst 4, 1) := by decide +kernel
theorem dX5_init_92 : decode cX5_init 92 = .ok (.if_icmp .ge 22, 3) := by decide +kernel
theorem dX5_init_95 : decode cX5_init 95 = .ok (.aload_n 0, 1) := by decide +kernel
theorem dX5_init_96 : decode cX5_init 96 = .ok (.getfield 46, 3) := by decide +kernel
theorem dX5_init_99 : decode cX5_init 99 = .ok (.iload_n 1, 1) := by decide +kernel
theorem dX5_init_100 : decode cX5_init 100 = .ok (.new 44, 3) := by decide +kernel
theorem dX5_init_103 : decode cX5_init 103 = .ok (.dup, 1) := by decide +kernel
theorem dX5_init_104 : decode cX5_init 104 = .ok (.invokespecial 54, 3) := by decide +kernel
theorem dX5_init_107 : decode cX5_init 107 = .ok (.aastore, 1) := by decide +kernel
theorem dX5_init_108 : decode cX5_init 108 = .ok (.iinc 1 1, 3) := by decide +kernel
theorem dX5_init_111 : decode cX5_init 111 = .ok (.goto (-21), 3) := by decide +kernel
theorem dX5_init_114 : decode cX5_init 114 = .ok (.aload_n 0, 1) := by decide +kernel
theorem dX5_init_115 : decode cX5_init 115 = .ok (.getfield 37, 3) := by decide +kernel
theorem dX5_init_118 : decode cX5_init 118 = .ok (.iconst (-1), 1) := by decide +kernel
theorem dX5_init_119 : decode cX5_init 119 = .ok (.invokevirtual 55, 3) := by decide +kernel
theorem dX5_init_122 : decode cX5_init 122 = .ok (.return_, 1) := by decide +kernel
theorem dX5_put_0 : decode cX5_put 0 = .ok (.aload_n 0, 1) := by decide +kernel
theorem dX5_put_1 : decode cX5_put 1 = .ok (.iload_n 1, 1) := by decide +kernel
theorem dX5_put_2 : decode cX5_put 2 = .ok (.iload_n 2, 1) := by decide +kernel
theorem dX5_put_3 : decode cX5_put 3 = .ok (.iload_n 3, 1) := by decide +kernel
theorem dX5_put_4 : decode cX5_put 4 = .ok (.invokevirtual 59, 3) := by decide +kernel
theorem dX5_put_7 : decode cX5_put 7 = .ok (.istore 4, 2) := by decide +kernel
theorem dX5_put_9 : decode cX5_put 9 = .ok (.aload_n 0, 1) := by decide +kernel
theorem dX5_put_10 : decode cX5_put 10 = .ok (.invokevirtual 63, 3) := by decide +kernel
theorem dX5_put_13 : decode cX5_put 13 = .ok (.iload 4, 2) := by decide +kernel
theorem dX5_put_15 : decode cX5_put 15 = .ok (.ireturn, 1) := by decide +kernel
theorem dX5_close_0 : decode cX5_close 0 = .ok (.aload_n 0, 1) := by decide +kernel
theorem dX5_close_1 : decode cX5_close 1 = .ok (.getfield 12, 3) := by decide +kernel
theorem dX5_close_4 : decode cX5_close 4 = .ok (.invokevirtual 66, 3) := by decide +kernel
theorem dX5_close_7 : decode cX5_close 7 = .ok (.ifCond .eq 6, 3) := by decide +kernel
theorem dX5_close_10 : decode cX5_close 10 = .ok (.bipush (-3), 2) := by decide +kernel
theorem dX5_close_12 : decode cX5_close 12 = .ok (.ireturn, 1) := by decide +kernel
theorem dX5_close_13 : decode cX5_close 13 = .ok (.aload_n 0, 1) := by decide +kernel
theorem dX5_close_14 : decode cX5_close 14 = .ok (.getfield 12, 3) := by decide +kernel
theorem dX5_close_17 : decode cX5_close 17 = .ok (.getfield 70, 3) := by decide +kernel
theorem dX5_close_20 : decode cX5_close 20 = .ok (.bipush 7, 2) := by decide +kernel
theorem dX5_close_22 : decode cX5_close 22 = .ok (.if_icmp .lt 6, 3) := by decide +kernel
theorem dX5_close_25 : decode cX5_close 25 = .ok (.bipush (-4), 2) := by decide +kernel
theorem dX5_close_27 : decode cX5_close 27 = .ok (.ireturn, 1) := by decide +kernel
theorem dX5_close_28 : decode cX5_close 28 = .ok (.aload_n 0, 1) := by decide +kernel
theorem dX5_close_29 : decode cX5_close 29 = .ok (.getfield 19, 3) := by decide +kernel
theorem dX5_close_32 : decode cX5_close 32 = .ok (.aload_n 0, 1) := by decide +kernel
theorem dX5_close_33 : decode cX5_close 33 = .ok (.getfield 12, 3) := by decide +kernel
theorem dX5_close_36 : decode cX5_close 36 = .ok (.getfield 70, 3) := by decide +kernel
theorem dX5_close_39 : decode cX5_close 39 = .ok (.invokevirtual 73, 3) := by decide +kernel
theorem dX5_close_42 : decode cX5_close 42 = .ok (.aload_n 0, 1) := by decide +kernel
theorem dX5_close_43 : decode cX5_close 43 = .ok (.getfield 12, 3) := by decide +kernel
theorem dX5_close_46 : decode cX5_close 46 = .ok (.invokevirtual 76, 3) := by decide +kernel
theorem dX5_close_49 : decode cX5_close 49 = .ok (.aload_n 0, 1) := by decide +kernel
theorem dX5_close_50 : decode cX5_close 50 = .ok (.getfield 28, 3) := by decide +kernel
theorem dX5_close_53 : decode cX5_close 53 = .ok (.aload_n 0, 1) := by decide +kernel
theorem dX5_close_54 : decode cX5_close 54 = .ok (.getfield 12, 3) := by decide +kernel
theorem dX5_close_57 : decode cX5_close 57 = .ok (.getfield 70, 3) := by decide +kernel
theorem dX5_close_60 : decode cX5_close 60 = .ok (.iconst 1, 1) := by decide +kernel
theorem dX5_close_61 : decode cX5_close 61 = .ok (.isub, 1) := by decide +kernel
theorem dX5_close_62 : decode cX5_close 62 = .ok (.invokevirtual 79, 3) := by decide +kernel
theorem dX5_close_65 : decode cX5_close 65 = .ok (.aload_n 0, 1) := by decide +kernel
theorem dX5_close_66 : decode cX5_close 66 = .ok (.invokevirtual 63, 3) := by decide +kernel
theorem dX5_close_69 : decode cX5_close 69 = .ok (.aload_n 0, 1) := by decide +kernel
theorem dX5_close_70 : decode cX5_close 70 = .ok (.getfield 12, 3) := by decide +kernel
theorem dX5_close_73 : decode cX5_close 73 = .ok (.getfield 70, 3) := by decide +kernel
theorem dX5_close_76 : decode cX5_close 76 = .ok (.ireturn, 1) := by decide +kernel
theorem dX5_undo_0 : decode cX5_undo 0 = .ok (.aload_n 0, 1) := by decide +kernel
theorem dX5_undo_1 : decode cX5_undo 1 = .ok (.getfield 12, 3) := by decide +kernel
theorem dX5_undo_4 : decode cX5_undo 4 = .ok (.invokevirtual 66, 3) := by decide +kernel
theorem dX5_undo_7 : decode cX5_undo 7 = .ok (.ifCond .eq 6, 3) := by decide +kernel
theorem dX5_undo_10 : decode cX5_undo 10 = .ok (.bipush (-3), 2) := by decide +kernel
theorem dX5_undo_12 : decode cX5_undo 12 = .ok (.ireturn, 1) := by decide +kernel
theorem dX5_undo_13 : decode cX5_undo 13 = .ok (.aload_n 0, 1) := by decide +kernel
theorem dX5_undo_14 : decode cX5_undo 14 = .ok (.getfield 12, 3) := by decide +kernel
theorem dX5_undo_17 : decode cX5_undo 17 = .ok (.dup, 1) := by decide +kernel
theorem dX5_undo_18 : decode cX5_undo 18 = .ok (.getfield 82, 3) := by decide +kernel
theorem dX5_undo_21 : decode cX5_undo 21 = .ok (.iconst 1, 1) := by decide +kernel
theorem dX5_undo_22 : decode cX5_undo 22 = .ok (.isub, 1) := by decide +kernel
theorem dX5_undo_23 : decode cX5_undo 23 = .ok (.putfield 82, 3) := by decide +kernel
theorem dX5_undo_26 : decode cX5_undo 26 = .ok (.aload_n 0, 1) := by decide +kernel
theorem dX5_undo_27 : decode cX5_undo 27 = .ok (.getfield 19, 3) := by decide +kernel
theorem dX5_undo_30 : decode cX5_undo 30 = .ok (.invokevirtual 85, 3) := by decide +kernel
theorem dX5_undo_33 : decode cX5_undo 33 = .ok (.aload_n 0, 1) := by decide +kernel
theorem dX5_undo_34 : decode cX5_undo 34 = .ok (.invokevirtual 63, 3) := by decide +kernel
theorem dX5_undo_37 : decode cX5_undo 37 = .ok (.aload_n 0, 1) := by decide +kernel
theorem dX5_undo_38 : decode cX5_undo 38 = .ok (.getfield 12, 3) := by decide +kernel
theorem dX5_undo_41 : decode cX5_undo 41 = .ok (.getfield 82, 3) := by decide +kernel
theorem dX5_undo_44 : decode cX5_undo 44 = .ok (.ireturn, 1) := by decide +kernel
theorem dX5_cover_0 : decode cX5_cover 0 = .ok (.iconst 0, 1) := by decide +kernel
theorem dX5_cover_1 : decode cX5_cover 1 = .ok (.iload_n 2, 1) := by decide +kernel
theorem dX5_cover_2 : decode cX5_cover 2 = .ok (.if_icmp .gt 33, 3) := by decide +kernel
theorem dX5_cover_5 : decode cX5_cover 5 = .ok (.iload_n 2, 1) := by decide +kernel
theorem dX5_cover_6 : decode cX5_cover 6 = .ok (.iload_n 3, 1) := by decide +kernel
theorem dX5_cover_7 : decode cX5_cover 7 = .ok (.if_icmp .gt 28, 3) := by decide +kernel
theorem dX5_cover_10 : decode cX5_cover 10 = .ok (.iload_n 3, 1) := by decide +kernel
theorem dX5_cover_11 : decode cX5_cover 11 = .ok (.iload 4, 2) := by decide +kernel
theorem dX5_cover_13 : decode cX5_cover 13 = .ok (.if_icmp .gt 22, 3) := by decide +kernel
theorem dX5_cover_16 : decode cX5_cover 16 = .ok (.iload 4, 2) := by decide +kernel
theorem dX5_cover_18 : decode cX5_cover 18 = .ok (.iload 5, 2) := by decide +kernel
theorem dX5_cover_20 : decode cX5_cover 20 = .ok (.if_icmp .gt 15, 3) := by decide +kernel
theorem dX5_cover_23 : decode cX5_cover 23 = .ok (.iload 5, 2) := by decide +kernel
theorem dX5_cover_25 : decode cX5_cover 25 = .ok (.sipush 400, 3) := by decide +kernel
theorem dX5_cover_28 : decode cX5_cover 28 = .ok (.if_icmp .gt 7, 3) := by decide +kernel
theorem dX5_cover_31 : decode cX5_cover 31 = .ok (.iconst 1, 1) := by decide +kernel
theorem dX5_cover_32 : decode cX5_cover 32 = .ok (.goto 4, 3) := by decide +kernel
theorem dX5_cover_35 : decode cX5_cover 35 = .ok (.iconst 0, 1) := by decide +kernel
theorem dX5_cover_36 : decode cX5_cover 36 = .ok (.istore 6, 2) := by decide +kernel
theorem dX5_cover_38 : decode cX5_cover 38 = .ok (.aload_n 0, 1) := by decide +kernel
theorem dX5_cover_39 : decode cX5_cover 39 = .ok (.getfield 12, 3) := by decide +kernel
theorem dX5_cover_42 : decode cX5_cover 42 = .ok (.iload_n 1, 1) := by decide +kernel
theorem dX5_cover_43 : decode cX5_cover 43 = .ok (.invokevirtual 88, 3) := by decide +kernel
theorem dX5_cover_46 : decode cX5_cover 46 = .ok (.ifCond .eq 8, 3) := by decide +kernel
theorem dX5_cover_49 : decode cX5_cover 49 = .ok (.iload 6, 2) := by decide +kernel
theorem dX5_cover_51 : decode cX5_cover 51 = .ok (.ifCond .ne 6, 3) := by decide +kernel
theorem dX5_cover_54 : decode cX5_cover 54 = .ok (.bipush (-2), 2) := by decide +kernel
theorem dX5_cover_56 : decode cX5_cover 56 = .ok (.ireturn, 1) := by decide +kernel
theorem dX5_cover_57 : decode cX5_cover 57 = .ok (.aload_n 0, 1) := by decide +kernel
theorem dX5_cover_58 : decode cX5_cover 58 = .ok (.getfield 12, 3) := by decide +kernel
theorem dX5_cover_61 : decode cX5_cover 61 = .ok (.iload_n 1, 1) := by decide +kernel
theorem dX5_cover_62 : decode cX5_cover 62 = .ok (.invokevirtual 92, 3) := by decide +kernel
theorem dX5_cover_65 : decode cX5_cover 65 = .ok (.ifCond .eq 14, 3) := by decide +kernel
theorem dX5_cover_68 : decode cX5_cover 68 = .ok (.aload_n 0, 1) := by decide +kernel
theorem dX5_cover_69 : decode cX5_cover 69 = .ok (.getfield 12, 3) := by decide +kernel
theorem dX5_cover_72 : decode cX5_cover 72 = .ok (.iload_n 1, 1) := by decide +kernel
theorem dX5_cover_73 : decode cX5_cover 73 = .ok (.invokevirtual 95, 3) := by decide +kernel
theorem dX5_cover_76 : decode cX5_cover 76 = .ok (.ifCond .eq 6, 3) := by decide +kernel
theorem dX5_cover_79 : decode cX5_cover 79 = .ok (.bipush (-3), 2) := by decide +kernel
theorem dX5_cover_81 : decode cX5_cover 81 = .ok (.ireturn, 1) := by decide +kernel
theorem dX5_cover_82 : decode cX5_cover 82 = .ok (.aload_n 0, 1) := by decide +kernel
theorem dX5_cover_83 : decode cX5_cover 83 = .ok (.getfield 28, 3) := by decide +kernel
theorem dX5_cover_86 : decode cX5_cover 86 = .ok (.iload_n 1, 1) := by decide +kernel
theorem dX5_cover_87 : decode cX5_cover 87 = .ok (.iload_n 2, 1) := by decide +kernel
theorem dX5_cover_88 : decode cX5_cover 88 = .ok (.iload_n 3, 1) := by decide +kernel
theorem dX5_cover_89 : decode cX5_cover 89 = .ok (.iload 4, 2) := by decide +kernel
theorem dX5_cover_91 : decode cX5_cover 91 = .ok (.iload 5, 2) := by decide +kernel
theorem dX5_cover_93 : decode cX5_cover 93 = .ok (.invokevirtual 98, 3) := by decide +kernel
theorem dX5_cover_96 : decode cX5_cover 96 = .ok (.iconst 1, 1) := by decide +kernel
theorem dX5_cover_97 : decode cX5_cover 97 = .ok (.ireturn, 1) := by decide +kernel
theorem dX5_alter_0 : decode cX5_alter 0 = .ok (.aload_n 0, 1) := by decide +kernel
theorem dX5_alter_1 : decode cX5_alter 1 = .ok (.getfield 12, 3) := by decide +kernel
theorem dX5_alter_4 : decode cX5_alter 4 = .ok (.iload_n 1, 1) := by decide +kernel
theorem dX5_alter_5 : decode cX5_alter 5 = .ok (.invokevirtual 88, 3) := by decide +kernel
theorem dX5_alter_8 : decode cX5_alter 8 = .ok (.ifCond .eq 19, 3) := by decide +kernel
theorem dX5_alter_11 : decode cX5_alter 11 = .ok (.aload_n 0, 1) := by decide +kernel
theorem dX5_alter_12 : decode cX5_alter 12 = .ok (.getfield 12, 3) := by decide +kernel
theorem dX5_alter_15 : decode cX5_alter 15 = .ok (.getfield 102, 3) := by decide +kernel
theorem dX5_alter_18 : decode cX5_alter 18 = .ok (.iload_n 1, 1) := by decide +kernel
theorem dX5_alter_19 : decode cX5_alter 19 = .ok (.iaload, 1) := by decide +kernel
theorem dX5_alter_20 : decode cX5_alter 20 = .ok (.iload_n 2, 1) := by decide +kernel
theorem dX5_alter_21 : decode cX5_alter 21 = .ok (.invokestatic 106, 3) := by decide +kernel
theorem dX5_alter_24 : decode cX5_alter 24 = .ok (.ifCond .ne 6, 3) := by decide +kernel
theorem dX5_alter_27 : decode cX5_alter 27 = .ok (.bipush (-2), 2) := by decide +kernel
theorem dX5_alter_29 : decode cX5_alter 29 = .ok (.ireturn, 1) := by decide +kernel
theorem dX5_alter_30 : decode cX5_alter 30 = .ok (.aload_n 0, 1) := by decide +kernel
theorem dX5_alter_31 : decode cX5_alter 31 = .ok (.getfield 12, 3) := by decide +kernel
theorem dX5_alter_34 : decode cX5_alter 34 = .ok (.getfield 110, 3) := by decide +kernel
theorem dX5_alter_37 : decode cX5_alter 37 = .ok (.iload_n 1, 1) := by decide +kernel
theorem dX5_alter_38 : decode cX5_alter 38 = .ok (.iaload, 1) := by decide +kernel
theorem dX5_alter_39 : decode cX5_alter 39 = .ok (.istore_n 3, 1) := by decide +kernel
theorem dX5_alter_40 : decode cX5_alter 40 = .ok (.aload_n 0, 1) := by decide +kernel
theorem dX5_alter_41 : decode cX5_alter 41 = .ok (.getfield 12, 3) := by decide +kernel
theorem dX5_alter_44 : decode cX5_alter 44 = .ok (.getfield 110, 3) := by decide +kernel
theorem dX5_alter_47 : decode cX5_alter 47 = .ok (.iload_n 1, 1) := by decide +kernel
theorem dX5_alter_48 : decode cX5_alter 48 = .ok (.iload_n 2, 1) := by decide +kernel
theorem dX5_alter_49 : decode cX5_alter 49 = .ok (.iastore, 1) := by decide +kernel
theorem dX5_alter_50 : decode cX5_alter 50 = .ok (.aload_n 0, 1) := by decide +kernel
theorem dX5_alter_51 : decode cX5_alter 51 = .ok (.getfield 19, 3) := by decide +kernel
theorem dX5_alter_54 : decode cX5_alter 54 = .ok (.aload_n 0, 1) := by decide +kernel
theorem dX5_alter_55 : decode cX5_alter 55 = .ok (.getfield 12, 3) := by decide +kernel
theorem dX5_alter_58 : decode cX5_alter 58 = .ok (.iload_n 1, 1) := by decide +kernel
theorem dX5_alter_59 : decode cX5_alter 59 = .ok (.invokevirtual 113, 3) := by decide +kernel
theorem dX5_alter_62 : decode cX5_alter 62 = .ok (.iconst 3, 1) := by decide +kernel
theorem dX5_alter_63 : decode cX5_alter 63 = .ok (.iadd, 1) := by decide +kernel
theorem dX5_alter_64 : decode cX5_alter 64 = .ok (.iload_n 2, 1) := by decide +kernel
theorem dX5_alter_65 : decode cX5_alter 65 = .ok (.invokevirtual 117, 3) := by decide +kernel
theorem dX5_alter_68 : decode cX5_alter 68 = .ok (.aload_n 0, 1) := by decide +kernel
theorem dX5_alter_69 : decode cX5_alter 69 = .ok (.invokevirtual 63, 3) := by decide +kernel
theorem dX5_alter_72 : decode cX5_alter 72 = .ok (.iload_n 3, 1) := by decide +kernel
theorem dX5_alter_73 : decode cX5_alter 73 = .ok (.ireturn, 1) := by decide +kernel
theorem dX5_read_0 : decode cX5_read 0 = .ok (.iload_n 1, 1) := by decide +kernel
theorem dX5_read_1 : decode cX5_read 1 = .ok (.invokestatic 121, 3) := by decide +kernel
theorem dX5_read_4 : decode cX5_read 4 = .ok (.ifCond .ne 6, 3) := by decide +kernel
theorem dX5_read_7 : decode cX5_read 7 = .ok (.bipush (-2), 2) := by decide +kernel
theorem dX5_read_9 : decode cX5_read 9 = .ok (.ireturn, 1) := by decide +kernel
theorem dX5_read_10 : decode cX5_read 10 = .ok (.aload_n 0, 1) := by decide +kernel
theorem dX5_read_11 : decode cX5_read 11 = .ok (.getfield 46, 3) := by decide +kernel
theorem dX5_read_14 : decode cX5_read 14 = .ok (.iload_n 1, 1) := by decide +kernel
theorem dX5_read_15 : decode cX5_read 15 = .ok (.aaload, 1) := by decide +kernel
theorem dX5_read_16 : decode cX5_read 16 = .ok (.astore_n 2, 1) := by decide +kernel
theorem dX5_read_17 : decode cX5_read 17 = .ok (.aload_n 2, 1) := by decide +kernel
theorem dX5_read_18 : decode cX5_read 18 = .ok (.getfield 124, 3) := by decide +kernel
theorem dX5_read_21 : decode cX5_read 21 = .ok (.ifCond .eq 9, 3) := by decide +kernel
theorem dX5_read_24 : decode cX5_read 24 = .ok (.aload_n 0, 1) := by decide +kernel
theorem dX5_read_25 : decode cX5_read 25 = .ok (.iconst 1, 1) := by decide +kernel
theorem dX5_read_26 : decode cX5_read 26 = .ok (.invokevirtual 128, 3) := by decide +kernel
theorem dX5_read_29 : decode cX5_read 29 = .ok (.ireturn, 1) := by decide +kernel
theorem dX5_read_30 : decode cX5_read 30 = .ok (.iconst 0, 1) := by decide +kernel
theorem dX5_read_31 : decode cX5_read 31 = .ok (.istore_n 3, 1) := by decide +kernel
theorem dX5_read_32 : decode cX5_read 32 = .ok (.iconst 0, 1) := by decide +kernel
theorem dX5_read_33 : decode cX5_read 33 = .ok (.istore 4, 2) := by decide +kernel
theorem dX5_read_35 : decode cX5_read 35 = .ok (.iload 4, 2) := by decide +kernel
theorem dX5_read_37 : decode cX5_read 37 = .ok (.iconst 3, 1) := by decide +kernel
theorem dX5_read_38 : decode cX5_read 38 = .ok (.iadd, 1) := by decide +kernel
theorem dX5_read_39 : decode cX5_read 39 = .ok (.aload_n 2, 1) := by decide +kernel
theorem dX5_read_40 : decode cX5_read 40 = .ok (.getfield 131, 3) := by decide +kernel
theorem dX5_read_43 : decode cX5_read 43 = .ok (.if_icmp .gt 47, 3) := by decide +kernel
theorem dX5_read_46 : decode cX5_read 46 = .ok (.aload_n 0, 1) := by decide +kernel
theorem dX5_read_47 : decode cX5_read 47 = .ok (.aload_n 2, 1) := by decide +kernel
theorem dX5_read_48 : decode cX5_read 48 = .ok (.getfield 132, 3) := by decide +kernel
theorem dX5_read_51 : decode cX5_read 51 = .ok (.iload 4, 2) := by decide +kernel
theorem dX5_read_53 : decode cX5_read 53 = .ok (.iaload, 1) := by decide +kernel
theorem dX5_read_54 : decode cX5_read 54 = .ok (.aload_n 2, 1) := by decide +kernel
theorem dX5_read_55 : decode cX5_read 55 = .ok (.getfield 132, 3) := by decide +kernel
theorem dX5_read_58 : decode cX5_read 58 = .ok (.iload 4, 2) := by decide +kernel
theorem dX5_read_60 : decode cX5_read 60 = .ok (.iconst 1, 1) := by decide +kernel
theorem dX5_read_61 : decode cX5_read 61 = .ok (.iadd, 1) := by decide +kernel
theorem dX5_read_62 : decode cX5_read 62 = .ok (.iaload, 1) := by decide +kernel
theorem dX5_read_63 : decode cX5_read 63 = .ok (.aload_n 2, 1) := by decide +kernel
theorem dX5_read_64 : decode cX5_read 64 = .ok (.getfield 132, 3) := by decide +kernel
theorem dX5_read_67 : decode cX5_read 67 = .ok (.iload 4, 2) := by decide +kernel
theorem dX5_read_69 : decode cX5_read 69 = .ok (.iconst 2, 1) := by decide +kernel
theorem dX5_read_70 : decode cX5_read 70 = .ok (.iadd, 1) := by decide +kernel
theorem dX5_read_71 : decode cX5_read 71 = .ok (.iaload, 1) := by decide +kernel
theorem dX5_read_72 : decode cX5_read 72 = .ok (.invokevirtual 59, 3) := by decide +kernel
theorem dX5_read_75 : decode cX5_read 75 = .ok (.ifCond .ge 6, 3) := by decide +kernel
theorem dX5_read_78 : decode cX5_read 78 = .ok (.goto 12, 3) := by decide +kernel
theorem dX5_read_81 : decode cX5_read 81 = .ok (.iinc 3 1, 3) := by decide +kernel
theorem dX5_read_84 : decode cX5_read 84 = .ok (.iinc 4 3, 3) := by decide +kernel
theorem dX5_read_87 : decode cX5_read 87 = .ok (.goto (-52), 3) := by decide +kernel
theorem dX5_read_90 : decode cX5_read 90 = .ok (.aload_n 0, 1) := by decide +kernel
theorem dX5_read_91 : decode cX5_read 91 = .ok (.invokevirtual 63, 3) := by decide +kernel
theorem dX5_read_94 : decode cX5_read 94 = .ok (.iload_n 3, 1) := by decide +kernel
theorem dX5_read_95 : decode cX5_read 95 = .ok (.ireturn, 1) := by decide +kernel
theorem dX5_write_0 : decode cX5_write 0 = .ok (.aload_n 0, 1) := by decide +kernel
theorem dX5_write_1 : decode cX5_write 1 = .ok (.getfield 12, 3) := by decide +kernel
theorem dX5_write_4 : decode cX5_write 4 = .ok (.iload_n 1, 1) := by decide +kernel
theorem dX5_write_5 : decode cX5_write 5 = .ok (.invokevirtual 88, 3) := by decide +kernel
theorem dX5_write_8 : decode cX5_write 8 = .ok (.ifCond .ne 6, 3) := by decide +kernel
theorem dX5_write_11 : decode cX5_write 11 = .ok (.bipush (-2), 2) := by decide +kernel
theorem dX5_write_13 : decode cX5_write 13 = .ok (.ireturn, 1) := by decide +kernel
theorem dX5_write_14 : decode cX5_write 14 = .ok (.iload_n 2, 1) := by decide +kernel
theorem dX5_write_15 : decode cX5_write 15 = .ok (.tableswitch 82 0 4 #[33, 43, 53, 63, 73], 33) := by decide +kernel
theorem dX5_write_48 : decode cX5_write 48 = .ok (.aload_n 0, 1) := by decide +kernel
theorem dX5_write_49 : decode cX5_write 49 = .ok (.getfield 12, 3) := by decide +kernel
theorem dX5_write_52 : decode cX5_write 52 = .ok (.getfield 135, 3) := by decide +kernel
theorem dX5_write_55 : decode cX5_write 55 = .ok (.iload_n 1, 1) := by decide +kernel
theorem dX5_write_56 : decode cX5_write 56 = .ok (.iaload, 1) := by decide +kernel
theorem dX5_write_57 : decode cX5_write 57 = .ok (.ireturn, 1) := by decide +kernel
theorem dX5_write_58 : decode cX5_write 58 = .ok (.aload_n 0, 1) := by decide +kernel
theorem dX5_write_59 : decode cX5_write 59 = .ok (.getfield 12, 3) := by decide +kernel
theorem dX5_write_62 : decode cX5_write 62 = .ok (.getfield 102, 3) := by decide +kernel
theorem dX5_write_65 : decode cX5_write 65 = .ok (.iload_n 1, 1) := by decide +kernel
theorem dX5_write_66 : decode cX5_write 66 = .ok (.iaload, 1) := by decide +kernel
theorem dX5_write_67 : decode cX5_write 67 = .ok (.ireturn, 1) := by decide +kernel
theorem dX5_write_68 : decode cX5_write 68 = .ok (.aload_n 0, 1) := by decide +kernel
theorem dX5_write_69 : decode cX5_write 69 = .ok (.getfield 12, 3) := by decide +kernel
theorem dX5_write_72 : decode cX5_write 72 = .ok (.getfield 110, 3) := by decide +kernel
theorem dX5_write_75 : decode cX5_write 75 = .ok (.iload_n 1, 1) := by decide +kernel
theorem dX5_write_76 : decode cX5_write 76 = .ok (.iaload, 1) := by decide +kernel
theorem dX5_write_77 : decode cX5_write 77 = .ok (.ireturn, 1) := by decide +kernel
theorem dX5_write_78 : decode cX5_write 78 = .ok (.aload_n 0, 1) := by decide +kernel
theorem dX5_write_79 : decode cX5_write 79 = .ok (.getfield 12, 3) := by decide +kernel
theorem dX5_write_82 : decode cX5_write 82 = .ok (.getfield 138, 3) := by decide +kernel
theorem dX5_write_85 : decode cX5_write 85 = .ok (.iload_n 1, 1) := by decide +kernel
theorem dX5_write_86 : decode cX5_write 86 = .ok (.iaload, 1) := by decide +kernel
theorem dX5_write_87 : decode cX5_write 87 = .ok (.ireturn, 1) := by decide +kernel
theorem dX5_write_88 : decode cX5_write 88 = .ok (.aload_n 0, 1) := by decide +kernel
theorem dX5_write_89 : decode cX5_write 89 = .ok (.getfield 12, 3) := by decide +kernel
theorem dX5_write_92 : decode cX5_write 92 = .ok (.iload_n 1, 1) := by decide +kernel
theorem dX5_write_93 : decode cX5_write 93 = .ok (.invokevirtual 113, 3) := by decide +kernel
theorem dX5_write_96 : decode cX5_write 96 = .ok (.ireturn, 1) := by decide +kernel
theorem dX5_write_97 : decode cX5_write 97 = .ok (.bipush (-2), 2) := by decide +kernel
theorem dX5_write_99 : decode cX5_write 99 = .ok (.ireturn, 1) := by decide +kernel
theorem dX5_revision_0 : decode cX5_revision 0 = .ok (.aload_n 0, 1) := by decide +kernel
theorem dX5_revision_1 : decode cX5_revision 1 = .ok (.getfield 12, 3) := by decide +kernel
theorem dX5_revision_4 : decode cX5_revision 4 = .ok (.iload_n 1, 1) := by decide +kernel
theorem dX5_revision_5 : decode cX5_revision 5 = .ok (.invokevirtual 141, 3) := by decide +kernel
theorem dX5_revision_8 : decode cX5_revision 8 = .ok (.ifCond .ne 6, 3) := by decide +kernel
theorem dX5_revision_11 : decode cX5_revision 11 = .ok (.bipush (-2), 2) := by decide +kernel
theorem dX5_revision_13 : decode cX5_revision 13 = .ok (.ireturn, 1) := by decide +kernel
theorem dX5_revision_14 : decode cX5_revision 14 = .ok (.iload_n 2, 1) := by decide +kernel
theorem dX5_revision_15 : decode cX5_revision 15 = .ok (.tableswitch 76 0 3 #[29, 39, 58, 67], 29) := by decide +kernel
theorem dX5_revision_44 : decode cX5_revision 44 = .ok (.aload_n 0, 1) := by decide +kernel
theorem dX5_revision_45 : decode cX5_revision 45 = .ok (.getfield 12, 3) := by decide +kernel
theorem dX5_revision_48 : decode cX5_revision 48 = .ok (.getfield 144, 3) := by decide +kernel
theorem dX5_revision_51 : decode cX5_revision 51 = .ok (.iload_n 1, 1) := by decide +kernel
theorem dX5_revision_52 : decode cX5_revision 52 = .ok (.iaload, 1) := by decide +kernel
theorem dX5_revision_53 : decode cX5_revision 53 = .ok (.ireturn, 1) := by decide +kernel
theorem dX5_revision_54 : decode cX5_revision 54 = .ok (.aload_n 0, 1) := by decide +kernel
theorem dX5_revision_55 : decode cX5_revision 55 = .ok (.getfield 12, 3) := by decide +kernel
theorem dX5_revision_58 : decode cX5_revision 58 = .ok (.iload_n 1, 1) := by decide +kernel
theorem dX5_revision_59 : decode cX5_revision 59 = .ok (.invokevirtual 147, 3) := by decide +kernel
theorem dX5_revision_62 : decode cX5_revision 62 = .ok (.aload_n 0, 1) := by decide +kernel
theorem dX5_revision_63 : decode cX5_revision 63 = .ok (.getfield 12, 3) := by decide +kernel
theorem dX5_revision_66 : decode cX5_revision 66 = .ok (.getfield 144, 3) := by decide +kernel
theorem dX5_revision_69 : decode cX5_revision 69 = .ok (.iload_n 1, 1) := by decide +kernel
theorem dX5_revision_70 : decode cX5_revision 70 = .ok (.iaload, 1) := by decide +kernel
theorem dX5_revision_71 : decode cX5_revision 71 = .ok (.isub, 1) := by decide +kernel
theorem dX5_revision_72 : decode cX5_revision 72 = .ok (.ireturn, 1) := by decide +kernel
theorem dX5_revision_73 : decode cX5_revision 73 = .ok (.aload_n 0, 1) := by decide +kernel
theorem dX5_revision_74 : decode cX5_revision 74 = .ok (.getfield 12, 3) := by decide +kernel
theorem dX5_revision_77 : decode cX5_revision 77 = .ok (.iload_n 1, 1) := by decide +kernel
theorem dX5_revision_78 : decode cX5_revision 78 = .ok (.invokevirtual 150, 3) := by decide +kernel
theorem dX5_revision_81 : decode cX5_revision 81 = .ok (.ireturn, 1) := by decide +kernel
theorem dX5_revision_82 : decode cX5_revision 82 = .ok (.aload_n 0, 1) := by decide +kernel
theorem dX5_revision_83 : decode cX5_revision 83 = .ok (.getfield 12, 3) := by decide +kernel
theorem dX5_revision_86 : decode cX5_revision 86 = .ok (.iload_n 1, 1) := by decide +kernel
theorem dX5_revision_87 : decode cX5_revision 87 = .ok (.invokevirtual 153, 3) := by decide +kernel
theorem dX5_revision_90 : decode cX5_revision 90 = .ok (.ireturn, 1) := by decide +kernel
theorem dX5_revision_91 : decode cX5_revision 91 = .ok (.bipush (-2), 2) := by decide +kernel
theorem dX5_revision_93 : decode cX5_revision 93 = .ok (.ireturn, 1) := by decide +kernel
theorem dX5_bytes_0 : decode cX5_bytes 0 = .ok (.iload_n 1, 1) := by decide +kernel
theorem dX5_bytes_1 : decode cX5_bytes 1 = .ok (.iconst (-1), 1) := by decide +kernel
theorem dX5_bytes_2 : decode cX5_bytes 2 = .ok (.if_icmp .ne 11, 3) := by decide +kernel
theorem dX5_bytes_5 : decode cX5_bytes 5 = .ok (.aload_n 0, 1) := by decide +kernel
theorem dX5_bytes_6 : decode cX5_bytes 6 = .ok (.getfield 19, 3) := by decide +kernel
theorem dX5_bytes_9 : decode cX5_bytes 9 = .ok (.getfield 156, 3) := by decide +kernel
theorem dX5_bytes_12 : decode cX5_bytes 12 = .ok (.ireturn, 1) := by decide +kernel
theorem dX5_bytes_13 : decode cX5_bytes 13 = .ok (.aload_n 0, 1) := by decide +kernel
theorem dX5_bytes_14 : decode cX5_bytes 14 = .ok (.getfield 19, 3) := by decide +kernel
theorem dX5_bytes_17 : decode cX5_bytes 17 = .ok (.iload_n 1, 1) := by decide +kernel
theorem dX5_bytes_18 : decode cX5_bytes 18 = .ok (.invokevirtual 157, 3) := by decide +kernel
theorem dX5_bytes_21 : decode cX5_bytes 21 = .ok (.ifCond .eq 15, 3) := by decide +kernel
theorem dX5_bytes_24 : decode cX5_bytes 24 = .ok (.aload_n 0, 1) := by decide +kernel
theorem dX5_bytes_25 : decode cX5_bytes 25 = .ok (.getfield 19, 3) := by decide +kernel
theorem dX5_bytes_28 : decode cX5_bytes 28 = .ok (.getfield 158, 3) := by decide +kernel
theorem dX5_bytes_31 : decode cX5_bytes 31 = .ok (.iload_n 1, 1) := by decide +kernel
theorem dX5_bytes_32 : decode cX5_bytes 32 = .ok (.iaload, 1) := by decide +kernel
theorem dX5_bytes_33 : decode cX5_bytes 33 = .ok (.goto 5, 3) := by decide +kernel
theorem dX5_bytes_36 : decode cX5_bytes 36 = .ok (.bipush (-2), 2) := by decide +kernel
theorem dX5_bytes_38 : decode cX5_bytes 38 = .ok (.ireturn, 1) := by decide +kernel
theorem dX5_thing_0 : decode cX5_thing 0 = .ok (.iload_n 1, 1) := by decide +kernel
theorem dX5_thing_1 : decode cX5_thing 1 = .ok (.invokestatic 159, 3) := by decide +kernel
theorem dX5_thing_4 : decode cX5_thing 4 = .ok (.ifCond .eq 23, 3) := by decide +kernel
theorem dX5_thing_7 : decode cX5_thing 7 = .ok (.aload_n 0, 1) := by decide +kernel
theorem dX5_thing_8 : decode cX5_thing 8 = .ok (.getfield 12, 3) := by decide +kernel
theorem dX5_thing_11 : decode cX5_thing 11 = .ok (.iload_n 2, 1) := by decide +kernel
theorem dX5_thing_12 : decode cX5_thing 12 = .ok (.invokevirtual 141, 3) := by decide +kernel
theorem dX5_thing_15 : decode cX5_thing 15 = .ok (.ifCond .eq 12, 3) := by decide +kernel
theorem dX5_thing_18 : decode cX5_thing 18 = .ok (.iload_n 3, 1) := by decide +kernel
theorem dX5_thing_19 : decode cX5_thing 19 = .ok (.ifCond .lt 8, 3) := by decide +kernel
theorem dX5_thing_22 : decode cX5_thing 22 = .ok (.iload_n 3, 1) := by decide +kernel
theorem dX5_thing_23 : decode cX5_thing 23 = .ok (.iconst 2, 1) := by decide +kernel
theorem dX5_thing_24 : decode cX5_thing 24 = .ok (.if_icmp .le 6, 3) := by decide +kernel
theorem dX5_thing_27 : decode cX5_thing 27 = .ok (.bipush (-2), 2) := by decide +kernel
theorem dX5_thing_29 : decode cX5_thing 29 = .ok (.ireturn, 1) := by decide +kernel
theorem dX5_thing_30 : decode cX5_thing 30 = .ok (.aload_n 0, 1) := by decide +kernel
theorem dX5_thing_31 : decode cX5_thing 31 = .ok (.getfield 37, 3) := by decide +kernel
theorem dX5_thing_34 : decode cX5_thing 34 = .ok (.iload_n 2, 1) := by decide +kernel
theorem dX5_thing_35 : decode cX5_thing 35 = .ok (.iload_n 1, 1) := by decide +kernel
theorem dX5_thing_36 : decode cX5_thing 36 = .ok (.invokevirtual 162, 3) := by decide +kernel
theorem dX5_thing_39 : decode cX5_thing 39 = .ok (.istore 4, 2) := by decide +kernel
theorem dX5_thing_41 : decode cX5_thing 41 = .ok (.aload_n 0, 1) := by decide +kernel
theorem dX5_thing_42 : decode cX5_thing 42 = .ok (.getfield 12, 3) := by decide +kernel
theorem dX5_thing_45 : decode cX5_thing 45 = .ok (.iload 4, 2) := by decide +kernel
theorem dX5_thing_47 : decode cX5_thing 47 = .ok (.invokevirtual 166, 3) := by decide +kernel
theorem dX5_thing_50 : decode cX5_thing 50 = .ok (.iconst 5, 1) := by decide +kernel
theorem dX5_thing_51 : decode cX5_thing 51 = .ok (.if_icmp .ne 5, 3) := by decide +kernel
theorem dX5_thing_54 : decode cX5_thing 54 = .ok (.iconst (-1), 1) := by decide +kernel
theorem dX5_thing_55 : decode cX5_thing 55 = .ok (.ireturn, 1) := by decide +kernel
theorem dX5_thing_56 : decode cX5_thing 56 = .ok (.iload_n 3, 1) := by decide +kernel
theorem dX5_thing_57 : decode cX5_thing 57 = .ok (.lookupswitch 49 #[(0, 27), (1, 38)], 27) := by decide +kernel
theorem dX5_thing_84 : decode cX5_thing 84 = .ok (.aload_n 0, 1) := by decide +kernel
theorem dX5_thing_85 : decode cX5_thing 85 = .ok (.getfield 12, 3) := by decide +kernel
theorem dX5_thing_88 : decode cX5_thing 88 = .ok (.getfield 102, 3) := by decide +kernel
theorem dX5_thing_91 : decode cX5_thing 91 = .ok (.iload 4, 2) := by decide +kernel
theorem dX5_thing_93 : decode cX5_thing 93 = .ok (.iaload, 1) := by decide +kernel
theorem dX5_thing_94 : decode cX5_thing 94 = .ok (.ireturn, 1) := by decide +kernel
theorem dX5_thing_95 : decode cX5_thing 95 = .ok (.aload_n 0, 1) := by decide +kernel
theorem dX5_thing_96 : decode cX5_thing 96 = .ok (.getfield 12, 3) := by decide +kernel
theorem dX5_thing_99 : decode cX5_thing 99 = .ok (.getfield 110, 3) := by decide +kernel
theorem dX5_thing_102 : decode cX5_thing 102 = .ok (.iload 4, 2) := by decide +kernel
theorem dX5_thing_104 : decode cX5_thing 104 = .ok (.iaload, 1) := by decide +kernel
theorem dX5_thing_105 : decode cX5_thing 105 = .ok (.ireturn, 1) := by decide +kernel
theorem dX5_thing_106 : decode cX5_thing 106 = .ok (.iload 4, 2) := by decide +kernel
theorem dX5_thing_108 : decode cX5_thing 108 = .ok (.ireturn, 1) := by decide +kernel
theorem dX5_shadows_0 : decode cX5_shadows 0 = .ok (.aload_n 0, 1) := by decide +kernel
theorem dX5_shadows_1 : decode cX5_shadows 1 = .ok (.getfield 12, 3) := by decide +kernel
theorem dX5_shadows_4 : decode cX5_shadows 4 = .ok (.iload_n 1, 1) := by decide +kernel
theorem dX5_shadows_5 : decode cX5_shadows 5 = .ok (.invokevirtual 141, 3) := by decide +kernel
theorem dX5_shadows_8 : decode cX5_shadows 8 = .ok (.ifCond .eq 15, 3) := by decide +kernel
theorem dX5_shadows_11 : decode cX5_shadows 11 = .ok (.aload_n 0, 1) := by decide +kernel
theorem dX5_shadows_12 : decode cX5_shadows 12 = .ok (.getfield 37, 3) := by decide +kernel
theorem dX5_shadows_15 : decode cX5_shadows 15 = .ok (.getfield 169, 3) := by decide +kernel
theorem dX5_shadows_18 : decode cX5_shadows 18 = .ok (.iload_n 1, 1) := by decide +kernel
theorem dX5_shadows_19 : decode cX5_shadows 19 = .ok (.iaload, 1) := by decide +kernel
theorem dX5_shadows_20 : decode cX5_shadows 20 = .ok (.goto 5, 3) := by decide +kernel
theorem dX5_shadows_23 : decode cX5_shadows 23 = .ok (.bipush (-2), 2) := by decide +kernel
theorem dX5_shadows_25 : decode cX5_shadows 25 = .ok (.ireturn, 1) := by decide +kernel
theorem dX5_covers_0 : decode cX5_covers 0 = .ok (.aload_n 0, 1) := by decide +kernel
theorem dX5_covers_1 : decode cX5_covers 1 = .ok (.getfield 12, 3) := by decide +kernel
theorem dX5_covers_4 : decode cX5_covers 4 = .ok (.iload_n 1, 1) := by decide +kernel
theorem dX5_covers_5 : decode cX5_covers 5 = .ok (.invokevirtual 88, 3) := by decide +kernel
theorem dX5_covers_8 : decode cX5_covers 8 = .ok (.ifCond .eq 12, 3) := by decide +kernel
theorem dX5_covers_11 : decode cX5_covers 11 = .ok (.iload_n 2, 1) := by decide +kernel
theorem dX5_covers_12 : decode cX5_covers 12 = .ok (.ifCond .lt 8, 3) := by decide +kernel
theorem dX5_covers_15 : decode cX5_covers 15 = .ok (.iload_n 2, 1) := by decide +kernel
theorem dX5_covers_16 : decode cX5_covers 16 = .ok (.iconst 4, 1) := by decide +kernel
theorem dX5_covers_17 : decode cX5_covers 17 = .ok (.if_icmp .lt 6, 3) := by decide +kernel
theorem dX5_covers_20 : decode cX5_covers 20 = .ok (.bipush (-2), 2) := by decide +kernel
theorem dX5_covers_22 : decode cX5_covers 22 = .ok (.ireturn, 1) := by decide +kernel
theorem dX5_covers_23 : decode cX5_covers 23 = .ok (.aload_n 0, 1) := by decide +kernel
theorem dX5_covers_24 : decode cX5_covers 24 = .ok (.getfield 12, 3) := by decide +kernel
theorem dX5_covers_27 : decode cX5_covers 27 = .ok (.iload_n 1, 1) := by decide +kernel
theorem dX5_covers_28 : decode cX5_covers 28 = .ok (.invokevirtual 92, 3) := by decide +kernel
theorem dX5_covers_31 : decode cX5_covers 31 = .ok (.ifCond .eq 15, 3) := by decide +kernel
theorem dX5_covers_34 : decode cX5_covers 34 = .ok (.aload_n 0, 1) := by decide +kernel
theorem dX5_covers_35 : decode cX5_covers 35 = .ok (.getfield 28, 3) := by decide +kernel
theorem dX5_covers_38 : decode cX5_covers 38 = .ok (.iload_n 1, 1) := by decide +kernel
theorem dX5_covers_39 : decode cX5_covers 39 = .ok (.iload_n 2, 1) := by decide +kernel
theorem dX5_covers_40 : decode cX5_covers 40 = .ok (.invokevirtual 172, 3) := by decide +kernel
theorem dX5_covers_43 : decode cX5_covers 43 = .ok (.goto 5, 3) := by decide +kernel
theorem dX5_covers_46 : decode cX5_covers 46 = .ok (.bipush (-3), 2) := by decide +kernel
theorem dX5_covers_48 : decode cX5_covers 48 = .ok (.ireturn, 1) := by decide +kernel
theorem dX5_covered_0 : decode cX5_covered 0 = .ok (.aload_n 0, 1) := by decide +kernel
theorem dX5_covered_1 : decode cX5_covered 1 = .ok (.getfield 12, 3) := by decide +kernel
theorem dX5_covered_4 : decode cX5_covered 4 = .ok (.iload_n 1, 1) := by decide +kernel
theorem dX5_covered_5 : decode cX5_covered 5 = .ok (.invokevirtual 88, 3) := by decide +kernel
theorem dX5_covered_8 : decode cX5_covered 8 = .ok (.ifCond .ne 6, 3) := by decide +kernel
theorem dX5_covered_11 : decode cX5_covered 11 = .ok (.bipush (-2), 2) := by decide +kernel
theorem dX5_covered_13 : decode cX5_covered 13 = .ok (.ireturn, 1) := by decide +kernel
theorem dX5_covered_14 : decode cX5_covered 14 = .ok (.aload_n 0, 1) := by decide +kernel
theorem dX5_covered_15 : decode cX5_covered 15 = .ok (.getfield 12, 3) := by decide +kernel
theorem dX5_covered_18 : decode cX5_covered 18 = .ok (.iload_n 1, 1) := by decide +kernel
theorem dX5_covered_19 : decode cX5_covered 19 = .ok (.invokevirtual 92, 3) := by decide +kernel
theorem dX5_covered_22 : decode cX5_covered 22 = .ok (.ifCond .eq 14, 3) := by decide +kernel
theorem dX5_covered_25 : decode cX5_covered 25 = .ok (.aload_n 0, 1) := by decide +kernel
theorem dX5_covered_26 : decode cX5_covered 26 = .ok (.getfield 28, 3) := by decide +kernel
theorem dX5_covered_29 : decode cX5_covered 29 = .ok (.iload_n 1, 1) := by decide +kernel
theorem dX5_covered_30 : decode cX5_covered 30 = .ok (.invokevirtual 175, 3) := by decide +kernel
theorem dX5_covered_33 : decode cX5_covered 33 = .ok (.goto 5, 3) := by decide +kernel
theorem dX5_covered_36 : decode cX5_covered 36 = .ok (.bipush (-3), 2) := by decide +kernel
theorem dX5_covered_38 : decode cX5_covered 38 = .ok (.ireturn, 1) := by decide +kernel
theorem dX5_number_0 : decode cX5_number 0 = .ok (.aload_n 0, 1) := by decide +kernel
theorem dX5_number_1 : decode cX5_number 1 = .ok (.getfield 12, 3) := by decide +kernel
theorem dX5_number_4 : decode cX5_number 4 = .ok (.iload_n 1, 1) := by decide +kernel
theorem dX5_number_5 : decode cX5_number 5 = .ok (.invokevirtual 88, 3) := by decide +kernel
theorem dX5_number_8 : decode cX5_number 8 = .ok (.ifCond .eq 23, 3) := by decide +kernel
theorem dX5_number_11 : decode cX5_number 11 = .ok (.iload_n 2, 1) := by decide +kernel
theorem dX5_number_12 : decode cX5_number 12 = .ok (.ifCond .lt 19, 3) := by decide +kernel
theorem dX5_number_15 : decode cX5_number 15 = .ok (.iload_n 2, 1) := by decide +kernel
theorem dX5_number_16 : decode cX5_number 16 = .ok (.iconst 1, 1) := by decide +kernel
theorem dX5_number_17 : decode cX5_number 17 = .ok (.if_icmp .gt 14, 3) := by decide +kernel
theorem dX5_number_20 : decode cX5_number 20 = .ok (.aload_n 0, 1) := by decide +kernel
theorem dX5_number_21 : decode cX5_number 21 = .ok (.getfield 12, 3) := by decide +kernel
theorem dX5_number_24 : decode cX5_number 24 = .ok (.iload_n 1, 1) := by decide +kernel
theorem dX5_number_25 : decode cX5_number 25 = .ok (.invokevirtual 178, 3) := by decide +kernel
theorem dX5_number_28 : decode cX5_number 28 = .ok (.ifCond .ne 6, 3) := by decide +kernel
theorem dX5_number_31 : decode cX5_number 31 = .ok (.ldc 181, 2) := by decide +kernel
theorem dX5_number_33 : decode cX5_number 33 = .ok (.ireturn, 1) := by decide +kernel
theorem dX5_number_34 : decode cX5_number 34 = .ok (.iload_n 2, 1) := by decide +kernel
theorem dX5_number_35 : decode cX5_number 35 = .ok (.ifCond .ne 15, 3) := by decide +kernel
theorem dX5_number_38 : decode cX5_number 38 = .ok (.aload_n 0, 1) := by decide +kernel
theorem dX5_number_39 : decode cX5_number 39 = .ok (.getfield 28, 3) := by decide +kernel
theorem dX5_number_42 : decode cX5_number 42 = .ok (.getfield 182, 3) := by decide +kernel
theorem dX5_number_45 : decode cX5_number 45 = .ok (.iload_n 1, 1) := by decide +kernel
theorem dX5_number_46 : decode cX5_number 46 = .ok (.iaload, 1) := by decide +kernel
theorem dX5_number_47 : decode cX5_number 47 = .ok (.goto 12, 3) := by decide +kernel
theorem dX5_number_50 : decode cX5_number 50 = .ok (.aload_n 0, 1) := by decide +kernel
theorem dX5_number_51 : decode cX5_number 51 = .ok (.getfield 28, 3) := by decide +kernel
theorem dX5_number_54 : decode cX5_number 54 = .ok (.getfield 185, 3) := by decide +kernel
theorem dX5_number_57 : decode cX5_number 57 = .ok (.iload_n 1, 1) := by decide +kernel
theorem dX5_number_58 : decode cX5_number 58 = .ok (.iaload, 1) := by decide +kernel
theorem dX5_number_59 : decode cX5_number 59 = .ok (.ireturn, 1) := by decide +kernel
theorem dX5_flaws_0 : decode cX5_flaws 0 = .ok (.aload_n 0, 1) := by decide +kernel
theorem dX5_flaws_1 : decode cX5_flaws 1 = .ok (.getfield 12, 3) := by decide +kernel
theorem dX5_flaws_4 : decode cX5_flaws 4 = .ok (.iload_n 1, 1) := by decide +kernel
theorem dX5_flaws_5 : decode cX5_flaws 5 = .ok (.invokevirtual 88, 3) := by decide +kernel
theorem dX5_flaws_8 : decode cX5_flaws 8 = .ok (.ifCond .ne 6, 3) := by decide +kernel
theorem dX5_flaws_11 : decode cX5_flaws 11 = .ok (.bipush (-2), 2) := by decide +kernel
theorem dX5_flaws_13 : decode cX5_flaws 13 = .ok (.ireturn, 1) := by decide +kernel
theorem dX5_flaws_14 : decode cX5_flaws 14 = .ok (.aload_n 0, 1) := by decide +kernel
theorem dX5_flaws_15 : decode cX5_flaws 15 = .ok (.getfield 12, 3) := by decide +kernel
theorem dX5_flaws_18 : decode cX5_flaws 18 = .ok (.iload_n 1, 1) := by decide +kernel
theorem dX5_flaws_19 : decode cX5_flaws 19 = .ok (.invokevirtual 178, 3) := by decide +kernel
theorem dX5_flaws_22 : decode cX5_flaws 22 = .ok (.ifCond .eq 15, 3) := by decide +kernel
theorem dX5_flaws_25 : decode cX5_flaws 25 = .ok (.aload_n 0, 1) := by decide +kernel
theorem dX5_flaws_26 : decode cX5_flaws 26 = .ok (.getfield 28, 3) := by decide +kernel
theorem dX5_flaws_29 : decode cX5_flaws 29 = .ok (.getfield 188, 3) := by decide +kernel
theorem dX5_flaws_32 : decode cX5_flaws 32 = .ok (.iload_n 1, 1) := by decide +kernel
theorem dX5_flaws_33 : decode cX5_flaws 33 = .ok (.iaload, 1) := by decide +kernel
theorem dX5_flaws_34 : decode cX5_flaws 34 = .ok (.goto 5, 3) := by decide +kernel
theorem dX5_flaws_37 : decode cX5_flaws 37 = .ok (.bipush (-3), 2) := by decide +kernel
theorem dX5_flaws_39 : decode cX5_flaws 39 = .ok (.ireturn, 1) := by decide +kernel
theorem dX5_judge_0 : decode cX5_judge 0 = .ok (.aload_n 0, 1) := by decide +kernel
theorem dX5_judge_1 : decode cX5_judge 1 = .ok (.getfield 12, 3) := by decide +kernel
theorem dX5_judge_4 : decode cX5_judge 4 = .ok (.iload_n 1, 1) := by decide +kernel
theorem dX5_judge_5 : decode cX5_judge 5 = .ok (.invokevirtual 88, 3) := by decide +kernel
theorem dX5_judge_8 : decode cX5_judge 8 = .ok (.ifCond .eq 12, 3) := by decide +kernel
theorem dX5_judge_11 : decode cX5_judge 11 = .ok (.iload_n 2, 1) := by decide +kernel
theorem dX5_judge_12 : decode cX5_judge 12 = .ok (.ifCond .lt 8, 3) := by decide +kernel
theorem dX5_judge_15 : decode cX5_judge 15 = .ok (.iload_n 2, 1) := by decide +kernel
theorem dX5_judge_16 : decode cX5_judge 16 = .ok (.iconst 3, 1) := by decide +kernel
theorem dX5_judge_17 : decode cX5_judge 17 = .ok (.if_icmp .le 6, 3) := by decide +kernel
theorem dX5_judge_20 : decode cX5_judge 20 = .ok (.bipush (-2), 2) := by decide +kernel
theorem dX5_judge_22 : decode cX5_judge 22 = .ok (.ireturn, 1) := by decide +kernel
theorem dX5_judge_23 : decode cX5_judge 23 = .ok (.aload_n 0, 1) := by decide +kernel
theorem dX5_judge_24 : decode cX5_judge 24 = .ok (.getfield 12, 3) := by decide +kernel
theorem dX5_judge_27 : decode cX5_judge 27 = .ok (.iload_n 1, 1) := by decide +kernel
theorem dX5_judge_28 : decode cX5_judge 28 = .ok (.invokevirtual 178, 3) := by decide +kernel
theorem dX5_judge_31 : decode cX5_judge 31 = .ok (.ifCond .ne 6, 3) := by decide +kernel
theorem dX5_judge_34 : decode cX5_judge 34 = .ok (.bipush (-3), 2) := by decide +kernel
theorem dX5_judge_36 : decode cX5_judge 36 = .ok (.ireturn, 1) := by decide +kernel
theorem dX5_judge_37 : decode cX5_judge 37 = .ok (.aload_n 0, 1) := by decide +kernel
theorem dX5_judge_38 : decode cX5_judge 38 = .ok (.getfield 12, 3) := by decide +kernel
theorem dX5_judge_41 : decode cX5_judge 41 = .ok (.getfield 138, 3) := by decide +kernel
theorem dX5_judge_44 : decode cX5_judge 44 = .ok (.iload_n 1, 1) := by decide +kernel
theorem dX5_judge_45 : decode cX5_judge 45 = .ok (.iaload, 1) := by decide +kernel
theorem dX5_judge_46 : decode cX5_judge 46 = .ok (.istore_n 3, 1) := by decide +kernel
theorem dX5_judge_47 : decode cX5_judge 47 = .ok (.iload_n 2, 1) := by decide +kernel
theorem dX5_judge_48 : decode cX5_judge 48 = .ok (.tableswitch 57 0 2 #[28, 38, 47], 28) := by decide +kernel
theorem dX5_judge_76 : decode cX5_judge 76 = .ok (.aload_n 0, 1) := by decide +kernel
theorem dX5_judge_77 : decode cX5_judge 77 = .ok (.getfield 37, 3) := by decide +kernel
theorem dX5_judge_80 : decode cX5_judge 80 = .ok (.getfield 191, 3) := by decide +kernel
theorem dX5_judge_83 : decode cX5_judge 83 = .ok (.iload_n 3, 1) := by decide +kernel
theorem dX5_judge_84 : decode cX5_judge 84 = .ok (.iaload, 1) := by decide +kernel
theorem dX5_judge_85 : decode cX5_judge 85 = .ok (.ireturn, 1) := by decide +kernel
theorem dX5_judge_86 : decode cX5_judge 86 = .ok (.aload_n 0, 1) := by decide +kernel
theorem dX5_judge_87 : decode cX5_judge 87 = .ok (.getfield 37, 3) := by decide +kernel
theorem dX5_judge_90 : decode cX5_judge 90 = .ok (.iload_n 3, 1) := by decide +kernel
theorem dX5_judge_91 : decode cX5_judge 91 = .ok (.invokevirtual 194, 3) := by decide +kernel
theorem dX5_judge_94 : decode cX5_judge 94 = .ok (.ireturn, 1) := by decide +kernel
theorem dX5_judge_95 : decode cX5_judge 95 = .ok (.aload_n 0, 1) := by decide +kernel
theorem dX5_judge_96 : decode cX5_judge 96 = .ok (.getfield 37, 3) := by decide +kernel
theorem dX5_judge_99 : decode cX5_judge 99 = .ok (.getfield 197, 3) := by decide +kernel
theorem dX5_judge_102 : decode cX5_judge 102 = .ok (.iload_n 3, 1) := by decide +kernel
theorem dX5_judge_103 : decode cX5_judge 103 = .ok (.iaload, 1) := by decide +kernel
theorem dX5_judge_104 : decode cX5_judge 104 = .ok (.ireturn, 1) := by decide +kernel
theorem dX5_judge_105 : decode cX5_judge 105 = .ok (.aload_n 0, 1) := by decide +kernel
theorem dX5_judge_106 : decode cX5_judge 106 = .ok (.iload_n 1, 1) := by decide +kernel
theorem dX5_judge_107 : decode cX5_judge 107 = .ok (.aload_n 0, 1) := by decide +kernel
theorem dX5_judge_108 : decode cX5_judge 108 = .ok (.getfield 37, 3) := by decide +kernel
theorem dX5_judge_111 : decode cX5_judge 111 = .ok (.invokevirtual 200, 3) := by decide +kernel
theorem dX5_judge_114 : decode cX5_judge 114 = .ok (.ifCond .eq 7, 3) := by decide +kernel
theorem dX5_judge_117 : decode cX5_judge 117 = .ok (.iconst 1, 1) := by decide +kernel
theorem dX5_judge_118 : decode cX5_judge 118 = .ok (.goto 4, 3) := by decide +kernel
theorem dX5_judge_121 : decode cX5_judge 121 = .ok (.iconst 0, 1) := by decide +kernel
theorem dX5_judge_122 : decode cX5_judge 122 = .ok (.ireturn, 1) := by decide +kernel
theorem dX5_change_0 : decode cX5_change 0 = .ok (.aload_n 0, 1) := by decide +kernel
theorem dX5_change_1 : decode cX5_change 1 = .ok (.getfield 12, 3) := by decide +kernel
theorem dX5_change_4 : decode cX5_change 4 = .ok (.iload_n 1, 1) := by decide +kernel
theorem dX5_change_5 : decode cX5_change 5 = .ok (.invokevirtual 88, 3) := by decide +kernel
theorem dX5_change_8 : decode cX5_change 8 = .ok (.ifCond .eq 22, 3) := by decide +kernel
theorem dX5_change_11 : decode cX5_change 11 = .ok (.iload_n 2, 1) := by decide +kernel
theorem dX5_change_12 : decode cX5_change 12 = .ok (.ifCond .lt 18, 3) := by decide +kernel
theorem dX5_change_15 : decode cX5_change 15 = .ok (.iload_n 2, 1) := by decide +kernel
theorem dX5_change_16 : decode cX5_change 16 = .ok (.bipush 99, 2) := by decide +kernel
theorem dX5_change_18 : decode cX5_change 18 = .ok (.if_icmp .gt 12, 3) := by decide +kernel
theorem dX5_change_21 : decode cX5_change 21 = .ok (.iload_n 3, 1) := by decide +kernel
theorem dX5_change_22 : decode cX5_change 22 = .ok (.ifCond .lt 8, 3) := by decide +kernel
theorem dX5_change_25 : decode cX5_change 25 = .ok (.iload_n 3, 1) := by decide +kernel
theorem dX5_change_26 : decode cX5_change 26 = .ok (.iconst 2, 1) := by decide +kernel
theorem dX5_change_27 : decode cX5_change 27 = .ok (.if_icmp .le 6, 3) := by decide +kernel
theorem dX5_change_30 : decode cX5_change 30 = .ok (.bipush (-2), 2) := by decide +kernel
theorem dX5_change_32 : decode cX5_change 32 = .ok (.ireturn, 1) := by decide +kernel
theorem dX5_change_33 : decode cX5_change 33 = .ok (.aload_n 0, 1) := by decide +kernel
theorem dX5_change_34 : decode cX5_change 34 = .ok (.getfield 12, 3) := by decide +kernel
theorem dX5_change_37 : decode cX5_change 37 = .ok (.iload_n 1, 1) := by decide +kernel
theorem dX5_change_38 : decode cX5_change 38 = .ok (.invokevirtual 178, 3) := by decide +kernel
theorem dX5_change_41 : decode cX5_change 41 = .ok (.ifCond .ne 6, 3) := by decide +kernel
theorem dX5_change_44 : decode cX5_change 44 = .ok (.bipush (-3), 2) := by decide +kernel
theorem dX5_change_46 : decode cX5_change 46 = .ok (.ireturn, 1) := by decide +kernel
theorem dX5_change_47 : decode cX5_change 47 = .ok (.aload_n 0, 1) := by decide +kernel
theorem dX5_change_48 : decode cX5_change 48 = .ok (.getfield 12, 3) := by decide +kernel
theorem dX5_change_51 : decode cX5_change 51 = .ok (.getfield 138, 3) := by decide +kernel
theorem dX5_change_54 : decode cX5_change 54 = .ok (.iload_n 1, 1) := by decide +kernel
theorem dX5_change_55 : decode cX5_change 55 = .ok (.iaload, 1) := by decide +kernel
theorem dX5_change_56 : decode cX5_change 56 = .ok (.istore 4, 2) := by decide +kernel
theorem dX5_change_58 : decode cX5_change 58 = .ok (.iload_n 2, 1) := by decide +kernel
theorem dX5_change_59 : decode cX5_change 59 = .ok (.aload_n 0, 1) := by decide +kernel
theorem dX5_change_60 : decode cX5_change 60 = .ok (.getfield 37, 3) := by decide +kernel
theorem dX5_change_63 : decode cX5_change 63 = .ok (.iload 4, 2) := by decide +kernel
theorem dX5_change_65 : decode cX5_change 65 = .ok (.invokevirtual 194, 3) := by decide +kernel
theorem dX5_change_68 : decode cX5_change 68 = .ok (.if_icmp .lt 5, 3) := by decide +kernel
theorem dX5_change_71 : decode cX5_change 71 = .ok (.iconst (-1), 1) := by decide +kernel
theorem dX5_change_72 : decode cX5_change 72 = .ok (.ireturn, 1) := by decide +kernel
theorem dX5_change_73 : decode cX5_change 73 = .ok (.aload_n 0, 1) := by decide +kernel
theorem dX5_change_74 : decode cX5_change 74 = .ok (.getfield 37, 3) := by decide +kernel
theorem dX5_change_77 : decode cX5_change 77 = .ok (.getfield 204, 3) := by decide +kernel
theorem dX5_change_80 : decode cX5_change 80 = .ok (.iload 4, 2) := by decide +kernel
theorem dX5_change_82 : decode cX5_change 82 = .ok (.iaload, 1) := by decide +kernel
theorem dX5_change_83 : decode cX5_change 83 = .ok (.iload_n 2, 1) := by decide +kernel
theorem dX5_change_84 : decode cX5_change 84 = .ok (.iadd, 1) := by decide +kernel
theorem dX5_change_85 : decode cX5_change 85 = .ok (.istore 5, 2) := by decide +kernel
theorem dX5_change_87 : decode cX5_change 87 = .ok (.iload_n 3, 1) := by decide +kernel
theorem dX5_change_88 : decode cX5_change 88 = .ok (.lookupswitch 50 #[(0, 28), (1, 39)], 28) := by decide +kernel
theorem dX5_change_116 : decode cX5_change 116 = .ok (.aload_n 0, 1) := by decide +kernel
theorem dX5_change_117 : decode cX5_change 117 = .ok (.getfield 37, 3) := by decide +kernel
theorem dX5_change_120 : decode cX5_change 120 = .ok (.getfield 207, 3) := by decide +kernel
theorem dX5_change_123 : decode cX5_change 123 = .ok (.iload 5, 2) := by decide +kernel
theorem dX5_change_125 : decode cX5_change 125 = .ok (.iaload, 1) := by decide +kernel
theorem dX5_change_126 : decode cX5_change 126 = .ok (.ireturn, 1) := by decide +kernel
theorem dX5_change_127 : decode cX5_change 127 = .ok (.aload_n 0, 1) := by decide +kernel
theorem dX5_change_128 : decode cX5_change 128 = .ok (.getfield 37, 3) := by decide +kernel
theorem dX5_change_131 : decode cX5_change 131 = .ok (.getfield 210, 3) := by decide +kernel
theorem dX5_change_134 : decode cX5_change 134 = .ok (.iload 5, 2) := by decide +kernel
theorem dX5_change_136 : decode cX5_change 136 = .ok (.iaload, 1) := by decide +kernel
theorem dX5_change_137 : decode cX5_change 137 = .ok (.ireturn, 1) := by decide +kernel
theorem dX5_change_138 : decode cX5_change 138 = .ok (.aload_n 0, 1) := by decide +kernel
theorem dX5_change_139 : decode cX5_change 139 = .ok (.getfield 37, 3) := by decide +kernel
theorem dX5_change_142 : decode cX5_change 142 = .ok (.iload 5, 2) := by decide +kernel
theorem dX5_change_144 : decode cX5_change 144 = .ok (.iload 4, 2) := by decide +kernel
theorem dX5_change_146 : decode cX5_change 146 = .ok (.invokevirtual 213, 3) := by decide +kernel
theorem dX5_change_149 : decode cX5_change 149 = .ok (.ireturn, 1) := by decide +kernel
theorem dX5_allowed_0 : decode cX5_allowed 0 = .ok (.aload_n 0, 1) := by decide +kernel
theorem dX5_allowed_1 : decode cX5_allowed 1 = .ok (.getfield 12, 3) := by decide +kernel
theorem dX5_allowed_4 : decode cX5_allowed 4 = .ok (.iload_n 1, 1) := by decide +kernel
theorem dX5_allowed_5 : decode cX5_allowed 5 = .ok (.invokevirtual 141, 3) := by decide +kernel
theorem dX5_allowed_8 : decode cX5_allowed 8 = .ok (.ifCond .ne 6, 3) := by decide +kernel
theorem dX5_allowed_11 : decode cX5_allowed 11 = .ok (.bipush (-2), 2) := by decide +kernel
theorem dX5_allowed_13 : decode cX5_allowed 13 = .ok (.ireturn, 1) := by decide +kernel
theorem dX5_allowed_14 : decode cX5_allowed 14 = .ok (.iconst 3, 1) := by decide +kernel
theorem dX5_allowed_15 : decode cX5_allowed 15 = .ok (.istore_n 2, 1) := by decide +kernel
theorem dX5_allowed_16 : decode cX5_allowed 16 = .ok (.iconst 0, 1) := by decide +kernel
theorem dX5_allowed_17 : decode cX5_allowed 17 = .ok (.istore_n 3, 1) := by decide +kernel
theorem dX5_allowed_18 : decode cX5_allowed 18 = .ok (.iload_n 3, 1) := by decide +kernel
theorem dX5_allowed_19 : decode cX5_allowed 19 = .ok (.aload_n 0, 1) := by decide +kernel
theorem dX5_allowed_20 : decode cX5_allowed 20 = .ok (.getfield 12, 3) := by decide +kernel
theorem dX5_allowed_23 : decode cX5_allowed 23 = .ok (.getfield 144, 3) := by decide +kernel
theorem dX5_allowed_26 : decode cX5_allowed 26 = .ok (.iload_n 1, 1) := by decide +kernel
theorem dX5_allowed_27 : decode cX5_allowed 27 = .ok (.iaload, 1) := by decide +kernel
theorem dX5_allowed_28 : decode cX5_allowed 28 = .ok (.if_icmp .ge 34, 3) := by decide +kernel
theorem dX5_allowed_31 : decode cX5_allowed 31 = .ok (.aload_n 0, 1) := by decide +kernel
theorem dX5_allowed_32 : decode cX5_allowed 32 = .ok (.getfield 12, 3) := by decide +kernel
theorem dX5_allowed_35 : decode cX5_allowed 35 = .ok (.iload_n 3, 1) := by decide +kernel
theorem dX5_allowed_36 : decode cX5_allowed 36 = .ok (.invokevirtual 92, 3) := by decide +kernel
theorem dX5_allowed_39 : decode cX5_allowed 39 = .ok (.ifCond .eq 17, 3) := by decide +kernel
theorem dX5_allowed_42 : decode cX5_allowed 42 = .ok (.iload_n 2, 1) := by decide +kernel
theorem dX5_allowed_43 : decode cX5_allowed 43 = .ok (.aload_n 0, 1) := by decide +kernel
theorem dX5_allowed_44 : decode cX5_allowed 44 = .ok (.getfield 12, 3) := by decide +kernel
theorem dX5_allowed_47 : decode cX5_allowed 47 = .ok (.getfield 110, 3) := by decide +kernel
theorem dX5_allowed_50 : decode cX5_allowed 50 = .ok (.iload_n 3, 1) := by decide +kernel
theorem dX5_allowed_51 : decode cX5_allowed 51 = .ok (.iaload, 1) := by decide +kernel
theorem dX5_allowed_52 : decode cX5_allowed 52 = .ok (.invokestatic 216, 3) := by decide +kernel
theorem dX5_allowed_55 : decode cX5_allowed 55 = .ok (.istore_n 2, 1) := by decide +kernel
theorem dX5_allowed_56 : decode cX5_allowed 56 = .ok (.iinc 3 1, 3) := by decide +kernel
end
section
theorem dX5_allowed_59 : decode cX5_allowed 59 = .ok (.goto (-41), 3) := by decide +kernel
theorem dX5_allowed_62 : decode cX5_allowed 62 = .ok (.iload_n 2, 1) := by decide +kernel
theorem dX5_allowed_63 : decode cX5_allowed 63 = .ok (.ireturn, 1) := by decide +kernel
theorem dX5_first_0 : decode cX5_first 0 = .ok (.iload_n 1, 1) := by decide +kernel
theorem dX5_first_1 : decode cX5_first 1 = .ok (.ifCond .lt 8, 3) := by decide +kernel
theorem dX5_first_4 : decode cX5_first 4 = .ok (.iload_n 1, 1) := by decide +kernel
theorem dX5_first_5 : decode cX5_first 5 = .ok (.iconst 2, 1) := by decide +kernel
theorem dX5_first_6 : decode cX5_first 6 = .ok (.if_icmp .le 6, 3) := by decide +kernel
theorem dX5_first_9 : decode cX5_first 9 = .ok (.bipush (-2), 2) := by decide +kernel
theorem dX5_first_11 : decode cX5_first 11 = .ok (.ireturn, 1) := by decide +kernel
theorem dX5_first_12 : decode cX5_first 12 = .ok (.iconst 0, 1) := by decide +kernel
theorem dX5_first_13 : decode cX5_first 13 = .ok (.istore_n 2, 1) := by decide +kernel
theorem dX5_first_14 : decode cX5_first 14 = .ok (.iload_n 2, 1) := by decide +kernel
theorem dX5_first_15 : decode cX5_first 15 = .ok (.aload_n 0, 1) := by decide +kernel
theorem dX5_first_16 : decode cX5_first 16 = .ok (.getfield 37, 3) := by decide +kernel
theorem dX5_first_19 : decode cX5_first 19 = .ok (.getfield 221, 3) := by decide +kernel
theorem dX5_first_22 : decode cX5_first 22 = .ok (.if_icmp .ge 70, 3) := by decide +kernel
theorem dX5_first_25 : decode cX5_first 25 = .ok (.aload_n 0, 1) := by decide +kernel
theorem dX5_first_26 : decode cX5_first 26 = .ok (.iload_n 2, 1) := by decide +kernel
theorem dX5_first_27 : decode cX5_first 27 = .ok (.invokevirtual 224, 3) := by decide +kernel
theorem dX5_first_30 : decode cX5_first 30 = .ok (.istore_n 3, 1) := by decide +kernel
theorem dX5_first_31 : decode cX5_first 31 = .ok (.iload_n 3, 1) := by decide +kernel
theorem dX5_first_32 : decode cX5_first 32 = .ok (.iconst (-1), 1) := by decide +kernel
theorem dX5_first_33 : decode cX5_first 33 = .ok (.if_icmp .eq 53, 3) := by decide +kernel
theorem dX5_first_36 : decode cX5_first 36 = .ok (.iload_n 1, 1) := by decide +kernel
theorem dX5_first_37 : decode cX5_first 37 = .ok (.lookupswitch 47 #[(0, 27), (1, 37)], 27) := by decide +kernel
theorem dX5_first_64 : decode cX5_first 64 = .ok (.aload_n 0, 1) := by decide +kernel
theorem dX5_first_65 : decode cX5_first 65 = .ok (.getfield 37, 3) := by decide +kernel
theorem dX5_first_68 : decode cX5_first 68 = .ok (.getfield 207, 3) := by decide +kernel
theorem dX5_first_71 : decode cX5_first 71 = .ok (.iload_n 2, 1) := by decide +kernel
theorem dX5_first_72 : decode cX5_first 72 = .ok (.iaload, 1) := by decide +kernel
theorem dX5_first_73 : decode cX5_first 73 = .ok (.ireturn, 1) := by decide +kernel
theorem dX5_first_74 : decode cX5_first 74 = .ok (.aload_n 0, 1) := by decide +kernel
theorem dX5_first_75 : decode cX5_first 75 = .ok (.getfield 37, 3) := by decide +kernel
theorem dX5_first_78 : decode cX5_first 78 = .ok (.getfield 210, 3) := by decide +kernel
theorem dX5_first_81 : decode cX5_first 81 = .ok (.iload_n 2, 1) := by decide +kernel
theorem dX5_first_82 : decode cX5_first 82 = .ok (.iaload, 1) := by decide +kernel
theorem dX5_first_83 : decode cX5_first 83 = .ok (.ireturn, 1) := by decide +kernel
theorem dX5_first_84 : decode cX5_first 84 = .ok (.iload_n 3, 1) := by decide +kernel
theorem dX5_first_85 : decode cX5_first 85 = .ok (.ireturn, 1) := by decide +kernel
theorem dX5_first_86 : decode cX5_first 86 = .ok (.iinc 2 1, 3) := by decide +kernel
theorem dX5_first_89 : decode cX5_first 89 = .ok (.goto (-75), 3) := by decide +kernel
theorem dX5_first_92 : decode cX5_first 92 = .ok (.iconst (-1), 1) := by decide +kernel
theorem dX5_first_93 : decode cX5_first 93 = .ok (.ireturn, 1) := by decide +kernel
theorem dX5_holding_0 : decode cX5_holding 0 = .ok (.iload_n 1, 1) := by decide +kernel
theorem dX5_holding_1 : decode cX5_holding 1 = .ok (.lookupswitch 42 #[(0, 27), (1, 37)], 27) := by decide +kernel
theorem dX5_holding_28 : decode cX5_holding 28 = .ok (.aload_n 0, 1) := by decide +kernel
theorem dX5_holding_29 : decode cX5_holding 29 = .ok (.aload_n 0, 1) := by decide +kernel
theorem dX5_holding_30 : decode cX5_holding 30 = .ok (.getfield 37, 3) := by decide +kernel
theorem dX5_holding_33 : decode cX5_holding 33 = .ok (.iconst (-1), 1) := by decide +kernel
theorem dX5_holding_34 : decode cX5_holding 34 = .ok (.invokevirtual 227, 3) := by decide +kernel
theorem dX5_holding_37 : decode cX5_holding 37 = .ok (.ireturn, 1) := by decide +kernel
theorem dX5_holding_38 : decode cX5_holding 38 = .ok (.aload_n 0, 1) := by decide +kernel
theorem dX5_holding_39 : decode cX5_holding 39 = .ok (.invokevirtual 231, 3) := by decide +kernel
theorem dX5_holding_42 : decode cX5_holding 42 = .ok (.ireturn, 1) := by decide +kernel
theorem dX5_holding_43 : decode cX5_holding 43 = .ok (.bipush (-2), 2) := by decide +kernel
theorem dX5_holding_45 : decode cX5_holding 45 = .ok (.ireturn, 1) := by decide +kernel
theorem dX5_better_0 : decode cX5_better 0 = .ok (.iload_n 1, 1) := by decide +kernel
theorem dX5_better_1 : decode cX5_better 1 = .ok (.ifCond .lt 8, 3) := by decide +kernel
theorem dX5_better_4 : decode cX5_better 4 = .ok (.iload_n 1, 1) := by decide +kernel
theorem dX5_better_5 : decode cX5_better 5 = .ok (.iconst 1, 1) := by decide +kernel
theorem dX5_better_6 : decode cX5_better 6 = .ok (.if_icmp .le 6, 3) := by decide +kernel
theorem dX5_better_9 : decode cX5_better 9 = .ok (.bipush (-2), 2) := by decide +kernel
theorem dX5_better_11 : decode cX5_better 11 = .ok (.ireturn, 1) := by decide +kernel
theorem dX5_better_12 : decode cX5_better 12 = .ok (.iconst (-1), 1) := by decide +kernel
theorem dX5_better_13 : decode cX5_better 13 = .ok (.istore_n 2, 1) := by decide +kernel
theorem dX5_better_14 : decode cX5_better 14 = .ok (.iconst (-1), 1) := by decide +kernel
theorem dX5_better_15 : decode cX5_better 15 = .ok (.istore_n 3, 1) := by decide +kernel
theorem dX5_better_16 : decode cX5_better 16 = .ok (.iconst 0, 1) := by decide +kernel
theorem dX5_better_17 : decode cX5_better 17 = .ok (.istore 4, 2) := by decide +kernel
theorem dX5_better_19 : decode cX5_better 19 = .ok (.iload 4, 2) := by decide +kernel
theorem dX5_better_21 : decode cX5_better 21 = .ok (.aload_n 0, 1) := by decide +kernel
theorem dX5_better_22 : decode cX5_better 22 = .ok (.getfield 12, 3) := by decide +kernel
theorem dX5_better_25 : decode cX5_better 25 = .ok (.getfield 82, 3) := by decide +kernel
theorem dX5_better_28 : decode cX5_better 28 = .ok (.if_icmp .ge 42, 3) := by decide +kernel
theorem dX5_better_31 : decode cX5_better 31 = .ok (.aload_n 0, 1) := by decide +kernel
theorem dX5_better_32 : decode cX5_better 32 = .ok (.getfield 41, 3) := by decide +kernel
theorem dX5_better_35 : decode cX5_better 35 = .ok (.iload 4, 2) := by decide +kernel
theorem dX5_better_37 : decode cX5_better 37 = .ok (.invokevirtual 55, 3) := by decide +kernel
theorem dX5_better_40 : decode cX5_better 40 = .ok (.aload_n 0, 1) := by decide +kernel
theorem dX5_better_41 : decode cX5_better 41 = .ok (.aload_n 0, 1) := by decide +kernel
theorem dX5_better_42 : decode cX5_better 42 = .ok (.getfield 41, 3) := by decide +kernel
theorem dX5_better_45 : decode cX5_better 45 = .ok (.iload 4, 2) := by decide +kernel
theorem dX5_better_47 : decode cX5_better 47 = .ok (.invokevirtual 227, 3) := by decide +kernel
theorem dX5_better_50 : decode cX5_better 50 = .ok (.istore 5, 2) := by decide +kernel
theorem dX5_better_52 : decode cX5_better 52 = .ok (.iload 5, 2) := by decide +kernel
theorem dX5_better_54 : decode cX5_better 54 = .ok (.iload_n 3, 1) := by decide +kernel
theorem dX5_better_55 : decode cX5_better 55 = .ok (.if_icmp .le 9, 3) := by decide +kernel
theorem dX5_better_58 : decode cX5_better 58 = .ok (.iload 4, 2) := by decide +kernel
theorem dX5_better_60 : decode cX5_better 60 = .ok (.istore_n 2, 1) := by decide +kernel
theorem dX5_better_61 : decode cX5_better 61 = .ok (.iload 5, 2) := by decide +kernel
theorem dX5_better_63 : decode cX5_better 63 = .ok (.istore_n 3, 1) := by decide +kernel
theorem dX5_better_64 : decode cX5_better 64 = .ok (.iinc 4 1, 3) := by decide +kernel
theorem dX5_better_67 : decode cX5_better 67 = .ok (.goto (-48), 3) := by decide +kernel
theorem dX5_better_70 : decode cX5_better 70 = .ok (.iload_n 1, 1) := by decide +kernel
theorem dX5_better_71 : decode cX5_better 71 = .ok (.ifCond .ne 7, 3) := by decide +kernel
theorem dX5_better_74 : decode cX5_better 74 = .ok (.iload_n 2, 1) := by decide +kernel
theorem dX5_better_75 : decode cX5_better 75 = .ok (.goto 4, 3) := by decide +kernel
theorem dX5_better_78 : decode cX5_better 78 = .ok (.iload_n 3, 1) := by decide +kernel
theorem dX5_better_79 : decode cX5_better 79 = .ok (.ireturn, 1) := by decide +kernel
theorem dX5_sheet_0 : decode cX5_sheet 0 = .ok (.iload_n 1, 1) := by decide +kernel
theorem dX5_sheet_1 : decode cX5_sheet 1 = .ok (.invokestatic 121, 3) := by decide +kernel
theorem dX5_sheet_4 : decode cX5_sheet 4 = .ok (.ifCond .eq 16, 3) := by decide +kernel
theorem dX5_sheet_7 : decode cX5_sheet 7 = .ok (.iload_n 2, 1) := by decide +kernel
theorem dX5_sheet_8 : decode cX5_sheet 8 = .ok (.invokestatic 235, 3) := by decide +kernel
theorem dX5_sheet_11 : decode cX5_sheet 11 = .ok (.ifCond .eq 9, 3) := by decide +kernel
theorem dX5_sheet_14 : decode cX5_sheet 14 = .ok (.iload_n 3, 1) := by decide +kernel
theorem dX5_sheet_15 : decode cX5_sheet 15 = .ok (.bipush 60, 2) := by decide +kernel
theorem dX5_sheet_17 : decode cX5_sheet 17 = .ok (.if_icmp .le 6, 3) := by decide +kernel
theorem dX5_sheet_20 : decode cX5_sheet 20 = .ok (.bipush (-2), 2) := by decide +kernel
theorem dX5_sheet_22 : decode cX5_sheet 22 = .ok (.ireturn, 1) := by decide +kernel
theorem dX5_sheet_23 : decode cX5_sheet 23 = .ok (.iload_n 3, 1) := by decide +kernel
theorem dX5_sheet_24 : decode cX5_sheet 24 = .ok (.ifCond .ge 9, 3) := by decide +kernel
theorem dX5_sheet_27 : decode cX5_sheet 27 = .ok (.aload_n 0, 1) := by decide +kernel
theorem dX5_sheet_28 : decode cX5_sheet 28 = .ok (.iconst 5, 1) := by decide +kernel
theorem dX5_sheet_29 : decode cX5_sheet 29 = .ok (.invokevirtual 128, 3) := by decide +kernel
theorem dX5_sheet_32 : decode cX5_sheet 32 = .ok (.ireturn, 1) := by decide +kernel
theorem dX5_sheet_33 : decode cX5_sheet 33 = .ok (.aload_n 0, 1) := by decide +kernel
theorem dX5_sheet_34 : decode cX5_sheet 34 = .ok (.getfield 46, 3) := by decide +kernel
theorem dX5_sheet_37 : decode cX5_sheet 37 = .ok (.iload_n 1, 1) := by decide +kernel
theorem dX5_sheet_38 : decode cX5_sheet 38 = .ok (.aaload, 1) := by decide +kernel
theorem dX5_sheet_39 : decode cX5_sheet 39 = .ok (.iload_n 2, 1) := by decide +kernel
theorem dX5_sheet_40 : decode cX5_sheet 40 = .ok (.iload_n 3, 1) := by decide +kernel
theorem dX5_sheet_41 : decode cX5_sheet 41 = .ok (.invokevirtual 238, 3) := by decide +kernel
theorem dX5_sheet_44 : decode cX5_sheet 44 = .ok (.iload_n 3, 1) := by decide +kernel
theorem dX5_sheet_45 : decode cX5_sheet 45 = .ok (.ireturn, 1) := by decide +kernel
theorem dX5_lose_0 : decode cX5_lose 0 = .ok (.iload_n 1, 1) := by decide +kernel
theorem dX5_lose_1 : decode cX5_lose 1 = .ok (.invokestatic 121, 3) := by decide +kernel
theorem dX5_lose_4 : decode cX5_lose 4 = .ok (.ifCond .ne 6, 3) := by decide +kernel
theorem dX5_lose_7 : decode cX5_lose 7 = .ok (.bipush (-2), 2) := by decide +kernel
theorem dX5_lose_9 : decode cX5_lose 9 = .ok (.ireturn, 1) := by decide +kernel
theorem dX5_lose_10 : decode cX5_lose 10 = .ok (.aload_n 0, 1) := by decide +kernel
theorem dX5_lose_11 : decode cX5_lose 11 = .ok (.getfield 46, 3) := by decide +kernel
theorem dX5_lose_14 : decode cX5_lose 14 = .ok (.iload_n 1, 1) := by decide +kernel
theorem dX5_lose_15 : decode cX5_lose 15 = .ok (.aaload, 1) := by decide +kernel
theorem dX5_lose_16 : decode cX5_lose 16 = .ok (.getfield 124, 3) := by decide +kernel
theorem dX5_lose_19 : decode cX5_lose 19 = .ok (.ifCond .eq 9, 3) := by decide +kernel
theorem dX5_lose_22 : decode cX5_lose 22 = .ok (.aload_n 0, 1) := by decide +kernel
theorem dX5_lose_23 : decode cX5_lose 23 = .ok (.iconst 1, 1) := by decide +kernel
theorem dX5_lose_24 : decode cX5_lose 24 = .ok (.invokevirtual 128, 3) := by decide +kernel
theorem dX5_lose_27 : decode cX5_lose 27 = .ok (.ireturn, 1) := by decide +kernel
theorem dX5_lose_28 : decode cX5_lose 28 = .ok (.aload_n 0, 1) := by decide +kernel
theorem dX5_lose_29 : decode cX5_lose 29 = .ok (.getfield 46, 3) := by decide +kernel
theorem dX5_lose_32 : decode cX5_lose 32 = .ok (.iload_n 1, 1) := by decide +kernel
theorem dX5_lose_33 : decode cX5_lose 33 = .ok (.aaload, 1) := by decide +kernel
theorem dX5_lose_34 : decode cX5_lose 34 = .ok (.iconst 1, 1) := by decide +kernel
theorem dX5_lose_35 : decode cX5_lose 35 = .ok (.putfield 124, 3) := by decide +kernel
theorem dX5_lose_38 : decode cX5_lose 38 = .ok (.aload_n 0, 1) := by decide +kernel
theorem dX5_lose_39 : decode cX5_lose 39 = .ok (.getfield 46, 3) := by decide +kernel
theorem dX5_lose_42 : decode cX5_lose 42 = .ok (.iload_n 1, 1) := by decide +kernel
theorem dX5_lose_43 : decode cX5_lose 43 = .ok (.aaload, 1) := by decide +kernel
theorem dX5_lose_44 : decode cX5_lose 44 = .ok (.getfield 131, 3) := by decide +kernel
theorem dX5_lose_47 : decode cX5_lose 47 = .ok (.ireturn, 1) := by decide +kernel
theorem dX5_lay_0 : decode cX5_lay 0 = .ok (.iload_n 1, 1) := by decide +kernel
theorem dX5_lay_1 : decode cX5_lay 1 = .ok (.invokestatic 121, 3) := by decide +kernel
theorem dX5_lay_4 : decode cX5_lay 4 = .ok (.ifCond .eq 10, 3) := by decide +kernel
theorem dX5_lay_7 : decode cX5_lay 7 = .ok (.iload_n 2, 1) := by decide +kernel
theorem dX5_lay_8 : decode cX5_lay 8 = .ok (.invokestatic 235, 3) := by decide +kernel
theorem dX5_lay_11 : decode cX5_lay 11 = .ok (.ifCond .ne 6, 3) := by decide +kernel
theorem dX5_lay_14 : decode cX5_lay 14 = .ok (.bipush (-2), 2) := by decide +kernel
theorem dX5_lay_16 : decode cX5_lay 16 = .ok (.ireturn, 1) := by decide +kernel
theorem dX5_lay_17 : decode cX5_lay 17 = .ok (.aload_n 0, 1) := by decide +kernel
theorem dX5_lay_18 : decode cX5_lay 18 = .ok (.getfield 46, 3) := by decide +kernel
theorem dX5_lay_21 : decode cX5_lay 21 = .ok (.iload_n 1, 1) := by decide +kernel
theorem dX5_lay_22 : decode cX5_lay 22 = .ok (.aaload, 1) := by decide +kernel
theorem dX5_lay_23 : decode cX5_lay 23 = .ok (.iload_n 2, 1) := by decide +kernel
theorem dX5_lay_24 : decode cX5_lay 24 = .ok (.iload_n 3, 1) := by decide +kernel
theorem dX5_lay_25 : decode cX5_lay 25 = .ok (.invokevirtual 241, 3) := by decide +kernel
theorem dX5_lay_28 : decode cX5_lay 28 = .ok (.istore 5, 2) := by decide +kernel
theorem dX5_lay_30 : decode cX5_lay 30 = .ok (.iload 5, 2) := by decide +kernel
theorem dX5_lay_32 : decode cX5_lay 32 = .ok (.ifCond .eq 10, 3) := by decide +kernel
theorem dX5_lay_35 : decode cX5_lay 35 = .ok (.aload_n 0, 1) := by decide +kernel
theorem dX5_lay_36 : decode cX5_lay 36 = .ok (.iload 5, 2) := by decide +kernel
theorem dX5_lay_38 : decode cX5_lay 38 = .ok (.invokevirtual 128, 3) := by decide +kernel
theorem dX5_lay_41 : decode cX5_lay 41 = .ok (.ireturn, 1) := by decide +kernel
theorem dX5_lay_42 : decode cX5_lay 42 = .ok (.aload_n 0, 1) := by decide +kernel
theorem dX5_lay_43 : decode cX5_lay 43 = .ok (.getfield 46, 3) := by decide +kernel
theorem dX5_lay_46 : decode cX5_lay 46 = .ok (.iload_n 1, 1) := by decide +kernel
theorem dX5_lay_47 : decode cX5_lay 47 = .ok (.aaload, 1) := by decide +kernel
theorem dX5_lay_48 : decode cX5_lay 48 = .ok (.iload_n 3, 1) := by decide +kernel
theorem dX5_lay_49 : decode cX5_lay 49 = .ok (.iload 4, 2) := by decide +kernel
theorem dX5_lay_51 : decode cX5_lay 51 = .ok (.invokevirtual 244, 3) := by decide +kernel
theorem dX5_lay_54 : decode cX5_lay 54 = .ok (.iconst 1, 1) := by decide +kernel
theorem dX5_lay_55 : decode cX5_lay 55 = .ok (.ireturn, 1) := by decide +kernel
theorem dX5_get_0 : decode cX5_get 0 = .ok (.iload_n 1, 1) := by decide +kernel
theorem dX5_get_1 : decode cX5_get 1 = .ok (.invokestatic 121, 3) := by decide +kernel
theorem dX5_get_4 : decode cX5_get 4 = .ok (.ifCond .eq 10, 3) := by decide +kernel
theorem dX5_get_7 : decode cX5_get 7 = .ok (.iload_n 2, 1) := by decide +kernel
theorem dX5_get_8 : decode cX5_get 8 = .ok (.invokestatic 235, 3) := by decide +kernel
theorem dX5_get_11 : decode cX5_get 11 = .ok (.ifCond .ne 6, 3) := by decide +kernel
theorem dX5_get_14 : decode cX5_get 14 = .ok (.ldc 181, 2) := by decide +kernel
theorem dX5_get_16 : decode cX5_get 16 = .ok (.ireturn, 1) := by decide +kernel
theorem dX5_get_17 : decode cX5_get 17 = .ok (.aload_n 0, 1) := by decide +kernel
theorem dX5_get_18 : decode cX5_get 18 = .ok (.getfield 46, 3) := by decide +kernel
theorem dX5_get_21 : decode cX5_get 21 = .ok (.iload_n 1, 1) := by decide +kernel
theorem dX5_get_22 : decode cX5_get 22 = .ok (.aaload, 1) := by decide +kernel
theorem dX5_get_23 : decode cX5_get 23 = .ok (.iload_n 2, 1) := by decide +kernel
theorem dX5_get_24 : decode cX5_get 24 = .ok (.iload_n 3, 1) := by decide +kernel
theorem dX5_get_25 : decode cX5_get 25 = .ok (.invokevirtual 241, 3) := by decide +kernel
theorem dX5_get_28 : decode cX5_get 28 = .ok (.istore 4, 2) := by decide +kernel
theorem dX5_get_30 : decode cX5_get 30 = .ok (.iload 4, 2) := by decide +kernel
theorem dX5_get_32 : decode cX5_get 32 = .ok (.ifCond .eq 13, 3) := by decide +kernel
theorem dX5_get_35 : decode cX5_get 35 = .ok (.aload_n 0, 1) := by decide +kernel
theorem dX5_get_36 : decode cX5_get 36 = .ok (.iload 4, 2) := by decide +kernel
theorem dX5_get_38 : decode cX5_get 38 = .ok (.invokevirtual 128, 3) := by decide +kernel
theorem dX5_get_41 : decode cX5_get 41 = .ok (.pop, 1) := by decide +kernel
theorem dX5_get_42 : decode cX5_get 42 = .ok (.ldc 181, 2) := by decide +kernel
theorem dX5_get_44 : decode cX5_get 44 = .ok (.ireturn, 1) := by decide +kernel
theorem dX5_get_45 : decode cX5_get 45 = .ok (.aload_n 0, 1) := by decide +kernel
theorem dX5_get_46 : decode cX5_get 46 = .ok (.getfield 46, 3) := by decide +kernel
theorem dX5_get_49 : decode cX5_get 49 = .ok (.iload_n 1, 1) := by decide +kernel
theorem dX5_get_50 : decode cX5_get 50 = .ok (.aaload, 1) := by decide +kernel
theorem dX5_get_51 : decode cX5_get 51 = .ok (.getfield 132, 3) := by decide +kernel
theorem dX5_get_54 : decode cX5_get 54 = .ok (.iload_n 3, 1) := by decide +kernel
theorem dX5_get_55 : decode cX5_get 55 = .ok (.iaload, 1) := by decide +kernel
theorem dX5_get_56 : decode cX5_get 56 = .ok (.ireturn, 1) := by decide +kernel
theorem dX5_copy_0 : decode cX5_copy 0 = .ok (.iload_n 1, 1) := by decide +kernel
theorem dX5_copy_1 : decode cX5_copy 1 = .ok (.invokestatic 121, 3) := by decide +kernel
theorem dX5_copy_4 : decode cX5_copy 4 = .ok (.ifCond .eq 10, 3) := by decide +kernel
theorem dX5_copy_7 : decode cX5_copy 7 = .ok (.iload_n 3, 1) := by decide +kernel
theorem dX5_copy_8 : decode cX5_copy 8 = .ok (.invokestatic 121, 3) := by decide +kernel
theorem dX5_copy_11 : decode cX5_copy 11 = .ok (.ifCond .ne 6, 3) := by decide +kernel
theorem dX5_copy_14 : decode cX5_copy 14 = .ok (.bipush (-2), 2) := by decide +kernel
theorem dX5_copy_16 : decode cX5_copy 16 = .ok (.ireturn, 1) := by decide +kernel
theorem dX5_copy_17 : decode cX5_copy 17 = .ok (.aload_n 0, 1) := by decide +kernel
theorem dX5_copy_18 : decode cX5_copy 18 = .ok (.getfield 46, 3) := by decide +kernel
theorem dX5_copy_21 : decode cX5_copy 21 = .ok (.iload_n 1, 1) := by decide +kernel
theorem dX5_copy_22 : decode cX5_copy 22 = .ok (.aaload, 1) := by decide +kernel
theorem dX5_copy_23 : decode cX5_copy 23 = .ok (.astore 6, 2) := by decide +kernel
theorem dX5_copy_25 : decode cX5_copy 25 = .ok (.aload_n 0, 1) := by decide +kernel
theorem dX5_copy_26 : decode cX5_copy 26 = .ok (.getfield 46, 3) := by decide +kernel
theorem dX5_copy_29 : decode cX5_copy 29 = .ok (.iload_n 3, 1) := by decide +kernel
theorem dX5_copy_30 : decode cX5_copy 30 = .ok (.aaload, 1) := by decide +kernel
theorem dX5_copy_31 : decode cX5_copy 31 = .ok (.astore 7, 2) := by decide +kernel
theorem dX5_copy_33 : decode cX5_copy 33 = .ok (.aload 6, 2) := by decide +kernel
theorem dX5_copy_35 : decode cX5_copy 35 = .ok (.getfield 124, 3) := by decide +kernel
theorem dX5_copy_38 : decode cX5_copy 38 = .ok (.ifCond .ne 11, 3) := by decide +kernel
theorem dX5_copy_41 : decode cX5_copy 41 = .ok (.aload 7, 2) := by decide +kernel
theorem dX5_copy_43 : decode cX5_copy 43 = .ok (.getfield 124, 3) := by decide +kernel
theorem dX5_copy_46 : decode cX5_copy 46 = .ok (.ifCond .eq 9, 3) := by decide +kernel
theorem dX5_copy_49 : decode cX5_copy 49 = .ok (.aload_n 0, 1) := by decide +kernel
theorem dX5_copy_50 : decode cX5_copy 50 = .ok (.iconst 1, 1) := by decide +kernel
theorem dX5_copy_51 : decode cX5_copy 51 = .ok (.invokevirtual 128, 3) := by decide +kernel
theorem dX5_copy_54 : decode cX5_copy 54 = .ok (.ireturn, 1) := by decide +kernel
theorem dX5_copy_55 : decode cX5_copy 55 = .ok (.aload 6, 2) := by decide +kernel
theorem dX5_copy_57 : decode cX5_copy 57 = .ok (.getfield 247, 3) := by decide +kernel
theorem dX5_copy_60 : decode cX5_copy 60 = .ok (.aload 7, 2) := by decide +kernel
theorem dX5_copy_62 : decode cX5_copy 62 = .ok (.getfield 247, 3) := by decide +kernel
theorem dX5_copy_65 : decode cX5_copy 65 = .ok (.if_icmp .eq 9, 3) := by decide +kernel
theorem dX5_copy_68 : decode cX5_copy 68 = .ok (.aload_n 0, 1) := by decide +kernel
theorem dX5_copy_69 : decode cX5_copy 69 = .ok (.iconst 4, 1) := by decide +kernel
theorem dX5_copy_70 : decode cX5_copy 70 = .ok (.invokevirtual 128, 3) := by decide +kernel
theorem dX5_copy_73 : decode cX5_copy 73 = .ok (.ireturn, 1) := by decide +kernel
theorem dX5_copy_74 : decode cX5_copy 74 = .ok (.aload 6, 2) := by decide +kernel
theorem dX5_copy_76 : decode cX5_copy 76 = .ok (.iload_n 2, 1) := by decide +kernel
theorem dX5_copy_77 : decode cX5_copy 77 = .ok (.iload 5, 2) := by decide +kernel
theorem dX5_copy_79 : decode cX5_copy 79 = .ok (.invokevirtual 250, 3) := by decide +kernel
theorem dX5_copy_82 : decode cX5_copy 82 = .ok (.ifCond .eq 15, 3) := by decide +kernel
theorem dX5_copy_85 : decode cX5_copy 85 = .ok (.aload 7, 2) := by decide +kernel
theorem dX5_copy_87 : decode cX5_copy 87 = .ok (.iload 4, 2) := by decide +kernel
theorem dX5_copy_89 : decode cX5_copy 89 = .ok (.iload 5, 2) := by decide +kernel
theorem dX5_copy_91 : decode cX5_copy 91 = .ok (.invokevirtual 250, 3) := by decide +kernel
theorem dX5_copy_94 : decode cX5_copy 94 = .ok (.ifCond .ne 9, 3) := by decide +kernel
theorem dX5_copy_97 : decode cX5_copy 97 = .ok (.aload_n 0, 1) := by decide +kernel
theorem dX5_copy_98 : decode cX5_copy 98 = .ok (.iconst 2, 1) := by decide +kernel
theorem dX5_copy_99 : decode cX5_copy 99 = .ok (.invokevirtual 128, 3) := by decide +kernel
theorem dX5_copy_102 : decode cX5_copy 102 = .ok (.ireturn, 1) := by decide +kernel
theorem dX5_copy_103 : decode cX5_copy 103 = .ok (.aload 6, 2) := by decide +kernel
theorem dX5_copy_105 : decode cX5_copy 105 = .ok (.getfield 132, 3) := by decide +kernel
theorem dX5_copy_108 : decode cX5_copy 108 = .ok (.iload_n 2, 1) := by decide +kernel
theorem dX5_copy_109 : decode cX5_copy 109 = .ok (.aload 7, 2) := by decide +kernel
theorem dX5_copy_111 : decode cX5_copy 111 = .ok (.getfield 132, 3) := by decide +kernel
theorem dX5_copy_114 : decode cX5_copy 114 = .ok (.iload 4, 2) := by decide +kernel
theorem dX5_copy_116 : decode cX5_copy 116 = .ok (.iload 5, 2) := by decide +kernel
theorem dX5_copy_118 : decode cX5_copy 118 = .ok (.invokestatic 253, 3) := by decide +kernel
theorem dX5_copy_121 : decode cX5_copy 121 = .ok (.iconst 1, 1) := by decide +kernel
theorem dX5_copy_122 : decode cX5_copy 122 = .ok (.ireturn, 1) := by decide +kernel
theorem dX5_tell_0 : decode cX5_tell 0 = .ok (.iload_n 1, 1) := by decide +kernel
theorem dX5_tell_1 : decode cX5_tell 1 = .ok (.ifCond .lt 17, 3) := by decide +kernel
theorem dX5_tell_4 : decode cX5_tell 4 = .ok (.iload_n 1, 1) := by decide +kernel
theorem dX5_tell_5 : decode cX5_tell 5 = .ok (.sipush 400, 3) := by decide +kernel
theorem dX5_tell_8 : decode cX5_tell 8 = .ok (.if_icmp .gt 10, 3) := by decide +kernel
theorem dX5_tell_11 : decode cX5_tell 11 = .ok (.iload_n 2, 1) := by decide +kernel
theorem dX5_tell_12 : decode cX5_tell 12 = .ok (.invokestatic 121, 3) := by decide +kernel
theorem dX5_tell_15 : decode cX5_tell 15 = .ok (.ifCond .ne 6, 3) := by decide +kernel
theorem dX5_tell_18 : decode cX5_tell 18 = .ok (.bipush (-2), 2) := by decide +kernel
theorem dX5_tell_20 : decode cX5_tell 20 = .ok (.ireturn, 1) := by decide +kernel
theorem dX5_tell_21 : decode cX5_tell 21 = .ok (.aload_n 0, 1) := by decide +kernel
theorem dX5_tell_22 : decode cX5_tell 22 = .ok (.getfield 46, 3) := by decide +kernel
theorem dX5_tell_25 : decode cX5_tell 25 = .ok (.iload_n 2, 1) := by decide +kernel
theorem dX5_tell_26 : decode cX5_tell 26 = .ok (.aaload, 1) := by decide +kernel
theorem dX5_tell_27 : decode cX5_tell 27 = .ok (.astore_n 3, 1) := by decide +kernel
theorem dX5_tell_28 : decode cX5_tell 28 = .ok (.aload_n 3, 1) := by decide +kernel
theorem dX5_tell_29 : decode cX5_tell 29 = .ok (.getfield 124, 3) := by decide +kernel
theorem dX5_tell_32 : decode cX5_tell 32 = .ok (.ifCond .eq 9, 3) := by decide +kernel
theorem dX5_tell_35 : decode cX5_tell 35 = .ok (.aload_n 0, 1) := by decide +kernel
theorem dX5_tell_36 : decode cX5_tell 36 = .ok (.iconst 1, 1) := by decide +kernel
theorem dX5_tell_37 : decode cX5_tell 37 = .ok (.invokevirtual 128, 3) := by decide +kernel
theorem dX5_tell_40 : decode cX5_tell 40 = .ok (.ireturn, 1) := by decide +kernel
theorem dX5_tell_41 : decode cX5_tell 41 = .ok (.aload_n 3, 1) := by decide +kernel
theorem dX5_tell_42 : decode cX5_tell 42 = .ok (.getfield 131, 3) := by decide +kernel
theorem dX5_tell_45 : decode cX5_tell 45 = .ok (.iconst 0, 1) := by decide +kernel
theorem dX5_tell_46 : decode cX5_tell 46 = .ok (.aload_n 0, 1) := by decide +kernel
theorem dX5_tell_47 : decode cX5_tell 47 = .ok (.getfield 19, 3) := by decide +kernel
theorem dX5_tell_50 : decode cX5_tell 50 = .ok (.getfield 156, 3) := by decide +kernel
theorem dX5_tell_53 : decode cX5_tell 53 = .ok (.iload_n 1, 1) := by decide +kernel
theorem dX5_tell_54 : decode cX5_tell 54 = .ok (.isub, 1) := by decide +kernel
theorem dX5_tell_55 : decode cX5_tell 55 = .ok (.invokestatic 259, 3) := by decide +kernel
theorem dX5_tell_58 : decode cX5_tell 58 = .ok (.invokestatic 216, 3) := by decide +kernel
theorem dX5_tell_61 : decode cX5_tell 61 = .ok (.istore 4, 2) := by decide +kernel
theorem dX5_tell_63 : decode cX5_tell 63 = .ok (.iconst 0, 1) := by decide +kernel
theorem dX5_tell_64 : decode cX5_tell 64 = .ok (.istore 5, 2) := by decide +kernel
theorem dX5_tell_66 : decode cX5_tell 66 = .ok (.iload 5, 2) := by decide +kernel
theorem dX5_tell_68 : decode cX5_tell 68 = .ok (.iload 4, 2) := by decide +kernel
theorem dX5_tell_70 : decode cX5_tell 70 = .ok (.if_icmp .ge 27, 3) := by decide +kernel
theorem dX5_tell_73 : decode cX5_tell 73 = .ok (.aload_n 3, 1) := by decide +kernel
theorem dX5_tell_74 : decode cX5_tell 74 = .ok (.iload 5, 2) := by decide +kernel
theorem dX5_tell_76 : decode cX5_tell 76 = .ok (.aload_n 0, 1) := by decide +kernel
theorem dX5_tell_77 : decode cX5_tell 77 = .ok (.getfield 19, 3) := by decide +kernel
theorem dX5_tell_80 : decode cX5_tell 80 = .ok (.getfield 158, 3) := by decide +kernel
theorem dX5_tell_83 : decode cX5_tell 83 = .ok (.iload_n 1, 1) := by decide +kernel
theorem dX5_tell_84 : decode cX5_tell 84 = .ok (.iload 5, 2) := by decide +kernel
theorem dX5_tell_86 : decode cX5_tell 86 = .ok (.iadd, 1) := by decide +kernel
theorem dX5_tell_87 : decode cX5_tell 87 = .ok (.iaload, 1) := by decide +kernel
theorem dX5_tell_88 : decode cX5_tell 88 = .ok (.invokevirtual 244, 3) := by decide +kernel
theorem dX5_tell_91 : decode cX5_tell 91 = .ok (.iinc 5 1, 3) := by decide +kernel
theorem dX5_tell_94 : decode cX5_tell 94 = .ok (.goto (-28), 3) := by decide +kernel
theorem dX5_tell_97 : decode cX5_tell 97 = .ok (.iload 4, 2) := by decide +kernel
theorem dX5_tell_99 : decode cX5_tell 99 = .ok (.ireturn, 1) := by decide +kernel
theorem dX5_count_0 : decode cX5_count 0 = .ok (.iload_n 1, 1) := by decide +kernel
theorem dX5_count_1 : decode cX5_count 1 = .ok (.tableswitch 131 0 8 #[51, 59, 67, 75, 80, 90, 109, 114, 126], 51) := by decide +kernel
theorem dX5_count_52 : decode cX5_count 52 = .ok (.aload_n 0, 1) := by decide +kernel
theorem dX5_count_53 : decode cX5_count 53 = .ok (.getfield 12, 3) := by decide +kernel
theorem dX5_count_56 : decode cX5_count 56 = .ok (.getfield 82, 3) := by decide +kernel
theorem dX5_count_59 : decode cX5_count 59 = .ok (.ireturn, 1) := by decide +kernel
theorem dX5_count_60 : decode cX5_count 60 = .ok (.aload_n 0, 1) := by decide +kernel
theorem dX5_count_61 : decode cX5_count 61 = .ok (.getfield 12, 3) := by decide +kernel
theorem dX5_count_64 : decode cX5_count 64 = .ok (.getfield 70, 3) := by decide +kernel
theorem dX5_count_67 : decode cX5_count 67 = .ok (.ireturn, 1) := by decide +kernel
theorem dX5_count_68 : decode cX5_count 68 = .ok (.aload_n 0, 1) := by decide +kernel
theorem dX5_count_69 : decode cX5_count 69 = .ok (.getfield 19, 3) := by decide +kernel
theorem dX5_count_72 : decode cX5_count 72 = .ok (.getfield 156, 3) := by decide +kernel
theorem dX5_count_75 : decode cX5_count 75 = .ok (.ireturn, 1) := by decide +kernel
theorem dX5_count_76 : decode cX5_count 76 = .ok (.aload_n 0, 1) := by decide +kernel
theorem dX5_count_77 : decode cX5_count 77 = .ok (.invokevirtual 231, 3) := by decide +kernel
theorem dX5_count_80 : decode cX5_count 80 = .ok (.ireturn, 1) := by decide +kernel
theorem dX5_count_81 : decode cX5_count 81 = .ok (.aload_n 0, 1) := by decide +kernel
theorem dX5_count_82 : decode cX5_count 82 = .ok (.aload_n 0, 1) := by decide +kernel
theorem dX5_count_83 : decode cX5_count 83 = .ok (.getfield 37, 3) := by decide +kernel
theorem dX5_count_86 : decode cX5_count 86 = .ok (.iconst (-1), 1) := by decide +kernel
theorem dX5_count_87 : decode cX5_count 87 = .ok (.invokevirtual 227, 3) := by decide +kernel
theorem dX5_count_90 : decode cX5_count 90 = .ok (.ireturn, 1) := by decide +kernel
theorem dX5_count_91 : decode cX5_count 91 = .ok (.aload_n 0, 1) := by decide +kernel
theorem dX5_count_92 : decode cX5_count 92 = .ok (.getfield 37, 3) := by decide +kernel
theorem dX5_count_95 : decode cX5_count 95 = .ok (.getfield 262, 3) := by decide +kernel
theorem dX5_count_98 : decode cX5_count 98 = .ok (.aload_n 0, 1) := by decide +kernel
theorem dX5_count_99 : decode cX5_count 99 = .ok (.getfield 12, 3) := by decide +kernel
theorem dX5_count_102 : decode cX5_count 102 = .ok (.getfield 70, 3) := by decide +kernel
theorem dX5_count_105 : decode cX5_count 105 = .ok (.iaload, 1) := by decide +kernel
theorem dX5_count_106 : decode cX5_count 106 = .ok (.invokestatic 265, 3) := by decide +kernel
theorem dX5_count_109 : decode cX5_count 109 = .ok (.ireturn, 1) := by decide +kernel
theorem dX5_count_110 : decode cX5_count 110 = .ok (.aload_n 0, 1) := by decide +kernel
theorem dX5_count_111 : decode cX5_count 111 = .ok (.invokevirtual 270, 3) := by decide +kernel
theorem dX5_count_114 : decode cX5_count 114 = .ok (.ireturn, 1) := by decide +kernel
theorem dX5_count_115 : decode cX5_count 115 = .ok (.aload_n 0, 1) := by decide +kernel
theorem dX5_count_116 : decode cX5_count 116 = .ok (.aload_n 0, 1) := by decide +kernel
theorem dX5_count_117 : decode cX5_count 117 = .ok (.getfield 12, 3) := by decide +kernel
theorem dX5_count_120 : decode cX5_count 120 = .ok (.getfield 70, 3) := by decide +kernel
theorem dX5_count_123 : decode cX5_count 123 = .ok (.invokevirtual 273, 3) := by decide +kernel
theorem dX5_count_126 : decode cX5_count 126 = .ok (.ireturn, 1) := by decide +kernel
theorem dX5_count_127 : decode cX5_count 127 = .ok (.aload_n 0, 1) := by decide +kernel
theorem dX5_count_128 : decode cX5_count 128 = .ok (.getfield 50, 3) := by decide +kernel
theorem dX5_count_131 : decode cX5_count 131 = .ok (.ireturn, 1) := by decide +kernel
theorem dX5_count_132 : decode cX5_count 132 = .ok (.bipush (-2), 2) := by decide +kernel
theorem dX5_count_134 : decode cX5_count 134 = .ok (.ireturn, 1) := by decide +kernel
theorem dX5_digest_0 : decode cX5_digest 0 = .ok (.ldc2_w 276, 3) := by decide +kernel
theorem dX5_digest_3 : decode cX5_digest 3 = .ok (.lstore_n 1, 1) := by decide +kernel
theorem dX5_digest_4 : decode cX5_digest 4 = .ok (.iconst 0, 1) := by decide +kernel
theorem dX5_digest_5 : decode cX5_digest 5 = .ok (.istore_n 3, 1) := by decide +kernel
theorem dX5_digest_6 : decode cX5_digest 6 = .ok (.iload_n 3, 1) := by decide +kernel
theorem dX5_digest_7 : decode cX5_digest 7 = .ok (.bipush 7, 2) := by decide +kernel
theorem dX5_digest_9 : decode cX5_digest 9 = .ok (.if_icmp .gt 22, 3) := by decide +kernel
theorem dX5_digest_12 : decode cX5_digest 12 = .ok (.ldc2_w 278, 3) := by decide +kernel
theorem dX5_digest_15 : decode cX5_digest 15 = .ok (.lload_n 1, 1) := by decide +kernel
theorem dX5_digest_16 : decode cX5_digest 16 = .ok (.lmul, 1) := by decide +kernel
theorem dX5_digest_17 : decode cX5_digest 17 = .ok (.aload_n 0, 1) := by decide +kernel
theorem dX5_digest_18 : decode cX5_digest 18 = .ok (.iload_n 3, 1) := by decide +kernel
theorem dX5_digest_19 : decode cX5_digest 19 = .ok (.invokevirtual 280, 3) := by decide +kernel
theorem dX5_digest_22 : decode cX5_digest 22 = .ok (.i2l, 1) := by decide +kernel
theorem dX5_digest_23 : decode cX5_digest 23 = .ok (.ladd, 1) := by decide +kernel
theorem dX5_digest_24 : decode cX5_digest 24 = .ok (.lstore_n 1, 1) := by decide +kernel
theorem dX5_digest_25 : decode cX5_digest 25 = .ok (.iinc 3 1, 3) := by decide +kernel
theorem dX5_digest_28 : decode cX5_digest 28 = .ok (.goto (-22), 3) := by decide +kernel
theorem dX5_digest_31 : decode cX5_digest 31 = .ok (.iconst 0, 1) := by decide +kernel
theorem dX5_digest_32 : decode cX5_digest 32 = .ok (.istore_n 3, 1) := by decide +kernel
theorem dX5_digest_33 : decode cX5_digest 33 = .ok (.iload_n 3, 1) := by decide +kernel
theorem dX5_digest_34 : decode cX5_digest 34 = .ok (.bipush 8, 2) := by decide +kernel
theorem dX5_digest_36 : decode cX5_digest 36 = .ok (.if_icmp .ge 16, 3) := by decide +kernel
theorem dX5_digest_39 : decode cX5_digest 39 = .ok (.aload_n 0, 1) := by decide +kernel
theorem dX5_digest_40 : decode cX5_digest 40 = .ok (.lload_n 1, 1) := by decide +kernel
theorem dX5_digest_41 : decode cX5_digest 41 = .ok (.iload_n 3, 1) := by decide +kernel
theorem dX5_digest_42 : decode cX5_digest 42 = .ok (.invokevirtual 283, 3) := by decide +kernel
theorem dX5_digest_45 : decode cX5_digest 45 = .ok (.lstore_n 1, 1) := by decide +kernel
theorem dX5_digest_46 : decode cX5_digest 46 = .ok (.iinc 3 1, 3) := by decide +kernel
theorem dX5_digest_49 : decode cX5_digest 49 = .ok (.goto (-16), 3) := by decide +kernel
theorem dX5_digest_52 : decode cX5_digest 52 = .ok (.iconst 0, 1) := by decide +kernel
theorem dX5_digest_53 : decode cX5_digest 53 = .ok (.istore_n 3, 1) := by decide +kernel
theorem dX5_digest_54 : decode cX5_digest 54 = .ok (.iload_n 3, 1) := by decide +kernel
theorem dX5_digest_55 : decode cX5_digest 55 = .ok (.bipush 16, 2) := by decide +kernel
theorem dX5_digest_57 : decode cX5_digest 57 = .ok (.if_icmp .ge 16, 3) := by decide +kernel
theorem dX5_digest_60 : decode cX5_digest 60 = .ok (.aload_n 0, 1) := by decide +kernel
theorem dX5_digest_61 : decode cX5_digest 61 = .ok (.lload_n 1, 1) := by decide +kernel
theorem dX5_digest_62 : decode cX5_digest 62 = .ok (.iload_n 3, 1) := by decide +kernel
theorem dX5_digest_63 : decode cX5_digest 63 = .ok (.invokevirtual 287, 3) := by decide +kernel
theorem dX5_digest_66 : decode cX5_digest 66 = .ok (.lstore_n 1, 1) := by decide +kernel
theorem dX5_digest_67 : decode cX5_digest 67 = .ok (.iinc 3 1, 3) := by decide +kernel
theorem dX5_digest_70 : decode cX5_digest 70 = .ok (.goto (-16), 3) := by decide +kernel
theorem dX5_digest_73 : decode cX5_digest 73 = .ok (.iconst 0, 1) := by decide +kernel
theorem dX5_digest_74 : decode cX5_digest 74 = .ok (.istore_n 3, 1) := by decide +kernel
theorem dX5_digest_75 : decode cX5_digest 75 = .ok (.iload_n 3, 1) := by decide +kernel
theorem dX5_digest_76 : decode cX5_digest 76 = .ok (.aload_n 0, 1) := by decide +kernel
theorem dX5_digest_77 : decode cX5_digest 77 = .ok (.getfield 12, 3) := by decide +kernel
theorem dX5_digest_80 : decode cX5_digest 80 = .ok (.getfield 82, 3) := by decide +kernel
theorem dX5_digest_83 : decode cX5_digest 83 = .ok (.if_icmp .ge 21, 3) := by decide +kernel
theorem dX5_digest_86 : decode cX5_digest 86 = .ok (.aload_n 0, 1) := by decide +kernel
theorem dX5_digest_87 : decode cX5_digest 87 = .ok (.aload_n 0, 1) := by decide +kernel
theorem dX5_digest_88 : decode cX5_digest 88 = .ok (.lload_n 1, 1) := by decide +kernel
theorem dX5_digest_89 : decode cX5_digest 89 = .ok (.iload_n 3, 1) := by decide +kernel
theorem dX5_digest_90 : decode cX5_digest 90 = .ok (.invokevirtual 290, 3) := by decide +kernel
theorem dX5_digest_93 : decode cX5_digest 93 = .ok (.iload_n 3, 1) := by decide +kernel
theorem dX5_digest_94 : decode cX5_digest 94 = .ok (.invokevirtual 293, 3) := by decide +kernel
theorem dX5_digest_97 : decode cX5_digest 97 = .ok (.lstore_n 1, 1) := by decide +kernel
theorem dX5_digest_98 : decode cX5_digest 98 = .ok (.iinc 3 1, 3) := by decide +kernel
theorem dX5_digest_101 : decode cX5_digest 101 = .ok (.goto (-26), 3) := by decide +kernel
theorem dX5_digest_104 : decode cX5_digest 104 = .ok (.iconst 0, 1) := by decide +kernel
theorem dX5_digest_105 : decode cX5_digest 105 = .ok (.istore_n 3, 1) := by decide +kernel
theorem dX5_digest_106 : decode cX5_digest 106 = .ok (.iload_n 3, 1) := by decide +kernel
theorem dX5_digest_107 : decode cX5_digest 107 = .ok (.bipush 30, 2) := by decide +kernel
theorem dX5_digest_109 : decode cX5_digest 109 = .ok (.if_icmp .gt 22, 3) := by decide +kernel
theorem dX5_digest_112 : decode cX5_digest 112 = .ok (.ldc2_w 278, 3) := by decide +kernel
theorem dX5_digest_115 : decode cX5_digest 115 = .ok (.lload_n 1, 1) := by decide +kernel
theorem dX5_digest_116 : decode cX5_digest 116 = .ok (.lmul, 1) := by decide +kernel
theorem dX5_digest_117 : decode cX5_digest 117 = .ok (.aload_n 0, 1) := by decide +kernel
theorem dX5_digest_118 : decode cX5_digest 118 = .ok (.iload_n 3, 1) := by decide +kernel
theorem dX5_digest_119 : decode cX5_digest 119 = .ok (.invokevirtual 296, 3) := by decide +kernel
theorem dX5_digest_122 : decode cX5_digest 122 = .ok (.i2l, 1) := by decide +kernel
theorem dX5_digest_123 : decode cX5_digest 123 = .ok (.ladd, 1) := by decide +kernel
theorem dX5_digest_124 : decode cX5_digest 124 = .ok (.lstore_n 1, 1) := by decide +kernel
theorem dX5_digest_125 : decode cX5_digest 125 = .ok (.iinc 3 1, 3) := by decide +kernel
theorem dX5_digest_128 : decode cX5_digest 128 = .ok (.goto (-22), 3) := by decide +kernel
theorem dX5_digest_131 : decode cX5_digest 131 = .ok (.aload_n 0, 1) := by decide +kernel
theorem dX5_digest_132 : decode cX5_digest 132 = .ok (.lload_n 1, 1) := by decide +kernel
theorem dX5_digest_133 : decode cX5_digest 133 = .ok (.invokevirtual 299, 3) := by decide +kernel
theorem dX5_digest_136 : decode cX5_digest 136 = .ok (.lreturn, 1) := by decide +kernel
theorem dX5_digestRevision_0 : decode cX5_digestRevision 0 = .ok (.lload_n 1, 1) := by decide +kernel
theorem dX5_digestRevision_1 : decode cX5_digestRevision 1 = .ok (.lstore 4, 2) := by decide +kernel
theorem dX5_digestRevision_3 : decode cX5_digestRevision 3 = .ok (.iconst 0, 1) := by decide +kernel
theorem dX5_digestRevision_4 : decode cX5_digestRevision 4 = .ok (.istore 6, 2) := by decide +kernel
theorem dX5_digestRevision_6 : decode cX5_digestRevision 6 = .ok (.iload 6, 2) := by decide +kernel
theorem dX5_digestRevision_8 : decode cX5_digestRevision 8 = .ok (.iconst 3, 1) := by decide +kernel
theorem dX5_digestRevision_9 : decode cX5_digestRevision 9 = .ok (.if_icmp .gt 26, 3) := by decide +kernel
theorem dX5_digestRevision_12 : decode cX5_digestRevision 12 = .ok (.ldc2_w 278, 3) := by decide +kernel
theorem dX5_digestRevision_15 : decode cX5_digestRevision 15 = .ok (.lload 4, 2) := by decide +kernel
theorem dX5_digestRevision_17 : decode cX5_digestRevision 17 = .ok (.lmul, 1) := by decide +kernel
theorem dX5_digestRevision_18 : decode cX5_digestRevision 18 = .ok (.aload_n 0, 1) := by decide +kernel
theorem dX5_digestRevision_19 : decode cX5_digestRevision 19 = .ok (.iload_n 3, 1) := by decide +kernel
theorem dX5_digestRevision_20 : decode cX5_digestRevision 20 = .ok (.iload 6, 2) := by decide +kernel
theorem dX5_digestRevision_22 : decode cX5_digestRevision 22 = .ok (.invokevirtual 303, 3) := by decide +kernel
theorem dX5_digestRevision_25 : decode cX5_digestRevision 25 = .ok (.i2l, 1) := by decide +kernel
theorem dX5_digestRevision_26 : decode cX5_digestRevision 26 = .ok (.ladd, 1) := by decide +kernel
theorem dX5_digestRevision_27 : decode cX5_digestRevision 27 = .ok (.lstore 4, 2) := by decide +kernel
theorem dX5_digestRevision_29 : decode cX5_digestRevision 29 = .ok (.iinc 6 1, 3) := by decide +kernel
theorem dX5_digestRevision_32 : decode cX5_digestRevision 32 = .ok (.goto (-26), 3) := by decide +kernel
theorem dX5_digestRevision_35 : decode cX5_digestRevision 35 = .ok (.ldc2_w 278, 3) := by decide +kernel
theorem dX5_digestRevision_38 : decode cX5_digestRevision 38 = .ok (.lload 4, 2) := by decide +kernel
theorem dX5_digestRevision_40 : decode cX5_digestRevision 40 = .ok (.lmul, 1) := by decide +kernel
theorem dX5_digestRevision_41 : decode cX5_digestRevision 41 = .ok (.aload_n 0, 1) := by decide +kernel
theorem dX5_digestRevision_42 : decode cX5_digestRevision 42 = .ok (.iload_n 3, 1) := by decide +kernel
theorem dX5_digestRevision_43 : decode cX5_digestRevision 43 = .ok (.invokevirtual 306, 3) := by decide +kernel
theorem dX5_digestRevision_46 : decode cX5_digestRevision 46 = .ok (.i2l, 1) := by decide +kernel
theorem dX5_digestRevision_47 : decode cX5_digestRevision 47 = .ok (.ladd, 1) := by decide +kernel
theorem dX5_digestRevision_48 : decode cX5_digestRevision 48 = .ok (.lstore 4, 2) := by decide +kernel
theorem dX5_digestRevision_50 : decode cX5_digestRevision 50 = .ok (.ldc2_w 278, 3) := by decide +kernel
theorem dX5_digestRevision_53 : decode cX5_digestRevision 53 = .ok (.lload 4, 2) := by decide +kernel
theorem dX5_digestRevision_55 : decode cX5_digestRevision 55 = .ok (.lmul, 1) := by decide +kernel
theorem dX5_digestRevision_56 : decode cX5_digestRevision 56 = .ok (.aload_n 0, 1) := by decide +kernel
theorem dX5_digestRevision_57 : decode cX5_digestRevision 57 = .ok (.iload_n 3, 1) := by decide +kernel
theorem dX5_digestRevision_58 : decode cX5_digestRevision 58 = .ok (.invokevirtual 273, 3) := by decide +kernel
theorem dX5_digestRevision_61 : decode cX5_digestRevision 61 = .ok (.i2l, 1) := by decide +kernel
theorem dX5_digestRevision_62 : decode cX5_digestRevision 62 = .ok (.ladd, 1) := by decide +kernel
theorem dX5_digestRevision_63 : decode cX5_digestRevision 63 = .ok (.lreturn, 1) := by decide +kernel
theorem dX5_digestThing_0 : decode cX5_digestThing 0 = .ok (.ldc2_w 278, 3) := by decide +kernel
theorem dX5_digestThing_3 : decode cX5_digestThing 3 = .ok (.lload_n 1, 1) := by decide +kernel
theorem dX5_digestThing_4 : decode cX5_digestThing 4 = .ok (.lmul, 1) := by decide +kernel
theorem dX5_digestThing_5 : decode cX5_digestThing 5 = .ok (.aload_n 0, 1) := by decide +kernel
theorem dX5_digestThing_6 : decode cX5_digestThing 6 = .ok (.iload_n 3, 1) := by decide +kernel
theorem dX5_digestThing_7 : decode cX5_digestThing 7 = .ok (.iconst 0, 1) := by decide +kernel
theorem dX5_digestThing_8 : decode cX5_digestThing 8 = .ok (.iconst 0, 1) := by decide +kernel
theorem dX5_digestThing_9 : decode cX5_digestThing 9 = .ok (.invokevirtual 309, 3) := by decide +kernel
theorem dX5_digestThing_12 : decode cX5_digestThing 12 = .ok (.i2l, 1) := by decide +kernel
theorem dX5_digestThing_13 : decode cX5_digestThing 13 = .ok (.ladd, 1) := by decide +kernel
theorem dX5_digestThing_14 : decode cX5_digestThing 14 = .ok (.lstore 4, 2) := by decide +kernel
theorem dX5_digestThing_16 : decode cX5_digestThing 16 = .ok (.ldc2_w 278, 3) := by decide +kernel
theorem dX5_digestThing_19 : decode cX5_digestThing 19 = .ok (.lload 4, 2) := by decide +kernel
theorem dX5_digestThing_21 : decode cX5_digestThing 21 = .ok (.lmul, 1) := by decide +kernel
theorem dX5_digestThing_22 : decode cX5_digestThing 22 = .ok (.aload_n 0, 1) := by decide +kernel
theorem dX5_digestThing_23 : decode cX5_digestThing 23 = .ok (.iload_n 3, 1) := by decide +kernel
theorem dX5_digestThing_24 : decode cX5_digestThing 24 = .ok (.iconst 2, 1) := by decide +kernel
theorem dX5_digestThing_25 : decode cX5_digestThing 25 = .ok (.iconst 1, 1) := by decide +kernel
theorem dX5_digestThing_26 : decode cX5_digestThing 26 = .ok (.invokevirtual 309, 3) := by decide +kernel
theorem dX5_digestThing_29 : decode cX5_digestThing 29 = .ok (.i2l, 1) := by decide +kernel
theorem dX5_digestThing_30 : decode cX5_digestThing 30 = .ok (.ladd, 1) := by decide +kernel
theorem dX5_digestThing_31 : decode cX5_digestThing 31 = .ok (.lstore 4, 2) := by decide +kernel
theorem dX5_digestThing_33 : decode cX5_digestThing 33 = .ok (.iconst 0, 1) := by decide +kernel
theorem dX5_digestThing_34 : decode cX5_digestThing 34 = .ok (.istore 6, 2) := by decide +kernel
theorem dX5_digestThing_36 : decode cX5_digestThing 36 = .ok (.iload 6, 2) := by decide +kernel
theorem dX5_digestThing_38 : decode cX5_digestThing 38 = .ok (.iconst 2, 1) := by decide +kernel
theorem dX5_digestThing_39 : decode cX5_digestThing 39 = .ok (.if_icmp .gt 33, 3) := by decide +kernel
theorem dX5_digestThing_42 : decode cX5_digestThing 42 = .ok (.ldc2_w 278, 3) := by decide +kernel
theorem dX5_digestThing_45 : decode cX5_digestThing 45 = .ok (.lload 4, 2) := by decide +kernel
theorem dX5_digestThing_47 : decode cX5_digestThing 47 = .ok (.lmul, 1) := by decide +kernel
theorem dX5_digestThing_48 : decode cX5_digestThing 48 = .ok (.aload_n 0, 1) := by decide +kernel
theorem dX5_digestThing_49 : decode cX5_digestThing 49 = .ok (.iload_n 3, 1) := by decide +kernel
theorem dX5_digestThing_50 : decode cX5_digestThing 50 = .ok (.aload_n 0, 1) := by decide +kernel
theorem dX5_digestThing_51 : decode cX5_digestThing 51 = .ok (.getfield 12, 3) := by decide +kernel
theorem dX5_digestThing_54 : decode cX5_digestThing 54 = .ok (.getfield 70, 3) := by decide +kernel
theorem dX5_digestThing_57 : decode cX5_digestThing 57 = .ok (.iload 6, 2) := by decide +kernel
theorem dX5_digestThing_59 : decode cX5_digestThing 59 = .ok (.invokevirtual 309, 3) := by decide +kernel
theorem dX5_digestThing_62 : decode cX5_digestThing 62 = .ok (.i2l, 1) := by decide +kernel
theorem dX5_digestThing_63 : decode cX5_digestThing 63 = .ok (.ladd, 1) := by decide +kernel
theorem dX5_digestThing_64 : decode cX5_digestThing 64 = .ok (.lstore 4, 2) := by decide +kernel
theorem dX5_digestThing_66 : decode cX5_digestThing 66 = .ok (.iinc 6 1, 3) := by decide +kernel
theorem dX5_digestThing_69 : decode cX5_digestThing 69 = .ok (.goto (-33), 3) := by decide +kernel
theorem dX5_digestThing_72 : decode cX5_digestThing 72 = .ok (.lload 4, 2) := by decide +kernel
theorem dX5_digestThing_74 : decode cX5_digestThing 74 = .ok (.lreturn, 1) := by decide +kernel
theorem dX5_digestWrite_0 : decode cX5_digestWrite 0 = .ok (.lload_n 1, 1) := by decide +kernel
theorem dX5_digestWrite_1 : decode cX5_digestWrite 1 = .ok (.lstore 4, 2) := by decide +kernel
theorem dX5_digestWrite_3 : decode cX5_digestWrite 3 = .ok (.iconst 0, 1) := by decide +kernel
theorem dX5_digestWrite_4 : decode cX5_digestWrite 4 = .ok (.istore 6, 2) := by decide +kernel
theorem dX5_digestWrite_6 : decode cX5_digestWrite 6 = .ok (.iload 6, 2) := by decide +kernel
theorem dX5_digestWrite_8 : decode cX5_digestWrite 8 = .ok (.iconst 4, 1) := by decide +kernel
theorem dX5_digestWrite_9 : decode cX5_digestWrite 9 = .ok (.if_icmp .gt 26, 3) := by decide +kernel
theorem dX5_digestWrite_12 : decode cX5_digestWrite 12 = .ok (.ldc2_w 278, 3) := by decide +kernel
theorem dX5_digestWrite_15 : decode cX5_digestWrite 15 = .ok (.lload 4, 2) := by decide +kernel
theorem dX5_digestWrite_17 : decode cX5_digestWrite 17 = .ok (.lmul, 1) := by decide +kernel
theorem dX5_digestWrite_18 : decode cX5_digestWrite 18 = .ok (.aload_n 0, 1) := by decide +kernel
theorem dX5_digestWrite_19 : decode cX5_digestWrite 19 = .ok (.iload_n 3, 1) := by decide +kernel
theorem dX5_digestWrite_20 : decode cX5_digestWrite 20 = .ok (.iload 6, 2) := by decide +kernel
theorem dX5_digestWrite_22 : decode cX5_digestWrite 22 = .ok (.invokevirtual 312, 3) := by decide +kernel
theorem dX5_digestWrite_25 : decode cX5_digestWrite 25 = .ok (.i2l, 1) := by decide +kernel
theorem dX5_digestWrite_26 : decode cX5_digestWrite 26 = .ok (.ladd, 1) := by decide +kernel
theorem dX5_digestWrite_27 : decode cX5_digestWrite 27 = .ok (.lstore 4, 2) := by decide +kernel
theorem dX5_digestWrite_29 : decode cX5_digestWrite 29 = .ok (.iinc 6 1, 3) := by decide +kernel
theorem dX5_digestWrite_32 : decode cX5_digestWrite 32 = .ok (.goto (-26), 3) := by decide +kernel
theorem dX5_digestWrite_35 : decode cX5_digestWrite 35 = .ok (.iconst 0, 1) := by decide +kernel
theorem dX5_digestWrite_36 : decode cX5_digestWrite 36 = .ok (.istore 6, 2) := by decide +kernel
theorem dX5_digestWrite_38 : decode cX5_digestWrite 38 = .ok (.iload 6, 2) := by decide +kernel
theorem dX5_digestWrite_40 : decode cX5_digestWrite 40 = .ok (.iconst 3, 1) := by decide +kernel
theorem dX5_digestWrite_41 : decode cX5_digestWrite 41 = .ok (.if_icmp .gt 26, 3) := by decide +kernel
theorem dX5_digestWrite_44 : decode cX5_digestWrite 44 = .ok (.ldc2_w 278, 3) := by decide +kernel
theorem dX5_digestWrite_47 : decode cX5_digestWrite 47 = .ok (.lload 4, 2) := by decide +kernel
theorem dX5_digestWrite_49 : decode cX5_digestWrite 49 = .ok (.lmul, 1) := by decide +kernel
theorem dX5_digestWrite_50 : decode cX5_digestWrite 50 = .ok (.aload_n 0, 1) := by decide +kernel
theorem dX5_digestWrite_51 : decode cX5_digestWrite 51 = .ok (.iload_n 3, 1) := by decide +kernel
theorem dX5_digestWrite_52 : decode cX5_digestWrite 52 = .ok (.iload 6, 2) := by decide +kernel
theorem dX5_digestWrite_54 : decode cX5_digestWrite 54 = .ok (.invokevirtual 315, 3) := by decide +kernel
theorem dX5_digestWrite_57 : decode cX5_digestWrite 57 = .ok (.i2l, 1) := by decide +kernel
theorem dX5_digestWrite_58 : decode cX5_digestWrite 58 = .ok (.ladd, 1) := by decide +kernel
theorem dX5_digestWrite_59 : decode cX5_digestWrite 59 = .ok (.lstore 4, 2) := by decide +kernel
theorem dX5_digestWrite_61 : decode cX5_digestWrite 61 = .ok (.iinc 6 1, 3) := by decide +kernel
theorem dX5_digestWrite_64 : decode cX5_digestWrite 64 = .ok (.goto (-26), 3) := by decide +kernel
theorem dX5_digestWrite_67 : decode cX5_digestWrite 67 = .ok (.ldc2_w 278, 3) := by decide +kernel
theorem dX5_digestWrite_70 : decode cX5_digestWrite 70 = .ok (.lload 4, 2) := by decide +kernel
theorem dX5_digestWrite_72 : decode cX5_digestWrite 72 = .ok (.lmul, 1) := by decide +kernel
theorem dX5_digestWrite_73 : decode cX5_digestWrite 73 = .ok (.aload_n 0, 1) := by decide +kernel
theorem dX5_digestWrite_74 : decode cX5_digestWrite 74 = .ok (.iload_n 3, 1) := by decide +kernel
theorem dX5_digestWrite_75 : decode cX5_digestWrite 75 = .ok (.invokevirtual 318, 3) := by decide +kernel
theorem dX5_digestWrite_78 : decode cX5_digestWrite 78 = .ok (.i2l, 1) := by decide +kernel
theorem dX5_digestWrite_79 : decode cX5_digestWrite 79 = .ok (.ladd, 1) := by decide +kernel
theorem dX5_digestWrite_80 : decode cX5_digestWrite 80 = .ok (.lstore 4, 2) := by decide +kernel
theorem dX5_digestWrite_82 : decode cX5_digestWrite 82 = .ok (.ldc2_w 278, 3) := by decide +kernel
theorem dX5_digestWrite_85 : decode cX5_digestWrite 85 = .ok (.lload 4, 2) := by decide +kernel
theorem dX5_digestWrite_87 : decode cX5_digestWrite 87 = .ok (.lmul, 1) := by decide +kernel
theorem dX5_digestWrite_88 : decode cX5_digestWrite 88 = .ok (.aload_n 0, 1) := by decide +kernel
theorem dX5_digestWrite_89 : decode cX5_digestWrite 89 = .ok (.iload_n 3, 1) := by decide +kernel
theorem dX5_digestWrite_90 : decode cX5_digestWrite 90 = .ok (.iconst 0, 1) := by decide +kernel
theorem dX5_digestWrite_91 : decode cX5_digestWrite 91 = .ok (.invokevirtual 321, 3) := by decide +kernel
theorem dX5_digestWrite_94 : decode cX5_digestWrite 94 = .ok (.i2l, 1) := by decide +kernel
theorem dX5_digestWrite_95 : decode cX5_digestWrite 95 = .ok (.ladd, 1) := by decide +kernel
theorem dX5_digestWrite_96 : decode cX5_digestWrite 96 = .ok (.lstore 4, 2) := by decide +kernel
theorem dX5_digestWrite_98 : decode cX5_digestWrite 98 = .ok (.ldc2_w 278, 3) := by decide +kernel
theorem dX5_digestWrite_101 : decode cX5_digestWrite 101 = .ok (.lload 4, 2) := by decide +kernel
theorem dX5_digestWrite_103 : decode cX5_digestWrite 103 = .ok (.lmul, 1) := by decide +kernel
theorem dX5_digestWrite_104 : decode cX5_digestWrite 104 = .ok (.aload_n 0, 1) := by decide +kernel
theorem dX5_digestWrite_105 : decode cX5_digestWrite 105 = .ok (.iload_n 3, 1) := by decide +kernel
theorem dX5_digestWrite_106 : decode cX5_digestWrite 106 = .ok (.iconst 1, 1) := by decide +kernel
theorem dX5_digestWrite_107 : decode cX5_digestWrite 107 = .ok (.invokevirtual 321, 3) := by decide +kernel
theorem dX5_digestWrite_110 : decode cX5_digestWrite 110 = .ok (.i2l, 1) := by decide +kernel
theorem dX5_digestWrite_111 : decode cX5_digestWrite 111 = .ok (.ladd, 1) := by decide +kernel
theorem dX5_digestWrite_112 : decode cX5_digestWrite 112 = .ok (.lstore 4, 2) := by decide +kernel
theorem dX5_digestWrite_114 : decode cX5_digestWrite 114 = .ok (.ldc2_w 278, 3) := by decide +kernel
theorem dX5_digestWrite_117 : decode cX5_digestWrite 117 = .ok (.lload 4, 2) := by decide +kernel
theorem dX5_digestWrite_119 : decode cX5_digestWrite 119 = .ok (.lmul, 1) := by decide +kernel
theorem dX5_digestWrite_120 : decode cX5_digestWrite 120 = .ok (.aload_n 0, 1) := by decide +kernel
theorem dX5_digestWrite_121 : decode cX5_digestWrite 121 = .ok (.iload_n 3, 1) := by decide +kernel
theorem dX5_digestWrite_122 : decode cX5_digestWrite 122 = .ok (.invokevirtual 324, 3) := by decide +kernel
theorem dX5_digestWrite_125 : decode cX5_digestWrite 125 = .ok (.i2l, 1) := by decide +kernel
theorem dX5_digestWrite_126 : decode cX5_digestWrite 126 = .ok (.ladd, 1) := by decide +kernel
theorem dX5_digestWrite_127 : decode cX5_digestWrite 127 = .ok (.lstore 4, 2) := by decide +kernel
theorem dX5_digestWrite_129 : decode cX5_digestWrite 129 = .ok (.iconst 0, 1) := by decide +kernel
theorem dX5_digestWrite_130 : decode cX5_digestWrite 130 = .ok (.istore 6, 2) := by decide +kernel
theorem dX5_digestWrite_132 : decode cX5_digestWrite 132 = .ok (.iload 6, 2) := by decide +kernel
theorem dX5_digestWrite_134 : decode cX5_digestWrite 134 = .ok (.iconst 3, 1) := by decide +kernel
theorem dX5_digestWrite_135 : decode cX5_digestWrite 135 = .ok (.if_icmp .gt 26, 3) := by decide +kernel
theorem dX5_digestWrite_138 : decode cX5_digestWrite 138 = .ok (.ldc2_w 278, 3) := by decide +kernel
theorem dX5_digestWrite_141 : decode cX5_digestWrite 141 = .ok (.lload 4, 2) := by decide +kernel
theorem dX5_digestWrite_143 : decode cX5_digestWrite 143 = .ok (.lmul, 1) := by decide +kernel
theorem dX5_digestWrite_144 : decode cX5_digestWrite 144 = .ok (.aload_n 0, 1) := by decide +kernel
theorem dX5_digestWrite_145 : decode cX5_digestWrite 145 = .ok (.iload_n 3, 1) := by decide +kernel
theorem dX5_digestWrite_146 : decode cX5_digestWrite 146 = .ok (.iload 6, 2) := by decide +kernel
theorem dX5_digestWrite_148 : decode cX5_digestWrite 148 = .ok (.invokevirtual 327, 3) := by decide +kernel
theorem dX5_digestWrite_151 : decode cX5_digestWrite 151 = .ok (.i2l, 1) := by decide +kernel
theorem dX5_digestWrite_152 : decode cX5_digestWrite 152 = .ok (.ladd, 1) := by decide +kernel
theorem dX5_digestWrite_153 : decode cX5_digestWrite 153 = .ok (.lstore 4, 2) := by decide +kernel
theorem dX5_digestWrite_155 : decode cX5_digestWrite 155 = .ok (.iinc 6 1, 3) := by decide +kernel
theorem dX5_digestWrite_158 : decode cX5_digestWrite 158 = .ok (.goto (-26), 3) := by decide +kernel
theorem dX5_digestWrite_161 : decode cX5_digestWrite 161 = .ok (.lload 4, 2) := by decide +kernel
theorem dX5_digestWrite_163 : decode cX5_digestWrite 163 = .ok (.lreturn, 1) := by decide +kernel
theorem dX5_digestChanges_0 : decode cX5_digestChanges 0 = .ok (.lload_n 1, 1) := by decide +kernel
theorem dX5_digestChanges_1 : decode cX5_digestChanges 1 = .ok (.lstore 4, 2) := by decide +kernel
theorem dX5_digestChanges_3 : decode cX5_digestChanges 3 = .ok (.iconst 0, 1) := by decide +kernel
theorem dX5_digestChanges_4 : decode cX5_digestChanges 4 = .ok (.istore 6, 2) := by decide +kernel
theorem dX5_digestChanges_6 : decode cX5_digestChanges 6 = .ok (.iload 6, 2) := by decide +kernel
theorem dX5_digestChanges_8 : decode cX5_digestChanges 8 = .ok (.iconst 4, 1) := by decide +kernel
theorem dX5_digestChanges_9 : decode cX5_digestChanges 9 = .ok (.if_icmp .gt 43, 3) := by decide +kernel
theorem dX5_digestChanges_12 : decode cX5_digestChanges 12 = .ok (.iconst 0, 1) := by decide +kernel
theorem dX5_digestChanges_13 : decode cX5_digestChanges 13 = .ok (.istore 7, 2) := by decide +kernel
theorem dX5_digestChanges_15 : decode cX5_digestChanges 15 = .ok (.iload 7, 2) := by decide +kernel
theorem dX5_digestChanges_17 : decode cX5_digestChanges 17 = .ok (.iconst 2, 1) := by decide +kernel
theorem dX5_digestChanges_18 : decode cX5_digestChanges 18 = .ok (.if_icmp .gt 28, 3) := by decide +kernel
theorem dX5_digestChanges_21 : decode cX5_digestChanges 21 = .ok (.ldc2_w 278, 3) := by decide +kernel
theorem dX5_digestChanges_24 : decode cX5_digestChanges 24 = .ok (.lload 4, 2) := by decide +kernel
theorem dX5_digestChanges_26 : decode cX5_digestChanges 26 = .ok (.lmul, 1) := by decide +kernel
theorem dX5_digestChanges_27 : decode cX5_digestChanges 27 = .ok (.aload_n 0, 1) := by decide +kernel
theorem dX5_digestChanges_28 : decode cX5_digestChanges 28 = .ok (.iload_n 3, 1) := by decide +kernel
theorem dX5_digestChanges_29 : decode cX5_digestChanges 29 = .ok (.iload 6, 2) := by decide +kernel
theorem dX5_digestChanges_31 : decode cX5_digestChanges 31 = .ok (.iload 7, 2) := by decide +kernel
theorem dX5_digestChanges_33 : decode cX5_digestChanges 33 = .ok (.invokevirtual 330, 3) := by decide +kernel
theorem dX5_digestChanges_36 : decode cX5_digestChanges 36 = .ok (.i2l, 1) := by decide +kernel
theorem dX5_digestChanges_37 : decode cX5_digestChanges 37 = .ok (.ladd, 1) := by decide +kernel
theorem dX5_digestChanges_38 : decode cX5_digestChanges 38 = .ok (.lstore 4, 2) := by decide +kernel
theorem dX5_digestChanges_40 : decode cX5_digestChanges 40 = .ok (.iinc 7 1, 3) := by decide +kernel
theorem dX5_digestChanges_43 : decode cX5_digestChanges 43 = .ok (.goto (-28), 3) := by decide +kernel
theorem dX5_digestChanges_46 : decode cX5_digestChanges 46 = .ok (.iinc 6 1, 3) := by decide +kernel
theorem dX5_digestChanges_49 : decode cX5_digestChanges 49 = .ok (.goto (-43), 3) := by decide +kernel
theorem dX5_digestChanges_52 : decode cX5_digestChanges 52 = .ok (.lload 4, 2) := by decide +kernel
theorem dX5_digestChanges_54 : decode cX5_digestChanges 54 = .ok (.lreturn, 1) := by decide +kernel
theorem dX5_digestFile_0 : decode cX5_digestFile 0 = .ok (.ldc2_w 278, 3) := by decide +kernel
theorem dX5_digestFile_3 : decode cX5_digestFile 3 = .ok (.lload_n 1, 1) := by decide +kernel
theorem dX5_digestFile_4 : decode cX5_digestFile 4 = .ok (.lmul, 1) := by decide +kernel
theorem dX5_digestFile_5 : decode cX5_digestFile 5 = .ok (.aload_n 0, 1) := by decide +kernel
theorem dX5_digestFile_6 : decode cX5_digestFile 6 = .ok (.iconst (-1), 1) := by decide +kernel
theorem dX5_digestFile_7 : decode cX5_digestFile 7 = .ok (.invokevirtual 296, 3) := by decide +kernel
theorem dX5_digestFile_10 : decode cX5_digestFile 10 = .ok (.i2l, 1) := by decide +kernel
theorem dX5_digestFile_11 : decode cX5_digestFile 11 = .ok (.ladd, 1) := by decide +kernel
theorem dX5_digestFile_12 : decode cX5_digestFile 12 = .ok (.lstore_n 3, 1) := by decide +kernel
theorem dX5_digestFile_13 : decode cX5_digestFile 13 = .ok (.iconst 0, 1) := by decide +kernel
theorem dX5_digestFile_14 : decode cX5_digestFile 14 = .ok (.istore 5, 2) := by decide +kernel
theorem dX5_digestFile_16 : decode cX5_digestFile 16 = .ok (.iload 5, 2) := by decide +kernel
theorem dX5_digestFile_18 : decode cX5_digestFile 18 = .ok (.iconst 2, 1) := by decide +kernel
theorem dX5_digestFile_19 : decode cX5_digestFile 19 = .ok (.if_icmp .gt 23, 3) := by decide +kernel
theorem dX5_digestFile_22 : decode cX5_digestFile 22 = .ok (.ldc2_w 278, 3) := by decide +kernel
theorem dX5_digestFile_25 : decode cX5_digestFile 25 = .ok (.lload_n 3, 1) := by decide +kernel
theorem dX5_digestFile_26 : decode cX5_digestFile 26 = .ok (.lmul, 1) := by decide +kernel
theorem dX5_digestFile_27 : decode cX5_digestFile 27 = .ok (.aload_n 0, 1) := by decide +kernel
theorem dX5_digestFile_28 : decode cX5_digestFile 28 = .ok (.iload 5, 2) := by decide +kernel
theorem dX5_digestFile_30 : decode cX5_digestFile 30 = .ok (.invokevirtual 333, 3) := by decide +kernel
theorem dX5_digestFile_33 : decode cX5_digestFile 33 = .ok (.i2l, 1) := by decide +kernel
theorem dX5_digestFile_34 : decode cX5_digestFile 34 = .ok (.ladd, 1) := by decide +kernel
theorem dX5_digestFile_35 : decode cX5_digestFile 35 = .ok (.lstore_n 3, 1) := by decide +kernel
theorem dX5_digestFile_36 : decode cX5_digestFile 36 = .ok (.iinc 5 1, 3) := by decide +kernel
theorem dX5_digestFile_39 : decode cX5_digestFile 39 = .ok (.goto (-23), 3) := by decide +kernel
theorem dX5_digestFile_42 : decode cX5_digestFile 42 = .ok (.ldc2_w 278, 3) := by decide +kernel
theorem dX5_digestFile_45 : decode cX5_digestFile 45 = .ok (.lload_n 3, 1) := by decide +kernel
theorem dX5_digestFile_46 : decode cX5_digestFile 46 = .ok (.lmul, 1) := by decide +kernel
theorem dX5_digestFile_47 : decode cX5_digestFile 47 = .ok (.aload_n 0, 1) := by decide +kernel
theorem dX5_digestFile_48 : decode cX5_digestFile 48 = .ok (.iconst 0, 1) := by decide +kernel
theorem dX5_digestFile_49 : decode cX5_digestFile 49 = .ok (.invokevirtual 336, 3) := by decide +kernel
theorem dX5_digestFile_52 : decode cX5_digestFile 52 = .ok (.i2l, 1) := by decide +kernel
theorem dX5_digestFile_53 : decode cX5_digestFile 53 = .ok (.ladd, 1) := by decide +kernel
theorem dX5_digestFile_54 : decode cX5_digestFile 54 = .ok (.lstore_n 3, 1) := by decide +kernel
theorem dX5_digestFile_55 : decode cX5_digestFile 55 = .ok (.ldc2_w 278, 3) := by decide +kernel
theorem dX5_digestFile_58 : decode cX5_digestFile 58 = .ok (.lload_n 3, 1) := by decide +kernel
theorem dX5_digestFile_59 : decode cX5_digestFile 59 = .ok (.lmul, 1) := by decide +kernel
theorem dX5_digestFile_60 : decode cX5_digestFile 60 = .ok (.aload_n 0, 1) := by decide +kernel
theorem dX5_digestFile_61 : decode cX5_digestFile 61 = .ok (.iconst 1, 1) := by decide +kernel
theorem dX5_digestFile_62 : decode cX5_digestFile 62 = .ok (.invokevirtual 336, 3) := by decide +kernel
theorem dX5_digestFile_65 : decode cX5_digestFile 65 = .ok (.i2l, 1) := by decide +kernel
theorem dX5_digestFile_66 : decode cX5_digestFile 66 = .ok (.ladd, 1) := by decide +kernel
theorem dX5_digestFile_67 : decode cX5_digestFile 67 = .ok (.lstore_n 3, 1) := by decide +kernel
theorem dX5_digestFile_68 : decode cX5_digestFile 68 = .ok (.ldc2_w 278, 3) := by decide +kernel
theorem dX5_digestFile_71 : decode cX5_digestFile 71 = .ok (.lload_n 3, 1) := by decide +kernel
theorem dX5_digestFile_72 : decode cX5_digestFile 72 = .ok (.lmul, 1) := by decide +kernel
theorem dX5_digestFile_73 : decode cX5_digestFile 73 = .ok (.aload_n 0, 1) := by decide +kernel
theorem dX5_digestFile_74 : decode cX5_digestFile 74 = .ok (.iconst 0, 1) := by decide +kernel
theorem dX5_digestFile_75 : decode cX5_digestFile 75 = .ok (.invokevirtual 339, 3) := by decide +kernel
theorem dX5_digestFile_78 : decode cX5_digestFile 78 = .ok (.i2l, 1) := by decide +kernel
theorem dX5_digestFile_79 : decode cX5_digestFile 79 = .ok (.ladd, 1) := by decide +kernel
theorem dX5_digestFile_80 : decode cX5_digestFile 80 = .ok (.lstore_n 3, 1) := by decide +kernel
theorem dX5_digestFile_81 : decode cX5_digestFile 81 = .ok (.ldc2_w 278, 3) := by decide +kernel
theorem dX5_digestFile_84 : decode cX5_digestFile 84 = .ok (.lload_n 3, 1) := by decide +kernel
theorem dX5_digestFile_85 : decode cX5_digestFile 85 = .ok (.lmul, 1) := by decide +kernel
theorem dX5_digestFile_86 : decode cX5_digestFile 86 = .ok (.aload_n 0, 1) := by decide +kernel
theorem dX5_digestFile_87 : decode cX5_digestFile 87 = .ok (.iconst 1, 1) := by decide +kernel
theorem dX5_digestFile_88 : decode cX5_digestFile 88 = .ok (.invokevirtual 339, 3) := by decide +kernel
theorem dX5_digestFile_91 : decode cX5_digestFile 91 = .ok (.i2l, 1) := by decide +kernel
theorem dX5_digestFile_92 : decode cX5_digestFile 92 = .ok (.ladd, 1) := by decide +kernel
theorem dX5_digestFile_93 : decode cX5_digestFile 93 = .ok (.lreturn, 1) := by decide +kernel
theorem dX5_isThing_0 : decode cX5_isThing 0 = .ok (.iload_n 0, 1) := by decide +kernel
theorem dX5_isThing_1 : decode cX5_isThing 1 = .ok (.ifCond .lt 13, 3) := by decide +kernel
theorem dX5_isThing_4 : decode cX5_isThing 4 = .ok (.iload_n 0, 1) := by decide +kernel
theorem dX5_isThing_5 : decode cX5_isThing 5 = .ok (.bipush 16, 2) := by decide +kernel
theorem dX5_isThing_7 : decode cX5_isThing 7 = .ok (.if_icmp .ge 7, 3) := by decide +kernel
theorem dX5_isThing_10 : decode cX5_isThing 10 = .ok (.iconst 1, 1) := by decide +kernel
theorem dX5_isThing_11 : decode cX5_isThing 11 = .ok (.goto 4, 3) := by decide +kernel
theorem dX5_isThing_14 : decode cX5_isThing 14 = .ok (.iconst 0, 1) := by decide +kernel
theorem dX5_isThing_15 : decode cX5_isThing 15 = .ok (.ireturn, 1) := by decide +kernel
theorem dX5_mayBeValue_0 : decode cX5_mayBeValue 0 = .ok (.iload_n 1, 1) := by decide +kernel
theorem dX5_mayBeValue_1 : decode cX5_mayBeValue 1 = .ok (.ifCond .lt 23, 3) := by decide +kernel
theorem dX5_mayBeValue_4 : decode cX5_mayBeValue 4 = .ok (.iload_n 1, 1) := by decide +kernel
theorem dX5_mayBeValue_5 : decode cX5_mayBeValue 5 = .ok (.iload_n 0, 1) := by decide +kernel
theorem dX5_mayBeValue_6 : decode cX5_mayBeValue 6 = .ok (.iconst 4, 1) := by decide +kernel
theorem dX5_mayBeValue_7 : decode cX5_mayBeValue 7 = .ok (.if_icmp .ne 7, 3) := by decide +kernel
theorem dX5_mayBeValue_10 : decode cX5_mayBeValue 10 = .ok (.iconst 2, 1) := by decide +kernel
theorem dX5_mayBeValue_11 : decode cX5_mayBeValue 11 = .ok (.goto 6, 3) := by decide +kernel
theorem dX5_mayBeValue_14 : decode cX5_mayBeValue 14 = .ok (.ldc_w 342, 3) := by decide +kernel
theorem dX5_mayBeValue_17 : decode cX5_mayBeValue 17 = .ok (.if_icmp .gt 7, 3) := by decide +kernel
theorem dX5_mayBeValue_20 : decode cX5_mayBeValue 20 = .ok (.iconst 1, 1) := by decide +kernel
theorem dX5_mayBeValue_21 : decode cX5_mayBeValue 21 = .ok (.goto 4, 3) := by decide +kernel
theorem dX5_mayBeValue_24 : decode cX5_mayBeValue 24 = .ok (.iconst 0, 1) := by decide +kernel
theorem dX5_mayBeValue_25 : decode cX5_mayBeValue 25 = .ok (.ireturn, 1) := by decide +kernel
theorem dX5_mayBeWrite_0 : decode cX5_mayBeWrite 0 = .ok (.iload_n 0, 1) := by decide +kernel
theorem dX5_mayBeWrite_1 : decode cX5_mayBeWrite 1 = .ok (.invokestatic 159, 3) := by decide +kernel
theorem dX5_mayBeWrite_4 : decode cX5_mayBeWrite 4 = .ok (.ifCond .eq 24, 3) := by decide +kernel
theorem dX5_mayBeWrite_7 : decode cX5_mayBeWrite 7 = .ok (.iload_n 1, 1) := by decide +kernel
theorem dX5_mayBeWrite_8 : decode cX5_mayBeWrite 8 = .ok (.ifCond .lt 20, 3) := by decide +kernel
theorem dX5_mayBeWrite_11 : decode cX5_mayBeWrite 11 = .ok (.iload_n 1, 1) := by decide +kernel
theorem dX5_mayBeWrite_12 : decode cX5_mayBeWrite 12 = .ok (.iconst 5, 1) := by decide +kernel
theorem dX5_mayBeWrite_13 : decode cX5_mayBeWrite 13 = .ok (.if_icmp .gt 15, 3) := by decide +kernel
theorem dX5_mayBeWrite_16 : decode cX5_mayBeWrite 16 = .ok (.iload_n 1, 1) := by decide +kernel
theorem dX5_mayBeWrite_17 : decode cX5_mayBeWrite 17 = .ok (.iload_n 2, 1) := by decide +kernel
theorem dX5_mayBeWrite_18 : decode cX5_mayBeWrite 18 = .ok (.invokestatic 106, 3) := by decide +kernel
theorem dX5_mayBeWrite_21 : decode cX5_mayBeWrite 21 = .ok (.ifCond .eq 7, 3) := by decide +kernel
theorem dX5_mayBeWrite_24 : decode cX5_mayBeWrite 24 = .ok (.iconst 1, 1) := by decide +kernel
theorem dX5_mayBeWrite_25 : decode cX5_mayBeWrite 25 = .ok (.goto 4, 3) := by decide +kernel
theorem dX5_mayBeWrite_28 : decode cX5_mayBeWrite 28 = .ok (.iconst 0, 1) := by decide +kernel
theorem dX5_mayBeWrite_29 : decode cX5_mayBeWrite 29 = .ok (.ireturn, 1) := by decide +kernel
theorem dX5_isSheet_0 : decode cX5_isSheet 0 = .ok (.iload_n 0, 1) := by decide +kernel
theorem dX5_isSheet_1 : decode cX5_isSheet 1 = .ok (.ifCond .lt 12, 3) := by decide +kernel
theorem dX5_isSheet_4 : decode cX5_isSheet 4 = .ok (.iload_n 0, 1) := by decide +kernel
theorem dX5_isSheet_5 : decode cX5_isSheet 5 = .ok (.iconst 4, 1) := by decide +kernel
theorem dX5_isSheet_6 : decode cX5_isSheet 6 = .ok (.if_icmp .ge 7, 3) := by decide +kernel
theorem dX5_isSheet_9 : decode cX5_isSheet 9 = .ok (.iconst 1, 1) := by decide +kernel
theorem dX5_isSheet_10 : decode cX5_isSheet 10 = .ok (.goto 4, 3) := by decide +kernel
theorem dX5_isSheet_13 : decode cX5_isSheet 13 = .ok (.iconst 0, 1) := by decide +kernel
theorem dX5_isSheet_14 : decode cX5_isSheet 14 = .ok (.ireturn, 1) := by decide +kernel
theorem dX5_isForm_0 : decode cX5_isForm 0 = .ok (.iload_n 0, 1) := by decide +kernel
theorem dX5_isForm_1 : decode cX5_isForm 1 = .ok (.ifCond .lt 12, 3) := by decide +kernel
theorem dX5_isForm_4 : decode cX5_isForm 4 = .ok (.iload_n 0, 1) := by decide +kernel
theorem dX5_isForm_5 : decode cX5_isForm 5 = .ok (.iconst 3, 1) := by decide +kernel
theorem dX5_isForm_6 : decode cX5_isForm 6 = .ok (.if_icmp .ge 7, 3) := by decide +kernel
theorem dX5_isForm_9 : decode cX5_isForm 9 = .ok (.iconst 1, 1) := by decide +kernel
theorem dX5_isForm_10 : decode cX5_isForm 10 = .ok (.goto 4, 3) := by decide +kernel
theorem dX5_isForm_13 : decode cX5_isForm 13 = .ok (.iconst 0, 1) := by decide +kernel
theorem dX5_isForm_14 : decode cX5_isForm 14 = .ok (.ireturn, 1) := by decide +kernel
theorem dX5_find_0 : decode cX5_find 0 = .ok (.aload_n 0, 1) := by decide +kernel
theorem dX5_find_1 : decode cX5_find 1 = .ok (.iload_n 1, 1) := by decide +kernel
theorem dX5_find_2 : decode cX5_find 2 = .ok (.putfield 50, 3) := by decide +kernel
theorem dX5_find_5 : decode cX5_find 5 = .ok (.bipush (-10), 2) := by decide +kernel
theorem dX5_find_7 : decode cX5_find 7 = .ok (.iload_n 1, 1) := by decide +kernel
theorem dX5_find_8 : decode cX5_find 8 = .ok (.isub, 1) := by decide +kernel
theorem dX5_find_9 : decode cX5_find 9 = .ok (.ireturn, 1) := by decide +kernel
theorem dX5_takeWrite_0 : decode cX5_takeWrite 0 = .ok (.iload_n 1, 1) := by decide +kernel
theorem dX5_takeWrite_1 : decode cX5_takeWrite 1 = .ok (.iload_n 2, 1) := by decide +kernel
theorem dX5_takeWrite_2 : decode cX5_takeWrite 2 = .ok (.iload_n 3, 1) := by decide +kernel
theorem dX5_takeWrite_3 : decode cX5_takeWrite 3 = .ok (.invokestatic 343, 3) := by decide +kernel
theorem dX5_takeWrite_6 : decode cX5_takeWrite 6 = .ok (.ifCond .ne 6, 3) := by decide +kernel
theorem dX5_takeWrite_9 : decode cX5_takeWrite 9 = .ok (.bipush (-2), 2) := by decide +kernel
theorem dX5_takeWrite_11 : decode cX5_takeWrite 11 = .ok (.ireturn, 1) := by decide +kernel
theorem dX5_takeWrite_12 : decode cX5_takeWrite 12 = .ok (.aload_n 0, 1) := by decide +kernel
theorem dX5_takeWrite_13 : decode cX5_takeWrite 13 = .ok (.getfield 12, 3) := by decide +kernel
theorem dX5_takeWrite_16 : decode cX5_takeWrite 16 = .ok (.getfield 82, 3) := by decide +kernel
theorem dX5_takeWrite_19 : decode cX5_takeWrite 19 = .ok (.bipush 40, 2) := by decide +kernel
theorem dX5_takeWrite_21 : decode cX5_takeWrite 21 = .ok (.if_icmp .lt 6, 3) := by decide +kernel
theorem dX5_takeWrite_24 : decode cX5_takeWrite 24 = .ok (.bipush (-4), 2) := by decide +kernel
theorem dX5_takeWrite_26 : decode cX5_takeWrite 26 = .ok (.ireturn, 1) := by decide +kernel
theorem dX5_takeWrite_27 : decode cX5_takeWrite 27 = .ok (.aload_n 0, 1) := by decide +kernel
theorem dX5_takeWrite_28 : decode cX5_takeWrite 28 = .ok (.getfield 28, 3) := by decide +kernel
theorem dX5_takeWrite_31 : decode cX5_takeWrite 31 = .ok (.aload_n 0, 1) := by decide +kernel
theorem dX5_takeWrite_32 : decode cX5_takeWrite 32 = .ok (.getfield 12, 3) := by decide +kernel
theorem dX5_takeWrite_35 : decode cX5_takeWrite 35 = .ok (.getfield 82, 3) := by decide +kernel
theorem dX5_takeWrite_38 : decode cX5_takeWrite 38 = .ok (.invokevirtual 347, 3) := by decide +kernel
theorem dX5_takeWrite_41 : decode cX5_takeWrite 41 = .ok (.aload_n 0, 1) := by decide +kernel
theorem dX5_takeWrite_42 : decode cX5_takeWrite 42 = .ok (.getfield 12, 3) := by decide +kernel
theorem dX5_takeWrite_45 : decode cX5_takeWrite 45 = .ok (.iload_n 1, 1) := by decide +kernel
theorem dX5_takeWrite_46 : decode cX5_takeWrite 46 = .ok (.iload_n 2, 1) := by decide +kernel
theorem dX5_takeWrite_47 : decode cX5_takeWrite 47 = .ok (.iload_n 3, 1) := by decide +kernel
theorem dX5_takeWrite_48 : decode cX5_takeWrite 48 = .ok (.invokevirtual 350, 3) := by decide +kernel
theorem dX5_takeWrite_51 : decode cX5_takeWrite 51 = .ok (.aload_n 0, 1) := by decide +kernel
theorem dX5_takeWrite_52 : decode cX5_takeWrite 52 = .ok (.getfield 19, 3) := by decide +kernel
theorem dX5_takeWrite_55 : decode cX5_takeWrite 55 = .ok (.iload_n 1, 1) := by decide +kernel
theorem dX5_takeWrite_56 : decode cX5_takeWrite 56 = .ok (.iload_n 2, 1) := by decide +kernel
theorem dX5_takeWrite_57 : decode cX5_takeWrite 57 = .ok (.iload_n 3, 1) := by decide +kernel
theorem dX5_takeWrite_58 : decode cX5_takeWrite 58 = .ok (.invokevirtual 354, 3) := by decide +kernel
theorem dX5_takeWrite_61 : decode cX5_takeWrite 61 = .ok (.aload_n 0, 1) := by decide +kernel
theorem dX5_takeWrite_62 : decode cX5_takeWrite 62 = .ok (.getfield 12, 3) := by decide +kernel
theorem dX5_takeWrite_65 : decode cX5_takeWrite 65 = .ok (.getfield 82, 3) := by decide +kernel
theorem dX5_takeWrite_68 : decode cX5_takeWrite 68 = .ok (.ireturn, 1) := by decide +kernel
theorem dX5_reckon_0 : decode cX5_reckon 0 = .ok (.aload_n 0, 1) := by decide +kernel
theorem dX5_reckon_1 : decode cX5_reckon 1 = .ok (.getfield 28, 3) := by decide +kernel
theorem dX5_reckon_4 : decode cX5_reckon 4 = .ok (.invokevirtual 357, 3) := by decide +kernel
theorem dX5_reckon_7 : decode cX5_reckon 7 = .ok (.aload_n 0, 1) := by decide +kernel
theorem dX5_reckon_8 : decode cX5_reckon 8 = .ok (.getfield 37, 3) := by decide +kernel
theorem dX5_reckon_11 : decode cX5_reckon 11 = .ok (.iconst (-1), 1) := by decide +kernel
theorem dX5_reckon_12 : decode cX5_reckon 12 = .ok (.invokevirtual 55, 3) := by decide +kernel
theorem dX5_reckon_15 : decode cX5_reckon 15 = .ok (.return_, 1) := by decide +kernel
theorem dX5_holds_0 : decode cX5_holds 0 = .ok (.aload_n 2, 1) := by decide +kernel
theorem dX5_holds_1 : decode cX5_holds 1 = .ok (.getfield 191, 3) := by decide +kernel
theorem dX5_holds_4 : decode cX5_holds 4 = .ok (.aload_n 0, 1) := by decide +kernel
theorem dX5_holds_5 : decode cX5_holds 5 = .ok (.getfield 12, 3) := by decide +kernel
theorem dX5_holds_8 : decode cX5_holds 8 = .ok (.getfield 138, 3) := by decide +kernel
theorem dX5_holds_11 : decode cX5_holds 11 = .ok (.iload_n 1, 1) := by decide +kernel
theorem dX5_holds_12 : decode cX5_holds 12 = .ok (.iaload, 1) := by decide +kernel
theorem dX5_holds_13 : decode cX5_holds 13 = .ok (.iaload, 1) := by decide +kernel
theorem dX5_holds_14 : decode cX5_holds 14 = .ok (.aload_n 0, 1) := by decide +kernel
theorem dX5_holds_15 : decode cX5_holds 15 = .ok (.getfield 12, 3) := by decide +kernel
theorem dX5_holds_18 : decode cX5_holds 18 = .ok (.getfield 110, 3) := by decide +kernel
theorem dX5_holds_21 : decode cX5_holds 21 = .ok (.iload_n 1, 1) := by decide +kernel
theorem dX5_holds_22 : decode cX5_holds 22 = .ok (.iaload, 1) := by decide +kernel
theorem dX5_holds_23 : decode cX5_holds 23 = .ok (.if_icmp .gt 19, 3) := by decide +kernel
theorem dX5_holds_26 : decode cX5_holds 26 = .ok (.aload_n 0, 1) := by decide +kernel
theorem dX5_holds_27 : decode cX5_holds 27 = .ok (.getfield 28, 3) := by decide +kernel
theorem dX5_holds_30 : decode cX5_holds 30 = .ok (.getfield 188, 3) := by decide +kernel
theorem dX5_holds_33 : decode cX5_holds 33 = .ok (.iload_n 1, 1) := by decide +kernel
theorem dX5_holds_34 : decode cX5_holds 34 = .ok (.iaload, 1) := by decide +kernel
theorem dX5_holds_35 : decode cX5_holds 35 = .ok (.ifCond .ne 7, 3) := by decide +kernel
theorem dX5_holds_38 : decode cX5_holds 38 = .ok (.iconst 1, 1) := by decide +kernel
theorem dX5_holds_39 : decode cX5_holds 39 = .ok (.goto 4, 3) := by decide +kernel
theorem dX5_holds_42 : decode cX5_holds 42 = .ok (.iconst 0, 1) := by decide +kernel
theorem dX5_holds_43 : decode cX5_holds 43 = .ok (.ireturn, 1) := by decide +kernel
theorem dX5_howManyHold_0 : decode cX5_howManyHold 0 = .ok (.iconst 0, 1) := by decide +kernel
theorem dX5_howManyHold_1 : decode cX5_howManyHold 1 = .ok (.istore_n 3, 1) := by decide +kernel
theorem dX5_howManyHold_2 : decode cX5_howManyHold 2 = .ok (.iconst 0, 1) := by decide +kernel
theorem dX5_howManyHold_3 : decode cX5_howManyHold 3 = .ok (.istore 4, 2) := by decide +kernel
theorem dX5_howManyHold_5 : decode cX5_howManyHold 5 = .ok (.iload 4, 2) := by decide +kernel
theorem dX5_howManyHold_7 : decode cX5_howManyHold 7 = .ok (.aload_n 0, 1) := by decide +kernel
theorem dX5_howManyHold_8 : decode cX5_howManyHold 8 = .ok (.getfield 12, 3) := by decide +kernel
theorem dX5_howManyHold_11 : decode cX5_howManyHold 11 = .ok (.getfield 82, 3) := by decide +kernel
theorem dX5_howManyHold_14 : decode cX5_howManyHold 14 = .ok (.if_icmp .ge 40, 3) := by decide +kernel
theorem dX5_howManyHold_17 : decode cX5_howManyHold 17 = .ok (.iload 4, 2) := by decide +kernel
theorem dX5_howManyHold_19 : decode cX5_howManyHold 19 = .ok (.iload_n 2, 1) := by decide +kernel
theorem dX5_howManyHold_20 : decode cX5_howManyHold 20 = .ok (.if_icmp .eq 28, 3) := by decide +kernel
theorem dX5_howManyHold_23 : decode cX5_howManyHold 23 = .ok (.aload_n 0, 1) := by decide +kernel
theorem dX5_howManyHold_24 : decode cX5_howManyHold 24 = .ok (.getfield 12, 3) := by decide +kernel
theorem dX5_howManyHold_27 : decode cX5_howManyHold 27 = .ok (.iload 4, 2) := by decide +kernel
theorem dX5_howManyHold_29 : decode cX5_howManyHold 29 = .ok (.invokevirtual 178, 3) := by decide +kernel
theorem dX5_howManyHold_32 : decode cX5_howManyHold 32 = .ok (.ifCond .eq 16, 3) := by decide +kernel
theorem dX5_howManyHold_35 : decode cX5_howManyHold 35 = .ok (.aload_n 0, 1) := by decide +kernel
theorem dX5_howManyHold_36 : decode cX5_howManyHold 36 = .ok (.iload 4, 2) := by decide +kernel
theorem dX5_howManyHold_38 : decode cX5_howManyHold 38 = .ok (.aload_n 1, 1) := by decide +kernel
theorem dX5_howManyHold_39 : decode cX5_howManyHold 39 = .ok (.invokevirtual 200, 3) := by decide +kernel
theorem dX5_howManyHold_42 : decode cX5_howManyHold 42 = .ok (.ifCond .eq 6, 3) := by decide +kernel
theorem dX5_howManyHold_45 : decode cX5_howManyHold 45 = .ok (.iinc 3 1, 3) := by decide +kernel
theorem dX5_howManyHold_48 : decode cX5_howManyHold 48 = .ok (.iinc 4 1, 3) := by decide +kernel
theorem dX5_howManyHold_51 : decode cX5_howManyHold 51 = .ok (.goto (-46), 3) := by decide +kernel
theorem dX5_howManyHold_54 : decode cX5_howManyHold 54 = .ok (.iload_n 3, 1) := by decide +kernel
theorem dX5_howManyHold_55 : decode cX5_howManyHold 55 = .ok (.ireturn, 1) := by decide +kernel
theorem dX5_howManyClosedSeals_0 : decode cX5_howManyClosedSeals 0 = .ok (.iconst 0, 1) := by decide +kernel
theorem dX5_howManyClosedSeals_1 : decode cX5_howManyClosedSeals 1 = .ok (.istore_n 1, 1) := by decide +kernel
theorem dX5_howManyClosedSeals_2 : decode cX5_howManyClosedSeals 2 = .ok (.iconst 0, 1) := by decide +kernel
theorem dX5_howManyClosedSeals_3 : decode cX5_howManyClosedSeals 3 = .ok (.istore_n 2, 1) := by decide +kernel
theorem dX5_howManyClosedSeals_4 : decode cX5_howManyClosedSeals 4 = .ok (.iload_n 2, 1) := by decide +kernel
theorem dX5_howManyClosedSeals_5 : decode cX5_howManyClosedSeals 5 = .ok (.aload_n 0, 1) := by decide +kernel
theorem dX5_howManyClosedSeals_6 : decode cX5_howManyClosedSeals 6 = .ok (.getfield 12, 3) := by decide +kernel
theorem dX5_howManyClosedSeals_9 : decode cX5_howManyClosedSeals 9 = .ok (.getfield 82, 3) := by decide +kernel
theorem dX5_howManyClosedSeals_12 : decode cX5_howManyClosedSeals 12 = .ok (.if_icmp .ge 23, 3) := by decide +kernel
theorem dX5_howManyClosedSeals_15 : decode cX5_howManyClosedSeals 15 = .ok (.aload_n 0, 1) := by decide +kernel
theorem dX5_howManyClosedSeals_16 : decode cX5_howManyClosedSeals 16 = .ok (.getfield 12, 3) := by decide +kernel
theorem dX5_howManyClosedSeals_19 : decode cX5_howManyClosedSeals 19 = .ok (.iload_n 2, 1) := by decide +kernel
theorem dX5_howManyClosedSeals_20 : decode cX5_howManyClosedSeals 20 = .ok (.invokevirtual 178, 3) := by decide +kernel
theorem dX5_howManyClosedSeals_23 : decode cX5_howManyClosedSeals 23 = .ok (.ifCond .eq 6, 3) := by decide +kernel
theorem dX5_howManyClosedSeals_26 : decode cX5_howManyClosedSeals 26 = .ok (.iinc 1 1, 3) := by decide +kernel
theorem dX5_howManyClosedSeals_29 : decode cX5_howManyClosedSeals 29 = .ok (.iinc 2 1, 3) := by decide +kernel
theorem dX5_howManyClosedSeals_32 : decode cX5_howManyClosedSeals 32 = .ok (.goto (-28), 3) := by decide +kernel
theorem dX5_howManyClosedSeals_35 : decode cX5_howManyClosedSeals 35 = .ok (.iload_n 1, 1) := by decide +kernel
theorem dX5_howManyClosedSeals_36 : decode cX5_howManyClosedSeals 36 = .ok (.ireturn, 1) := by decide +kernel
theorem dX5_howManyShadowed_0 : decode cX5_howManyShadowed 0 = .ok (.iconst 0, 1) := by decide +kernel
theorem dX5_howManyShadowed_1 : decode cX5_howManyShadowed 1 = .ok (.istore_n 1, 1) := by decide +kernel
theorem dX5_howManyShadowed_2 : decode cX5_howManyShadowed 2 = .ok (.iconst 0, 1) := by decide +kernel
theorem dX5_howManyShadowed_3 : decode cX5_howManyShadowed 3 = .ok (.istore_n 2, 1) := by decide +kernel
theorem dX5_howManyShadowed_4 : decode cX5_howManyShadowed 4 = .ok (.iload_n 2, 1) := by decide +kernel
theorem dX5_howManyShadowed_5 : decode cX5_howManyShadowed 5 = .ok (.aload_n 0, 1) := by decide +kernel
theorem dX5_howManyShadowed_6 : decode cX5_howManyShadowed 6 = .ok (.getfield 12, 3) := by decide +kernel
theorem dX5_howManyShadowed_9 : decode cX5_howManyShadowed 9 = .ok (.getfield 70, 3) := by decide +kernel
theorem dX5_howManyShadowed_12 : decode cX5_howManyShadowed 12 = .ok (.if_icmp .gt 24, 3) := by decide +kernel
theorem dX5_howManyShadowed_15 : decode cX5_howManyShadowed 15 = .ok (.iload_n 1, 1) := by decide +kernel
theorem dX5_howManyShadowed_16 : decode cX5_howManyShadowed 16 = .ok (.aload_n 0, 1) := by decide +kernel
theorem dX5_howManyShadowed_17 : decode cX5_howManyShadowed 17 = .ok (.getfield 37, 3) := by decide +kernel
theorem dX5_howManyShadowed_20 : decode cX5_howManyShadowed 20 = .ok (.getfield 169, 3) := by decide +kernel
theorem dX5_howManyShadowed_23 : decode cX5_howManyShadowed 23 = .ok (.iload_n 2, 1) := by decide +kernel
theorem dX5_howManyShadowed_24 : decode cX5_howManyShadowed 24 = .ok (.iaload, 1) := by decide +kernel
theorem dX5_howManyShadowed_25 : decode cX5_howManyShadowed 25 = .ok (.invokestatic 265, 3) := by decide +kernel
theorem dX5_howManyShadowed_28 : decode cX5_howManyShadowed 28 = .ok (.iadd, 1) := by decide +kernel
theorem dX5_howManyShadowed_29 : decode cX5_howManyShadowed 29 = .ok (.istore_n 1, 1) := by decide +kernel
theorem dX5_howManyShadowed_30 : decode cX5_howManyShadowed 30 = .ok (.iinc 2 1, 3) := by decide +kernel
theorem dX5_howManyShadowed_33 : decode cX5_howManyShadowed 33 = .ok (.goto (-29), 3) := by decide +kernel
theorem dX5_howManyShadowed_36 : decode cX5_howManyShadowed 36 = .ok (.iload_n 1, 1) := by decide +kernel
theorem dX5_howManyShadowed_37 : decode cX5_howManyShadowed 37 = .ok (.ireturn, 1) := by decide +kernel
theorem dX5_firstSealAgainst_0 : decode cX5_firstSealAgainst 0 = .ok (.aload_n 0, 1) := by decide +kernel
theorem dX5_firstSealAgainst_1 : decode cX5_firstSealAgainst 1 = .ok (.getfield 12, 3) := by decide +kernel
theorem dX5_firstSealAgainst_4 : decode cX5_firstSealAgainst 4 = .ok (.getfield 144, 3) := by decide +kernel
theorem dX5_firstSealAgainst_7 : decode cX5_firstSealAgainst 7 = .ok (.aload_n 0, 1) := by decide +kernel
theorem dX5_firstSealAgainst_8 : decode cX5_firstSealAgainst 8 = .ok (.getfield 37, 3) := by decide +kernel
theorem dX5_firstSealAgainst_11 : decode cX5_firstSealAgainst 11 = .ok (.getfield 207, 3) := by decide +kernel
theorem dX5_firstSealAgainst_14 : decode cX5_firstSealAgainst 14 = .ok (.iload_n 1, 1) := by decide +kernel
theorem dX5_firstSealAgainst_15 : decode cX5_firstSealAgainst 15 = .ok (.iaload, 1) := by decide +kernel
theorem dX5_firstSealAgainst_16 : decode cX5_firstSealAgainst 16 = .ok (.iaload, 1) := by decide +kernel
theorem dX5_firstSealAgainst_17 : decode cX5_firstSealAgainst 17 = .ok (.istore_n 2, 1) := by decide +kernel
theorem dX5_firstSealAgainst_18 : decode cX5_firstSealAgainst 18 = .ok (.iconst 0, 1) := by decide +kernel
theorem dX5_firstSealAgainst_19 : decode cX5_firstSealAgainst 19 = .ok (.istore_n 3, 1) := by decide +kernel
theorem dX5_firstSealAgainst_20 : decode cX5_firstSealAgainst 20 = .ok (.iload_n 3, 1) := by decide +kernel
theorem dX5_firstSealAgainst_21 : decode cX5_firstSealAgainst 21 = .ok (.iload_n 2, 1) := by decide +kernel
theorem dX5_firstSealAgainst_22 : decode cX5_firstSealAgainst 22 = .ok (.if_icmp .ge 51, 3) := by decide +kernel
theorem dX5_firstSealAgainst_25 : decode cX5_firstSealAgainst 25 = .ok (.aload_n 0, 1) := by decide +kernel
theorem dX5_firstSealAgainst_26 : decode cX5_firstSealAgainst 26 = .ok (.getfield 12, 3) := by decide +kernel
theorem dX5_firstSealAgainst_29 : decode cX5_firstSealAgainst 29 = .ok (.iload_n 3, 1) := by decide +kernel
theorem dX5_firstSealAgainst_30 : decode cX5_firstSealAgainst 30 = .ok (.invokevirtual 92, 3) := by decide +kernel
theorem dX5_firstSealAgainst_33 : decode cX5_firstSealAgainst 33 = .ok (.ifCond .eq 34, 3) := by decide +kernel
theorem dX5_firstSealAgainst_36 : decode cX5_firstSealAgainst 36 = .ok (.aload_n 0, 1) := by decide +kernel
theorem dX5_firstSealAgainst_37 : decode cX5_firstSealAgainst 37 = .ok (.getfield 37, 3) := by decide +kernel
theorem dX5_firstSealAgainst_40 : decode cX5_firstSealAgainst 40 = .ok (.iload_n 1, 1) := by decide +kernel
theorem dX5_firstSealAgainst_41 : decode cX5_firstSealAgainst 41 = .ok (.aload_n 0, 1) := by decide +kernel
theorem dX5_firstSealAgainst_42 : decode cX5_firstSealAgainst 42 = .ok (.getfield 12, 3) := by decide +kernel
theorem dX5_firstSealAgainst_45 : decode cX5_firstSealAgainst 45 = .ok (.getfield 138, 3) := by decide +kernel
theorem dX5_firstSealAgainst_48 : decode cX5_firstSealAgainst 48 = .ok (.iload_n 3, 1) := by decide +kernel
theorem dX5_firstSealAgainst_49 : decode cX5_firstSealAgainst 49 = .ok (.iaload, 1) := by decide +kernel
theorem dX5_firstSealAgainst_50 : decode cX5_firstSealAgainst 50 = .ok (.invokevirtual 213, 3) := by decide +kernel
theorem dX5_firstSealAgainst_53 : decode cX5_firstSealAgainst 53 = .ok (.aload_n 0, 1) := by decide +kernel
theorem dX5_firstSealAgainst_54 : decode cX5_firstSealAgainst 54 = .ok (.getfield 12, 3) := by decide +kernel
theorem dX5_firstSealAgainst_57 : decode cX5_firstSealAgainst 57 = .ok (.getfield 110, 3) := by decide +kernel
theorem dX5_firstSealAgainst_60 : decode cX5_firstSealAgainst 60 = .ok (.iload_n 3, 1) := by decide +kernel
theorem dX5_firstSealAgainst_61 : decode cX5_firstSealAgainst 61 = .ok (.iaload, 1) := by decide +kernel
theorem dX5_firstSealAgainst_62 : decode cX5_firstSealAgainst 62 = .ok (.if_icmp .le 5, 3) := by decide +kernel
theorem dX5_firstSealAgainst_65 : decode cX5_firstSealAgainst 65 = .ok (.iload_n 3, 1) := by decide +kernel
theorem dX5_firstSealAgainst_66 : decode cX5_firstSealAgainst 66 = .ok (.ireturn, 1) := by decide +kernel
theorem dX5_firstSealAgainst_67 : decode cX5_firstSealAgainst 67 = .ok (.iinc 3 1, 3) := by decide +kernel
theorem dX5_firstSealAgainst_70 : decode cX5_firstSealAgainst 70 = .ok (.goto (-50), 3) := by decide +kernel
theorem dX5_firstSealAgainst_73 : decode cX5_firstSealAgainst 73 = .ok (.iconst (-1), 1) := by decide +kernel
theorem dX5_firstSealAgainst_74 : decode cX5_firstSealAgainst 74 = .ok (.ireturn, 1) := by decide +kernel
theorem dX6_init_0 : decode cX6_init 0 = .ok (.aload_n 0, 1) := by decide +kernel
theorem dX6_init_1 : decode cX6_init 1 = .ok (.invokespecial 1, 3) := by decide +kernel
theorem dX6_init_4 : decode cX6_init 4 = .ok (.aload_n 0, 1) := by decide +kernel
theorem dX6_init_5 : decode cX6_init 5 = .ok (.iconst 4, 1) := by decide +kernel
theorem dX6_init_6 : decode cX6_init 6 = .ok (.newarray .int, 2) := by decide +kernel
theorem dX6_init_8 : decode cX6_init 8 = .ok (.putfield 7, 3) := by decide +kernel
theorem dX6_init_11 : decode cX6_init 11 = .ok (.aload_n 0, 1) := by decide +kernel
theorem dX6_init_12 : decode cX6_init 12 = .ok (.iconst 4, 1) := by decide +kernel
theorem dX6_init_13 : decode cX6_init 13 = .ok (.newarray .int, 2) := by decide +kernel
theorem dX6_init_15 : decode cX6_init 15 = .ok (.putfield 13, 3) := by decide +kernel
theorem dX6_init_18 : decode cX6_init 18 = .ok (.aload_n 0, 1) := by decide +kernel
theorem dX6_init_19 : decode cX6_init 19 = .ok (.sipush 240, 3) := by decide +kernel
theorem dX6_init_22 : decode cX6_init 22 = .ok (.newarray .int, 2) := by decide +kernel
theorem dX6_init_24 : decode cX6_init 24 = .ok (.putfield 16, 3) := by decide +kernel
theorem dX6_init_27 : decode cX6_init 27 = .ok (.aload_n 0, 1) := by decide +kernel
theorem dX6_init_28 : decode cX6_init 28 = .ok (.bipush 60, 2) := by decide +kernel
theorem dX6_init_30 : decode cX6_init 30 = .ok (.newarray .int, 2) := by decide +kernel
theorem dX6_init_32 : decode cX6_init 32 = .ok (.putfield 19, 3) := by decide +kernel
theorem dX6_init_35 : decode cX6_init 35 = .ok (.aload_n 0, 1) := by decide +kernel
theorem dX6_init_36 : decode cX6_init 36 = .ok (.bipush 40, 2) := by decide +kernel
theorem dX6_init_38 : decode cX6_init 38 = .ok (.newarray .int, 2) := by decide +kernel
theorem dX6_init_40 : decode cX6_init 40 = .ok (.putfield 22, 3) := by decide +kernel
theorem dX6_init_43 : decode cX6_init 43 = .ok (.aload_n 0, 1) := by decide +kernel
theorem dX6_init_44 : decode cX6_init 44 = .ok (.bipush 40, 2) := by decide +kernel
theorem dX6_init_46 : decode cX6_init 46 = .ok (.newarray .int, 2) := by decide +kernel
theorem dX6_init_48 : decode cX6_init 48 = .ok (.putfield 25, 3) := by decide +kernel
theorem dX6_init_51 : decode cX6_init 51 = .ok (.aload_n 0, 1) := by decide +kernel
theorem dX6_init_52 : decode cX6_init 52 = .ok (.bipush 40, 2) := by decide +kernel
theorem dX6_init_54 : decode cX6_init 54 = .ok (.newarray .int, 2) := by decide +kernel
theorem dX6_init_56 : decode cX6_init 56 = .ok (.putfield 28, 3) := by decide +kernel
theorem dX6_init_59 : decode cX6_init 59 = .ok (.aload_n 0, 1) := by decide +kernel
theorem dX6_init_60 : decode cX6_init 60 = .ok (.bipush 40, 2) := by decide +kernel
theorem dX6_init_62 : decode cX6_init 62 = .ok (.newarray .int, 2) := by decide +kernel
theorem dX6_init_64 : decode cX6_init 64 = .ok (.putfield 31, 3) := by decide +kernel
theorem dX6_init_67 : decode cX6_init 67 = .ok (.aload_n 0, 1) := by decide +kernel
theorem dX6_init_68 : decode cX6_init 68 = .ok (.bipush 40, 2) := by decide +kernel
theorem dX6_init_70 : decode cX6_init 70 = .ok (.newarray .boolean, 2) := by decide +kernel
theorem dX6_init_72 : decode cX6_init 72 = .ok (.putfield 34, 3) := by decide +kernel
theorem dX6_init_75 : decode cX6_init 75 = .ok (.aload_n 0, 1) := by decide +kernel
theorem dX6_init_76 : decode cX6_init 76 = .ok (.sipush 160, 3) := by decide +kernel
theorem dX6_init_79 : decode cX6_init 79 = .ok (.newarray .int, 2) := by decide +kernel
theorem dX6_init_81 : decode cX6_init 81 = .ok (.putfield 38, 3) := by decide +kernel
theorem dX6_init_84 : decode cX6_init 84 = .ok (.aload_n 0, 1) := by decide +kernel
theorem dX6_init_85 : decode cX6_init 85 = .ok (.bipush 40, 2) := by decide +kernel
theorem dX6_init_87 : decode cX6_init 87 = .ok (.newarray .int, 2) := by decide +kernel
theorem dX6_init_89 : decode cX6_init 89 = .ok (.putfield 41, 3) := by decide +kernel
theorem dX6_init_92 : decode cX6_init 92 = .ok (.aload_n 0, 1) := by decide +kernel
theorem dX6_init_93 : decode cX6_init 93 = .ok (.iconst (-1), 1) := by decide +kernel
theorem dX6_init_94 : decode cX6_init 94 = .ok (.putfield 44, 3) := by decide +kernel
theorem dX6_init_97 : decode cX6_init 97 = .ok (.aload_n 0, 1) := by decide +kernel
theorem dX6_init_98 : decode cX6_init 98 = .ok (.bipush 40, 2) := by decide +kernel
theorem dX6_init_100 : decode cX6_init 100 = .ok (.newarray .int, 2) := by decide +kernel
theorem dX6_init_102 : decode cX6_init 102 = .ok (.putfield 48, 3) := by decide +kernel
theorem dX6_init_105 : decode cX6_init 105 = .ok (.iconst 0, 1) := by decide +kernel
theorem dX6_init_106 : decode cX6_init 106 = .ok (.istore_n 1, 1) := by decide +kernel
theorem dX6_init_107 : decode cX6_init 107 = .ok (.iload_n 1, 1) := by decide +kernel
theorem dX6_init_108 : decode cX6_init 108 = .ok (.iconst 4, 1) := by decide +kernel
theorem dX6_init_109 : decode cX6_init 109 = .ok (.if_icmp .ge 16, 3) := by decide +kernel
theorem dX6_init_112 : decode cX6_init 112 = .ok (.aload_n 0, 1) := by decide +kernel
theorem dX6_init_113 : decode cX6_init 113 = .ok (.getfield 7, 3) := by decide +kernel
theorem dX6_init_116 : decode cX6_init 116 = .ok (.iload_n 1, 1) := by decide +kernel
theorem dX6_init_117 : decode cX6_init 117 = .ok (.iconst (-1), 1) := by decide +kernel
theorem dX6_init_118 : decode cX6_init 118 = .ok (.iastore, 1) := by decide +kernel
theorem dX6_init_119 : decode cX6_init 119 = .ok (.iinc 1 1, 3) := by decide +kernel
theorem dX6_init_122 : decode cX6_init 122 = .ok (.goto (-15), 3) := by decide +kernel
theorem dX6_init_125 : decode cX6_init 125 = .ok (.return_, 1) := by decide +kernel
theorem dX6_in_0 : decode cX6_in 0 = .ok (.lload_n 0, 1) := by decide +kernel
theorem dX6_in_1 : decode cX6_in 1 = .ok (.lload_n 2, 1) := by decide +kernel
theorem dX6_in_2 : decode cX6_in 2 = .ok (.lcmp, 1) := by decide +kernel
theorem dX6_in_3 : decode cX6_in 3 = .ok (.ifCond .lt 14, 3) := by decide +kernel
theorem dX6_in_6 : decode cX6_in 6 = .ok (.lload_n 0, 1) := by decide +kernel
theorem dX6_in_7 : decode cX6_in 7 = .ok (.lload 4, 2) := by decide +kernel
theorem dX6_in_9 : decode cX6_in 9 = .ok (.lcmp, 1) := by decide +kernel
theorem dX6_in_10 : decode cX6_in 10 = .ok (.ifCond .gt 7, 3) := by decide +kernel
theorem dX6_in_13 : decode cX6_in 13 = .ok (.iconst 1, 1) := by decide +kernel
theorem dX6_in_14 : decode cX6_in 14 = .ok (.goto 4, 3) := by decide +kernel
theorem dX6_in_17 : decode cX6_in 17 = .ok (.iconst 0, 1) := by decide +kernel
theorem dX6_in_18 : decode cX6_in 18 = .ok (.ireturn, 1) := by decide +kernel
theorem dX6_isTwo_0 : decode cX6_isTwo 0 = .ok (.iload_n 0, 1) := by decide +kernel
theorem dX6_isTwo_1 : decode cX6_isTwo 1 = .ok (.i2l, 1) := by decide +kernel
theorem dX6_isTwo_2 : decode cX6_isTwo 2 = .ok (.lconst 0, 1) := by decide +kernel
theorem dX6_isTwo_3 : decode cX6_isTwo 3 = .ok (.lconst 1, 1) := by decide +kernel
theorem dX6_isTwo_4 : decode cX6_isTwo 4 = .ok (.invokestatic 51, 3) := by decide +kernel
theorem dX6_isTwo_7 : decode cX6_isTwo 7 = .ok (.ireturn, 1) := by decide +kernel
theorem dX6_isIn_0 : decode cX6_isIn 0 = .ok (.iload_n 0, 1) := by decide +kernel
theorem dX6_isIn_1 : decode cX6_isIn 1 = .ok (.iload_n 1, 1) := by decide +kernel
theorem dX6_isIn_2 : decode cX6_isIn 2 = .ok (.ishr, 1) := by decide +kernel
theorem dX6_isIn_3 : decode cX6_isIn 3 = .ok (.iconst 1, 1) := by decide +kernel
theorem dX6_isIn_4 : decode cX6_isIn 4 = .ok (.iand, 1) := by decide +kernel
theorem dX6_isIn_5 : decode cX6_isIn 5 = .ok (.iconst 1, 1) := by decide +kernel
theorem dX6_isIn_6 : decode cX6_isIn 6 = .ok (.if_icmp .ne 7, 3) := by decide +kernel
theorem dX6_isIn_9 : decode cX6_isIn 9 = .ok (.iconst 1, 1) := by decide +kernel
theorem dX6_isIn_10 : decode cX6_isIn 10 = .ok (.goto 4, 3) := by decide +kernel
theorem dX6_isIn_13 : decode cX6_isIn 13 = .ok (.iconst 0, 1) := by decide +kernel
theorem dX6_isIn_14 : decode cX6_isIn 14 = .ok (.ireturn, 1) := by decide +kernel
theorem dX6_lesser_0 : decode cX6_lesser 0 = .ok (.iload_n 0, 1) := by decide +kernel
theorem dX6_lesser_1 : decode cX6_lesser 1 = .ok (.iload_n 1, 1) := by decide +kernel
theorem dX6_lesser_2 : decode cX6_lesser 2 = .ok (.if_icmp .ge 7, 3) := by decide +kernel
theorem dX6_lesser_5 : decode cX6_lesser 5 = .ok (.iload_n 0, 1) := by decide +kernel
theorem dX6_lesser_6 : decode cX6_lesser 6 = .ok (.goto 4, 3) := by decide +kernel
theorem dX6_lesser_9 : decode cX6_lesser 9 = .ok (.iload_n 1, 1) := by decide +kernel
theorem dX6_lesser_10 : decode cX6_lesser 10 = .ok (.ireturn, 1) := by decide +kernel
theorem dX6_greater_0 : decode cX6_greater 0 = .ok (.iload_n 0, 1) := by decide +kernel
theorem dX6_greater_1 : decode cX6_greater 1 = .ok (.iload_n 1, 1) := by decide +kernel
theorem dX6_greater_2 : decode cX6_greater 2 = .ok (.if_icmp .le 7, 3) := by decide +kernel
theorem dX6_greater_5 : decode cX6_greater 5 = .ok (.iload_n 0, 1) := by decide +kernel
theorem dX6_greater_6 : decode cX6_greater 6 = .ok (.goto 4, 3) := by decide +kernel
theorem dX6_greater_9 : decode cX6_greater 9 = .ok (.iload_n 1, 1) := by decide +kernel
theorem dX6_greater_10 : decode cX6_greater 10 = .ok (.ireturn, 1) := by decide +kernel
theorem dX6_finds_0 : decode cX6_finds 0 = .ok (.aload_n 0, 1) := by decide +kernel
theorem dX6_finds_1 : decode cX6_finds 1 = .ok (.iload_n 1, 1) := by decide +kernel
theorem dX6_finds_2 : decode cX6_finds 2 = .ok (.putfield 55, 3) := by decide +kernel
theorem dX6_finds_5 : decode cX6_finds 5 = .ok (.bipush (-10), 2) := by decide +kernel
theorem dX6_finds_7 : decode cX6_finds 7 = .ok (.iload_n 1, 1) := by decide +kernel
theorem dX6_finds_8 : decode cX6_finds 8 = .ok (.isub, 1) := by decide +kernel
theorem dX6_finds_9 : decode cX6_finds 9 = .ok (.ireturn, 1) := by decide +kernel
theorem dX6_isSheet_0 : decode cX6_isSheet 0 = .ok (.iload_n 0, 1) := by decide +kernel
theorem dX6_isSheet_1 : decode cX6_isSheet 1 = .ok (.i2l, 1) := by decide +kernel
theorem dX6_isSheet_2 : decode cX6_isSheet 2 = .ok (.lconst 0, 1) := by decide +kernel
theorem dX6_isSheet_3 : decode cX6_isSheet 3 = .ok (.ldc2_w 58, 3) := by decide +kernel
theorem dX6_isSheet_6 : decode cX6_isSheet 6 = .ok (.invokestatic 51, 3) := by decide +kernel
theorem dX6_isSheet_9 : decode cX6_isSheet 9 = .ok (.ireturn, 1) := by decide +kernel
theorem dX6_sheet_0 : decode cX6_sheet 0 = .ok (.iload_n 1, 1) := by decide +kernel
theorem dX6_sheet_1 : decode cX6_sheet 1 = .ok (.invokestatic 60, 3) := by decide +kernel
theorem dX6_sheet_4 : decode cX6_sheet 4 = .ok (.ifCond .eq 21, 3) := by decide +kernel
theorem dX6_sheet_7 : decode cX6_sheet 7 = .ok (.iload_n 2, 1) := by decide +kernel
theorem dX6_sheet_8 : decode cX6_sheet 8 = .ok (.i2l, 1) := by decide +kernel
theorem dX6_sheet_9 : decode cX6_sheet 9 = .ok (.lconst 0, 1) := by decide +kernel
theorem dX6_sheet_10 : decode cX6_sheet 10 = .ok (.ldc2_w 64, 3) := by decide +kernel
theorem dX6_sheet_13 : decode cX6_sheet 13 = .ok (.invokestatic 51, 3) := by decide +kernel
theorem dX6_sheet_16 : decode cX6_sheet 16 = .ok (.ifCond .eq 9, 3) := by decide +kernel
theorem dX6_sheet_19 : decode cX6_sheet 19 = .ok (.iload_n 3, 1) := by decide +kernel
theorem dX6_sheet_20 : decode cX6_sheet 20 = .ok (.bipush 60, 2) := by decide +kernel
theorem dX6_sheet_22 : decode cX6_sheet 22 = .ok (.if_icmp .le 6, 3) := by decide +kernel
theorem dX6_sheet_25 : decode cX6_sheet 25 = .ok (.bipush (-2), 2) := by decide +kernel
theorem dX6_sheet_27 : decode cX6_sheet 27 = .ok (.ireturn, 1) := by decide +kernel
theorem dX6_sheet_28 : decode cX6_sheet 28 = .ok (.iload_n 3, 1) := by decide +kernel
theorem dX6_sheet_29 : decode cX6_sheet 29 = .ok (.ifCond .ge 9, 3) := by decide +kernel
theorem dX6_sheet_32 : decode cX6_sheet 32 = .ok (.aload_n 0, 1) := by decide +kernel
theorem dX6_sheet_33 : decode cX6_sheet 33 = .ok (.iconst 5, 1) := by decide +kernel
theorem dX6_sheet_34 : decode cX6_sheet 34 = .ok (.invokevirtual 66, 3) := by decide +kernel
theorem dX6_sheet_37 : decode cX6_sheet 37 = .ok (.ireturn, 1) := by decide +kernel
theorem dX6_sheet_38 : decode cX6_sheet 38 = .ok (.aload_n 0, 1) := by decide +kernel
theorem dX6_sheet_39 : decode cX6_sheet 39 = .ok (.getfield 7, 3) := by decide +kernel
theorem dX6_sheet_42 : decode cX6_sheet 42 = .ok (.iload_n 1, 1) := by decide +kernel
theorem dX6_sheet_43 : decode cX6_sheet 43 = .ok (.iload_n 2, 1) := by decide +kernel
theorem dX6_sheet_44 : decode cX6_sheet 44 = .ok (.iastore, 1) := by decide +kernel
theorem dX6_sheet_45 : decode cX6_sheet 45 = .ok (.aload_n 0, 1) := by decide +kernel
theorem dX6_sheet_46 : decode cX6_sheet 46 = .ok (.getfield 13, 3) := by decide +kernel
theorem dX6_sheet_49 : decode cX6_sheet 49 = .ok (.iload_n 1, 1) := by decide +kernel
theorem dX6_sheet_50 : decode cX6_sheet 50 = .ok (.iload_n 3, 1) := by decide +kernel
theorem dX6_sheet_51 : decode cX6_sheet 51 = .ok (.iastore, 1) := by decide +kernel
theorem dX6_sheet_52 : decode cX6_sheet 52 = .ok (.iconst 0, 1) := by decide +kernel
theorem dX6_sheet_53 : decode cX6_sheet 53 = .ok (.istore 4, 2) := by decide +kernel
theorem dX6_sheet_55 : decode cX6_sheet 55 = .ok (.iload 4, 2) := by decide +kernel
theorem dX6_sheet_57 : decode cX6_sheet 57 = .ok (.iload_n 3, 1) := by decide +kernel
theorem dX6_sheet_58 : decode cX6_sheet 58 = .ok (.if_icmp .ge 22, 3) := by decide +kernel
theorem dX6_sheet_61 : decode cX6_sheet 61 = .ok (.aload_n 0, 1) := by decide +kernel
theorem dX6_sheet_62 : decode cX6_sheet 62 = .ok (.getfield 16, 3) := by decide +kernel
theorem dX6_sheet_65 : decode cX6_sheet 65 = .ok (.bipush 60, 2) := by decide +kernel
theorem dX6_sheet_67 : decode cX6_sheet 67 = .ok (.iload_n 1, 1) := by decide +kernel
theorem dX6_sheet_68 : decode cX6_sheet 68 = .ok (.imul, 1) := by decide +kernel
theorem dX6_sheet_69 : decode cX6_sheet 69 = .ok (.iload 4, 2) := by decide +kernel
theorem dX6_sheet_71 : decode cX6_sheet 71 = .ok (.iadd, 1) := by decide +kernel
theorem dX6_sheet_72 : decode cX6_sheet 72 = .ok (.iconst 0, 1) := by decide +kernel
theorem dX6_sheet_73 : decode cX6_sheet 73 = .ok (.iastore, 1) := by decide +kernel
theorem dX6_sheet_74 : decode cX6_sheet 74 = .ok (.iinc 4 1, 3) := by decide +kernel
theorem dX6_sheet_77 : decode cX6_sheet 77 = .ok (.goto (-22), 3) := by decide +kernel
theorem dX6_sheet_80 : decode cX6_sheet 80 = .ok (.iload_n 3, 1) := by decide +kernel
theorem dX6_sheet_81 : decode cX6_sheet 81 = .ok (.ireturn, 1) := by decide +kernel
theorem dX6_lose_0 : decode cX6_lose 0 = .ok (.iload_n 1, 1) := by decide +kernel
theorem dX6_lose_1 : decode cX6_lose 1 = .ok (.invokestatic 60, 3) := by decide +kernel
theorem dX6_lose_4 : decode cX6_lose 4 = .ok (.ifCond .ne 6, 3) := by decide +kernel
theorem dX6_lose_7 : decode cX6_lose 7 = .ok (.bipush (-2), 2) := by decide +kernel
theorem dX6_lose_9 : decode cX6_lose 9 = .ok (.ireturn, 1) := by decide +kernel
theorem dX6_lose_10 : decode cX6_lose 10 = .ok (.aload_n 0, 1) := by decide +kernel
theorem dX6_lose_11 : decode cX6_lose 11 = .ok (.getfield 7, 3) := by decide +kernel
theorem dX6_lose_14 : decode cX6_lose 14 = .ok (.iload_n 1, 1) := by decide +kernel
theorem dX6_lose_15 : decode cX6_lose 15 = .ok (.iaload, 1) := by decide +kernel
theorem dX6_lose_16 : decode cX6_lose 16 = .ok (.ifCond .ge 9, 3) := by decide +kernel
theorem dX6_lose_19 : decode cX6_lose 19 = .ok (.aload_n 0, 1) := by decide +kernel
theorem dX6_lose_20 : decode cX6_lose 20 = .ok (.iconst 1, 1) := by decide +kernel
theorem dX6_lose_21 : decode cX6_lose 21 = .ok (.invokevirtual 66, 3) := by decide +kernel
theorem dX6_lose_24 : decode cX6_lose 24 = .ok (.ireturn, 1) := by decide +kernel
theorem dX6_lose_25 : decode cX6_lose 25 = .ok (.aload_n 0, 1) := by decide +kernel
theorem dX6_lose_26 : decode cX6_lose 26 = .ok (.getfield 7, 3) := by decide +kernel
theorem dX6_lose_29 : decode cX6_lose 29 = .ok (.iload_n 1, 1) := by decide +kernel
theorem dX6_lose_30 : decode cX6_lose 30 = .ok (.iconst (-1), 1) := by decide +kernel
theorem dX6_lose_31 : decode cX6_lose 31 = .ok (.iastore, 1) := by decide +kernel
theorem dX6_lose_32 : decode cX6_lose 32 = .ok (.aload_n 0, 1) := by decide +kernel
theorem dX6_lose_33 : decode cX6_lose 33 = .ok (.getfield 13, 3) := by decide +kernel
theorem dX6_lose_36 : decode cX6_lose 36 = .ok (.iload_n 1, 1) := by decide +kernel
theorem dX6_lose_37 : decode cX6_lose 37 = .ok (.iaload, 1) := by decide +kernel
theorem dX6_lose_38 : decode cX6_lose 38 = .ok (.ireturn, 1) := by decide +kernel
theorem dX6_lacks_0 : decode cX6_lacks 0 = .ok (.aload_n 0, 1) := by decide +kernel
theorem dX6_lacks_1 : decode cX6_lacks 1 = .ok (.getfield 7, 3) := by decide +kernel
theorem dX6_lacks_4 : decode cX6_lacks 4 = .ok (.iload_n 1, 1) := by decide +kernel
theorem dX6_lacks_5 : decode cX6_lacks 5 = .ok (.iaload, 1) := by decide +kernel
theorem dX6_lacks_6 : decode cX6_lacks 6 = .ok (.ifCond .ge 9, 3) := by decide +kernel
theorem dX6_lacks_9 : decode cX6_lacks 9 = .ok (.aload_n 0, 1) := by decide +kernel
theorem dX6_lacks_10 : decode cX6_lacks 10 = .ok (.iconst 1, 1) := by decide +kernel
theorem dX6_lacks_11 : decode cX6_lacks 11 = .ok (.invokevirtual 66, 3) := by decide +kernel
theorem dX6_lacks_14 : decode cX6_lacks 14 = .ok (.ireturn, 1) := by decide +kernel
theorem dX6_lacks_15 : decode cX6_lacks 15 = .ok (.aload_n 0, 1) := by decide +kernel
theorem dX6_lacks_16 : decode cX6_lacks 16 = .ok (.getfield 7, 3) := by decide +kernel
theorem dX6_lacks_19 : decode cX6_lacks 19 = .ok (.iload_n 1, 1) := by decide +kernel
theorem dX6_lacks_20 : decode cX6_lacks 20 = .ok (.iaload, 1) := by decide +kernel
theorem dX6_lacks_21 : decode cX6_lacks 21 = .ok (.iload_n 2, 1) := by decide +kernel
theorem dX6_lacks_22 : decode cX6_lacks 22 = .ok (.if_icmp .eq 9, 3) := by decide +kernel
theorem dX6_lacks_25 : decode cX6_lacks 25 = .ok (.aload_n 0, 1) := by decide +kernel
theorem dX6_lacks_26 : decode cX6_lacks 26 = .ok (.iconst 3, 1) := by decide +kernel
theorem dX6_lacks_27 : decode cX6_lacks 27 = .ok (.invokevirtual 66, 3) := by decide +kernel
theorem dX6_lacks_30 : decode cX6_lacks 30 = .ok (.ireturn, 1) := by decide +kernel
theorem dX6_lacks_31 : decode cX6_lacks 31 = .ok (.iload_n 3, 1) := by decide +kernel
theorem dX6_lacks_32 : decode cX6_lacks 32 = .ok (.i2l, 1) := by decide +kernel
theorem dX6_lacks_33 : decode cX6_lacks 33 = .ok (.lconst 0, 1) := by decide +kernel
theorem dX6_lacks_34 : decode cX6_lacks 34 = .ok (.aload_n 0, 1) := by decide +kernel
theorem dX6_lacks_35 : decode cX6_lacks 35 = .ok (.getfield 13, 3) := by decide +kernel
theorem dX6_lacks_38 : decode cX6_lacks 38 = .ok (.iload_n 1, 1) := by decide +kernel
theorem dX6_lacks_39 : decode cX6_lacks 39 = .ok (.iaload, 1) := by decide +kernel
theorem dX6_lacks_40 : decode cX6_lacks 40 = .ok (.iconst 1, 1) := by decide +kernel
theorem dX6_lacks_41 : decode cX6_lacks 41 = .ok (.isub, 1) := by decide +kernel
theorem dX6_lacks_42 : decode cX6_lacks 42 = .ok (.i2l, 1) := by decide +kernel
theorem dX6_lacks_43 : decode cX6_lacks 43 = .ok (.invokestatic 51, 3) := by decide +kernel
theorem dX6_lacks_46 : decode cX6_lacks 46 = .ok (.ifCond .eq 7, 3) := by decide +kernel
theorem dX6_lacks_49 : decode cX6_lacks 49 = .ok (.iconst 0, 1) := by decide +kernel
theorem dX6_lacks_50 : decode cX6_lacks 50 = .ok (.goto 8, 3) := by decide +kernel
theorem dX6_lacks_53 : decode cX6_lacks 53 = .ok (.aload_n 0, 1) := by decide +kernel
theorem dX6_lacks_54 : decode cX6_lacks 54 = .ok (.iconst 2, 1) := by decide +kernel
theorem dX6_lacks_55 : decode cX6_lacks 55 = .ok (.invokevirtual 66, 3) := by decide +kernel
theorem dX6_lacks_58 : decode cX6_lacks 58 = .ok (.ireturn, 1) := by decide +kernel
theorem dX6_cut_0 : decode cX6_cut 0 = .ok (.iload_n 0, 1) := by decide +kernel
theorem dX6_cut_1 : decode cX6_cut 1 = .ok (.ifCond .ne 8, 3) := by decide +kernel
theorem dX6_cut_4 : decode cX6_cut 4 = .ok (.iload_n 1, 1) := by decide +kernel
theorem dX6_cut_5 : decode cX6_cut 5 = .ok (.i2b, 1) := by decide +kernel
theorem dX6_cut_6 : decode cX6_cut 6 = .ok (.goto 14, 3) := by decide +kernel
theorem dX6_cut_9 : decode cX6_cut 9 = .ok (.iload_n 0, 1) := by decide +kernel
theorem dX6_cut_10 : decode cX6_cut 10 = .ok (.iconst 1, 1) := by decide +kernel
theorem dX6_cut_11 : decode cX6_cut 11 = .ok (.if_icmp .ne 8, 3) := by decide +kernel
theorem dX6_cut_14 : decode cX6_cut 14 = .ok (.iload_n 1, 1) := by decide +kernel
theorem dX6_cut_15 : decode cX6_cut 15 = .ok (.i2s, 1) := by decide +kernel
theorem dX6_cut_16 : decode cX6_cut 16 = .ok (.goto 4, 3) := by decide +kernel
theorem dX6_cut_19 : decode cX6_cut 19 = .ok (.iload_n 1, 1) := by decide +kernel
theorem dX6_cut_20 : decode cX6_cut 20 = .ok (.ireturn, 1) := by decide +kernel
theorem dX6_lay_0 : decode cX6_lay 0 = .ok (.iload_n 1, 1) := by decide +kernel
theorem dX6_lay_1 : decode cX6_lay 1 = .ok (.invokestatic 60, 3) := by decide +kernel
theorem dX6_lay_4 : decode cX6_lay 4 = .ok (.ifCond .eq 15, 3) := by decide +kernel
theorem dX6_lay_7 : decode cX6_lay 7 = .ok (.iload_n 2, 1) := by decide +kernel
theorem dX6_lay_8 : decode cX6_lay 8 = .ok (.i2l, 1) := by decide +kernel
theorem dX6_lay_9 : decode cX6_lay 9 = .ok (.lconst 0, 1) := by decide +kernel
theorem dX6_lay_10 : decode cX6_lay 10 = .ok (.ldc2_w 64, 3) := by decide +kernel
theorem dX6_lay_13 : decode cX6_lay 13 = .ok (.invokestatic 51, 3) := by decide +kernel
theorem dX6_lay_16 : decode cX6_lay 16 = .ok (.ifCond .ne 6, 3) := by decide +kernel
theorem dX6_lay_19 : decode cX6_lay 19 = .ok (.bipush (-2), 2) := by decide +kernel
theorem dX6_lay_21 : decode cX6_lay 21 = .ok (.ireturn, 1) := by decide +kernel
theorem dX6_lay_22 : decode cX6_lay 22 = .ok (.aload_n 0, 1) := by decide +kernel
theorem dX6_lay_23 : decode cX6_lay 23 = .ok (.iload_n 1, 1) := by decide +kernel
theorem dX6_lay_24 : decode cX6_lay 24 = .ok (.iload_n 2, 1) := by decide +kernel
theorem dX6_lay_25 : decode cX6_lay 25 = .ok (.iload_n 3, 1) := by decide +kernel
theorem dX6_lay_26 : decode cX6_lay 26 = .ok (.invokevirtual 70, 3) := by decide +kernel
theorem dX6_lay_29 : decode cX6_lay 29 = .ok (.istore 5, 2) := by decide +kernel
theorem dX6_lay_31 : decode cX6_lay 31 = .ok (.iload 5, 2) := by decide +kernel
theorem dX6_lay_33 : decode cX6_lay 33 = .ok (.ifCond .eq 6, 3) := by decide +kernel
theorem dX6_lay_36 : decode cX6_lay 36 = .ok (.iload 5, 2) := by decide +kernel
theorem dX6_lay_38 : decode cX6_lay 38 = .ok (.ireturn, 1) := by decide +kernel
theorem dX6_lay_39 : decode cX6_lay 39 = .ok (.aload_n 0, 1) := by decide +kernel
theorem dX6_lay_40 : decode cX6_lay 40 = .ok (.getfield 16, 3) := by decide +kernel
theorem dX6_lay_43 : decode cX6_lay 43 = .ok (.bipush 60, 2) := by decide +kernel
theorem dX6_lay_45 : decode cX6_lay 45 = .ok (.iload_n 1, 1) := by decide +kernel
theorem dX6_lay_46 : decode cX6_lay 46 = .ok (.imul, 1) := by decide +kernel
theorem dX6_lay_47 : decode cX6_lay 47 = .ok (.iload_n 3, 1) := by decide +kernel
theorem dX6_lay_48 : decode cX6_lay 48 = .ok (.iadd, 1) := by decide +kernel
theorem dX6_lay_49 : decode cX6_lay 49 = .ok (.iload_n 2, 1) := by decide +kernel
theorem dX6_lay_50 : decode cX6_lay 50 = .ok (.iload 4, 2) := by decide +kernel
theorem dX6_lay_52 : decode cX6_lay 52 = .ok (.invokestatic 74, 3) := by decide +kernel
theorem dX6_lay_55 : decode cX6_lay 55 = .ok (.iastore, 1) := by decide +kernel
theorem dX6_lay_56 : decode cX6_lay 56 = .ok (.iconst 1, 1) := by decide +kernel
theorem dX6_lay_57 : decode cX6_lay 57 = .ok (.ireturn, 1) := by decide +kernel
theorem dX6_get_0 : decode cX6_get 0 = .ok (.iload_n 1, 1) := by decide +kernel
theorem dX6_get_1 : decode cX6_get 1 = .ok (.invokestatic 60, 3) := by decide +kernel
theorem dX6_get_4 : decode cX6_get 4 = .ok (.ifCond .eq 25, 3) := by decide +kernel
theorem dX6_get_7 : decode cX6_get 7 = .ok (.iload_n 2, 1) := by decide +kernel
theorem dX6_get_8 : decode cX6_get 8 = .ok (.i2l, 1) := by decide +kernel
theorem dX6_get_9 : decode cX6_get 9 = .ok (.lconst 0, 1) := by decide +kernel
theorem dX6_get_10 : decode cX6_get 10 = .ok (.ldc2_w 64, 3) := by decide +kernel
theorem dX6_get_13 : decode cX6_get 13 = .ok (.invokestatic 51, 3) := by decide +kernel
theorem dX6_get_16 : decode cX6_get 16 = .ok (.ifCond .eq 13, 3) := by decide +kernel
theorem dX6_get_19 : decode cX6_get 19 = .ok (.aload_n 0, 1) := by decide +kernel
theorem dX6_get_20 : decode cX6_get 20 = .ok (.iload_n 1, 1) := by decide +kernel
theorem dX6_get_21 : decode cX6_get 21 = .ok (.iload_n 2, 1) := by decide +kernel
theorem dX6_get_22 : decode cX6_get 22 = .ok (.iload_n 3, 1) := by decide +kernel
theorem dX6_get_23 : decode cX6_get 23 = .ok (.invokevirtual 70, 3) := by decide +kernel
theorem dX6_get_26 : decode cX6_get 26 = .ok (.ifCond .eq 6, 3) := by decide +kernel
theorem dX6_get_29 : decode cX6_get 29 = .ok (.ldc 78, 2) := by decide +kernel
theorem dX6_get_31 : decode cX6_get 31 = .ok (.ireturn, 1) := by decide +kernel
theorem dX6_get_32 : decode cX6_get 32 = .ok (.aload_n 0, 1) := by decide +kernel
theorem dX6_get_33 : decode cX6_get 33 = .ok (.getfield 16, 3) := by decide +kernel
theorem dX6_get_36 : decode cX6_get 36 = .ok (.bipush 60, 2) := by decide +kernel
theorem dX6_get_38 : decode cX6_get 38 = .ok (.iload_n 1, 1) := by decide +kernel
theorem dX6_get_39 : decode cX6_get 39 = .ok (.imul, 1) := by decide +kernel
theorem dX6_get_40 : decode cX6_get 40 = .ok (.iload_n 3, 1) := by decide +kernel
theorem dX6_get_41 : decode cX6_get 41 = .ok (.iadd, 1) := by decide +kernel
theorem dX6_get_42 : decode cX6_get 42 = .ok (.iaload, 1) := by decide +kernel
theorem dX6_get_43 : decode cX6_get 43 = .ok (.ireturn, 1) := by decide +kernel
theorem dX6_copy_0 : decode cX6_copy 0 = .ok (.iload_n 1, 1) := by decide +kernel
theorem dX6_copy_1 : decode cX6_copy 1 = .ok (.invokestatic 60, 3) := by decide +kernel
theorem dX6_copy_4 : decode cX6_copy 4 = .ok (.ifCond .eq 10, 3) := by decide +kernel
theorem dX6_copy_7 : decode cX6_copy 7 = .ok (.iload_n 3, 1) := by decide +kernel
theorem dX6_copy_8 : decode cX6_copy 8 = .ok (.invokestatic 60, 3) := by decide +kernel
theorem dX6_copy_11 : decode cX6_copy 11 = .ok (.ifCond .ne 6, 3) := by decide +kernel
theorem dX6_copy_14 : decode cX6_copy 14 = .ok (.bipush (-2), 2) := by decide +kernel
theorem dX6_copy_16 : decode cX6_copy 16 = .ok (.ireturn, 1) := by decide +kernel
theorem dX6_copy_17 : decode cX6_copy 17 = .ok (.aload_n 0, 1) := by decide +kernel
theorem dX6_copy_18 : decode cX6_copy 18 = .ok (.getfield 7, 3) := by decide +kernel
theorem dX6_copy_21 : decode cX6_copy 21 = .ok (.iload_n 1, 1) := by decide +kernel
theorem dX6_copy_22 : decode cX6_copy 22 = .ok (.iaload, 1) := by decide +kernel
theorem dX6_copy_23 : decode cX6_copy 23 = .ok (.ifCond .lt 12, 3) := by decide +kernel
theorem dX6_copy_26 : decode cX6_copy 26 = .ok (.aload_n 0, 1) := by decide +kernel
theorem dX6_copy_27 : decode cX6_copy 27 = .ok (.getfield 7, 3) := by decide +kernel
theorem dX6_copy_30 : decode cX6_copy 30 = .ok (.iload_n 3, 1) := by decide +kernel
theorem dX6_copy_31 : decode cX6_copy 31 = .ok (.iaload, 1) := by decide +kernel
theorem dX6_copy_32 : decode cX6_copy 32 = .ok (.ifCond .ge 9, 3) := by decide +kernel
theorem dX6_copy_35 : decode cX6_copy 35 = .ok (.aload_n 0, 1) := by decide +kernel
theorem dX6_copy_36 : decode cX6_copy 36 = .ok (.iconst 1, 1) := by decide +kernel
theorem dX6_copy_37 : decode cX6_copy 37 = .ok (.invokevirtual 66, 3) := by decide +kernel
theorem dX6_copy_40 : decode cX6_copy 40 = .ok (.ireturn, 1) := by decide +kernel
theorem dX6_copy_41 : decode cX6_copy 41 = .ok (.aload_n 0, 1) := by decide +kernel
theorem dX6_copy_42 : decode cX6_copy 42 = .ok (.getfield 7, 3) := by decide +kernel
theorem dX6_copy_45 : decode cX6_copy 45 = .ok (.iload_n 1, 1) := by decide +kernel
theorem dX6_copy_46 : decode cX6_copy 46 = .ok (.iaload, 1) := by decide +kernel
theorem dX6_copy_47 : decode cX6_copy 47 = .ok (.aload_n 0, 1) := by decide +kernel
theorem dX6_copy_48 : decode cX6_copy 48 = .ok (.getfield 7, 3) := by decide +kernel
theorem dX6_copy_51 : decode cX6_copy 51 = .ok (.iload_n 3, 1) := by decide +kernel
theorem dX6_copy_52 : decode cX6_copy 52 = .ok (.iaload, 1) := by decide +kernel
theorem dX6_copy_53 : decode cX6_copy 53 = .ok (.if_icmp .eq 9, 3) := by decide +kernel
theorem dX6_copy_56 : decode cX6_copy 56 = .ok (.aload_n 0, 1) := by decide +kernel
theorem dX6_copy_57 : decode cX6_copy 57 = .ok (.iconst 4, 1) := by decide +kernel
theorem dX6_copy_58 : decode cX6_copy 58 = .ok (.invokevirtual 66, 3) := by decide +kernel
theorem dX6_copy_61 : decode cX6_copy 61 = .ok (.ireturn, 1) := by decide +kernel
theorem dX6_copy_62 : decode cX6_copy 62 = .ok (.iload_n 2, 1) := by decide +kernel
theorem dX6_copy_63 : decode cX6_copy 63 = .ok (.ifCond .lt 48, 3) := by decide +kernel
theorem dX6_copy_66 : decode cX6_copy 66 = .ok (.iload 4, 2) := by decide +kernel
theorem dX6_copy_68 : decode cX6_copy 68 = .ok (.ifCond .lt 43, 3) := by decide +kernel
theorem dX6_copy_71 : decode cX6_copy 71 = .ok (.iload 5, 2) := by decide +kernel
theorem dX6_copy_73 : decode cX6_copy 73 = .ok (.ifCond .lt 38, 3) := by decide +kernel
theorem dX6_copy_76 : decode cX6_copy 76 = .ok (.iload_n 2, 1) := by decide +kernel
theorem dX6_copy_77 : decode cX6_copy 77 = .ok (.i2l, 1) := by decide +kernel
theorem dX6_copy_78 : decode cX6_copy 78 = .ok (.iload 5, 2) := by decide +kernel
theorem dX6_copy_80 : decode cX6_copy 80 = .ok (.i2l, 1) := by decide +kernel
theorem dX6_copy_81 : decode cX6_copy 81 = .ok (.ladd, 1) := by decide +kernel
theorem dX6_copy_82 : decode cX6_copy 82 = .ok (.aload_n 0, 1) := by decide +kernel
theorem dX6_copy_83 : decode cX6_copy 83 = .ok (.getfield 13, 3) := by decide +kernel
theorem dX6_copy_86 : decode cX6_copy 86 = .ok (.iload_n 1, 1) := by decide +kernel
theorem dX6_copy_87 : decode cX6_copy 87 = .ok (.iaload, 1) := by decide +kernel
theorem dX6_copy_88 : decode cX6_copy 88 = .ok (.i2l, 1) := by decide +kernel
theorem dX6_copy_89 : decode cX6_copy 89 = .ok (.lcmp, 1) := by decide +kernel
theorem dX6_copy_90 : decode cX6_copy 90 = .ok (.ifCond .gt 21, 3) := by decide +kernel
theorem dX6_copy_93 : decode cX6_copy 93 = .ok (.iload 4, 2) := by decide +kernel
theorem dX6_copy_95 : decode cX6_copy 95 = .ok (.i2l, 1) := by decide +kernel
theorem dX6_copy_96 : decode cX6_copy 96 = .ok (.iload 5, 2) := by decide +kernel
theorem dX6_copy_98 : decode cX6_copy 98 = .ok (.i2l, 1) := by decide +kernel
theorem dX6_copy_99 : decode cX6_copy 99 = .ok (.ladd, 1) := by decide +kernel
theorem dX6_copy_100 : decode cX6_copy 100 = .ok (.aload_n 0, 1) := by decide +kernel
theorem dX6_copy_101 : decode cX6_copy 101 = .ok (.getfield 13, 3) := by decide +kernel
theorem dX6_copy_104 : decode cX6_copy 104 = .ok (.iload_n 3, 1) := by decide +kernel
theorem dX6_copy_105 : decode cX6_copy 105 = .ok (.iaload, 1) := by decide +kernel
theorem dX6_copy_106 : decode cX6_copy 106 = .ok (.i2l, 1) := by decide +kernel
theorem dX6_copy_107 : decode cX6_copy 107 = .ok (.lcmp, 1) := by decide +kernel
theorem dX6_copy_108 : decode cX6_copy 108 = .ok (.ifCond .le 9, 3) := by decide +kernel
theorem dX6_copy_111 : decode cX6_copy 111 = .ok (.aload_n 0, 1) := by decide +kernel
theorem dX6_copy_112 : decode cX6_copy 112 = .ok (.iconst 2, 1) := by decide +kernel
theorem dX6_copy_113 : decode cX6_copy 113 = .ok (.invokevirtual 66, 3) := by decide +kernel
theorem dX6_copy_116 : decode cX6_copy 116 = .ok (.ireturn, 1) := by decide +kernel
theorem dX6_copy_117 : decode cX6_copy 117 = .ok (.iconst 0, 1) := by decide +kernel
theorem dX6_copy_118 : decode cX6_copy 118 = .ok (.istore 6, 2) := by decide +kernel
theorem dX6_copy_120 : decode cX6_copy 120 = .ok (.iload 6, 2) := by decide +kernel
theorem dX6_copy_122 : decode cX6_copy 122 = .ok (.iload 5, 2) := by decide +kernel
theorem dX6_copy_124 : decode cX6_copy 124 = .ok (.if_icmp .ge 30, 3) := by decide +kernel
theorem dX6_copy_127 : decode cX6_copy 127 = .ok (.aload_n 0, 1) := by decide +kernel
theorem dX6_copy_128 : decode cX6_copy 128 = .ok (.getfield 19, 3) := by decide +kernel
theorem dX6_copy_131 : decode cX6_copy 131 = .ok (.iload 6, 2) := by decide +kernel
theorem dX6_copy_133 : decode cX6_copy 133 = .ok (.aload_n 0, 1) := by decide +kernel
theorem dX6_copy_134 : decode cX6_copy 134 = .ok (.getfield 16, 3) := by decide +kernel
theorem dX6_copy_137 : decode cX6_copy 137 = .ok (.bipush 60, 2) := by decide +kernel
theorem dX6_copy_139 : decode cX6_copy 139 = .ok (.iload_n 1, 1) := by decide +kernel
theorem dX6_copy_140 : decode cX6_copy 140 = .ok (.imul, 1) := by decide +kernel
theorem dX6_copy_141 : decode cX6_copy 141 = .ok (.iload_n 2, 1) := by decide +kernel
theorem dX6_copy_142 : decode cX6_copy 142 = .ok (.iadd, 1) := by decide +kernel
theorem dX6_copy_143 : decode cX6_copy 143 = .ok (.iload 6, 2) := by decide +kernel
theorem dX6_copy_145 : decode cX6_copy 145 = .ok (.iadd, 1) := by decide +kernel
theorem dX6_copy_146 : decode cX6_copy 146 = .ok (.iaload, 1) := by decide +kernel
theorem dX6_copy_147 : decode cX6_copy 147 = .ok (.iastore, 1) := by decide +kernel
theorem dX6_copy_148 : decode cX6_copy 148 = .ok (.iinc 6 1, 3) := by decide +kernel
theorem dX6_copy_151 : decode cX6_copy 151 = .ok (.goto (-31), 3) := by decide +kernel
theorem dX6_copy_154 : decode cX6_copy 154 = .ok (.iconst 0, 1) := by decide +kernel
theorem dX6_copy_155 : decode cX6_copy 155 = .ok (.istore 6, 2) := by decide +kernel
theorem dX6_copy_157 : decode cX6_copy 157 = .ok (.iload 6, 2) := by decide +kernel
theorem dX6_copy_159 : decode cX6_copy 159 = .ok (.iload 5, 2) := by decide +kernel
theorem dX6_copy_161 : decode cX6_copy 161 = .ok (.if_icmp .ge 31, 3) := by decide +kernel
theorem dX6_copy_164 : decode cX6_copy 164 = .ok (.aload_n 0, 1) := by decide +kernel
theorem dX6_copy_165 : decode cX6_copy 165 = .ok (.getfield 16, 3) := by decide +kernel
theorem dX6_copy_168 : decode cX6_copy 168 = .ok (.bipush 60, 2) := by decide +kernel
theorem dX6_copy_170 : decode cX6_copy 170 = .ok (.iload_n 3, 1) := by decide +kernel
theorem dX6_copy_171 : decode cX6_copy 171 = .ok (.imul, 1) := by decide +kernel
theorem dX6_copy_172 : decode cX6_copy 172 = .ok (.iload 4, 2) := by decide +kernel
theorem dX6_copy_174 : decode cX6_copy 174 = .ok (.iadd, 1) := by decide +kernel
theorem dX6_copy_175 : decode cX6_copy 175 = .ok (.iload 6, 2) := by decide +kernel
theorem dX6_copy_177 : decode cX6_copy 177 = .ok (.iadd, 1) := by decide +kernel
theorem dX6_copy_178 : decode cX6_copy 178 = .ok (.aload_n 0, 1) := by decide +kernel
theorem dX6_copy_179 : decode cX6_copy 179 = .ok (.getfield 19, 3) := by decide +kernel
theorem dX6_copy_182 : decode cX6_copy 182 = .ok (.iload 6, 2) := by decide +kernel
theorem dX6_copy_184 : decode cX6_copy 184 = .ok (.iaload, 1) := by decide +kernel
theorem dX6_copy_185 : decode cX6_copy 185 = .ok (.iastore, 1) := by decide +kernel
theorem dX6_copy_186 : decode cX6_copy 186 = .ok (.iinc 6 1, 3) := by decide +kernel
theorem dX6_copy_189 : decode cX6_copy 189 = .ok (.goto (-32), 3) := by decide +kernel
theorem dX6_copy_192 : decode cX6_copy 192 = .ok (.iconst 1, 1) := by decide +kernel
theorem dX6_copy_193 : decode cX6_copy 193 = .ok (.ireturn, 1) := by decide +kernel
theorem dX6_isValue_0 : decode cX6_isValue 0 = .ok (.iload_n 1, 1) := by decide +kernel
theorem dX6_isValue_1 : decode cX6_isValue 1 = .ok (.i2l, 1) := by decide +kernel
theorem dX6_isValue_2 : decode cX6_isValue 2 = .ok (.lconst 0, 1) := by decide +kernel
theorem dX6_isValue_3 : decode cX6_isValue 3 = .ok (.iload_n 0, 1) := by decide +kernel
theorem dX6_isValue_4 : decode cX6_isValue 4 = .ok (.iconst 4, 1) := by decide +kernel
theorem dX6_isValue_5 : decode cX6_isValue 5 = .ok (.if_icmp .ne 9, 3) := by decide +kernel
theorem dX6_isValue_8 : decode cX6_isValue 8 = .ok (.ldc2_w 64, 3) := by decide +kernel
theorem dX6_isValue_11 : decode cX6_isValue 11 = .ok (.goto 6, 3) := by decide +kernel
theorem dX6_isValue_14 : decode cX6_isValue 14 = .ok (.ldc2_w 79, 3) := by decide +kernel
theorem dX6_isValue_17 : decode cX6_isValue 17 = .ok (.invokestatic 51, 3) := by decide +kernel
theorem dX6_isValue_20 : decode cX6_isValue 20 = .ok (.ireturn, 1) := by decide +kernel
theorem dX6_put_0 : decode cX6_put 0 = .ok (.iload_n 1, 1) := by decide +kernel
theorem dX6_put_1 : decode cX6_put 1 = .ok (.i2l, 1) := by decide +kernel
theorem dX6_put_2 : decode cX6_put 2 = .ok (.lconst 0, 1) := by decide +kernel
theorem dX6_put_3 : decode cX6_put 3 = .ok (.ldc2_w 81, 3) := by decide +kernel
theorem dX6_put_6 : decode cX6_put 6 = .ok (.invokestatic 51, 3) := by decide +kernel
theorem dX6_put_9 : decode cX6_put 9 = .ok (.ifCond .eq 23, 3) := by decide +kernel
theorem dX6_put_12 : decode cX6_put 12 = .ok (.iload_n 2, 1) := by decide +kernel
theorem dX6_put_13 : decode cX6_put 13 = .ok (.i2l, 1) := by decide +kernel
theorem dX6_put_14 : decode cX6_put 14 = .ok (.lconst 0, 1) := by decide +kernel
theorem dX6_put_15 : decode cX6_put 15 = .ok (.ldc2_w 83, 3) := by decide +kernel
theorem dX6_put_18 : decode cX6_put 18 = .ok (.invokestatic 51, 3) := by decide +kernel
theorem dX6_put_21 : decode cX6_put 21 = .ok (.ifCond .eq 11, 3) := by decide +kernel
theorem dX6_put_24 : decode cX6_put 24 = .ok (.iload_n 2, 1) := by decide +kernel
end
section
theorem dX6_put_25 : decode cX6_put 25 = .ok (.iload_n 3, 1) := by decide +kernel
theorem dX6_put_26 : decode cX6_put 26 = .ok (.invokestatic 85, 3) := by decide +kernel
theorem dX6_put_29 : decode cX6_put 29 = .ok (.ifCond .ne 6, 3) := by decide +kernel
theorem dX6_put_32 : decode cX6_put 32 = .ok (.bipush (-2), 2) := by decide +kernel
theorem dX6_put_34 : decode cX6_put 34 = .ok (.ireturn, 1) := by decide +kernel
theorem dX6_put_35 : decode cX6_put 35 = .ok (.aload_n 0, 1) := by decide +kernel
theorem dX6_put_36 : decode cX6_put 36 = .ok (.getfield 89, 3) := by decide +kernel
theorem dX6_put_39 : decode cX6_put 39 = .ok (.bipush 40, 2) := by decide +kernel
theorem dX6_put_41 : decode cX6_put 41 = .ok (.if_icmp .ne 6, 3) := by decide +kernel
theorem dX6_put_44 : decode cX6_put 44 = .ok (.bipush (-4), 2) := by decide +kernel
theorem dX6_put_46 : decode cX6_put 46 = .ok (.ireturn, 1) := by decide +kernel
theorem dX6_put_47 : decode cX6_put 47 = .ok (.aload_n 0, 1) := by decide +kernel
theorem dX6_put_48 : decode cX6_put 48 = .ok (.getfield 22, 3) := by decide +kernel
theorem dX6_put_51 : decode cX6_put 51 = .ok (.aload_n 0, 1) := by decide +kernel
theorem dX6_put_52 : decode cX6_put 52 = .ok (.getfield 89, 3) := by decide +kernel
theorem dX6_put_55 : decode cX6_put 55 = .ok (.iload_n 1, 1) := by decide +kernel
theorem dX6_put_56 : decode cX6_put 56 = .ok (.iastore, 1) := by decide +kernel
theorem dX6_put_57 : decode cX6_put 57 = .ok (.aload_n 0, 1) := by decide +kernel
theorem dX6_put_58 : decode cX6_put 58 = .ok (.getfield 25, 3) := by decide +kernel
theorem dX6_put_61 : decode cX6_put 61 = .ok (.aload_n 0, 1) := by decide +kernel
theorem dX6_put_62 : decode cX6_put 62 = .ok (.getfield 89, 3) := by decide +kernel
theorem dX6_put_65 : decode cX6_put 65 = .ok (.iload_n 2, 1) := by decide +kernel
theorem dX6_put_66 : decode cX6_put 66 = .ok (.iastore, 1) := by decide +kernel
theorem dX6_put_67 : decode cX6_put 67 = .ok (.aload_n 0, 1) := by decide +kernel
theorem dX6_put_68 : decode cX6_put 68 = .ok (.getfield 28, 3) := by decide +kernel
theorem dX6_put_71 : decode cX6_put 71 = .ok (.aload_n 0, 1) := by decide +kernel
theorem dX6_put_72 : decode cX6_put 72 = .ok (.getfield 89, 3) := by decide +kernel
theorem dX6_put_75 : decode cX6_put 75 = .ok (.iload_n 3, 1) := by decide +kernel
theorem dX6_put_76 : decode cX6_put 76 = .ok (.iastore, 1) := by decide +kernel
theorem dX6_put_77 : decode cX6_put 77 = .ok (.aload_n 0, 1) := by decide +kernel
theorem dX6_put_78 : decode cX6_put 78 = .ok (.getfield 31, 3) := by decide +kernel
theorem dX6_put_81 : decode cX6_put 81 = .ok (.aload_n 0, 1) := by decide +kernel
theorem dX6_put_82 : decode cX6_put 82 = .ok (.getfield 89, 3) := by decide +kernel
theorem dX6_put_85 : decode cX6_put 85 = .ok (.aload_n 0, 1) := by decide +kernel
theorem dX6_put_86 : decode cX6_put 86 = .ok (.getfield 92, 3) := by decide +kernel
theorem dX6_put_89 : decode cX6_put 89 = .ok (.iastore, 1) := by decide +kernel
theorem dX6_put_90 : decode cX6_put 90 = .ok (.aload_n 0, 1) := by decide +kernel
theorem dX6_put_91 : decode cX6_put 91 = .ok (.getfield 34, 3) := by decide +kernel
theorem dX6_put_94 : decode cX6_put 94 = .ok (.aload_n 0, 1) := by decide +kernel
theorem dX6_put_95 : decode cX6_put 95 = .ok (.getfield 89, 3) := by decide +kernel
theorem dX6_put_98 : decode cX6_put 98 = .ok (.iconst 0, 1) := by decide +kernel
theorem dX6_put_99 : decode cX6_put 99 = .ok (.bastore, 1) := by decide +kernel
theorem dX6_put_100 : decode cX6_put 100 = .ok (.aload_n 0, 1) := by decide +kernel
theorem dX6_put_101 : decode cX6_put 101 = .ok (.dup, 1) := by decide +kernel
theorem dX6_put_102 : decode cX6_put 102 = .ok (.getfield 89, 3) := by decide +kernel
theorem dX6_put_105 : decode cX6_put 105 = .ok (.iconst 1, 1) := by decide +kernel
theorem dX6_put_106 : decode cX6_put 106 = .ok (.iadd, 1) := by decide +kernel
theorem dX6_put_107 : decode cX6_put 107 = .ok (.putfield 89, 3) := by decide +kernel
theorem dX6_put_110 : decode cX6_put 110 = .ok (.aload_n 0, 1) := by decide +kernel
theorem dX6_put_111 : decode cX6_put 111 = .ok (.getfield 89, 3) := by decide +kernel
theorem dX6_put_114 : decode cX6_put 114 = .ok (.ireturn, 1) := by decide +kernel
theorem dX6_manyOf_0 : decode cX6_manyOf 0 = .ok (.iconst 0, 1) := by decide +kernel
theorem dX6_manyOf_1 : decode cX6_manyOf 1 = .ok (.istore_n 2, 1) := by decide +kernel
theorem dX6_manyOf_2 : decode cX6_manyOf 2 = .ok (.iconst 0, 1) := by decide +kernel
theorem dX6_manyOf_3 : decode cX6_manyOf 3 = .ok (.istore_n 3, 1) := by decide +kernel
theorem dX6_manyOf_4 : decode cX6_manyOf 4 = .ok (.iload_n 3, 1) := by decide +kernel
theorem dX6_manyOf_5 : decode cX6_manyOf 5 = .ok (.aload_n 0, 1) := by decide +kernel
theorem dX6_manyOf_6 : decode cX6_manyOf 6 = .ok (.getfield 89, 3) := by decide +kernel
theorem dX6_manyOf_9 : decode cX6_manyOf 9 = .ok (.if_icmp .ge 27, 3) := by decide +kernel
theorem dX6_manyOf_12 : decode cX6_manyOf 12 = .ok (.iload_n 2, 1) := by decide +kernel
theorem dX6_manyOf_13 : decode cX6_manyOf 13 = .ok (.aload_n 0, 1) := by decide +kernel
theorem dX6_manyOf_14 : decode cX6_manyOf 14 = .ok (.getfield 31, 3) := by decide +kernel
theorem dX6_manyOf_17 : decode cX6_manyOf 17 = .ok (.iload_n 3, 1) := by decide +kernel
theorem dX6_manyOf_18 : decode cX6_manyOf 18 = .ok (.iaload, 1) := by decide +kernel
theorem dX6_manyOf_19 : decode cX6_manyOf 19 = .ok (.iload_n 1, 1) := by decide +kernel
theorem dX6_manyOf_20 : decode cX6_manyOf 20 = .ok (.if_icmp .ne 7, 3) := by decide +kernel
theorem dX6_manyOf_23 : decode cX6_manyOf 23 = .ok (.iconst 1, 1) := by decide +kernel
theorem dX6_manyOf_24 : decode cX6_manyOf 24 = .ok (.goto 4, 3) := by decide +kernel
theorem dX6_manyOf_27 : decode cX6_manyOf 27 = .ok (.iconst 0, 1) := by decide +kernel
theorem dX6_manyOf_28 : decode cX6_manyOf 28 = .ok (.iadd, 1) := by decide +kernel
theorem dX6_manyOf_29 : decode cX6_manyOf 29 = .ok (.istore_n 2, 1) := by decide +kernel
theorem dX6_manyOf_30 : decode cX6_manyOf 30 = .ok (.iinc 3 1, 3) := by decide +kernel
theorem dX6_manyOf_33 : decode cX6_manyOf 33 = .ok (.goto (-29), 3) := by decide +kernel
theorem dX6_manyOf_36 : decode cX6_manyOf 36 = .ok (.iload_n 2, 1) := by decide +kernel
theorem dX6_manyOf_37 : decode cX6_manyOf 37 = .ok (.ireturn, 1) := by decide +kernel
theorem dX6_close_0 : decode cX6_close 0 = .ok (.aload_n 0, 1) := by decide +kernel
theorem dX6_close_1 : decode cX6_close 1 = .ok (.aload_n 0, 1) := by decide +kernel
theorem dX6_close_2 : decode cX6_close 2 = .ok (.getfield 92, 3) := by decide +kernel
theorem dX6_close_5 : decode cX6_close 5 = .ok (.invokevirtual 95, 3) := by decide +kernel
theorem dX6_close_8 : decode cX6_close 8 = .ok (.ifCond .ne 6, 3) := by decide +kernel
theorem dX6_close_11 : decode cX6_close 11 = .ok (.bipush (-3), 2) := by decide +kernel
theorem dX6_close_13 : decode cX6_close 13 = .ok (.ireturn, 1) := by decide +kernel
theorem dX6_close_14 : decode cX6_close 14 = .ok (.aload_n 0, 1) := by decide +kernel
theorem dX6_close_15 : decode cX6_close 15 = .ok (.getfield 92, 3) := by decide +kernel
theorem dX6_close_18 : decode cX6_close 18 = .ok (.bipush 7, 2) := by decide +kernel
theorem dX6_close_20 : decode cX6_close 20 = .ok (.if_icmp .ne 6, 3) := by decide +kernel
theorem dX6_close_23 : decode cX6_close 23 = .ok (.bipush (-4), 2) := by decide +kernel
theorem dX6_close_25 : decode cX6_close 25 = .ok (.ireturn, 1) := by decide +kernel
theorem dX6_close_26 : decode cX6_close 26 = .ok (.aload_n 0, 1) := by decide +kernel
theorem dX6_close_27 : decode cX6_close 27 = .ok (.dup, 1) := by decide +kernel
theorem dX6_close_28 : decode cX6_close 28 = .ok (.getfield 92, 3) := by decide +kernel
theorem dX6_close_31 : decode cX6_close 31 = .ok (.iconst 1, 1) := by decide +kernel
theorem dX6_close_32 : decode cX6_close 32 = .ok (.iadd, 1) := by decide +kernel
theorem dX6_close_33 : decode cX6_close 33 = .ok (.putfield 92, 3) := by decide +kernel
theorem dX6_close_36 : decode cX6_close 36 = .ok (.iconst 0, 1) := by decide +kernel
theorem dX6_close_37 : decode cX6_close 37 = .ok (.istore_n 1, 1) := by decide +kernel
theorem dX6_close_38 : decode cX6_close 38 = .ok (.iload_n 1, 1) := by decide +kernel
theorem dX6_close_39 : decode cX6_close 39 = .ok (.aload_n 0, 1) := by decide +kernel
theorem dX6_close_40 : decode cX6_close 40 = .ok (.getfield 89, 3) := by decide +kernel
theorem dX6_close_43 : decode cX6_close 43 = .ok (.if_icmp .ge 54, 3) := by decide +kernel
theorem dX6_close_46 : decode cX6_close 46 = .ok (.aload_n 0, 1) := by decide +kernel
theorem dX6_close_47 : decode cX6_close 47 = .ok (.getfield 41, 3) := by decide +kernel
theorem dX6_close_50 : decode cX6_close 50 = .ok (.iload_n 1, 1) := by decide +kernel
theorem dX6_close_51 : decode cX6_close 51 = .ok (.aload_n 0, 1) := by decide +kernel
theorem dX6_close_52 : decode cX6_close 52 = .ok (.getfield 31, 3) := by decide +kernel
theorem dX6_close_55 : decode cX6_close 55 = .ok (.iload_n 1, 1) := by decide +kernel
theorem dX6_close_56 : decode cX6_close 56 = .ok (.iaload, 1) := by decide +kernel
theorem dX6_close_57 : decode cX6_close 57 = .ok (.aload_n 0, 1) := by decide +kernel
theorem dX6_close_58 : decode cX6_close 58 = .ok (.getfield 92, 3) := by decide +kernel
theorem dX6_close_61 : decode cX6_close 61 = .ok (.iconst 1, 1) := by decide +kernel
theorem dX6_close_62 : decode cX6_close 62 = .ok (.isub, 1) := by decide +kernel
theorem dX6_close_63 : decode cX6_close 63 = .ok (.if_icmp .ne 21, 3) := by decide +kernel
theorem dX6_close_66 : decode cX6_close 66 = .ok (.aload_n 0, 1) := by decide +kernel
theorem dX6_close_67 : decode cX6_close 67 = .ok (.getfield 25, 3) := by decide +kernel
theorem dX6_close_70 : decode cX6_close 70 = .ok (.iload_n 1, 1) := by decide +kernel
theorem dX6_close_71 : decode cX6_close 71 = .ok (.iaload, 1) := by decide +kernel
theorem dX6_close_72 : decode cX6_close 72 = .ok (.iconst 4, 1) := by decide +kernel
theorem dX6_close_73 : decode cX6_close 73 = .ok (.if_icmp .ne 11, 3) := by decide +kernel
theorem dX6_close_76 : decode cX6_close 76 = .ok (.aload_n 0, 1) := by decide +kernel
theorem dX6_close_77 : decode cX6_close 77 = .ok (.iload_n 1, 1) := by decide +kernel
theorem dX6_close_78 : decode cX6_close 78 = .ok (.invokevirtual 98, 3) := by decide +kernel
theorem dX6_close_81 : decode cX6_close 81 = .ok (.goto 9, 3) := by decide +kernel
theorem dX6_close_84 : decode cX6_close 84 = .ok (.aload_n 0, 1) := by decide +kernel
theorem dX6_close_85 : decode cX6_close 85 = .ok (.getfield 41, 3) := by decide +kernel
theorem dX6_close_88 : decode cX6_close 88 = .ok (.iload_n 1, 1) := by decide +kernel
theorem dX6_close_89 : decode cX6_close 89 = .ok (.iaload, 1) := by decide +kernel
theorem dX6_close_90 : decode cX6_close 90 = .ok (.iastore, 1) := by decide +kernel
theorem dX6_close_91 : decode cX6_close 91 = .ok (.iinc 1 1, 3) := by decide +kernel
theorem dX6_close_94 : decode cX6_close 94 = .ok (.goto (-56), 3) := by decide +kernel
theorem dX6_close_97 : decode cX6_close 97 = .ok (.aload_n 0, 1) := by decide +kernel
theorem dX6_close_98 : decode cX6_close 98 = .ok (.getfield 92, 3) := by decide +kernel
theorem dX6_close_101 : decode cX6_close 101 = .ok (.ireturn, 1) := by decide +kernel
theorem dX6_undo_0 : decode cX6_undo 0 = .ok (.aload_n 0, 1) := by decide +kernel
theorem dX6_undo_1 : decode cX6_undo 1 = .ok (.aload_n 0, 1) := by decide +kernel
theorem dX6_undo_2 : decode cX6_undo 2 = .ok (.getfield 92, 3) := by decide +kernel
theorem dX6_undo_5 : decode cX6_undo 5 = .ok (.invokevirtual 95, 3) := by decide +kernel
theorem dX6_undo_8 : decode cX6_undo 8 = .ok (.ifCond .ne 6, 3) := by decide +kernel
theorem dX6_undo_11 : decode cX6_undo 11 = .ok (.bipush (-3), 2) := by decide +kernel
theorem dX6_undo_13 : decode cX6_undo 13 = .ok (.ireturn, 1) := by decide +kernel
theorem dX6_undo_14 : decode cX6_undo 14 = .ok (.aload_n 0, 1) := by decide +kernel
theorem dX6_undo_15 : decode cX6_undo 15 = .ok (.dup, 1) := by decide +kernel
theorem dX6_undo_16 : decode cX6_undo 16 = .ok (.getfield 89, 3) := by decide +kernel
theorem dX6_undo_19 : decode cX6_undo 19 = .ok (.iconst 1, 1) := by decide +kernel
theorem dX6_undo_20 : decode cX6_undo 20 = .ok (.isub, 1) := by decide +kernel
theorem dX6_undo_21 : decode cX6_undo 21 = .ok (.putfield 89, 3) := by decide +kernel
theorem dX6_undo_24 : decode cX6_undo 24 = .ok (.aload_n 0, 1) := by decide +kernel
theorem dX6_undo_25 : decode cX6_undo 25 = .ok (.getfield 89, 3) := by decide +kernel
theorem dX6_undo_28 : decode cX6_undo 28 = .ok (.ireturn, 1) := by decide +kernel
theorem dX6_isWrite_0 : decode cX6_isWrite 0 = .ok (.iload_n 1, 1) := by decide +kernel
theorem dX6_isWrite_1 : decode cX6_isWrite 1 = .ok (.i2l, 1) := by decide +kernel
theorem dX6_isWrite_2 : decode cX6_isWrite 2 = .ok (.lconst 0, 1) := by decide +kernel
theorem dX6_isWrite_3 : decode cX6_isWrite 3 = .ok (.aload_n 0, 1) := by decide +kernel
theorem dX6_isWrite_4 : decode cX6_isWrite 4 = .ok (.getfield 89, 3) := by decide +kernel
theorem dX6_isWrite_7 : decode cX6_isWrite 7 = .ok (.iconst 1, 1) := by decide +kernel
theorem dX6_isWrite_8 : decode cX6_isWrite 8 = .ok (.isub, 1) := by decide +kernel
theorem dX6_isWrite_9 : decode cX6_isWrite 9 = .ok (.i2l, 1) := by decide +kernel
theorem dX6_isWrite_10 : decode cX6_isWrite 10 = .ok (.invokestatic 51, 3) := by decide +kernel
theorem dX6_isWrite_13 : decode cX6_isWrite 13 = .ok (.ireturn, 1) := by decide +kernel
theorem dX6_isSeal_0 : decode cX6_isSeal 0 = .ok (.aload_n 0, 1) := by decide +kernel
theorem dX6_isSeal_1 : decode cX6_isSeal 1 = .ok (.getfield 25, 3) := by decide +kernel
theorem dX6_isSeal_4 : decode cX6_isSeal 4 = .ok (.iload_n 1, 1) := by decide +kernel
theorem dX6_isSeal_5 : decode cX6_isSeal 5 = .ok (.iaload, 1) := by decide +kernel
theorem dX6_isSeal_6 : decode cX6_isSeal 6 = .ok (.iconst 4, 1) := by decide +kernel
theorem dX6_isSeal_7 : decode cX6_isSeal 7 = .ok (.if_icmp .ne 7, 3) := by decide +kernel
theorem dX6_isSeal_10 : decode cX6_isSeal 10 = .ok (.iconst 1, 1) := by decide +kernel
theorem dX6_isSeal_11 : decode cX6_isSeal 11 = .ok (.goto 4, 3) := by decide +kernel
theorem dX6_isSeal_14 : decode cX6_isSeal 14 = .ok (.iconst 0, 1) := by decide +kernel
theorem dX6_isSeal_15 : decode cX6_isSeal 15 = .ok (.ireturn, 1) := by decide +kernel
theorem dX6_isClosed_0 : decode cX6_isClosed 0 = .ok (.aload_n 0, 1) := by decide +kernel
theorem dX6_isClosed_1 : decode cX6_isClosed 1 = .ok (.iload_n 1, 1) := by decide +kernel
theorem dX6_isClosed_2 : decode cX6_isClosed 2 = .ok (.invokevirtual 101, 3) := by decide +kernel
theorem dX6_isClosed_5 : decode cX6_isClosed 5 = .ok (.ifCond .eq 20, 3) := by decide +kernel
theorem dX6_isClosed_8 : decode cX6_isClosed 8 = .ok (.aload_n 0, 1) := by decide +kernel
theorem dX6_isClosed_9 : decode cX6_isClosed 9 = .ok (.getfield 31, 3) := by decide +kernel
theorem dX6_isClosed_12 : decode cX6_isClosed 12 = .ok (.iload_n 1, 1) := by decide +kernel
theorem dX6_isClosed_13 : decode cX6_isClosed 13 = .ok (.iaload, 1) := by decide +kernel
theorem dX6_isClosed_14 : decode cX6_isClosed 14 = .ok (.aload_n 0, 1) := by decide +kernel
theorem dX6_isClosed_15 : decode cX6_isClosed 15 = .ok (.getfield 92, 3) := by decide +kernel
theorem dX6_isClosed_18 : decode cX6_isClosed 18 = .ok (.if_icmp .ge 7, 3) := by decide +kernel
theorem dX6_isClosed_21 : decode cX6_isClosed 21 = .ok (.iconst 1, 1) := by decide +kernel
theorem dX6_isClosed_22 : decode cX6_isClosed 22 = .ok (.goto 4, 3) := by decide +kernel
theorem dX6_isClosed_25 : decode cX6_isClosed 25 = .ok (.iconst 0, 1) := by decide +kernel
theorem dX6_isClosed_26 : decode cX6_isClosed 26 = .ok (.ireturn, 1) := by decide +kernel
theorem dX6_isCover_0 : decode cX6_isCover 0 = .ok (.iload_n 0, 1) := by decide +kernel
theorem dX6_isCover_1 : decode cX6_isCover 1 = .ok (.i2l, 1) := by decide +kernel
theorem dX6_isCover_2 : decode cX6_isCover 2 = .ok (.lconst 0, 1) := by decide +kernel
theorem dX6_isCover_3 : decode cX6_isCover 3 = .ok (.iload_n 1, 1) := by decide +kernel
theorem dX6_isCover_4 : decode cX6_isCover 4 = .ok (.i2l, 1) := by decide +kernel
theorem dX6_isCover_5 : decode cX6_isCover 5 = .ok (.invokestatic 51, 3) := by decide +kernel
theorem dX6_isCover_8 : decode cX6_isCover 8 = .ok (.ifCond .eq 44, 3) := by decide +kernel
theorem dX6_isCover_11 : decode cX6_isCover 11 = .ok (.iload_n 1, 1) := by decide +kernel
theorem dX6_isCover_12 : decode cX6_isCover 12 = .ok (.i2l, 1) := by decide +kernel
theorem dX6_isCover_13 : decode cX6_isCover 13 = .ok (.iload_n 0, 1) := by decide +kernel
theorem dX6_isCover_14 : decode cX6_isCover 14 = .ok (.i2l, 1) := by decide +kernel
theorem dX6_isCover_15 : decode cX6_isCover 15 = .ok (.iload_n 2, 1) := by decide +kernel
theorem dX6_isCover_16 : decode cX6_isCover 16 = .ok (.i2l, 1) := by decide +kernel
theorem dX6_isCover_17 : decode cX6_isCover 17 = .ok (.invokestatic 51, 3) := by decide +kernel
theorem dX6_isCover_20 : decode cX6_isCover 20 = .ok (.ifCond .eq 32, 3) := by decide +kernel
theorem dX6_isCover_23 : decode cX6_isCover 23 = .ok (.iload_n 2, 1) := by decide +kernel
theorem dX6_isCover_24 : decode cX6_isCover 24 = .ok (.i2l, 1) := by decide +kernel
theorem dX6_isCover_25 : decode cX6_isCover 25 = .ok (.iload_n 1, 1) := by decide +kernel
theorem dX6_isCover_26 : decode cX6_isCover 26 = .ok (.i2l, 1) := by decide +kernel
theorem dX6_isCover_27 : decode cX6_isCover 27 = .ok (.iload_n 3, 1) := by decide +kernel
theorem dX6_isCover_28 : decode cX6_isCover 28 = .ok (.i2l, 1) := by decide +kernel
theorem dX6_isCover_29 : decode cX6_isCover 29 = .ok (.invokestatic 51, 3) := by decide +kernel
theorem dX6_isCover_32 : decode cX6_isCover 32 = .ok (.ifCond .eq 20, 3) := by decide +kernel
theorem dX6_isCover_35 : decode cX6_isCover 35 = .ok (.iload_n 3, 1) := by decide +kernel
theorem dX6_isCover_36 : decode cX6_isCover 36 = .ok (.i2l, 1) := by decide +kernel
theorem dX6_isCover_37 : decode cX6_isCover 37 = .ok (.iload_n 2, 1) := by decide +kernel
theorem dX6_isCover_38 : decode cX6_isCover 38 = .ok (.i2l, 1) := by decide +kernel
theorem dX6_isCover_39 : decode cX6_isCover 39 = .ok (.ldc2_w 104, 3) := by decide +kernel
theorem dX6_isCover_42 : decode cX6_isCover 42 = .ok (.invokestatic 51, 3) := by decide +kernel
theorem dX6_isCover_45 : decode cX6_isCover 45 = .ok (.ifCond .eq 7, 3) := by decide +kernel
theorem dX6_isCover_48 : decode cX6_isCover 48 = .ok (.iconst 1, 1) := by decide +kernel
theorem dX6_isCover_49 : decode cX6_isCover 49 = .ok (.goto 4, 3) := by decide +kernel
theorem dX6_isCover_52 : decode cX6_isCover 52 = .ok (.iconst 0, 1) := by decide +kernel
theorem dX6_isCover_53 : decode cX6_isCover 53 = .ok (.ireturn, 1) := by decide +kernel
theorem dX6_cover_0 : decode cX6_cover 0 = .ok (.aload_n 0, 1) := by decide +kernel
theorem dX6_cover_1 : decode cX6_cover 1 = .ok (.iload_n 1, 1) := by decide +kernel
theorem dX6_cover_2 : decode cX6_cover 2 = .ok (.invokevirtual 106, 3) := by decide +kernel
theorem dX6_cover_5 : decode cX6_cover 5 = .ok (.ifCond .eq 15, 3) := by decide +kernel
theorem dX6_cover_8 : decode cX6_cover 8 = .ok (.iload_n 2, 1) := by decide +kernel
theorem dX6_cover_9 : decode cX6_cover 9 = .ok (.iload_n 3, 1) := by decide +kernel
theorem dX6_cover_10 : decode cX6_cover 10 = .ok (.iload 4, 2) := by decide +kernel
theorem dX6_cover_12 : decode cX6_cover 12 = .ok (.iload 5, 2) := by decide +kernel
theorem dX6_cover_14 : decode cX6_cover 14 = .ok (.invokestatic 109, 3) := by decide +kernel
theorem dX6_cover_17 : decode cX6_cover 17 = .ok (.ifCond .ne 6, 3) := by decide +kernel
theorem dX6_cover_20 : decode cX6_cover 20 = .ok (.bipush (-2), 2) := by decide +kernel
theorem dX6_cover_22 : decode cX6_cover 22 = .ok (.ireturn, 1) := by decide +kernel
theorem dX6_cover_23 : decode cX6_cover 23 = .ok (.aload_n 0, 1) := by decide +kernel
theorem dX6_cover_24 : decode cX6_cover 24 = .ok (.iload_n 1, 1) := by decide +kernel
theorem dX6_cover_25 : decode cX6_cover 25 = .ok (.invokevirtual 101, 3) := by decide +kernel
theorem dX6_cover_28 : decode cX6_cover 28 = .ok (.ifCond .eq 11, 3) := by decide +kernel
theorem dX6_cover_31 : decode cX6_cover 31 = .ok (.aload_n 0, 1) := by decide +kernel
theorem dX6_cover_32 : decode cX6_cover 32 = .ok (.iload_n 1, 1) := by decide +kernel
theorem dX6_cover_33 : decode cX6_cover 33 = .ok (.invokevirtual 113, 3) := by decide +kernel
theorem dX6_cover_36 : decode cX6_cover 36 = .ok (.ifCond .eq 6, 3) := by decide +kernel
theorem dX6_cover_39 : decode cX6_cover 39 = .ok (.bipush (-3), 2) := by decide +kernel
theorem dX6_cover_41 : decode cX6_cover 41 = .ok (.ireturn, 1) := by decide +kernel
theorem dX6_cover_42 : decode cX6_cover 42 = .ok (.aload_n 0, 1) := by decide +kernel
theorem dX6_cover_43 : decode cX6_cover 43 = .ok (.getfield 34, 3) := by decide +kernel
theorem dX6_cover_46 : decode cX6_cover 46 = .ok (.iload_n 1, 1) := by decide +kernel
theorem dX6_cover_47 : decode cX6_cover 47 = .ok (.iconst 1, 1) := by decide +kernel
theorem dX6_cover_48 : decode cX6_cover 48 = .ok (.bastore, 1) := by decide +kernel
theorem dX6_cover_49 : decode cX6_cover 49 = .ok (.aload_n 0, 1) := by decide +kernel
theorem dX6_cover_50 : decode cX6_cover 50 = .ok (.getfield 38, 3) := by decide +kernel
theorem dX6_cover_53 : decode cX6_cover 53 = .ok (.iconst 4, 1) := by decide +kernel
theorem dX6_cover_54 : decode cX6_cover 54 = .ok (.iload_n 1, 1) := by decide +kernel
theorem dX6_cover_55 : decode cX6_cover 55 = .ok (.imul, 1) := by decide +kernel
theorem dX6_cover_56 : decode cX6_cover 56 = .ok (.iload_n 2, 1) := by decide +kernel
theorem dX6_cover_57 : decode cX6_cover 57 = .ok (.iastore, 1) := by decide +kernel
theorem dX6_cover_58 : decode cX6_cover 58 = .ok (.aload_n 0, 1) := by decide +kernel
theorem dX6_cover_59 : decode cX6_cover 59 = .ok (.getfield 38, 3) := by decide +kernel
theorem dX6_cover_62 : decode cX6_cover 62 = .ok (.iconst 4, 1) := by decide +kernel
theorem dX6_cover_63 : decode cX6_cover 63 = .ok (.iload_n 1, 1) := by decide +kernel
theorem dX6_cover_64 : decode cX6_cover 64 = .ok (.imul, 1) := by decide +kernel
theorem dX6_cover_65 : decode cX6_cover 65 = .ok (.iconst 1, 1) := by decide +kernel
theorem dX6_cover_66 : decode cX6_cover 66 = .ok (.iadd, 1) := by decide +kernel
theorem dX6_cover_67 : decode cX6_cover 67 = .ok (.iload_n 3, 1) := by decide +kernel
theorem dX6_cover_68 : decode cX6_cover 68 = .ok (.iastore, 1) := by decide +kernel
theorem dX6_cover_69 : decode cX6_cover 69 = .ok (.aload_n 0, 1) := by decide +kernel
theorem dX6_cover_70 : decode cX6_cover 70 = .ok (.getfield 38, 3) := by decide +kernel
theorem dX6_cover_73 : decode cX6_cover 73 = .ok (.iconst 4, 1) := by decide +kernel
theorem dX6_cover_74 : decode cX6_cover 74 = .ok (.iload_n 1, 1) := by decide +kernel
theorem dX6_cover_75 : decode cX6_cover 75 = .ok (.imul, 1) := by decide +kernel
theorem dX6_cover_76 : decode cX6_cover 76 = .ok (.iconst 2, 1) := by decide +kernel
theorem dX6_cover_77 : decode cX6_cover 77 = .ok (.iadd, 1) := by decide +kernel
theorem dX6_cover_78 : decode cX6_cover 78 = .ok (.iload 4, 2) := by decide +kernel
theorem dX6_cover_80 : decode cX6_cover 80 = .ok (.iastore, 1) := by decide +kernel
theorem dX6_cover_81 : decode cX6_cover 81 = .ok (.aload_n 0, 1) := by decide +kernel
theorem dX6_cover_82 : decode cX6_cover 82 = .ok (.getfield 38, 3) := by decide +kernel
theorem dX6_cover_85 : decode cX6_cover 85 = .ok (.iconst 4, 1) := by decide +kernel
theorem dX6_cover_86 : decode cX6_cover 86 = .ok (.iload_n 1, 1) := by decide +kernel
theorem dX6_cover_87 : decode cX6_cover 87 = .ok (.imul, 1) := by decide +kernel
theorem dX6_cover_88 : decode cX6_cover 88 = .ok (.iconst 3, 1) := by decide +kernel
theorem dX6_cover_89 : decode cX6_cover 89 = .ok (.iadd, 1) := by decide +kernel
theorem dX6_cover_90 : decode cX6_cover 90 = .ok (.iload 5, 2) := by decide +kernel
theorem dX6_cover_92 : decode cX6_cover 92 = .ok (.iastore, 1) := by decide +kernel
theorem dX6_cover_93 : decode cX6_cover 93 = .ok (.iconst 1, 1) := by decide +kernel
theorem dX6_cover_94 : decode cX6_cover 94 = .ok (.ireturn, 1) := by decide +kernel
theorem dX6_alter_0 : decode cX6_alter 0 = .ok (.aload_n 0, 1) := by decide +kernel
theorem dX6_alter_1 : decode cX6_alter 1 = .ok (.iload_n 1, 1) := by decide +kernel
theorem dX6_alter_2 : decode cX6_alter 2 = .ok (.invokevirtual 106, 3) := by decide +kernel
theorem dX6_alter_5 : decode cX6_alter 5 = .ok (.ifCond .eq 16, 3) := by decide +kernel
theorem dX6_alter_8 : decode cX6_alter 8 = .ok (.aload_n 0, 1) := by decide +kernel
theorem dX6_alter_9 : decode cX6_alter 9 = .ok (.getfield 25, 3) := by decide +kernel
theorem dX6_alter_12 : decode cX6_alter 12 = .ok (.iload_n 1, 1) := by decide +kernel
theorem dX6_alter_13 : decode cX6_alter 13 = .ok (.iaload, 1) := by decide +kernel
theorem dX6_alter_14 : decode cX6_alter 14 = .ok (.iload_n 2, 1) := by decide +kernel
theorem dX6_alter_15 : decode cX6_alter 15 = .ok (.invokestatic 85, 3) := by decide +kernel
theorem dX6_alter_18 : decode cX6_alter 18 = .ok (.ifCond .ne 6, 3) := by decide +kernel
theorem dX6_alter_21 : decode cX6_alter 21 = .ok (.bipush (-2), 2) := by decide +kernel
theorem dX6_alter_23 : decode cX6_alter 23 = .ok (.ireturn, 1) := by decide +kernel
theorem dX6_alter_24 : decode cX6_alter 24 = .ok (.aload_n 0, 1) := by decide +kernel
theorem dX6_alter_25 : decode cX6_alter 25 = .ok (.getfield 28, 3) := by decide +kernel
theorem dX6_alter_28 : decode cX6_alter 28 = .ok (.iload_n 1, 1) := by decide +kernel
theorem dX6_alter_29 : decode cX6_alter 29 = .ok (.iaload, 1) := by decide +kernel
theorem dX6_alter_30 : decode cX6_alter 30 = .ok (.istore_n 3, 1) := by decide +kernel
theorem dX6_alter_31 : decode cX6_alter 31 = .ok (.aload_n 0, 1) := by decide +kernel
theorem dX6_alter_32 : decode cX6_alter 32 = .ok (.getfield 28, 3) := by decide +kernel
theorem dX6_alter_35 : decode cX6_alter 35 = .ok (.iload_n 1, 1) := by decide +kernel
theorem dX6_alter_36 : decode cX6_alter 36 = .ok (.iload_n 2, 1) := by decide +kernel
theorem dX6_alter_37 : decode cX6_alter 37 = .ok (.iastore, 1) := by decide +kernel
theorem dX6_alter_38 : decode cX6_alter 38 = .ok (.iload_n 3, 1) := by decide +kernel
theorem dX6_alter_39 : decode cX6_alter 39 = .ok (.ireturn, 1) := by decide +kernel
theorem dX6_read_0 : decode cX6_read 0 = .ok (.iload_n 1, 1) := by decide +kernel
theorem dX6_read_1 : decode cX6_read 1 = .ok (.invokestatic 60, 3) := by decide +kernel
theorem dX6_read_4 : decode cX6_read 4 = .ok (.ifCond .ne 6, 3) := by decide +kernel
theorem dX6_read_7 : decode cX6_read 7 = .ok (.bipush (-2), 2) := by decide +kernel
theorem dX6_read_9 : decode cX6_read 9 = .ok (.ireturn, 1) := by decide +kernel
theorem dX6_read_10 : decode cX6_read 10 = .ok (.aload_n 0, 1) := by decide +kernel
theorem dX6_read_11 : decode cX6_read 11 = .ok (.getfield 7, 3) := by decide +kernel
theorem dX6_read_14 : decode cX6_read 14 = .ok (.iload_n 1, 1) := by decide +kernel
theorem dX6_read_15 : decode cX6_read 15 = .ok (.iaload, 1) := by decide +kernel
theorem dX6_read_16 : decode cX6_read 16 = .ok (.ifCond .ge 9, 3) := by decide +kernel
theorem dX6_read_19 : decode cX6_read 19 = .ok (.aload_n 0, 1) := by decide +kernel
theorem dX6_read_20 : decode cX6_read 20 = .ok (.iconst 1, 1) := by decide +kernel
theorem dX6_read_21 : decode cX6_read 21 = .ok (.invokevirtual 66, 3) := by decide +kernel
theorem dX6_read_24 : decode cX6_read 24 = .ok (.ireturn, 1) := by decide +kernel
theorem dX6_read_25 : decode cX6_read 25 = .ok (.iconst 0, 1) := by decide +kernel
theorem dX6_read_26 : decode cX6_read 26 = .ok (.istore_n 2, 1) := by decide +kernel
theorem dX6_read_27 : decode cX6_read 27 = .ok (.iconst 1, 1) := by decide +kernel
theorem dX6_read_28 : decode cX6_read 28 = .ok (.istore_n 3, 1) := by decide +kernel
theorem dX6_read_29 : decode cX6_read 29 = .ok (.iload_n 3, 1) := by decide +kernel
theorem dX6_read_30 : decode cX6_read 30 = .ok (.ifCond .eq 80, 3) := by decide +kernel
theorem dX6_read_33 : decode cX6_read 33 = .ok (.iconst 3, 1) := by decide +kernel
theorem dX6_read_34 : decode cX6_read 34 = .ok (.iload_n 2, 1) := by decide +kernel
theorem dX6_read_35 : decode cX6_read 35 = .ok (.imul, 1) := by decide +kernel
theorem dX6_read_36 : decode cX6_read 36 = .ok (.iconst 3, 1) := by decide +kernel
theorem dX6_read_37 : decode cX6_read 37 = .ok (.iadd, 1) := by decide +kernel
theorem dX6_read_38 : decode cX6_read 38 = .ok (.aload_n 0, 1) := by decide +kernel
theorem dX6_read_39 : decode cX6_read 39 = .ok (.getfield 13, 3) := by decide +kernel
theorem dX6_read_42 : decode cX6_read 42 = .ok (.iload_n 1, 1) := by decide +kernel
theorem dX6_read_43 : decode cX6_read 43 = .ok (.iaload, 1) := by decide +kernel
theorem dX6_read_44 : decode cX6_read 44 = .ok (.if_icmp .gt 66, 3) := by decide +kernel
theorem dX6_read_47 : decode cX6_read 47 = .ok (.bipush 60, 2) := by decide +kernel
theorem dX6_read_49 : decode cX6_read 49 = .ok (.iload_n 1, 1) := by decide +kernel
theorem dX6_read_50 : decode cX6_read 50 = .ok (.imul, 1) := by decide +kernel
theorem dX6_read_51 : decode cX6_read 51 = .ok (.iconst 3, 1) := by decide +kernel
theorem dX6_read_52 : decode cX6_read 52 = .ok (.iload_n 2, 1) := by decide +kernel
theorem dX6_read_53 : decode cX6_read 53 = .ok (.imul, 1) := by decide +kernel
theorem dX6_read_54 : decode cX6_read 54 = .ok (.iadd, 1) := by decide +kernel
theorem dX6_read_55 : decode cX6_read 55 = .ok (.istore 4, 2) := by decide +kernel
theorem dX6_read_57 : decode cX6_read 57 = .ok (.aload_n 0, 1) := by decide +kernel
theorem dX6_read_58 : decode cX6_read 58 = .ok (.aload_n 0, 1) := by decide +kernel
theorem dX6_read_59 : decode cX6_read 59 = .ok (.getfield 16, 3) := by decide +kernel
theorem dX6_read_62 : decode cX6_read 62 = .ok (.iload 4, 2) := by decide +kernel
theorem dX6_read_64 : decode cX6_read 64 = .ok (.iaload, 1) := by decide +kernel
theorem dX6_read_65 : decode cX6_read 65 = .ok (.aload_n 0, 1) := by decide +kernel
theorem dX6_read_66 : decode cX6_read 66 = .ok (.getfield 16, 3) := by decide +kernel
theorem dX6_read_69 : decode cX6_read 69 = .ok (.iload 4, 2) := by decide +kernel
theorem dX6_read_71 : decode cX6_read 71 = .ok (.iconst 1, 1) := by decide +kernel
theorem dX6_read_72 : decode cX6_read 72 = .ok (.iadd, 1) := by decide +kernel
theorem dX6_read_73 : decode cX6_read 73 = .ok (.iaload, 1) := by decide +kernel
theorem dX6_read_74 : decode cX6_read 74 = .ok (.aload_n 0, 1) := by decide +kernel
theorem dX6_read_75 : decode cX6_read 75 = .ok (.getfield 16, 3) := by decide +kernel
theorem dX6_read_78 : decode cX6_read 78 = .ok (.iload 4, 2) := by decide +kernel
theorem dX6_read_80 : decode cX6_read 80 = .ok (.iconst 2, 1) := by decide +kernel
theorem dX6_read_81 : decode cX6_read 81 = .ok (.iadd, 1) := by decide +kernel
theorem dX6_read_82 : decode cX6_read 82 = .ok (.iaload, 1) := by decide +kernel
theorem dX6_read_83 : decode cX6_read 83 = .ok (.invokevirtual 116, 3) := by decide +kernel
theorem dX6_read_86 : decode cX6_read 86 = .ok (.ifCond .lt 7, 3) := by decide +kernel
theorem dX6_read_89 : decode cX6_read 89 = .ok (.iconst 1, 1) := by decide +kernel
theorem dX6_read_90 : decode cX6_read 90 = .ok (.goto 4, 3) := by decide +kernel
theorem dX6_read_93 : decode cX6_read 93 = .ok (.iconst 0, 1) := by decide +kernel
theorem dX6_read_94 : decode cX6_read 94 = .ok (.istore_n 3, 1) := by decide +kernel
theorem dX6_read_95 : decode cX6_read 95 = .ok (.iload_n 2, 1) := by decide +kernel
theorem dX6_read_96 : decode cX6_read 96 = .ok (.iload_n 3, 1) := by decide +kernel
theorem dX6_read_97 : decode cX6_read 97 = .ok (.ifCond .eq 7, 3) := by decide +kernel
theorem dX6_read_100 : decode cX6_read 100 = .ok (.iconst 1, 1) := by decide +kernel
theorem dX6_read_101 : decode cX6_read 101 = .ok (.goto 4, 3) := by decide +kernel
theorem dX6_read_104 : decode cX6_read 104 = .ok (.iconst 0, 1) := by decide +kernel
theorem dX6_read_105 : decode cX6_read 105 = .ok (.iadd, 1) := by decide +kernel
theorem dX6_read_106 : decode cX6_read 106 = .ok (.istore_n 2, 1) := by decide +kernel
theorem dX6_read_107 : decode cX6_read 107 = .ok (.goto (-78), 3) := by decide +kernel
theorem dX6_read_110 : decode cX6_read 110 = .ok (.iload_n 2, 1) := by decide +kernel
theorem dX6_read_111 : decode cX6_read 111 = .ok (.ireturn, 1) := by decide +kernel
theorem dX6_placeOf_0 : decode cX6_placeOf 0 = .ok (.iconst 5, 1) := by decide +kernel
theorem dX6_placeOf_1 : decode cX6_placeOf 1 = .ok (.iload_n 1, 1) := by decide +kernel
theorem dX6_placeOf_2 : decode cX6_placeOf 2 = .ok (.imul, 1) := by decide +kernel
theorem dX6_placeOf_3 : decode cX6_placeOf 3 = .ok (.iconst 2, 1) := by decide +kernel
theorem dX6_placeOf_4 : decode cX6_placeOf 4 = .ok (.aload_n 0, 1) := by decide +kernel
theorem dX6_placeOf_5 : decode cX6_placeOf 5 = .ok (.getfield 31, 3) := by decide +kernel
theorem dX6_placeOf_8 : decode cX6_placeOf 8 = .ok (.iload_n 1, 1) := by decide +kernel
theorem dX6_placeOf_9 : decode cX6_placeOf 9 = .ok (.iaload, 1) := by decide +kernel
theorem dX6_placeOf_10 : decode cX6_placeOf 10 = .ok (.imul, 1) := by decide +kernel
theorem dX6_placeOf_11 : decode cX6_placeOf 11 = .ok (.iadd, 1) := by decide +kernel
theorem dX6_placeOf_12 : decode cX6_placeOf 12 = .ok (.ireturn, 1) := by decide +kernel
theorem dX6_firstOf_0 : decode cX6_firstOf 0 = .ok (.iconst 0, 1) := by decide +kernel
theorem dX6_firstOf_1 : decode cX6_firstOf 1 = .ok (.istore_n 2, 1) := by decide +kernel
theorem dX6_firstOf_2 : decode cX6_firstOf 2 = .ok (.iconst 0, 1) := by decide +kernel
theorem dX6_firstOf_3 : decode cX6_firstOf 3 = .ok (.istore_n 3, 1) := by decide +kernel
theorem dX6_firstOf_4 : decode cX6_firstOf 4 = .ok (.iload_n 3, 1) := by decide +kernel
theorem dX6_firstOf_5 : decode cX6_firstOf 5 = .ok (.aload_n 0, 1) := by decide +kernel
theorem dX6_firstOf_6 : decode cX6_firstOf 6 = .ok (.getfield 89, 3) := by decide +kernel
theorem dX6_firstOf_9 : decode cX6_firstOf 9 = .ok (.if_icmp .ge 27, 3) := by decide +kernel
theorem dX6_firstOf_12 : decode cX6_firstOf 12 = .ok (.iload_n 2, 1) := by decide +kernel
theorem dX6_firstOf_13 : decode cX6_firstOf 13 = .ok (.aload_n 0, 1) := by decide +kernel
theorem dX6_firstOf_14 : decode cX6_firstOf 14 = .ok (.getfield 31, 3) := by decide +kernel
theorem dX6_firstOf_17 : decode cX6_firstOf 17 = .ok (.iload_n 3, 1) := by decide +kernel
theorem dX6_firstOf_18 : decode cX6_firstOf 18 = .ok (.iaload, 1) := by decide +kernel
theorem dX6_firstOf_19 : decode cX6_firstOf 19 = .ok (.iload_n 1, 1) := by decide +kernel
theorem dX6_firstOf_20 : decode cX6_firstOf 20 = .ok (.if_icmp .ge 7, 3) := by decide +kernel
theorem dX6_firstOf_23 : decode cX6_firstOf 23 = .ok (.iconst 1, 1) := by decide +kernel
theorem dX6_firstOf_24 : decode cX6_firstOf 24 = .ok (.goto 4, 3) := by decide +kernel
theorem dX6_firstOf_27 : decode cX6_firstOf 27 = .ok (.iconst 0, 1) := by decide +kernel
theorem dX6_firstOf_28 : decode cX6_firstOf 28 = .ok (.iadd, 1) := by decide +kernel
theorem dX6_firstOf_29 : decode cX6_firstOf 29 = .ok (.istore_n 2, 1) := by decide +kernel
theorem dX6_firstOf_30 : decode cX6_firstOf 30 = .ok (.iinc 3 1, 3) := by decide +kernel
theorem dX6_firstOf_33 : decode cX6_firstOf 33 = .ok (.goto (-29), 3) := by decide +kernel
theorem dX6_firstOf_36 : decode cX6_firstOf 36 = .ok (.iload_n 2, 1) := by decide +kernel
theorem dX6_firstOf_37 : decode cX6_firstOf 37 = .ok (.ireturn, 1) := by decide +kernel
theorem dX6_beginOf_0 : decode cX6_beginOf 0 = .ok (.iconst 5, 1) := by decide +kernel
theorem dX6_beginOf_1 : decode cX6_beginOf 1 = .ok (.aload_n 0, 1) := by decide +kernel
theorem dX6_beginOf_2 : decode cX6_beginOf 2 = .ok (.iload_n 1, 1) := by decide +kernel
theorem dX6_beginOf_3 : decode cX6_beginOf 3 = .ok (.invokevirtual 119, 3) := by decide +kernel
theorem dX6_beginOf_6 : decode cX6_beginOf 6 = .ok (.imul, 1) := by decide +kernel
theorem dX6_beginOf_7 : decode cX6_beginOf 7 = .ok (.iconst 2, 1) := by decide +kernel
theorem dX6_beginOf_8 : decode cX6_beginOf 8 = .ok (.iload_n 1, 1) := by decide +kernel
theorem dX6_beginOf_9 : decode cX6_beginOf 9 = .ok (.imul, 1) := by decide +kernel
theorem dX6_beginOf_10 : decode cX6_beginOf 10 = .ok (.iadd, 1) := by decide +kernel
theorem dX6_beginOf_11 : decode cX6_beginOf 11 = .ok (.ireturn, 1) := by decide +kernel
theorem dX6_endOf_0 : decode cX6_endOf 0 = .ok (.aload_n 0, 1) := by decide +kernel
theorem dX6_endOf_1 : decode cX6_endOf 1 = .ok (.iload_n 1, 1) := by decide +kernel
theorem dX6_endOf_2 : decode cX6_endOf 2 = .ok (.invokevirtual 122, 3) := by decide +kernel
theorem dX6_endOf_5 : decode cX6_endOf 5 = .ok (.iconst 5, 1) := by decide +kernel
theorem dX6_endOf_6 : decode cX6_endOf 6 = .ok (.aload_n 0, 1) := by decide +kernel
theorem dX6_endOf_7 : decode cX6_endOf 7 = .ok (.iload_n 1, 1) := by decide +kernel
theorem dX6_endOf_8 : decode cX6_endOf 8 = .ok (.invokevirtual 95, 3) := by decide +kernel
theorem dX6_endOf_11 : decode cX6_endOf 11 = .ok (.imul, 1) := by decide +kernel
theorem dX6_endOf_12 : decode cX6_endOf 12 = .ok (.iadd, 1) := by decide +kernel
theorem dX6_endOf_13 : decode cX6_endOf 13 = .ok (.iload_n 1, 1) := by decide +kernel
theorem dX6_endOf_14 : decode cX6_endOf 14 = .ok (.aload_n 0, 1) := by decide +kernel
theorem dX6_endOf_15 : decode cX6_endOf 15 = .ok (.getfield 92, 3) := by decide +kernel
theorem dX6_endOf_18 : decode cX6_endOf 18 = .ok (.if_icmp .ge 7, 3) := by decide +kernel
theorem dX6_endOf_21 : decode cX6_endOf 21 = .ok (.iconst 2, 1) := by decide +kernel
theorem dX6_endOf_22 : decode cX6_endOf 22 = .ok (.goto 4, 3) := by decide +kernel
theorem dX6_endOf_25 : decode cX6_endOf 25 = .ok (.iconst 0, 1) := by decide +kernel
theorem dX6_endOf_26 : decode cX6_endOf 26 = .ok (.iadd, 1) := by decide +kernel
theorem dX6_endOf_27 : decode cX6_endOf 27 = .ok (.ireturn, 1) := by decide +kernel
theorem dX6_allBytes_0 : decode cX6_allBytes 0 = .ok (.iconst 5, 1) := by decide +kernel
theorem dX6_allBytes_1 : decode cX6_allBytes 1 = .ok (.aload_n 0, 1) := by decide +kernel
theorem dX6_allBytes_2 : decode cX6_allBytes 2 = .ok (.getfield 89, 3) := by decide +kernel
theorem dX6_allBytes_5 : decode cX6_allBytes 5 = .ok (.imul, 1) := by decide +kernel
theorem dX6_allBytes_6 : decode cX6_allBytes 6 = .ok (.iconst 2, 1) := by decide +kernel
theorem dX6_allBytes_7 : decode cX6_allBytes 7 = .ok (.aload_n 0, 1) := by decide +kernel
theorem dX6_allBytes_8 : decode cX6_allBytes 8 = .ok (.getfield 92, 3) := by decide +kernel
theorem dX6_allBytes_11 : decode cX6_allBytes 11 = .ok (.imul, 1) := by decide +kernel
theorem dX6_allBytes_12 : decode cX6_allBytes 12 = .ok (.iadd, 1) := by decide +kernel
theorem dX6_allBytes_13 : decode cX6_allBytes 13 = .ok (.ireturn, 1) := by decide +kernel
theorem dX6_byteOf_0 : decode cX6_byteOf 0 = .ok (.iload_n 2, 1) := by decide +kernel
theorem dX6_byteOf_1 : decode cX6_byteOf 1 = .ok (.tableswitch 59 0 3 #[31, 34, 41, 48], 31) := by decide +kernel
theorem dX6_byteOf_32 : decode cX6_byteOf 32 = .ok (.bipush 79, 2) := by decide +kernel
theorem dX6_byteOf_34 : decode cX6_byteOf 34 = .ok (.ireturn, 1) := by decide +kernel
theorem dX6_byteOf_35 : decode cX6_byteOf 35 = .ok (.aload_n 0, 1) := by decide +kernel
theorem dX6_byteOf_36 : decode cX6_byteOf 36 = .ok (.getfield 22, 3) := by decide +kernel
theorem dX6_byteOf_39 : decode cX6_byteOf 39 = .ok (.iload_n 1, 1) := by decide +kernel
theorem dX6_byteOf_40 : decode cX6_byteOf 40 = .ok (.iaload, 1) := by decide +kernel
theorem dX6_byteOf_41 : decode cX6_byteOf 41 = .ok (.ireturn, 1) := by decide +kernel
theorem dX6_byteOf_42 : decode cX6_byteOf 42 = .ok (.aload_n 0, 1) := by decide +kernel
theorem dX6_byteOf_43 : decode cX6_byteOf 43 = .ok (.getfield 25, 3) := by decide +kernel
theorem dX6_byteOf_46 : decode cX6_byteOf 46 = .ok (.iload_n 1, 1) := by decide +kernel
theorem dX6_byteOf_47 : decode cX6_byteOf 47 = .ok (.iaload, 1) := by decide +kernel
theorem dX6_byteOf_48 : decode cX6_byteOf 48 = .ok (.ireturn, 1) := by decide +kernel
theorem dX6_byteOf_49 : decode cX6_byteOf 49 = .ok (.aload_n 0, 1) := by decide +kernel
theorem dX6_byteOf_50 : decode cX6_byteOf 50 = .ok (.getfield 28, 3) := by decide +kernel
theorem dX6_byteOf_53 : decode cX6_byteOf 53 = .ok (.iload_n 1, 1) := by decide +kernel
theorem dX6_byteOf_54 : decode cX6_byteOf 54 = .ok (.iaload, 1) := by decide +kernel
theorem dX6_byteOf_55 : decode cX6_byteOf 55 = .ok (.sipush 256, 3) := by decide +kernel
theorem dX6_byteOf_58 : decode cX6_byteOf 58 = .ok (.idiv, 1) := by decide +kernel
theorem dX6_byteOf_59 : decode cX6_byteOf 59 = .ok (.ireturn, 1) := by decide +kernel
theorem dX6_byteOf_60 : decode cX6_byteOf 60 = .ok (.aload_n 0, 1) := by decide +kernel
theorem dX6_byteOf_61 : decode cX6_byteOf 61 = .ok (.getfield 28, 3) := by decide +kernel
theorem dX6_byteOf_64 : decode cX6_byteOf 64 = .ok (.iload_n 1, 1) := by decide +kernel
theorem dX6_byteOf_65 : decode cX6_byteOf 65 = .ok (.iaload, 1) := by decide +kernel
theorem dX6_byteOf_66 : decode cX6_byteOf 66 = .ok (.sipush 256, 3) := by decide +kernel
theorem dX6_byteOf_69 : decode cX6_byteOf 69 = .ok (.irem, 1) := by decide +kernel
theorem dX6_byteOf_70 : decode cX6_byteOf 70 = .ok (.ireturn, 1) := by decide +kernel
theorem dX6_byteAt_0 : decode cX6_byteAt 0 = .ok (.iconst 0, 1) := by decide +kernel
theorem dX6_byteAt_1 : decode cX6_byteAt 1 = .ok (.istore_n 2, 1) := by decide +kernel
theorem dX6_byteAt_2 : decode cX6_byteAt 2 = .ok (.iload_n 2, 1) := by decide +kernel
theorem dX6_byteAt_3 : decode cX6_byteAt 3 = .ok (.aload_n 0, 1) := by decide +kernel
theorem dX6_byteAt_4 : decode cX6_byteAt 4 = .ok (.getfield 92, 3) := by decide +kernel
theorem dX6_byteAt_7 : decode cX6_byteAt 7 = .ok (.if_icmp .gt 92, 3) := by decide +kernel
theorem dX6_byteAt_10 : decode cX6_byteAt 10 = .ok (.aload_n 0, 1) := by decide +kernel
theorem dX6_byteAt_11 : decode cX6_byteAt 11 = .ok (.iload_n 2, 1) := by decide +kernel
theorem dX6_byteAt_12 : decode cX6_byteAt 12 = .ok (.invokevirtual 122, 3) := by decide +kernel
theorem dX6_byteAt_15 : decode cX6_byteAt 15 = .ok (.istore_n 3, 1) := by decide +kernel
theorem dX6_byteAt_16 : decode cX6_byteAt 16 = .ok (.iload_n 3, 1) := by decide +kernel
theorem dX6_byteAt_17 : decode cX6_byteAt 17 = .ok (.iconst 5, 1) := by decide +kernel
theorem dX6_byteAt_18 : decode cX6_byteAt 18 = .ok (.aload_n 0, 1) := by decide +kernel
theorem dX6_byteAt_19 : decode cX6_byteAt 19 = .ok (.iload_n 2, 1) := by decide +kernel
theorem dX6_byteAt_20 : decode cX6_byteAt 20 = .ok (.invokevirtual 95, 3) := by decide +kernel
theorem dX6_byteAt_23 : decode cX6_byteAt 23 = .ok (.imul, 1) := by decide +kernel
theorem dX6_byteAt_24 : decode cX6_byteAt 24 = .ok (.iadd, 1) := by decide +kernel
theorem dX6_byteAt_25 : decode cX6_byteAt 25 = .ok (.istore 4, 2) := by decide +kernel
theorem dX6_byteAt_27 : decode cX6_byteAt 27 = .ok (.iload_n 1, 1) := by decide +kernel
theorem dX6_byteAt_28 : decode cX6_byteAt 28 = .ok (.iload_n 3, 1) := by decide +kernel
theorem dX6_byteAt_29 : decode cX6_byteAt 29 = .ok (.if_icmp .lt 30, 3) := by decide +kernel
theorem dX6_byteAt_32 : decode cX6_byteAt 32 = .ok (.iload_n 1, 1) := by decide +kernel
theorem dX6_byteAt_33 : decode cX6_byteAt 33 = .ok (.iload 4, 2) := by decide +kernel
theorem dX6_byteAt_35 : decode cX6_byteAt 35 = .ok (.if_icmp .ge 24, 3) := by decide +kernel
theorem dX6_byteAt_38 : decode cX6_byteAt 38 = .ok (.aload_n 0, 1) := by decide +kernel
theorem dX6_byteAt_39 : decode cX6_byteAt 39 = .ok (.aload_n 0, 1) := by decide +kernel
theorem dX6_byteAt_40 : decode cX6_byteAt 40 = .ok (.iload_n 2, 1) := by decide +kernel
theorem dX6_byteAt_41 : decode cX6_byteAt 41 = .ok (.invokevirtual 119, 3) := by decide +kernel
theorem dX6_byteAt_44 : decode cX6_byteAt 44 = .ok (.iload_n 1, 1) := by decide +kernel
theorem dX6_byteAt_45 : decode cX6_byteAt 45 = .ok (.iload_n 3, 1) := by decide +kernel
theorem dX6_byteAt_46 : decode cX6_byteAt 46 = .ok (.isub, 1) := by decide +kernel
theorem dX6_byteAt_47 : decode cX6_byteAt 47 = .ok (.iconst 5, 1) := by decide +kernel
theorem dX6_byteAt_48 : decode cX6_byteAt 48 = .ok (.idiv, 1) := by decide +kernel
theorem dX6_byteAt_49 : decode cX6_byteAt 49 = .ok (.iadd, 1) := by decide +kernel
theorem dX6_byteAt_50 : decode cX6_byteAt 50 = .ok (.iload_n 1, 1) := by decide +kernel
theorem dX6_byteAt_51 : decode cX6_byteAt 51 = .ok (.iload_n 3, 1) := by decide +kernel
theorem dX6_byteAt_52 : decode cX6_byteAt 52 = .ok (.isub, 1) := by decide +kernel
theorem dX6_byteAt_53 : decode cX6_byteAt 53 = .ok (.iconst 5, 1) := by decide +kernel
theorem dX6_byteAt_54 : decode cX6_byteAt 54 = .ok (.irem, 1) := by decide +kernel
theorem dX6_byteAt_55 : decode cX6_byteAt 55 = .ok (.invokevirtual 125, 3) := by decide +kernel
theorem dX6_byteAt_58 : decode cX6_byteAt 58 = .ok (.ireturn, 1) := by decide +kernel
theorem dX6_byteAt_59 : decode cX6_byteAt 59 = .ok (.iload_n 2, 1) := by decide +kernel
theorem dX6_byteAt_60 : decode cX6_byteAt 60 = .ok (.aload_n 0, 1) := by decide +kernel
theorem dX6_byteAt_61 : decode cX6_byteAt 61 = .ok (.getfield 92, 3) := by decide +kernel
theorem dX6_byteAt_64 : decode cX6_byteAt 64 = .ok (.if_icmp .ge 29, 3) := by decide +kernel
theorem dX6_byteAt_67 : decode cX6_byteAt 67 = .ok (.iload_n 1, 1) := by decide +kernel
theorem dX6_byteAt_68 : decode cX6_byteAt 68 = .ok (.iload 4, 2) := by decide +kernel
theorem dX6_byteAt_70 : decode cX6_byteAt 70 = .ok (.if_icmp .lt 23, 3) := by decide +kernel
theorem dX6_byteAt_73 : decode cX6_byteAt 73 = .ok (.iload_n 1, 1) := by decide +kernel
theorem dX6_byteAt_74 : decode cX6_byteAt 74 = .ok (.iload 4, 2) := by decide +kernel
theorem dX6_byteAt_76 : decode cX6_byteAt 76 = .ok (.iconst 2, 1) := by decide +kernel
theorem dX6_byteAt_77 : decode cX6_byteAt 77 = .ok (.iadd, 1) := by decide +kernel
theorem dX6_byteAt_78 : decode cX6_byteAt 78 = .ok (.if_icmp .ge 15, 3) := by decide +kernel
theorem dX6_byteAt_81 : decode cX6_byteAt 81 = .ok (.iload_n 1, 1) := by decide +kernel
theorem dX6_byteAt_82 : decode cX6_byteAt 82 = .ok (.iload 4, 2) := by decide +kernel
theorem dX6_byteAt_84 : decode cX6_byteAt 84 = .ok (.if_icmp .ne 7, 3) := by decide +kernel
theorem dX6_byteAt_87 : decode cX6_byteAt 87 = .ok (.iconst 0, 1) := by decide +kernel
theorem dX6_byteAt_88 : decode cX6_byteAt 88 = .ok (.goto 4, 3) := by decide +kernel
theorem dX6_byteAt_91 : decode cX6_byteAt 91 = .ok (.iload_n 2, 1) := by decide +kernel
theorem dX6_byteAt_92 : decode cX6_byteAt 92 = .ok (.ireturn, 1) := by decide +kernel
theorem dX6_byteAt_93 : decode cX6_byteAt 93 = .ok (.iinc 2 1, 3) := by decide +kernel
theorem dX6_byteAt_96 : decode cX6_byteAt 96 = .ok (.goto (-94), 3) := by decide +kernel
theorem dX6_byteAt_99 : decode cX6_byteAt 99 = .ok (.iconst (-1), 1) := by decide +kernel
theorem dX6_byteAt_100 : decode cX6_byteAt 100 = .ok (.ireturn, 1) := by decide +kernel
theorem dX6_bytes_0 : decode cX6_bytes 0 = .ok (.iload_n 1, 1) := by decide +kernel
theorem dX6_bytes_1 : decode cX6_bytes 1 = .ok (.iconst (-1), 1) := by decide +kernel
theorem dX6_bytes_2 : decode cX6_bytes 2 = .ok (.if_icmp .ne 10, 3) := by decide +kernel
theorem dX6_bytes_5 : decode cX6_bytes 5 = .ok (.aload_n 0, 1) := by decide +kernel
theorem dX6_bytes_6 : decode cX6_bytes 6 = .ok (.invokevirtual 128, 3) := by decide +kernel
theorem dX6_bytes_9 : decode cX6_bytes 9 = .ok (.goto 29, 3) := by decide +kernel
theorem dX6_bytes_12 : decode cX6_bytes 12 = .ok (.iload_n 1, 1) := by decide +kernel
theorem dX6_bytes_13 : decode cX6_bytes 13 = .ok (.i2l, 1) := by decide +kernel
theorem dX6_bytes_14 : decode cX6_bytes 14 = .ok (.lconst 0, 1) := by decide +kernel
theorem dX6_bytes_15 : decode cX6_bytes 15 = .ok (.aload_n 0, 1) := by decide +kernel
theorem dX6_bytes_16 : decode cX6_bytes 16 = .ok (.invokevirtual 128, 3) := by decide +kernel
theorem dX6_bytes_19 : decode cX6_bytes 19 = .ok (.iconst 1, 1) := by decide +kernel
theorem dX6_bytes_20 : decode cX6_bytes 20 = .ok (.isub, 1) := by decide +kernel
theorem dX6_bytes_21 : decode cX6_bytes 21 = .ok (.i2l, 1) := by decide +kernel
theorem dX6_bytes_22 : decode cX6_bytes 22 = .ok (.invokestatic 51, 3) := by decide +kernel
theorem dX6_bytes_25 : decode cX6_bytes 25 = .ok (.ifCond .eq 11, 3) := by decide +kernel
theorem dX6_bytes_28 : decode cX6_bytes 28 = .ok (.aload_n 0, 1) := by decide +kernel
theorem dX6_bytes_29 : decode cX6_bytes 29 = .ok (.iload_n 1, 1) := by decide +kernel
theorem dX6_bytes_30 : decode cX6_bytes 30 = .ok (.invokevirtual 132, 3) := by decide +kernel
theorem dX6_bytes_33 : decode cX6_bytes 33 = .ok (.goto 5, 3) := by decide +kernel
theorem dX6_bytes_36 : decode cX6_bytes 36 = .ok (.bipush (-2), 2) := by decide +kernel
theorem dX6_bytes_38 : decode cX6_bytes 38 = .ok (.ireturn, 1) := by decide +kernel
theorem dX6_writeBy_0 : decode cX6_writeBy 0 = .ok (.iload_n 2, 1) := by decide +kernel
theorem dX6_writeBy_1 : decode cX6_writeBy 1 = .ok (.tableswitch 59 0 3 #[31, 38, 45, 52], 31) := by decide +kernel
theorem dX6_writeBy_32 : decode cX6_writeBy 32 = .ok (.aload_n 0, 1) := by decide +kernel
theorem dX6_writeBy_33 : decode cX6_writeBy 33 = .ok (.getfield 22, 3) := by decide +kernel
theorem dX6_writeBy_36 : decode cX6_writeBy 36 = .ok (.iload_n 1, 1) := by decide +kernel
theorem dX6_writeBy_37 : decode cX6_writeBy 37 = .ok (.iaload, 1) := by decide +kernel
theorem dX6_writeBy_38 : decode cX6_writeBy 38 = .ok (.ireturn, 1) := by decide +kernel
theorem dX6_writeBy_39 : decode cX6_writeBy 39 = .ok (.aload_n 0, 1) := by decide +kernel
theorem dX6_writeBy_40 : decode cX6_writeBy 40 = .ok (.getfield 25, 3) := by decide +kernel
theorem dX6_writeBy_43 : decode cX6_writeBy 43 = .ok (.iload_n 1, 1) := by decide +kernel
theorem dX6_writeBy_44 : decode cX6_writeBy 44 = .ok (.iaload, 1) := by decide +kernel
theorem dX6_writeBy_45 : decode cX6_writeBy 45 = .ok (.ireturn, 1) := by decide +kernel
theorem dX6_writeBy_46 : decode cX6_writeBy 46 = .ok (.aload_n 0, 1) := by decide +kernel
theorem dX6_writeBy_47 : decode cX6_writeBy 47 = .ok (.getfield 28, 3) := by decide +kernel
theorem dX6_writeBy_50 : decode cX6_writeBy 50 = .ok (.iload_n 1, 1) := by decide +kernel
theorem dX6_writeBy_51 : decode cX6_writeBy 51 = .ok (.iaload, 1) := by decide +kernel
theorem dX6_writeBy_52 : decode cX6_writeBy 52 = .ok (.ireturn, 1) := by decide +kernel
theorem dX6_writeBy_53 : decode cX6_writeBy 53 = .ok (.aload_n 0, 1) := by decide +kernel
theorem dX6_writeBy_54 : decode cX6_writeBy 54 = .ok (.getfield 31, 3) := by decide +kernel
theorem dX6_writeBy_57 : decode cX6_writeBy 57 = .ok (.iload_n 1, 1) := by decide +kernel
theorem dX6_writeBy_58 : decode cX6_writeBy 58 = .ok (.iaload, 1) := by decide +kernel
theorem dX6_writeBy_59 : decode cX6_writeBy 59 = .ok (.ireturn, 1) := by decide +kernel
theorem dX6_writeBy_60 : decode cX6_writeBy 60 = .ok (.aload_n 0, 1) := by decide +kernel
theorem dX6_writeBy_61 : decode cX6_writeBy 61 = .ok (.iload_n 1, 1) := by decide +kernel
theorem dX6_writeBy_62 : decode cX6_writeBy 62 = .ok (.invokevirtual 135, 3) := by decide +kernel
theorem dX6_writeBy_65 : decode cX6_writeBy 65 = .ok (.ireturn, 1) := by decide +kernel
theorem dX6_write_0 : decode cX6_write 0 = .ok (.aload_n 0, 1) := by decide +kernel
theorem dX6_write_1 : decode cX6_write 1 = .ok (.iload_n 1, 1) := by decide +kernel
theorem dX6_write_2 : decode cX6_write 2 = .ok (.invokevirtual 106, 3) := by decide +kernel
theorem dX6_write_5 : decode cX6_write 5 = .ok (.ifCond .eq 24, 3) := by decide +kernel
theorem dX6_write_8 : decode cX6_write 8 = .ok (.iload_n 2, 1) := by decide +kernel
theorem dX6_write_9 : decode cX6_write 9 = .ok (.i2l, 1) := by decide +kernel
theorem dX6_write_10 : decode cX6_write 10 = .ok (.lconst 0, 1) := by decide +kernel
theorem dX6_write_11 : decode cX6_write 11 = .ok (.ldc2_w 138, 3) := by decide +kernel
theorem dX6_write_14 : decode cX6_write 14 = .ok (.invokestatic 51, 3) := by decide +kernel
theorem dX6_write_17 : decode cX6_write 17 = .ok (.ifCond .eq 12, 3) := by decide +kernel
theorem dX6_write_20 : decode cX6_write 20 = .ok (.aload_n 0, 1) := by decide +kernel
theorem dX6_write_21 : decode cX6_write 21 = .ok (.iload_n 1, 1) := by decide +kernel
theorem dX6_write_22 : decode cX6_write 22 = .ok (.iload_n 2, 1) := by decide +kernel
theorem dX6_write_23 : decode cX6_write 23 = .ok (.invokevirtual 140, 3) := by decide +kernel
theorem dX6_write_26 : decode cX6_write 26 = .ok (.goto 5, 3) := by decide +kernel
theorem dX6_write_29 : decode cX6_write 29 = .ok (.bipush (-2), 2) := by decide +kernel
theorem dX6_write_31 : decode cX6_write 31 = .ok (.ireturn, 1) := by decide +kernel
theorem dX6_isRevision_0 : decode cX6_isRevision 0 = .ok (.iload_n 1, 1) := by decide +kernel
theorem dX6_isRevision_1 : decode cX6_isRevision 1 = .ok (.i2l, 1) := by decide +kernel
theorem dX6_isRevision_2 : decode cX6_isRevision 2 = .ok (.lconst 0, 1) := by decide +kernel
theorem dX6_isRevision_3 : decode cX6_isRevision 3 = .ok (.aload_n 0, 1) := by decide +kernel
theorem dX6_isRevision_4 : decode cX6_isRevision 4 = .ok (.getfield 92, 3) := by decide +kernel
theorem dX6_isRevision_7 : decode cX6_isRevision 7 = .ok (.i2l, 1) := by decide +kernel
theorem dX6_isRevision_8 : decode cX6_isRevision 8 = .ok (.invokestatic 51, 3) := by decide +kernel
theorem dX6_isRevision_11 : decode cX6_isRevision 11 = .ok (.ireturn, 1) := by decide +kernel
theorem dX6_revisionBy_0 : decode cX6_revisionBy 0 = .ok (.iload_n 2, 1) := by decide +kernel
theorem dX6_revisionBy_1 : decode cX6_revisionBy 1 = .ok (.ifCond .ne 11, 3) := by decide +kernel
theorem dX6_revisionBy_4 : decode cX6_revisionBy 4 = .ok (.aload_n 0, 1) := by decide +kernel
theorem dX6_revisionBy_5 : decode cX6_revisionBy 5 = .ok (.iload_n 1, 1) := by decide +kernel
theorem dX6_revisionBy_6 : decode cX6_revisionBy 6 = .ok (.invokevirtual 119, 3) := by decide +kernel
theorem dX6_revisionBy_9 : decode cX6_revisionBy 9 = .ok (.goto 34, 3) := by decide +kernel
theorem dX6_revisionBy_12 : decode cX6_revisionBy 12 = .ok (.iload_n 2, 1) := by decide +kernel
theorem dX6_revisionBy_13 : decode cX6_revisionBy 13 = .ok (.iconst 1, 1) := by decide +kernel
theorem dX6_revisionBy_14 : decode cX6_revisionBy 14 = .ok (.if_icmp .ne 11, 3) := by decide +kernel
theorem dX6_revisionBy_17 : decode cX6_revisionBy 17 = .ok (.aload_n 0, 1) := by decide +kernel
theorem dX6_revisionBy_18 : decode cX6_revisionBy 18 = .ok (.iload_n 1, 1) := by decide +kernel
theorem dX6_revisionBy_19 : decode cX6_revisionBy 19 = .ok (.invokevirtual 95, 3) := by decide +kernel
theorem dX6_revisionBy_22 : decode cX6_revisionBy 22 = .ok (.goto 21, 3) := by decide +kernel
theorem dX6_revisionBy_25 : decode cX6_revisionBy 25 = .ok (.iload_n 2, 1) := by decide +kernel
theorem dX6_revisionBy_26 : decode cX6_revisionBy 26 = .ok (.iconst 2, 1) := by decide +kernel
theorem dX6_revisionBy_27 : decode cX6_revisionBy 27 = .ok (.if_icmp .ne 11, 3) := by decide +kernel
theorem dX6_revisionBy_30 : decode cX6_revisionBy 30 = .ok (.aload_n 0, 1) := by decide +kernel
theorem dX6_revisionBy_31 : decode cX6_revisionBy 31 = .ok (.iload_n 1, 1) := by decide +kernel
theorem dX6_revisionBy_32 : decode cX6_revisionBy 32 = .ok (.invokevirtual 122, 3) := by decide +kernel
theorem dX6_revisionBy_35 : decode cX6_revisionBy 35 = .ok (.goto 8, 3) := by decide +kernel
theorem dX6_revisionBy_38 : decode cX6_revisionBy 38 = .ok (.aload_n 0, 1) := by decide +kernel
theorem dX6_revisionBy_39 : decode cX6_revisionBy 39 = .ok (.iload_n 1, 1) := by decide +kernel
theorem dX6_revisionBy_40 : decode cX6_revisionBy 40 = .ok (.invokevirtual 143, 3) := by decide +kernel
theorem dX6_revisionBy_43 : decode cX6_revisionBy 43 = .ok (.ireturn, 1) := by decide +kernel
theorem dX6_revision_0 : decode cX6_revision 0 = .ok (.aload_n 0, 1) := by decide +kernel
theorem dX6_revision_1 : decode cX6_revision 1 = .ok (.iload_n 1, 1) := by decide +kernel
theorem dX6_revision_2 : decode cX6_revision 2 = .ok (.invokevirtual 146, 3) := by decide +kernel
theorem dX6_revision_5 : decode cX6_revision 5 = .ok (.ifCond .eq 24, 3) := by decide +kernel
theorem dX6_revision_8 : decode cX6_revision 8 = .ok (.iload_n 2, 1) := by decide +kernel
theorem dX6_revision_9 : decode cX6_revision 9 = .ok (.i2l, 1) := by decide +kernel
theorem dX6_revision_10 : decode cX6_revision 10 = .ok (.lconst 0, 1) := by decide +kernel
theorem dX6_revision_11 : decode cX6_revision 11 = .ok (.ldc2_w 58, 3) := by decide +kernel
theorem dX6_revision_14 : decode cX6_revision 14 = .ok (.invokestatic 51, 3) := by decide +kernel
theorem dX6_revision_17 : decode cX6_revision 17 = .ok (.ifCond .eq 12, 3) := by decide +kernel
theorem dX6_revision_20 : decode cX6_revision 20 = .ok (.aload_n 0, 1) := by decide +kernel
theorem dX6_revision_21 : decode cX6_revision 21 = .ok (.iload_n 1, 1) := by decide +kernel
theorem dX6_revision_22 : decode cX6_revision 22 = .ok (.iload_n 2, 1) := by decide +kernel
theorem dX6_revision_23 : decode cX6_revision 23 = .ok (.invokevirtual 149, 3) := by decide +kernel
theorem dX6_revision_26 : decode cX6_revision 26 = .ok (.goto 5, 3) := by decide +kernel
theorem dX6_revision_29 : decode cX6_revision 29 = .ok (.bipush (-2), 2) := by decide +kernel
theorem dX6_revision_31 : decode cX6_revision 31 = .ok (.ireturn, 1) := by decide +kernel
theorem dX6_lastOf_0 : decode cX6_lastOf 0 = .ok (.iconst (-1), 1) := by decide +kernel
theorem dX6_lastOf_1 : decode cX6_lastOf 1 = .ok (.istore_n 3, 1) := by decide +kernel
theorem dX6_lastOf_2 : decode cX6_lastOf 2 = .ok (.iconst 0, 1) := by decide +kernel
theorem dX6_lastOf_3 : decode cX6_lastOf 3 = .ok (.istore 4, 2) := by decide +kernel
theorem dX6_lastOf_5 : decode cX6_lastOf 5 = .ok (.iload 4, 2) := by decide +kernel
theorem dX6_lastOf_7 : decode cX6_lastOf 7 = .ok (.aload_n 0, 1) := by decide +kernel
theorem dX6_lastOf_8 : decode cX6_lastOf 8 = .ok (.getfield 89, 3) := by decide +kernel
theorem dX6_lastOf_11 : decode cX6_lastOf 11 = .ok (.if_icmp .ge 47, 3) := by decide +kernel
theorem dX6_lastOf_14 : decode cX6_lastOf 14 = .ok (.aload_n 0, 1) := by decide +kernel
theorem dX6_lastOf_15 : decode cX6_lastOf 15 = .ok (.getfield 22, 3) := by decide +kernel
theorem dX6_lastOf_18 : decode cX6_lastOf 18 = .ok (.iload 4, 2) := by decide +kernel
theorem dX6_lastOf_20 : decode cX6_lastOf 20 = .ok (.iaload, 1) := by decide +kernel
theorem dX6_lastOf_21 : decode cX6_lastOf 21 = .ok (.iload_n 1, 1) := by decide +kernel
theorem dX6_lastOf_22 : decode cX6_lastOf 22 = .ok (.if_icmp .ne 28, 3) := by decide +kernel
theorem dX6_lastOf_25 : decode cX6_lastOf 25 = .ok (.aload_n 0, 1) := by decide +kernel
theorem dX6_lastOf_26 : decode cX6_lastOf 26 = .ok (.getfield 31, 3) := by decide +kernel
theorem dX6_lastOf_29 : decode cX6_lastOf 29 = .ok (.iload 4, 2) := by decide +kernel
theorem dX6_lastOf_31 : decode cX6_lastOf 31 = .ok (.iaload, 1) := by decide +kernel
theorem dX6_lastOf_32 : decode cX6_lastOf 32 = .ok (.iload_n 2, 1) := by decide +kernel
theorem dX6_lastOf_33 : decode cX6_lastOf 33 = .ok (.if_icmp .gt 17, 3) := by decide +kernel
theorem dX6_lastOf_36 : decode cX6_lastOf 36 = .ok (.iload 4, 2) := by decide +kernel
theorem dX6_lastOf_38 : decode cX6_lastOf 38 = .ok (.aload_n 0, 1) := by decide +kernel
theorem dX6_lastOf_39 : decode cX6_lastOf 39 = .ok (.getfield 44, 3) := by decide +kernel
theorem dX6_lastOf_42 : decode cX6_lastOf 42 = .ok (.if_icmp .eq 8, 3) := by decide +kernel
theorem dX6_lastOf_45 : decode cX6_lastOf 45 = .ok (.iload 4, 2) := by decide +kernel
theorem dX6_lastOf_47 : decode cX6_lastOf 47 = .ok (.goto 4, 3) := by decide +kernel
theorem dX6_lastOf_50 : decode cX6_lastOf 50 = .ok (.iload_n 3, 1) := by decide +kernel
theorem dX6_lastOf_51 : decode cX6_lastOf 51 = .ok (.istore_n 3, 1) := by decide +kernel
theorem dX6_lastOf_52 : decode cX6_lastOf 52 = .ok (.iinc 4 1, 3) := by decide +kernel
theorem dX6_lastOf_55 : decode cX6_lastOf 55 = .ok (.goto (-50), 3) := by decide +kernel
theorem dX6_lastOf_58 : decode cX6_lastOf 58 = .ok (.iload_n 3, 1) := by decide +kernel
theorem dX6_lastOf_59 : decode cX6_lastOf 59 = .ok (.iconst (-1), 1) := by decide +kernel
theorem dX6_lastOf_60 : decode cX6_lastOf 60 = .ok (.if_icmp .eq 13, 3) := by decide +kernel
theorem dX6_lastOf_63 : decode cX6_lastOf 63 = .ok (.aload_n 0, 1) := by decide +kernel
theorem dX6_lastOf_64 : decode cX6_lastOf 64 = .ok (.getfield 25, 3) := by decide +kernel
theorem dX6_lastOf_67 : decode cX6_lastOf 67 = .ok (.iload_n 3, 1) := by decide +kernel
theorem dX6_lastOf_68 : decode cX6_lastOf 68 = .ok (.iaload, 1) := by decide +kernel
theorem dX6_lastOf_69 : decode cX6_lastOf 69 = .ok (.iconst 5, 1) := by decide +kernel
theorem dX6_lastOf_70 : decode cX6_lastOf 70 = .ok (.if_icmp .ne 7, 3) := by decide +kernel
theorem dX6_lastOf_73 : decode cX6_lastOf 73 = .ok (.iconst (-1), 1) := by decide +kernel
theorem dX6_lastOf_74 : decode cX6_lastOf 74 = .ok (.goto 4, 3) := by decide +kernel
theorem dX6_lastOf_77 : decode cX6_lastOf 77 = .ok (.iload_n 3, 1) := by decide +kernel
theorem dX6_lastOf_78 : decode cX6_lastOf 78 = .ok (.ireturn, 1) := by decide +kernel
theorem dX6_thingBy_0 : decode cX6_thingBy 0 = .ok (.aload_n 0, 1) := by decide +kernel
theorem dX6_thingBy_1 : decode cX6_thingBy 1 = .ok (.iload_n 1, 1) := by decide +kernel
theorem dX6_thingBy_2 : decode cX6_thingBy 2 = .ok (.iload_n 2, 1) := by decide +kernel
theorem dX6_thingBy_3 : decode cX6_thingBy 3 = .ok (.invokevirtual 152, 3) := by decide +kernel
theorem dX6_thingBy_6 : decode cX6_thingBy 6 = .ok (.istore 4, 2) := by decide +kernel
theorem dX6_thingBy_8 : decode cX6_thingBy 8 = .ok (.iload 4, 2) := by decide +kernel
theorem dX6_thingBy_10 : decode cX6_thingBy 10 = .ok (.iconst (-1), 1) := by decide +kernel
theorem dX6_thingBy_11 : decode cX6_thingBy 11 = .ok (.if_icmp .ne 7, 3) := by decide +kernel
theorem dX6_thingBy_14 : decode cX6_thingBy 14 = .ok (.iconst (-1), 1) := by decide +kernel
theorem dX6_thingBy_15 : decode cX6_thingBy 15 = .ok (.goto 34, 3) := by decide +kernel
theorem dX6_thingBy_18 : decode cX6_thingBy 18 = .ok (.iload_n 3, 1) := by decide +kernel
theorem dX6_thingBy_19 : decode cX6_thingBy 19 = .ok (.ifCond .ne 13, 3) := by decide +kernel
theorem dX6_thingBy_22 : decode cX6_thingBy 22 = .ok (.aload_n 0, 1) := by decide +kernel
theorem dX6_thingBy_23 : decode cX6_thingBy 23 = .ok (.getfield 25, 3) := by decide +kernel
theorem dX6_thingBy_26 : decode cX6_thingBy 26 = .ok (.iload 4, 2) := by decide +kernel
theorem dX6_thingBy_28 : decode cX6_thingBy 28 = .ok (.iaload, 1) := by decide +kernel
theorem dX6_thingBy_29 : decode cX6_thingBy 29 = .ok (.goto 20, 3) := by decide +kernel
theorem dX6_thingBy_32 : decode cX6_thingBy 32 = .ok (.iload_n 3, 1) := by decide +kernel
theorem dX6_thingBy_33 : decode cX6_thingBy 33 = .ok (.iconst 1, 1) := by decide +kernel
theorem dX6_thingBy_34 : decode cX6_thingBy 34 = .ok (.if_icmp .ne 13, 3) := by decide +kernel
theorem dX6_thingBy_37 : decode cX6_thingBy 37 = .ok (.aload_n 0, 1) := by decide +kernel
theorem dX6_thingBy_38 : decode cX6_thingBy 38 = .ok (.getfield 28, 3) := by decide +kernel
theorem dX6_thingBy_41 : decode cX6_thingBy 41 = .ok (.iload 4, 2) := by decide +kernel
theorem dX6_thingBy_43 : decode cX6_thingBy 43 = .ok (.iaload, 1) := by decide +kernel
theorem dX6_thingBy_44 : decode cX6_thingBy 44 = .ok (.goto 5, 3) := by decide +kernel
theorem dX6_thingBy_47 : decode cX6_thingBy 47 = .ok (.iload 4, 2) := by decide +kernel
theorem dX6_thingBy_49 : decode cX6_thingBy 49 = .ok (.ireturn, 1) := by decide +kernel
theorem dX6_isThing_0 : decode cX6_isThing 0 = .ok (.iload_n 0, 1) := by decide +kernel
theorem dX6_isThing_1 : decode cX6_isThing 1 = .ok (.i2l, 1) := by decide +kernel
theorem dX6_isThing_2 : decode cX6_isThing 2 = .ok (.lconst 0, 1) := by decide +kernel
theorem dX6_isThing_3 : decode cX6_isThing 3 = .ok (.ldc2_w 81, 3) := by decide +kernel
theorem dX6_isThing_6 : decode cX6_isThing 6 = .ok (.invokestatic 51, 3) := by decide +kernel
theorem dX6_isThing_9 : decode cX6_isThing 9 = .ok (.ireturn, 1) := by decide +kernel
theorem dX6_thing_0 : decode cX6_thing 0 = .ok (.iload_n 1, 1) := by decide +kernel
theorem dX6_thing_1 : decode cX6_thing 1 = .ok (.invokestatic 155, 3) := by decide +kernel
theorem dX6_thing_4 : decode cX6_thing 4 = .ok (.ifCond .eq 33, 3) := by decide +kernel
theorem dX6_thing_7 : decode cX6_thing 7 = .ok (.aload_n 0, 1) := by decide +kernel
theorem dX6_thing_8 : decode cX6_thing 8 = .ok (.iload_n 2, 1) := by decide +kernel
theorem dX6_thing_9 : decode cX6_thing 9 = .ok (.invokevirtual 146, 3) := by decide +kernel
theorem dX6_thing_12 : decode cX6_thing 12 = .ok (.ifCond .eq 25, 3) := by decide +kernel
theorem dX6_thing_15 : decode cX6_thing 15 = .ok (.iload_n 3, 1) := by decide +kernel
theorem dX6_thing_16 : decode cX6_thing 16 = .ok (.i2l, 1) := by decide +kernel
theorem dX6_thing_17 : decode cX6_thing 17 = .ok (.lconst 0, 1) := by decide +kernel
theorem dX6_thing_18 : decode cX6_thing 18 = .ok (.ldc2_w 64, 3) := by decide +kernel
theorem dX6_thing_21 : decode cX6_thing 21 = .ok (.invokestatic 51, 3) := by decide +kernel
theorem dX6_thing_24 : decode cX6_thing 24 = .ok (.ifCond .eq 13, 3) := by decide +kernel
theorem dX6_thing_27 : decode cX6_thing 27 = .ok (.aload_n 0, 1) := by decide +kernel
theorem dX6_thing_28 : decode cX6_thing 28 = .ok (.iload_n 1, 1) := by decide +kernel
theorem dX6_thing_29 : decode cX6_thing 29 = .ok (.iload_n 2, 1) := by decide +kernel
theorem dX6_thing_30 : decode cX6_thing 30 = .ok (.iload_n 3, 1) := by decide +kernel
theorem dX6_thing_31 : decode cX6_thing 31 = .ok (.invokevirtual 158, 3) := by decide +kernel
theorem dX6_thing_34 : decode cX6_thing 34 = .ok (.goto 5, 3) := by decide +kernel
theorem dX6_thing_37 : decode cX6_thing 37 = .ok (.bipush (-2), 2) := by decide +kernel
theorem dX6_thing_39 : decode cX6_thing 39 = .ok (.ireturn, 1) := by decide +kernel
theorem dX6_isShadowed_0 : decode cX6_isShadowed 0 = .ok (.iconst (-1), 1) := by decide +kernel
theorem dX6_isShadowed_1 : decode cX6_isShadowed 1 = .ok (.istore_n 3, 1) := by decide +kernel
theorem dX6_isShadowed_2 : decode cX6_isShadowed 2 = .ok (.iconst 0, 1) := by decide +kernel
theorem dX6_isShadowed_3 : decode cX6_isShadowed 3 = .ok (.istore 4, 2) := by decide +kernel
theorem dX6_isShadowed_5 : decode cX6_isShadowed 5 = .ok (.iconst 0, 1) := by decide +kernel
theorem dX6_isShadowed_6 : decode cX6_isShadowed 6 = .ok (.istore 5, 2) := by decide +kernel
theorem dX6_isShadowed_8 : decode cX6_isShadowed 8 = .ok (.iload 5, 2) := by decide +kernel
theorem dX6_isShadowed_10 : decode cX6_isShadowed 10 = .ok (.aload_n 0, 1) := by decide +kernel
theorem dX6_isShadowed_11 : decode cX6_isShadowed 11 = .ok (.getfield 89, 3) := by decide +kernel
theorem dX6_isShadowed_14 : decode cX6_isShadowed 14 = .ok (.if_icmp .ge 92, 3) := by decide +kernel
theorem dX6_isShadowed_17 : decode cX6_isShadowed 17 = .ok (.aload_n 0, 1) := by decide +kernel
theorem dX6_isShadowed_18 : decode cX6_isShadowed 18 = .ok (.getfield 22, 3) := by decide +kernel
theorem dX6_isShadowed_21 : decode cX6_isShadowed 21 = .ok (.iload 5, 2) := by decide +kernel
theorem dX6_isShadowed_23 : decode cX6_isShadowed 23 = .ok (.iaload, 1) := by decide +kernel
theorem dX6_isShadowed_24 : decode cX6_isShadowed 24 = .ok (.iload_n 1, 1) := by decide +kernel
theorem dX6_isShadowed_25 : decode cX6_isShadowed 25 = .ok (.if_icmp .ne 75, 3) := by decide +kernel
theorem dX6_isShadowed_28 : decode cX6_isShadowed 28 = .ok (.aload_n 0, 1) := by decide +kernel
theorem dX6_isShadowed_29 : decode cX6_isShadowed 29 = .ok (.getfield 31, 3) := by decide +kernel
theorem dX6_isShadowed_32 : decode cX6_isShadowed 32 = .ok (.iload 5, 2) := by decide +kernel
theorem dX6_isShadowed_34 : decode cX6_isShadowed 34 = .ok (.iaload, 1) := by decide +kernel
theorem dX6_isShadowed_35 : decode cX6_isShadowed 35 = .ok (.iload_n 2, 1) := by decide +kernel
theorem dX6_isShadowed_36 : decode cX6_isShadowed 36 = .ok (.if_icmp .ne 64, 3) := by decide +kernel
theorem dX6_isShadowed_39 : decode cX6_isShadowed 39 = .ok (.iload 5, 2) := by decide +kernel
theorem dX6_isShadowed_41 : decode cX6_isShadowed 41 = .ok (.aload_n 0, 1) := by decide +kernel
theorem dX6_isShadowed_42 : decode cX6_isShadowed 42 = .ok (.getfield 44, 3) := by decide +kernel
theorem dX6_isShadowed_45 : decode cX6_isShadowed 45 = .ok (.if_icmp .eq 55, 3) := by decide +kernel
theorem dX6_isShadowed_48 : decode cX6_isShadowed 48 = .ok (.iload 4, 2) := by decide +kernel
theorem dX6_isShadowed_50 : decode cX6_isShadowed 50 = .ok (.ifCond .ne 40, 3) := by decide +kernel
theorem dX6_isShadowed_53 : decode cX6_isShadowed 53 = .ok (.iload_n 3, 1) := by decide +kernel
theorem dX6_isShadowed_54 : decode cX6_isShadowed 54 = .ok (.iconst (-1), 1) := by decide +kernel
theorem dX6_isShadowed_55 : decode cX6_isShadowed 55 = .ok (.if_icmp .eq 39, 3) := by decide +kernel
theorem dX6_isShadowed_58 : decode cX6_isShadowed 58 = .ok (.aload_n 0, 1) := by decide +kernel
theorem dX6_isShadowed_59 : decode cX6_isShadowed 59 = .ok (.getfield 25, 3) := by decide +kernel
theorem dX6_isShadowed_62 : decode cX6_isShadowed 62 = .ok (.iload_n 3, 1) := by decide +kernel
theorem dX6_isShadowed_63 : decode cX6_isShadowed 63 = .ok (.iaload, 1) := by decide +kernel
theorem dX6_isShadowed_64 : decode cX6_isShadowed 64 = .ok (.aload_n 0, 1) := by decide +kernel
theorem dX6_isShadowed_65 : decode cX6_isShadowed 65 = .ok (.getfield 25, 3) := by decide +kernel
theorem dX6_isShadowed_68 : decode cX6_isShadowed 68 = .ok (.iload 5, 2) := by decide +kernel
theorem dX6_isShadowed_70 : decode cX6_isShadowed 70 = .ok (.iaload, 1) := by decide +kernel
theorem dX6_isShadowed_71 : decode cX6_isShadowed 71 = .ok (.if_icmp .ne 19, 3) := by decide +kernel
theorem dX6_isShadowed_74 : decode cX6_isShadowed 74 = .ok (.aload_n 0, 1) := by decide +kernel
theorem dX6_isShadowed_75 : decode cX6_isShadowed 75 = .ok (.getfield 28, 3) := by decide +kernel
theorem dX6_isShadowed_78 : decode cX6_isShadowed 78 = .ok (.iload_n 3, 1) := by decide +kernel
theorem dX6_isShadowed_79 : decode cX6_isShadowed 79 = .ok (.iaload, 1) := by decide +kernel
theorem dX6_isShadowed_80 : decode cX6_isShadowed 80 = .ok (.aload_n 0, 1) := by decide +kernel
theorem dX6_isShadowed_81 : decode cX6_isShadowed 81 = .ok (.getfield 28, 3) := by decide +kernel
theorem dX6_isShadowed_84 : decode cX6_isShadowed 84 = .ok (.iload 5, 2) := by decide +kernel
theorem dX6_isShadowed_86 : decode cX6_isShadowed 86 = .ok (.iaload, 1) := by decide +kernel
theorem dX6_isShadowed_87 : decode cX6_isShadowed 87 = .ok (.if_icmp .eq 7, 3) := by decide +kernel
theorem dX6_isShadowed_90 : decode cX6_isShadowed 90 = .ok (.iconst 1, 1) := by decide +kernel
theorem dX6_isShadowed_91 : decode cX6_isShadowed 91 = .ok (.goto 4, 3) := by decide +kernel
theorem dX6_isShadowed_94 : decode cX6_isShadowed 94 = .ok (.iconst 0, 1) := by decide +kernel
theorem dX6_isShadowed_95 : decode cX6_isShadowed 95 = .ok (.istore 4, 2) := by decide +kernel
theorem dX6_isShadowed_97 : decode cX6_isShadowed 97 = .ok (.iload 5, 2) := by decide +kernel
theorem dX6_isShadowed_99 : decode cX6_isShadowed 99 = .ok (.istore_n 3, 1) := by decide +kernel
theorem dX6_isShadowed_100 : decode cX6_isShadowed 100 = .ok (.iinc 5 1, 3) := by decide +kernel
theorem dX6_isShadowed_103 : decode cX6_isShadowed 103 = .ok (.goto (-95), 3) := by decide +kernel
theorem dX6_isShadowed_106 : decode cX6_isShadowed 106 = .ok (.iload 4, 2) := by decide +kernel
theorem dX6_isShadowed_108 : decode cX6_isShadowed 108 = .ok (.ireturn, 1) := by decide +kernel
theorem dX6_shadowsIn_0 : decode cX6_shadowsIn 0 = .ok (.iconst 0, 1) := by decide +kernel
theorem dX6_shadowsIn_1 : decode cX6_shadowsIn 1 = .ok (.istore_n 2, 1) := by decide +kernel
theorem dX6_shadowsIn_2 : decode cX6_shadowsIn 2 = .ok (.iconst 0, 1) := by decide +kernel
theorem dX6_shadowsIn_3 : decode cX6_shadowsIn 3 = .ok (.istore_n 3, 1) := by decide +kernel
theorem dX6_shadowsIn_4 : decode cX6_shadowsIn 4 = .ok (.iload_n 3, 1) := by decide +kernel
theorem dX6_shadowsIn_5 : decode cX6_shadowsIn 5 = .ok (.bipush 16, 2) := by decide +kernel
theorem dX6_shadowsIn_7 : decode cX6_shadowsIn 7 = .ok (.if_icmp .ge 28, 3) := by decide +kernel
theorem dX6_shadowsIn_10 : decode cX6_shadowsIn 10 = .ok (.iload_n 2, 1) := by decide +kernel
theorem dX6_shadowsIn_11 : decode cX6_shadowsIn 11 = .ok (.aload_n 0, 1) := by decide +kernel
theorem dX6_shadowsIn_12 : decode cX6_shadowsIn 12 = .ok (.iload_n 3, 1) := by decide +kernel
theorem dX6_shadowsIn_13 : decode cX6_shadowsIn 13 = .ok (.iload_n 1, 1) := by decide +kernel
theorem dX6_shadowsIn_14 : decode cX6_shadowsIn 14 = .ok (.invokevirtual 161, 3) := by decide +kernel
theorem dX6_shadowsIn_17 : decode cX6_shadowsIn 17 = .ok (.ifCond .eq 9, 3) := by decide +kernel
theorem dX6_shadowsIn_20 : decode cX6_shadowsIn 20 = .ok (.iconst 1, 1) := by decide +kernel
theorem dX6_shadowsIn_21 : decode cX6_shadowsIn 21 = .ok (.iload_n 3, 1) := by decide +kernel
theorem dX6_shadowsIn_22 : decode cX6_shadowsIn 22 = .ok (.ishl, 1) := by decide +kernel
theorem dX6_shadowsIn_23 : decode cX6_shadowsIn 23 = .ok (.goto 4, 3) := by decide +kernel
theorem dX6_shadowsIn_26 : decode cX6_shadowsIn 26 = .ok (.iconst 0, 1) := by decide +kernel
theorem dX6_shadowsIn_27 : decode cX6_shadowsIn 27 = .ok (.ior, 1) := by decide +kernel
theorem dX6_shadowsIn_28 : decode cX6_shadowsIn 28 = .ok (.istore_n 2, 1) := by decide +kernel
theorem dX6_shadowsIn_29 : decode cX6_shadowsIn 29 = .ok (.iinc 3 1, 3) := by decide +kernel
theorem dX6_shadowsIn_32 : decode cX6_shadowsIn 32 = .ok (.goto (-28), 3) := by decide +kernel
theorem dX6_shadowsIn_35 : decode cX6_shadowsIn 35 = .ok (.iload_n 2, 1) := by decide +kernel
theorem dX6_shadowsIn_36 : decode cX6_shadowsIn 36 = .ok (.ireturn, 1) := by decide +kernel
theorem dX6_shadows_0 : decode cX6_shadows 0 = .ok (.aload_n 0, 1) := by decide +kernel
theorem dX6_shadows_1 : decode cX6_shadows 1 = .ok (.iload_n 1, 1) := by decide +kernel
theorem dX6_shadows_2 : decode cX6_shadows 2 = .ok (.invokevirtual 146, 3) := by decide +kernel
theorem dX6_shadows_5 : decode cX6_shadows 5 = .ok (.ifCond .eq 11, 3) := by decide +kernel
theorem dX6_shadows_8 : decode cX6_shadows 8 = .ok (.aload_n 0, 1) := by decide +kernel
theorem dX6_shadows_9 : decode cX6_shadows 9 = .ok (.iload_n 1, 1) := by decide +kernel
theorem dX6_shadows_10 : decode cX6_shadows 10 = .ok (.invokevirtual 164, 3) := by decide +kernel
theorem dX6_shadows_13 : decode cX6_shadows 13 = .ok (.goto 5, 3) := by decide +kernel
theorem dX6_shadows_16 : decode cX6_shadows 16 = .ok (.bipush (-2), 2) := by decide +kernel
theorem dX6_shadows_18 : decode cX6_shadows 18 = .ok (.ireturn, 1) := by decide +kernel
theorem dX6_usual_0 : decode cX6_usual 0 = .ok (.iload_n 2, 1) := by decide +kernel
theorem dX6_usual_1 : decode cX6_usual 1 = .ok (.ifCond .ne 7, 3) := by decide +kernel
theorem dX6_usual_4 : decode cX6_usual 4 = .ok (.iconst 0, 1) := by decide +kernel
theorem dX6_usual_5 : decode cX6_usual 5 = .ok (.goto 41, 3) := by decide +kernel
theorem dX6_usual_8 : decode cX6_usual 8 = .ok (.iload_n 2, 1) := by decide +kernel
theorem dX6_usual_9 : decode cX6_usual 9 = .ok (.iconst 1, 1) := by decide +kernel
theorem dX6_usual_10 : decode cX6_usual 10 = .ok (.if_icmp .ne 11, 3) := by decide +kernel
theorem dX6_usual_13 : decode cX6_usual 13 = .ok (.aload_n 0, 1) := by decide +kernel
theorem dX6_usual_14 : decode cX6_usual 14 = .ok (.iload_n 1, 1) := by decide +kernel
theorem dX6_usual_15 : decode cX6_usual 15 = .ok (.invokevirtual 135, 3) := by decide +kernel
theorem dX6_usual_18 : decode cX6_usual 18 = .ok (.goto 28, 3) := by decide +kernel
theorem dX6_usual_21 : decode cX6_usual 21 = .ok (.iload_n 2, 1) := by decide +kernel
theorem dX6_usual_22 : decode cX6_usual 22 = .ok (.iconst 2, 1) := by decide +kernel
theorem dX6_usual_23 : decode cX6_usual 23 = .ok (.if_icmp .ne 13, 3) := by decide +kernel
theorem dX6_usual_26 : decode cX6_usual 26 = .ok (.aload_n 0, 1) := by decide +kernel
theorem dX6_usual_27 : decode cX6_usual 27 = .ok (.iload_n 1, 1) := by decide +kernel
theorem dX6_usual_28 : decode cX6_usual 28 = .ok (.invokevirtual 135, 3) := by decide +kernel
theorem dX6_usual_31 : decode cX6_usual 31 = .ok (.iconst 5, 1) := by decide +kernel
theorem dX6_usual_32 : decode cX6_usual 32 = .ok (.iadd, 1) := by decide +kernel
theorem dX6_usual_33 : decode cX6_usual 33 = .ok (.goto 13, 3) := by decide +kernel
theorem dX6_usual_36 : decode cX6_usual 36 = .ok (.aload_n 0, 1) := by decide +kernel
theorem dX6_usual_37 : decode cX6_usual 37 = .ok (.aload_n 0, 1) := by decide +kernel
theorem dX6_usual_38 : decode cX6_usual 38 = .ok (.getfield 31, 3) := by decide +kernel
theorem dX6_usual_41 : decode cX6_usual 41 = .ok (.iload_n 1, 1) := by decide +kernel
theorem dX6_usual_42 : decode cX6_usual 42 = .ok (.iaload, 1) := by decide +kernel
theorem dX6_usual_43 : decode cX6_usual 43 = .ok (.invokevirtual 143, 3) := by decide +kernel
theorem dX6_usual_46 : decode cX6_usual 46 = .ok (.ireturn, 1) := by decide +kernel
theorem dX6_coverOf_0 : decode cX6_coverOf 0 = .ok (.aload_n 0, 1) := by decide +kernel
theorem dX6_coverOf_1 : decode cX6_coverOf 1 = .ok (.getfield 34, 3) := by decide +kernel
theorem dX6_coverOf_4 : decode cX6_coverOf 4 = .ok (.iload_n 1, 1) := by decide +kernel
theorem dX6_coverOf_5 : decode cX6_coverOf 5 = .ok (.baload, 1) := by decide +kernel
theorem dX6_coverOf_6 : decode cX6_coverOf 6 = .ok (.ifCond .eq 16, 3) := by decide +kernel
theorem dX6_coverOf_9 : decode cX6_coverOf 9 = .ok (.aload_n 0, 1) := by decide +kernel
theorem dX6_coverOf_10 : decode cX6_coverOf 10 = .ok (.getfield 38, 3) := by decide +kernel
theorem dX6_coverOf_13 : decode cX6_coverOf 13 = .ok (.iconst 4, 1) := by decide +kernel
theorem dX6_coverOf_14 : decode cX6_coverOf 14 = .ok (.iload_n 1, 1) := by decide +kernel
theorem dX6_coverOf_15 : decode cX6_coverOf 15 = .ok (.imul, 1) := by decide +kernel
theorem dX6_coverOf_16 : decode cX6_coverOf 16 = .ok (.iload_n 2, 1) := by decide +kernel
theorem dX6_coverOf_17 : decode cX6_coverOf 17 = .ok (.iadd, 1) := by decide +kernel
theorem dX6_coverOf_18 : decode cX6_coverOf 18 = .ok (.iaload, 1) := by decide +kernel
theorem dX6_coverOf_19 : decode cX6_coverOf 19 = .ok (.goto 9, 3) := by decide +kernel
theorem dX6_coverOf_22 : decode cX6_coverOf 22 = .ok (.aload_n 0, 1) := by decide +kernel
theorem dX6_coverOf_23 : decode cX6_coverOf 23 = .ok (.iload_n 1, 1) := by decide +kernel
theorem dX6_coverOf_24 : decode cX6_coverOf 24 = .ok (.iload_n 2, 1) := by decide +kernel
theorem dX6_coverOf_25 : decode cX6_coverOf 25 = .ok (.invokevirtual 167, 3) := by decide +kernel
theorem dX6_coverOf_28 : decode cX6_coverOf 28 = .ok (.ireturn, 1) := by decide +kernel
theorem dX6_covers_0 : decode cX6_covers 0 = .ok (.aload_n 0, 1) := by decide +kernel
theorem dX6_covers_1 : decode cX6_covers 1 = .ok (.iload_n 1, 1) := by decide +kernel
theorem dX6_covers_2 : decode cX6_covers 2 = .ok (.invokevirtual 106, 3) := by decide +kernel
theorem dX6_covers_5 : decode cX6_covers 5 = .ok (.ifCond .eq 15, 3) := by decide +kernel
theorem dX6_covers_8 : decode cX6_covers 8 = .ok (.iload_n 2, 1) := by decide +kernel
theorem dX6_covers_9 : decode cX6_covers 9 = .ok (.i2l, 1) := by decide +kernel
theorem dX6_covers_10 : decode cX6_covers 10 = .ok (.lconst 0, 1) := by decide +kernel
theorem dX6_covers_11 : decode cX6_covers 11 = .ok (.ldc2_w 58, 3) := by decide +kernel
theorem dX6_covers_14 : decode cX6_covers 14 = .ok (.invokestatic 51, 3) := by decide +kernel
theorem dX6_covers_17 : decode cX6_covers 17 = .ok (.ifCond .ne 6, 3) := by decide +kernel
theorem dX6_covers_20 : decode cX6_covers 20 = .ok (.bipush (-2), 2) := by decide +kernel
theorem dX6_covers_22 : decode cX6_covers 22 = .ok (.ireturn, 1) := by decide +kernel
theorem dX6_covers_23 : decode cX6_covers 23 = .ok (.aload_n 0, 1) := by decide +kernel
theorem dX6_covers_24 : decode cX6_covers 24 = .ok (.iload_n 1, 1) := by decide +kernel
theorem dX6_covers_25 : decode cX6_covers 25 = .ok (.invokevirtual 101, 3) := by decide +kernel
theorem dX6_covers_28 : decode cX6_covers 28 = .ok (.ifCond .eq 12, 3) := by decide +kernel
theorem dX6_covers_31 : decode cX6_covers 31 = .ok (.aload_n 0, 1) := by decide +kernel
theorem dX6_covers_32 : decode cX6_covers 32 = .ok (.iload_n 1, 1) := by decide +kernel
theorem dX6_covers_33 : decode cX6_covers 33 = .ok (.iload_n 2, 1) := by decide +kernel
theorem dX6_covers_34 : decode cX6_covers 34 = .ok (.invokevirtual 170, 3) := by decide +kernel
theorem dX6_covers_37 : decode cX6_covers 37 = .ok (.goto 5, 3) := by decide +kernel
theorem dX6_covers_40 : decode cX6_covers 40 = .ok (.bipush (-3), 2) := by decide +kernel
theorem dX6_covers_42 : decode cX6_covers 42 = .ok (.ireturn, 1) := by decide +kernel
theorem dX6_coveredBy_0 : decode cX6_coveredBy 0 = .ok (.iconst 0, 1) := by decide +kernel
theorem dX6_coveredBy_1 : decode cX6_coveredBy 1 = .ok (.istore_n 2, 1) := by decide +kernel
theorem dX6_coveredBy_2 : decode cX6_coveredBy 2 = .ok (.iconst 0, 1) := by decide +kernel
theorem dX6_coveredBy_3 : decode cX6_coveredBy 3 = .ok (.istore_n 3, 1) := by decide +kernel
theorem dX6_coveredBy_4 : decode cX6_coveredBy 4 = .ok (.iload_n 3, 1) := by decide +kernel
theorem dX6_coveredBy_5 : decode cX6_coveredBy 5 = .ok (.iconst 2, 1) := by decide +kernel
theorem dX6_coveredBy_6 : decode cX6_coveredBy 6 = .ok (.if_icmp .ge 49, 3) := by decide +kernel
theorem dX6_coveredBy_9 : decode cX6_coveredBy 9 = .ok (.aload_n 0, 1) := by decide +kernel
theorem dX6_coveredBy_10 : decode cX6_coveredBy 10 = .ok (.iload_n 1, 1) := by decide +kernel
theorem dX6_coveredBy_11 : decode cX6_coveredBy 11 = .ok (.iconst 2, 1) := by decide +kernel
theorem dX6_coveredBy_12 : decode cX6_coveredBy 12 = .ok (.iload_n 3, 1) := by decide +kernel
theorem dX6_coveredBy_13 : decode cX6_coveredBy 13 = .ok (.imul, 1) := by decide +kernel
theorem dX6_coveredBy_14 : decode cX6_coveredBy 14 = .ok (.invokevirtual 170, 3) := by decide +kernel
theorem dX6_coveredBy_17 : decode cX6_coveredBy 17 = .ok (.aload_n 0, 1) := by decide +kernel
theorem dX6_coveredBy_18 : decode cX6_coveredBy 18 = .ok (.invokevirtual 128, 3) := by decide +kernel
theorem dX6_coveredBy_21 : decode cX6_coveredBy 21 = .ok (.invokestatic 173, 3) := by decide +kernel
theorem dX6_coveredBy_24 : decode cX6_coveredBy 24 = .ok (.istore 4, 2) := by decide +kernel
theorem dX6_coveredBy_26 : decode cX6_coveredBy 26 = .ok (.iload_n 2, 1) := by decide +kernel
theorem dX6_coveredBy_27 : decode cX6_coveredBy 27 = .ok (.aload_n 0, 1) := by decide +kernel
theorem dX6_coveredBy_28 : decode cX6_coveredBy 28 = .ok (.iload_n 1, 1) := by decide +kernel
theorem dX6_coveredBy_29 : decode cX6_coveredBy 29 = .ok (.iconst 2, 1) := by decide +kernel
theorem dX6_coveredBy_30 : decode cX6_coveredBy 30 = .ok (.iload_n 3, 1) := by decide +kernel
theorem dX6_coveredBy_31 : decode cX6_coveredBy 31 = .ok (.imul, 1) := by decide +kernel
theorem dX6_coveredBy_32 : decode cX6_coveredBy 32 = .ok (.iconst 1, 1) := by decide +kernel
theorem dX6_coveredBy_33 : decode cX6_coveredBy 33 = .ok (.iadd, 1) := by decide +kernel
theorem dX6_coveredBy_34 : decode cX6_coveredBy 34 = .ok (.invokevirtual 170, 3) := by decide +kernel
theorem dX6_coveredBy_37 : decode cX6_coveredBy 37 = .ok (.aload_n 0, 1) := by decide +kernel
theorem dX6_coveredBy_38 : decode cX6_coveredBy 38 = .ok (.invokevirtual 128, 3) := by decide +kernel
theorem dX6_coveredBy_41 : decode cX6_coveredBy 41 = .ok (.invokestatic 173, 3) := by decide +kernel
theorem dX6_coveredBy_44 : decode cX6_coveredBy 44 = .ok (.iload 4, 2) := by decide +kernel
theorem dX6_coveredBy_46 : decode cX6_coveredBy 46 = .ok (.isub, 1) := by decide +kernel
theorem dX6_coveredBy_47 : decode cX6_coveredBy 47 = .ok (.iadd, 1) := by decide +kernel
theorem dX6_coveredBy_48 : decode cX6_coveredBy 48 = .ok (.istore_n 2, 1) := by decide +kernel
theorem dX6_coveredBy_49 : decode cX6_coveredBy 49 = .ok (.iinc 3 1, 3) := by decide +kernel
theorem dX6_coveredBy_52 : decode cX6_coveredBy 52 = .ok (.goto (-48), 3) := by decide +kernel
theorem dX6_coveredBy_55 : decode cX6_coveredBy 55 = .ok (.iload_n 2, 1) := by decide +kernel
theorem dX6_coveredBy_56 : decode cX6_coveredBy 56 = .ok (.ireturn, 1) := by decide +kernel
theorem dX6_covered_0 : decode cX6_covered 0 = .ok (.aload_n 0, 1) := by decide +kernel
theorem dX6_covered_1 : decode cX6_covered 1 = .ok (.iload_n 1, 1) := by decide +kernel
theorem dX6_covered_2 : decode cX6_covered 2 = .ok (.invokevirtual 106, 3) := by decide +kernel
theorem dX6_covered_5 : decode cX6_covered 5 = .ok (.ifCond .ne 6, 3) := by decide +kernel
theorem dX6_covered_8 : decode cX6_covered 8 = .ok (.bipush (-2), 2) := by decide +kernel
theorem dX6_covered_10 : decode cX6_covered 10 = .ok (.ireturn, 1) := by decide +kernel
theorem dX6_covered_11 : decode cX6_covered 11 = .ok (.aload_n 0, 1) := by decide +kernel
theorem dX6_covered_12 : decode cX6_covered 12 = .ok (.iload_n 1, 1) := by decide +kernel
theorem dX6_covered_13 : decode cX6_covered 13 = .ok (.invokevirtual 101, 3) := by decide +kernel
theorem dX6_covered_16 : decode cX6_covered 16 = .ok (.ifCond .eq 11, 3) := by decide +kernel
theorem dX6_covered_19 : decode cX6_covered 19 = .ok (.aload_n 0, 1) := by decide +kernel
theorem dX6_covered_20 : decode cX6_covered 20 = .ok (.iload_n 1, 1) := by decide +kernel
theorem dX6_covered_21 : decode cX6_covered 21 = .ok (.invokevirtual 176, 3) := by decide +kernel
theorem dX6_covered_24 : decode cX6_covered 24 = .ok (.goto 5, 3) := by decide +kernel
theorem dX6_covered_27 : decode cX6_covered 27 = .ok (.bipush (-3), 2) := by decide +kernel
theorem dX6_covered_29 : decode cX6_covered 29 = .ok (.ireturn, 1) := by decide +kernel
theorem dX6_numberOf_0 : decode cX6_numberOf 0 = .ok (.bipush 7, 2) := by decide +kernel
theorem dX6_numberOf_2 : decode cX6_numberOf 2 = .ok (.istore_n 2, 1) := by decide +kernel
theorem dX6_numberOf_3 : decode cX6_numberOf 3 = .ok (.iconst 0, 1) := by decide +kernel
theorem dX6_numberOf_4 : decode cX6_numberOf 4 = .ok (.istore_n 3, 1) := by decide +kernel
theorem dX6_numberOf_5 : decode cX6_numberOf 5 = .ok (.iload_n 3, 1) := by decide +kernel
theorem dX6_numberOf_6 : decode cX6_numberOf 6 = .ok (.iconst 2, 1) := by decide +kernel
theorem dX6_numberOf_7 : decode cX6_numberOf 7 = .ok (.if_icmp .ge 63, 3) := by decide +kernel
theorem dX6_numberOf_10 : decode cX6_numberOf 10 = .ok (.aload_n 0, 1) := by decide +kernel
theorem dX6_numberOf_11 : decode cX6_numberOf 11 = .ok (.iload_n 1, 1) := by decide +kernel
theorem dX6_numberOf_12 : decode cX6_numberOf 12 = .ok (.iconst 2, 1) := by decide +kernel
theorem dX6_numberOf_13 : decode cX6_numberOf 13 = .ok (.iload_n 3, 1) := by decide +kernel
theorem dX6_numberOf_14 : decode cX6_numberOf 14 = .ok (.imul, 1) := by decide +kernel
theorem dX6_numberOf_15 : decode cX6_numberOf 15 = .ok (.iconst 1, 1) := by decide +kernel
theorem dX6_numberOf_16 : decode cX6_numberOf 16 = .ok (.iadd, 1) := by decide +kernel
theorem dX6_numberOf_17 : decode cX6_numberOf 17 = .ok (.invokevirtual 170, 3) := by decide +kernel
theorem dX6_numberOf_20 : decode cX6_numberOf 20 = .ok (.aload_n 0, 1) := by decide +kernel
theorem dX6_numberOf_21 : decode cX6_numberOf 21 = .ok (.invokevirtual 128, 3) := by decide +kernel
theorem dX6_numberOf_24 : decode cX6_numberOf 24 = .ok (.invokestatic 173, 3) := by decide +kernel
theorem dX6_numberOf_27 : decode cX6_numberOf 27 = .ok (.istore 4, 2) := by decide +kernel
theorem dX6_numberOf_29 : decode cX6_numberOf 29 = .ok (.aload_n 0, 1) := by decide +kernel
theorem dX6_numberOf_30 : decode cX6_numberOf 30 = .ok (.iload_n 1, 1) := by decide +kernel
theorem dX6_numberOf_31 : decode cX6_numberOf 31 = .ok (.iconst 2, 1) := by decide +kernel
theorem dX6_numberOf_32 : decode cX6_numberOf 32 = .ok (.iload_n 3, 1) := by decide +kernel
theorem dX6_numberOf_33 : decode cX6_numberOf 33 = .ok (.imul, 1) := by decide +kernel
theorem dX6_numberOf_34 : decode cX6_numberOf 34 = .ok (.invokevirtual 170, 3) := by decide +kernel
theorem dX6_numberOf_37 : decode cX6_numberOf 37 = .ok (.istore 5, 2) := by decide +kernel
theorem dX6_numberOf_39 : decode cX6_numberOf 39 = .ok (.iload 5, 2) := by decide +kernel
theorem dX6_numberOf_41 : decode cX6_numberOf 41 = .ok (.iload 4, 2) := by decide +kernel
theorem dX6_numberOf_43 : decode cX6_numberOf 43 = .ok (.if_icmp .ge 21, 3) := by decide +kernel
theorem dX6_numberOf_46 : decode cX6_numberOf 46 = .ok (.bipush 31, 2) := by decide +kernel
theorem dX6_numberOf_48 : decode cX6_numberOf 48 = .ok (.iload_n 2, 1) := by decide +kernel
theorem dX6_numberOf_49 : decode cX6_numberOf 49 = .ok (.imul, 1) := by decide +kernel
theorem dX6_numberOf_50 : decode cX6_numberOf 50 = .ok (.aload_n 0, 1) := by decide +kernel
theorem dX6_numberOf_51 : decode cX6_numberOf 51 = .ok (.iload 5, 2) := by decide +kernel
theorem dX6_numberOf_53 : decode cX6_numberOf 53 = .ok (.invokevirtual 132, 3) := by decide +kernel
theorem dX6_numberOf_56 : decode cX6_numberOf 56 = .ok (.iadd, 1) := by decide +kernel
theorem dX6_numberOf_57 : decode cX6_numberOf 57 = .ok (.istore_n 2, 1) := by decide +kernel
theorem dX6_numberOf_58 : decode cX6_numberOf 58 = .ok (.iinc 5 1, 3) := by decide +kernel
theorem dX6_numberOf_61 : decode cX6_numberOf 61 = .ok (.goto (-22), 3) := by decide +kernel
theorem dX6_numberOf_64 : decode cX6_numberOf 64 = .ok (.iinc 3 1, 3) := by decide +kernel
theorem dX6_numberOf_67 : decode cX6_numberOf 67 = .ok (.goto (-62), 3) := by decide +kernel
theorem dX6_numberOf_70 : decode cX6_numberOf 70 = .ok (.iload_n 2, 1) := by decide +kernel
theorem dX6_numberOf_71 : decode cX6_numberOf 71 = .ok (.ireturn, 1) := by decide +kernel
theorem dX6_numberBy_0 : decode cX6_numberBy 0 = .ok (.aload_n 0, 1) := by decide +kernel
theorem dX6_numberBy_1 : decode cX6_numberBy 1 = .ok (.iload_n 1, 1) := by decide +kernel
theorem dX6_numberBy_2 : decode cX6_numberBy 2 = .ok (.invokevirtual 106, 3) := by decide +kernel
theorem dX6_numberBy_5 : decode cX6_numberBy 5 = .ok (.ifCond .eq 18, 3) := by decide +kernel
theorem dX6_numberBy_8 : decode cX6_numberBy 8 = .ok (.iload_n 2, 1) := by decide +kernel
theorem dX6_numberBy_9 : decode cX6_numberBy 9 = .ok (.invokestatic 179, 3) := by decide +kernel
theorem dX6_numberBy_12 : decode cX6_numberBy 12 = .ok (.ifCond .eq 11, 3) := by decide +kernel
theorem dX6_numberBy_15 : decode cX6_numberBy 15 = .ok (.aload_n 0, 1) := by decide +kernel
theorem dX6_numberBy_16 : decode cX6_numberBy 16 = .ok (.iload_n 1, 1) := by decide +kernel
theorem dX6_numberBy_17 : decode cX6_numberBy 17 = .ok (.invokevirtual 113, 3) := by decide +kernel
theorem dX6_numberBy_20 : decode cX6_numberBy 20 = .ok (.ifCond .ne 8, 3) := by decide +kernel
theorem dX6_numberBy_23 : decode cX6_numberBy 23 = .ok (.ldc 78, 2) := by decide +kernel
theorem dX6_numberBy_25 : decode cX6_numberBy 25 = .ok (.goto 21, 3) := by decide +kernel
theorem dX6_numberBy_28 : decode cX6_numberBy 28 = .ok (.iload_n 2, 1) := by decide +kernel
theorem dX6_numberBy_29 : decode cX6_numberBy 29 = .ok (.ifCond .ne 11, 3) := by decide +kernel
theorem dX6_numberBy_32 : decode cX6_numberBy 32 = .ok (.aload_n 0, 1) := by decide +kernel
theorem dX6_numberBy_33 : decode cX6_numberBy 33 = .ok (.iload_n 1, 1) := by decide +kernel
theorem dX6_numberBy_34 : decode cX6_numberBy 34 = .ok (.invokevirtual 98, 3) := by decide +kernel
theorem dX6_numberBy_37 : decode cX6_numberBy 37 = .ok (.goto 9, 3) := by decide +kernel
theorem dX6_numberBy_40 : decode cX6_numberBy 40 = .ok (.aload_n 0, 1) := by decide +kernel
theorem dX6_numberBy_41 : decode cX6_numberBy 41 = .ok (.getfield 41, 3) := by decide +kernel
theorem dX6_numberBy_44 : decode cX6_numberBy 44 = .ok (.iload_n 1, 1) := by decide +kernel
theorem dX6_numberBy_45 : decode cX6_numberBy 45 = .ok (.iaload, 1) := by decide +kernel
theorem dX6_numberBy_46 : decode cX6_numberBy 46 = .ok (.ireturn, 1) := by decide +kernel
theorem dX6_number_0 : decode cX6_number 0 = .ok (.aload_n 0, 1) := by decide +kernel
theorem dX6_number_1 : decode cX6_number 1 = .ok (.iload_n 1, 1) := by decide +kernel
theorem dX6_number_2 : decode cX6_number 2 = .ok (.iload_n 2, 1) := by decide +kernel
theorem dX6_number_3 : decode cX6_number 3 = .ok (.invokevirtual 182, 3) := by decide +kernel
theorem dX6_number_6 : decode cX6_number 6 = .ok (.ireturn, 1) := by decide +kernel
theorem dX6_flawsOf_0 : decode cX6_flawsOf 0 = .ok (.aload_n 0, 1) := by decide +kernel
theorem dX6_flawsOf_1 : decode cX6_flawsOf 1 = .ok (.iload_n 1, 1) := by decide +kernel
theorem dX6_flawsOf_2 : decode cX6_flawsOf 2 = .ok (.iconst 0, 1) := by decide +kernel
theorem dX6_flawsOf_3 : decode cX6_flawsOf 3 = .ok (.invokevirtual 170, 3) := by decide +kernel
theorem dX6_flawsOf_6 : decode cX6_flawsOf 6 = .ok (.ifCond .eq 7, 3) := by decide +kernel
theorem dX6_flawsOf_9 : decode cX6_flawsOf 9 = .ok (.iconst 1, 1) := by decide +kernel
theorem dX6_flawsOf_10 : decode cX6_flawsOf 10 = .ok (.goto 4, 3) := by decide +kernel
theorem dX6_flawsOf_13 : decode cX6_flawsOf 13 = .ok (.iconst 0, 1) := by decide +kernel
theorem dX6_flawsOf_14 : decode cX6_flawsOf 14 = .ok (.istore_n 2, 1) := by decide +kernel
theorem dX6_flawsOf_15 : decode cX6_flawsOf 15 = .ok (.iload_n 2, 1) := by decide +kernel
theorem dX6_flawsOf_16 : decode cX6_flawsOf 16 = .ok (.aload_n 0, 1) := by decide +kernel
theorem dX6_flawsOf_17 : decode cX6_flawsOf 17 = .ok (.iload_n 1, 1) := by decide +kernel
theorem dX6_flawsOf_18 : decode cX6_flawsOf 18 = .ok (.iconst 1, 1) := by decide +kernel
theorem dX6_flawsOf_19 : decode cX6_flawsOf 19 = .ok (.invokevirtual 170, 3) := by decide +kernel
theorem dX6_flawsOf_22 : decode cX6_flawsOf 22 = .ok (.aload_n 0, 1) := by decide +kernel
theorem dX6_flawsOf_23 : decode cX6_flawsOf 23 = .ok (.iload_n 1, 1) := by decide +kernel
theorem dX6_flawsOf_24 : decode cX6_flawsOf 24 = .ok (.iconst 1, 1) := by decide +kernel
theorem dX6_flawsOf_25 : decode cX6_flawsOf 25 = .ok (.invokevirtual 167, 3) := by decide +kernel
theorem dX6_flawsOf_28 : decode cX6_flawsOf 28 = .ok (.if_icmp .ne 18, 3) := by decide +kernel
theorem dX6_flawsOf_31 : decode cX6_flawsOf 31 = .ok (.aload_n 0, 1) := by decide +kernel
theorem dX6_flawsOf_32 : decode cX6_flawsOf 32 = .ok (.iload_n 1, 1) := by decide +kernel
theorem dX6_flawsOf_33 : decode cX6_flawsOf 33 = .ok (.iconst 2, 1) := by decide +kernel
theorem dX6_flawsOf_34 : decode cX6_flawsOf 34 = .ok (.invokevirtual 170, 3) := by decide +kernel
theorem dX6_flawsOf_37 : decode cX6_flawsOf 37 = .ok (.aload_n 0, 1) := by decide +kernel
theorem dX6_flawsOf_38 : decode cX6_flawsOf 38 = .ok (.iload_n 1, 1) := by decide +kernel
theorem dX6_flawsOf_39 : decode cX6_flawsOf 39 = .ok (.iconst 2, 1) := by decide +kernel
theorem dX6_flawsOf_40 : decode cX6_flawsOf 40 = .ok (.invokevirtual 167, 3) := by decide +kernel
theorem dX6_flawsOf_43 : decode cX6_flawsOf 43 = .ok (.if_icmp .eq 7, 3) := by decide +kernel
theorem dX6_flawsOf_46 : decode cX6_flawsOf 46 = .ok (.iconst 2, 1) := by decide +kernel
theorem dX6_flawsOf_47 : decode cX6_flawsOf 47 = .ok (.goto 4, 3) := by decide +kernel
theorem dX6_flawsOf_50 : decode cX6_flawsOf 50 = .ok (.iconst 0, 1) := by decide +kernel
theorem dX6_flawsOf_51 : decode cX6_flawsOf 51 = .ok (.ior, 1) := by decide +kernel
theorem dX6_flawsOf_52 : decode cX6_flawsOf 52 = .ok (.istore_n 2, 1) := by decide +kernel
theorem dX6_flawsOf_53 : decode cX6_flawsOf 53 = .ok (.iload_n 2, 1) := by decide +kernel
theorem dX6_flawsOf_54 : decode cX6_flawsOf 54 = .ok (.aload_n 0, 1) := by decide +kernel
theorem dX6_flawsOf_55 : decode cX6_flawsOf 55 = .ok (.iload_n 1, 1) := by decide +kernel
theorem dX6_flawsOf_56 : decode cX6_flawsOf 56 = .ok (.iconst 3, 1) := by decide +kernel
theorem dX6_flawsOf_57 : decode cX6_flawsOf 57 = .ok (.invokevirtual 170, 3) := by decide +kernel
theorem dX6_flawsOf_60 : decode cX6_flawsOf 60 = .ok (.aload_n 0, 1) := by decide +kernel
theorem dX6_flawsOf_61 : decode cX6_flawsOf 61 = .ok (.iload_n 1, 1) := by decide +kernel
theorem dX6_flawsOf_62 : decode cX6_flawsOf 62 = .ok (.iconst 3, 1) := by decide +kernel
theorem dX6_flawsOf_63 : decode cX6_flawsOf 63 = .ok (.invokevirtual 167, 3) := by decide +kernel
theorem dX6_flawsOf_66 : decode cX6_flawsOf 66 = .ok (.if_icmp .eq 7, 3) := by decide +kernel
theorem dX6_flawsOf_69 : decode cX6_flawsOf 69 = .ok (.iconst 4, 1) := by decide +kernel
theorem dX6_flawsOf_70 : decode cX6_flawsOf 70 = .ok (.goto 4, 3) := by decide +kernel
theorem dX6_flawsOf_73 : decode cX6_flawsOf 73 = .ok (.iconst 0, 1) := by decide +kernel
theorem dX6_flawsOf_74 : decode cX6_flawsOf 74 = .ok (.ior, 1) := by decide +kernel
theorem dX6_flawsOf_75 : decode cX6_flawsOf 75 = .ok (.istore_n 2, 1) := by decide +kernel
theorem dX6_flawsOf_76 : decode cX6_flawsOf 76 = .ok (.iload_n 2, 1) := by decide +kernel
theorem dX6_flawsOf_77 : decode cX6_flawsOf 77 = .ok (.aload_n 0, 1) := by decide +kernel
theorem dX6_flawsOf_78 : decode cX6_flawsOf 78 = .ok (.iload_n 1, 1) := by decide +kernel
theorem dX6_flawsOf_79 : decode cX6_flawsOf 79 = .ok (.invokevirtual 98, 3) := by decide +kernel
theorem dX6_flawsOf_82 : decode cX6_flawsOf 82 = .ok (.aload_n 0, 1) := by decide +kernel
theorem dX6_flawsOf_83 : decode cX6_flawsOf 83 = .ok (.getfield 41, 3) := by decide +kernel
theorem dX6_flawsOf_86 : decode cX6_flawsOf 86 = .ok (.iload_n 1, 1) := by decide +kernel
theorem dX6_flawsOf_87 : decode cX6_flawsOf 87 = .ok (.iaload, 1) := by decide +kernel
theorem dX6_flawsOf_88 : decode cX6_flawsOf 88 = .ok (.if_icmp .eq 8, 3) := by decide +kernel
theorem dX6_flawsOf_91 : decode cX6_flawsOf 91 = .ok (.bipush 8, 2) := by decide +kernel
theorem dX6_flawsOf_93 : decode cX6_flawsOf 93 = .ok (.goto 4, 3) := by decide +kernel
theorem dX6_flawsOf_96 : decode cX6_flawsOf 96 = .ok (.iconst 0, 1) := by decide +kernel
theorem dX6_flawsOf_97 : decode cX6_flawsOf 97 = .ok (.ior, 1) := by decide +kernel
theorem dX6_flawsOf_98 : decode cX6_flawsOf 98 = .ok (.ireturn, 1) := by decide +kernel
theorem dX6_flaws_0 : decode cX6_flaws 0 = .ok (.aload_n 0, 1) := by decide +kernel
theorem dX6_flaws_1 : decode cX6_flaws 1 = .ok (.iload_n 1, 1) := by decide +kernel
theorem dX6_flaws_2 : decode cX6_flaws 2 = .ok (.invokevirtual 106, 3) := by decide +kernel
theorem dX6_flaws_5 : decode cX6_flaws 5 = .ok (.ifCond .ne 6, 3) := by decide +kernel
theorem dX6_flaws_8 : decode cX6_flaws 8 = .ok (.bipush (-2), 2) := by decide +kernel
theorem dX6_flaws_10 : decode cX6_flaws 10 = .ok (.ireturn, 1) := by decide +kernel
theorem dX6_flaws_11 : decode cX6_flaws 11 = .ok (.aload_n 0, 1) := by decide +kernel
theorem dX6_flaws_12 : decode cX6_flaws 12 = .ok (.iload_n 1, 1) := by decide +kernel
theorem dX6_flaws_13 : decode cX6_flaws 13 = .ok (.invokevirtual 113, 3) := by decide +kernel
theorem dX6_flaws_16 : decode cX6_flaws 16 = .ok (.ifCond .eq 11, 3) := by decide +kernel
theorem dX6_flaws_19 : decode cX6_flaws 19 = .ok (.aload_n 0, 1) := by decide +kernel
theorem dX6_flaws_20 : decode cX6_flaws 20 = .ok (.iload_n 1, 1) := by decide +kernel
theorem dX6_flaws_21 : decode cX6_flaws 21 = .ok (.invokevirtual 185, 3) := by decide +kernel
theorem dX6_flaws_24 : decode cX6_flaws 24 = .ok (.goto 5, 3) := by decide +kernel
theorem dX6_flaws_27 : decode cX6_flaws 27 = .ok (.bipush (-3), 2) := by decide +kernel
theorem dX6_flaws_29 : decode cX6_flaws 29 = .ok (.ireturn, 1) := by decide +kernel
theorem dX6_kindAt_0 : decode cX6_kindAt 0 = .ok (.iload_n 1, 1) := by decide +kernel
theorem dX6_kindAt_1 : decode cX6_kindAt 1 = .ok (.iconst (-1), 1) := by decide +kernel
theorem dX6_kindAt_2 : decode cX6_kindAt 2 = .ok (.if_icmp .ne 7, 3) := by decide +kernel
theorem dX6_kindAt_5 : decode cX6_kindAt 5 = .ok (.iconst (-1), 1) := by decide +kernel
theorem dX6_kindAt_6 : decode cX6_kindAt 6 = .ok (.goto 9, 3) := by decide +kernel
theorem dX6_kindAt_9 : decode cX6_kindAt 9 = .ok (.aload_n 0, 1) := by decide +kernel
theorem dX6_kindAt_10 : decode cX6_kindAt 10 = .ok (.getfield 25, 3) := by decide +kernel
theorem dX6_kindAt_13 : decode cX6_kindAt 13 = .ok (.iload_n 1, 1) := by decide +kernel
theorem dX6_kindAt_14 : decode cX6_kindAt 14 = .ok (.iaload, 1) := by decide +kernel
theorem dX6_kindAt_15 : decode cX6_kindAt 15 = .ok (.ireturn, 1) := by decide +kernel
theorem dX6_isNoteOrNone_0 : decode cX6_isNoteOrNone 0 = .ok (.iload_n 0, 1) := by decide +kernel
theorem dX6_isNoteOrNone_1 : decode cX6_isNoteOrNone 1 = .ok (.iconst (-1), 1) := by decide +kernel
theorem dX6_isNoteOrNone_2 : decode cX6_isNoteOrNone 2 = .ok (.if_icmp .eq 8, 3) := by decide +kernel
theorem dX6_isNoteOrNone_5 : decode cX6_isNoteOrNone 5 = .ok (.iload_n 0, 1) := by decide +kernel
theorem dX6_isNoteOrNone_6 : decode cX6_isNoteOrNone 6 = .ok (.iconst 2, 1) := by decide +kernel
theorem dX6_isNoteOrNone_7 : decode cX6_isNoteOrNone 7 = .ok (.if_icmp .ne 7, 3) := by decide +kernel
theorem dX6_isNoteOrNone_10 : decode cX6_isNoteOrNone 10 = .ok (.iconst 1, 1) := by decide +kernel
theorem dX6_isNoteOrNone_11 : decode cX6_isNoteOrNone 11 = .ok (.goto 4, 3) := by decide +kernel
theorem dX6_isNoteOrNone_14 : decode cX6_isNoteOrNone 14 = .ok (.iconst 0, 1) := by decide +kernel
theorem dX6_isNoteOrNone_15 : decode cX6_isNoteOrNone 15 = .ok (.ireturn, 1) := by decide +kernel
theorem dX6_isFree_0 : decode cX6_isFree 0 = .ok (.iconst 1, 1) := by decide +kernel
theorem dX6_isFree_1 : decode cX6_isFree 1 = .ok (.istore 4, 2) := by decide +kernel
theorem dX6_isFree_3 : decode cX6_isFree 3 = .ok (.iconst 0, 1) := by decide +kernel
theorem dX6_isFree_4 : decode cX6_isFree 4 = .ok (.istore 5, 2) := by decide +kernel
theorem dX6_isFree_6 : decode cX6_isFree 6 = .ok (.iload 5, 2) := by decide +kernel
theorem dX6_isFree_8 : decode cX6_isFree 8 = .ok (.bipush 16, 2) := by decide +kernel
theorem dX6_isFree_10 : decode cX6_isFree 10 = .ok (.if_icmp .ge 43, 3) := by decide +kernel
theorem dX6_isFree_13 : decode cX6_isFree 13 = .ok (.iload 4, 2) := by decide +kernel
theorem dX6_isFree_15 : decode cX6_isFree 15 = .ok (.ifCond .eq 29, 3) := by decide +kernel
theorem dX6_isFree_18 : decode cX6_isFree 18 = .ok (.iload_n 1, 1) := by decide +kernel
theorem dX6_isFree_19 : decode cX6_isFree 19 = .ok (.iload_n 2, 1) := by decide +kernel
theorem dX6_isFree_20 : decode cX6_isFree 20 = .ok (.ixor, 1) := by decide +kernel
theorem dX6_isFree_21 : decode cX6_isFree 21 = .ok (.iload 5, 2) := by decide +kernel
theorem dX6_isFree_23 : decode cX6_isFree 23 = .ok (.invokestatic 188, 3) := by decide +kernel
theorem dX6_isFree_26 : decode cX6_isFree 26 = .ok (.ifCond .eq 14, 3) := by decide +kernel
theorem dX6_isFree_29 : decode cX6_isFree 29 = .ok (.aload_n 0, 1) := by decide +kernel
theorem dX6_isFree_30 : decode cX6_isFree 30 = .ok (.iload 5, 2) := by decide +kernel
theorem dX6_isFree_32 : decode cX6_isFree 32 = .ok (.iload_n 3, 1) := by decide +kernel
theorem dX6_isFree_33 : decode cX6_isFree 33 = .ok (.invokevirtual 152, 3) := by decide +kernel
theorem dX6_isFree_36 : decode cX6_isFree 36 = .ok (.iconst (-1), 1) := by decide +kernel
theorem dX6_isFree_37 : decode cX6_isFree 37 = .ok (.if_icmp .ne 7, 3) := by decide +kernel
theorem dX6_isFree_40 : decode cX6_isFree 40 = .ok (.iconst 1, 1) := by decide +kernel
theorem dX6_isFree_41 : decode cX6_isFree 41 = .ok (.goto 4, 3) := by decide +kernel
theorem dX6_isFree_44 : decode cX6_isFree 44 = .ok (.iconst 0, 1) := by decide +kernel
theorem dX6_isFree_45 : decode cX6_isFree 45 = .ok (.istore 4, 2) := by decide +kernel
theorem dX6_isFree_47 : decode cX6_isFree 47 = .ok (.iinc 5 1, 3) := by decide +kernel
theorem dX6_isFree_50 : decode cX6_isFree 50 = .ok (.goto (-44), 3) := by decide +kernel
theorem dX6_isFree_53 : decode cX6_isFree 53 = .ok (.iload 4, 2) := by decide +kernel
theorem dX6_isFree_55 : decode cX6_isFree 55 = .ok (.ireturn, 1) := by decide +kernel
theorem dX6_sortOf_0 : decode cX6_sortOf 0 = .ok (.aload_n 0, 1) := by decide +kernel
theorem dX6_sortOf_1 : decode cX6_sortOf 1 = .ok (.iload_n 1, 1) := by decide +kernel
theorem dX6_sortOf_2 : decode cX6_sortOf 2 = .ok (.iload_n 2, 1) := by decide +kernel
theorem dX6_sortOf_3 : decode cX6_sortOf 3 = .ok (.invokevirtual 161, 3) := by decide +kernel
theorem dX6_sortOf_6 : decode cX6_sortOf 6 = .ok (.ifCond .eq 5, 3) := by decide +kernel
theorem dX6_sortOf_9 : decode cX6_sortOf 9 = .ok (.iconst 3, 1) := by decide +kernel
theorem dX6_sortOf_10 : decode cX6_sortOf 10 = .ok (.ireturn, 1) := by decide +kernel
theorem dX6_sortOf_11 : decode cX6_sortOf 11 = .ok (.aload_n 0, 1) := by decide +kernel
theorem dX6_sortOf_12 : decode cX6_sortOf 12 = .ok (.iload_n 1, 1) := by decide +kernel
theorem dX6_sortOf_13 : decode cX6_sortOf 13 = .ok (.iload_n 2, 1) := by decide +kernel
theorem dX6_sortOf_14 : decode cX6_sortOf 14 = .ok (.iconst 1, 1) := by decide +kernel
theorem dX6_sortOf_15 : decode cX6_sortOf 15 = .ok (.isub, 1) := by decide +kernel
theorem dX6_sortOf_16 : decode cX6_sortOf 16 = .ok (.invokevirtual 152, 3) := by decide +kernel
theorem dX6_sortOf_19 : decode cX6_sortOf 19 = .ok (.istore 4, 2) := by decide +kernel
theorem dX6_sortOf_21 : decode cX6_sortOf 21 = .ok (.aload_n 0, 1) := by decide +kernel
theorem dX6_sortOf_22 : decode cX6_sortOf 22 = .ok (.iload_n 1, 1) := by decide +kernel
theorem dX6_sortOf_23 : decode cX6_sortOf 23 = .ok (.iload_n 2, 1) := by decide +kernel
theorem dX6_sortOf_24 : decode cX6_sortOf 24 = .ok (.invokevirtual 152, 3) := by decide +kernel
theorem dX6_sortOf_27 : decode cX6_sortOf 27 = .ok (.istore 5, 2) := by decide +kernel
theorem dX6_sortOf_29 : decode cX6_sortOf 29 = .ok (.aload_n 0, 1) := by decide +kernel
theorem dX6_sortOf_30 : decode cX6_sortOf 30 = .ok (.iload 4, 2) := by decide +kernel
theorem dX6_sortOf_32 : decode cX6_sortOf 32 = .ok (.invokevirtual 191, 3) := by decide +kernel
theorem dX6_sortOf_35 : decode cX6_sortOf 35 = .ok (.istore 6, 2) := by decide +kernel
theorem dX6_sortOf_37 : decode cX6_sortOf 37 = .ok (.aload_n 0, 1) := by decide +kernel
theorem dX6_sortOf_38 : decode cX6_sortOf 38 = .ok (.iload 5, 2) := by decide +kernel
theorem dX6_sortOf_40 : decode cX6_sortOf 40 = .ok (.invokevirtual 191, 3) := by decide +kernel
theorem dX6_sortOf_43 : decode cX6_sortOf 43 = .ok (.istore 7, 2) := by decide +kernel
theorem dX6_sortOf_45 : decode cX6_sortOf 45 = .ok (.iload 6, 2) := by decide +kernel
theorem dX6_sortOf_47 : decode cX6_sortOf 47 = .ok (.iload 7, 2) := by decide +kernel
theorem dX6_sortOf_49 : decode cX6_sortOf 49 = .ok (.if_icmp .ne 28, 3) := by decide +kernel
theorem dX6_sortOf_52 : decode cX6_sortOf 52 = .ok (.iload 4, 2) := by decide +kernel
theorem dX6_sortOf_54 : decode cX6_sortOf 54 = .ok (.iconst (-1), 1) := by decide +kernel
theorem dX6_sortOf_55 : decode cX6_sortOf 55 = .ok (.if_icmp .eq 20, 3) := by decide +kernel
theorem dX6_sortOf_58 : decode cX6_sortOf 58 = .ok (.aload_n 0, 1) := by decide +kernel
theorem dX6_sortOf_59 : decode cX6_sortOf 59 = .ok (.getfield 28, 3) := by decide +kernel
theorem dX6_sortOf_62 : decode cX6_sortOf 62 = .ok (.iload 4, 2) := by decide +kernel
theorem dX6_sortOf_64 : decode cX6_sortOf 64 = .ok (.iaload, 1) := by decide +kernel
theorem dX6_sortOf_65 : decode cX6_sortOf 65 = .ok (.aload_n 0, 1) := by decide +kernel
theorem dX6_sortOf_66 : decode cX6_sortOf 66 = .ok (.getfield 28, 3) := by decide +kernel
theorem dX6_sortOf_69 : decode cX6_sortOf 69 = .ok (.iload 5, 2) := by decide +kernel
theorem dX6_sortOf_71 : decode cX6_sortOf 71 = .ok (.iaload, 1) := by decide +kernel
theorem dX6_sortOf_72 : decode cX6_sortOf 72 = .ok (.if_icmp .ne 5, 3) := by decide +kernel
theorem dX6_sortOf_75 : decode cX6_sortOf 75 = .ok (.iconst 0, 1) := by decide +kernel
theorem dX6_sortOf_76 : decode cX6_sortOf 76 = .ok (.ireturn, 1) := by decide +kernel
theorem dX6_sortOf_77 : decode cX6_sortOf 77 = .ok (.iload 6, 2) := by decide +kernel
theorem dX6_sortOf_79 : decode cX6_sortOf 79 = .ok (.iconst 1, 1) := by decide +kernel
theorem dX6_sortOf_80 : decode cX6_sortOf 80 = .ok (.if_icmp .ne 9, 3) := by decide +kernel
theorem dX6_sortOf_83 : decode cX6_sortOf 83 = .ok (.iload 7, 2) := by decide +kernel
theorem dX6_sortOf_85 : decode cX6_sortOf 85 = .ok (.iconst 1, 1) := by decide +kernel
theorem dX6_sortOf_86 : decode cX6_sortOf 86 = .ok (.if_icmp .eq 15, 3) := by decide +kernel
theorem dX6_sortOf_89 : decode cX6_sortOf 89 = .ok (.iload 6, 2) := by decide +kernel
theorem dX6_sortOf_91 : decode cX6_sortOf 91 = .ok (.iconst (-1), 1) := by decide +kernel
theorem dX6_sortOf_92 : decode cX6_sortOf 92 = .ok (.if_icmp .ne 11, 3) := by decide +kernel
theorem dX6_sortOf_95 : decode cX6_sortOf 95 = .ok (.iload 7, 2) := by decide +kernel
theorem dX6_sortOf_97 : decode cX6_sortOf 97 = .ok (.iconst 4, 1) := by decide +kernel
theorem dX6_sortOf_98 : decode cX6_sortOf 98 = .ok (.if_icmp .ne 5, 3) := by decide +kernel
theorem dX6_sortOf_101 : decode cX6_sortOf 101 = .ok (.iconst 1, 1) := by decide +kernel
theorem dX6_sortOf_102 : decode cX6_sortOf 102 = .ok (.ireturn, 1) := by decide +kernel
theorem dX6_sortOf_103 : decode cX6_sortOf 103 = .ok (.iload 6, 2) := by decide +kernel
theorem dX6_sortOf_105 : decode cX6_sortOf 105 = .ok (.invokestatic 194, 3) := by decide +kernel
theorem dX6_sortOf_108 : decode cX6_sortOf 108 = .ok (.ifCond .eq 25, 3) := by decide +kernel
theorem dX6_sortOf_111 : decode cX6_sortOf 111 = .ok (.iload 7, 2) := by decide +kernel
theorem dX6_sortOf_113 : decode cX6_sortOf 113 = .ok (.invokestatic 194, 3) := by decide +kernel
theorem dX6_sortOf_116 : decode cX6_sortOf 116 = .ok (.ifCond .eq 17, 3) := by decide +kernel
theorem dX6_sortOf_119 : decode cX6_sortOf 119 = .ok (.aload_n 0, 1) := by decide +kernel
theorem dX6_sortOf_120 : decode cX6_sortOf 120 = .ok (.iload_n 1, 1) := by decide +kernel
theorem dX6_sortOf_121 : decode cX6_sortOf 121 = .ok (.iload_n 3, 1) := by decide +kernel
theorem dX6_sortOf_122 : decode cX6_sortOf 122 = .ok (.invokevirtual 152, 3) := by decide +kernel
theorem dX6_sortOf_125 : decode cX6_sortOf 125 = .ok (.iconst (-1), 1) := by decide +kernel
theorem dX6_sortOf_126 : decode cX6_sortOf 126 = .ok (.if_icmp .ne 7, 3) := by decide +kernel
theorem dX6_sortOf_129 : decode cX6_sortOf 129 = .ok (.iconst 1, 1) := by decide +kernel
theorem dX6_sortOf_130 : decode cX6_sortOf 130 = .ok (.goto 4, 3) := by decide +kernel
theorem dX6_sortOf_133 : decode cX6_sortOf 133 = .ok (.iconst 0, 1) := by decide +kernel
theorem dX6_sortOf_134 : decode cX6_sortOf 134 = .ok (.istore 8, 2) := by decide +kernel
theorem dX6_sortOf_136 : decode cX6_sortOf 136 = .ok (.iload 6, 2) := by decide +kernel
theorem dX6_sortOf_138 : decode cX6_sortOf 138 = .ok (.iconst 3, 1) := by decide +kernel
theorem dX6_sortOf_139 : decode cX6_sortOf 139 = .ok (.if_icmp .ne 35, 3) := by decide +kernel
theorem dX6_sortOf_142 : decode cX6_sortOf 142 = .ok (.iload 7, 2) := by decide +kernel
theorem dX6_sortOf_144 : decode cX6_sortOf 144 = .ok (.iconst 3, 1) := by decide +kernel
theorem dX6_sortOf_145 : decode cX6_sortOf 145 = .ok (.if_icmp .ne 29, 3) := by decide +kernel
theorem dX6_sortOf_148 : decode cX6_sortOf 148 = .ok (.aload_n 0, 1) := by decide +kernel
theorem dX6_sortOf_149 : decode cX6_sortOf 149 = .ok (.aload_n 0, 1) := by decide +kernel
theorem dX6_sortOf_150 : decode cX6_sortOf 150 = .ok (.getfield 28, 3) := by decide +kernel
theorem dX6_sortOf_153 : decode cX6_sortOf 153 = .ok (.iload 4, 2) := by decide +kernel
theorem dX6_sortOf_155 : decode cX6_sortOf 155 = .ok (.iaload, 1) := by decide +kernel
theorem dX6_sortOf_156 : decode cX6_sortOf 156 = .ok (.aload_n 0, 1) := by decide +kernel
theorem dX6_sortOf_157 : decode cX6_sortOf 157 = .ok (.getfield 28, 3) := by decide +kernel
theorem dX6_sortOf_160 : decode cX6_sortOf 160 = .ok (.iload 5, 2) := by decide +kernel
theorem dX6_sortOf_162 : decode cX6_sortOf 162 = .ok (.iaload, 1) := by decide +kernel
theorem dX6_sortOf_163 : decode cX6_sortOf 163 = .ok (.iload_n 3, 1) := by decide +kernel
theorem dX6_sortOf_164 : decode cX6_sortOf 164 = .ok (.invokevirtual 197, 3) := by decide +kernel
theorem dX6_sortOf_167 : decode cX6_sortOf 167 = .ok (.ifCond .eq 7, 3) := by decide +kernel
theorem dX6_sortOf_170 : decode cX6_sortOf 170 = .ok (.iconst 1, 1) := by decide +kernel
theorem dX6_sortOf_171 : decode cX6_sortOf 171 = .ok (.goto 4, 3) := by decide +kernel
theorem dX6_sortOf_174 : decode cX6_sortOf 174 = .ok (.iconst 0, 1) := by decide +kernel
theorem dX6_sortOf_175 : decode cX6_sortOf 175 = .ok (.istore 9, 2) := by decide +kernel
theorem dX6_sortOf_177 : decode cX6_sortOf 177 = .ok (.iload 8, 2) := by decide +kernel
theorem dX6_sortOf_179 : decode cX6_sortOf 179 = .ok (.ifCond .ne 8, 3) := by decide +kernel
theorem dX6_sortOf_182 : decode cX6_sortOf 182 = .ok (.iload 9, 2) := by decide +kernel
theorem dX6_sortOf_184 : decode cX6_sortOf 184 = .ok (.ifCond .eq 7, 3) := by decide +kernel
theorem dX6_sortOf_187 : decode cX6_sortOf 187 = .ok (.iconst 2, 1) := by decide +kernel
theorem dX6_sortOf_188 : decode cX6_sortOf 188 = .ok (.goto 4, 3) := by decide +kernel
theorem dX6_sortOf_191 : decode cX6_sortOf 191 = .ok (.iconst 3, 1) := by decide +kernel
theorem dX6_sortOf_192 : decode cX6_sortOf 192 = .ok (.ireturn, 1) := by decide +kernel
theorem dX6_verdictOf_0 : decode cX6_verdictOf 0 = .ok (.iconst 0, 1) := by decide +kernel
theorem dX6_verdictOf_1 : decode cX6_verdictOf 1 = .ok (.istore_n 2, 1) := by decide +kernel
theorem dX6_verdictOf_2 : decode cX6_verdictOf 2 = .ok (.bipush 16, 2) := by decide +kernel
theorem dX6_verdictOf_4 : decode cX6_verdictOf 4 = .ok (.aload_n 0, 1) := by decide +kernel
theorem dX6_verdictOf_5 : decode cX6_verdictOf 5 = .ok (.getfield 31, 3) := by decide +kernel
theorem dX6_verdictOf_8 : decode cX6_verdictOf 8 = .ok (.iload_n 1, 1) := by decide +kernel
theorem dX6_verdictOf_9 : decode cX6_verdictOf 9 = .ok (.iaload, 1) := by decide +kernel
theorem dX6_verdictOf_10 : decode cX6_verdictOf 10 = .ok (.iconst 1, 1) := by decide +kernel
theorem dX6_verdictOf_11 : decode cX6_verdictOf 11 = .ok (.iadd, 1) := by decide +kernel
theorem dX6_verdictOf_12 : decode cX6_verdictOf 12 = .ok (.imul, 1) := by decide +kernel
theorem dX6_verdictOf_13 : decode cX6_verdictOf 13 = .ok (.istore_n 3, 1) := by decide +kernel
theorem dX6_verdictOf_14 : decode cX6_verdictOf 14 = .ok (.iload_n 3, 1) := by decide +kernel
theorem dX6_verdictOf_15 : decode cX6_verdictOf 15 = .ok (.bipush 16, 2) := by decide +kernel
theorem dX6_verdictOf_17 : decode cX6_verdictOf 17 = .ok (.aload_n 0, 1) := by decide +kernel
theorem dX6_verdictOf_18 : decode cX6_verdictOf 18 = .ok (.getfield 92, 3) := by decide +kernel
theorem dX6_verdictOf_21 : decode cX6_verdictOf 21 = .ok (.iconst 1, 1) := by decide +kernel
theorem dX6_verdictOf_22 : decode cX6_verdictOf 22 = .ok (.iadd, 1) := by decide +kernel
theorem dX6_verdictOf_23 : decode cX6_verdictOf 23 = .ok (.imul, 1) := by decide +kernel
theorem dX6_verdictOf_24 : decode cX6_verdictOf 24 = .ok (.if_icmp .ge 32, 3) := by decide +kernel
theorem dX6_verdictOf_27 : decode cX6_verdictOf 27 = .ok (.aload_n 0, 1) := by decide +kernel
theorem dX6_verdictOf_28 : decode cX6_verdictOf 28 = .ok (.iload_n 3, 1) := by decide +kernel
theorem dX6_verdictOf_29 : decode cX6_verdictOf 29 = .ok (.bipush 16, 2) := by decide +kernel
theorem dX6_verdictOf_31 : decode cX6_verdictOf 31 = .ok (.irem, 1) := by decide +kernel
theorem dX6_verdictOf_32 : decode cX6_verdictOf 32 = .ok (.iload_n 3, 1) := by decide +kernel
theorem dX6_verdictOf_33 : decode cX6_verdictOf 33 = .ok (.bipush 16, 2) := by decide +kernel
theorem dX6_verdictOf_35 : decode cX6_verdictOf 35 = .ok (.idiv, 1) := by decide +kernel
theorem dX6_verdictOf_36 : decode cX6_verdictOf 36 = .ok (.aload_n 0, 1) := by decide +kernel
theorem dX6_verdictOf_37 : decode cX6_verdictOf 37 = .ok (.getfield 31, 3) := by decide +kernel
theorem dX6_verdictOf_40 : decode cX6_verdictOf 40 = .ok (.iload_n 1, 1) := by decide +kernel
theorem dX6_verdictOf_41 : decode cX6_verdictOf 41 = .ok (.iaload, 1) := by decide +kernel
theorem dX6_verdictOf_42 : decode cX6_verdictOf 42 = .ok (.invokevirtual 201, 3) := by decide +kernel
theorem dX6_verdictOf_45 : decode cX6_verdictOf 45 = .ok (.iload_n 2, 1) := by decide +kernel
theorem dX6_verdictOf_46 : decode cX6_verdictOf 46 = .ok (.invokestatic 204, 3) := by decide +kernel
theorem dX6_verdictOf_49 : decode cX6_verdictOf 49 = .ok (.istore_n 2, 1) := by decide +kernel
theorem dX6_verdictOf_50 : decode cX6_verdictOf 50 = .ok (.iinc 3 1, 3) := by decide +kernel
theorem dX6_verdictOf_53 : decode cX6_verdictOf 53 = .ok (.goto (-39), 3) := by decide +kernel
theorem dX6_verdictOf_56 : decode cX6_verdictOf 56 = .ok (.iload_n 2, 1) := by decide +kernel
theorem dX6_verdictOf_57 : decode cX6_verdictOf 57 = .ok (.ireturn, 1) := by decide +kernel
theorem dX6_manyChanges_0 : decode cX6_manyChanges 0 = .ok (.iconst 0, 1) := by decide +kernel
theorem dX6_manyChanges_1 : decode cX6_manyChanges 1 = .ok (.istore_n 3, 1) := by decide +kernel
theorem dX6_manyChanges_2 : decode cX6_manyChanges 2 = .ok (.bipush 16, 2) := by decide +kernel
theorem dX6_manyChanges_4 : decode cX6_manyChanges 4 = .ok (.aload_n 0, 1) := by decide +kernel
theorem dX6_manyChanges_5 : decode cX6_manyChanges 5 = .ok (.getfield 31, 3) := by decide +kernel
theorem dX6_manyChanges_8 : decode cX6_manyChanges 8 = .ok (.iload_n 1, 1) := by decide +kernel
theorem dX6_manyChanges_9 : decode cX6_manyChanges 9 = .ok (.iaload, 1) := by decide +kernel
theorem dX6_manyChanges_10 : decode cX6_manyChanges 10 = .ok (.iconst 1, 1) := by decide +kernel
theorem dX6_manyChanges_11 : decode cX6_manyChanges 11 = .ok (.iadd, 1) := by decide +kernel
theorem dX6_manyChanges_12 : decode cX6_manyChanges 12 = .ok (.imul, 1) := by decide +kernel
theorem dX6_manyChanges_13 : decode cX6_manyChanges 13 = .ok (.istore 4, 2) := by decide +kernel
theorem dX6_manyChanges_15 : decode cX6_manyChanges 15 = .ok (.iload 4, 2) := by decide +kernel
theorem dX6_manyChanges_17 : decode cX6_manyChanges 17 = .ok (.bipush 16, 2) := by decide +kernel
theorem dX6_manyChanges_19 : decode cX6_manyChanges 19 = .ok (.aload_n 0, 1) := by decide +kernel
theorem dX6_manyChanges_20 : decode cX6_manyChanges 20 = .ok (.getfield 92, 3) := by decide +kernel
theorem dX6_manyChanges_23 : decode cX6_manyChanges 23 = .ok (.iconst 1, 1) := by decide +kernel
theorem dX6_manyChanges_24 : decode cX6_manyChanges 24 = .ok (.iadd, 1) := by decide +kernel
theorem dX6_manyChanges_25 : decode cX6_manyChanges 25 = .ok (.imul, 1) := by decide +kernel
theorem dX6_manyChanges_26 : decode cX6_manyChanges 26 = .ok (.if_icmp .ge 41, 3) := by decide +kernel
theorem dX6_manyChanges_29 : decode cX6_manyChanges 29 = .ok (.iload_n 3, 1) := by decide +kernel
theorem dX6_manyChanges_30 : decode cX6_manyChanges 30 = .ok (.aload_n 0, 1) := by decide +kernel
theorem dX6_manyChanges_31 : decode cX6_manyChanges 31 = .ok (.iload 4, 2) := by decide +kernel
theorem dX6_manyChanges_33 : decode cX6_manyChanges 33 = .ok (.bipush 16, 2) := by decide +kernel
theorem dX6_manyChanges_35 : decode cX6_manyChanges 35 = .ok (.irem, 1) := by decide +kernel
theorem dX6_manyChanges_36 : decode cX6_manyChanges 36 = .ok (.iload 4, 2) := by decide +kernel
theorem dX6_manyChanges_38 : decode cX6_manyChanges 38 = .ok (.bipush 16, 2) := by decide +kernel
theorem dX6_manyChanges_40 : decode cX6_manyChanges 40 = .ok (.idiv, 1) := by decide +kernel
theorem dX6_manyChanges_41 : decode cX6_manyChanges 41 = .ok (.aload_n 0, 1) := by decide +kernel
theorem dX6_manyChanges_42 : decode cX6_manyChanges 42 = .ok (.getfield 31, 3) := by decide +kernel
theorem dX6_manyChanges_45 : decode cX6_manyChanges 45 = .ok (.iload_n 1, 1) := by decide +kernel
theorem dX6_manyChanges_46 : decode cX6_manyChanges 46 = .ok (.iaload, 1) := by decide +kernel
theorem dX6_manyChanges_47 : decode cX6_manyChanges 47 = .ok (.invokevirtual 201, 3) := by decide +kernel
theorem dX6_manyChanges_50 : decode cX6_manyChanges 50 = .ok (.iload_n 2, 1) := by decide +kernel
theorem dX6_manyChanges_51 : decode cX6_manyChanges 51 = .ok (.if_icmp .lt 7, 3) := by decide +kernel
theorem dX6_manyChanges_54 : decode cX6_manyChanges 54 = .ok (.iconst 1, 1) := by decide +kernel
theorem dX6_manyChanges_55 : decode cX6_manyChanges 55 = .ok (.goto 4, 3) := by decide +kernel
theorem dX6_manyChanges_58 : decode cX6_manyChanges 58 = .ok (.iconst 0, 1) := by decide +kernel
theorem dX6_manyChanges_59 : decode cX6_manyChanges 59 = .ok (.iadd, 1) := by decide +kernel
theorem dX6_manyChanges_60 : decode cX6_manyChanges 60 = .ok (.istore_n 3, 1) := by decide +kernel
theorem dX6_manyChanges_61 : decode cX6_manyChanges 61 = .ok (.iinc 4 1, 3) := by decide +kernel
theorem dX6_manyChanges_64 : decode cX6_manyChanges 64 = .ok (.goto (-49), 3) := by decide +kernel
theorem dX6_manyChanges_67 : decode cX6_manyChanges 67 = .ok (.iload_n 3, 1) := by decide +kernel
theorem dX6_manyChanges_68 : decode cX6_manyChanges 68 = .ok (.ireturn, 1) := by decide +kernel
theorem dX6_isHolding_0 : decode cX6_isHolding 0 = .ok (.iload_n 2, 1) := by decide +kernel
theorem dX6_isHolding_1 : decode cX6_isHolding 1 = .ok (.ifCond .ne 21, 3) := by decide +kernel
theorem dX6_isHolding_4 : decode cX6_isHolding 4 = .ok (.aload_n 0, 1) := by decide +kernel
theorem dX6_isHolding_5 : decode cX6_isHolding 5 = .ok (.iload_n 1, 1) := by decide +kernel
theorem dX6_isHolding_6 : decode cX6_isHolding 6 = .ok (.invokevirtual 207, 3) := by decide +kernel
theorem dX6_isHolding_9 : decode cX6_isHolding 9 = .ok (.aload_n 0, 1) := by decide +kernel
theorem dX6_isHolding_10 : decode cX6_isHolding 10 = .ok (.getfield 28, 3) := by decide +kernel
theorem dX6_isHolding_13 : decode cX6_isHolding 13 = .ok (.iload_n 1, 1) := by decide +kernel
theorem dX6_isHolding_14 : decode cX6_isHolding 14 = .ok (.iaload, 1) := by decide +kernel
theorem dX6_isHolding_15 : decode cX6_isHolding 15 = .ok (.if_icmp .gt 7, 3) := by decide +kernel
theorem dX6_isHolding_18 : decode cX6_isHolding 18 = .ok (.iconst 1, 1) := by decide +kernel
theorem dX6_isHolding_19 : decode cX6_isHolding 19 = .ok (.goto 4, 3) := by decide +kernel
theorem dX6_isHolding_22 : decode cX6_isHolding 22 = .ok (.iconst 0, 1) := by decide +kernel
theorem dX6_isHolding_23 : decode cX6_isHolding 23 = .ok (.ireturn, 1) := by decide +kernel
theorem dX6_judgeBy_0 : decode cX6_judgeBy 0 = .ok (.iload_n 2, 1) := by decide +kernel
theorem dX6_judgeBy_1 : decode cX6_judgeBy 1 = .ok (.ifCond .ne 11, 3) := by decide +kernel
theorem dX6_judgeBy_4 : decode cX6_judgeBy 4 = .ok (.aload_n 0, 1) := by decide +kernel
theorem dX6_judgeBy_5 : decode cX6_judgeBy 5 = .ok (.iload_n 1, 1) := by decide +kernel
theorem dX6_judgeBy_6 : decode cX6_judgeBy 6 = .ok (.invokevirtual 207, 3) := by decide +kernel
theorem dX6_judgeBy_9 : decode cX6_judgeBy 9 = .ok (.goto 49, 3) := by decide +kernel
theorem dX6_judgeBy_12 : decode cX6_judgeBy 12 = .ok (.iload_n 2, 1) := by decide +kernel
theorem dX6_judgeBy_13 : decode cX6_judgeBy 13 = .ok (.iconst 1, 1) := by decide +kernel
theorem dX6_judgeBy_14 : decode cX6_judgeBy 14 = .ok (.if_icmp .ne 12, 3) := by decide +kernel
theorem dX6_judgeBy_17 : decode cX6_judgeBy 17 = .ok (.aload_n 0, 1) := by decide +kernel
theorem dX6_judgeBy_18 : decode cX6_judgeBy 18 = .ok (.iload_n 1, 1) := by decide +kernel
theorem dX6_judgeBy_19 : decode cX6_judgeBy 19 = .ok (.iconst 1, 1) := by decide +kernel
theorem dX6_judgeBy_20 : decode cX6_judgeBy 20 = .ok (.invokevirtual 210, 3) := by decide +kernel
theorem dX6_judgeBy_23 : decode cX6_judgeBy 23 = .ok (.goto 35, 3) := by decide +kernel
theorem dX6_judgeBy_26 : decode cX6_judgeBy 26 = .ok (.iload_n 2, 1) := by decide +kernel
theorem dX6_judgeBy_27 : decode cX6_judgeBy 27 = .ok (.iconst 2, 1) := by decide +kernel
theorem dX6_judgeBy_28 : decode cX6_judgeBy 28 = .ok (.if_icmp .ne 12, 3) := by decide +kernel
theorem dX6_judgeBy_31 : decode cX6_judgeBy 31 = .ok (.aload_n 0, 1) := by decide +kernel
theorem dX6_judgeBy_32 : decode cX6_judgeBy 32 = .ok (.iload_n 1, 1) := by decide +kernel
theorem dX6_judgeBy_33 : decode cX6_judgeBy 33 = .ok (.iconst 3, 1) := by decide +kernel
theorem dX6_judgeBy_34 : decode cX6_judgeBy 34 = .ok (.invokevirtual 210, 3) := by decide +kernel
theorem dX6_judgeBy_37 : decode cX6_judgeBy 37 = .ok (.goto 21, 3) := by decide +kernel
theorem dX6_judgeBy_40 : decode cX6_judgeBy 40 = .ok (.aload_n 0, 1) := by decide +kernel
theorem dX6_judgeBy_41 : decode cX6_judgeBy 41 = .ok (.iload_n 1, 1) := by decide +kernel
theorem dX6_judgeBy_42 : decode cX6_judgeBy 42 = .ok (.aload_n 0, 1) := by decide +kernel
theorem dX6_judgeBy_43 : decode cX6_judgeBy 43 = .ok (.iload_n 1, 1) := by decide +kernel
theorem dX6_judgeBy_44 : decode cX6_judgeBy 44 = .ok (.invokevirtual 185, 3) := by decide +kernel
theorem dX6_judgeBy_47 : decode cX6_judgeBy 47 = .ok (.invokevirtual 213, 3) := by decide +kernel
theorem dX6_judgeBy_50 : decode cX6_judgeBy 50 = .ok (.ifCond .eq 7, 3) := by decide +kernel
theorem dX6_judgeBy_53 : decode cX6_judgeBy 53 = .ok (.iconst 1, 1) := by decide +kernel
theorem dX6_judgeBy_54 : decode cX6_judgeBy 54 = .ok (.goto 4, 3) := by decide +kernel
theorem dX6_judgeBy_57 : decode cX6_judgeBy 57 = .ok (.iconst 0, 1) := by decide +kernel
theorem dX6_judgeBy_58 : decode cX6_judgeBy 58 = .ok (.ireturn, 1) := by decide +kernel
theorem dX6_judge_0 : decode cX6_judge 0 = .ok (.aload_n 0, 1) := by decide +kernel
end
section
theorem dX6_judge_1 : decode cX6_judge 1 = .ok (.iload_n 1, 1) := by decide +kernel
theorem dX6_judge_2 : decode cX6_judge 2 = .ok (.invokevirtual 106, 3) := by decide +kernel
theorem dX6_judge_5 : decode cX6_judge 5 = .ok (.ifCond .eq 15, 3) := by decide +kernel
theorem dX6_judge_8 : decode cX6_judge 8 = .ok (.iload_n 2, 1) := by decide +kernel
theorem dX6_judge_9 : decode cX6_judge 9 = .ok (.i2l, 1) := by decide +kernel
theorem dX6_judge_10 : decode cX6_judge 10 = .ok (.lconst 0, 1) := by decide +kernel
theorem dX6_judge_11 : decode cX6_judge 11 = .ok (.ldc2_w 58, 3) := by decide +kernel
theorem dX6_judge_14 : decode cX6_judge 14 = .ok (.invokestatic 51, 3) := by decide +kernel
theorem dX6_judge_17 : decode cX6_judge 17 = .ok (.ifCond .ne 6, 3) := by decide +kernel
theorem dX6_judge_20 : decode cX6_judge 20 = .ok (.bipush (-2), 2) := by decide +kernel
theorem dX6_judge_22 : decode cX6_judge 22 = .ok (.ireturn, 1) := by decide +kernel
theorem dX6_judge_23 : decode cX6_judge 23 = .ok (.aload_n 0, 1) := by decide +kernel
theorem dX6_judge_24 : decode cX6_judge 24 = .ok (.iload_n 1, 1) := by decide +kernel
theorem dX6_judge_25 : decode cX6_judge 25 = .ok (.invokevirtual 113, 3) := by decide +kernel
theorem dX6_judge_28 : decode cX6_judge 28 = .ok (.ifCond .eq 12, 3) := by decide +kernel
theorem dX6_judge_31 : decode cX6_judge 31 = .ok (.aload_n 0, 1) := by decide +kernel
theorem dX6_judge_32 : decode cX6_judge 32 = .ok (.iload_n 1, 1) := by decide +kernel
theorem dX6_judge_33 : decode cX6_judge 33 = .ok (.iload_n 2, 1) := by decide +kernel
theorem dX6_judge_34 : decode cX6_judge 34 = .ok (.invokevirtual 216, 3) := by decide +kernel
theorem dX6_judge_37 : decode cX6_judge 37 = .ok (.goto 5, 3) := by decide +kernel
theorem dX6_judge_40 : decode cX6_judge 40 = .ok (.bipush (-3), 2) := by decide +kernel
theorem dX6_judge_42 : decode cX6_judge 42 = .ok (.ireturn, 1) := by decide +kernel
theorem dX6_changeBy_0 : decode cX6_changeBy 0 = .ok (.iconst 0, 1) := by decide +kernel
theorem dX6_changeBy_1 : decode cX6_changeBy 1 = .ok (.istore 4, 2) := by decide +kernel
theorem dX6_changeBy_3 : decode cX6_changeBy 3 = .ok (.bipush 16, 2) := by decide +kernel
theorem dX6_changeBy_5 : decode cX6_changeBy 5 = .ok (.aload_n 0, 1) := by decide +kernel
theorem dX6_changeBy_6 : decode cX6_changeBy 6 = .ok (.getfield 31, 3) := by decide +kernel
theorem dX6_changeBy_9 : decode cX6_changeBy 9 = .ok (.iload_n 1, 1) := by decide +kernel
theorem dX6_changeBy_10 : decode cX6_changeBy 10 = .ok (.iaload, 1) := by decide +kernel
theorem dX6_changeBy_11 : decode cX6_changeBy 11 = .ok (.iconst 1, 1) := by decide +kernel
theorem dX6_changeBy_12 : decode cX6_changeBy 12 = .ok (.iadd, 1) := by decide +kernel
theorem dX6_changeBy_13 : decode cX6_changeBy 13 = .ok (.imul, 1) := by decide +kernel
theorem dX6_changeBy_14 : decode cX6_changeBy 14 = .ok (.istore 5, 2) := by decide +kernel
theorem dX6_changeBy_16 : decode cX6_changeBy 16 = .ok (.iload 5, 2) := by decide +kernel
theorem dX6_changeBy_18 : decode cX6_changeBy 18 = .ok (.bipush 16, 2) := by decide +kernel
theorem dX6_changeBy_20 : decode cX6_changeBy 20 = .ok (.aload_n 0, 1) := by decide +kernel
theorem dX6_changeBy_21 : decode cX6_changeBy 21 = .ok (.getfield 92, 3) := by decide +kernel
theorem dX6_changeBy_24 : decode cX6_changeBy 24 = .ok (.iconst 1, 1) := by decide +kernel
theorem dX6_changeBy_25 : decode cX6_changeBy 25 = .ok (.iadd, 1) := by decide +kernel
theorem dX6_changeBy_26 : decode cX6_changeBy 26 = .ok (.imul, 1) := by decide +kernel
theorem dX6_changeBy_27 : decode cX6_changeBy 27 = .ok (.if_icmp .ge 73, 3) := by decide +kernel
theorem dX6_changeBy_30 : decode cX6_changeBy 30 = .ok (.aload_n 0, 1) := by decide +kernel
theorem dX6_changeBy_31 : decode cX6_changeBy 31 = .ok (.iload 5, 2) := by decide +kernel
theorem dX6_changeBy_33 : decode cX6_changeBy 33 = .ok (.bipush 16, 2) := by decide +kernel
theorem dX6_changeBy_35 : decode cX6_changeBy 35 = .ok (.irem, 1) := by decide +kernel
theorem dX6_changeBy_36 : decode cX6_changeBy 36 = .ok (.iload 5, 2) := by decide +kernel
theorem dX6_changeBy_38 : decode cX6_changeBy 38 = .ok (.bipush 16, 2) := by decide +kernel
theorem dX6_changeBy_40 : decode cX6_changeBy 40 = .ok (.idiv, 1) := by decide +kernel
theorem dX6_changeBy_41 : decode cX6_changeBy 41 = .ok (.aload_n 0, 1) := by decide +kernel
theorem dX6_changeBy_42 : decode cX6_changeBy 42 = .ok (.getfield 31, 3) := by decide +kernel
theorem dX6_changeBy_45 : decode cX6_changeBy 45 = .ok (.iload_n 1, 1) := by decide +kernel
theorem dX6_changeBy_46 : decode cX6_changeBy 46 = .ok (.iaload, 1) := by decide +kernel
theorem dX6_changeBy_47 : decode cX6_changeBy 47 = .ok (.invokevirtual 201, 3) := by decide +kernel
theorem dX6_changeBy_50 : decode cX6_changeBy 50 = .ok (.istore 6, 2) := by decide +kernel
theorem dX6_changeBy_52 : decode cX6_changeBy 52 = .ok (.iload 6, 2) := by decide +kernel
theorem dX6_changeBy_54 : decode cX6_changeBy 54 = .ok (.ifCond .le 40, 3) := by decide +kernel
theorem dX6_changeBy_57 : decode cX6_changeBy 57 = .ok (.iload 4, 2) := by decide +kernel
theorem dX6_changeBy_59 : decode cX6_changeBy 59 = .ok (.iload_n 2, 1) := by decide +kernel
theorem dX6_changeBy_60 : decode cX6_changeBy 60 = .ok (.if_icmp .ne 31, 3) := by decide +kernel
theorem dX6_changeBy_63 : decode cX6_changeBy 63 = .ok (.iload_n 3, 1) := by decide +kernel
theorem dX6_changeBy_64 : decode cX6_changeBy 64 = .ok (.ifCond .ne 11, 3) := by decide +kernel
theorem dX6_changeBy_67 : decode cX6_changeBy 67 = .ok (.iload 5, 2) := by decide +kernel
theorem dX6_changeBy_69 : decode cX6_changeBy 69 = .ok (.bipush 16, 2) := by decide +kernel
theorem dX6_changeBy_71 : decode cX6_changeBy 71 = .ok (.idiv, 1) := by decide +kernel
theorem dX6_changeBy_72 : decode cX6_changeBy 72 = .ok (.goto 18, 3) := by decide +kernel
theorem dX6_changeBy_75 : decode cX6_changeBy 75 = .ok (.iload_n 3, 1) := by decide +kernel
theorem dX6_changeBy_76 : decode cX6_changeBy 76 = .ok (.iconst 1, 1) := by decide +kernel
theorem dX6_changeBy_77 : decode cX6_changeBy 77 = .ok (.if_icmp .ne 11, 3) := by decide +kernel
theorem dX6_changeBy_80 : decode cX6_changeBy 80 = .ok (.iload 5, 2) := by decide +kernel
theorem dX6_changeBy_82 : decode cX6_changeBy 82 = .ok (.bipush 16, 2) := by decide +kernel
theorem dX6_changeBy_84 : decode cX6_changeBy 84 = .ok (.irem, 1) := by decide +kernel
theorem dX6_changeBy_85 : decode cX6_changeBy 85 = .ok (.goto 5, 3) := by decide +kernel
theorem dX6_changeBy_88 : decode cX6_changeBy 88 = .ok (.iload 6, 2) := by decide +kernel
theorem dX6_changeBy_90 : decode cX6_changeBy 90 = .ok (.ireturn, 1) := by decide +kernel
theorem dX6_changeBy_91 : decode cX6_changeBy 91 = .ok (.iinc 4 1, 3) := by decide +kernel
theorem dX6_changeBy_94 : decode cX6_changeBy 94 = .ok (.iinc 5 1, 3) := by decide +kernel
theorem dX6_changeBy_97 : decode cX6_changeBy 97 = .ok (.goto (-81), 3) := by decide +kernel
theorem dX6_changeBy_100 : decode cX6_changeBy 100 = .ok (.iconst (-1), 1) := by decide +kernel
theorem dX6_changeBy_101 : decode cX6_changeBy 101 = .ok (.ireturn, 1) := by decide +kernel
theorem dX6_change_0 : decode cX6_change 0 = .ok (.aload_n 0, 1) := by decide +kernel
theorem dX6_change_1 : decode cX6_change 1 = .ok (.iload_n 1, 1) := by decide +kernel
theorem dX6_change_2 : decode cX6_change 2 = .ok (.invokevirtual 106, 3) := by decide +kernel
theorem dX6_change_5 : decode cX6_change 5 = .ok (.ifCond .eq 27, 3) := by decide +kernel
theorem dX6_change_8 : decode cX6_change 8 = .ok (.iload_n 2, 1) := by decide +kernel
theorem dX6_change_9 : decode cX6_change 9 = .ok (.i2l, 1) := by decide +kernel
theorem dX6_change_10 : decode cX6_change 10 = .ok (.lconst 0, 1) := by decide +kernel
theorem dX6_change_11 : decode cX6_change 11 = .ok (.ldc2_w 219, 3) := by decide +kernel
theorem dX6_change_14 : decode cX6_change 14 = .ok (.invokestatic 51, 3) := by decide +kernel
theorem dX6_change_17 : decode cX6_change 17 = .ok (.ifCond .eq 15, 3) := by decide +kernel
theorem dX6_change_20 : decode cX6_change 20 = .ok (.iload_n 3, 1) := by decide +kernel
theorem dX6_change_21 : decode cX6_change 21 = .ok (.i2l, 1) := by decide +kernel
theorem dX6_change_22 : decode cX6_change 22 = .ok (.lconst 0, 1) := by decide +kernel
theorem dX6_change_23 : decode cX6_change 23 = .ok (.ldc2_w 64, 3) := by decide +kernel
theorem dX6_change_26 : decode cX6_change 26 = .ok (.invokestatic 51, 3) := by decide +kernel
theorem dX6_change_29 : decode cX6_change 29 = .ok (.ifCond .ne 6, 3) := by decide +kernel
theorem dX6_change_32 : decode cX6_change 32 = .ok (.bipush (-2), 2) := by decide +kernel
theorem dX6_change_34 : decode cX6_change 34 = .ok (.ireturn, 1) := by decide +kernel
theorem dX6_change_35 : decode cX6_change 35 = .ok (.aload_n 0, 1) := by decide +kernel
theorem dX6_change_36 : decode cX6_change 36 = .ok (.iload_n 1, 1) := by decide +kernel
theorem dX6_change_37 : decode cX6_change 37 = .ok (.invokevirtual 113, 3) := by decide +kernel
theorem dX6_change_40 : decode cX6_change 40 = .ok (.ifCond .eq 13, 3) := by decide +kernel
theorem dX6_change_43 : decode cX6_change 43 = .ok (.aload_n 0, 1) := by decide +kernel
theorem dX6_change_44 : decode cX6_change 44 = .ok (.iload_n 1, 1) := by decide +kernel
theorem dX6_change_45 : decode cX6_change 45 = .ok (.iload_n 2, 1) := by decide +kernel
theorem dX6_change_46 : decode cX6_change 46 = .ok (.iload_n 3, 1) := by decide +kernel
theorem dX6_change_47 : decode cX6_change 47 = .ok (.invokevirtual 221, 3) := by decide +kernel
theorem dX6_change_50 : decode cX6_change 50 = .ok (.goto 5, 3) := by decide +kernel
theorem dX6_change_53 : decode cX6_change 53 = .ok (.bipush (-3), 2) := by decide +kernel
theorem dX6_change_55 : decode cX6_change 55 = .ok (.ireturn, 1) := by decide +kernel
theorem dX6_allowedIn_0 : decode cX6_allowedIn 0 = .ok (.iconst 3, 1) := by decide +kernel
theorem dX6_allowedIn_1 : decode cX6_allowedIn 1 = .ok (.istore_n 2, 1) := by decide +kernel
theorem dX6_allowedIn_2 : decode cX6_allowedIn 2 = .ok (.iconst 0, 1) := by decide +kernel
theorem dX6_allowedIn_3 : decode cX6_allowedIn 3 = .ok (.istore_n 3, 1) := by decide +kernel
theorem dX6_allowedIn_4 : decode cX6_allowedIn 4 = .ok (.iload_n 3, 1) := by decide +kernel
theorem dX6_allowedIn_5 : decode cX6_allowedIn 5 = .ok (.aload_n 0, 1) := by decide +kernel
theorem dX6_allowedIn_6 : decode cX6_allowedIn 6 = .ok (.getfield 89, 3) := by decide +kernel
theorem dX6_allowedIn_9 : decode cX6_allowedIn 9 = .ok (.if_icmp .ge 42, 3) := by decide +kernel
theorem dX6_allowedIn_12 : decode cX6_allowedIn 12 = .ok (.aload_n 0, 1) := by decide +kernel
theorem dX6_allowedIn_13 : decode cX6_allowedIn 13 = .ok (.iload_n 3, 1) := by decide +kernel
theorem dX6_allowedIn_14 : decode cX6_allowedIn 14 = .ok (.invokevirtual 101, 3) := by decide +kernel
theorem dX6_allowedIn_17 : decode cX6_allowedIn 17 = .ok (.ifCond .eq 26, 3) := by decide +kernel
theorem dX6_allowedIn_20 : decode cX6_allowedIn 20 = .ok (.aload_n 0, 1) := by decide +kernel
theorem dX6_allowedIn_21 : decode cX6_allowedIn 21 = .ok (.getfield 31, 3) := by decide +kernel
theorem dX6_allowedIn_24 : decode cX6_allowedIn 24 = .ok (.iload_n 3, 1) := by decide +kernel
theorem dX6_allowedIn_25 : decode cX6_allowedIn 25 = .ok (.iaload, 1) := by decide +kernel
theorem dX6_allowedIn_26 : decode cX6_allowedIn 26 = .ok (.iload_n 1, 1) := by decide +kernel
theorem dX6_allowedIn_27 : decode cX6_allowedIn 27 = .ok (.if_icmp .ge 16, 3) := by decide +kernel
theorem dX6_allowedIn_30 : decode cX6_allowedIn 30 = .ok (.aload_n 0, 1) := by decide +kernel
theorem dX6_allowedIn_31 : decode cX6_allowedIn 31 = .ok (.getfield 28, 3) := by decide +kernel
theorem dX6_allowedIn_34 : decode cX6_allowedIn 34 = .ok (.iload_n 3, 1) := by decide +kernel
theorem dX6_allowedIn_35 : decode cX6_allowedIn 35 = .ok (.iaload, 1) := by decide +kernel
theorem dX6_allowedIn_36 : decode cX6_allowedIn 36 = .ok (.iload_n 2, 1) := by decide +kernel
theorem dX6_allowedIn_37 : decode cX6_allowedIn 37 = .ok (.invokestatic 173, 3) := by decide +kernel
theorem dX6_allowedIn_40 : decode cX6_allowedIn 40 = .ok (.goto 4, 3) := by decide +kernel
theorem dX6_allowedIn_43 : decode cX6_allowedIn 43 = .ok (.iload_n 2, 1) := by decide +kernel
theorem dX6_allowedIn_44 : decode cX6_allowedIn 44 = .ok (.istore_n 2, 1) := by decide +kernel
theorem dX6_allowedIn_45 : decode cX6_allowedIn 45 = .ok (.iinc 3 1, 3) := by decide +kernel
theorem dX6_allowedIn_48 : decode cX6_allowedIn 48 = .ok (.goto (-44), 3) := by decide +kernel
theorem dX6_allowedIn_51 : decode cX6_allowedIn 51 = .ok (.iload_n 2, 1) := by decide +kernel
theorem dX6_allowedIn_52 : decode cX6_allowedIn 52 = .ok (.ireturn, 1) := by decide +kernel
theorem dX6_allowed_0 : decode cX6_allowed 0 = .ok (.aload_n 0, 1) := by decide +kernel
theorem dX6_allowed_1 : decode cX6_allowed 1 = .ok (.iload_n 1, 1) := by decide +kernel
theorem dX6_allowed_2 : decode cX6_allowed 2 = .ok (.invokevirtual 146, 3) := by decide +kernel
theorem dX6_allowed_5 : decode cX6_allowed 5 = .ok (.ifCond .eq 11, 3) := by decide +kernel
theorem dX6_allowed_8 : decode cX6_allowed 8 = .ok (.aload_n 0, 1) := by decide +kernel
theorem dX6_allowed_9 : decode cX6_allowed 9 = .ok (.iload_n 1, 1) := by decide +kernel
theorem dX6_allowed_10 : decode cX6_allowed 10 = .ok (.invokevirtual 224, 3) := by decide +kernel
theorem dX6_allowed_13 : decode cX6_allowed 13 = .ok (.goto 5, 3) := by decide +kernel
theorem dX6_allowed_16 : decode cX6_allowed 16 = .ok (.bipush (-2), 2) := by decide +kernel
theorem dX6_allowed_18 : decode cX6_allowed 18 = .ok (.ireturn, 1) := by decide +kernel
theorem dX6_firstBy_0 : decode cX6_firstBy 0 = .ok (.iconst 0, 1) := by decide +kernel
theorem dX6_firstBy_1 : decode cX6_firstBy 1 = .ok (.istore_n 2, 1) := by decide +kernel
theorem dX6_firstBy_2 : decode cX6_firstBy 2 = .ok (.iload_n 2, 1) := by decide +kernel
theorem dX6_firstBy_3 : decode cX6_firstBy 3 = .ok (.bipush 16, 2) := by decide +kernel
theorem dX6_firstBy_5 : decode cX6_firstBy 5 = .ok (.aload_n 0, 1) := by decide +kernel
theorem dX6_firstBy_6 : decode cX6_firstBy 6 = .ok (.getfield 92, 3) := by decide +kernel
theorem dX6_firstBy_9 : decode cX6_firstBy 9 = .ok (.iconst 1, 1) := by decide +kernel
theorem dX6_firstBy_10 : decode cX6_firstBy 10 = .ok (.iadd, 1) := by decide +kernel
theorem dX6_firstBy_11 : decode cX6_firstBy 11 = .ok (.imul, 1) := by decide +kernel
theorem dX6_firstBy_12 : decode cX6_firstBy 12 = .ok (.if_icmp .ge 98, 3) := by decide +kernel
theorem dX6_firstBy_15 : decode cX6_firstBy 15 = .ok (.iconst 0, 1) := by decide +kernel
theorem dX6_firstBy_16 : decode cX6_firstBy 16 = .ok (.istore_n 3, 1) := by decide +kernel
theorem dX6_firstBy_17 : decode cX6_firstBy 17 = .ok (.iload_n 3, 1) := by decide +kernel
theorem dX6_firstBy_18 : decode cX6_firstBy 18 = .ok (.aload_n 0, 1) := by decide +kernel
theorem dX6_firstBy_19 : decode cX6_firstBy 19 = .ok (.getfield 89, 3) := by decide +kernel
theorem dX6_firstBy_22 : decode cX6_firstBy 22 = .ok (.if_icmp .ge 82, 3) := by decide +kernel
theorem dX6_firstBy_25 : decode cX6_firstBy 25 = .ok (.aload_n 0, 1) := by decide +kernel
theorem dX6_firstBy_26 : decode cX6_firstBy 26 = .ok (.iload_n 3, 1) := by decide +kernel
theorem dX6_firstBy_27 : decode cX6_firstBy 27 = .ok (.invokevirtual 113, 3) := by decide +kernel
theorem dX6_firstBy_30 : decode cX6_firstBy 30 = .ok (.ifCond .eq 68, 3) := by decide +kernel
theorem dX6_firstBy_33 : decode cX6_firstBy 33 = .ok (.aload_n 0, 1) := by decide +kernel
theorem dX6_firstBy_34 : decode cX6_firstBy 34 = .ok (.getfield 31, 3) := by decide +kernel
theorem dX6_firstBy_37 : decode cX6_firstBy 37 = .ok (.iload_n 3, 1) := by decide +kernel
theorem dX6_firstBy_38 : decode cX6_firstBy 38 = .ok (.iaload, 1) := by decide +kernel
theorem dX6_firstBy_39 : decode cX6_firstBy 39 = .ok (.iload_n 2, 1) := by decide +kernel
theorem dX6_firstBy_40 : decode cX6_firstBy 40 = .ok (.bipush 16, 2) := by decide +kernel
theorem dX6_firstBy_42 : decode cX6_firstBy 42 = .ok (.idiv, 1) := by decide +kernel
theorem dX6_firstBy_43 : decode cX6_firstBy 43 = .ok (.if_icmp .ge 55, 3) := by decide +kernel
theorem dX6_firstBy_46 : decode cX6_firstBy 46 = .ok (.aload_n 0, 1) := by decide +kernel
theorem dX6_firstBy_47 : decode cX6_firstBy 47 = .ok (.iload_n 2, 1) := by decide +kernel
theorem dX6_firstBy_48 : decode cX6_firstBy 48 = .ok (.bipush 16, 2) := by decide +kernel
theorem dX6_firstBy_50 : decode cX6_firstBy 50 = .ok (.irem, 1) := by decide +kernel
theorem dX6_firstBy_51 : decode cX6_firstBy 51 = .ok (.iload_n 2, 1) := by decide +kernel
theorem dX6_firstBy_52 : decode cX6_firstBy 52 = .ok (.bipush 16, 2) := by decide +kernel
theorem dX6_firstBy_54 : decode cX6_firstBy 54 = .ok (.idiv, 1) := by decide +kernel
theorem dX6_firstBy_55 : decode cX6_firstBy 55 = .ok (.aload_n 0, 1) := by decide +kernel
theorem dX6_firstBy_56 : decode cX6_firstBy 56 = .ok (.getfield 31, 3) := by decide +kernel
theorem dX6_firstBy_59 : decode cX6_firstBy 59 = .ok (.iload_n 3, 1) := by decide +kernel
theorem dX6_firstBy_60 : decode cX6_firstBy 60 = .ok (.iaload, 1) := by decide +kernel
theorem dX6_firstBy_61 : decode cX6_firstBy 61 = .ok (.invokevirtual 201, 3) := by decide +kernel
theorem dX6_firstBy_64 : decode cX6_firstBy 64 = .ok (.aload_n 0, 1) := by decide +kernel
theorem dX6_firstBy_65 : decode cX6_firstBy 65 = .ok (.getfield 28, 3) := by decide +kernel
theorem dX6_firstBy_68 : decode cX6_firstBy 68 = .ok (.iload_n 3, 1) := by decide +kernel
theorem dX6_firstBy_69 : decode cX6_firstBy 69 = .ok (.iaload, 1) := by decide +kernel
theorem dX6_firstBy_70 : decode cX6_firstBy 70 = .ok (.if_icmp .le 28, 3) := by decide +kernel
theorem dX6_firstBy_73 : decode cX6_firstBy 73 = .ok (.iload_n 1, 1) := by decide +kernel
theorem dX6_firstBy_74 : decode cX6_firstBy 74 = .ok (.ifCond .ne 10, 3) := by decide +kernel
theorem dX6_firstBy_77 : decode cX6_firstBy 77 = .ok (.iload_n 2, 1) := by decide +kernel
theorem dX6_firstBy_78 : decode cX6_firstBy 78 = .ok (.bipush 16, 2) := by decide +kernel
theorem dX6_firstBy_80 : decode cX6_firstBy 80 = .ok (.idiv, 1) := by decide +kernel
theorem dX6_firstBy_81 : decode cX6_firstBy 81 = .ok (.goto 16, 3) := by decide +kernel
theorem dX6_firstBy_84 : decode cX6_firstBy 84 = .ok (.iload_n 1, 1) := by decide +kernel
theorem dX6_firstBy_85 : decode cX6_firstBy 85 = .ok (.iconst 1, 1) := by decide +kernel
theorem dX6_firstBy_86 : decode cX6_firstBy 86 = .ok (.if_icmp .ne 10, 3) := by decide +kernel
theorem dX6_firstBy_89 : decode cX6_firstBy 89 = .ok (.iload_n 2, 1) := by decide +kernel
theorem dX6_firstBy_90 : decode cX6_firstBy 90 = .ok (.bipush 16, 2) := by decide +kernel
theorem dX6_firstBy_92 : decode cX6_firstBy 92 = .ok (.irem, 1) := by decide +kernel
theorem dX6_firstBy_93 : decode cX6_firstBy 93 = .ok (.goto 4, 3) := by decide +kernel
theorem dX6_firstBy_96 : decode cX6_firstBy 96 = .ok (.iload_n 3, 1) := by decide +kernel
theorem dX6_firstBy_97 : decode cX6_firstBy 97 = .ok (.ireturn, 1) := by decide +kernel
theorem dX6_firstBy_98 : decode cX6_firstBy 98 = .ok (.iinc 3 1, 3) := by decide +kernel
theorem dX6_firstBy_101 : decode cX6_firstBy 101 = .ok (.goto (-84), 3) := by decide +kernel
theorem dX6_firstBy_104 : decode cX6_firstBy 104 = .ok (.iinc 2 1, 3) := by decide +kernel
theorem dX6_firstBy_107 : decode cX6_firstBy 107 = .ok (.goto (-105), 3) := by decide +kernel
theorem dX6_firstBy_110 : decode cX6_firstBy 110 = .ok (.iconst (-1), 1) := by decide +kernel
theorem dX6_firstBy_111 : decode cX6_firstBy 111 = .ok (.ireturn, 1) := by decide +kernel
theorem dX6_first_0 : decode cX6_first 0 = .ok (.iload_n 1, 1) := by decide +kernel
theorem dX6_first_1 : decode cX6_first 1 = .ok (.i2l, 1) := by decide +kernel
theorem dX6_first_2 : decode cX6_first 2 = .ok (.lconst 0, 1) := by decide +kernel
theorem dX6_first_3 : decode cX6_first 3 = .ok (.ldc2_w 64, 3) := by decide +kernel
theorem dX6_first_6 : decode cX6_first 6 = .ok (.invokestatic 51, 3) := by decide +kernel
theorem dX6_first_9 : decode cX6_first 9 = .ok (.ifCond .eq 11, 3) := by decide +kernel
theorem dX6_first_12 : decode cX6_first 12 = .ok (.aload_n 0, 1) := by decide +kernel
theorem dX6_first_13 : decode cX6_first 13 = .ok (.iload_n 1, 1) := by decide +kernel
theorem dX6_first_14 : decode cX6_first 14 = .ok (.invokevirtual 227, 3) := by decide +kernel
theorem dX6_first_17 : decode cX6_first 17 = .ok (.goto 5, 3) := by decide +kernel
theorem dX6_first_20 : decode cX6_first 20 = .ok (.bipush (-2), 2) := by decide +kernel
theorem dX6_first_22 : decode cX6_first 22 = .ok (.ireturn, 1) := by decide +kernel
theorem dX6_looks_0 : decode cX6_looks 0 = .ok (.iconst 0, 1) := by decide +kernel
theorem dX6_looks_1 : decode cX6_looks 1 = .ok (.istore_n 1, 1) := by decide +kernel
theorem dX6_looks_2 : decode cX6_looks 2 = .ok (.iload_n 1, 1) := by decide +kernel
theorem dX6_looks_3 : decode cX6_looks 3 = .ok (.aload_n 0, 1) := by decide +kernel
theorem dX6_looks_4 : decode cX6_looks 4 = .ok (.getfield 89, 3) := by decide +kernel
theorem dX6_looks_7 : decode cX6_looks 7 = .ok (.if_icmp .ge 32, 3) := by decide +kernel
theorem dX6_looks_10 : decode cX6_looks 10 = .ok (.aload_n 0, 1) := by decide +kernel
theorem dX6_looks_11 : decode cX6_looks 11 = .ok (.getfield 48, 3) := by decide +kernel
theorem dX6_looks_14 : decode cX6_looks 14 = .ok (.iload_n 1, 1) := by decide +kernel
theorem dX6_looks_15 : decode cX6_looks 15 = .ok (.aload_n 0, 1) := by decide +kernel
theorem dX6_looks_16 : decode cX6_looks 16 = .ok (.iload_n 1, 1) := by decide +kernel
theorem dX6_looks_17 : decode cX6_looks 17 = .ok (.invokevirtual 113, 3) := by decide +kernel
theorem dX6_looks_20 : decode cX6_looks 20 = .ok (.ifCond .eq 11, 3) := by decide +kernel
theorem dX6_looks_23 : decode cX6_looks 23 = .ok (.aload_n 0, 1) := by decide +kernel
theorem dX6_looks_24 : decode cX6_looks 24 = .ok (.iload_n 1, 1) := by decide +kernel
theorem dX6_looks_25 : decode cX6_looks 25 = .ok (.invokevirtual 185, 3) := by decide +kernel
theorem dX6_looks_28 : decode cX6_looks 28 = .ok (.goto 4, 3) := by decide +kernel
theorem dX6_looks_31 : decode cX6_looks 31 = .ok (.iconst 0, 1) := by decide +kernel
theorem dX6_looks_32 : decode cX6_looks 32 = .ok (.iastore, 1) := by decide +kernel
theorem dX6_looks_33 : decode cX6_looks 33 = .ok (.iinc 1 1, 3) := by decide +kernel
theorem dX6_looks_36 : decode cX6_looks 36 = .ok (.goto (-34), 3) := by decide +kernel
theorem dX6_looks_39 : decode cX6_looks 39 = .ok (.return_, 1) := by decide +kernel
theorem dX6_manyHold_0 : decode cX6_manyHold 0 = .ok (.iconst 0, 1) := by decide +kernel
theorem dX6_manyHold_1 : decode cX6_manyHold 1 = .ok (.istore_n 1, 1) := by decide +kernel
theorem dX6_manyHold_2 : decode cX6_manyHold 2 = .ok (.iconst 0, 1) := by decide +kernel
theorem dX6_manyHold_3 : decode cX6_manyHold 3 = .ok (.istore_n 2, 1) := by decide +kernel
theorem dX6_manyHold_4 : decode cX6_manyHold 4 = .ok (.iload_n 2, 1) := by decide +kernel
theorem dX6_manyHold_5 : decode cX6_manyHold 5 = .ok (.aload_n 0, 1) := by decide +kernel
theorem dX6_manyHold_6 : decode cX6_manyHold 6 = .ok (.getfield 89, 3) := by decide +kernel
theorem dX6_manyHold_9 : decode cX6_manyHold 9 = .ok (.if_icmp .ge 47, 3) := by decide +kernel
theorem dX6_manyHold_12 : decode cX6_manyHold 12 = .ok (.iload_n 1, 1) := by decide +kernel
theorem dX6_manyHold_13 : decode cX6_manyHold 13 = .ok (.aload_n 0, 1) := by decide +kernel
theorem dX6_manyHold_14 : decode cX6_manyHold 14 = .ok (.iload_n 2, 1) := by decide +kernel
theorem dX6_manyHold_15 : decode cX6_manyHold 15 = .ok (.invokevirtual 113, 3) := by decide +kernel
theorem dX6_manyHold_18 : decode cX6_manyHold 18 = .ok (.ifCond .eq 29, 3) := by decide +kernel
theorem dX6_manyHold_21 : decode cX6_manyHold 21 = .ok (.iload_n 2, 1) := by decide +kernel
theorem dX6_manyHold_22 : decode cX6_manyHold 22 = .ok (.aload_n 0, 1) := by decide +kernel
theorem dX6_manyHold_23 : decode cX6_manyHold 23 = .ok (.getfield 44, 3) := by decide +kernel
theorem dX6_manyHold_26 : decode cX6_manyHold 26 = .ok (.if_icmp .eq 21, 3) := by decide +kernel
theorem dX6_manyHold_29 : decode cX6_manyHold 29 = .ok (.aload_n 0, 1) := by decide +kernel
theorem dX6_manyHold_30 : decode cX6_manyHold 30 = .ok (.iload_n 2, 1) := by decide +kernel
theorem dX6_manyHold_31 : decode cX6_manyHold 31 = .ok (.aload_n 0, 1) := by decide +kernel
theorem dX6_manyHold_32 : decode cX6_manyHold 32 = .ok (.getfield 48, 3) := by decide +kernel
theorem dX6_manyHold_35 : decode cX6_manyHold 35 = .ok (.iload_n 2, 1) := by decide +kernel
theorem dX6_manyHold_36 : decode cX6_manyHold 36 = .ok (.iaload, 1) := by decide +kernel
theorem dX6_manyHold_37 : decode cX6_manyHold 37 = .ok (.invokevirtual 213, 3) := by decide +kernel
theorem dX6_manyHold_40 : decode cX6_manyHold 40 = .ok (.ifCond .eq 7, 3) := by decide +kernel
theorem dX6_manyHold_43 : decode cX6_manyHold 43 = .ok (.iconst 1, 1) := by decide +kernel
theorem dX6_manyHold_44 : decode cX6_manyHold 44 = .ok (.goto 4, 3) := by decide +kernel
theorem dX6_manyHold_47 : decode cX6_manyHold 47 = .ok (.iconst 0, 1) := by decide +kernel
theorem dX6_manyHold_48 : decode cX6_manyHold 48 = .ok (.iadd, 1) := by decide +kernel
theorem dX6_manyHold_49 : decode cX6_manyHold 49 = .ok (.istore_n 1, 1) := by decide +kernel
theorem dX6_manyHold_50 : decode cX6_manyHold 50 = .ok (.iinc 2 1, 3) := by decide +kernel
theorem dX6_manyHold_53 : decode cX6_manyHold 53 = .ok (.goto (-49), 3) := by decide +kernel
theorem dX6_manyHold_56 : decode cX6_manyHold 56 = .ok (.iload_n 1, 1) := by decide +kernel
theorem dX6_manyHold_57 : decode cX6_manyHold 57 = .ok (.ireturn, 1) := by decide +kernel
theorem dX6_manySeals_0 : decode cX6_manySeals 0 = .ok (.iconst 0, 1) := by decide +kernel
theorem dX6_manySeals_1 : decode cX6_manySeals 1 = .ok (.istore_n 1, 1) := by decide +kernel
theorem dX6_manySeals_2 : decode cX6_manySeals 2 = .ok (.iconst 0, 1) := by decide +kernel
theorem dX6_manySeals_3 : decode cX6_manySeals 3 = .ok (.istore_n 2, 1) := by decide +kernel
theorem dX6_manySeals_4 : decode cX6_manySeals 4 = .ok (.iload_n 2, 1) := by decide +kernel
theorem dX6_manySeals_5 : decode cX6_manySeals 5 = .ok (.aload_n 0, 1) := by decide +kernel
theorem dX6_manySeals_6 : decode cX6_manySeals 6 = .ok (.getfield 89, 3) := by decide +kernel
theorem dX6_manySeals_9 : decode cX6_manySeals 9 = .ok (.if_icmp .ge 25, 3) := by decide +kernel
theorem dX6_manySeals_12 : decode cX6_manySeals 12 = .ok (.iload_n 1, 1) := by decide +kernel
theorem dX6_manySeals_13 : decode cX6_manySeals 13 = .ok (.aload_n 0, 1) := by decide +kernel
theorem dX6_manySeals_14 : decode cX6_manySeals 14 = .ok (.iload_n 2, 1) := by decide +kernel
theorem dX6_manySeals_15 : decode cX6_manySeals 15 = .ok (.invokevirtual 113, 3) := by decide +kernel
theorem dX6_manySeals_18 : decode cX6_manySeals 18 = .ok (.ifCond .eq 7, 3) := by decide +kernel
theorem dX6_manySeals_21 : decode cX6_manySeals 21 = .ok (.iconst 1, 1) := by decide +kernel
theorem dX6_manySeals_22 : decode cX6_manySeals 22 = .ok (.goto 4, 3) := by decide +kernel
theorem dX6_manySeals_25 : decode cX6_manySeals 25 = .ok (.iconst 0, 1) := by decide +kernel
theorem dX6_manySeals_26 : decode cX6_manySeals 26 = .ok (.iadd, 1) := by decide +kernel
theorem dX6_manySeals_27 : decode cX6_manySeals 27 = .ok (.istore_n 1, 1) := by decide +kernel
theorem dX6_manySeals_28 : decode cX6_manySeals 28 = .ok (.iinc 2 1, 3) := by decide +kernel
theorem dX6_manySeals_31 : decode cX6_manySeals 31 = .ok (.goto (-27), 3) := by decide +kernel
theorem dX6_manySeals_34 : decode cX6_manySeals 34 = .ok (.iload_n 1, 1) := by decide +kernel
theorem dX6_manySeals_35 : decode cX6_manySeals 35 = .ok (.ireturn, 1) := by decide +kernel
theorem dX6_holdingBy_0 : decode cX6_holdingBy 0 = .ok (.aload_n 0, 1) := by decide +kernel
theorem dX6_holdingBy_1 : decode cX6_holdingBy 1 = .ok (.invokevirtual 230, 3) := by decide +kernel
theorem dX6_holdingBy_4 : decode cX6_holdingBy 4 = .ok (.iload_n 1, 1) := by decide +kernel
theorem dX6_holdingBy_5 : decode cX6_holdingBy 5 = .ok (.ifCond .ne 10, 3) := by decide +kernel
theorem dX6_holdingBy_8 : decode cX6_holdingBy 8 = .ok (.aload_n 0, 1) := by decide +kernel
theorem dX6_holdingBy_9 : decode cX6_holdingBy 9 = .ok (.invokevirtual 233, 3) := by decide +kernel
theorem dX6_holdingBy_12 : decode cX6_holdingBy 12 = .ok (.goto 7, 3) := by decide +kernel
theorem dX6_holdingBy_15 : decode cX6_holdingBy 15 = .ok (.aload_n 0, 1) := by decide +kernel
theorem dX6_holdingBy_16 : decode cX6_holdingBy 16 = .ok (.invokevirtual 236, 3) := by decide +kernel
theorem dX6_holdingBy_19 : decode cX6_holdingBy 19 = .ok (.ireturn, 1) := by decide +kernel
theorem dX6_holding_0 : decode cX6_holding 0 = .ok (.iload_n 1, 1) := by decide +kernel
theorem dX6_holding_1 : decode cX6_holding 1 = .ok (.invokestatic 179, 3) := by decide +kernel
theorem dX6_holding_4 : decode cX6_holding 4 = .ok (.ifCond .eq 11, 3) := by decide +kernel
theorem dX6_holding_7 : decode cX6_holding 7 = .ok (.aload_n 0, 1) := by decide +kernel
theorem dX6_holding_8 : decode cX6_holding 8 = .ok (.iload_n 1, 1) := by decide +kernel
theorem dX6_holding_9 : decode cX6_holding 9 = .ok (.invokevirtual 239, 3) := by decide +kernel
theorem dX6_holding_12 : decode cX6_holding 12 = .ok (.goto 5, 3) := by decide +kernel
theorem dX6_holding_15 : decode cX6_holding 15 = .ok (.bipush (-2), 2) := by decide +kernel
theorem dX6_holding_17 : decode cX6_holding 17 = .ok (.ireturn, 1) := by decide +kernel
theorem dX6_betterBy_0 : decode cX6_betterBy 0 = .ok (.iconst (-1), 1) := by decide +kernel
theorem dX6_betterBy_1 : decode cX6_betterBy 1 = .ok (.istore_n 2, 1) := by decide +kernel
theorem dX6_betterBy_2 : decode cX6_betterBy 2 = .ok (.iconst (-1), 1) := by decide +kernel
theorem dX6_betterBy_3 : decode cX6_betterBy 3 = .ok (.istore_n 3, 1) := by decide +kernel
theorem dX6_betterBy_4 : decode cX6_betterBy 4 = .ok (.aload_n 0, 1) := by decide +kernel
theorem dX6_betterBy_5 : decode cX6_betterBy 5 = .ok (.invokevirtual 230, 3) := by decide +kernel
theorem dX6_betterBy_8 : decode cX6_betterBy 8 = .ok (.iconst 0, 1) := by decide +kernel
theorem dX6_betterBy_9 : decode cX6_betterBy 9 = .ok (.istore 4, 2) := by decide +kernel
theorem dX6_betterBy_11 : decode cX6_betterBy 11 = .ok (.iload 4, 2) := by decide +kernel
theorem dX6_betterBy_13 : decode cX6_betterBy 13 = .ok (.aload_n 0, 1) := by decide +kernel
theorem dX6_betterBy_14 : decode cX6_betterBy 14 = .ok (.getfield 89, 3) := by decide +kernel
theorem dX6_betterBy_17 : decode cX6_betterBy 17 = .ok (.if_icmp .ge 41, 3) := by decide +kernel
theorem dX6_betterBy_20 : decode cX6_betterBy 20 = .ok (.aload_n 0, 1) := by decide +kernel
theorem dX6_betterBy_21 : decode cX6_betterBy 21 = .ok (.iload 4, 2) := by decide +kernel
theorem dX6_betterBy_23 : decode cX6_betterBy 23 = .ok (.putfield 44, 3) := by decide +kernel
theorem dX6_betterBy_26 : decode cX6_betterBy 26 = .ok (.aload_n 0, 1) := by decide +kernel
theorem dX6_betterBy_27 : decode cX6_betterBy 27 = .ok (.invokevirtual 233, 3) := by decide +kernel
theorem dX6_betterBy_30 : decode cX6_betterBy 30 = .ok (.istore 5, 2) := by decide +kernel
theorem dX6_betterBy_32 : decode cX6_betterBy 32 = .ok (.iload 5, 2) := by decide +kernel
theorem dX6_betterBy_34 : decode cX6_betterBy 34 = .ok (.iload_n 3, 1) := by decide +kernel
theorem dX6_betterBy_35 : decode cX6_betterBy 35 = .ok (.if_icmp .le 8, 3) := by decide +kernel
theorem dX6_betterBy_38 : decode cX6_betterBy 38 = .ok (.iload 4, 2) := by decide +kernel
theorem dX6_betterBy_40 : decode cX6_betterBy 40 = .ok (.goto 4, 3) := by decide +kernel
theorem dX6_betterBy_43 : decode cX6_betterBy 43 = .ok (.iload_n 2, 1) := by decide +kernel
theorem dX6_betterBy_44 : decode cX6_betterBy 44 = .ok (.istore_n 2, 1) := by decide +kernel
theorem dX6_betterBy_45 : decode cX6_betterBy 45 = .ok (.iload 5, 2) := by decide +kernel
theorem dX6_betterBy_47 : decode cX6_betterBy 47 = .ok (.iload_n 3, 1) := by decide +kernel
theorem dX6_betterBy_48 : decode cX6_betterBy 48 = .ok (.invokestatic 204, 3) := by decide +kernel
theorem dX6_betterBy_51 : decode cX6_betterBy 51 = .ok (.istore_n 3, 1) := by decide +kernel
theorem dX6_betterBy_52 : decode cX6_betterBy 52 = .ok (.iinc 4 1, 3) := by decide +kernel
theorem dX6_betterBy_55 : decode cX6_betterBy 55 = .ok (.goto (-44), 3) := by decide +kernel
theorem dX6_betterBy_58 : decode cX6_betterBy 58 = .ok (.aload_n 0, 1) := by decide +kernel
theorem dX6_betterBy_59 : decode cX6_betterBy 59 = .ok (.iconst (-1), 1) := by decide +kernel
theorem dX6_betterBy_60 : decode cX6_betterBy 60 = .ok (.putfield 44, 3) := by decide +kernel
theorem dX6_betterBy_63 : decode cX6_betterBy 63 = .ok (.iload_n 1, 1) := by decide +kernel
theorem dX6_betterBy_64 : decode cX6_betterBy 64 = .ok (.ifCond .ne 7, 3) := by decide +kernel
theorem dX6_betterBy_67 : decode cX6_betterBy 67 = .ok (.iload_n 2, 1) := by decide +kernel
theorem dX6_betterBy_68 : decode cX6_betterBy 68 = .ok (.goto 4, 3) := by decide +kernel
theorem dX6_betterBy_71 : decode cX6_betterBy 71 = .ok (.iload_n 3, 1) := by decide +kernel
theorem dX6_betterBy_72 : decode cX6_betterBy 72 = .ok (.ireturn, 1) := by decide +kernel
theorem dX6_better_0 : decode cX6_better 0 = .ok (.iload_n 1, 1) := by decide +kernel
theorem dX6_better_1 : decode cX6_better 1 = .ok (.invokestatic 179, 3) := by decide +kernel
theorem dX6_better_4 : decode cX6_better 4 = .ok (.ifCond .eq 11, 3) := by decide +kernel
theorem dX6_better_7 : decode cX6_better 7 = .ok (.aload_n 0, 1) := by decide +kernel
theorem dX6_better_8 : decode cX6_better 8 = .ok (.iload_n 1, 1) := by decide +kernel
theorem dX6_better_9 : decode cX6_better 9 = .ok (.invokevirtual 242, 3) := by decide +kernel
theorem dX6_better_12 : decode cX6_better 12 = .ok (.goto 5, 3) := by decide +kernel
theorem dX6_better_15 : decode cX6_better 15 = .ok (.bipush (-2), 2) := by decide +kernel
theorem dX6_better_17 : decode cX6_better 17 = .ok (.ireturn, 1) := by decide +kernel
theorem dX6_tell_0 : decode cX6_tell 0 = .ok (.iload_n 1, 1) := by decide +kernel
theorem dX6_tell_1 : decode cX6_tell 1 = .ok (.i2l, 1) := by decide +kernel
theorem dX6_tell_2 : decode cX6_tell 2 = .ok (.lconst 0, 1) := by decide +kernel
theorem dX6_tell_3 : decode cX6_tell 3 = .ok (.ldc2_w 104, 3) := by decide +kernel
theorem dX6_tell_6 : decode cX6_tell 6 = .ok (.invokestatic 51, 3) := by decide +kernel
theorem dX6_tell_9 : decode cX6_tell 9 = .ok (.ifCond .eq 10, 3) := by decide +kernel
theorem dX6_tell_12 : decode cX6_tell 12 = .ok (.iload_n 2, 1) := by decide +kernel
theorem dX6_tell_13 : decode cX6_tell 13 = .ok (.invokestatic 60, 3) := by decide +kernel
theorem dX6_tell_16 : decode cX6_tell 16 = .ok (.ifCond .ne 6, 3) := by decide +kernel
theorem dX6_tell_19 : decode cX6_tell 19 = .ok (.bipush (-2), 2) := by decide +kernel
theorem dX6_tell_21 : decode cX6_tell 21 = .ok (.ireturn, 1) := by decide +kernel
theorem dX6_tell_22 : decode cX6_tell 22 = .ok (.aload_n 0, 1) := by decide +kernel
theorem dX6_tell_23 : decode cX6_tell 23 = .ok (.getfield 7, 3) := by decide +kernel
theorem dX6_tell_26 : decode cX6_tell 26 = .ok (.iload_n 2, 1) := by decide +kernel
theorem dX6_tell_27 : decode cX6_tell 27 = .ok (.iaload, 1) := by decide +kernel
theorem dX6_tell_28 : decode cX6_tell 28 = .ok (.ifCond .ge 9, 3) := by decide +kernel
theorem dX6_tell_31 : decode cX6_tell 31 = .ok (.aload_n 0, 1) := by decide +kernel
theorem dX6_tell_32 : decode cX6_tell 32 = .ok (.iconst 1, 1) := by decide +kernel
theorem dX6_tell_33 : decode cX6_tell 33 = .ok (.invokevirtual 66, 3) := by decide +kernel
theorem dX6_tell_36 : decode cX6_tell 36 = .ok (.ireturn, 1) := by decide +kernel
theorem dX6_tell_37 : decode cX6_tell 37 = .ok (.aload_n 0, 1) := by decide +kernel
theorem dX6_tell_38 : decode cX6_tell 38 = .ok (.getfield 13, 3) := by decide +kernel
theorem dX6_tell_41 : decode cX6_tell 41 = .ok (.iload_n 2, 1) := by decide +kernel
theorem dX6_tell_42 : decode cX6_tell 42 = .ok (.iaload, 1) := by decide +kernel
theorem dX6_tell_43 : decode cX6_tell 43 = .ok (.aload_n 0, 1) := by decide +kernel
theorem dX6_tell_44 : decode cX6_tell 44 = .ok (.invokevirtual 128, 3) := by decide +kernel
theorem dX6_tell_47 : decode cX6_tell 47 = .ok (.iload_n 1, 1) := by decide +kernel
theorem dX6_tell_48 : decode cX6_tell 48 = .ok (.isub, 1) := by decide +kernel
theorem dX6_tell_49 : decode cX6_tell 49 = .ok (.iconst 0, 1) := by decide +kernel
theorem dX6_tell_50 : decode cX6_tell 50 = .ok (.invokestatic 204, 3) := by decide +kernel
theorem dX6_tell_53 : decode cX6_tell 53 = .ok (.invokestatic 173, 3) := by decide +kernel
theorem dX6_tell_56 : decode cX6_tell 56 = .ok (.istore_n 3, 1) := by decide +kernel
theorem dX6_tell_57 : decode cX6_tell 57 = .ok (.iconst 0, 1) := by decide +kernel
theorem dX6_tell_58 : decode cX6_tell 58 = .ok (.istore 4, 2) := by decide +kernel
theorem dX6_tell_60 : decode cX6_tell 60 = .ok (.iload 4, 2) := by decide +kernel
theorem dX6_tell_62 : decode cX6_tell 62 = .ok (.iload_n 3, 1) := by decide +kernel
theorem dX6_tell_63 : decode cX6_tell 63 = .ok (.if_icmp .ge 38, 3) := by decide +kernel
theorem dX6_tell_66 : decode cX6_tell 66 = .ok (.aload_n 0, 1) := by decide +kernel
theorem dX6_tell_67 : decode cX6_tell 67 = .ok (.getfield 16, 3) := by decide +kernel
theorem dX6_tell_70 : decode cX6_tell 70 = .ok (.bipush 60, 2) := by decide +kernel
theorem dX6_tell_72 : decode cX6_tell 72 = .ok (.iload_n 2, 1) := by decide +kernel
theorem dX6_tell_73 : decode cX6_tell 73 = .ok (.imul, 1) := by decide +kernel
theorem dX6_tell_74 : decode cX6_tell 74 = .ok (.iload 4, 2) := by decide +kernel
theorem dX6_tell_76 : decode cX6_tell 76 = .ok (.iadd, 1) := by decide +kernel
theorem dX6_tell_77 : decode cX6_tell 77 = .ok (.aload_n 0, 1) := by decide +kernel
theorem dX6_tell_78 : decode cX6_tell 78 = .ok (.getfield 7, 3) := by decide +kernel
theorem dX6_tell_81 : decode cX6_tell 81 = .ok (.iload_n 2, 1) := by decide +kernel
theorem dX6_tell_82 : decode cX6_tell 82 = .ok (.iaload, 1) := by decide +kernel
theorem dX6_tell_83 : decode cX6_tell 83 = .ok (.aload_n 0, 1) := by decide +kernel
theorem dX6_tell_84 : decode cX6_tell 84 = .ok (.iload_n 1, 1) := by decide +kernel
theorem dX6_tell_85 : decode cX6_tell 85 = .ok (.iload 4, 2) := by decide +kernel
theorem dX6_tell_87 : decode cX6_tell 87 = .ok (.iadd, 1) := by decide +kernel
theorem dX6_tell_88 : decode cX6_tell 88 = .ok (.invokevirtual 132, 3) := by decide +kernel
theorem dX6_tell_91 : decode cX6_tell 91 = .ok (.invokestatic 74, 3) := by decide +kernel
theorem dX6_tell_94 : decode cX6_tell 94 = .ok (.iastore, 1) := by decide +kernel
theorem dX6_tell_95 : decode cX6_tell 95 = .ok (.iinc 4 1, 3) := by decide +kernel
theorem dX6_tell_98 : decode cX6_tell 98 = .ok (.goto (-38), 3) := by decide +kernel
theorem dX6_tell_101 : decode cX6_tell 101 = .ok (.iload_n 3, 1) := by decide +kernel
theorem dX6_tell_102 : decode cX6_tell 102 = .ok (.ireturn, 1) := by decide +kernel
theorem dX6_manyThere_0 : decode cX6_manyThere 0 = .ok (.iconst 0, 1) := by decide +kernel
theorem dX6_manyThere_1 : decode cX6_manyThere 1 = .ok (.istore_n 1, 1) := by decide +kernel
theorem dX6_manyThere_2 : decode cX6_manyThere 2 = .ok (.iconst 0, 1) := by decide +kernel
theorem dX6_manyThere_3 : decode cX6_manyThere 3 = .ok (.istore_n 2, 1) := by decide +kernel
theorem dX6_manyThere_4 : decode cX6_manyThere 4 = .ok (.iload_n 2, 1) := by decide +kernel
theorem dX6_manyThere_5 : decode cX6_manyThere 5 = .ok (.bipush 16, 2) := by decide +kernel
theorem dX6_manyThere_7 : decode cX6_manyThere 7 = .ok (.if_icmp .ge 30, 3) := by decide +kernel
theorem dX6_manyThere_10 : decode cX6_manyThere 10 = .ok (.iload_n 1, 1) := by decide +kernel
theorem dX6_manyThere_11 : decode cX6_manyThere 11 = .ok (.aload_n 0, 1) := by decide +kernel
theorem dX6_manyThere_12 : decode cX6_manyThere 12 = .ok (.iload_n 2, 1) := by decide +kernel
theorem dX6_manyThere_13 : decode cX6_manyThere 13 = .ok (.aload_n 0, 1) := by decide +kernel
theorem dX6_manyThere_14 : decode cX6_manyThere 14 = .ok (.getfield 92, 3) := by decide +kernel
theorem dX6_manyThere_17 : decode cX6_manyThere 17 = .ok (.invokevirtual 152, 3) := by decide +kernel
theorem dX6_manyThere_20 : decode cX6_manyThere 20 = .ok (.iconst (-1), 1) := by decide +kernel
theorem dX6_manyThere_21 : decode cX6_manyThere 21 = .ok (.if_icmp .eq 7, 3) := by decide +kernel
theorem dX6_manyThere_24 : decode cX6_manyThere 24 = .ok (.iconst 1, 1) := by decide +kernel
theorem dX6_manyThere_25 : decode cX6_manyThere 25 = .ok (.goto 4, 3) := by decide +kernel
theorem dX6_manyThere_28 : decode cX6_manyThere 28 = .ok (.iconst 0, 1) := by decide +kernel
theorem dX6_manyThere_29 : decode cX6_manyThere 29 = .ok (.iadd, 1) := by decide +kernel
theorem dX6_manyThere_30 : decode cX6_manyThere 30 = .ok (.istore_n 1, 1) := by decide +kernel
theorem dX6_manyThere_31 : decode cX6_manyThere 31 = .ok (.iinc 2 1, 3) := by decide +kernel
theorem dX6_manyThere_34 : decode cX6_manyThere 34 = .ok (.goto (-30), 3) := by decide +kernel
theorem dX6_manyThere_37 : decode cX6_manyThere 37 = .ok (.iload_n 1, 1) := by decide +kernel
theorem dX6_manyThere_38 : decode cX6_manyThere 38 = .ok (.ireturn, 1) := by decide +kernel
theorem dX6_manyShadowed_0 : decode cX6_manyShadowed 0 = .ok (.iconst 0, 1) := by decide +kernel
theorem dX6_manyShadowed_1 : decode cX6_manyShadowed 1 = .ok (.istore_n 1, 1) := by decide +kernel
theorem dX6_manyShadowed_2 : decode cX6_manyShadowed 2 = .ok (.iconst 0, 1) := by decide +kernel
theorem dX6_manyShadowed_3 : decode cX6_manyShadowed 3 = .ok (.istore_n 2, 1) := by decide +kernel
theorem dX6_manyShadowed_4 : decode cX6_manyShadowed 4 = .ok (.iload_n 2, 1) := by decide +kernel
theorem dX6_manyShadowed_5 : decode cX6_manyShadowed 5 = .ok (.bipush 16, 2) := by decide +kernel
theorem dX6_manyShadowed_7 : decode cX6_manyShadowed 7 = .ok (.aload_n 0, 1) := by decide +kernel
theorem dX6_manyShadowed_8 : decode cX6_manyShadowed 8 = .ok (.getfield 92, 3) := by decide +kernel
theorem dX6_manyShadowed_11 : decode cX6_manyShadowed 11 = .ok (.iconst 1, 1) := by decide +kernel
theorem dX6_manyShadowed_12 : decode cX6_manyShadowed 12 = .ok (.iadd, 1) := by decide +kernel
theorem dX6_manyShadowed_13 : decode cX6_manyShadowed 13 = .ok (.imul, 1) := by decide +kernel
theorem dX6_manyShadowed_14 : decode cX6_manyShadowed 14 = .ok (.if_icmp .ge 32, 3) := by decide +kernel
theorem dX6_manyShadowed_17 : decode cX6_manyShadowed 17 = .ok (.iload_n 1, 1) := by decide +kernel
theorem dX6_manyShadowed_18 : decode cX6_manyShadowed 18 = .ok (.aload_n 0, 1) := by decide +kernel
theorem dX6_manyShadowed_19 : decode cX6_manyShadowed 19 = .ok (.iload_n 2, 1) := by decide +kernel
theorem dX6_manyShadowed_20 : decode cX6_manyShadowed 20 = .ok (.bipush 16, 2) := by decide +kernel
theorem dX6_manyShadowed_22 : decode cX6_manyShadowed 22 = .ok (.irem, 1) := by decide +kernel
theorem dX6_manyShadowed_23 : decode cX6_manyShadowed 23 = .ok (.iload_n 2, 1) := by decide +kernel
theorem dX6_manyShadowed_24 : decode cX6_manyShadowed 24 = .ok (.bipush 16, 2) := by decide +kernel
theorem dX6_manyShadowed_26 : decode cX6_manyShadowed 26 = .ok (.idiv, 1) := by decide +kernel
theorem dX6_manyShadowed_27 : decode cX6_manyShadowed 27 = .ok (.invokevirtual 161, 3) := by decide +kernel
theorem dX6_manyShadowed_30 : decode cX6_manyShadowed 30 = .ok (.ifCond .eq 7, 3) := by decide +kernel
theorem dX6_manyShadowed_33 : decode cX6_manyShadowed 33 = .ok (.iconst 1, 1) := by decide +kernel
theorem dX6_manyShadowed_34 : decode cX6_manyShadowed 34 = .ok (.goto 4, 3) := by decide +kernel
theorem dX6_manyShadowed_37 : decode cX6_manyShadowed 37 = .ok (.iconst 0, 1) := by decide +kernel
theorem dX6_manyShadowed_38 : decode cX6_manyShadowed 38 = .ok (.iadd, 1) := by decide +kernel
theorem dX6_manyShadowed_39 : decode cX6_manyShadowed 39 = .ok (.istore_n 1, 1) := by decide +kernel
theorem dX6_manyShadowed_40 : decode cX6_manyShadowed 40 = .ok (.iinc 2 1, 3) := by decide +kernel
theorem dX6_manyShadowed_43 : decode cX6_manyShadowed 43 = .ok (.goto (-39), 3) := by decide +kernel
theorem dX6_manyShadowed_46 : decode cX6_manyShadowed 46 = .ok (.iload_n 1, 1) := by decide +kernel
theorem dX6_manyShadowed_47 : decode cX6_manyShadowed 47 = .ok (.ireturn, 1) := by decide +kernel
theorem dX6_count_0 : decode cX6_count 0 = .ok (.iload_n 1, 1) := by decide +kernel
theorem dX6_count_1 : decode cX6_count 1 = .ok (.tableswitch 101 0 8 #[51, 56, 61, 66, 71, 77, 82, 87, 96], 51) := by decide +kernel
theorem dX6_count_52 : decode cX6_count 52 = .ok (.aload_n 0, 1) := by decide +kernel
theorem dX6_count_53 : decode cX6_count 53 = .ok (.getfield 89, 3) := by decide +kernel
theorem dX6_count_56 : decode cX6_count 56 = .ok (.ireturn, 1) := by decide +kernel
theorem dX6_count_57 : decode cX6_count 57 = .ok (.aload_n 0, 1) := by decide +kernel
theorem dX6_count_58 : decode cX6_count 58 = .ok (.getfield 92, 3) := by decide +kernel
theorem dX6_count_61 : decode cX6_count 61 = .ok (.ireturn, 1) := by decide +kernel
theorem dX6_count_62 : decode cX6_count 62 = .ok (.aload_n 0, 1) := by decide +kernel
theorem dX6_count_63 : decode cX6_count 63 = .ok (.invokevirtual 128, 3) := by decide +kernel
theorem dX6_count_66 : decode cX6_count 66 = .ok (.ireturn, 1) := by decide +kernel
theorem dX6_count_67 : decode cX6_count 67 = .ok (.aload_n 0, 1) := by decide +kernel
theorem dX6_count_68 : decode cX6_count 68 = .ok (.invokevirtual 236, 3) := by decide +kernel
theorem dX6_count_71 : decode cX6_count 71 = .ok (.ireturn, 1) := by decide +kernel
theorem dX6_count_72 : decode cX6_count 72 = .ok (.aload_n 0, 1) := by decide +kernel
theorem dX6_count_73 : decode cX6_count 73 = .ok (.iconst 0, 1) := by decide +kernel
theorem dX6_count_74 : decode cX6_count 74 = .ok (.invokevirtual 239, 3) := by decide +kernel
theorem dX6_count_77 : decode cX6_count 77 = .ok (.ireturn, 1) := by decide +kernel
theorem dX6_count_78 : decode cX6_count 78 = .ok (.aload_n 0, 1) := by decide +kernel
theorem dX6_count_79 : decode cX6_count 79 = .ok (.invokevirtual 245, 3) := by decide +kernel
theorem dX6_count_82 : decode cX6_count 82 = .ok (.ireturn, 1) := by decide +kernel
theorem dX6_count_83 : decode cX6_count 83 = .ok (.aload_n 0, 1) := by decide +kernel
theorem dX6_count_84 : decode cX6_count 84 = .ok (.invokevirtual 248, 3) := by decide +kernel
theorem dX6_count_87 : decode cX6_count 87 = .ok (.ireturn, 1) := by decide +kernel
theorem dX6_count_88 : decode cX6_count 88 = .ok (.aload_n 0, 1) := by decide +kernel
theorem dX6_count_89 : decode cX6_count 89 = .ok (.aload_n 0, 1) := by decide +kernel
theorem dX6_count_90 : decode cX6_count 90 = .ok (.getfield 92, 3) := by decide +kernel
theorem dX6_count_93 : decode cX6_count 93 = .ok (.invokevirtual 224, 3) := by decide +kernel
theorem dX6_count_96 : decode cX6_count 96 = .ok (.ireturn, 1) := by decide +kernel
theorem dX6_count_97 : decode cX6_count 97 = .ok (.aload_n 0, 1) := by decide +kernel
theorem dX6_count_98 : decode cX6_count 98 = .ok (.getfield 55, 3) := by decide +kernel
theorem dX6_count_101 : decode cX6_count 101 = .ok (.ireturn, 1) := by decide +kernel
theorem dX6_count_102 : decode cX6_count 102 = .ok (.bipush (-2), 2) := by decide +kernel
theorem dX6_count_104 : decode cX6_count 104 = .ok (.ireturn, 1) := by decide +kernel
theorem dX6_tellsWrite_0 : decode cX6_tellsWrite 0 = .ok (.lload_n 1, 1) := by decide +kernel
theorem dX6_tellsWrite_1 : decode cX6_tellsWrite 1 = .ok (.lstore 4, 2) := by decide +kernel
theorem dX6_tellsWrite_3 : decode cX6_tellsWrite 3 = .ok (.iconst 0, 1) := by decide +kernel
theorem dX6_tellsWrite_4 : decode cX6_tellsWrite 4 = .ok (.istore 6, 2) := by decide +kernel
theorem dX6_tellsWrite_6 : decode cX6_tellsWrite 6 = .ok (.iload 6, 2) := by decide +kernel
theorem dX6_tellsWrite_8 : decode cX6_tellsWrite 8 = .ok (.iconst 5, 1) := by decide +kernel
theorem dX6_tellsWrite_9 : decode cX6_tellsWrite 9 = .ok (.if_icmp .ge 26, 3) := by decide +kernel
theorem dX6_tellsWrite_12 : decode cX6_tellsWrite 12 = .ok (.ldc2_w 251, 3) := by decide +kernel
theorem dX6_tellsWrite_15 : decode cX6_tellsWrite 15 = .ok (.lload 4, 2) := by decide +kernel
theorem dX6_tellsWrite_17 : decode cX6_tellsWrite 17 = .ok (.lmul, 1) := by decide +kernel
theorem dX6_tellsWrite_18 : decode cX6_tellsWrite 18 = .ok (.aload_n 0, 1) := by decide +kernel
theorem dX6_tellsWrite_19 : decode cX6_tellsWrite 19 = .ok (.iload_n 3, 1) := by decide +kernel
theorem dX6_tellsWrite_20 : decode cX6_tellsWrite 20 = .ok (.iload 6, 2) := by decide +kernel
theorem dX6_tellsWrite_22 : decode cX6_tellsWrite 22 = .ok (.invokevirtual 140, 3) := by decide +kernel
theorem dX6_tellsWrite_25 : decode cX6_tellsWrite 25 = .ok (.i2l, 1) := by decide +kernel
theorem dX6_tellsWrite_26 : decode cX6_tellsWrite 26 = .ok (.ladd, 1) := by decide +kernel
theorem dX6_tellsWrite_27 : decode cX6_tellsWrite 27 = .ok (.lstore 4, 2) := by decide +kernel
theorem dX6_tellsWrite_29 : decode cX6_tellsWrite 29 = .ok (.iinc 6 1, 3) := by decide +kernel
theorem dX6_tellsWrite_32 : decode cX6_tellsWrite 32 = .ok (.goto (-26), 3) := by decide +kernel
theorem dX6_tellsWrite_35 : decode cX6_tellsWrite 35 = .ok (.iconst 0, 1) := by decide +kernel
theorem dX6_tellsWrite_36 : decode cX6_tellsWrite 36 = .ok (.istore 6, 2) := by decide +kernel
theorem dX6_tellsWrite_38 : decode cX6_tellsWrite 38 = .ok (.iload 6, 2) := by decide +kernel
theorem dX6_tellsWrite_40 : decode cX6_tellsWrite 40 = .ok (.iconst 4, 1) := by decide +kernel
theorem dX6_tellsWrite_41 : decode cX6_tellsWrite 41 = .ok (.if_icmp .ge 26, 3) := by decide +kernel
theorem dX6_tellsWrite_44 : decode cX6_tellsWrite 44 = .ok (.ldc2_w 251, 3) := by decide +kernel
theorem dX6_tellsWrite_47 : decode cX6_tellsWrite 47 = .ok (.lload 4, 2) := by decide +kernel
theorem dX6_tellsWrite_49 : decode cX6_tellsWrite 49 = .ok (.lmul, 1) := by decide +kernel
theorem dX6_tellsWrite_50 : decode cX6_tellsWrite 50 = .ok (.aload_n 0, 1) := by decide +kernel
theorem dX6_tellsWrite_51 : decode cX6_tellsWrite 51 = .ok (.iload_n 3, 1) := by decide +kernel
theorem dX6_tellsWrite_52 : decode cX6_tellsWrite 52 = .ok (.iload 6, 2) := by decide +kernel
theorem dX6_tellsWrite_54 : decode cX6_tellsWrite 54 = .ok (.invokevirtual 253, 3) := by decide +kernel
theorem dX6_tellsWrite_57 : decode cX6_tellsWrite 57 = .ok (.i2l, 1) := by decide +kernel
theorem dX6_tellsWrite_58 : decode cX6_tellsWrite 58 = .ok (.ladd, 1) := by decide +kernel
theorem dX6_tellsWrite_59 : decode cX6_tellsWrite 59 = .ok (.lstore 4, 2) := by decide +kernel
theorem dX6_tellsWrite_61 : decode cX6_tellsWrite 61 = .ok (.iinc 6 1, 3) := by decide +kernel
theorem dX6_tellsWrite_64 : decode cX6_tellsWrite 64 = .ok (.goto (-26), 3) := by decide +kernel
theorem dX6_tellsWrite_67 : decode cX6_tellsWrite 67 = .ok (.ldc2_w 251, 3) := by decide +kernel
theorem dX6_tellsWrite_70 : decode cX6_tellsWrite 70 = .ok (.lload 4, 2) := by decide +kernel
theorem dX6_tellsWrite_72 : decode cX6_tellsWrite 72 = .ok (.lmul, 1) := by decide +kernel
theorem dX6_tellsWrite_73 : decode cX6_tellsWrite 73 = .ok (.aload_n 0, 1) := by decide +kernel
theorem dX6_tellsWrite_74 : decode cX6_tellsWrite 74 = .ok (.iload_n 3, 1) := by decide +kernel
theorem dX6_tellsWrite_75 : decode cX6_tellsWrite 75 = .ok (.invokevirtual 256, 3) := by decide +kernel
theorem dX6_tellsWrite_78 : decode cX6_tellsWrite 78 = .ok (.i2l, 1) := by decide +kernel
theorem dX6_tellsWrite_79 : decode cX6_tellsWrite 79 = .ok (.ladd, 1) := by decide +kernel
theorem dX6_tellsWrite_80 : decode cX6_tellsWrite 80 = .ok (.lstore 4, 2) := by decide +kernel
theorem dX6_tellsWrite_82 : decode cX6_tellsWrite 82 = .ok (.ldc2_w 251, 3) := by decide +kernel
theorem dX6_tellsWrite_85 : decode cX6_tellsWrite 85 = .ok (.lload 4, 2) := by decide +kernel
theorem dX6_tellsWrite_87 : decode cX6_tellsWrite 87 = .ok (.lmul, 1) := by decide +kernel
theorem dX6_tellsWrite_88 : decode cX6_tellsWrite 88 = .ok (.aload_n 0, 1) := by decide +kernel
theorem dX6_tellsWrite_89 : decode cX6_tellsWrite 89 = .ok (.iload_n 3, 1) := by decide +kernel
theorem dX6_tellsWrite_90 : decode cX6_tellsWrite 90 = .ok (.iconst 0, 1) := by decide +kernel
theorem dX6_tellsWrite_91 : decode cX6_tellsWrite 91 = .ok (.invokevirtual 182, 3) := by decide +kernel
theorem dX6_tellsWrite_94 : decode cX6_tellsWrite 94 = .ok (.i2l, 1) := by decide +kernel
theorem dX6_tellsWrite_95 : decode cX6_tellsWrite 95 = .ok (.ladd, 1) := by decide +kernel
theorem dX6_tellsWrite_96 : decode cX6_tellsWrite 96 = .ok (.lstore 4, 2) := by decide +kernel
theorem dX6_tellsWrite_98 : decode cX6_tellsWrite 98 = .ok (.ldc2_w 251, 3) := by decide +kernel
theorem dX6_tellsWrite_101 : decode cX6_tellsWrite 101 = .ok (.lload 4, 2) := by decide +kernel
theorem dX6_tellsWrite_103 : decode cX6_tellsWrite 103 = .ok (.lmul, 1) := by decide +kernel
theorem dX6_tellsWrite_104 : decode cX6_tellsWrite 104 = .ok (.aload_n 0, 1) := by decide +kernel
theorem dX6_tellsWrite_105 : decode cX6_tellsWrite 105 = .ok (.iload_n 3, 1) := by decide +kernel
theorem dX6_tellsWrite_106 : decode cX6_tellsWrite 106 = .ok (.iconst 1, 1) := by decide +kernel
theorem dX6_tellsWrite_107 : decode cX6_tellsWrite 107 = .ok (.invokevirtual 182, 3) := by decide +kernel
theorem dX6_tellsWrite_110 : decode cX6_tellsWrite 110 = .ok (.i2l, 1) := by decide +kernel
theorem dX6_tellsWrite_111 : decode cX6_tellsWrite 111 = .ok (.ladd, 1) := by decide +kernel
theorem dX6_tellsWrite_112 : decode cX6_tellsWrite 112 = .ok (.lstore 4, 2) := by decide +kernel
theorem dX6_tellsWrite_114 : decode cX6_tellsWrite 114 = .ok (.ldc2_w 251, 3) := by decide +kernel
theorem dX6_tellsWrite_117 : decode cX6_tellsWrite 117 = .ok (.lload 4, 2) := by decide +kernel
theorem dX6_tellsWrite_119 : decode cX6_tellsWrite 119 = .ok (.lmul, 1) := by decide +kernel
theorem dX6_tellsWrite_120 : decode cX6_tellsWrite 120 = .ok (.aload_n 0, 1) := by decide +kernel
theorem dX6_tellsWrite_121 : decode cX6_tellsWrite 121 = .ok (.iload_n 3, 1) := by decide +kernel
theorem dX6_tellsWrite_122 : decode cX6_tellsWrite 122 = .ok (.invokevirtual 259, 3) := by decide +kernel
theorem dX6_tellsWrite_125 : decode cX6_tellsWrite 125 = .ok (.i2l, 1) := by decide +kernel
theorem dX6_tellsWrite_126 : decode cX6_tellsWrite 126 = .ok (.ladd, 1) := by decide +kernel
theorem dX6_tellsWrite_127 : decode cX6_tellsWrite 127 = .ok (.lstore 4, 2) := by decide +kernel
theorem dX6_tellsWrite_129 : decode cX6_tellsWrite 129 = .ok (.iconst 0, 1) := by decide +kernel
theorem dX6_tellsWrite_130 : decode cX6_tellsWrite 130 = .ok (.istore 6, 2) := by decide +kernel
theorem dX6_tellsWrite_132 : decode cX6_tellsWrite 132 = .ok (.iload 6, 2) := by decide +kernel
theorem dX6_tellsWrite_134 : decode cX6_tellsWrite 134 = .ok (.iconst 4, 1) := by decide +kernel
theorem dX6_tellsWrite_135 : decode cX6_tellsWrite 135 = .ok (.if_icmp .ge 26, 3) := by decide +kernel
theorem dX6_tellsWrite_138 : decode cX6_tellsWrite 138 = .ok (.ldc2_w 251, 3) := by decide +kernel
theorem dX6_tellsWrite_141 : decode cX6_tellsWrite 141 = .ok (.lload 4, 2) := by decide +kernel
theorem dX6_tellsWrite_143 : decode cX6_tellsWrite 143 = .ok (.lmul, 1) := by decide +kernel
theorem dX6_tellsWrite_144 : decode cX6_tellsWrite 144 = .ok (.aload_n 0, 1) := by decide +kernel
theorem dX6_tellsWrite_145 : decode cX6_tellsWrite 145 = .ok (.iload_n 3, 1) := by decide +kernel
theorem dX6_tellsWrite_146 : decode cX6_tellsWrite 146 = .ok (.iload 6, 2) := by decide +kernel
theorem dX6_tellsWrite_148 : decode cX6_tellsWrite 148 = .ok (.invokevirtual 262, 3) := by decide +kernel
theorem dX6_tellsWrite_151 : decode cX6_tellsWrite 151 = .ok (.i2l, 1) := by decide +kernel
theorem dX6_tellsWrite_152 : decode cX6_tellsWrite 152 = .ok (.ladd, 1) := by decide +kernel
theorem dX6_tellsWrite_153 : decode cX6_tellsWrite 153 = .ok (.lstore 4, 2) := by decide +kernel
theorem dX6_tellsWrite_155 : decode cX6_tellsWrite 155 = .ok (.iinc 6 1, 3) := by decide +kernel
theorem dX6_tellsWrite_158 : decode cX6_tellsWrite 158 = .ok (.goto (-26), 3) := by decide +kernel
theorem dX6_tellsWrite_161 : decode cX6_tellsWrite 161 = .ok (.iconst 0, 1) := by decide +kernel
theorem dX6_tellsWrite_162 : decode cX6_tellsWrite 162 = .ok (.istore 6, 2) := by decide +kernel
theorem dX6_tellsWrite_164 : decode cX6_tellsWrite 164 = .ok (.iload 6, 2) := by decide +kernel
theorem dX6_tellsWrite_166 : decode cX6_tellsWrite 166 = .ok (.iconst 5, 1) := by decide +kernel
theorem dX6_tellsWrite_167 : decode cX6_tellsWrite 167 = .ok (.if_icmp .ge 43, 3) := by decide +kernel
theorem dX6_tellsWrite_170 : decode cX6_tellsWrite 170 = .ok (.iconst 0, 1) := by decide +kernel
theorem dX6_tellsWrite_171 : decode cX6_tellsWrite 171 = .ok (.istore 7, 2) := by decide +kernel
theorem dX6_tellsWrite_173 : decode cX6_tellsWrite 173 = .ok (.iload 7, 2) := by decide +kernel
theorem dX6_tellsWrite_175 : decode cX6_tellsWrite 175 = .ok (.iconst 3, 1) := by decide +kernel
theorem dX6_tellsWrite_176 : decode cX6_tellsWrite 176 = .ok (.if_icmp .ge 28, 3) := by decide +kernel
theorem dX6_tellsWrite_179 : decode cX6_tellsWrite 179 = .ok (.ldc2_w 251, 3) := by decide +kernel
theorem dX6_tellsWrite_182 : decode cX6_tellsWrite 182 = .ok (.lload 4, 2) := by decide +kernel
theorem dX6_tellsWrite_184 : decode cX6_tellsWrite 184 = .ok (.lmul, 1) := by decide +kernel
theorem dX6_tellsWrite_185 : decode cX6_tellsWrite 185 = .ok (.aload_n 0, 1) := by decide +kernel
theorem dX6_tellsWrite_186 : decode cX6_tellsWrite 186 = .ok (.iload_n 3, 1) := by decide +kernel
theorem dX6_tellsWrite_187 : decode cX6_tellsWrite 187 = .ok (.iload 6, 2) := by decide +kernel
theorem dX6_tellsWrite_189 : decode cX6_tellsWrite 189 = .ok (.iload 7, 2) := by decide +kernel
theorem dX6_tellsWrite_191 : decode cX6_tellsWrite 191 = .ok (.invokevirtual 265, 3) := by decide +kernel
theorem dX6_tellsWrite_194 : decode cX6_tellsWrite 194 = .ok (.i2l, 1) := by decide +kernel
theorem dX6_tellsWrite_195 : decode cX6_tellsWrite 195 = .ok (.ladd, 1) := by decide +kernel
theorem dX6_tellsWrite_196 : decode cX6_tellsWrite 196 = .ok (.lstore 4, 2) := by decide +kernel
theorem dX6_tellsWrite_198 : decode cX6_tellsWrite 198 = .ok (.iinc 7 1, 3) := by decide +kernel
theorem dX6_tellsWrite_201 : decode cX6_tellsWrite 201 = .ok (.goto (-28), 3) := by decide +kernel
theorem dX6_tellsWrite_204 : decode cX6_tellsWrite 204 = .ok (.iinc 6 1, 3) := by decide +kernel
theorem dX6_tellsWrite_207 : decode cX6_tellsWrite 207 = .ok (.goto (-43), 3) := by decide +kernel
theorem dX6_tellsWrite_210 : decode cX6_tellsWrite 210 = .ok (.lload 4, 2) := by decide +kernel
theorem dX6_tellsWrite_212 : decode cX6_tellsWrite 212 = .ok (.lreturn, 1) := by decide +kernel
theorem dX6_digest_0 : decode cX6_digest 0 = .ok (.ldc2_w 268, 3) := by decide +kernel
theorem dX6_digest_3 : decode cX6_digest 3 = .ok (.lstore_n 1, 1) := by decide +kernel
theorem dX6_digest_4 : decode cX6_digest 4 = .ok (.iconst 0, 1) := by decide +kernel
theorem dX6_digest_5 : decode cX6_digest 5 = .ok (.istore_n 3, 1) := by decide +kernel
theorem dX6_digest_6 : decode cX6_digest 6 = .ok (.iload_n 3, 1) := by decide +kernel
theorem dX6_digest_7 : decode cX6_digest 7 = .ok (.bipush 8, 2) := by decide +kernel
theorem dX6_digest_9 : decode cX6_digest 9 = .ok (.if_icmp .ge 22, 3) := by decide +kernel
theorem dX6_digest_12 : decode cX6_digest 12 = .ok (.ldc2_w 251, 3) := by decide +kernel
theorem dX6_digest_15 : decode cX6_digest 15 = .ok (.lload_n 1, 1) := by decide +kernel
theorem dX6_digest_16 : decode cX6_digest 16 = .ok (.lmul, 1) := by decide +kernel
theorem dX6_digest_17 : decode cX6_digest 17 = .ok (.aload_n 0, 1) := by decide +kernel
theorem dX6_digest_18 : decode cX6_digest 18 = .ok (.iload_n 3, 1) := by decide +kernel
theorem dX6_digest_19 : decode cX6_digest 19 = .ok (.invokevirtual 270, 3) := by decide +kernel
theorem dX6_digest_22 : decode cX6_digest 22 = .ok (.i2l, 1) := by decide +kernel
theorem dX6_digest_23 : decode cX6_digest 23 = .ok (.ladd, 1) := by decide +kernel
theorem dX6_digest_24 : decode cX6_digest 24 = .ok (.lstore_n 1, 1) := by decide +kernel
theorem dX6_digest_25 : decode cX6_digest 25 = .ok (.iinc 3 1, 3) := by decide +kernel
theorem dX6_digest_28 : decode cX6_digest 28 = .ok (.goto (-22), 3) := by decide +kernel
theorem dX6_digest_31 : decode cX6_digest 31 = .ok (.iconst 0, 1) := by decide +kernel
theorem dX6_digest_32 : decode cX6_digest 32 = .ok (.istore_n 3, 1) := by decide +kernel
theorem dX6_digest_33 : decode cX6_digest 33 = .ok (.iload_n 3, 1) := by decide +kernel
theorem dX6_digest_34 : decode cX6_digest 34 = .ok (.bipush 8, 2) := by decide +kernel
theorem dX6_digest_36 : decode cX6_digest 36 = .ok (.if_icmp .ge 65, 3) := by decide +kernel
theorem dX6_digest_39 : decode cX6_digest 39 = .ok (.iconst 0, 1) := by decide +kernel
theorem dX6_digest_40 : decode cX6_digest 40 = .ok (.istore 4, 2) := by decide +kernel
theorem dX6_digest_42 : decode cX6_digest 42 = .ok (.iload 4, 2) := by decide +kernel
theorem dX6_digest_44 : decode cX6_digest 44 = .ok (.iconst 4, 1) := by decide +kernel
theorem dX6_digest_45 : decode cX6_digest 45 = .ok (.if_icmp .ge 24, 3) := by decide +kernel
theorem dX6_digest_48 : decode cX6_digest 48 = .ok (.ldc2_w 251, 3) := by decide +kernel
theorem dX6_digest_51 : decode cX6_digest 51 = .ok (.lload_n 1, 1) := by decide +kernel
theorem dX6_digest_52 : decode cX6_digest 52 = .ok (.lmul, 1) := by decide +kernel
theorem dX6_digest_53 : decode cX6_digest 53 = .ok (.aload_n 0, 1) := by decide +kernel
theorem dX6_digest_54 : decode cX6_digest 54 = .ok (.iload_n 3, 1) := by decide +kernel
theorem dX6_digest_55 : decode cX6_digest 55 = .ok (.iload 4, 2) := by decide +kernel
theorem dX6_digest_57 : decode cX6_digest 57 = .ok (.invokevirtual 273, 3) := by decide +kernel
theorem dX6_digest_60 : decode cX6_digest 60 = .ok (.i2l, 1) := by decide +kernel
theorem dX6_digest_61 : decode cX6_digest 61 = .ok (.ladd, 1) := by decide +kernel
theorem dX6_digest_62 : decode cX6_digest 62 = .ok (.lstore_n 1, 1) := by decide +kernel
theorem dX6_digest_63 : decode cX6_digest 63 = .ok (.iinc 4 1, 3) := by decide +kernel
theorem dX6_digest_66 : decode cX6_digest 66 = .ok (.goto (-24), 3) := by decide +kernel
theorem dX6_digest_69 : decode cX6_digest 69 = .ok (.ldc2_w 251, 3) := by decide +kernel
theorem dX6_digest_72 : decode cX6_digest 72 = .ok (.lload_n 1, 1) := by decide +kernel
theorem dX6_digest_73 : decode cX6_digest 73 = .ok (.lmul, 1) := by decide +kernel
theorem dX6_digest_74 : decode cX6_digest 74 = .ok (.aload_n 0, 1) := by decide +kernel
theorem dX6_digest_75 : decode cX6_digest 75 = .ok (.iload_n 3, 1) := by decide +kernel
theorem dX6_digest_76 : decode cX6_digest 76 = .ok (.invokevirtual 275, 3) := by decide +kernel
theorem dX6_digest_79 : decode cX6_digest 79 = .ok (.i2l, 1) := by decide +kernel
theorem dX6_digest_80 : decode cX6_digest 80 = .ok (.ladd, 1) := by decide +kernel
theorem dX6_digest_81 : decode cX6_digest 81 = .ok (.lstore_n 1, 1) := by decide +kernel
theorem dX6_digest_82 : decode cX6_digest 82 = .ok (.ldc2_w 251, 3) := by decide +kernel
theorem dX6_digest_85 : decode cX6_digest 85 = .ok (.lload_n 1, 1) := by decide +kernel
theorem dX6_digest_86 : decode cX6_digest 86 = .ok (.lmul, 1) := by decide +kernel
theorem dX6_digest_87 : decode cX6_digest 87 = .ok (.aload_n 0, 1) := by decide +kernel
theorem dX6_digest_88 : decode cX6_digest 88 = .ok (.iload_n 3, 1) := by decide +kernel
theorem dX6_digest_89 : decode cX6_digest 89 = .ok (.invokevirtual 278, 3) := by decide +kernel
theorem dX6_digest_92 : decode cX6_digest 92 = .ok (.i2l, 1) := by decide +kernel
theorem dX6_digest_93 : decode cX6_digest 93 = .ok (.ladd, 1) := by decide +kernel
theorem dX6_digest_94 : decode cX6_digest 94 = .ok (.lstore_n 1, 1) := by decide +kernel
theorem dX6_digest_95 : decode cX6_digest 95 = .ok (.iinc 3 1, 3) := by decide +kernel
theorem dX6_digest_98 : decode cX6_digest 98 = .ok (.goto (-65), 3) := by decide +kernel
theorem dX6_digest_101 : decode cX6_digest 101 = .ok (.iconst 0, 1) := by decide +kernel
theorem dX6_digest_102 : decode cX6_digest 102 = .ok (.istore_n 3, 1) := by decide +kernel
theorem dX6_digest_103 : decode cX6_digest 103 = .ok (.iload_n 3, 1) := by decide +kernel
theorem dX6_digest_104 : decode cX6_digest 104 = .ok (.bipush 16, 2) := by decide +kernel
theorem dX6_digest_106 : decode cX6_digest 106 = .ok (.if_icmp .ge 73, 3) := by decide +kernel
theorem dX6_digest_109 : decode cX6_digest 109 = .ok (.ldc2_w 251, 3) := by decide +kernel
theorem dX6_digest_112 : decode cX6_digest 112 = .ok (.lload_n 1, 1) := by decide +kernel
theorem dX6_digest_113 : decode cX6_digest 113 = .ok (.lmul, 1) := by decide +kernel
theorem dX6_digest_114 : decode cX6_digest 114 = .ok (.aload_n 0, 1) := by decide +kernel
theorem dX6_digest_115 : decode cX6_digest 115 = .ok (.iload_n 3, 1) := by decide +kernel
theorem dX6_digest_116 : decode cX6_digest 116 = .ok (.iconst 0, 1) := by decide +kernel
theorem dX6_digest_117 : decode cX6_digest 117 = .ok (.iconst 0, 1) := by decide +kernel
theorem dX6_digest_118 : decode cX6_digest 118 = .ok (.invokevirtual 281, 3) := by decide +kernel
theorem dX6_digest_121 : decode cX6_digest 121 = .ok (.i2l, 1) := by decide +kernel
theorem dX6_digest_122 : decode cX6_digest 122 = .ok (.ladd, 1) := by decide +kernel
theorem dX6_digest_123 : decode cX6_digest 123 = .ok (.lstore_n 1, 1) := by decide +kernel
theorem dX6_digest_124 : decode cX6_digest 124 = .ok (.ldc2_w 251, 3) := by decide +kernel
theorem dX6_digest_127 : decode cX6_digest 127 = .ok (.lload_n 1, 1) := by decide +kernel
theorem dX6_digest_128 : decode cX6_digest 128 = .ok (.lmul, 1) := by decide +kernel
theorem dX6_digest_129 : decode cX6_digest 129 = .ok (.aload_n 0, 1) := by decide +kernel
theorem dX6_digest_130 : decode cX6_digest 130 = .ok (.iload_n 3, 1) := by decide +kernel
theorem dX6_digest_131 : decode cX6_digest 131 = .ok (.iconst 2, 1) := by decide +kernel
theorem dX6_digest_132 : decode cX6_digest 132 = .ok (.iconst 1, 1) := by decide +kernel
theorem dX6_digest_133 : decode cX6_digest 133 = .ok (.invokevirtual 281, 3) := by decide +kernel
theorem dX6_digest_136 : decode cX6_digest 136 = .ok (.i2l, 1) := by decide +kernel
theorem dX6_digest_137 : decode cX6_digest 137 = .ok (.ladd, 1) := by decide +kernel
theorem dX6_digest_138 : decode cX6_digest 138 = .ok (.lstore_n 1, 1) := by decide +kernel
theorem dX6_digest_139 : decode cX6_digest 139 = .ok (.iconst 0, 1) := by decide +kernel
theorem dX6_digest_140 : decode cX6_digest 140 = .ok (.istore 4, 2) := by decide +kernel
theorem dX6_digest_142 : decode cX6_digest 142 = .ok (.iload 4, 2) := by decide +kernel
theorem dX6_digest_144 : decode cX6_digest 144 = .ok (.iconst 3, 1) := by decide +kernel
theorem dX6_digest_145 : decode cX6_digest 145 = .ok (.if_icmp .ge 28, 3) := by decide +kernel
theorem dX6_digest_148 : decode cX6_digest 148 = .ok (.ldc2_w 251, 3) := by decide +kernel
theorem dX6_digest_151 : decode cX6_digest 151 = .ok (.lload_n 1, 1) := by decide +kernel
theorem dX6_digest_152 : decode cX6_digest 152 = .ok (.lmul, 1) := by decide +kernel
theorem dX6_digest_153 : decode cX6_digest 153 = .ok (.aload_n 0, 1) := by decide +kernel
theorem dX6_digest_154 : decode cX6_digest 154 = .ok (.iload_n 3, 1) := by decide +kernel
theorem dX6_digest_155 : decode cX6_digest 155 = .ok (.aload_n 0, 1) := by decide +kernel
theorem dX6_digest_156 : decode cX6_digest 156 = .ok (.getfield 92, 3) := by decide +kernel
theorem dX6_digest_159 : decode cX6_digest 159 = .ok (.iload 4, 2) := by decide +kernel
theorem dX6_digest_161 : decode cX6_digest 161 = .ok (.invokevirtual 158, 3) := by decide +kernel
theorem dX6_digest_164 : decode cX6_digest 164 = .ok (.i2l, 1) := by decide +kernel
theorem dX6_digest_165 : decode cX6_digest 165 = .ok (.ladd, 1) := by decide +kernel
theorem dX6_digest_166 : decode cX6_digest 166 = .ok (.lstore_n 1, 1) := by decide +kernel
theorem dX6_digest_167 : decode cX6_digest 167 = .ok (.iinc 4 1, 3) := by decide +kernel
theorem dX6_digest_170 : decode cX6_digest 170 = .ok (.goto (-28), 3) := by decide +kernel
theorem dX6_digest_173 : decode cX6_digest 173 = .ok (.iinc 3 1, 3) := by decide +kernel
theorem dX6_digest_176 : decode cX6_digest 176 = .ok (.goto (-73), 3) := by decide +kernel
theorem dX6_digest_179 : decode cX6_digest 179 = .ok (.iconst 0, 1) := by decide +kernel
theorem dX6_digest_180 : decode cX6_digest 180 = .ok (.istore_n 3, 1) := by decide +kernel
theorem dX6_digest_181 : decode cX6_digest 181 = .ok (.iload_n 3, 1) := by decide +kernel
theorem dX6_digest_182 : decode cX6_digest 182 = .ok (.aload_n 0, 1) := by decide +kernel
theorem dX6_digest_183 : decode cX6_digest 183 = .ok (.getfield 89, 3) := by decide +kernel
theorem dX6_digest_186 : decode cX6_digest 186 = .ok (.if_icmp .ge 16, 3) := by decide +kernel
theorem dX6_digest_189 : decode cX6_digest 189 = .ok (.aload_n 0, 1) := by decide +kernel
theorem dX6_digest_190 : decode cX6_digest 190 = .ok (.lload_n 1, 1) := by decide +kernel
theorem dX6_digest_191 : decode cX6_digest 191 = .ok (.iload_n 3, 1) := by decide +kernel
theorem dX6_digest_192 : decode cX6_digest 192 = .ok (.invokevirtual 283, 3) := by decide +kernel
theorem dX6_digest_195 : decode cX6_digest 195 = .ok (.lstore_n 1, 1) := by decide +kernel
theorem dX6_digest_196 : decode cX6_digest 196 = .ok (.iinc 3 1, 3) := by decide +kernel
theorem dX6_digest_199 : decode cX6_digest 199 = .ok (.goto (-18), 3) := by decide +kernel
theorem dX6_digest_202 : decode cX6_digest 202 = .ok (.iconst 0, 1) := by decide +kernel
theorem dX6_digest_203 : decode cX6_digest 203 = .ok (.istore_n 3, 1) := by decide +kernel
theorem dX6_digest_204 : decode cX6_digest 204 = .ok (.iload_n 3, 1) := by decide +kernel
theorem dX6_digest_205 : decode cX6_digest 205 = .ok (.bipush 31, 2) := by decide +kernel
theorem dX6_digest_207 : decode cX6_digest 207 = .ok (.if_icmp .ge 22, 3) := by decide +kernel
theorem dX6_digest_210 : decode cX6_digest 210 = .ok (.ldc2_w 251, 3) := by decide +kernel
theorem dX6_digest_213 : decode cX6_digest 213 = .ok (.lload_n 1, 1) := by decide +kernel
theorem dX6_digest_214 : decode cX6_digest 214 = .ok (.lmul, 1) := by decide +kernel
theorem dX6_digest_215 : decode cX6_digest 215 = .ok (.aload_n 0, 1) := by decide +kernel
theorem dX6_digest_216 : decode cX6_digest 216 = .ok (.iload_n 3, 1) := by decide +kernel
theorem dX6_digest_217 : decode cX6_digest 217 = .ok (.invokevirtual 287, 3) := by decide +kernel
theorem dX6_digest_220 : decode cX6_digest 220 = .ok (.i2l, 1) := by decide +kernel
theorem dX6_digest_221 : decode cX6_digest 221 = .ok (.ladd, 1) := by decide +kernel
theorem dX6_digest_222 : decode cX6_digest 222 = .ok (.lstore_n 1, 1) := by decide +kernel
theorem dX6_digest_223 : decode cX6_digest 223 = .ok (.iinc 3 1, 3) := by decide +kernel
theorem dX6_digest_226 : decode cX6_digest 226 = .ok (.goto (-22), 3) := by decide +kernel
theorem dX6_digest_229 : decode cX6_digest 229 = .ok (.ldc2_w 251, 3) := by decide +kernel
theorem dX6_digest_232 : decode cX6_digest 232 = .ok (.lload_n 1, 1) := by decide +kernel
theorem dX6_digest_233 : decode cX6_digest 233 = .ok (.lmul, 1) := by decide +kernel
theorem dX6_digest_234 : decode cX6_digest 234 = .ok (.aload_n 0, 1) := by decide +kernel
theorem dX6_digest_235 : decode cX6_digest 235 = .ok (.invokevirtual 128, 3) := by decide +kernel
theorem dX6_digest_238 : decode cX6_digest 238 = .ok (.i2l, 1) := by decide +kernel
theorem dX6_digest_239 : decode cX6_digest 239 = .ok (.ladd, 1) := by decide +kernel
theorem dX6_digest_240 : decode cX6_digest 240 = .ok (.lstore_n 1, 1) := by decide +kernel
theorem dX6_digest_241 : decode cX6_digest 241 = .ok (.iconst 0, 1) := by decide +kernel
theorem dX6_digest_242 : decode cX6_digest 242 = .ok (.istore_n 3, 1) := by decide +kernel
theorem dX6_digest_243 : decode cX6_digest 243 = .ok (.iload_n 3, 1) := by decide +kernel
theorem dX6_digest_244 : decode cX6_digest 244 = .ok (.iconst 3, 1) := by decide +kernel
theorem dX6_digest_245 : decode cX6_digest 245 = .ok (.if_icmp .ge 22, 3) := by decide +kernel
theorem dX6_digest_248 : decode cX6_digest 248 = .ok (.ldc2_w 251, 3) := by decide +kernel
theorem dX6_digest_251 : decode cX6_digest 251 = .ok (.lload_n 1, 1) := by decide +kernel
theorem dX6_digest_252 : decode cX6_digest 252 = .ok (.lmul, 1) := by decide +kernel
theorem dX6_digest_253 : decode cX6_digest 253 = .ok (.aload_n 0, 1) := by decide +kernel
theorem dX6_digest_254 : decode cX6_digest 254 = .ok (.iload_n 3, 1) := by decide +kernel
theorem dX6_digest_255 : decode cX6_digest 255 = .ok (.invokevirtual 227, 3) := by decide +kernel
theorem dX6_digest_258 : decode cX6_digest 258 = .ok (.i2l, 1) := by decide +kernel
theorem dX6_digest_259 : decode cX6_digest 259 = .ok (.ladd, 1) := by decide +kernel
theorem dX6_digest_260 : decode cX6_digest 260 = .ok (.lstore_n 1, 1) := by decide +kernel
theorem dX6_digest_261 : decode cX6_digest 261 = .ok (.iinc 3 1, 3) := by decide +kernel
theorem dX6_digest_264 : decode cX6_digest 264 = .ok (.goto (-21), 3) := by decide +kernel
theorem dX6_digest_267 : decode cX6_digest 267 = .ok (.iconst 0, 1) := by decide +kernel
theorem dX6_digest_268 : decode cX6_digest 268 = .ok (.istore_n 3, 1) := by decide +kernel
theorem dX6_digest_269 : decode cX6_digest 269 = .ok (.iload_n 3, 1) := by decide +kernel
theorem dX6_digest_270 : decode cX6_digest 270 = .ok (.iconst 2, 1) := by decide +kernel
theorem dX6_digest_271 : decode cX6_digest 271 = .ok (.if_icmp .ge 22, 3) := by decide +kernel
theorem dX6_digest_274 : decode cX6_digest 274 = .ok (.ldc2_w 251, 3) := by decide +kernel
theorem dX6_digest_277 : decode cX6_digest 277 = .ok (.lload_n 1, 1) := by decide +kernel
theorem dX6_digest_278 : decode cX6_digest 278 = .ok (.lmul, 1) := by decide +kernel
theorem dX6_digest_279 : decode cX6_digest 279 = .ok (.aload_n 0, 1) := by decide +kernel
theorem dX6_digest_280 : decode cX6_digest 280 = .ok (.iload_n 3, 1) := by decide +kernel
theorem dX6_digest_281 : decode cX6_digest 281 = .ok (.invokevirtual 239, 3) := by decide +kernel
theorem dX6_digest_284 : decode cX6_digest 284 = .ok (.i2l, 1) := by decide +kernel
theorem dX6_digest_285 : decode cX6_digest 285 = .ok (.ladd, 1) := by decide +kernel
theorem dX6_digest_286 : decode cX6_digest 286 = .ok (.lstore_n 1, 1) := by decide +kernel
theorem dX6_digest_287 : decode cX6_digest 287 = .ok (.iinc 3 1, 3) := by decide +kernel
theorem dX6_digest_290 : decode cX6_digest 290 = .ok (.goto (-21), 3) := by decide +kernel
theorem dX6_digest_293 : decode cX6_digest 293 = .ok (.ldc2_w 251, 3) := by decide +kernel
theorem dX6_digest_296 : decode cX6_digest 296 = .ok (.lload_n 1, 1) := by decide +kernel
theorem dX6_digest_297 : decode cX6_digest 297 = .ok (.lmul, 1) := by decide +kernel
theorem dX6_digest_298 : decode cX6_digest 298 = .ok (.aload_n 0, 1) := by decide +kernel
theorem dX6_digest_299 : decode cX6_digest 299 = .ok (.iconst 0, 1) := by decide +kernel
theorem dX6_digest_300 : decode cX6_digest 300 = .ok (.invokevirtual 242, 3) := by decide +kernel
theorem dX6_digest_303 : decode cX6_digest 303 = .ok (.i2l, 1) := by decide +kernel
theorem dX6_digest_304 : decode cX6_digest 304 = .ok (.ladd, 1) := by decide +kernel
theorem dX6_digest_305 : decode cX6_digest 305 = .ok (.lstore_n 1, 1) := by decide +kernel
theorem dX6_digest_306 : decode cX6_digest 306 = .ok (.ldc2_w 251, 3) := by decide +kernel
theorem dX6_digest_309 : decode cX6_digest 309 = .ok (.lload_n 1, 1) := by decide +kernel
theorem dX6_digest_310 : decode cX6_digest 310 = .ok (.lmul, 1) := by decide +kernel
theorem dX6_digest_311 : decode cX6_digest 311 = .ok (.aload_n 0, 1) := by decide +kernel
theorem dX6_digest_312 : decode cX6_digest 312 = .ok (.iconst 1, 1) := by decide +kernel
theorem dX6_digest_313 : decode cX6_digest 313 = .ok (.invokevirtual 242, 3) := by decide +kernel
theorem dX6_digest_316 : decode cX6_digest 316 = .ok (.i2l, 1) := by decide +kernel
theorem dX6_digest_317 : decode cX6_digest 317 = .ok (.ladd, 1) := by decide +kernel
theorem dX6_digest_318 : decode cX6_digest 318 = .ok (.lreturn, 1) := by decide +kernel
end
section
/-! the words of the tables that last, one row a word -/
def TB : List Cond := lw_tbl.filter goodWord
theorem mT {w : Cond} (h : w ∈ tables_1) (g : goodWord w = true) : w ∈ TB := List.mem_filter.mpr ⟨List.mem_append_right _ h, g⟩
theorem mS {w : Cond} (h : w ∈ k2_sels lw_privs) (g : goodWord w = true) : w ∈ TB := List.mem_filter.mpr ⟨List.mem_append_left _ h, g⟩
theorem TB_in : ∀ w ∈ TB, w ∈ lw_tbl := fun _ h => (List.mem_filter.mp h).1
theorem TB_good : ∀ w ∈ TB, goodWord w = true := fun _ h => (List.mem_filter.mp h).2
theorem TB_c {y : MethodName} {b : ByteArray} {n : Nat} {r : Option FieldType} (h : Cond.code y b n r ∈ TB) : GoodIn TB (Cond.code y b n r :: TB) := fun w hw => (List.mem_cons.mp hw).elim (fun e => by subst e; exact ⟨h, good_of_word (TB_good _ h)⟩) (fun hm => ⟨hm, good_of_word (TB_good _ hm)⟩)

theorem in_L : Cond.initialized RL ∈ TB := mT (List.mem_of_getElem? (i := 0) (by decide +kernel)) rfl
theorem in_X5 : Cond.initialized RX5 ∈ TB := mT (List.mem_of_getElem? (i := 1) (by decide +kernel)) rfl
theorem in_X4 : Cond.initialized RX4 ∈ TB := mT (List.mem_of_getElem? (i := 2) (by decide +kernel)) rfl
theorem in_X0 : Cond.initialized RX0 ∈ TB := mT (List.mem_of_getElem? (i := 3) (by decide +kernel)) rfl
theorem in_X1 : Cond.initialized RX1 ∈ TB := mT (List.mem_of_getElem? (i := 4) (by decide +kernel)) rfl
theorem in_X2 : Cond.initialized RX2 ∈ TB := mT (List.mem_of_getElem? (i := 5) (by decide +kernel)) rfl
theorem in_X3 : Cond.initialized RX3 ∈ TB := mT (List.mem_of_getElem? (i := 6) (by decide +kernel)) rfl
theorem in_J7 : Cond.initialized RJ7 ∈ TB := mT (List.mem_of_getElem? (i := 7) (by decide +kernel)) rfl
theorem in_J10 : Cond.initialized RJ10 ∈ TB := mT (List.mem_of_getElem? (i := 8) (by decide +kernel)) rfl
theorem in_J9 : Cond.initialized RJ9 ∈ TB := mT (List.mem_of_getElem? (i := 9) (by decide +kernel)) rfl
theorem in_X6 : Cond.initialized RX6 ∈ TB := mT (List.mem_of_getElem? (i := 10) (by decide +kernel)) rfl
theorem in_J6 : Cond.initialized RJ6 ∈ TB := mT (List.mem_of_getElem? (i := 11) (by decide +kernel)) rfl
theorem cl_L_7 : Cond.classLink RL 7 RX5 ∈ TB := mT (List.mem_of_getElem? (i := 12) (by decide +kernel)) rfl
theorem is_X5 : Cond.instantiable RX5 7 ∈ TB := mT (List.mem_of_getElem? (i := 13) (by decide +kernel)) rfl
theorem ml_L_9 : Cond.methodLink RL 9 yX5_init ∈ TB := mT (List.mem_of_getElem? (i := 14) (by decide +kernel)) rfl
theorem im_X5_init : Cond.instanceMethod yX5_init ∈ TB := mT (List.mem_of_getElem? (i := 15) (by decide +kernel)) rfl
theorem cd_X5_init : Cond.code yX5_init cX5_init 2 none ∈ TB := mT (List.mem_of_getElem? (i := 16) (by decide +kernel)) rfl
theorem ml_X5_3 : Cond.methodLink RX5 3 objectInit ∈ TB := mT (List.mem_of_getElem? (i := 17) (by decide +kernel)) rfl
theorem im_objectInit : Cond.instanceMethod objectInit ∈ TB := mT (List.mem_of_getElem? (i := 18) (by decide +kernel)) rfl
theorem cd_objectInit : Cond.code objectInit ⟨#[0xb1]⟩ 1 none ∈ TB := mT (List.mem_of_getElem? (i := 19) (by decide +kernel)) rfl
theorem cl_X5_9 : Cond.classLink RX5 9 RX4 ∈ TB := mT (List.mem_of_getElem? (i := 20) (by decide +kernel)) rfl
theorem is_X4 : Cond.instantiable RX4 7 ∈ TB := mT (List.mem_of_getElem? (i := 21) (by decide +kernel)) rfl
theorem im_X4_init : Cond.instanceMethod yX4_init ∈ TB := mT (List.mem_of_getElem? (i := 23) (by decide +kernel)) rfl
theorem cd_X4_init : Cond.code yX4_init cX4_init 1 none ∈ TB := mT (List.mem_of_getElem? (i := 24) (by decide +kernel)) rfl
theorem ml_X4_3 : Cond.methodLink RX4 3 objectInit ∈ TB := mT (List.mem_of_getElem? (i := 25) (by decide +kernel)) rfl
theorem fl_X4_9 : Cond.fieldLink RX4 9 (TX4 0).1 (TX4 0).2.1 (TX4 0).2.2.1 ∈ TB := mT (List.mem_of_getElem? (i := 26) (by decide +kernel)) rfl
theorem fl_X2_114 : Cond.fieldLink RX2 114 (TX4 0).1 (TX4 0).2.1 (TX4 0).2.2.1 ∈ TB := mT (List.mem_of_getElem? (i := 27) (by decide +kernel)) rfl
theorem fl_X5_135 : Cond.fieldLink RX5 135 (TX4 0).1 (TX4 0).2.1 (TX4 0).2.2.1 ∈ TB := mT (List.mem_of_getElem? (i := 28) (by decide +kernel)) rfl
theorem fl_X4_15 : Cond.fieldLink RX4 15 (TX4 1).1 (TX4 1).2.1 (TX4 1).2.2.1 ∈ TB := mT (List.mem_of_getElem? (i := 29) (by decide +kernel)) rfl
theorem fl_X5_102 : Cond.fieldLink RX5 102 (TX4 1).1 (TX4 1).2.1 (TX4 1).2.2.1 ∈ TB := mT (List.mem_of_getElem? (i := 30) (by decide +kernel)) rfl
theorem fl_X4_18 : Cond.fieldLink RX4 18 (TX4 2).1 (TX4 2).2.1 (TX4 2).2.2.1 ∈ TB := mT (List.mem_of_getElem? (i := 31) (by decide +kernel)) rfl
theorem fl_X2_85 : Cond.fieldLink RX2 85 (TX4 2).1 (TX4 2).2.1 (TX4 2).2.2.1 ∈ TB := mT (List.mem_of_getElem? (i := 32) (by decide +kernel)) rfl
theorem fl_X5_110 : Cond.fieldLink RX5 110 (TX4 2).1 (TX4 2).2.1 (TX4 2).2.2.1 ∈ TB := mT (List.mem_of_getElem? (i := 33) (by decide +kernel)) rfl
theorem fl_X4_21 : Cond.fieldLink RX4 21 (TX4 3).1 (TX4 3).2.1 (TX4 3).2.2.1 ∈ TB := mT (List.mem_of_getElem? (i := 34) (by decide +kernel)) rfl
theorem fl_X5_138 : Cond.fieldLink RX5 138 (TX4 3).1 (TX4 3).2.1 (TX4 3).2.2.1 ∈ TB := mT (List.mem_of_getElem? (i := 35) (by decide +kernel)) rfl
theorem fl_X1_81 : Cond.fieldLink RX1 81 (TX4 3).1 (TX4 3).2.1 (TX4 3).2.2.1 ∈ TB := mT (List.mem_of_getElem? (i := 36) (by decide +kernel)) rfl
theorem fl_X4_24 : Cond.fieldLink RX4 24 (TX4 4).1 (TX4 4).2.1 (TX4 4).2.2.1 ∈ TB := mT (List.mem_of_getElem? (i := 37) (by decide +kernel)) rfl
theorem fl_X1_48 : Cond.fieldLink RX1 48 (TX4 4).1 (TX4 4).2.1 (TX4 4).2.2.1 ∈ TB := mT (List.mem_of_getElem? (i := 38) (by decide +kernel)) rfl
theorem fl_X2_108 : Cond.fieldLink RX2 108 (TX4 4).1 (TX4 4).2.1 (TX4 4).2.2.1 ∈ TB := mT (List.mem_of_getElem? (i := 39) (by decide +kernel)) rfl
theorem fl_X5_144 : Cond.fieldLink RX5 144 (TX4 4).1 (TX4 4).2.1 (TX4 4).2.2.1 ∈ TB := mT (List.mem_of_getElem? (i := 40) (by decide +kernel)) rfl
theorem fl_X4_27 : Cond.fieldLink RX4 27 (TX4 5).1 (TX4 5).2.1 (TX4 5).2.2.1 ∈ TB := mT (List.mem_of_getElem? (i := 41) (by decide +kernel)) rfl
theorem fl_X5_82 : Cond.fieldLink RX5 82 (TX4 5).1 (TX4 5).2.1 (TX4 5).2.2.1 ∈ TB := mT (List.mem_of_getElem? (i := 42) (by decide +kernel)) rfl
theorem fl_X1_64 : Cond.fieldLink RX1 64 (TX4 5).1 (TX4 5).2.1 (TX4 5).2.2.1 ∈ TB := mT (List.mem_of_getElem? (i := 43) (by decide +kernel)) rfl
theorem fl_X4_31 : Cond.fieldLink RX4 31 (TX4 6).1 (TX4 6).2.1 (TX4 6).2.2.1 ∈ TB := mT (List.mem_of_getElem? (i := 44) (by decide +kernel)) rfl
theorem fl_X2_44 : Cond.fieldLink RX2 44 (TX4 6).1 (TX4 6).2.1 (TX4 6).2.2.1 ∈ TB := mT (List.mem_of_getElem? (i := 45) (by decide +kernel)) rfl
theorem fl_X5_70 : Cond.fieldLink RX5 70 (TX4 6).1 (TX4 6).2.1 (TX4 6).2.2.1 ∈ TB := mT (List.mem_of_getElem? (i := 46) (by decide +kernel)) rfl
theorem ac_62 : Cond.arrayClass FieldType.int ∈ TB := mT (List.mem_of_getElem? (i := 62) (by decide +kernel)) rfl
theorem cl_X5_16 : Cond.classLink RX5 16 RX0 ∈ TB := mT (List.mem_of_getElem? (i := 63) (by decide +kernel)) rfl
theorem is_X0 : Cond.instantiable RX0 2 ∈ TB := mT (List.mem_of_getElem? (i := 64) (by decide +kernel)) rfl
theorem im_X0_init : Cond.instanceMethod yX0_init ∈ TB := mT (List.mem_of_getElem? (i := 66) (by decide +kernel)) rfl
theorem cd_X0_init : Cond.code yX0_init cX0_init 1 none ∈ TB := mT (List.mem_of_getElem? (i := 67) (by decide +kernel)) rfl
theorem ml_X0_3 : Cond.methodLink RX0 3 objectInit ∈ TB := mT (List.mem_of_getElem? (i := 68) (by decide +kernel)) rfl
theorem fl_X0_9 : Cond.fieldLink RX0 9 (TX0 0).1 (TX0 0).2.1 (TX0 0).2.2.1 ∈ TB := mT (List.mem_of_getElem? (i := 69) (by decide +kernel)) rfl
theorem fl_X5_158 : Cond.fieldLink RX5 158 (TX0 0).1 (TX0 0).2.1 (TX0 0).2.2.1 ∈ TB := mT (List.mem_of_getElem? (i := 70) (by decide +kernel)) rfl
theorem fl_X0_15 : Cond.fieldLink RX0 15 (TX0 1).1 (TX0 1).2.1 (TX0 1).2.2.1 ∈ TB := mT (List.mem_of_getElem? (i := 71) (by decide +kernel)) rfl
theorem fl_X5_156 : Cond.fieldLink RX5 156 (TX0 1).1 (TX0 1).2.1 (TX0 1).2.2.1 ∈ TB := mT (List.mem_of_getElem? (i := 72) (by decide +kernel)) rfl
theorem cl_X5_23 : Cond.classLink RX5 23 RX1 ∈ TB := mT (List.mem_of_getElem? (i := 78) (by decide +kernel)) rfl
theorem is_X1 : Cond.instantiable RX1 7 ∈ TB := mT (List.mem_of_getElem? (i := 79) (by decide +kernel)) rfl
theorem ml_X5_25 : Cond.methodLink RX5 25 yX1_init ∈ TB := mT (List.mem_of_getElem? (i := 80) (by decide +kernel)) rfl
theorem im_X1_init : Cond.instanceMethod yX1_init ∈ TB := mT (List.mem_of_getElem? (i := 81) (by decide +kernel)) rfl
theorem cd_X1_init : Cond.code yX1_init cX1_init 3 none ∈ TB := mT (List.mem_of_getElem? (i := 82) (by decide +kernel)) rfl
theorem ml_X1_3 : Cond.methodLink RX1 3 objectInit ∈ TB := mT (List.mem_of_getElem? (i := 83) (by decide +kernel)) rfl
theorem fl_X1_28 : Cond.fieldLink RX1 28 (TX1 0).1 (TX1 0).2.1 (TX1 0).2.2.1 ∈ TB := mT (List.mem_of_getElem? (i := 84) (by decide +kernel)) rfl
theorem fl_X1_32 : Cond.fieldLink RX1 32 (TX1 1).1 (TX1 1).2.1 (TX1 1).2.2.1 ∈ TB := mT (List.mem_of_getElem? (i := 85) (by decide +kernel)) rfl
theorem fl_X1_9 : Cond.fieldLink RX1 9 (TX1 2).1 (TX1 2).2.1 (TX1 2).2.2.1 ∈ TB := mT (List.mem_of_getElem? (i := 86) (by decide +kernel)) rfl
theorem fl_X1_15 : Cond.fieldLink RX1 15 (TX1 3).1 (TX1 3).2.1 (TX1 3).2.2.1 ∈ TB := mT (List.mem_of_getElem? (i := 87) (by decide +kernel)) rfl
theorem fl_X1_19 : Cond.fieldLink RX1 19 (TX1 4).1 (TX1 4).2.1 (TX1 4).2.2.1 ∈ TB := mT (List.mem_of_getElem? (i := 88) (by decide +kernel)) rfl
theorem fl_X5_185 : Cond.fieldLink RX5 185 (TX1 4).1 (TX1 4).2.1 (TX1 4).2.2.1 ∈ TB := mT (List.mem_of_getElem? (i := 89) (by decide +kernel)) rfl
theorem fl_X1_22 : Cond.fieldLink RX1 22 (TX1 5).1 (TX1 5).2.1 (TX1 5).2.2.1 ∈ TB := mT (List.mem_of_getElem? (i := 90) (by decide +kernel)) rfl
theorem fl_X5_182 : Cond.fieldLink RX5 182 (TX1 5).1 (TX1 5).2.1 (TX1 5).2.2.1 ∈ TB := mT (List.mem_of_getElem? (i := 91) (by decide +kernel)) rfl
theorem fl_X1_25 : Cond.fieldLink RX1 25 (TX1 6).1 (TX1 6).2.1 (TX1 6).2.2.1 ∈ TB := mT (List.mem_of_getElem? (i := 92) (by decide +kernel)) rfl
theorem fl_X5_188 : Cond.fieldLink RX5 188 (TX1 6).1 (TX1 6).2.1 (TX1 6).2.2.1 ∈ TB := mT (List.mem_of_getElem? (i := 93) (by decide +kernel)) rfl
theorem ac_109 : Cond.arrayClass FieldType.boolean ∈ TB := mT (List.mem_of_getElem? (i := 109) (by decide +kernel)) rfl
theorem cl_X5_32 : Cond.classLink RX5 32 RX2 ∈ TB := mT (List.mem_of_getElem? (i := 110) (by decide +kernel)) rfl
theorem is_X2 : Cond.instantiable RX2 10 ∈ TB := mT (List.mem_of_getElem? (i := 111) (by decide +kernel)) rfl
theorem ml_X5_34 : Cond.methodLink RX5 34 yX2_init ∈ TB := mT (List.mem_of_getElem? (i := 112) (by decide +kernel)) rfl
theorem im_X2_init : Cond.instanceMethod yX2_init ∈ TB := mT (List.mem_of_getElem? (i := 113) (by decide +kernel)) rfl
theorem cd_X2_init : Cond.code yX2_init cX2_init 2 none ∈ TB := mT (List.mem_of_getElem? (i := 114) (by decide +kernel)) rfl
theorem ml_X2_3 : Cond.methodLink RX2 3 objectInit ∈ TB := mT (List.mem_of_getElem? (i := 115) (by decide +kernel)) rfl
theorem fl_X2_40 : Cond.fieldLink RX2 40 (TX2 0).1 (TX2 0).2.1 (TX2 0).2.2.1 ∈ TB := mT (List.mem_of_getElem? (i := 116) (by decide +kernel)) rfl
theorem fl_X2_9 : Cond.fieldLink RX2 9 (TX2 1).1 (TX2 1).2.1 (TX2 1).2.2.1 ∈ TB := mT (List.mem_of_getElem? (i := 117) (by decide +kernel)) rfl
theorem fl_X2_15 : Cond.fieldLink RX2 15 (TX2 2).1 (TX2 2).2.1 (TX2 2).2.2.1 ∈ TB := mT (List.mem_of_getElem? (i := 118) (by decide +kernel)) rfl
theorem fl_X5_262 : Cond.fieldLink RX5 262 (TX2 2).1 (TX2 2).2.1 (TX2 2).2.2.1 ∈ TB := mT (List.mem_of_getElem? (i := 119) (by decide +kernel)) rfl
theorem fl_X2_18 : Cond.fieldLink RX2 18 (TX2 3).1 (TX2 3).2.1 (TX2 3).2.2.1 ∈ TB := mT (List.mem_of_getElem? (i := 120) (by decide +kernel)) rfl
theorem fl_X5_169 : Cond.fieldLink RX5 169 (TX2 3).1 (TX2 3).2.1 (TX2 3).2.2.1 ∈ TB := mT (List.mem_of_getElem? (i := 121) (by decide +kernel)) rfl
theorem fl_X2_21 : Cond.fieldLink RX2 21 (TX2 4).1 (TX2 4).2.1 (TX2 4).2.2.1 ∈ TB := mT (List.mem_of_getElem? (i := 122) (by decide +kernel)) rfl
theorem fl_X5_207 : Cond.fieldLink RX5 207 (TX2 4).1 (TX2 4).2.1 (TX2 4).2.2.1 ∈ TB := mT (List.mem_of_getElem? (i := 123) (by decide +kernel)) rfl
theorem fl_X2_24 : Cond.fieldLink RX2 24 (TX2 5).1 (TX2 5).2.1 (TX2 5).2.2.1 ∈ TB := mT (List.mem_of_getElem? (i := 124) (by decide +kernel)) rfl
theorem fl_X5_210 : Cond.fieldLink RX5 210 (TX2 5).1 (TX2 5).2.1 (TX2 5).2.2.1 ∈ TB := mT (List.mem_of_getElem? (i := 125) (by decide +kernel)) rfl
theorem fl_X2_27 : Cond.fieldLink RX2 27 (TX2 6).1 (TX2 6).2.1 (TX2 6).2.2.1 ∈ TB := mT (List.mem_of_getElem? (i := 126) (by decide +kernel)) rfl
theorem fl_X5_204 : Cond.fieldLink RX5 204 (TX2 6).1 (TX2 6).2.1 (TX2 6).2.2.1 ∈ TB := mT (List.mem_of_getElem? (i := 127) (by decide +kernel)) rfl
theorem fl_X2_30 : Cond.fieldLink RX2 30 (TX2 7).1 (TX2 7).2.1 (TX2 7).2.2.1 ∈ TB := mT (List.mem_of_getElem? (i := 128) (by decide +kernel)) rfl
theorem fl_X5_191 : Cond.fieldLink RX5 191 (TX2 7).1 (TX2 7).2.1 (TX2 7).2.2.1 ∈ TB := mT (List.mem_of_getElem? (i := 129) (by decide +kernel)) rfl
theorem fl_X2_33 : Cond.fieldLink RX2 33 (TX2 8).1 (TX2 8).2.1 (TX2 8).2.2.1 ∈ TB := mT (List.mem_of_getElem? (i := 130) (by decide +kernel)) rfl
theorem fl_X5_197 : Cond.fieldLink RX5 197 (TX2 8).1 (TX2 8).2.1 (TX2 8).2.2.1 ∈ TB := mT (List.mem_of_getElem? (i := 131) (by decide +kernel)) rfl
theorem fl_X2_36 : Cond.fieldLink RX2 36 (TX2 9).1 (TX2 9).2.1 (TX2 9).2.2.1 ∈ TB := mT (List.mem_of_getElem? (i := 132) (by decide +kernel)) rfl
theorem fl_X5_221 : Cond.fieldLink RX5 221 (TX2 9).1 (TX2 9).2.1 (TX2 9).2.2.1 ∈ TB := mT (List.mem_of_getElem? (i := 133) (by decide +kernel)) rfl
theorem cl_X5_44 : Cond.classLink RX5 44 RX3 ∈ TB := mT (List.mem_of_getElem? (i := 155) (by decide +kernel)) rfl
theorem is_X3 : Cond.instantiable RX3 4 ∈ TB := mT (List.mem_of_getElem? (i := 157) (by decide +kernel)) rfl
theorem im_X3_init : Cond.instanceMethod yX3_init ∈ TB := mT (List.mem_of_getElem? (i := 159) (by decide +kernel)) rfl
theorem cd_X3_init : Cond.code yX3_init cX3_init 1 none ∈ TB := mT (List.mem_of_getElem? (i := 160) (by decide +kernel)) rfl
theorem ml_X3_3 : Cond.methodLink RX3 3 objectInit ∈ TB := mT (List.mem_of_getElem? (i := 161) (by decide +kernel)) rfl
theorem fl_X3_9 : Cond.fieldLink RX3 9 (TX3 0).1 (TX3 0).2.1 (TX3 0).2.2.1 ∈ TB := mT (List.mem_of_getElem? (i := 162) (by decide +kernel)) rfl
theorem fl_X5_132 : Cond.fieldLink RX5 132 (TX3 0).1 (TX3 0).2.1 (TX3 0).2.2.1 ∈ TB := mT (List.mem_of_getElem? (i := 163) (by decide +kernel)) rfl
theorem fl_X3_15 : Cond.fieldLink RX3 15 (TX3 1).1 (TX3 1).2.1 (TX3 1).2.2.1 ∈ TB := mT (List.mem_of_getElem? (i := 164) (by decide +kernel)) rfl
theorem fl_X5_124 : Cond.fieldLink RX5 124 (TX3 1).1 (TX3 1).2.1 (TX3 1).2.2.1 ∈ TB := mT (List.mem_of_getElem? (i := 165) (by decide +kernel)) rfl
theorem fl_X3_19 : Cond.fieldLink RX3 19 (TX3 2).1 (TX3 2).2.1 (TX3 2).2.2.1 ∈ TB := mT (List.mem_of_getElem? (i := 166) (by decide +kernel)) rfl
theorem fl_X5_247 : Cond.fieldLink RX5 247 (TX3 2).1 (TX3 2).2.1 (TX3 2).2.2.1 ∈ TB := mT (List.mem_of_getElem? (i := 167) (by decide +kernel)) rfl
theorem fl_X3_23 : Cond.fieldLink RX3 23 (TX3 3).1 (TX3 3).2.1 (TX3 3).2.2.1 ∈ TB := mT (List.mem_of_getElem? (i := 168) (by decide +kernel)) rfl
theorem fl_X5_131 : Cond.fieldLink RX5 131 (TX3 3).1 (TX3 3).2.1 (TX3 3).2.2.1 ∈ TB := mT (List.mem_of_getElem? (i := 169) (by decide +kernel)) rfl
theorem ml_X5_55 : Cond.methodLink RX5 55 yX2_retell ∈ TB := mT (List.mem_of_getElem? (i := 179) (by decide +kernel)) rfl
theorem im_X2_retell : Cond.instanceMethod yX2_retell ∈ TB := mT (List.mem_of_getElem? (i := 180) (by decide +kernel)) rfl
theorem se_X2_retell : Cond.selects RX2 yX2_retell yX2_retell ∈ TB := mT (List.mem_of_getElem? (i := 181) (by decide +kernel)) rfl
theorem cd_X2_retell : Cond.code yX2_retell cX2_retell 3 none ∈ TB := mT (List.mem_of_getElem? (i := 182) (by decide +kernel)) rfl
theorem ml_X2_49 : Cond.methodLink RX2 49 yX2_startRow ∈ TB := mT (List.mem_of_getElem? (i := 183) (by decide +kernel)) rfl
theorem im_X2_startRow : Cond.instanceMethod yX2_startRow ∈ TB := mT (List.mem_of_getElem? (i := 185) (by decide +kernel)) rfl
theorem cd_X2_startRow : Cond.code yX2_startRow cX2_startRow 3 none ∈ TB := mT (List.mem_of_getElem? (i := 186) (by decide +kernel)) rfl
theorem ml_X2_96 : Cond.methodLink RX2 96 yJ7_fill_fda19 ∈ TB := mT (List.mem_of_getElem? (i := 187) (by decide +kernel)) rfl
theorem st_J7_fill_fda19 : Cond.static yJ7_fill_fda19 ∈ TB := mT (List.mem_of_getElem? (i := 188) (by decide +kernel)) rfl
theorem cd_J7_fill_fda19 : Cond.code yJ7_fill_fda19 cJ7_fill_fda19 5 none ∈ TB := mT (List.mem_of_getElem? (i := 189) (by decide +kernel)) rfl
theorem ml_J7_13 : Cond.methodLink RJ7 13 yJ7_rangeCheck_23922 ∈ TB := mT (List.mem_of_getElem? (i := 190) (by decide +kernel)) rfl
theorem st_J7_rangeCheck_23922 : Cond.static yJ7_rangeCheck_23922 ∈ TB := mT (List.mem_of_getElem? (i := 191) (by decide +kernel)) rfl
theorem cd_J7_rangeCheck_23922 : Cond.code yJ7_rangeCheck_23922 cJ7_rangeCheck_23922 3 none ∈ TB := mT (List.mem_of_getElem? (i := 192) (by decide +kernel)) rfl
theorem ml_X2_102 : Cond.methodLink RX2 102 arraycopyName ∈ TB := mT (List.mem_of_getElem? (i := 193) (by decide +kernel)) rfl
theorem st_arraycopy : Cond.static arraycopyName ∈ TB := mT (List.mem_of_getElem? (i := 194) (by decide +kernel)) rfl
theorem na_arraycopy : Cond.native arraycopyName ∈ TB := mT (List.mem_of_getElem? (i := 195) (by decide +kernel)) rfl
theorem ml_X2_53 : Cond.methodLink RX2 53 yX2_takeWrites ∈ TB := mT (List.mem_of_getElem? (i := 196) (by decide +kernel)) rfl
theorem im_X2_takeWrites : Cond.instanceMethod yX2_takeWrites ∈ TB := mT (List.mem_of_getElem? (i := 198) (by decide +kernel)) rfl
theorem cd_X2_takeWrites : Cond.code yX2_takeWrites cX2_takeWrites 6 none ∈ TB := mT (List.mem_of_getElem? (i := 199) (by decide +kernel)) rfl
theorem ml_X2_111 : Cond.methodLink RX2 111 yX4_behind ∈ TB := mT (List.mem_of_getElem? (i := 200) (by decide +kernel)) rfl
theorem im_X4_behind : Cond.instanceMethod yX4_behind ∈ TB := mT (List.mem_of_getElem? (i := 201) (by decide +kernel)) rfl
theorem se_X4_behind : Cond.selects RX4 yX4_behind yX4_behind ∈ TB := mT (List.mem_of_getElem? (i := 202) (by decide +kernel)) rfl
theorem cd_X4_behind : Cond.code yX4_behind cX4_behind 2 (some .int) ∈ TB := mT (List.mem_of_getElem? (i := 203) (by decide +kernel)) rfl
theorem ml_X2_71 : Cond.methodLink RX2 71 yX2_latestOf ∈ TB := mT (List.mem_of_getElem? (i := 204) (by decide +kernel)) rfl
theorem im_X2_latestOf : Cond.instanceMethod yX2_latestOf ∈ TB := mT (List.mem_of_getElem? (i := 205) (by decide +kernel)) rfl
theorem se_X2_latestOf : Cond.selects RX2 yX2_latestOf yX2_latestOf ∈ TB := mT (List.mem_of_getElem? (i := 206) (by decide +kernel)) rfl
theorem cd_X2_latestOf : Cond.code yX2_latestOf cX2_latestOf 3 (some .int) ∈ TB := mT (List.mem_of_getElem? (i := 207) (by decide +kernel)) rfl
theorem ml_X2_117 : Cond.methodLink RX2 117 yX4_unlike ∈ TB := mT (List.mem_of_getElem? (i := 208) (by decide +kernel)) rfl
theorem im_X4_unlike : Cond.instanceMethod yX4_unlike ∈ TB := mT (List.mem_of_getElem? (i := 209) (by decide +kernel)) rfl
theorem se_X4_unlike : Cond.selects RX4 yX4_unlike yX4_unlike ∈ TB := mT (List.mem_of_getElem? (i := 210) (by decide +kernel)) rfl
theorem cd_X4_unlike : Cond.code yX4_unlike cX4_unlike 3 (some .boolean) ∈ TB := mT (List.mem_of_getElem? (i := 211) (by decide +kernel)) rfl
theorem ml_X2_57 : Cond.methodLink RX2 57 yX2_thingsThere ∈ TB := mT (List.mem_of_getElem? (i := 212) (by decide +kernel)) rfl
theorem im_X2_thingsThere : Cond.instanceMethod yX2_thingsThere ∈ TB := mT (List.mem_of_getElem? (i := 214) (by decide +kernel)) rfl
theorem cd_X2_thingsThere : Cond.code yX2_thingsThere cX2_thingsThere 4 (some .int) ∈ TB := mT (List.mem_of_getElem? (i := 215) (by decide +kernel)) rfl
theorem ml_X2_75 : Cond.methodLink RX2 75 yX4_kindOrGone ∈ TB := mT (List.mem_of_getElem? (i := 216) (by decide +kernel)) rfl
theorem im_X4_kindOrGone : Cond.instanceMethod yX4_kindOrGone ∈ TB := mT (List.mem_of_getElem? (i := 217) (by decide +kernel)) rfl
theorem se_X4_kindOrGone : Cond.selects RX4 yX4_kindOrGone yX4_kindOrGone ∈ TB := mT (List.mem_of_getElem? (i := 218) (by decide +kernel)) rfl
theorem cd_X4_kindOrGone : Cond.code yX4_kindOrGone cX4_kindOrGone 2 (some .int) ∈ TB := mT (List.mem_of_getElem? (i := 219) (by decide +kernel)) rfl
theorem ml_X2_61 : Cond.methodLink RX2 61 yX2_noteChanges ∈ TB := mT (List.mem_of_getElem? (i := 220) (by decide +kernel)) rfl
theorem im_X2_noteChanges : Cond.instanceMethod yX2_noteChanges ∈ TB := mT (List.mem_of_getElem? (i := 222) (by decide +kernel)) rfl
theorem cd_X2_noteChanges : Cond.code yX2_noteChanges cX2_noteChanges 3 none ∈ TB := mT (List.mem_of_getElem? (i := 223) (by decide +kernel)) rfl
theorem ml_X2_67 : Cond.methodLink RX2 67 yX2_isIn ∈ TB := mT (List.mem_of_getElem? (i := 224) (by decide +kernel)) rfl
theorem st_X2_isIn : Cond.static yX2_isIn ∈ TB := mT (List.mem_of_getElem? (i := 225) (by decide +kernel)) rfl
theorem cd_X2_isIn : Cond.code yX2_isIn cX2_isIn 2 (some .boolean) ∈ TB := mT (List.mem_of_getElem? (i := 226) (by decide +kernel)) rfl
theorem ml_X2_120 : Cond.methodLink RX2 120 yX2_isOther ∈ TB := mT (List.mem_of_getElem? (i := 227) (by decide +kernel)) rfl
theorem im_X2_isOther : Cond.instanceMethod yX2_isOther ∈ TB := mT (List.mem_of_getElem? (i := 229) (by decide +kernel)) rfl
theorem cd_X2_isOther : Cond.code yX2_isOther cX2_isOther 5 (some .boolean) ∈ TB := mT (List.mem_of_getElem? (i := 230) (by decide +kernel)) rfl
theorem ml_X2_64 : Cond.methodLink RX2 64 yX2_judgeBehind ∈ TB := mT (List.mem_of_getElem? (i := 231) (by decide +kernel)) rfl
theorem im_X2_judgeBehind : Cond.instanceMethod yX2_judgeBehind ∈ TB := mT (List.mem_of_getElem? (i := 233) (by decide +kernel)) rfl
theorem cd_X2_judgeBehind : Cond.code yX2_judgeBehind cX2_judgeBehind 4 none ∈ TB := mT (List.mem_of_getElem? (i := 234) (by decide +kernel)) rfl
theorem ml_X2_88 : Cond.methodLink RX2 88 yX2_sortOf ∈ TB := mT (List.mem_of_getElem? (i := 235) (by decide +kernel)) rfl
theorem im_X2_sortOf : Cond.instanceMethod yX2_sortOf ∈ TB := mT (List.mem_of_getElem? (i := 236) (by decide +kernel)) rfl
theorem se_X2_sortOf : Cond.selects RX2 yX2_sortOf yX2_sortOf ∈ TB := mT (List.mem_of_getElem? (i := 237) (by decide +kernel)) rfl
theorem cd_X2_sortOf : Cond.code yX2_sortOf cX2_sortOf 11 (some .int) ∈ TB := mT (List.mem_of_getElem? (i := 238) (by decide +kernel)) rfl
theorem ml_X2_78 : Cond.methodLink RX2 78 yX2_isFilling ∈ TB := mT (List.mem_of_getElem? (i := 239) (by decide +kernel)) rfl
theorem st_X2_isFilling : Cond.static yX2_isFilling ∈ TB := mT (List.mem_of_getElem? (i := 240) (by decide +kernel)) rfl
theorem cd_X2_isFilling : Cond.code yX2_isFilling cX2_isFilling 2 (some .boolean) ∈ TB := mT (List.mem_of_getElem? (i := 241) (by decide +kernel)) rfl
theorem ml_X2_81 : Cond.methodLink RX2 81 yX2_isNoteOrGone ∈ TB := mT (List.mem_of_getElem? (i := 242) (by decide +kernel)) rfl
theorem st_X2_isNoteOrGone : Cond.static yX2_isNoteOrGone ∈ TB := mT (List.mem_of_getElem? (i := 243) (by decide +kernel)) rfl
theorem cd_X2_isNoteOrGone : Cond.code yX2_isNoteOrGone cX2_isNoteOrGone 1 (some .boolean) ∈ TB := mT (List.mem_of_getElem? (i := 244) (by decide +kernel)) rfl
theorem ml_X2_91 : Cond.methodLink RX2 91 yJ9_max_7cf53 ∈ TB := mT (List.mem_of_getElem? (i := 245) (by decide +kernel)) rfl
theorem st_J9_max_7cf53 : Cond.static yJ9_max_7cf53 ∈ TB := mT (List.mem_of_getElem? (i := 246) (by decide +kernel)) rfl
theorem cd_J9_max_7cf53 : Cond.code yJ9_max_7cf53 cJ9_max_7cf53 2 (some .int) ∈ TB := mT (List.mem_of_getElem? (i := 247) (by decide +kernel)) rfl
theorem fl_X5_12 : Cond.fieldLink RX5 12 (TX5 0).1 (TX5 0).2.1 (TX5 0).2.2.1 ∈ TB := mT (List.mem_of_getElem? (i := 248) (by decide +kernel)) rfl
theorem fl_X5_19 : Cond.fieldLink RX5 19 (TX5 1).1 (TX5 1).2.1 (TX5 1).2.2.1 ∈ TB := mT (List.mem_of_getElem? (i := 249) (by decide +kernel)) rfl
theorem fl_X5_28 : Cond.fieldLink RX5 28 (TX5 2).1 (TX5 2).2.1 (TX5 2).2.2.1 ∈ TB := mT (List.mem_of_getElem? (i := 250) (by decide +kernel)) rfl
theorem fl_X5_37 : Cond.fieldLink RX5 37 (TX5 3).1 (TX5 3).2.1 (TX5 3).2.2.1 ∈ TB := mT (List.mem_of_getElem? (i := 251) (by decide +kernel)) rfl
theorem fl_X5_41 : Cond.fieldLink RX5 41 (TX5 4).1 (TX5 4).2.1 (TX5 4).2.2.1 ∈ TB := mT (List.mem_of_getElem? (i := 252) (by decide +kernel)) rfl
theorem fl_X5_46 : Cond.fieldLink RX5 46 (TX5 5).1 (TX5 5).2.1 (TX5 5).2.2.1 ∈ TB := mT (List.mem_of_getElem? (i := 253) (by decide +kernel)) rfl
theorem fl_X5_50 : Cond.fieldLink RX5 50 (TX5 6).1 (TX5 6).2.1 (TX5 6).2.2.1 ∈ TB := mT (List.mem_of_getElem? (i := 254) (by decide +kernel)) rfl
theorem ml_L_13 : Cond.methodLink RL 13 yX5_put ∈ TB := mT (List.mem_of_getElem? (i := 270) (by decide +kernel)) rfl
theorem im_X5_put : Cond.instanceMethod yX5_put ∈ TB := mT (List.mem_of_getElem? (i := 271) (by decide +kernel)) rfl
theorem se_X5_put : Cond.selects RX5 yX5_put yX5_put ∈ TB := mT (List.mem_of_getElem? (i := 272) (by decide +kernel)) rfl
theorem cd_X5_put : Cond.code yX5_put cX5_put 5 (some .int) ∈ TB := mT (List.mem_of_getElem? (i := 273) (by decide +kernel)) rfl
theorem ml_X5_59 : Cond.methodLink RX5 59 yX5_takeWrite ∈ TB := mT (List.mem_of_getElem? (i := 274) (by decide +kernel)) rfl
theorem im_X5_takeWrite : Cond.instanceMethod yX5_takeWrite ∈ TB := mT (List.mem_of_getElem? (i := 276) (by decide +kernel)) rfl
theorem cd_X5_takeWrite : Cond.code yX5_takeWrite cX5_takeWrite 4 (some .int) ∈ TB := mT (List.mem_of_getElem? (i := 277) (by decide +kernel)) rfl
theorem ml_X5_343 : Cond.methodLink RX5 343 yX5_mayBeWrite ∈ TB := mT (List.mem_of_getElem? (i := 278) (by decide +kernel)) rfl
theorem st_X5_mayBeWrite : Cond.static yX5_mayBeWrite ∈ TB := mT (List.mem_of_getElem? (i := 279) (by decide +kernel)) rfl
theorem cd_X5_mayBeWrite : Cond.code yX5_mayBeWrite cX5_mayBeWrite 3 (some .boolean) ∈ TB := mT (List.mem_of_getElem? (i := 280) (by decide +kernel)) rfl
theorem ml_X5_159 : Cond.methodLink RX5 159 yX5_isThing ∈ TB := mT (List.mem_of_getElem? (i := 281) (by decide +kernel)) rfl
theorem st_X5_isThing : Cond.static yX5_isThing ∈ TB := mT (List.mem_of_getElem? (i := 282) (by decide +kernel)) rfl
theorem cd_X5_isThing : Cond.code yX5_isThing cX5_isThing 1 (some .boolean) ∈ TB := mT (List.mem_of_getElem? (i := 283) (by decide +kernel)) rfl
theorem ml_X5_106 : Cond.methodLink RX5 106 yX5_mayBeValue ∈ TB := mT (List.mem_of_getElem? (i := 284) (by decide +kernel)) rfl
theorem st_X5_mayBeValue : Cond.static yX5_mayBeValue ∈ TB := mT (List.mem_of_getElem? (i := 285) (by decide +kernel)) rfl
theorem cd_X5_mayBeValue : Cond.code yX5_mayBeValue cX5_mayBeValue 2 (some .boolean) ∈ TB := mT (List.mem_of_getElem? (i := 286) (by decide +kernel)) rfl
theorem kc_X5_342 : Cond.constant RX5 342 (65535) ∈ TB := mT (List.mem_of_getElem? (i := 287) (by decide +kernel)) rfl
theorem ml_X5_347 : Cond.methodLink RX5 347 yX1_forget ∈ TB := mT (List.mem_of_getElem? (i := 288) (by decide +kernel)) rfl
theorem im_X1_forget : Cond.instanceMethod yX1_forget ∈ TB := mT (List.mem_of_getElem? (i := 289) (by decide +kernel)) rfl
theorem se_X1_forget : Cond.selects RX1 yX1_forget yX1_forget ∈ TB := mT (List.mem_of_getElem? (i := 290) (by decide +kernel)) rfl
theorem cd_X1_forget : Cond.code yX1_forget cX1_forget 2 none ∈ TB := mT (List.mem_of_getElem? (i := 291) (by decide +kernel)) rfl
theorem ml_X5_350 : Cond.methodLink RX5 350 yX4_append ∈ TB := mT (List.mem_of_getElem? (i := 292) (by decide +kernel)) rfl
theorem im_X4_append : Cond.instanceMethod yX4_append ∈ TB := mT (List.mem_of_getElem? (i := 293) (by decide +kernel)) rfl
theorem se_X4_append : Cond.selects RX4 yX4_append yX4_append ∈ TB := mT (List.mem_of_getElem? (i := 294) (by decide +kernel)) rfl
theorem cd_X4_append : Cond.code yX4_append cX4_append 4 none ∈ TB := mT (List.mem_of_getElem? (i := 295) (by decide +kernel)) rfl
theorem ml_X5_354 : Cond.methodLink RX5 354 yX0_appendWrite ∈ TB := mT (List.mem_of_getElem? (i := 296) (by decide +kernel)) rfl
theorem im_X0_appendWrite : Cond.instanceMethod yX0_appendWrite ∈ TB := mT (List.mem_of_getElem? (i := 297) (by decide +kernel)) rfl
theorem se_X0_appendWrite : Cond.selects RX0 yX0_appendWrite yX0_appendWrite ∈ TB := mT (List.mem_of_getElem? (i := 298) (by decide +kernel)) rfl
theorem cd_X0_appendWrite : Cond.code yX0_appendWrite cX0_appendWrite 4 none ∈ TB := mT (List.mem_of_getElem? (i := 299) (by decide +kernel)) rfl
theorem ml_X0_19 : Cond.methodLink RX0 19 yX0_layValue ∈ TB := mT (List.mem_of_getElem? (i := 300) (by decide +kernel)) rfl
theorem im_X0_layValue : Cond.instanceMethod yX0_layValue ∈ TB := mT (List.mem_of_getElem? (i := 301) (by decide +kernel)) rfl
theorem se_X0_layValue : Cond.selects RX0 yX0_layValue yX0_layValue ∈ TB := mT (List.mem_of_getElem? (i := 302) (by decide +kernel)) rfl
theorem cd_X0_layValue : Cond.code yX0_layValue cX0_layValue 3 none ∈ TB := mT (List.mem_of_getElem? (i := 303) (by decide +kernel)) rfl
theorem ml_X5_63 : Cond.methodLink RX5 63 yX5_reckon ∈ TB := mT (List.mem_of_getElem? (i := 304) (by decide +kernel)) rfl
theorem im_X5_reckon : Cond.instanceMethod yX5_reckon ∈ TB := mT (List.mem_of_getElem? (i := 306) (by decide +kernel)) rfl
theorem cd_X5_reckon : Cond.code yX5_reckon cX5_reckon 1 none ∈ TB := mT (List.mem_of_getElem? (i := 307) (by decide +kernel)) rfl
theorem ml_X5_357 : Cond.methodLink RX5 357 yX1_reckonAll ∈ TB := mT (List.mem_of_getElem? (i := 308) (by decide +kernel)) rfl
theorem im_X1_reckonAll : Cond.instanceMethod yX1_reckonAll ∈ TB := mT (List.mem_of_getElem? (i := 309) (by decide +kernel)) rfl
theorem se_X1_reckonAll : Cond.selects RX1 yX1_reckonAll yX1_reckonAll ∈ TB := mT (List.mem_of_getElem? (i := 310) (by decide +kernel)) rfl
theorem cd_X1_reckonAll : Cond.code yX1_reckonAll cX1_reckonAll 2 none ∈ TB := mT (List.mem_of_getElem? (i := 311) (by decide +kernel)) rfl
theorem ml_X1_68 : Cond.methodLink RX1 68 yX4_isClosedSeal ∈ TB := mT (List.mem_of_getElem? (i := 312) (by decide +kernel)) rfl
theorem im_X4_isClosedSeal : Cond.instanceMethod yX4_isClosedSeal ∈ TB := mT (List.mem_of_getElem? (i := 313) (by decide +kernel)) rfl
theorem se_X4_isClosedSeal : Cond.selects RX4 yX4_isClosedSeal yX4_isClosedSeal ∈ TB := mT (List.mem_of_getElem? (i := 314) (by decide +kernel)) rfl
theorem cd_X4_isClosedSeal : Cond.code yX4_isClosedSeal cX4_isClosedSeal 2 (some .boolean) ∈ TB := mT (List.mem_of_getElem? (i := 315) (by decide +kernel)) rfl
theorem ml_X4_34 : Cond.methodLink RX4 34 yX4_isSeal ∈ TB := mT (List.mem_of_getElem? (i := 316) (by decide +kernel)) rfl
theorem im_X4_isSeal : Cond.instanceMethod yX4_isSeal ∈ TB := mT (List.mem_of_getElem? (i := 317) (by decide +kernel)) rfl
theorem se_X4_isSeal : Cond.selects RX4 yX4_isSeal yX4_isSeal ∈ TB := mT (List.mem_of_getElem? (i := 318) (by decide +kernel)) rfl
theorem cd_X4_isSeal : Cond.code yX4_isSeal cX4_isSeal 2 (some .boolean) ∈ TB := mT (List.mem_of_getElem? (i := 319) (by decide +kernel)) rfl
theorem ml_X4_38 : Cond.methodLink RX4 38 yX4_isClosed ∈ TB := mT (List.mem_of_getElem? (i := 320) (by decide +kernel)) rfl
theorem im_X4_isClosed : Cond.instanceMethod yX4_isClosed ∈ TB := mT (List.mem_of_getElem? (i := 321) (by decide +kernel)) rfl
theorem se_X4_isClosed : Cond.selects RX4 yX4_isClosed yX4_isClosed ∈ TB := mT (List.mem_of_getElem? (i := 322) (by decide +kernel)) rfl
theorem cd_X4_isClosed : Cond.code yX4_isClosed cX4_isClosed 2 (some .boolean) ∈ TB := mT (List.mem_of_getElem? (i := 323) (by decide +kernel)) rfl
theorem ml_X1_61 : Cond.methodLink RX1 61 yX1_numberNow ∈ TB := mT (List.mem_of_getElem? (i := 324) (by decide +kernel)) rfl
theorem im_X1_numberNow : Cond.instanceMethod yX1_numberNow ∈ TB := mT (List.mem_of_getElem? (i := 326) (by decide +kernel)) rfl
theorem cd_X1_numberNow : Cond.code yX1_numberNow cX1_numberNow 3 (some .int) ∈ TB := mT (List.mem_of_getElem? (i := 327) (by decide +kernel)) rfl
theorem ml_X1_40 : Cond.methodLink RX1 40 yX1_edge ∈ TB := mT (List.mem_of_getElem? (i := 328) (by decide +kernel)) rfl
theorem im_X1_edge : Cond.instanceMethod yX1_edge ∈ TB := mT (List.mem_of_getElem? (i := 329) (by decide +kernel)) rfl
theorem se_X1_edge : Cond.selects RX1 yX1_edge yX1_edge ∈ TB := mT (List.mem_of_getElem? (i := 330) (by decide +kernel)) rfl
theorem cd_X1_edge : Cond.code yX1_edge cX1_edge 3 (some .int) ∈ TB := mT (List.mem_of_getElem? (i := 331) (by decide +kernel)) rfl
theorem ml_X1_36 : Cond.methodLink RX1 36 yX1_edgeIfUntold ∈ TB := mT (List.mem_of_getElem? (i := 332) (by decide +kernel)) rfl
theorem im_X1_edgeIfUntold : Cond.instanceMethod yX1_edgeIfUntold ∈ TB := mT (List.mem_of_getElem? (i := 334) (by decide +kernel)) rfl
theorem cd_X1_edgeIfUntold : Cond.code yX1_edgeIfUntold cX1_edgeIfUntold 3 (some .int) ∈ TB := mT (List.mem_of_getElem? (i := 335) (by decide +kernel)) rfl
theorem ml_X1_78 : Cond.methodLink RX1 78 yX4_firstByte ∈ TB := mT (List.mem_of_getElem? (i := 336) (by decide +kernel)) rfl
theorem im_X4_firstByte : Cond.instanceMethod yX4_firstByte ∈ TB := mT (List.mem_of_getElem? (i := 337) (by decide +kernel)) rfl
theorem se_X4_firstByte : Cond.selects RX4 yX4_firstByte yX4_firstByte ∈ TB := mT (List.mem_of_getElem? (i := 338) (by decide +kernel)) rfl
theorem cd_X4_firstByte : Cond.code yX4_firstByte cX4_firstByte 2 (some .int) ∈ TB := mT (List.mem_of_getElem? (i := 339) (by decide +kernel)) rfl
theorem ml_X1_84 : Cond.methodLink RX1 84 yX4_behindBytesOf ∈ TB := mT (List.mem_of_getElem? (i := 340) (by decide +kernel)) rfl
theorem im_X4_behindBytesOf : Cond.instanceMethod yX4_behindBytesOf ∈ TB := mT (List.mem_of_getElem? (i := 341) (by decide +kernel)) rfl
theorem se_X4_behindBytesOf : Cond.selects RX4 yX4_behindBytesOf yX4_behindBytesOf ∈ TB := mT (List.mem_of_getElem? (i := 342) (by decide +kernel)) rfl
theorem cd_X4_behindBytesOf : Cond.code yX4_behindBytesOf cX4_behindBytesOf 2 (some .int) ∈ TB := mT (List.mem_of_getElem? (i := 343) (by decide +kernel)) rfl
theorem ml_X1_74 : Cond.methodLink RX1 74 yX0_numberOver ∈ TB := mT (List.mem_of_getElem? (i := 344) (by decide +kernel)) rfl
theorem im_X0_numberOver : Cond.instanceMethod yX0_numberOver ∈ TB := mT (List.mem_of_getElem? (i := 345) (by decide +kernel)) rfl
theorem se_X0_numberOver : Cond.selects RX0 yX0_numberOver yX0_numberOver ∈ TB := mT (List.mem_of_getElem? (i := 346) (by decide +kernel)) rfl
theorem cd_X0_numberOver : Cond.code yX0_numberOver cX0_numberOver 7 (some .int) ∈ TB := mT (List.mem_of_getElem? (i := 347) (by decide +kernel)) rfl
theorem ml_X0_23 : Cond.methodLink RX0 23 yJ9_min_7cf53 ∈ TB := mT (List.mem_of_getElem? (i := 348) (by decide +kernel)) rfl
theorem st_J9_min_7cf53 : Cond.static yJ9_min_7cf53 ∈ TB := mT (List.mem_of_getElem? (i := 349) (by decide +kernel)) rfl
theorem cd_J9_min_7cf53 : Cond.code yJ9_min_7cf53 cJ9_min_7cf53 2 (some .int) ∈ TB := mT (List.mem_of_getElem? (i := 350) (by decide +kernel)) rfl
theorem ml_X1_71 : Cond.methodLink RX1 71 yX1_flawsOfEdges ∈ TB := mT (List.mem_of_getElem? (i := 351) (by decide +kernel)) rfl
theorem im_X1_flawsOfEdges : Cond.instanceMethod yX1_flawsOfEdges ∈ TB := mT (List.mem_of_getElem? (i := 353) (by decide +kernel)) rfl
theorem cd_X1_flawsOfEdges : Cond.code yX1_flawsOfEdges cX1_flawsOfEdges 3 (some .int) ∈ TB := mT (List.mem_of_getElem? (i := 354) (by decide +kernel)) rfl
theorem ml_L_18 : Cond.methodLink RL 18 yX5_close ∈ TB := mT (List.mem_of_getElem? (i := 355) (by decide +kernel)) rfl
theorem im_X5_close : Cond.instanceMethod yX5_close ∈ TB := mT (List.mem_of_getElem? (i := 356) (by decide +kernel)) rfl
theorem se_X5_close : Cond.selects RX5 yX5_close yX5_close ∈ TB := mT (List.mem_of_getElem? (i := 357) (by decide +kernel)) rfl
theorem cd_X5_close : Cond.code yX5_close cX5_close 1 (some .int) ∈ TB := mT (List.mem_of_getElem? (i := 358) (by decide +kernel)) rfl
theorem ml_X5_66 : Cond.methodLink RX5 66 yX4_openIsEmpty ∈ TB := mT (List.mem_of_getElem? (i := 359) (by decide +kernel)) rfl
theorem im_X4_openIsEmpty : Cond.instanceMethod yX4_openIsEmpty ∈ TB := mT (List.mem_of_getElem? (i := 360) (by decide +kernel)) rfl
theorem se_X4_openIsEmpty : Cond.selects RX4 yX4_openIsEmpty yX4_openIsEmpty ∈ TB := mT (List.mem_of_getElem? (i := 361) (by decide +kernel)) rfl
theorem cd_X4_openIsEmpty : Cond.code yX4_openIsEmpty cX4_openIsEmpty 1 (some .boolean) ∈ TB := mT (List.mem_of_getElem? (i := 362) (by decide +kernel)) rfl
theorem ml_X5_73 : Cond.methodLink RX5 73 yX0_appendClosing ∈ TB := mT (List.mem_of_getElem? (i := 363) (by decide +kernel)) rfl
theorem im_X0_appendClosing : Cond.instanceMethod yX0_appendClosing ∈ TB := mT (List.mem_of_getElem? (i := 364) (by decide +kernel)) rfl
theorem se_X0_appendClosing : Cond.selects RX0 yX0_appendClosing yX0_appendClosing ∈ TB := mT (List.mem_of_getElem? (i := 365) (by decide +kernel)) rfl
theorem cd_X0_appendClosing : Cond.code yX0_appendClosing cX0_appendClosing 2 none ∈ TB := mT (List.mem_of_getElem? (i := 366) (by decide +kernel)) rfl
theorem ml_X5_76 : Cond.methodLink RX5 76 yX4_openNext ∈ TB := mT (List.mem_of_getElem? (i := 367) (by decide +kernel)) rfl
theorem im_X4_openNext : Cond.instanceMethod yX4_openNext ∈ TB := mT (List.mem_of_getElem? (i := 368) (by decide +kernel)) rfl
theorem se_X4_openNext : Cond.selects RX4 yX4_openNext yX4_openNext ∈ TB := mT (List.mem_of_getElem? (i := 369) (by decide +kernel)) rfl
theorem cd_X4_openNext : Cond.code yX4_openNext cX4_openNext 1 none ∈ TB := mT (List.mem_of_getElem? (i := 370) (by decide +kernel)) rfl
theorem ml_X5_79 : Cond.methodLink RX5 79 yX1_keepNumbers ∈ TB := mT (List.mem_of_getElem? (i := 371) (by decide +kernel)) rfl
theorem im_X1_keepNumbers : Cond.instanceMethod yX1_keepNumbers ∈ TB := mT (List.mem_of_getElem? (i := 372) (by decide +kernel)) rfl
theorem se_X1_keepNumbers : Cond.selects RX1 yX1_keepNumbers yX1_keepNumbers ∈ TB := mT (List.mem_of_getElem? (i := 373) (by decide +kernel)) rfl
theorem cd_X1_keepNumbers : Cond.code yX1_keepNumbers cX1_keepNumbers 3 none ∈ TB := mT (List.mem_of_getElem? (i := 374) (by decide +kernel)) rfl
theorem ml_X1_53 : Cond.methodLink RX1 53 yX4_behind ∈ TB := mT (List.mem_of_getElem? (i := 375) (by decide +kernel)) rfl
theorem ml_X1_57 : Cond.methodLink RX1 57 yX4_isSeal ∈ TB := mT (List.mem_of_getElem? (i := 376) (by decide +kernel)) rfl
theorem ml_L_23 : Cond.methodLink RL 23 yX5_undo ∈ TB := mT (List.mem_of_getElem? (i := 377) (by decide +kernel)) rfl
theorem im_X5_undo : Cond.instanceMethod yX5_undo ∈ TB := mT (List.mem_of_getElem? (i := 378) (by decide +kernel)) rfl
theorem se_X5_undo : Cond.selects RX5 yX5_undo yX5_undo ∈ TB := mT (List.mem_of_getElem? (i := 379) (by decide +kernel)) rfl
theorem cd_X5_undo : Cond.code yX5_undo cX5_undo 1 (some .int) ∈ TB := mT (List.mem_of_getElem? (i := 380) (by decide +kernel)) rfl
theorem ml_X5_85 : Cond.methodLink RX5 85 yX0_dropWrite ∈ TB := mT (List.mem_of_getElem? (i := 381) (by decide +kernel)) rfl
theorem im_X0_dropWrite : Cond.instanceMethod yX0_dropWrite ∈ TB := mT (List.mem_of_getElem? (i := 382) (by decide +kernel)) rfl
theorem se_X0_dropWrite : Cond.selects RX0 yX0_dropWrite yX0_dropWrite ∈ TB := mT (List.mem_of_getElem? (i := 383) (by decide +kernel)) rfl
theorem cd_X0_dropWrite : Cond.code yX0_dropWrite cX0_dropWrite 1 none ∈ TB := mT (List.mem_of_getElem? (i := 384) (by decide +kernel)) rfl
theorem ml_L_27 : Cond.methodLink RL 27 yX5_cover ∈ TB := mT (List.mem_of_getElem? (i := 385) (by decide +kernel)) rfl
theorem im_X5_cover : Cond.instanceMethod yX5_cover ∈ TB := mT (List.mem_of_getElem? (i := 386) (by decide +kernel)) rfl
theorem se_X5_cover : Cond.selects RX5 yX5_cover yX5_cover ∈ TB := mT (List.mem_of_getElem? (i := 387) (by decide +kernel)) rfl
theorem cd_X5_cover : Cond.code yX5_cover cX5_cover 7 (some .int) ∈ TB := mT (List.mem_of_getElem? (i := 388) (by decide +kernel)) rfl
theorem ml_X5_88 : Cond.methodLink RX5 88 yX4_has ∈ TB := mT (List.mem_of_getElem? (i := 389) (by decide +kernel)) rfl
theorem im_X4_has : Cond.instanceMethod yX4_has ∈ TB := mT (List.mem_of_getElem? (i := 390) (by decide +kernel)) rfl
theorem se_X4_has : Cond.selects RX4 yX4_has yX4_has ∈ TB := mT (List.mem_of_getElem? (i := 391) (by decide +kernel)) rfl
theorem cd_X4_has : Cond.code yX4_has cX4_has 2 (some .boolean) ∈ TB := mT (List.mem_of_getElem? (i := 392) (by decide +kernel)) rfl
theorem ml_X5_92 : Cond.methodLink RX5 92 yX4_isSeal ∈ TB := mT (List.mem_of_getElem? (i := 393) (by decide +kernel)) rfl
theorem ml_X5_95 : Cond.methodLink RX5 95 yX4_isClosed ∈ TB := mT (List.mem_of_getElem? (i := 394) (by decide +kernel)) rfl
theorem ml_X5_98 : Cond.methodLink RX5 98 yX1_keepEdges ∈ TB := mT (List.mem_of_getElem? (i := 395) (by decide +kernel)) rfl
theorem im_X1_keepEdges : Cond.instanceMethod yX1_keepEdges ∈ TB := mT (List.mem_of_getElem? (i := 396) (by decide +kernel)) rfl
theorem se_X1_keepEdges : Cond.selects RX1 yX1_keepEdges yX1_keepEdges ∈ TB := mT (List.mem_of_getElem? (i := 397) (by decide +kernel)) rfl
theorem cd_X1_keepEdges : Cond.code yX1_keepEdges cX1_keepEdges 6 none ∈ TB := mT (List.mem_of_getElem? (i := 398) (by decide +kernel)) rfl
theorem ml_L_32 : Cond.methodLink RL 32 yX5_alter ∈ TB := mT (List.mem_of_getElem? (i := 399) (by decide +kernel)) rfl
theorem im_X5_alter : Cond.instanceMethod yX5_alter ∈ TB := mT (List.mem_of_getElem? (i := 400) (by decide +kernel)) rfl
theorem se_X5_alter : Cond.selects RX5 yX5_alter yX5_alter ∈ TB := mT (List.mem_of_getElem? (i := 401) (by decide +kernel)) rfl
theorem cd_X5_alter : Cond.code yX5_alter cX5_alter 4 (some .int) ∈ TB := mT (List.mem_of_getElem? (i := 402) (by decide +kernel)) rfl
theorem ml_X5_113 : Cond.methodLink RX5 113 yX4_firstByte ∈ TB := mT (List.mem_of_getElem? (i := 403) (by decide +kernel)) rfl
theorem ml_X5_117 : Cond.methodLink RX5 117 yX0_layValue ∈ TB := mT (List.mem_of_getElem? (i := 404) (by decide +kernel)) rfl
theorem ml_L_37 : Cond.methodLink RL 37 yX5_read ∈ TB := mT (List.mem_of_getElem? (i := 405) (by decide +kernel)) rfl
theorem im_X5_read : Cond.instanceMethod yX5_read ∈ TB := mT (List.mem_of_getElem? (i := 406) (by decide +kernel)) rfl
theorem se_X5_read : Cond.selects RX5 yX5_read yX5_read ∈ TB := mT (List.mem_of_getElem? (i := 407) (by decide +kernel)) rfl
theorem cd_X5_read : Cond.code yX5_read cX5_read 5 (some .int) ∈ TB := mT (List.mem_of_getElem? (i := 408) (by decide +kernel)) rfl
theorem ml_X5_121 : Cond.methodLink RX5 121 yX5_isSheet ∈ TB := mT (List.mem_of_getElem? (i := 409) (by decide +kernel)) rfl
theorem st_X5_isSheet : Cond.static yX5_isSheet ∈ TB := mT (List.mem_of_getElem? (i := 410) (by decide +kernel)) rfl
theorem cd_X5_isSheet : Cond.code yX5_isSheet cX5_isSheet 1 (some .boolean) ∈ TB := mT (List.mem_of_getElem? (i := 411) (by decide +kernel)) rfl
theorem ml_X5_128 : Cond.methodLink RX5 128 yX5_find ∈ TB := mT (List.mem_of_getElem? (i := 412) (by decide +kernel)) rfl
theorem im_X5_find : Cond.instanceMethod yX5_find ∈ TB := mT (List.mem_of_getElem? (i := 414) (by decide +kernel)) rfl
theorem cd_X5_find : Cond.code yX5_find cX5_find 2 (some .int) ∈ TB := mT (List.mem_of_getElem? (i := 415) (by decide +kernel)) rfl
theorem ml_L_42 : Cond.methodLink RL 42 yX5_write ∈ TB := mT (List.mem_of_getElem? (i := 416) (by decide +kernel)) rfl
theorem im_X5_write : Cond.instanceMethod yX5_write ∈ TB := mT (List.mem_of_getElem? (i := 417) (by decide +kernel)) rfl
theorem se_X5_write : Cond.selects RX5 yX5_write yX5_write ∈ TB := mT (List.mem_of_getElem? (i := 418) (by decide +kernel)) rfl
theorem cd_X5_write : Cond.code yX5_write cX5_write 3 (some .int) ∈ TB := mT (List.mem_of_getElem? (i := 419) (by decide +kernel)) rfl
theorem ml_L_46 : Cond.methodLink RL 46 yX5_revision ∈ TB := mT (List.mem_of_getElem? (i := 420) (by decide +kernel)) rfl
theorem im_X5_revision : Cond.instanceMethod yX5_revision ∈ TB := mT (List.mem_of_getElem? (i := 421) (by decide +kernel)) rfl
theorem se_X5_revision : Cond.selects RX5 yX5_revision yX5_revision ∈ TB := mT (List.mem_of_getElem? (i := 422) (by decide +kernel)) rfl
theorem cd_X5_revision : Cond.code yX5_revision cX5_revision 3 (some .int) ∈ TB := mT (List.mem_of_getElem? (i := 423) (by decide +kernel)) rfl
theorem ml_X5_141 : Cond.methodLink RX5 141 yX4_hasRevision ∈ TB := mT (List.mem_of_getElem? (i := 424) (by decide +kernel)) rfl
theorem im_X4_hasRevision : Cond.instanceMethod yX4_hasRevision ∈ TB := mT (List.mem_of_getElem? (i := 425) (by decide +kernel)) rfl
theorem se_X4_hasRevision : Cond.selects RX4 yX4_hasRevision yX4_hasRevision ∈ TB := mT (List.mem_of_getElem? (i := 426) (by decide +kernel)) rfl
theorem cd_X4_hasRevision : Cond.code yX4_hasRevision cX4_hasRevision 2 (some .boolean) ∈ TB := mT (List.mem_of_getElem? (i := 427) (by decide +kernel)) rfl
theorem ml_X5_147 : Cond.methodLink RX5 147 yX4_behind ∈ TB := mT (List.mem_of_getElem? (i := 428) (by decide +kernel)) rfl
theorem ml_X5_150 : Cond.methodLink RX5 150 yX4_firstByteOf ∈ TB := mT (List.mem_of_getElem? (i := 429) (by decide +kernel)) rfl
theorem im_X4_firstByteOf : Cond.instanceMethod yX4_firstByteOf ∈ TB := mT (List.mem_of_getElem? (i := 430) (by decide +kernel)) rfl
theorem se_X4_firstByteOf : Cond.selects RX4 yX4_firstByteOf yX4_firstByteOf ∈ TB := mT (List.mem_of_getElem? (i := 431) (by decide +kernel)) rfl
theorem cd_X4_firstByteOf : Cond.code yX4_firstByteOf cX4_firstByteOf 2 (some .int) ∈ TB := mT (List.mem_of_getElem? (i := 432) (by decide +kernel)) rfl
theorem ml_X5_153 : Cond.methodLink RX5 153 yX4_behindBytesOf ∈ TB := mT (List.mem_of_getElem? (i := 433) (by decide +kernel)) rfl
theorem ml_L_50 : Cond.methodLink RL 50 yX5_bytes ∈ TB := mT (List.mem_of_getElem? (i := 434) (by decide +kernel)) rfl
theorem im_X5_bytes : Cond.instanceMethod yX5_bytes ∈ TB := mT (List.mem_of_getElem? (i := 435) (by decide +kernel)) rfl
theorem se_X5_bytes : Cond.selects RX5 yX5_bytes yX5_bytes ∈ TB := mT (List.mem_of_getElem? (i := 436) (by decide +kernel)) rfl
theorem cd_X5_bytes : Cond.code yX5_bytes cX5_bytes 2 (some .int) ∈ TB := mT (List.mem_of_getElem? (i := 437) (by decide +kernel)) rfl
theorem ml_X5_157 : Cond.methodLink RX5 157 yX0_has ∈ TB := mT (List.mem_of_getElem? (i := 438) (by decide +kernel)) rfl
theorem im_X0_has : Cond.instanceMethod yX0_has ∈ TB := mT (List.mem_of_getElem? (i := 439) (by decide +kernel)) rfl
theorem se_X0_has : Cond.selects RX0 yX0_has yX0_has ∈ TB := mT (List.mem_of_getElem? (i := 440) (by decide +kernel)) rfl
theorem cd_X0_has : Cond.code yX0_has cX0_has 2 (some .boolean) ∈ TB := mT (List.mem_of_getElem? (i := 441) (by decide +kernel)) rfl
theorem ml_L_54 : Cond.methodLink RL 54 yX5_thing ∈ TB := mT (List.mem_of_getElem? (i := 442) (by decide +kernel)) rfl
theorem im_X5_thing : Cond.instanceMethod yX5_thing ∈ TB := mT (List.mem_of_getElem? (i := 443) (by decide +kernel)) rfl
theorem se_X5_thing : Cond.selects RX5 yX5_thing yX5_thing ∈ TB := mT (List.mem_of_getElem? (i := 444) (by decide +kernel)) rfl
theorem cd_X5_thing : Cond.code yX5_thing cX5_thing 5 (some .int) ∈ TB := mT (List.mem_of_getElem? (i := 445) (by decide +kernel)) rfl
theorem ml_X5_162 : Cond.methodLink RX5 162 yX2_latestOf ∈ TB := mT (List.mem_of_getElem? (i := 446) (by decide +kernel)) rfl
theorem ml_X5_166 : Cond.methodLink RX5 166 yX4_kindOrGone ∈ TB := mT (List.mem_of_getElem? (i := 447) (by decide +kernel)) rfl
theorem ml_L_58 : Cond.methodLink RL 58 yX5_shadows ∈ TB := mT (List.mem_of_getElem? (i := 448) (by decide +kernel)) rfl
theorem im_X5_shadows : Cond.instanceMethod yX5_shadows ∈ TB := mT (List.mem_of_getElem? (i := 449) (by decide +kernel)) rfl
theorem se_X5_shadows : Cond.selects RX5 yX5_shadows yX5_shadows ∈ TB := mT (List.mem_of_getElem? (i := 450) (by decide +kernel)) rfl
theorem cd_X5_shadows : Cond.code yX5_shadows cX5_shadows 2 (some .int) ∈ TB := mT (List.mem_of_getElem? (i := 451) (by decide +kernel)) rfl
theorem ml_L_62 : Cond.methodLink RL 62 yX5_covers ∈ TB := mT (List.mem_of_getElem? (i := 452) (by decide +kernel)) rfl
theorem im_X5_covers : Cond.instanceMethod yX5_covers ∈ TB := mT (List.mem_of_getElem? (i := 453) (by decide +kernel)) rfl
theorem se_X5_covers : Cond.selects RX5 yX5_covers yX5_covers ∈ TB := mT (List.mem_of_getElem? (i := 454) (by decide +kernel)) rfl
theorem cd_X5_covers : Cond.code yX5_covers cX5_covers 3 (some .int) ∈ TB := mT (List.mem_of_getElem? (i := 455) (by decide +kernel)) rfl
theorem ml_X5_172 : Cond.methodLink RX5 172 yX1_edge ∈ TB := mT (List.mem_of_getElem? (i := 456) (by decide +kernel)) rfl
theorem ml_L_66 : Cond.methodLink RL 66 yX5_covered ∈ TB := mT (List.mem_of_getElem? (i := 457) (by decide +kernel)) rfl
theorem im_X5_covered : Cond.instanceMethod yX5_covered ∈ TB := mT (List.mem_of_getElem? (i := 458) (by decide +kernel)) rfl
theorem se_X5_covered : Cond.selects RX5 yX5_covered yX5_covered ∈ TB := mT (List.mem_of_getElem? (i := 459) (by decide +kernel)) rfl
theorem cd_X5_covered : Cond.code yX5_covered cX5_covered 2 (some .int) ∈ TB := mT (List.mem_of_getElem? (i := 460) (by decide +kernel)) rfl
theorem ml_X5_175 : Cond.methodLink RX5 175 yX1_bytesWithin ∈ TB := mT (List.mem_of_getElem? (i := 461) (by decide +kernel)) rfl
theorem im_X1_bytesWithin : Cond.instanceMethod yX1_bytesWithin ∈ TB := mT (List.mem_of_getElem? (i := 462) (by decide +kernel)) rfl
theorem se_X1_bytesWithin : Cond.selects RX1 yX1_bytesWithin yX1_bytesWithin ∈ TB := mT (List.mem_of_getElem? (i := 463) (by decide +kernel)) rfl
theorem cd_X1_bytesWithin : Cond.code yX1_bytesWithin cX1_bytesWithin 2 (some .int) ∈ TB := mT (List.mem_of_getElem? (i := 464) (by decide +kernel)) rfl
theorem ml_X1_43 : Cond.methodLink RX1 43 yX0_lengthWithin ∈ TB := mT (List.mem_of_getElem? (i := 465) (by decide +kernel)) rfl
theorem im_X0_lengthWithin : Cond.instanceMethod yX0_lengthWithin ∈ TB := mT (List.mem_of_getElem? (i := 466) (by decide +kernel)) rfl
theorem se_X0_lengthWithin : Cond.selects RX0 yX0_lengthWithin yX0_lengthWithin ∈ TB := mT (List.mem_of_getElem? (i := 467) (by decide +kernel)) rfl
theorem cd_X0_lengthWithin : Cond.code yX0_lengthWithin cX0_lengthWithin 3 (some .int) ∈ TB := mT (List.mem_of_getElem? (i := 468) (by decide +kernel)) rfl
theorem ml_X0_29 : Cond.methodLink RX0 29 yJ9_max_7cf53 ∈ TB := mT (List.mem_of_getElem? (i := 469) (by decide +kernel)) rfl
theorem ml_L_70 : Cond.methodLink RL 70 yX5_number ∈ TB := mT (List.mem_of_getElem? (i := 470) (by decide +kernel)) rfl
theorem im_X5_number : Cond.instanceMethod yX5_number ∈ TB := mT (List.mem_of_getElem? (i := 471) (by decide +kernel)) rfl
theorem se_X5_number : Cond.selects RX5 yX5_number yX5_number ∈ TB := mT (List.mem_of_getElem? (i := 472) (by decide +kernel)) rfl
theorem cd_X5_number : Cond.code yX5_number cX5_number 3 (some .int) ∈ TB := mT (List.mem_of_getElem? (i := 473) (by decide +kernel)) rfl
theorem ml_X5_178 : Cond.methodLink RX5 178 yX4_isClosedSeal ∈ TB := mT (List.mem_of_getElem? (i := 474) (by decide +kernel)) rfl
theorem kc_X5_181 : Cond.constant RX5 181 (-2147483648) ∈ TB := mT (List.mem_of_getElem? (i := 475) (by decide +kernel)) rfl
theorem ml_L_74 : Cond.methodLink RL 74 yX5_flaws ∈ TB := mT (List.mem_of_getElem? (i := 476) (by decide +kernel)) rfl
theorem im_X5_flaws : Cond.instanceMethod yX5_flaws ∈ TB := mT (List.mem_of_getElem? (i := 477) (by decide +kernel)) rfl
theorem se_X5_flaws : Cond.selects RX5 yX5_flaws yX5_flaws ∈ TB := mT (List.mem_of_getElem? (i := 478) (by decide +kernel)) rfl
theorem cd_X5_flaws : Cond.code yX5_flaws cX5_flaws 2 (some .int) ∈ TB := mT (List.mem_of_getElem? (i := 479) (by decide +kernel)) rfl
theorem ml_L_78 : Cond.methodLink RL 78 yX5_judge ∈ TB := mT (List.mem_of_getElem? (i := 480) (by decide +kernel)) rfl
theorem im_X5_judge : Cond.instanceMethod yX5_judge ∈ TB := mT (List.mem_of_getElem? (i := 481) (by decide +kernel)) rfl
theorem se_X5_judge : Cond.selects RX5 yX5_judge yX5_judge ∈ TB := mT (List.mem_of_getElem? (i := 482) (by decide +kernel)) rfl
theorem cd_X5_judge : Cond.code yX5_judge cX5_judge 4 (some .int) ∈ TB := mT (List.mem_of_getElem? (i := 483) (by decide +kernel)) rfl
theorem ml_X5_194 : Cond.methodLink RX5 194 yX2_changesBehind ∈ TB := mT (List.mem_of_getElem? (i := 484) (by decide +kernel)) rfl
theorem im_X2_changesBehind : Cond.instanceMethod yX2_changesBehind ∈ TB := mT (List.mem_of_getElem? (i := 485) (by decide +kernel)) rfl
theorem se_X2_changesBehind : Cond.selects RX2 yX2_changesBehind yX2_changesBehind ∈ TB := mT (List.mem_of_getElem? (i := 486) (by decide +kernel)) rfl
theorem cd_X2_changesBehind : Cond.code yX2_changesBehind cX2_changesBehind 2 (some .int) ∈ TB := mT (List.mem_of_getElem? (i := 487) (by decide +kernel)) rfl
theorem ml_X5_200 : Cond.methodLink RX5 200 yX5_holds ∈ TB := mT (List.mem_of_getElem? (i := 488) (by decide +kernel)) rfl
theorem im_X5_holds : Cond.instanceMethod yX5_holds ∈ TB := mT (List.mem_of_getElem? (i := 490) (by decide +kernel)) rfl
theorem cd_X5_holds : Cond.code yX5_holds cX5_holds 3 (some .boolean) ∈ TB := mT (List.mem_of_getElem? (i := 491) (by decide +kernel)) rfl
theorem ml_L_82 : Cond.methodLink RL 82 yX5_change ∈ TB := mT (List.mem_of_getElem? (i := 492) (by decide +kernel)) rfl
theorem im_X5_change : Cond.instanceMethod yX5_change ∈ TB := mT (List.mem_of_getElem? (i := 493) (by decide +kernel)) rfl
theorem se_X5_change : Cond.selects RX5 yX5_change yX5_change ∈ TB := mT (List.mem_of_getElem? (i := 494) (by decide +kernel)) rfl
theorem cd_X5_change : Cond.code yX5_change cX5_change 6 (some .int) ∈ TB := mT (List.mem_of_getElem? (i := 495) (by decide +kernel)) rfl
theorem ml_X5_213 : Cond.methodLink RX5 213 yX2_sortOf ∈ TB := mT (List.mem_of_getElem? (i := 496) (by decide +kernel)) rfl
theorem ml_L_86 : Cond.methodLink RL 86 yX5_allowed ∈ TB := mT (List.mem_of_getElem? (i := 497) (by decide +kernel)) rfl
theorem im_X5_allowed : Cond.instanceMethod yX5_allowed ∈ TB := mT (List.mem_of_getElem? (i := 498) (by decide +kernel)) rfl
theorem se_X5_allowed : Cond.selects RX5 yX5_allowed yX5_allowed ∈ TB := mT (List.mem_of_getElem? (i := 499) (by decide +kernel)) rfl
theorem cd_X5_allowed : Cond.code yX5_allowed cX5_allowed 4 (some .int) ∈ TB := mT (List.mem_of_getElem? (i := 500) (by decide +kernel)) rfl
theorem ml_X5_216 : Cond.methodLink RX5 216 yJ9_min_7cf53 ∈ TB := mT (List.mem_of_getElem? (i := 501) (by decide +kernel)) rfl
theorem ml_L_90 : Cond.methodLink RL 90 yX5_first ∈ TB := mT (List.mem_of_getElem? (i := 502) (by decide +kernel)) rfl
theorem im_X5_first : Cond.instanceMethod yX5_first ∈ TB := mT (List.mem_of_getElem? (i := 503) (by decide +kernel)) rfl
theorem se_X5_first : Cond.selects RX5 yX5_first yX5_first ∈ TB := mT (List.mem_of_getElem? (i := 504) (by decide +kernel)) rfl
theorem cd_X5_first : Cond.code yX5_first cX5_first 4 (some .int) ∈ TB := mT (List.mem_of_getElem? (i := 505) (by decide +kernel)) rfl
theorem ml_X5_224 : Cond.methodLink RX5 224 yX5_firstSealAgainst ∈ TB := mT (List.mem_of_getElem? (i := 506) (by decide +kernel)) rfl
theorem im_X5_firstSealAgainst : Cond.instanceMethod yX5_firstSealAgainst ∈ TB := mT (List.mem_of_getElem? (i := 508) (by decide +kernel)) rfl
theorem cd_X5_firstSealAgainst : Cond.code yX5_firstSealAgainst cX5_firstSealAgainst 4 (some .int) ∈ TB := mT (List.mem_of_getElem? (i := 509) (by decide +kernel)) rfl
theorem ml_L_94 : Cond.methodLink RL 94 yX5_holding ∈ TB := mT (List.mem_of_getElem? (i := 510) (by decide +kernel)) rfl
theorem im_X5_holding : Cond.instanceMethod yX5_holding ∈ TB := mT (List.mem_of_getElem? (i := 511) (by decide +kernel)) rfl
theorem se_X5_holding : Cond.selects RX5 yX5_holding yX5_holding ∈ TB := mT (List.mem_of_getElem? (i := 512) (by decide +kernel)) rfl
theorem cd_X5_holding : Cond.code yX5_holding cX5_holding 2 (some .int) ∈ TB := mT (List.mem_of_getElem? (i := 513) (by decide +kernel)) rfl
theorem ml_X5_227 : Cond.methodLink RX5 227 yX5_howManyHold ∈ TB := mT (List.mem_of_getElem? (i := 514) (by decide +kernel)) rfl
theorem im_X5_howManyHold : Cond.instanceMethod yX5_howManyHold ∈ TB := mT (List.mem_of_getElem? (i := 516) (by decide +kernel)) rfl
theorem cd_X5_howManyHold : Cond.code yX5_howManyHold cX5_howManyHold 5 (some .int) ∈ TB := mT (List.mem_of_getElem? (i := 517) (by decide +kernel)) rfl
theorem ml_X5_231 : Cond.methodLink RX5 231 yX5_howManyClosedSeals ∈ TB := mT (List.mem_of_getElem? (i := 518) (by decide +kernel)) rfl
theorem im_X5_howManyClosedSeals : Cond.instanceMethod yX5_howManyClosedSeals ∈ TB := mT (List.mem_of_getElem? (i := 520) (by decide +kernel)) rfl
theorem cd_X5_howManyClosedSeals : Cond.code yX5_howManyClosedSeals cX5_howManyClosedSeals 3 (some .int) ∈ TB := mT (List.mem_of_getElem? (i := 521) (by decide +kernel)) rfl
theorem ml_L_98 : Cond.methodLink RL 98 yX5_better ∈ TB := mT (List.mem_of_getElem? (i := 522) (by decide +kernel)) rfl
theorem im_X5_better : Cond.instanceMethod yX5_better ∈ TB := mT (List.mem_of_getElem? (i := 523) (by decide +kernel)) rfl
theorem se_X5_better : Cond.selects RX5 yX5_better yX5_better ∈ TB := mT (List.mem_of_getElem? (i := 524) (by decide +kernel)) rfl
theorem cd_X5_better : Cond.code yX5_better cX5_better 6 (some .int) ∈ TB := mT (List.mem_of_getElem? (i := 525) (by decide +kernel)) rfl
theorem ml_L_102 : Cond.methodLink RL 102 yX5_sheet ∈ TB := mT (List.mem_of_getElem? (i := 526) (by decide +kernel)) rfl
theorem im_X5_sheet : Cond.instanceMethod yX5_sheet ∈ TB := mT (List.mem_of_getElem? (i := 527) (by decide +kernel)) rfl
theorem se_X5_sheet : Cond.selects RX5 yX5_sheet yX5_sheet ∈ TB := mT (List.mem_of_getElem? (i := 528) (by decide +kernel)) rfl
theorem cd_X5_sheet : Cond.code yX5_sheet cX5_sheet 4 (some .int) ∈ TB := mT (List.mem_of_getElem? (i := 529) (by decide +kernel)) rfl
theorem ml_X5_235 : Cond.methodLink RX5 235 yX5_isForm ∈ TB := mT (List.mem_of_getElem? (i := 530) (by decide +kernel)) rfl
theorem st_X5_isForm : Cond.static yX5_isForm ∈ TB := mT (List.mem_of_getElem? (i := 531) (by decide +kernel)) rfl
theorem cd_X5_isForm : Cond.code yX5_isForm cX5_isForm 1 (some .boolean) ∈ TB := mT (List.mem_of_getElem? (i := 532) (by decide +kernel)) rfl
theorem ml_X5_238 : Cond.methodLink RX5 238 yX3_renew ∈ TB := mT (List.mem_of_getElem? (i := 533) (by decide +kernel)) rfl
theorem im_X3_renew : Cond.instanceMethod yX3_renew ∈ TB := mT (List.mem_of_getElem? (i := 534) (by decide +kernel)) rfl
theorem se_X3_renew : Cond.selects RX3 yX3_renew yX3_renew ∈ TB := mT (List.mem_of_getElem? (i := 535) (by decide +kernel)) rfl
theorem cd_X3_renew : Cond.code yX3_renew cX3_renew 3 none ∈ TB := mT (List.mem_of_getElem? (i := 536) (by decide +kernel)) rfl
theorem ml_X3_26 : Cond.methodLink RX3 26 yJ7_fill_53178 ∈ TB := mT (List.mem_of_getElem? (i := 537) (by decide +kernel)) rfl
theorem st_J7_fill_53178 : Cond.static yJ7_fill_53178 ∈ TB := mT (List.mem_of_getElem? (i := 538) (by decide +kernel)) rfl
theorem cd_J7_fill_53178 : Cond.code yJ7_fill_53178 cJ7_fill_53178 4 none ∈ TB := mT (List.mem_of_getElem? (i := 539) (by decide +kernel)) rfl
theorem ml_L_106 : Cond.methodLink RL 106 yX5_lose ∈ TB := mT (List.mem_of_getElem? (i := 540) (by decide +kernel)) rfl
theorem im_X5_lose : Cond.instanceMethod yX5_lose ∈ TB := mT (List.mem_of_getElem? (i := 541) (by decide +kernel)) rfl
theorem se_X5_lose : Cond.selects RX5 yX5_lose yX5_lose ∈ TB := mT (List.mem_of_getElem? (i := 542) (by decide +kernel)) rfl
theorem cd_X5_lose : Cond.code yX5_lose cX5_lose 2 (some .int) ∈ TB := mT (List.mem_of_getElem? (i := 543) (by decide +kernel)) rfl
theorem ml_L_110 : Cond.methodLink RL 110 yX5_lay ∈ TB := mT (List.mem_of_getElem? (i := 544) (by decide +kernel)) rfl
theorem im_X5_lay : Cond.instanceMethod yX5_lay ∈ TB := mT (List.mem_of_getElem? (i := 545) (by decide +kernel)) rfl
theorem se_X5_lay : Cond.selects RX5 yX5_lay yX5_lay ∈ TB := mT (List.mem_of_getElem? (i := 546) (by decide +kernel)) rfl
theorem cd_X5_lay : Cond.code yX5_lay cX5_lay 6 (some .int) ∈ TB := mT (List.mem_of_getElem? (i := 547) (by decide +kernel)) rfl
theorem ml_X5_241 : Cond.methodLink RX5 241 yX3_findingAt ∈ TB := mT (List.mem_of_getElem? (i := 548) (by decide +kernel)) rfl
theorem im_X3_findingAt : Cond.instanceMethod yX3_findingAt ∈ TB := mT (List.mem_of_getElem? (i := 549) (by decide +kernel)) rfl
theorem se_X3_findingAt : Cond.selects RX3 yX3_findingAt yX3_findingAt ∈ TB := mT (List.mem_of_getElem? (i := 550) (by decide +kernel)) rfl
theorem cd_X3_findingAt : Cond.code yX3_findingAt cX3_findingAt 3 (some .int) ∈ TB := mT (List.mem_of_getElem? (i := 551) (by decide +kernel)) rfl
theorem ml_X5_244 : Cond.methodLink RX5 244 yX3_layItem ∈ TB := mT (List.mem_of_getElem? (i := 552) (by decide +kernel)) rfl
theorem im_X3_layItem : Cond.instanceMethod yX3_layItem ∈ TB := mT (List.mem_of_getElem? (i := 553) (by decide +kernel)) rfl
theorem se_X3_layItem : Cond.selects RX3 yX3_layItem yX3_layItem ∈ TB := mT (List.mem_of_getElem? (i := 554) (by decide +kernel)) rfl
theorem cd_X3_layItem : Cond.code yX3_layItem cX3_layItem 3 none ∈ TB := mT (List.mem_of_getElem? (i := 555) (by decide +kernel)) rfl
theorem ml_L_115 : Cond.methodLink RL 115 yX5_get ∈ TB := mT (List.mem_of_getElem? (i := 556) (by decide +kernel)) rfl
theorem im_X5_get : Cond.instanceMethod yX5_get ∈ TB := mT (List.mem_of_getElem? (i := 557) (by decide +kernel)) rfl
theorem se_X5_get : Cond.selects RX5 yX5_get yX5_get ∈ TB := mT (List.mem_of_getElem? (i := 558) (by decide +kernel)) rfl
theorem cd_X5_get : Cond.code yX5_get cX5_get 5 (some .int) ∈ TB := mT (List.mem_of_getElem? (i := 559) (by decide +kernel)) rfl
theorem ml_L_119 : Cond.methodLink RL 119 yX5_copy ∈ TB := mT (List.mem_of_getElem? (i := 560) (by decide +kernel)) rfl
theorem im_X5_copy : Cond.instanceMethod yX5_copy ∈ TB := mT (List.mem_of_getElem? (i := 561) (by decide +kernel)) rfl
theorem se_X5_copy : Cond.selects RX5 yX5_copy yX5_copy ∈ TB := mT (List.mem_of_getElem? (i := 562) (by decide +kernel)) rfl
theorem cd_X5_copy : Cond.code yX5_copy cX5_copy 8 (some .int) ∈ TB := mT (List.mem_of_getElem? (i := 563) (by decide +kernel)) rfl
theorem ml_X5_250 : Cond.methodLink RX5 250 yX3_hasItems ∈ TB := mT (List.mem_of_getElem? (i := 564) (by decide +kernel)) rfl
theorem im_X3_hasItems : Cond.instanceMethod yX3_hasItems ∈ TB := mT (List.mem_of_getElem? (i := 565) (by decide +kernel)) rfl
theorem se_X3_hasItems : Cond.selects RX3 yX3_hasItems yX3_hasItems ∈ TB := mT (List.mem_of_getElem? (i := 566) (by decide +kernel)) rfl
theorem cd_X3_hasItems : Cond.code yX3_hasItems cX3_hasItems 3 (some .boolean) ∈ TB := mT (List.mem_of_getElem? (i := 567) (by decide +kernel)) rfl
theorem ml_X5_253 : Cond.methodLink RX5 253 arraycopyName ∈ TB := mT (List.mem_of_getElem? (i := 568) (by decide +kernel)) rfl
theorem ml_L_123 : Cond.methodLink RL 123 yX5_tell ∈ TB := mT (List.mem_of_getElem? (i := 569) (by decide +kernel)) rfl
theorem im_X5_tell : Cond.instanceMethod yX5_tell ∈ TB := mT (List.mem_of_getElem? (i := 570) (by decide +kernel)) rfl
theorem se_X5_tell : Cond.selects RX5 yX5_tell yX5_tell ∈ TB := mT (List.mem_of_getElem? (i := 571) (by decide +kernel)) rfl
theorem cd_X5_tell : Cond.code yX5_tell cX5_tell 6 (some .int) ∈ TB := mT (List.mem_of_getElem? (i := 572) (by decide +kernel)) rfl
theorem ml_X5_259 : Cond.methodLink RX5 259 yJ9_max_7cf53 ∈ TB := mT (List.mem_of_getElem? (i := 573) (by decide +kernel)) rfl
theorem ml_L_127 : Cond.methodLink RL 127 yX5_count ∈ TB := mT (List.mem_of_getElem? (i := 574) (by decide +kernel)) rfl
theorem im_X5_count : Cond.instanceMethod yX5_count ∈ TB := mT (List.mem_of_getElem? (i := 575) (by decide +kernel)) rfl
theorem se_X5_count : Cond.selects RX5 yX5_count yX5_count ∈ TB := mT (List.mem_of_getElem? (i := 576) (by decide +kernel)) rfl
theorem cd_X5_count : Cond.code yX5_count cX5_count 2 (some .int) ∈ TB := mT (List.mem_of_getElem? (i := 577) (by decide +kernel)) rfl
theorem ml_X5_265 : Cond.methodLink RX5 265 yJ6_bitCount_0f7a4 ∈ TB := mT (List.mem_of_getElem? (i := 578) (by decide +kernel)) rfl
theorem st_J6_bitCount_0f7a4 : Cond.static yJ6_bitCount_0f7a4 ∈ TB := mT (List.mem_of_getElem? (i := 579) (by decide +kernel)) rfl
theorem cd_J6_bitCount_0f7a4 : Cond.code yJ6_bitCount_0f7a4 cJ6_bitCount_0f7a4 1 (some .int) ∈ TB := mT (List.mem_of_getElem? (i := 580) (by decide +kernel)) rfl
theorem kc_J6_265 : Cond.constant RJ6 265 (1431655765) ∈ TB := mT (List.mem_of_getElem? (i := 581) (by decide +kernel)) rfl
theorem kc_J6_266 : Cond.constant RJ6 266 (858993459) ∈ TB := mT (List.mem_of_getElem? (i := 582) (by decide +kernel)) rfl
theorem kc_J6_267 : Cond.constant RJ6 267 (252645135) ∈ TB := mT (List.mem_of_getElem? (i := 583) (by decide +kernel)) rfl
theorem ml_X5_270 : Cond.methodLink RX5 270 yX5_howManyShadowed ∈ TB := mT (List.mem_of_getElem? (i := 584) (by decide +kernel)) rfl
theorem im_X5_howManyShadowed : Cond.instanceMethod yX5_howManyShadowed ∈ TB := mT (List.mem_of_getElem? (i := 586) (by decide +kernel)) rfl
theorem cd_X5_howManyShadowed : Cond.code yX5_howManyShadowed cX5_howManyShadowed 3 (some .int) ∈ TB := mT (List.mem_of_getElem? (i := 587) (by decide +kernel)) rfl
theorem ml_X5_273 : Cond.methodLink RX5 273 yX5_allowed ∈ TB := mT (List.mem_of_getElem? (i := 588) (by decide +kernel)) rfl
theorem ml_L_131 : Cond.methodLink RL 131 yX5_digest ∈ TB := mT (List.mem_of_getElem? (i := 589) (by decide +kernel)) rfl
theorem im_X5_digest : Cond.instanceMethod yX5_digest ∈ TB := mT (List.mem_of_getElem? (i := 590) (by decide +kernel)) rfl
theorem se_X5_digest : Cond.selects RX5 yX5_digest yX5_digest ∈ TB := mT (List.mem_of_getElem? (i := 591) (by decide +kernel)) rfl
theorem cd_X5_digest : Cond.code yX5_digest cX5_digest 4 (some .long) ∈ TB := mT (List.mem_of_getElem? (i := 592) (by decide +kernel)) rfl
theorem kl_X5_276 : Cond.constantLong RX5 276 (17) ∈ TB := mT (List.mem_of_getElem? (i := 593) (by decide +kernel)) rfl
theorem kl_X5_278 : Cond.constantLong RX5 278 (31) ∈ TB := mT (List.mem_of_getElem? (i := 594) (by decide +kernel)) rfl
theorem ml_X5_280 : Cond.methodLink RX5 280 yX5_count ∈ TB := mT (List.mem_of_getElem? (i := 595) (by decide +kernel)) rfl
theorem ml_X5_283 : Cond.methodLink RX5 283 yX5_digestRevision ∈ TB := mT (List.mem_of_getElem? (i := 596) (by decide +kernel)) rfl
theorem im_X5_digestRevision : Cond.instanceMethod yX5_digestRevision ∈ TB := mT (List.mem_of_getElem? (i := 598) (by decide +kernel)) rfl
theorem cd_X5_digestRevision : Cond.code yX5_digestRevision cX5_digestRevision 7 (some .long) ∈ TB := mT (List.mem_of_getElem? (i := 599) (by decide +kernel)) rfl
theorem ml_X5_303 : Cond.methodLink RX5 303 yX5_revision ∈ TB := mT (List.mem_of_getElem? (i := 600) (by decide +kernel)) rfl
theorem ml_X5_306 : Cond.methodLink RX5 306 yX5_shadows ∈ TB := mT (List.mem_of_getElem? (i := 601) (by decide +kernel)) rfl
theorem ml_X5_287 : Cond.methodLink RX5 287 yX5_digestThing ∈ TB := mT (List.mem_of_getElem? (i := 602) (by decide +kernel)) rfl
theorem im_X5_digestThing : Cond.instanceMethod yX5_digestThing ∈ TB := mT (List.mem_of_getElem? (i := 604) (by decide +kernel)) rfl
theorem cd_X5_digestThing : Cond.code yX5_digestThing cX5_digestThing 7 (some .long) ∈ TB := mT (List.mem_of_getElem? (i := 605) (by decide +kernel)) rfl
theorem ml_X5_309 : Cond.methodLink RX5 309 yX5_thing ∈ TB := mT (List.mem_of_getElem? (i := 606) (by decide +kernel)) rfl
theorem ml_X5_290 : Cond.methodLink RX5 290 yX5_digestWrite ∈ TB := mT (List.mem_of_getElem? (i := 607) (by decide +kernel)) rfl
theorem im_X5_digestWrite : Cond.instanceMethod yX5_digestWrite ∈ TB := mT (List.mem_of_getElem? (i := 609) (by decide +kernel)) rfl
theorem cd_X5_digestWrite : Cond.code yX5_digestWrite cX5_digestWrite 7 (some .long) ∈ TB := mT (List.mem_of_getElem? (i := 610) (by decide +kernel)) rfl
theorem ml_X5_312 : Cond.methodLink RX5 312 yX5_write ∈ TB := mT (List.mem_of_getElem? (i := 611) (by decide +kernel)) rfl
theorem ml_X5_315 : Cond.methodLink RX5 315 yX5_covers ∈ TB := mT (List.mem_of_getElem? (i := 612) (by decide +kernel)) rfl
theorem ml_X5_318 : Cond.methodLink RX5 318 yX5_covered ∈ TB := mT (List.mem_of_getElem? (i := 613) (by decide +kernel)) rfl
theorem ml_X5_321 : Cond.methodLink RX5 321 yX5_number ∈ TB := mT (List.mem_of_getElem? (i := 614) (by decide +kernel)) rfl
theorem ml_X5_324 : Cond.methodLink RX5 324 yX5_flaws ∈ TB := mT (List.mem_of_getElem? (i := 615) (by decide +kernel)) rfl
theorem ml_X5_327 : Cond.methodLink RX5 327 yX5_judge ∈ TB := mT (List.mem_of_getElem? (i := 616) (by decide +kernel)) rfl
theorem ml_X5_293 : Cond.methodLink RX5 293 yX5_digestChanges ∈ TB := mT (List.mem_of_getElem? (i := 617) (by decide +kernel)) rfl
theorem im_X5_digestChanges : Cond.instanceMethod yX5_digestChanges ∈ TB := mT (List.mem_of_getElem? (i := 619) (by decide +kernel)) rfl
theorem cd_X5_digestChanges : Cond.code yX5_digestChanges cX5_digestChanges 8 (some .long) ∈ TB := mT (List.mem_of_getElem? (i := 620) (by decide +kernel)) rfl
theorem ml_X5_330 : Cond.methodLink RX5 330 yX5_change ∈ TB := mT (List.mem_of_getElem? (i := 621) (by decide +kernel)) rfl
theorem ml_X5_296 : Cond.methodLink RX5 296 yX5_bytes ∈ TB := mT (List.mem_of_getElem? (i := 622) (by decide +kernel)) rfl
theorem ml_X5_299 : Cond.methodLink RX5 299 yX5_digestFile ∈ TB := mT (List.mem_of_getElem? (i := 623) (by decide +kernel)) rfl
theorem im_X5_digestFile : Cond.instanceMethod yX5_digestFile ∈ TB := mT (List.mem_of_getElem? (i := 625) (by decide +kernel)) rfl
theorem cd_X5_digestFile : Cond.code yX5_digestFile cX5_digestFile 6 (some .long) ∈ TB := mT (List.mem_of_getElem? (i := 626) (by decide +kernel)) rfl
theorem ml_X5_333 : Cond.methodLink RX5 333 yX5_first ∈ TB := mT (List.mem_of_getElem? (i := 627) (by decide +kernel)) rfl
theorem ml_X5_336 : Cond.methodLink RX5 336 yX5_holding ∈ TB := mT (List.mem_of_getElem? (i := 628) (by decide +kernel)) rfl
theorem ml_X5_339 : Cond.methodLink RX5 339 yX5_better ∈ TB := mT (List.mem_of_getElem? (i := 629) (by decide +kernel)) rfl
theorem cl_L_10 : Cond.classLink RL 10 RX6 ∈ TB := mT (List.mem_of_getElem? (i := 630) (by decide +kernel)) rfl
theorem is_X6 : Cond.instantiable RX6 16 ∈ TB := mT (List.mem_of_getElem? (i := 631) (by decide +kernel)) rfl
theorem ml_L_12 : Cond.methodLink RL 12 yX6_init ∈ TB := mT (List.mem_of_getElem? (i := 632) (by decide +kernel)) rfl
theorem im_X6_init : Cond.instanceMethod yX6_init ∈ TB := mT (List.mem_of_getElem? (i := 633) (by decide +kernel)) rfl
theorem cd_X6_init : Cond.code yX6_init cX6_init 2 none ∈ TB := mT (List.mem_of_getElem? (i := 634) (by decide +kernel)) rfl
theorem ml_X6_1 : Cond.methodLink RX6 1 objectInit ∈ TB := mT (List.mem_of_getElem? (i := 635) (by decide +kernel)) rfl
theorem fl_X6_7 : Cond.fieldLink RX6 7 (TX6 0).1 (TX6 0).2.1 (TX6 0).2.2.1 ∈ TB := mT (List.mem_of_getElem? (i := 636) (by decide +kernel)) rfl
theorem fl_X6_13 : Cond.fieldLink RX6 13 (TX6 1).1 (TX6 1).2.1 (TX6 1).2.2.1 ∈ TB := mT (List.mem_of_getElem? (i := 637) (by decide +kernel)) rfl
theorem fl_X6_16 : Cond.fieldLink RX6 16 (TX6 2).1 (TX6 2).2.1 (TX6 2).2.2.1 ∈ TB := mT (List.mem_of_getElem? (i := 638) (by decide +kernel)) rfl
theorem fl_X6_19 : Cond.fieldLink RX6 19 (TX6 3).1 (TX6 3).2.1 (TX6 3).2.2.1 ∈ TB := mT (List.mem_of_getElem? (i := 639) (by decide +kernel)) rfl
theorem fl_X6_55 : Cond.fieldLink RX6 55 (TX6 4).1 (TX6 4).2.1 (TX6 4).2.2.1 ∈ TB := mT (List.mem_of_getElem? (i := 640) (by decide +kernel)) rfl
theorem fl_X6_89 : Cond.fieldLink RX6 89 (TX6 5).1 (TX6 5).2.1 (TX6 5).2.2.1 ∈ TB := mT (List.mem_of_getElem? (i := 641) (by decide +kernel)) rfl
theorem fl_X6_22 : Cond.fieldLink RX6 22 (TX6 6).1 (TX6 6).2.1 (TX6 6).2.2.1 ∈ TB := mT (List.mem_of_getElem? (i := 642) (by decide +kernel)) rfl
theorem fl_X6_25 : Cond.fieldLink RX6 25 (TX6 7).1 (TX6 7).2.1 (TX6 7).2.2.1 ∈ TB := mT (List.mem_of_getElem? (i := 643) (by decide +kernel)) rfl
theorem fl_X6_28 : Cond.fieldLink RX6 28 (TX6 8).1 (TX6 8).2.1 (TX6 8).2.2.1 ∈ TB := mT (List.mem_of_getElem? (i := 644) (by decide +kernel)) rfl
theorem fl_X6_31 : Cond.fieldLink RX6 31 (TX6 9).1 (TX6 9).2.1 (TX6 9).2.2.1 ∈ TB := mT (List.mem_of_getElem? (i := 645) (by decide +kernel)) rfl
theorem fl_X6_34 : Cond.fieldLink RX6 34 (TX6 10).1 (TX6 10).2.1 (TX6 10).2.2.1 ∈ TB := mT (List.mem_of_getElem? (i := 646) (by decide +kernel)) rfl
theorem fl_X6_38 : Cond.fieldLink RX6 38 (TX6 11).1 (TX6 11).2.1 (TX6 11).2.2.1 ∈ TB := mT (List.mem_of_getElem? (i := 647) (by decide +kernel)) rfl
theorem fl_X6_41 : Cond.fieldLink RX6 41 (TX6 12).1 (TX6 12).2.1 (TX6 12).2.2.1 ∈ TB := mT (List.mem_of_getElem? (i := 648) (by decide +kernel)) rfl
theorem fl_X6_92 : Cond.fieldLink RX6 92 (TX6 13).1 (TX6 13).2.1 (TX6 13).2.2.1 ∈ TB := mT (List.mem_of_getElem? (i := 649) (by decide +kernel)) rfl
theorem fl_X6_44 : Cond.fieldLink RX6 44 (TX6 14).1 (TX6 14).2.1 (TX6 14).2.2.1 ∈ TB := mT (List.mem_of_getElem? (i := 650) (by decide +kernel)) rfl
theorem fl_X6_48 : Cond.fieldLink RX6 48 (TX6 15).1 (TX6 15).2.1 (TX6 15).2.2.1 ∈ TB := mT (List.mem_of_getElem? (i := 651) (by decide +kernel)) rfl
theorem ml_L_105 : Cond.methodLink RL 105 yX6_sheet ∈ TB := mT (List.mem_of_getElem? (i := 685) (by decide +kernel)) rfl
theorem im_X6_sheet : Cond.instanceMethod yX6_sheet ∈ TB := mT (List.mem_of_getElem? (i := 686) (by decide +kernel)) rfl
theorem se_X6_sheet : Cond.selects RX6 yX6_sheet yX6_sheet ∈ TB := mT (List.mem_of_getElem? (i := 687) (by decide +kernel)) rfl
theorem cd_X6_sheet : Cond.code yX6_sheet cX6_sheet 5 (some .int) ∈ TB := mT (List.mem_of_getElem? (i := 688) (by decide +kernel)) rfl
theorem ml_X6_60 : Cond.methodLink RX6 60 yX6_isSheet ∈ TB := mT (List.mem_of_getElem? (i := 689) (by decide +kernel)) rfl
theorem st_X6_isSheet : Cond.static yX6_isSheet ∈ TB := mT (List.mem_of_getElem? (i := 690) (by decide +kernel)) rfl
theorem cd_X6_isSheet : Cond.code yX6_isSheet cX6_isSheet 1 (some .boolean) ∈ TB := mT (List.mem_of_getElem? (i := 691) (by decide +kernel)) rfl
theorem kl_X6_58 : Cond.constantLong RX6 58 (3) ∈ TB := mT (List.mem_of_getElem? (i := 692) (by decide +kernel)) rfl
theorem ml_X6_51 : Cond.methodLink RX6 51 yX6_in ∈ TB := mT (List.mem_of_getElem? (i := 693) (by decide +kernel)) rfl
theorem st_X6_in : Cond.static yX6_in ∈ TB := mT (List.mem_of_getElem? (i := 694) (by decide +kernel)) rfl
theorem cd_X6_in : Cond.code yX6_in cX6_in 6 (some .boolean) ∈ TB := mT (List.mem_of_getElem? (i := 695) (by decide +kernel)) rfl
theorem kl_X6_64 : Cond.constantLong RX6 64 (2) ∈ TB := mT (List.mem_of_getElem? (i := 696) (by decide +kernel)) rfl
theorem ml_X6_66 : Cond.methodLink RX6 66 yX6_finds ∈ TB := mT (List.mem_of_getElem? (i := 697) (by decide +kernel)) rfl
theorem im_X6_finds : Cond.instanceMethod yX6_finds ∈ TB := mT (List.mem_of_getElem? (i := 699) (by decide +kernel)) rfl
theorem cd_X6_finds : Cond.code yX6_finds cX6_finds 2 (some .int) ∈ TB := mT (List.mem_of_getElem? (i := 700) (by decide +kernel)) rfl
theorem ml_L_109 : Cond.methodLink RL 109 yX6_lose ∈ TB := mT (List.mem_of_getElem? (i := 701) (by decide +kernel)) rfl
theorem im_X6_lose : Cond.instanceMethod yX6_lose ∈ TB := mT (List.mem_of_getElem? (i := 702) (by decide +kernel)) rfl
theorem se_X6_lose : Cond.selects RX6 yX6_lose yX6_lose ∈ TB := mT (List.mem_of_getElem? (i := 703) (by decide +kernel)) rfl
theorem cd_X6_lose : Cond.code yX6_lose cX6_lose 2 (some .int) ∈ TB := mT (List.mem_of_getElem? (i := 704) (by decide +kernel)) rfl
theorem ml_L_114 : Cond.methodLink RL 114 yX6_lay ∈ TB := mT (List.mem_of_getElem? (i := 705) (by decide +kernel)) rfl
theorem im_X6_lay : Cond.instanceMethod yX6_lay ∈ TB := mT (List.mem_of_getElem? (i := 706) (by decide +kernel)) rfl
theorem se_X6_lay : Cond.selects RX6 yX6_lay yX6_lay ∈ TB := mT (List.mem_of_getElem? (i := 707) (by decide +kernel)) rfl
theorem cd_X6_lay : Cond.code yX6_lay cX6_lay 6 (some .int) ∈ TB := mT (List.mem_of_getElem? (i := 708) (by decide +kernel)) rfl
theorem ml_X6_70 : Cond.methodLink RX6 70 yX6_lacks ∈ TB := mT (List.mem_of_getElem? (i := 709) (by decide +kernel)) rfl
theorem im_X6_lacks : Cond.instanceMethod yX6_lacks ∈ TB := mT (List.mem_of_getElem? (i := 711) (by decide +kernel)) rfl
theorem cd_X6_lacks : Cond.code yX6_lacks cX6_lacks 4 (some .int) ∈ TB := mT (List.mem_of_getElem? (i := 712) (by decide +kernel)) rfl
theorem ml_X6_74 : Cond.methodLink RX6 74 yX6_cut ∈ TB := mT (List.mem_of_getElem? (i := 713) (by decide +kernel)) rfl
theorem st_X6_cut : Cond.static yX6_cut ∈ TB := mT (List.mem_of_getElem? (i := 714) (by decide +kernel)) rfl
theorem cd_X6_cut : Cond.code yX6_cut cX6_cut 2 (some .int) ∈ TB := mT (List.mem_of_getElem? (i := 715) (by decide +kernel)) rfl
theorem ml_L_118 : Cond.methodLink RL 118 yX6_get ∈ TB := mT (List.mem_of_getElem? (i := 716) (by decide +kernel)) rfl
theorem im_X6_get : Cond.instanceMethod yX6_get ∈ TB := mT (List.mem_of_getElem? (i := 717) (by decide +kernel)) rfl
theorem se_X6_get : Cond.selects RX6 yX6_get yX6_get ∈ TB := mT (List.mem_of_getElem? (i := 718) (by decide +kernel)) rfl
theorem cd_X6_get : Cond.code yX6_get cX6_get 4 (some .int) ∈ TB := mT (List.mem_of_getElem? (i := 719) (by decide +kernel)) rfl
theorem kc_X6_78 : Cond.constant RX6 78 (-2147483648) ∈ TB := mT (List.mem_of_getElem? (i := 720) (by decide +kernel)) rfl
theorem ml_L_122 : Cond.methodLink RL 122 yX6_copy ∈ TB := mT (List.mem_of_getElem? (i := 721) (by decide +kernel)) rfl
theorem im_X6_copy : Cond.instanceMethod yX6_copy ∈ TB := mT (List.mem_of_getElem? (i := 722) (by decide +kernel)) rfl
theorem se_X6_copy : Cond.selects RX6 yX6_copy yX6_copy ∈ TB := mT (List.mem_of_getElem? (i := 723) (by decide +kernel)) rfl
theorem cd_X6_copy : Cond.code yX6_copy cX6_copy 7 (some .int) ∈ TB := mT (List.mem_of_getElem? (i := 724) (by decide +kernel)) rfl
theorem ml_L_17 : Cond.methodLink RL 17 yX6_put ∈ TB := mT (List.mem_of_getElem? (i := 725) (by decide +kernel)) rfl
theorem im_X6_put : Cond.instanceMethod yX6_put ∈ TB := mT (List.mem_of_getElem? (i := 726) (by decide +kernel)) rfl
theorem se_X6_put : Cond.selects RX6 yX6_put yX6_put ∈ TB := mT (List.mem_of_getElem? (i := 727) (by decide +kernel)) rfl
theorem cd_X6_put : Cond.code yX6_put cX6_put 4 (some .int) ∈ TB := mT (List.mem_of_getElem? (i := 728) (by decide +kernel)) rfl
theorem kl_X6_81 : Cond.constantLong RX6 81 (15) ∈ TB := mT (List.mem_of_getElem? (i := 729) (by decide +kernel)) rfl
theorem kl_X6_83 : Cond.constantLong RX6 83 (5) ∈ TB := mT (List.mem_of_getElem? (i := 730) (by decide +kernel)) rfl
theorem ml_X6_85 : Cond.methodLink RX6 85 yX6_isValue ∈ TB := mT (List.mem_of_getElem? (i := 731) (by decide +kernel)) rfl
theorem st_X6_isValue : Cond.static yX6_isValue ∈ TB := mT (List.mem_of_getElem? (i := 732) (by decide +kernel)) rfl
theorem cd_X6_isValue : Cond.code yX6_isValue cX6_isValue 2 (some .boolean) ∈ TB := mT (List.mem_of_getElem? (i := 733) (by decide +kernel)) rfl
theorem kl_X6_79 : Cond.constantLong RX6 79 (65535) ∈ TB := mT (List.mem_of_getElem? (i := 734) (by decide +kernel)) rfl
theorem ml_L_22 : Cond.methodLink RL 22 yX6_close ∈ TB := mT (List.mem_of_getElem? (i := 735) (by decide +kernel)) rfl
theorem im_X6_close : Cond.instanceMethod yX6_close ∈ TB := mT (List.mem_of_getElem? (i := 736) (by decide +kernel)) rfl
theorem se_X6_close : Cond.selects RX6 yX6_close yX6_close ∈ TB := mT (List.mem_of_getElem? (i := 737) (by decide +kernel)) rfl
theorem cd_X6_close : Cond.code yX6_close cX6_close 2 (some .int) ∈ TB := mT (List.mem_of_getElem? (i := 738) (by decide +kernel)) rfl
theorem ml_X6_95 : Cond.methodLink RX6 95 yX6_manyOf ∈ TB := mT (List.mem_of_getElem? (i := 739) (by decide +kernel)) rfl
theorem im_X6_manyOf : Cond.instanceMethod yX6_manyOf ∈ TB := mT (List.mem_of_getElem? (i := 741) (by decide +kernel)) rfl
theorem cd_X6_manyOf : Cond.code yX6_manyOf cX6_manyOf 4 (some .int) ∈ TB := mT (List.mem_of_getElem? (i := 742) (by decide +kernel)) rfl
theorem ml_X6_98 : Cond.methodLink RX6 98 yX6_numberOf ∈ TB := mT (List.mem_of_getElem? (i := 743) (by decide +kernel)) rfl
theorem im_X6_numberOf : Cond.instanceMethod yX6_numberOf ∈ TB := mT (List.mem_of_getElem? (i := 745) (by decide +kernel)) rfl
theorem cd_X6_numberOf : Cond.code yX6_numberOf cX6_numberOf 6 (some .int) ∈ TB := mT (List.mem_of_getElem? (i := 746) (by decide +kernel)) rfl
theorem ml_X6_170 : Cond.methodLink RX6 170 yX6_coverOf ∈ TB := mT (List.mem_of_getElem? (i := 747) (by decide +kernel)) rfl
theorem im_X6_coverOf : Cond.instanceMethod yX6_coverOf ∈ TB := mT (List.mem_of_getElem? (i := 749) (by decide +kernel)) rfl
theorem cd_X6_coverOf : Cond.code yX6_coverOf cX6_coverOf 3 (some .int) ∈ TB := mT (List.mem_of_getElem? (i := 750) (by decide +kernel)) rfl
theorem ml_X6_167 : Cond.methodLink RX6 167 yX6_usual ∈ TB := mT (List.mem_of_getElem? (i := 751) (by decide +kernel)) rfl
theorem im_X6_usual : Cond.instanceMethod yX6_usual ∈ TB := mT (List.mem_of_getElem? (i := 753) (by decide +kernel)) rfl
theorem cd_X6_usual : Cond.code yX6_usual cX6_usual 3 (some .int) ∈ TB := mT (List.mem_of_getElem? (i := 754) (by decide +kernel)) rfl
theorem ml_X6_135 : Cond.methodLink RX6 135 yX6_placeOf ∈ TB := mT (List.mem_of_getElem? (i := 755) (by decide +kernel)) rfl
theorem im_X6_placeOf : Cond.instanceMethod yX6_placeOf ∈ TB := mT (List.mem_of_getElem? (i := 757) (by decide +kernel)) rfl
theorem cd_X6_placeOf : Cond.code yX6_placeOf cX6_placeOf 2 (some .int) ∈ TB := mT (List.mem_of_getElem? (i := 758) (by decide +kernel)) rfl
theorem ml_X6_143 : Cond.methodLink RX6 143 yX6_endOf ∈ TB := mT (List.mem_of_getElem? (i := 759) (by decide +kernel)) rfl
theorem im_X6_endOf : Cond.instanceMethod yX6_endOf ∈ TB := mT (List.mem_of_getElem? (i := 761) (by decide +kernel)) rfl
theorem cd_X6_endOf : Cond.code yX6_endOf cX6_endOf 2 (some .int) ∈ TB := mT (List.mem_of_getElem? (i := 762) (by decide +kernel)) rfl
theorem ml_X6_122 : Cond.methodLink RX6 122 yX6_beginOf ∈ TB := mT (List.mem_of_getElem? (i := 763) (by decide +kernel)) rfl
theorem im_X6_beginOf : Cond.instanceMethod yX6_beginOf ∈ TB := mT (List.mem_of_getElem? (i := 765) (by decide +kernel)) rfl
theorem cd_X6_beginOf : Cond.code yX6_beginOf cX6_beginOf 2 (some .int) ∈ TB := mT (List.mem_of_getElem? (i := 766) (by decide +kernel)) rfl
theorem ml_X6_119 : Cond.methodLink RX6 119 yX6_firstOf ∈ TB := mT (List.mem_of_getElem? (i := 767) (by decide +kernel)) rfl
theorem im_X6_firstOf : Cond.instanceMethod yX6_firstOf ∈ TB := mT (List.mem_of_getElem? (i := 769) (by decide +kernel)) rfl
theorem cd_X6_firstOf : Cond.code yX6_firstOf cX6_firstOf 4 (some .int) ∈ TB := mT (List.mem_of_getElem? (i := 770) (by decide +kernel)) rfl
theorem ml_X6_128 : Cond.methodLink RX6 128 yX6_allBytes ∈ TB := mT (List.mem_of_getElem? (i := 771) (by decide +kernel)) rfl
theorem im_X6_allBytes : Cond.instanceMethod yX6_allBytes ∈ TB := mT (List.mem_of_getElem? (i := 773) (by decide +kernel)) rfl
theorem cd_X6_allBytes : Cond.code yX6_allBytes cX6_allBytes 1 (some .int) ∈ TB := mT (List.mem_of_getElem? (i := 774) (by decide +kernel)) rfl
theorem ml_X6_173 : Cond.methodLink RX6 173 yX6_lesser ∈ TB := mT (List.mem_of_getElem? (i := 775) (by decide +kernel)) rfl
theorem st_X6_lesser : Cond.static yX6_lesser ∈ TB := mT (List.mem_of_getElem? (i := 776) (by decide +kernel)) rfl
theorem cd_X6_lesser : Cond.code yX6_lesser cX6_lesser 2 (some .int) ∈ TB := mT (List.mem_of_getElem? (i := 777) (by decide +kernel)) rfl
theorem ml_X6_132 : Cond.methodLink RX6 132 yX6_byteAt ∈ TB := mT (List.mem_of_getElem? (i := 778) (by decide +kernel)) rfl
theorem im_X6_byteAt : Cond.instanceMethod yX6_byteAt ∈ TB := mT (List.mem_of_getElem? (i := 780) (by decide +kernel)) rfl
theorem cd_X6_byteAt : Cond.code yX6_byteAt cX6_byteAt 5 (some .int) ∈ TB := mT (List.mem_of_getElem? (i := 781) (by decide +kernel)) rfl
theorem ml_X6_125 : Cond.methodLink RX6 125 yX6_byteOf ∈ TB := mT (List.mem_of_getElem? (i := 782) (by decide +kernel)) rfl
theorem im_X6_byteOf : Cond.instanceMethod yX6_byteOf ∈ TB := mT (List.mem_of_getElem? (i := 784) (by decide +kernel)) rfl
theorem cd_X6_byteOf : Cond.code yX6_byteOf cX6_byteOf 3 (some .int) ∈ TB := mT (List.mem_of_getElem? (i := 785) (by decide +kernel)) rfl
theorem ml_L_26 : Cond.methodLink RL 26 yX6_undo ∈ TB := mT (List.mem_of_getElem? (i := 786) (by decide +kernel)) rfl
theorem im_X6_undo : Cond.instanceMethod yX6_undo ∈ TB := mT (List.mem_of_getElem? (i := 787) (by decide +kernel)) rfl
theorem se_X6_undo : Cond.selects RX6 yX6_undo yX6_undo ∈ TB := mT (List.mem_of_getElem? (i := 788) (by decide +kernel)) rfl
theorem cd_X6_undo : Cond.code yX6_undo cX6_undo 1 (some .int) ∈ TB := mT (List.mem_of_getElem? (i := 789) (by decide +kernel)) rfl
theorem ml_L_31 : Cond.methodLink RL 31 yX6_cover ∈ TB := mT (List.mem_of_getElem? (i := 790) (by decide +kernel)) rfl
theorem im_X6_cover : Cond.instanceMethod yX6_cover ∈ TB := mT (List.mem_of_getElem? (i := 791) (by decide +kernel)) rfl
theorem se_X6_cover : Cond.selects RX6 yX6_cover yX6_cover ∈ TB := mT (List.mem_of_getElem? (i := 792) (by decide +kernel)) rfl
theorem cd_X6_cover : Cond.code yX6_cover cX6_cover 6 (some .int) ∈ TB := mT (List.mem_of_getElem? (i := 793) (by decide +kernel)) rfl
theorem ml_X6_106 : Cond.methodLink RX6 106 yX6_isWrite ∈ TB := mT (List.mem_of_getElem? (i := 794) (by decide +kernel)) rfl
theorem im_X6_isWrite : Cond.instanceMethod yX6_isWrite ∈ TB := mT (List.mem_of_getElem? (i := 796) (by decide +kernel)) rfl
theorem cd_X6_isWrite : Cond.code yX6_isWrite cX6_isWrite 2 (some .boolean) ∈ TB := mT (List.mem_of_getElem? (i := 797) (by decide +kernel)) rfl
theorem ml_X6_109 : Cond.methodLink RX6 109 yX6_isCover ∈ TB := mT (List.mem_of_getElem? (i := 798) (by decide +kernel)) rfl
theorem st_X6_isCover : Cond.static yX6_isCover ∈ TB := mT (List.mem_of_getElem? (i := 799) (by decide +kernel)) rfl
theorem cd_X6_isCover : Cond.code yX6_isCover cX6_isCover 4 (some .boolean) ∈ TB := mT (List.mem_of_getElem? (i := 800) (by decide +kernel)) rfl
theorem kl_X6_104 : Cond.constantLong RX6 104 (400) ∈ TB := mT (List.mem_of_getElem? (i := 801) (by decide +kernel)) rfl
theorem ml_X6_101 : Cond.methodLink RX6 101 yX6_isSeal ∈ TB := mT (List.mem_of_getElem? (i := 802) (by decide +kernel)) rfl
theorem im_X6_isSeal : Cond.instanceMethod yX6_isSeal ∈ TB := mT (List.mem_of_getElem? (i := 804) (by decide +kernel)) rfl
theorem cd_X6_isSeal : Cond.code yX6_isSeal cX6_isSeal 2 (some .boolean) ∈ TB := mT (List.mem_of_getElem? (i := 805) (by decide +kernel)) rfl
theorem ml_X6_113 : Cond.methodLink RX6 113 yX6_isClosed ∈ TB := mT (List.mem_of_getElem? (i := 806) (by decide +kernel)) rfl
theorem im_X6_isClosed : Cond.instanceMethod yX6_isClosed ∈ TB := mT (List.mem_of_getElem? (i := 808) (by decide +kernel)) rfl
theorem cd_X6_isClosed : Cond.code yX6_isClosed cX6_isClosed 2 (some .boolean) ∈ TB := mT (List.mem_of_getElem? (i := 809) (by decide +kernel)) rfl
theorem ml_L_36 : Cond.methodLink RL 36 yX6_alter ∈ TB := mT (List.mem_of_getElem? (i := 810) (by decide +kernel)) rfl
theorem im_X6_alter : Cond.instanceMethod yX6_alter ∈ TB := mT (List.mem_of_getElem? (i := 811) (by decide +kernel)) rfl
theorem se_X6_alter : Cond.selects RX6 yX6_alter yX6_alter ∈ TB := mT (List.mem_of_getElem? (i := 812) (by decide +kernel)) rfl
theorem cd_X6_alter : Cond.code yX6_alter cX6_alter 4 (some .int) ∈ TB := mT (List.mem_of_getElem? (i := 813) (by decide +kernel)) rfl
theorem ml_L_41 : Cond.methodLink RL 41 yX6_read ∈ TB := mT (List.mem_of_getElem? (i := 814) (by decide +kernel)) rfl
theorem im_X6_read : Cond.instanceMethod yX6_read ∈ TB := mT (List.mem_of_getElem? (i := 815) (by decide +kernel)) rfl
theorem se_X6_read : Cond.selects RX6 yX6_read yX6_read ∈ TB := mT (List.mem_of_getElem? (i := 816) (by decide +kernel)) rfl
theorem cd_X6_read : Cond.code yX6_read cX6_read 5 (some .int) ∈ TB := mT (List.mem_of_getElem? (i := 817) (by decide +kernel)) rfl
theorem ml_X6_116 : Cond.methodLink RX6 116 yX6_put ∈ TB := mT (List.mem_of_getElem? (i := 818) (by decide +kernel)) rfl
theorem ml_L_53 : Cond.methodLink RL 53 yX6_bytes ∈ TB := mT (List.mem_of_getElem? (i := 819) (by decide +kernel)) rfl
theorem im_X6_bytes : Cond.instanceMethod yX6_bytes ∈ TB := mT (List.mem_of_getElem? (i := 820) (by decide +kernel)) rfl
theorem se_X6_bytes : Cond.selects RX6 yX6_bytes yX6_bytes ∈ TB := mT (List.mem_of_getElem? (i := 821) (by decide +kernel)) rfl
theorem cd_X6_bytes : Cond.code yX6_bytes cX6_bytes 2 (some .int) ∈ TB := mT (List.mem_of_getElem? (i := 822) (by decide +kernel)) rfl
theorem ml_L_45 : Cond.methodLink RL 45 yX6_write ∈ TB := mT (List.mem_of_getElem? (i := 823) (by decide +kernel)) rfl
theorem im_X6_write : Cond.instanceMethod yX6_write ∈ TB := mT (List.mem_of_getElem? (i := 824) (by decide +kernel)) rfl
theorem se_X6_write : Cond.selects RX6 yX6_write yX6_write ∈ TB := mT (List.mem_of_getElem? (i := 825) (by decide +kernel)) rfl
theorem cd_X6_write : Cond.code yX6_write cX6_write 3 (some .int) ∈ TB := mT (List.mem_of_getElem? (i := 826) (by decide +kernel)) rfl
theorem kl_X6_138 : Cond.constantLong RX6 138 (4) ∈ TB := mT (List.mem_of_getElem? (i := 827) (by decide +kernel)) rfl
theorem ml_X6_140 : Cond.methodLink RX6 140 yX6_writeBy ∈ TB := mT (List.mem_of_getElem? (i := 828) (by decide +kernel)) rfl
theorem im_X6_writeBy : Cond.instanceMethod yX6_writeBy ∈ TB := mT (List.mem_of_getElem? (i := 830) (by decide +kernel)) rfl
theorem cd_X6_writeBy : Cond.code yX6_writeBy cX6_writeBy 3 (some .int) ∈ TB := mT (List.mem_of_getElem? (i := 831) (by decide +kernel)) rfl
theorem ml_L_49 : Cond.methodLink RL 49 yX6_revision ∈ TB := mT (List.mem_of_getElem? (i := 832) (by decide +kernel)) rfl
theorem im_X6_revision : Cond.instanceMethod yX6_revision ∈ TB := mT (List.mem_of_getElem? (i := 833) (by decide +kernel)) rfl
theorem se_X6_revision : Cond.selects RX6 yX6_revision yX6_revision ∈ TB := mT (List.mem_of_getElem? (i := 834) (by decide +kernel)) rfl
theorem cd_X6_revision : Cond.code yX6_revision cX6_revision 3 (some .int) ∈ TB := mT (List.mem_of_getElem? (i := 835) (by decide +kernel)) rfl
theorem ml_X6_146 : Cond.methodLink RX6 146 yX6_isRevision ∈ TB := mT (List.mem_of_getElem? (i := 836) (by decide +kernel)) rfl
theorem im_X6_isRevision : Cond.instanceMethod yX6_isRevision ∈ TB := mT (List.mem_of_getElem? (i := 838) (by decide +kernel)) rfl
theorem cd_X6_isRevision : Cond.code yX6_isRevision cX6_isRevision 2 (some .boolean) ∈ TB := mT (List.mem_of_getElem? (i := 839) (by decide +kernel)) rfl
theorem ml_X6_149 : Cond.methodLink RX6 149 yX6_revisionBy ∈ TB := mT (List.mem_of_getElem? (i := 840) (by decide +kernel)) rfl
theorem im_X6_revisionBy : Cond.instanceMethod yX6_revisionBy ∈ TB := mT (List.mem_of_getElem? (i := 842) (by decide +kernel)) rfl
theorem cd_X6_revisionBy : Cond.code yX6_revisionBy cX6_revisionBy 3 (some .int) ∈ TB := mT (List.mem_of_getElem? (i := 843) (by decide +kernel)) rfl
theorem ml_L_57 : Cond.methodLink RL 57 yX6_thing ∈ TB := mT (List.mem_of_getElem? (i := 844) (by decide +kernel)) rfl
theorem im_X6_thing : Cond.instanceMethod yX6_thing ∈ TB := mT (List.mem_of_getElem? (i := 845) (by decide +kernel)) rfl
theorem se_X6_thing : Cond.selects RX6 yX6_thing yX6_thing ∈ TB := mT (List.mem_of_getElem? (i := 846) (by decide +kernel)) rfl
theorem cd_X6_thing : Cond.code yX6_thing cX6_thing 4 (some .int) ∈ TB := mT (List.mem_of_getElem? (i := 847) (by decide +kernel)) rfl
theorem ml_X6_155 : Cond.methodLink RX6 155 yX6_isThing ∈ TB := mT (List.mem_of_getElem? (i := 848) (by decide +kernel)) rfl
theorem st_X6_isThing : Cond.static yX6_isThing ∈ TB := mT (List.mem_of_getElem? (i := 849) (by decide +kernel)) rfl
theorem cd_X6_isThing : Cond.code yX6_isThing cX6_isThing 1 (some .boolean) ∈ TB := mT (List.mem_of_getElem? (i := 850) (by decide +kernel)) rfl
theorem ml_X6_158 : Cond.methodLink RX6 158 yX6_thingBy ∈ TB := mT (List.mem_of_getElem? (i := 851) (by decide +kernel)) rfl
theorem im_X6_thingBy : Cond.instanceMethod yX6_thingBy ∈ TB := mT (List.mem_of_getElem? (i := 853) (by decide +kernel)) rfl
theorem cd_X6_thingBy : Cond.code yX6_thingBy cX6_thingBy 5 (some .int) ∈ TB := mT (List.mem_of_getElem? (i := 854) (by decide +kernel)) rfl
theorem ml_X6_152 : Cond.methodLink RX6 152 yX6_lastOf ∈ TB := mT (List.mem_of_getElem? (i := 855) (by decide +kernel)) rfl
theorem im_X6_lastOf : Cond.instanceMethod yX6_lastOf ∈ TB := mT (List.mem_of_getElem? (i := 857) (by decide +kernel)) rfl
theorem cd_X6_lastOf : Cond.code yX6_lastOf cX6_lastOf 5 (some .int) ∈ TB := mT (List.mem_of_getElem? (i := 858) (by decide +kernel)) rfl
theorem ml_L_61 : Cond.methodLink RL 61 yX6_shadows ∈ TB := mT (List.mem_of_getElem? (i := 859) (by decide +kernel)) rfl
theorem im_X6_shadows : Cond.instanceMethod yX6_shadows ∈ TB := mT (List.mem_of_getElem? (i := 860) (by decide +kernel)) rfl
theorem se_X6_shadows : Cond.selects RX6 yX6_shadows yX6_shadows ∈ TB := mT (List.mem_of_getElem? (i := 861) (by decide +kernel)) rfl
theorem cd_X6_shadows : Cond.code yX6_shadows cX6_shadows 2 (some .int) ∈ TB := mT (List.mem_of_getElem? (i := 862) (by decide +kernel)) rfl
theorem ml_X6_164 : Cond.methodLink RX6 164 yX6_shadowsIn ∈ TB := mT (List.mem_of_getElem? (i := 863) (by decide +kernel)) rfl
theorem im_X6_shadowsIn : Cond.instanceMethod yX6_shadowsIn ∈ TB := mT (List.mem_of_getElem? (i := 865) (by decide +kernel)) rfl
theorem cd_X6_shadowsIn : Cond.code yX6_shadowsIn cX6_shadowsIn 4 (some .int) ∈ TB := mT (List.mem_of_getElem? (i := 866) (by decide +kernel)) rfl
theorem ml_X6_161 : Cond.methodLink RX6 161 yX6_isShadowed ∈ TB := mT (List.mem_of_getElem? (i := 867) (by decide +kernel)) rfl
theorem im_X6_isShadowed : Cond.instanceMethod yX6_isShadowed ∈ TB := mT (List.mem_of_getElem? (i := 869) (by decide +kernel)) rfl
theorem cd_X6_isShadowed : Cond.code yX6_isShadowed cX6_isShadowed 6 (some .boolean) ∈ TB := mT (List.mem_of_getElem? (i := 870) (by decide +kernel)) rfl
theorem ml_L_65 : Cond.methodLink RL 65 yX6_covers ∈ TB := mT (List.mem_of_getElem? (i := 871) (by decide +kernel)) rfl
theorem im_X6_covers : Cond.instanceMethod yX6_covers ∈ TB := mT (List.mem_of_getElem? (i := 872) (by decide +kernel)) rfl
theorem se_X6_covers : Cond.selects RX6 yX6_covers yX6_covers ∈ TB := mT (List.mem_of_getElem? (i := 873) (by decide +kernel)) rfl
theorem cd_X6_covers : Cond.code yX6_covers cX6_covers 3 (some .int) ∈ TB := mT (List.mem_of_getElem? (i := 874) (by decide +kernel)) rfl
theorem ml_L_69 : Cond.methodLink RL 69 yX6_covered ∈ TB := mT (List.mem_of_getElem? (i := 875) (by decide +kernel)) rfl
theorem im_X6_covered : Cond.instanceMethod yX6_covered ∈ TB := mT (List.mem_of_getElem? (i := 876) (by decide +kernel)) rfl
theorem se_X6_covered : Cond.selects RX6 yX6_covered yX6_covered ∈ TB := mT (List.mem_of_getElem? (i := 877) (by decide +kernel)) rfl
theorem cd_X6_covered : Cond.code yX6_covered cX6_covered 2 (some .int) ∈ TB := mT (List.mem_of_getElem? (i := 878) (by decide +kernel)) rfl
theorem ml_X6_176 : Cond.methodLink RX6 176 yX6_coveredBy ∈ TB := mT (List.mem_of_getElem? (i := 879) (by decide +kernel)) rfl
theorem im_X6_coveredBy : Cond.instanceMethod yX6_coveredBy ∈ TB := mT (List.mem_of_getElem? (i := 881) (by decide +kernel)) rfl
theorem cd_X6_coveredBy : Cond.code yX6_coveredBy cX6_coveredBy 5 (some .int) ∈ TB := mT (List.mem_of_getElem? (i := 882) (by decide +kernel)) rfl
theorem ml_L_73 : Cond.methodLink RL 73 yX6_number ∈ TB := mT (List.mem_of_getElem? (i := 883) (by decide +kernel)) rfl
theorem im_X6_number : Cond.instanceMethod yX6_number ∈ TB := mT (List.mem_of_getElem? (i := 884) (by decide +kernel)) rfl
theorem se_X6_number : Cond.selects RX6 yX6_number yX6_number ∈ TB := mT (List.mem_of_getElem? (i := 885) (by decide +kernel)) rfl
theorem cd_X6_number : Cond.code yX6_number cX6_number 3 (some .int) ∈ TB := mT (List.mem_of_getElem? (i := 886) (by decide +kernel)) rfl
theorem ml_X6_182 : Cond.methodLink RX6 182 yX6_numberBy ∈ TB := mT (List.mem_of_getElem? (i := 887) (by decide +kernel)) rfl
theorem im_X6_numberBy : Cond.instanceMethod yX6_numberBy ∈ TB := mT (List.mem_of_getElem? (i := 889) (by decide +kernel)) rfl
theorem cd_X6_numberBy : Cond.code yX6_numberBy cX6_numberBy 3 (some .int) ∈ TB := mT (List.mem_of_getElem? (i := 890) (by decide +kernel)) rfl
theorem ml_X6_179 : Cond.methodLink RX6 179 yX6_isTwo ∈ TB := mT (List.mem_of_getElem? (i := 891) (by decide +kernel)) rfl
theorem st_X6_isTwo : Cond.static yX6_isTwo ∈ TB := mT (List.mem_of_getElem? (i := 892) (by decide +kernel)) rfl
theorem cd_X6_isTwo : Cond.code yX6_isTwo cX6_isTwo 1 (some .boolean) ∈ TB := mT (List.mem_of_getElem? (i := 893) (by decide +kernel)) rfl
theorem ml_L_77 : Cond.methodLink RL 77 yX6_flaws ∈ TB := mT (List.mem_of_getElem? (i := 894) (by decide +kernel)) rfl
theorem im_X6_flaws : Cond.instanceMethod yX6_flaws ∈ TB := mT (List.mem_of_getElem? (i := 895) (by decide +kernel)) rfl
theorem se_X6_flaws : Cond.selects RX6 yX6_flaws yX6_flaws ∈ TB := mT (List.mem_of_getElem? (i := 896) (by decide +kernel)) rfl
theorem cd_X6_flaws : Cond.code yX6_flaws cX6_flaws 2 (some .int) ∈ TB := mT (List.mem_of_getElem? (i := 897) (by decide +kernel)) rfl
theorem ml_X6_185 : Cond.methodLink RX6 185 yX6_flawsOf ∈ TB := mT (List.mem_of_getElem? (i := 898) (by decide +kernel)) rfl
theorem im_X6_flawsOf : Cond.instanceMethod yX6_flawsOf ∈ TB := mT (List.mem_of_getElem? (i := 900) (by decide +kernel)) rfl
theorem cd_X6_flawsOf : Cond.code yX6_flawsOf cX6_flawsOf 3 (some .int) ∈ TB := mT (List.mem_of_getElem? (i := 901) (by decide +kernel)) rfl
theorem ml_L_81 : Cond.methodLink RL 81 yX6_judge ∈ TB := mT (List.mem_of_getElem? (i := 902) (by decide +kernel)) rfl
theorem im_X6_judge : Cond.instanceMethod yX6_judge ∈ TB := mT (List.mem_of_getElem? (i := 903) (by decide +kernel)) rfl
theorem se_X6_judge : Cond.selects RX6 yX6_judge yX6_judge ∈ TB := mT (List.mem_of_getElem? (i := 904) (by decide +kernel)) rfl
theorem cd_X6_judge : Cond.code yX6_judge cX6_judge 3 (some .int) ∈ TB := mT (List.mem_of_getElem? (i := 905) (by decide +kernel)) rfl
theorem ml_X6_216 : Cond.methodLink RX6 216 yX6_judgeBy ∈ TB := mT (List.mem_of_getElem? (i := 906) (by decide +kernel)) rfl
theorem im_X6_judgeBy : Cond.instanceMethod yX6_judgeBy ∈ TB := mT (List.mem_of_getElem? (i := 908) (by decide +kernel)) rfl
theorem cd_X6_judgeBy : Cond.code yX6_judgeBy cX6_judgeBy 3 (some .int) ∈ TB := mT (List.mem_of_getElem? (i := 909) (by decide +kernel)) rfl
theorem ml_X6_207 : Cond.methodLink RX6 207 yX6_verdictOf ∈ TB := mT (List.mem_of_getElem? (i := 910) (by decide +kernel)) rfl
theorem im_X6_verdictOf : Cond.instanceMethod yX6_verdictOf ∈ TB := mT (List.mem_of_getElem? (i := 912) (by decide +kernel)) rfl
theorem cd_X6_verdictOf : Cond.code yX6_verdictOf cX6_verdictOf 4 (some .int) ∈ TB := mT (List.mem_of_getElem? (i := 913) (by decide +kernel)) rfl
theorem ml_X6_201 : Cond.methodLink RX6 201 yX6_sortOf ∈ TB := mT (List.mem_of_getElem? (i := 914) (by decide +kernel)) rfl
theorem im_X6_sortOf : Cond.instanceMethod yX6_sortOf ∈ TB := mT (List.mem_of_getElem? (i := 916) (by decide +kernel)) rfl
theorem cd_X6_sortOf : Cond.code yX6_sortOf cX6_sortOf 10 (some .int) ∈ TB := mT (List.mem_of_getElem? (i := 917) (by decide +kernel)) rfl
theorem ml_X6_191 : Cond.methodLink RX6 191 yX6_kindAt ∈ TB := mT (List.mem_of_getElem? (i := 918) (by decide +kernel)) rfl
theorem im_X6_kindAt : Cond.instanceMethod yX6_kindAt ∈ TB := mT (List.mem_of_getElem? (i := 920) (by decide +kernel)) rfl
theorem cd_X6_kindAt : Cond.code yX6_kindAt cX6_kindAt 2 (some .int) ∈ TB := mT (List.mem_of_getElem? (i := 921) (by decide +kernel)) rfl
theorem ml_X6_194 : Cond.methodLink RX6 194 yX6_isNoteOrNone ∈ TB := mT (List.mem_of_getElem? (i := 922) (by decide +kernel)) rfl
theorem st_X6_isNoteOrNone : Cond.static yX6_isNoteOrNone ∈ TB := mT (List.mem_of_getElem? (i := 923) (by decide +kernel)) rfl
theorem cd_X6_isNoteOrNone : Cond.code yX6_isNoteOrNone cX6_isNoteOrNone 1 (some .boolean) ∈ TB := mT (List.mem_of_getElem? (i := 924) (by decide +kernel)) rfl
theorem ml_X6_197 : Cond.methodLink RX6 197 yX6_isFree ∈ TB := mT (List.mem_of_getElem? (i := 925) (by decide +kernel)) rfl
theorem im_X6_isFree : Cond.instanceMethod yX6_isFree ∈ TB := mT (List.mem_of_getElem? (i := 927) (by decide +kernel)) rfl
theorem cd_X6_isFree : Cond.code yX6_isFree cX6_isFree 6 (some .boolean) ∈ TB := mT (List.mem_of_getElem? (i := 928) (by decide +kernel)) rfl
theorem ml_X6_188 : Cond.methodLink RX6 188 yX6_isIn ∈ TB := mT (List.mem_of_getElem? (i := 929) (by decide +kernel)) rfl
theorem st_X6_isIn : Cond.static yX6_isIn ∈ TB := mT (List.mem_of_getElem? (i := 930) (by decide +kernel)) rfl
theorem cd_X6_isIn : Cond.code yX6_isIn cX6_isIn 2 (some .boolean) ∈ TB := mT (List.mem_of_getElem? (i := 931) (by decide +kernel)) rfl
theorem ml_X6_204 : Cond.methodLink RX6 204 yX6_greater ∈ TB := mT (List.mem_of_getElem? (i := 932) (by decide +kernel)) rfl
theorem st_X6_greater : Cond.static yX6_greater ∈ TB := mT (List.mem_of_getElem? (i := 933) (by decide +kernel)) rfl
theorem cd_X6_greater : Cond.code yX6_greater cX6_greater 2 (some .int) ∈ TB := mT (List.mem_of_getElem? (i := 934) (by decide +kernel)) rfl
theorem ml_X6_210 : Cond.methodLink RX6 210 yX6_manyChanges ∈ TB := mT (List.mem_of_getElem? (i := 935) (by decide +kernel)) rfl
theorem im_X6_manyChanges : Cond.instanceMethod yX6_manyChanges ∈ TB := mT (List.mem_of_getElem? (i := 937) (by decide +kernel)) rfl
theorem cd_X6_manyChanges : Cond.code yX6_manyChanges cX6_manyChanges 5 (some .int) ∈ TB := mT (List.mem_of_getElem? (i := 938) (by decide +kernel)) rfl
theorem ml_X6_213 : Cond.methodLink RX6 213 yX6_isHolding ∈ TB := mT (List.mem_of_getElem? (i := 939) (by decide +kernel)) rfl
theorem im_X6_isHolding : Cond.instanceMethod yX6_isHolding ∈ TB := mT (List.mem_of_getElem? (i := 941) (by decide +kernel)) rfl
theorem cd_X6_isHolding : Cond.code yX6_isHolding cX6_isHolding 3 (some .boolean) ∈ TB := mT (List.mem_of_getElem? (i := 942) (by decide +kernel)) rfl
theorem ml_L_85 : Cond.methodLink RL 85 yX6_change ∈ TB := mT (List.mem_of_getElem? (i := 943) (by decide +kernel)) rfl
theorem im_X6_change : Cond.instanceMethod yX6_change ∈ TB := mT (List.mem_of_getElem? (i := 944) (by decide +kernel)) rfl
theorem se_X6_change : Cond.selects RX6 yX6_change yX6_change ∈ TB := mT (List.mem_of_getElem? (i := 945) (by decide +kernel)) rfl
theorem cd_X6_change : Cond.code yX6_change cX6_change 4 (some .int) ∈ TB := mT (List.mem_of_getElem? (i := 946) (by decide +kernel)) rfl
theorem kl_X6_219 : Cond.constantLong RX6 219 (99) ∈ TB := mT (List.mem_of_getElem? (i := 947) (by decide +kernel)) rfl
theorem ml_X6_221 : Cond.methodLink RX6 221 yX6_changeBy ∈ TB := mT (List.mem_of_getElem? (i := 948) (by decide +kernel)) rfl
theorem im_X6_changeBy : Cond.instanceMethod yX6_changeBy ∈ TB := mT (List.mem_of_getElem? (i := 950) (by decide +kernel)) rfl
theorem cd_X6_changeBy : Cond.code yX6_changeBy cX6_changeBy 7 (some .int) ∈ TB := mT (List.mem_of_getElem? (i := 951) (by decide +kernel)) rfl
theorem ml_L_89 : Cond.methodLink RL 89 yX6_allowed ∈ TB := mT (List.mem_of_getElem? (i := 952) (by decide +kernel)) rfl
theorem im_X6_allowed : Cond.instanceMethod yX6_allowed ∈ TB := mT (List.mem_of_getElem? (i := 953) (by decide +kernel)) rfl
theorem se_X6_allowed : Cond.selects RX6 yX6_allowed yX6_allowed ∈ TB := mT (List.mem_of_getElem? (i := 954) (by decide +kernel)) rfl
theorem cd_X6_allowed : Cond.code yX6_allowed cX6_allowed 2 (some .int) ∈ TB := mT (List.mem_of_getElem? (i := 955) (by decide +kernel)) rfl
theorem ml_X6_224 : Cond.methodLink RX6 224 yX6_allowedIn ∈ TB := mT (List.mem_of_getElem? (i := 956) (by decide +kernel)) rfl
theorem im_X6_allowedIn : Cond.instanceMethod yX6_allowedIn ∈ TB := mT (List.mem_of_getElem? (i := 958) (by decide +kernel)) rfl
theorem cd_X6_allowedIn : Cond.code yX6_allowedIn cX6_allowedIn 4 (some .int) ∈ TB := mT (List.mem_of_getElem? (i := 959) (by decide +kernel)) rfl
theorem ml_L_93 : Cond.methodLink RL 93 yX6_first ∈ TB := mT (List.mem_of_getElem? (i := 960) (by decide +kernel)) rfl
theorem im_X6_first : Cond.instanceMethod yX6_first ∈ TB := mT (List.mem_of_getElem? (i := 961) (by decide +kernel)) rfl
theorem se_X6_first : Cond.selects RX6 yX6_first yX6_first ∈ TB := mT (List.mem_of_getElem? (i := 962) (by decide +kernel)) rfl
theorem cd_X6_first : Cond.code yX6_first cX6_first 2 (some .int) ∈ TB := mT (List.mem_of_getElem? (i := 963) (by decide +kernel)) rfl
theorem ml_X6_227 : Cond.methodLink RX6 227 yX6_firstBy ∈ TB := mT (List.mem_of_getElem? (i := 964) (by decide +kernel)) rfl
theorem im_X6_firstBy : Cond.instanceMethod yX6_firstBy ∈ TB := mT (List.mem_of_getElem? (i := 966) (by decide +kernel)) rfl
theorem cd_X6_firstBy : Cond.code yX6_firstBy cX6_firstBy 4 (some .int) ∈ TB := mT (List.mem_of_getElem? (i := 967) (by decide +kernel)) rfl
theorem ml_L_97 : Cond.methodLink RL 97 yX6_holding ∈ TB := mT (List.mem_of_getElem? (i := 968) (by decide +kernel)) rfl
theorem im_X6_holding : Cond.instanceMethod yX6_holding ∈ TB := mT (List.mem_of_getElem? (i := 969) (by decide +kernel)) rfl
theorem se_X6_holding : Cond.selects RX6 yX6_holding yX6_holding ∈ TB := mT (List.mem_of_getElem? (i := 970) (by decide +kernel)) rfl
theorem cd_X6_holding : Cond.code yX6_holding cX6_holding 2 (some .int) ∈ TB := mT (List.mem_of_getElem? (i := 971) (by decide +kernel)) rfl
theorem ml_X6_239 : Cond.methodLink RX6 239 yX6_holdingBy ∈ TB := mT (List.mem_of_getElem? (i := 972) (by decide +kernel)) rfl
theorem im_X6_holdingBy : Cond.instanceMethod yX6_holdingBy ∈ TB := mT (List.mem_of_getElem? (i := 974) (by decide +kernel)) rfl
theorem cd_X6_holdingBy : Cond.code yX6_holdingBy cX6_holdingBy 2 (some .int) ∈ TB := mT (List.mem_of_getElem? (i := 975) (by decide +kernel)) rfl
theorem ml_X6_230 : Cond.methodLink RX6 230 yX6_looks ∈ TB := mT (List.mem_of_getElem? (i := 976) (by decide +kernel)) rfl
theorem im_X6_looks : Cond.instanceMethod yX6_looks ∈ TB := mT (List.mem_of_getElem? (i := 978) (by decide +kernel)) rfl
theorem cd_X6_looks : Cond.code yX6_looks cX6_looks 2 none ∈ TB := mT (List.mem_of_getElem? (i := 979) (by decide +kernel)) rfl
theorem ml_X6_233 : Cond.methodLink RX6 233 yX6_manyHold ∈ TB := mT (List.mem_of_getElem? (i := 980) (by decide +kernel)) rfl
theorem im_X6_manyHold : Cond.instanceMethod yX6_manyHold ∈ TB := mT (List.mem_of_getElem? (i := 982) (by decide +kernel)) rfl
theorem cd_X6_manyHold : Cond.code yX6_manyHold cX6_manyHold 3 (some .int) ∈ TB := mT (List.mem_of_getElem? (i := 983) (by decide +kernel)) rfl
theorem ml_X6_236 : Cond.methodLink RX6 236 yX6_manySeals ∈ TB := mT (List.mem_of_getElem? (i := 984) (by decide +kernel)) rfl
theorem im_X6_manySeals : Cond.instanceMethod yX6_manySeals ∈ TB := mT (List.mem_of_getElem? (i := 986) (by decide +kernel)) rfl
theorem cd_X6_manySeals : Cond.code yX6_manySeals cX6_manySeals 3 (some .int) ∈ TB := mT (List.mem_of_getElem? (i := 987) (by decide +kernel)) rfl
theorem ml_L_101 : Cond.methodLink RL 101 yX6_better ∈ TB := mT (List.mem_of_getElem? (i := 988) (by decide +kernel)) rfl
theorem im_X6_better : Cond.instanceMethod yX6_better ∈ TB := mT (List.mem_of_getElem? (i := 989) (by decide +kernel)) rfl
theorem se_X6_better : Cond.selects RX6 yX6_better yX6_better ∈ TB := mT (List.mem_of_getElem? (i := 990) (by decide +kernel)) rfl
theorem cd_X6_better : Cond.code yX6_better cX6_better 2 (some .int) ∈ TB := mT (List.mem_of_getElem? (i := 991) (by decide +kernel)) rfl
theorem ml_X6_242 : Cond.methodLink RX6 242 yX6_betterBy ∈ TB := mT (List.mem_of_getElem? (i := 992) (by decide +kernel)) rfl
theorem im_X6_betterBy : Cond.instanceMethod yX6_betterBy ∈ TB := mT (List.mem_of_getElem? (i := 994) (by decide +kernel)) rfl
theorem cd_X6_betterBy : Cond.code yX6_betterBy cX6_betterBy 6 (some .int) ∈ TB := mT (List.mem_of_getElem? (i := 995) (by decide +kernel)) rfl
theorem ml_L_126 : Cond.methodLink RL 126 yX6_tell ∈ TB := mT (List.mem_of_getElem? (i := 996) (by decide +kernel)) rfl
theorem im_X6_tell : Cond.instanceMethod yX6_tell ∈ TB := mT (List.mem_of_getElem? (i := 997) (by decide +kernel)) rfl
theorem se_X6_tell : Cond.selects RX6 yX6_tell yX6_tell ∈ TB := mT (List.mem_of_getElem? (i := 998) (by decide +kernel)) rfl
theorem cd_X6_tell : Cond.code yX6_tell cX6_tell 5 (some .int) ∈ TB := mT (List.mem_of_getElem? (i := 999) (by decide +kernel)) rfl
theorem ml_L_130 : Cond.methodLink RL 130 yX6_count ∈ TB := mT (List.mem_of_getElem? (i := 1000) (by decide +kernel)) rfl
theorem im_X6_count : Cond.instanceMethod yX6_count ∈ TB := mT (List.mem_of_getElem? (i := 1001) (by decide +kernel)) rfl
theorem se_X6_count : Cond.selects RX6 yX6_count yX6_count ∈ TB := mT (List.mem_of_getElem? (i := 1002) (by decide +kernel)) rfl
theorem cd_X6_count : Cond.code yX6_count cX6_count 2 (some .int) ∈ TB := mT (List.mem_of_getElem? (i := 1003) (by decide +kernel)) rfl
theorem ml_X6_245 : Cond.methodLink RX6 245 yX6_manyThere ∈ TB := mT (List.mem_of_getElem? (i := 1004) (by decide +kernel)) rfl
theorem im_X6_manyThere : Cond.instanceMethod yX6_manyThere ∈ TB := mT (List.mem_of_getElem? (i := 1006) (by decide +kernel)) rfl
theorem cd_X6_manyThere : Cond.code yX6_manyThere cX6_manyThere 3 (some .int) ∈ TB := mT (List.mem_of_getElem? (i := 1007) (by decide +kernel)) rfl
theorem ml_X6_248 : Cond.methodLink RX6 248 yX6_manyShadowed ∈ TB := mT (List.mem_of_getElem? (i := 1008) (by decide +kernel)) rfl
theorem im_X6_manyShadowed : Cond.instanceMethod yX6_manyShadowed ∈ TB := mT (List.mem_of_getElem? (i := 1010) (by decide +kernel)) rfl
theorem cd_X6_manyShadowed : Cond.code yX6_manyShadowed cX6_manyShadowed 3 (some .int) ∈ TB := mT (List.mem_of_getElem? (i := 1011) (by decide +kernel)) rfl
theorem ml_L_135 : Cond.methodLink RL 135 yX6_digest ∈ TB := mT (List.mem_of_getElem? (i := 1012) (by decide +kernel)) rfl
theorem im_X6_digest : Cond.instanceMethod yX6_digest ∈ TB := mT (List.mem_of_getElem? (i := 1013) (by decide +kernel)) rfl
theorem se_X6_digest : Cond.selects RX6 yX6_digest yX6_digest ∈ TB := mT (List.mem_of_getElem? (i := 1014) (by decide +kernel)) rfl
theorem cd_X6_digest : Cond.code yX6_digest cX6_digest 5 (some .long) ∈ TB := mT (List.mem_of_getElem? (i := 1015) (by decide +kernel)) rfl
theorem kl_X6_268 : Cond.constantLong RX6 268 (17) ∈ TB := mT (List.mem_of_getElem? (i := 1016) (by decide +kernel)) rfl
theorem kl_X6_251 : Cond.constantLong RX6 251 (31) ∈ TB := mT (List.mem_of_getElem? (i := 1017) (by decide +kernel)) rfl
theorem ml_X6_270 : Cond.methodLink RX6 270 yX6_count ∈ TB := mT (List.mem_of_getElem? (i := 1018) (by decide +kernel)) rfl
theorem ml_X6_273 : Cond.methodLink RX6 273 yX6_revision ∈ TB := mT (List.mem_of_getElem? (i := 1019) (by decide +kernel)) rfl
theorem ml_X6_275 : Cond.methodLink RX6 275 yX6_shadows ∈ TB := mT (List.mem_of_getElem? (i := 1020) (by decide +kernel)) rfl
theorem ml_X6_278 : Cond.methodLink RX6 278 yX6_allowed ∈ TB := mT (List.mem_of_getElem? (i := 1021) (by decide +kernel)) rfl
theorem ml_X6_281 : Cond.methodLink RX6 281 yX6_thing ∈ TB := mT (List.mem_of_getElem? (i := 1022) (by decide +kernel)) rfl
theorem ml_X6_283 : Cond.methodLink RX6 283 yX6_tellsWrite ∈ TB := mT (List.mem_of_getElem? (i := 1023) (by decide +kernel)) rfl
theorem im_X6_tellsWrite : Cond.instanceMethod yX6_tellsWrite ∈ TB := mT (List.mem_of_getElem? (i := 1025) (by decide +kernel)) rfl
theorem cd_X6_tellsWrite : Cond.code yX6_tellsWrite cX6_tellsWrite 8 (some .long) ∈ TB := mT (List.mem_of_getElem? (i := 1026) (by decide +kernel)) rfl
theorem ml_X6_253 : Cond.methodLink RX6 253 yX6_covers ∈ TB := mT (List.mem_of_getElem? (i := 1027) (by decide +kernel)) rfl
theorem ml_X6_256 : Cond.methodLink RX6 256 yX6_covered ∈ TB := mT (List.mem_of_getElem? (i := 1028) (by decide +kernel)) rfl
theorem ml_X6_259 : Cond.methodLink RX6 259 yX6_flaws ∈ TB := mT (List.mem_of_getElem? (i := 1029) (by decide +kernel)) rfl
theorem ml_X6_262 : Cond.methodLink RX6 262 yX6_judge ∈ TB := mT (List.mem_of_getElem? (i := 1030) (by decide +kernel)) rfl
theorem ml_X6_265 : Cond.methodLink RX6 265 yX6_change ∈ TB := mT (List.mem_of_getElem? (i := 1031) (by decide +kernel)) rfl
theorem ml_X6_287 : Cond.methodLink RX6 287 yX6_bytes ∈ TB := mT (List.mem_of_getElem? (i := 1032) (by decide +kernel)) rfl
theorem se_X2_startRow : Cond.selects RX2 yX2_startRow yX2_startRow ∈ TB := mS (List.mem_of_getElem? (i := 0) (by decide +kernel)) rfl
theorem se_X2_takeWrites : Cond.selects RX2 yX2_takeWrites yX2_takeWrites ∈ TB := mS (List.mem_of_getElem? (i := 1) (by decide +kernel)) rfl
theorem se_X2_thingsThere : Cond.selects RX2 yX2_thingsThere yX2_thingsThere ∈ TB := mS (List.mem_of_getElem? (i := 2) (by decide +kernel)) rfl
theorem se_X2_noteChanges : Cond.selects RX2 yX2_noteChanges yX2_noteChanges ∈ TB := mS (List.mem_of_getElem? (i := 3) (by decide +kernel)) rfl
theorem se_X2_isOther : Cond.selects RX2 yX2_isOther yX2_isOther ∈ TB := mS (List.mem_of_getElem? (i := 4) (by decide +kernel)) rfl
theorem se_X2_judgeBehind : Cond.selects RX2 yX2_judgeBehind yX2_judgeBehind ∈ TB := mS (List.mem_of_getElem? (i := 5) (by decide +kernel)) rfl
theorem se_X5_takeWrite : Cond.selects RX5 yX5_takeWrite yX5_takeWrite ∈ TB := mS (List.mem_of_getElem? (i := 6) (by decide +kernel)) rfl
theorem se_X5_reckon : Cond.selects RX5 yX5_reckon yX5_reckon ∈ TB := mS (List.mem_of_getElem? (i := 7) (by decide +kernel)) rfl
theorem se_X1_numberNow : Cond.selects RX1 yX1_numberNow yX1_numberNow ∈ TB := mS (List.mem_of_getElem? (i := 8) (by decide +kernel)) rfl
theorem se_X1_edgeIfUntold : Cond.selects RX1 yX1_edgeIfUntold yX1_edgeIfUntold ∈ TB := mS (List.mem_of_getElem? (i := 9) (by decide +kernel)) rfl
theorem se_X1_flawsOfEdges : Cond.selects RX1 yX1_flawsOfEdges yX1_flawsOfEdges ∈ TB := mS (List.mem_of_getElem? (i := 10) (by decide +kernel)) rfl
theorem se_X5_find : Cond.selects RX5 yX5_find yX5_find ∈ TB := mS (List.mem_of_getElem? (i := 11) (by decide +kernel)) rfl
theorem se_X5_holds : Cond.selects RX5 yX5_holds yX5_holds ∈ TB := mS (List.mem_of_getElem? (i := 12) (by decide +kernel)) rfl
theorem se_X5_firstSealAgainst : Cond.selects RX5 yX5_firstSealAgainst yX5_firstSealAgainst ∈ TB := mS (List.mem_of_getElem? (i := 13) (by decide +kernel)) rfl
theorem se_X5_howManyHold : Cond.selects RX5 yX5_howManyHold yX5_howManyHold ∈ TB := mS (List.mem_of_getElem? (i := 14) (by decide +kernel)) rfl
theorem se_X5_howManyClosedSeals : Cond.selects RX5 yX5_howManyClosedSeals yX5_howManyClosedSeals ∈ TB := mS (List.mem_of_getElem? (i := 15) (by decide +kernel)) rfl
theorem se_X5_howManyShadowed : Cond.selects RX5 yX5_howManyShadowed yX5_howManyShadowed ∈ TB := mS (List.mem_of_getElem? (i := 16) (by decide +kernel)) rfl
theorem se_X5_digestRevision : Cond.selects RX5 yX5_digestRevision yX5_digestRevision ∈ TB := mS (List.mem_of_getElem? (i := 17) (by decide +kernel)) rfl
theorem se_X5_digestThing : Cond.selects RX5 yX5_digestThing yX5_digestThing ∈ TB := mS (List.mem_of_getElem? (i := 18) (by decide +kernel)) rfl
theorem se_X5_digestWrite : Cond.selects RX5 yX5_digestWrite yX5_digestWrite ∈ TB := mS (List.mem_of_getElem? (i := 19) (by decide +kernel)) rfl
theorem se_X5_digestChanges : Cond.selects RX5 yX5_digestChanges yX5_digestChanges ∈ TB := mS (List.mem_of_getElem? (i := 20) (by decide +kernel)) rfl
theorem se_X5_digestFile : Cond.selects RX5 yX5_digestFile yX5_digestFile ∈ TB := mS (List.mem_of_getElem? (i := 21) (by decide +kernel)) rfl
theorem se_X6_finds : Cond.selects RX6 yX6_finds yX6_finds ∈ TB := mS (List.mem_of_getElem? (i := 22) (by decide +kernel)) rfl
theorem se_X6_lacks : Cond.selects RX6 yX6_lacks yX6_lacks ∈ TB := mS (List.mem_of_getElem? (i := 23) (by decide +kernel)) rfl
theorem se_X6_manyOf : Cond.selects RX6 yX6_manyOf yX6_manyOf ∈ TB := mS (List.mem_of_getElem? (i := 24) (by decide +kernel)) rfl
theorem se_X6_numberOf : Cond.selects RX6 yX6_numberOf yX6_numberOf ∈ TB := mS (List.mem_of_getElem? (i := 25) (by decide +kernel)) rfl
theorem se_X6_coverOf : Cond.selects RX6 yX6_coverOf yX6_coverOf ∈ TB := mS (List.mem_of_getElem? (i := 26) (by decide +kernel)) rfl
theorem se_X6_usual : Cond.selects RX6 yX6_usual yX6_usual ∈ TB := mS (List.mem_of_getElem? (i := 27) (by decide +kernel)) rfl
theorem se_X6_placeOf : Cond.selects RX6 yX6_placeOf yX6_placeOf ∈ TB := mS (List.mem_of_getElem? (i := 28) (by decide +kernel)) rfl
theorem se_X6_endOf : Cond.selects RX6 yX6_endOf yX6_endOf ∈ TB := mS (List.mem_of_getElem? (i := 29) (by decide +kernel)) rfl
theorem se_X6_beginOf : Cond.selects RX6 yX6_beginOf yX6_beginOf ∈ TB := mS (List.mem_of_getElem? (i := 30) (by decide +kernel)) rfl
theorem se_X6_firstOf : Cond.selects RX6 yX6_firstOf yX6_firstOf ∈ TB := mS (List.mem_of_getElem? (i := 31) (by decide +kernel)) rfl
theorem se_X6_allBytes : Cond.selects RX6 yX6_allBytes yX6_allBytes ∈ TB := mS (List.mem_of_getElem? (i := 32) (by decide +kernel)) rfl
theorem se_X6_byteAt : Cond.selects RX6 yX6_byteAt yX6_byteAt ∈ TB := mS (List.mem_of_getElem? (i := 33) (by decide +kernel)) rfl
theorem se_X6_byteOf : Cond.selects RX6 yX6_byteOf yX6_byteOf ∈ TB := mS (List.mem_of_getElem? (i := 34) (by decide +kernel)) rfl
theorem se_X6_isWrite : Cond.selects RX6 yX6_isWrite yX6_isWrite ∈ TB := mS (List.mem_of_getElem? (i := 35) (by decide +kernel)) rfl
theorem se_X6_isSeal : Cond.selects RX6 yX6_isSeal yX6_isSeal ∈ TB := mS (List.mem_of_getElem? (i := 36) (by decide +kernel)) rfl
theorem se_X6_isClosed : Cond.selects RX6 yX6_isClosed yX6_isClosed ∈ TB := mS (List.mem_of_getElem? (i := 37) (by decide +kernel)) rfl
theorem se_X6_writeBy : Cond.selects RX6 yX6_writeBy yX6_writeBy ∈ TB := mS (List.mem_of_getElem? (i := 38) (by decide +kernel)) rfl
theorem se_X6_isRevision : Cond.selects RX6 yX6_isRevision yX6_isRevision ∈ TB := mS (List.mem_of_getElem? (i := 39) (by decide +kernel)) rfl
theorem se_X6_revisionBy : Cond.selects RX6 yX6_revisionBy yX6_revisionBy ∈ TB := mS (List.mem_of_getElem? (i := 40) (by decide +kernel)) rfl
theorem se_X6_thingBy : Cond.selects RX6 yX6_thingBy yX6_thingBy ∈ TB := mS (List.mem_of_getElem? (i := 41) (by decide +kernel)) rfl
theorem se_X6_lastOf : Cond.selects RX6 yX6_lastOf yX6_lastOf ∈ TB := mS (List.mem_of_getElem? (i := 42) (by decide +kernel)) rfl
theorem se_X6_shadowsIn : Cond.selects RX6 yX6_shadowsIn yX6_shadowsIn ∈ TB := mS (List.mem_of_getElem? (i := 43) (by decide +kernel)) rfl
theorem se_X6_isShadowed : Cond.selects RX6 yX6_isShadowed yX6_isShadowed ∈ TB := mS (List.mem_of_getElem? (i := 44) (by decide +kernel)) rfl
theorem se_X6_coveredBy : Cond.selects RX6 yX6_coveredBy yX6_coveredBy ∈ TB := mS (List.mem_of_getElem? (i := 45) (by decide +kernel)) rfl
theorem se_X6_numberBy : Cond.selects RX6 yX6_numberBy yX6_numberBy ∈ TB := mS (List.mem_of_getElem? (i := 46) (by decide +kernel)) rfl
theorem se_X6_flawsOf : Cond.selects RX6 yX6_flawsOf yX6_flawsOf ∈ TB := mS (List.mem_of_getElem? (i := 47) (by decide +kernel)) rfl
theorem se_X6_judgeBy : Cond.selects RX6 yX6_judgeBy yX6_judgeBy ∈ TB := mS (List.mem_of_getElem? (i := 48) (by decide +kernel)) rfl
theorem se_X6_verdictOf : Cond.selects RX6 yX6_verdictOf yX6_verdictOf ∈ TB := mS (List.mem_of_getElem? (i := 49) (by decide +kernel)) rfl
theorem se_X6_sortOf : Cond.selects RX6 yX6_sortOf yX6_sortOf ∈ TB := mS (List.mem_of_getElem? (i := 50) (by decide +kernel)) rfl
theorem se_X6_kindAt : Cond.selects RX6 yX6_kindAt yX6_kindAt ∈ TB := mS (List.mem_of_getElem? (i := 51) (by decide +kernel)) rfl
theorem se_X6_isFree : Cond.selects RX6 yX6_isFree yX6_isFree ∈ TB := mS (List.mem_of_getElem? (i := 52) (by decide +kernel)) rfl
theorem se_X6_manyChanges : Cond.selects RX6 yX6_manyChanges yX6_manyChanges ∈ TB := mS (List.mem_of_getElem? (i := 53) (by decide +kernel)) rfl
theorem se_X6_isHolding : Cond.selects RX6 yX6_isHolding yX6_isHolding ∈ TB := mS (List.mem_of_getElem? (i := 54) (by decide +kernel)) rfl
theorem se_X6_changeBy : Cond.selects RX6 yX6_changeBy yX6_changeBy ∈ TB := mS (List.mem_of_getElem? (i := 55) (by decide +kernel)) rfl
theorem se_X6_allowedIn : Cond.selects RX6 yX6_allowedIn yX6_allowedIn ∈ TB := mS (List.mem_of_getElem? (i := 56) (by decide +kernel)) rfl
theorem se_X6_firstBy : Cond.selects RX6 yX6_firstBy yX6_firstBy ∈ TB := mS (List.mem_of_getElem? (i := 57) (by decide +kernel)) rfl
theorem se_X6_holdingBy : Cond.selects RX6 yX6_holdingBy yX6_holdingBy ∈ TB := mS (List.mem_of_getElem? (i := 58) (by decide +kernel)) rfl
theorem se_X6_looks : Cond.selects RX6 yX6_looks yX6_looks ∈ TB := mS (List.mem_of_getElem? (i := 59) (by decide +kernel)) rfl
theorem se_X6_manyHold : Cond.selects RX6 yX6_manyHold yX6_manyHold ∈ TB := mS (List.mem_of_getElem? (i := 60) (by decide +kernel)) rfl
theorem se_X6_manySeals : Cond.selects RX6 yX6_manySeals yX6_manySeals ∈ TB := mS (List.mem_of_getElem? (i := 61) (by decide +kernel)) rfl
theorem se_X6_betterBy : Cond.selects RX6 yX6_betterBy yX6_betterBy ∈ TB := mS (List.mem_of_getElem? (i := 62) (by decide +kernel)) rfl
theorem se_X6_manyThere : Cond.selects RX6 yX6_manyThere yX6_manyThere ∈ TB := mS (List.mem_of_getElem? (i := 63) (by decide +kernel)) rfl
theorem se_X6_manyShadowed : Cond.selects RX6 yX6_manyShadowed yX6_manyShadowed ∈ TB := mS (List.mem_of_getElem? (i := 64) (by decide +kernel)) rfl
theorem se_X6_tellsWrite : Cond.selects RX6 yX6_tellsWrite yX6_tellsWrite ∈ TB := mS (List.mem_of_getElem? (i := 65) (by decide +kernel)) rfl
theorem ly_X0_0 : u_lay RX0 TX0 0 ∈ TB := mT (List.mem_of_getElem? (i := 73) (by decide +kernel)) rfl
theorem ly_X0_1 : u_lay RX0 TX0 1 ∈ TB := mT (List.mem_of_getElem? (i := 75) (by decide +kernel)) rfl
theorem inX0 : ∀ w ∈ u_ws RX0 TX0 2, w ∈ TB := by
  intro w h
  obtain ⟨k, hk, rfl⟩ := List.mem_map.mp h
  have hk := List.mem_range.mp hk
  match k, hk with
  | 0, _ => exact ly_X0_0
  | 1, _ => exact ly_X0_1
  | k + 2, h => exact absurd h (by omega)
theorem ly_X1_0 : u_lay RX1 TX1 0 ∈ TB := mT (List.mem_of_getElem? (i := 94) (by decide +kernel)) rfl
theorem ly_X1_1 : u_lay RX1 TX1 1 ∈ TB := mT (List.mem_of_getElem? (i := 96) (by decide +kernel)) rfl
theorem ly_X1_2 : u_lay RX1 TX1 2 ∈ TB := mT (List.mem_of_getElem? (i := 98) (by decide +kernel)) rfl
theorem ly_X1_3 : u_lay RX1 TX1 3 ∈ TB := mT (List.mem_of_getElem? (i := 100) (by decide +kernel)) rfl
theorem ly_X1_4 : u_lay RX1 TX1 4 ∈ TB := mT (List.mem_of_getElem? (i := 102) (by decide +kernel)) rfl
theorem ly_X1_5 : u_lay RX1 TX1 5 ∈ TB := mT (List.mem_of_getElem? (i := 104) (by decide +kernel)) rfl
theorem ly_X1_6 : u_lay RX1 TX1 6 ∈ TB := mT (List.mem_of_getElem? (i := 106) (by decide +kernel)) rfl
theorem inX1 : ∀ w ∈ u_ws RX1 TX1 7, w ∈ TB := by
  intro w h
  obtain ⟨k, hk, rfl⟩ := List.mem_map.mp h
  have hk := List.mem_range.mp hk
  match k, hk with
  | 0, _ => exact ly_X1_0
  | 1, _ => exact ly_X1_1
  | 2, _ => exact ly_X1_2
  | 3, _ => exact ly_X1_3
  | 4, _ => exact ly_X1_4
  | 5, _ => exact ly_X1_5
  | 6, _ => exact ly_X1_6
  | k + 7, h => exact absurd h (by omega)
theorem ly_X2_0 : u_lay RX2 TX2 0 ∈ TB := mT (List.mem_of_getElem? (i := 134) (by decide +kernel)) rfl
theorem ly_X2_1 : u_lay RX2 TX2 1 ∈ TB := mT (List.mem_of_getElem? (i := 136) (by decide +kernel)) rfl
theorem ly_X2_2 : u_lay RX2 TX2 2 ∈ TB := mT (List.mem_of_getElem? (i := 138) (by decide +kernel)) rfl
theorem ly_X2_3 : u_lay RX2 TX2 3 ∈ TB := mT (List.mem_of_getElem? (i := 140) (by decide +kernel)) rfl
theorem ly_X2_4 : u_lay RX2 TX2 4 ∈ TB := mT (List.mem_of_getElem? (i := 142) (by decide +kernel)) rfl
theorem ly_X2_5 : u_lay RX2 TX2 5 ∈ TB := mT (List.mem_of_getElem? (i := 144) (by decide +kernel)) rfl
theorem ly_X2_6 : u_lay RX2 TX2 6 ∈ TB := mT (List.mem_of_getElem? (i := 146) (by decide +kernel)) rfl
theorem ly_X2_7 : u_lay RX2 TX2 7 ∈ TB := mT (List.mem_of_getElem? (i := 148) (by decide +kernel)) rfl
theorem ly_X2_8 : u_lay RX2 TX2 8 ∈ TB := mT (List.mem_of_getElem? (i := 150) (by decide +kernel)) rfl
theorem ly_X2_9 : u_lay RX2 TX2 9 ∈ TB := mT (List.mem_of_getElem? (i := 152) (by decide +kernel)) rfl
theorem inX2 : ∀ w ∈ u_ws RX2 TX2 10, w ∈ TB := by
  intro w h
  obtain ⟨k, hk, rfl⟩ := List.mem_map.mp h
  have hk := List.mem_range.mp hk
  match k, hk with
  | 0, _ => exact ly_X2_0
  | 1, _ => exact ly_X2_1
  | 2, _ => exact ly_X2_2
  | 3, _ => exact ly_X2_3
  | 4, _ => exact ly_X2_4
  | 5, _ => exact ly_X2_5
  | 6, _ => exact ly_X2_6
  | 7, _ => exact ly_X2_7
  | 8, _ => exact ly_X2_8
  | 9, _ => exact ly_X2_9
  | k + 10, h => exact absurd h (by omega)
theorem ly_X3_0 : u_lay RX3 TX3 0 ∈ TB := mT (List.mem_of_getElem? (i := 170) (by decide +kernel)) rfl
theorem ly_X3_1 : u_lay RX3 TX3 1 ∈ TB := mT (List.mem_of_getElem? (i := 172) (by decide +kernel)) rfl
theorem ly_X3_2 : u_lay RX3 TX3 2 ∈ TB := mT (List.mem_of_getElem? (i := 174) (by decide +kernel)) rfl
theorem ly_X3_3 : u_lay RX3 TX3 3 ∈ TB := mT (List.mem_of_getElem? (i := 176) (by decide +kernel)) rfl
theorem inX3 : ∀ w ∈ u_ws RX3 TX3 4, w ∈ TB := by
  intro w h
  obtain ⟨k, hk, rfl⟩ := List.mem_map.mp h
  have hk := List.mem_range.mp hk
  match k, hk with
  | 0, _ => exact ly_X3_0
  | 1, _ => exact ly_X3_1
  | 2, _ => exact ly_X3_2
  | 3, _ => exact ly_X3_3
  | k + 4, h => exact absurd h (by omega)
theorem ly_X4_0 : u_lay RX4 TX4 0 ∈ TB := mT (List.mem_of_getElem? (i := 47) (by decide +kernel)) rfl
theorem ly_X4_1 : u_lay RX4 TX4 1 ∈ TB := mT (List.mem_of_getElem? (i := 49) (by decide +kernel)) rfl
theorem ly_X4_2 : u_lay RX4 TX4 2 ∈ TB := mT (List.mem_of_getElem? (i := 51) (by decide +kernel)) rfl
theorem ly_X4_3 : u_lay RX4 TX4 3 ∈ TB := mT (List.mem_of_getElem? (i := 53) (by decide +kernel)) rfl
theorem ly_X4_4 : u_lay RX4 TX4 4 ∈ TB := mT (List.mem_of_getElem? (i := 55) (by decide +kernel)) rfl
theorem ly_X4_5 : u_lay RX4 TX4 5 ∈ TB := mT (List.mem_of_getElem? (i := 57) (by decide +kernel)) rfl
theorem ly_X4_6 : u_lay RX4 TX4 6 ∈ TB := mT (List.mem_of_getElem? (i := 59) (by decide +kernel)) rfl
theorem inX4 : ∀ w ∈ u_ws RX4 TX4 7, w ∈ TB := by
  intro w h
  obtain ⟨k, hk, rfl⟩ := List.mem_map.mp h
  have hk := List.mem_range.mp hk
  match k, hk with
  | 0, _ => exact ly_X4_0
  | 1, _ => exact ly_X4_1
  | 2, _ => exact ly_X4_2
  | 3, _ => exact ly_X4_3
  | 4, _ => exact ly_X4_4
  | 5, _ => exact ly_X4_5
  | 6, _ => exact ly_X4_6
  | k + 7, h => exact absurd h (by omega)
theorem ly_X5_0 : u_lay RX5 TX5 0 ∈ TB := mT (List.mem_of_getElem? (i := 255) (by decide +kernel)) rfl
theorem ly_X5_1 : u_lay RX5 TX5 1 ∈ TB := mT (List.mem_of_getElem? (i := 257) (by decide +kernel)) rfl
theorem ly_X5_2 : u_lay RX5 TX5 2 ∈ TB := mT (List.mem_of_getElem? (i := 259) (by decide +kernel)) rfl
theorem ly_X5_3 : u_lay RX5 TX5 3 ∈ TB := mT (List.mem_of_getElem? (i := 261) (by decide +kernel)) rfl
theorem ly_X5_4 : u_lay RX5 TX5 4 ∈ TB := mT (List.mem_of_getElem? (i := 263) (by decide +kernel)) rfl
theorem ly_X5_5 : u_lay RX5 TX5 5 ∈ TB := mT (List.mem_of_getElem? (i := 265) (by decide +kernel)) rfl
theorem ly_X5_6 : u_lay RX5 TX5 6 ∈ TB := mT (List.mem_of_getElem? (i := 267) (by decide +kernel)) rfl
theorem inX5 : ∀ w ∈ u_ws RX5 TX5 7, w ∈ TB := by
  intro w h
  obtain ⟨k, hk, rfl⟩ := List.mem_map.mp h
  have hk := List.mem_range.mp hk
  match k, hk with
  | 0, _ => exact ly_X5_0
  | 1, _ => exact ly_X5_1
  | 2, _ => exact ly_X5_2
  | 3, _ => exact ly_X5_3
  | 4, _ => exact ly_X5_4
  | 5, _ => exact ly_X5_5
  | 6, _ => exact ly_X5_6
  | k + 7, h => exact absurd h (by omega)
theorem ly_X6_0 : u_lay RX6 TX6 0 ∈ TB := mT (List.mem_of_getElem? (i := 652) (by decide +kernel)) rfl
theorem ly_X6_1 : u_lay RX6 TX6 1 ∈ TB := mT (List.mem_of_getElem? (i := 654) (by decide +kernel)) rfl
theorem ly_X6_2 : u_lay RX6 TX6 2 ∈ TB := mT (List.mem_of_getElem? (i := 656) (by decide +kernel)) rfl
theorem ly_X6_3 : u_lay RX6 TX6 3 ∈ TB := mT (List.mem_of_getElem? (i := 658) (by decide +kernel)) rfl
theorem ly_X6_4 : u_lay RX6 TX6 4 ∈ TB := mT (List.mem_of_getElem? (i := 660) (by decide +kernel)) rfl
theorem ly_X6_5 : u_lay RX6 TX6 5 ∈ TB := mT (List.mem_of_getElem? (i := 662) (by decide +kernel)) rfl
theorem ly_X6_6 : u_lay RX6 TX6 6 ∈ TB := mT (List.mem_of_getElem? (i := 664) (by decide +kernel)) rfl
theorem ly_X6_7 : u_lay RX6 TX6 7 ∈ TB := mT (List.mem_of_getElem? (i := 666) (by decide +kernel)) rfl
theorem ly_X6_8 : u_lay RX6 TX6 8 ∈ TB := mT (List.mem_of_getElem? (i := 668) (by decide +kernel)) rfl
theorem ly_X6_9 : u_lay RX6 TX6 9 ∈ TB := mT (List.mem_of_getElem? (i := 670) (by decide +kernel)) rfl
theorem ly_X6_10 : u_lay RX6 TX6 10 ∈ TB := mT (List.mem_of_getElem? (i := 672) (by decide +kernel)) rfl
theorem ly_X6_11 : u_lay RX6 TX6 11 ∈ TB := mT (List.mem_of_getElem? (i := 674) (by decide +kernel)) rfl
theorem ly_X6_12 : u_lay RX6 TX6 12 ∈ TB := mT (List.mem_of_getElem? (i := 676) (by decide +kernel)) rfl
theorem ly_X6_13 : u_lay RX6 TX6 13 ∈ TB := mT (List.mem_of_getElem? (i := 678) (by decide +kernel)) rfl
theorem ly_X6_14 : u_lay RX6 TX6 14 ∈ TB := mT (List.mem_of_getElem? (i := 680) (by decide +kernel)) rfl
theorem ly_X6_15 : u_lay RX6 TX6 15 ∈ TB := mT (List.mem_of_getElem? (i := 682) (by decide +kernel)) rfl
theorem inX6 : ∀ w ∈ u_ws RX6 TX6 16, w ∈ TB := by
  intro w h
  obtain ⟨k, hk, rfl⟩ := List.mem_map.mp h
  have hk := List.mem_range.mp hk
  match k, hk with
  | 0, _ => exact ly_X6_0
  | 1, _ => exact ly_X6_1
  | 2, _ => exact ly_X6_2
  | 3, _ => exact ly_X6_3
  | 4, _ => exact ly_X6_4
  | 5, _ => exact ly_X6_5
  | 6, _ => exact ly_X6_6
  | 7, _ => exact ly_X6_7
  | 8, _ => exact ly_X6_8
  | 9, _ => exact ly_X6_9
  | 10, _ => exact ly_X6_10
  | 11, _ => exact ly_X6_11
  | 12, _ => exact ly_X6_12
  | 13, _ => exact ly_X6_13
  | 14, _ => exact ly_X6_14
  | 15, _ => exact ly_X6_15
  | k + 16, h => exact absurd h (by omega)
end
section
/-! my own rows over the kit's: rooms by depth, truth as an int, contracts that read alone (CP), contracts that write (CM), how each is begun and called -/
def RM (k : Nat) : Room := { frames := k, cells := 0, slots := 0, locals := 40 * k }
noncomputable def bI (p : Prop) : Int32 := @ite Int32 p (Classical.propDecidable p) 1 0
theorem bI_t {p : Prop} (h : p) : bI p = 1 := by unfold bI; exact if_pos h
theorem bI_f {p : Prop} (h : ¬ p) : bI p = 0 := by unfold bI; exact if_neg h
theorem bI_iff {p q : Prop} (h : p ↔ q) : bI p = bI q := by rw [propext h]
theorem bI_01 (p : Prop) : bI p = 0 ∨ bI p = 1 := by
  by_cases h : p
  · exact Or.inr (bI_t h)
  · exact Or.inl (bI_f h)
theorem bI_eq0 {p : Prop} : bI p = 0 ↔ ¬ p := by
  by_cases h : p
  · rw [bI_t h]; exact ⟨fun e => absurd e (by decide), fun e => absurd h e⟩
  · rw [bI_f h]; exact ⟨fun _ => h, fun _ => rfl⟩
theorem bI_nar (p : Prop) : narrow .boolean (.int (bI p)) = .int (bI p) := by
  rcases bI_01 p with h | h <;> rw [h] <;> decide
theorem nar_int (x : Int32) : narrow .int (.int x) = .int x := rfl
def WW (D : va_G) (A : Nat → Prop) (H0 : Heap) (ws : va_W) (H : Heap) (locs : List Loc) : Prop := va_P D vwCl ws H ∧ va_D A ws ∧ va_S A H0 H locs
def PP (D : va_G) (T : List (ClassId × FieldType)) (wc : va_W) (U : State) : Prop := va_P D vwCl wc U.heap ∧ va_K D vwCl T U
def QP (r : Value) : Array Value → State → Outcome → State → Prop := fun _ st oc t => oc = .returned (some r) ∧ t.heap = st.heap
/-- reads alone: called with these values where the cells wc stand, it answers r, and the heap is as it was -/
def CP (l : Launch) (D : va_G) (T : List (ClassId × FieldType)) (y : MethodName) (b : ByteArray) (mL : Nat) (ty : FieldType) (k : Nat) (vs : List Value) (wc : va_W) (r : Value) : Prop :=
  Met l y (.code y b mL (some ty) :: TB) (RM k) (va_Pc vs (PP D T wc)) (QP r) 0 0 (fun _ => False)
def PM (D : va_G) (T : List (ClassId × FieldType)) (ws : va_W) (sz : Nat) (U : State) : Prop := U.heap.size = sz ∧ va_P D vwCl ws U.heap ∧ va_K D vwCl T U ∧ va_D (fun _ => True) ws
def QM (D : va_G) (T : List (ClassId × FieldType)) (A : Nat → Prop) (r : Option Value) (ws' : va_W) : Array Value → State → Outcome → State → Prop := fun _ st oc t => (oc = .returned r ∧ va_P D vwCl ws' t.heap ∧ va_K D vwCl T t ∧ va_D A ws') ∧ va_F A st t
/-- writes too: the cells ws become the cells ws', it answers r, nothing else has changed -/
def CM (l : Launch) (D : va_G) (T : List (ClassId × FieldType)) (y : MethodName) (b : ByteArray) (mL : Nat) (ret : Option FieldType) (k : Nat) (vs : List Value) (ws : va_W) (r : Option Value) (ws' : va_W) : Prop :=
  ∀ sz : Nat, Met l y (.code y b mL ret :: TB) (RM k) (va_Pc vs (PM D T ws sz)) (QM D T (va_A ws sz) r ws') 0 0 (va_A ws sz)
theorem Pin {D : va_G} {T : List (ClassId × FieldType)} {wc : va_W} {a : Array Value} {U : State} {g : JFrame} {mk : MethodId} (h : PP D T wc U) : PP D T wc (U.calling g mk a) := ⟨h.1, va_K.moved (u := U) (U := U.calling g mk a) (Vm.Alike.refl U.vm) h.2⟩
theorem hts_TB {y : MethodName} {b : ByteArray} {n : Nat} {r : Option FieldType} {args : Array Value} {s : State} (h : ∀ w ∈ (Cond.code y b n r :: TB), w.before args s = true) : ∀ w ∈ TB, w.before args s = true := fun w hw => h w (List.mem_cons_of_mem _ hw)
theorem CP.ofI {l : Launch} {D : va_G} {T : List (ClassId × FieldType)} {y : MethodName} {b : ByteArray} {mL k : Nat} {ty : FieldType} {vs : List Value} {wc : va_W} {v : Int32} (hy : plainName y.cls = true) (hn : (lg_sl vs).length ≤ mL) (hnar : narrow ty (.int v) = .int v)
    (body : ∀ (p : Program) (e : Env) (s : State) (m : MethodId) (args : Array Value) (below : List Frame) (meth : Method) (c : Code) (Q : State → Prop), CallFix p m c b mL s args TB y.cls → va_K D vwCl T s → va_P D vwCl wc s.heap →
      (∀ (pc : Nat) (ls : Array Slot) (x : Int32), x = v → decode b pc = .ok (.ireturn, 1) → W p l e (RM k) s m args below meth c s.heap [] 0 0 Q (F0 m pc ls [.int x])) →
      ∀ ls : Array Slot, lv_has ls mL (lv_args 0 vs) → W p l e (RM k) s m args below meth c s.heap [] 0 0 Q (F0 m 0 ls [])) : CP l D T y b mL ty k vs wc (.int v) := by
  refine Met.ofW (cc := b) (maxL := mL) (ret := some ty) hy rfl ?_
  intro p e s m args below meth c s₁ B hml hv
  obtain ⟨rfl, hP, hK⟩ := hv
  have hts := hts_TB (atoms_spec (ws := Cond.code y b mL (some ty) :: TB) B.pre)
  have hown : s.vm.findClass y.cls = some m.cls := findClass_of_methodNamed B.named
  have hlocks := B.notSynchronized
  have hl := lv_entry vs (n := mL) hn
  rw [lg_entry_eq]
  generalize (lg_sl vs ++ List.replicate (mL - (lg_sl vs).length) Slot.unset).toArray = ls at hl ⊢
  refine body p e s m _ below meth c _ ⟨B.exec, B.bytes, hml, hown, hts⟩ hK hP (fun pc ls x hx hdg => ?_) ls hl
  subst hx
  exact W.zret B.exec B.bytes B.returns hnar (fun t ht _ => ⟨rfl, ht⟩) (fun q hq => by cases hq) hdg
theorem CP.ofL {l : Launch} {D : va_G} {T : List (ClassId × FieldType)} {y : MethodName} {b : ByteArray} {mL k : Nat} {vs : List Value} {wc : va_W} {v : Int64} (hy : plainName y.cls = true) (hn : (lg_sl vs).length ≤ mL)
    (body : ∀ (p : Program) (e : Env) (s : State) (m : MethodId) (args : Array Value) (below : List Frame) (meth : Method) (c : Code) (Q : State → Prop), CallFix p m c b mL s args TB y.cls → va_K D vwCl T s → va_P D vwCl wc s.heap →
      (∀ (pc : Nat) (ls : Array Slot) (x : Int64), x = v → decode b pc = .ok (.lreturn, 1) → W p l e (RM k) s m args below meth c s.heap [] 0 0 Q (F0 m pc ls [.long x])) →
      ∀ ls : Array Slot, lv_has ls mL (lv_args 0 vs) → W p l e (RM k) s m args below meth c s.heap [] 0 0 Q (F0 m 0 ls [])) : CP l D T y b mL .long k vs wc (.long v) := by
  refine Met.ofW (cc := b) (maxL := mL) (ret := some .long) hy rfl ?_
  intro p e s m args below meth c s₁ B hml hv
  obtain ⟨rfl, hP, hK⟩ := hv
  have hts := hts_TB (atoms_spec (ws := Cond.code y b mL (some .long) :: TB) B.pre)
  have hown : s.vm.findClass y.cls = some m.cls := findClass_of_methodNamed B.named
  have hlocks := B.notSynchronized
  have hl := lv_entry vs (n := mL) hn
  rw [lg_entry_eq]
  generalize (lg_sl vs ++ List.replicate (mL - (lg_sl vs).length) Slot.unset).toArray = ls at hl ⊢
  refine body p e s m _ below meth c _ ⟨B.exec, B.bytes, hml, hown, hts⟩ hK hP (fun pc ls x hx hdg => ?_) ls hl
  subst hx
  exact W.lret B.exec B.bytes B.returns (fun t ht _ => ⟨rfl, ht⟩) (fun q hq => by cases hq) hdg
theorem CM.ofI {l : Launch} {D : va_G} {T : List (ClassId × FieldType)} {y : MethodName} {b : ByteArray} {mL k : Nat} {ty : FieldType} {vs : List Value} {ws ws' : va_W} {v : Int32} (hy : plainName y.cls = true) (hn : (lg_sl vs).length ≤ mL) (hnar : narrow ty (.int v) = .int v)
    (body : ∀ (p : Program) (e : Env) (s : State) (m : MethodId) (args : Array Value) (below : List Frame) (meth : Method) (c : Code) (Q : State → Prop) (A : Nat → Prop), CallFix p m c b mL s args TB y.cls → va_K D vwCl T s → (∀ q : Nat, s.heap.size ≤ q → A q) → WW D A s.heap ws s.heap [] →
      (∀ (pc : Nat) (ls : Array Slot) (x : Int32) (w2 : va_W) (H : Heap) (locs : List Loc), x = v → w2 = ws' → WW D A s.heap w2 H locs → decode b pc = .ok (.ireturn, 1) → W p l e (RM k) s m args below meth c H locs 0 0 Q (F0 m pc ls [.int x])) →
      ∀ ls : Array Slot, lv_has ls mL (lv_args 0 vs) → W p l e (RM k) s m args below meth c s.heap [] 0 0 Q (F0 m 0 ls [])) : CM l D T y b mL (some ty) k vs ws (some (.int v)) ws' := by
  intro sz
  refine Met.ofW (cc := b) (maxL := mL) (ret := some ty) hy rfl ?_
  intro p e s m args below meth c s₁ B hml hv
  obtain ⟨rfl, rfl, hP, hK, hD0⟩ := hv
  have hts := hts_TB (atoms_spec (ws := Cond.code y b mL (some ty) :: TB) B.pre)
  have hown : s.vm.findClass y.cls = some m.cls := findClass_of_methodNamed B.named
  have hlocks := B.notSynchronized
  have hl := lv_entry vs (n := mL) hn
  rw [lg_entry_eq]
  generalize (lg_sl vs ++ List.replicate (mL - (lg_sl vs).length) Slot.unset).toArray = ls at hl ⊢
  refine body p e s m _ below meth c _ (va_A ws s.heap.size) ⟨B.exec, B.bytes, hml, hown, hts⟩ hK (fun q h => Or.inr h) ⟨hP, hD0.self, va_S.rf⟩ (fun pc ls x w2 H locs hx hw hH hdg => ?_) ls hl
  subst hx hw
  exact W.zret B.exec B.bytes B.returns hnar (fun t ht hW => ⟨⟨rfl, by rw [ht]; exact hH.1, va_K.moved hW.alike hK, hH.2.1⟩, hH.2.2.F ht⟩) hH.2.2.2.2 hdg
theorem CM.ofL {l : Launch} {D : va_G} {T : List (ClassId × FieldType)} {y : MethodName} {b : ByteArray} {mL k : Nat} {vs : List Value} {ws ws' : va_W} {v : Int64} (hy : plainName y.cls = true) (hn : (lg_sl vs).length ≤ mL)
    (body : ∀ (p : Program) (e : Env) (s : State) (m : MethodId) (args : Array Value) (below : List Frame) (meth : Method) (c : Code) (Q : State → Prop) (A : Nat → Prop), CallFix p m c b mL s args TB y.cls → va_K D vwCl T s → (∀ q : Nat, s.heap.size ≤ q → A q) → WW D A s.heap ws s.heap [] →
      (∀ (pc : Nat) (ls : Array Slot) (x : Int64) (w2 : va_W) (H : Heap) (locs : List Loc), x = v → w2 = ws' → WW D A s.heap w2 H locs → decode b pc = .ok (.lreturn, 1) → W p l e (RM k) s m args below meth c H locs 0 0 Q (F0 m pc ls [.long x])) →
      ∀ ls : Array Slot, lv_has ls mL (lv_args 0 vs) → W p l e (RM k) s m args below meth c s.heap [] 0 0 Q (F0 m 0 ls [])) : CM l D T y b mL (some .long) k vs ws (some (.long v)) ws' := by
  intro sz
  refine Met.ofW (cc := b) (maxL := mL) (ret := some .long) hy rfl ?_
  intro p e s m args below meth c s₁ B hml hv
  obtain ⟨rfl, rfl, hP, hK, hD0⟩ := hv
  have hts := hts_TB (atoms_spec (ws := Cond.code y b mL (some .long) :: TB) B.pre)
  have hown : s.vm.findClass y.cls = some m.cls := findClass_of_methodNamed B.named
  have hlocks := B.notSynchronized
  have hl := lv_entry vs (n := mL) hn
  rw [lg_entry_eq]
  generalize (lg_sl vs ++ List.replicate (mL - (lg_sl vs).length) Slot.unset).toArray = ls at hl ⊢
  refine body p e s m _ below meth c _ (va_A ws s.heap.size) ⟨B.exec, B.bytes, hml, hown, hts⟩ hK (fun q h => Or.inr h) ⟨hP, hD0.self, va_S.rf⟩ (fun pc ls x w2 H locs hx hw hH hdg => ?_) ls hl
  subst hx hw
  exact W.lret B.exec B.bytes B.returns (fun t ht hW => ⟨⟨rfl, by rw [ht]; exact hH.1, va_K.moved hW.alike hK, hH.2.1⟩, hH.2.2.F ht⟩) hH.2.2.2.2 hdg
theorem CM.ofV {l : Launch} {D : va_G} {T : List (ClassId × FieldType)} {y : MethodName} {b : ByteArray} {mL k : Nat} {vs : List Value} {ws ws' : va_W} (hy : plainName y.cls = true) (hn : (lg_sl vs).length ≤ mL)
    (body : ∀ (p : Program) (e : Env) (s : State) (m : MethodId) (args : Array Value) (below : List Frame) (meth : Method) (c : Code) (Q : State → Prop) (A : Nat → Prop), CallFix p m c b mL s args TB y.cls → va_K D vwCl T s → (∀ q : Nat, s.heap.size ≤ q → A q) → WW D A s.heap ws s.heap [] →
      (∀ (pc : Nat) (ls : Array Slot) (w2 : va_W) (H : Heap) (locs : List Loc), w2 = ws' → WW D A s.heap w2 H locs → decode b pc = .ok (.return_, 1) → W p l e (RM k) s m args below meth c H locs 0 0 Q (F0 m pc ls [])) →
      ∀ ls : Array Slot, lv_has ls mL (lv_args 0 vs) → W p l e (RM k) s m args below meth c s.heap [] 0 0 Q (F0 m 0 ls [])) : CM l D T y b mL none k vs ws none ws' := by
  intro sz
  refine Met.ofW (cc := b) (maxL := mL) (ret := none) hy rfl ?_
  intro p e s m args below meth c s₁ B hml hv
  obtain ⟨rfl, rfl, hP, hK, hD0⟩ := hv
  have hts := hts_TB (atoms_spec (ws := Cond.code y b mL none :: TB) B.pre)
  have hown : s.vm.findClass y.cls = some m.cls := findClass_of_methodNamed B.named
  have hlocks := B.notSynchronized
  have hl := lv_entry vs (n := mL) hn
  rw [lg_entry_eq]
  generalize (lg_sl vs ++ List.replicate (mL - (lg_sl vs).length) Slot.unset).toArray = ls at hl ⊢
  refine body p e s m _ below meth c _ (va_A ws s.heap.size) ⟨B.exec, B.bytes, hml, hown, hts⟩ hK (fun q h => Or.inr h) ⟨hP, hD0.self, va_S.rf⟩ (fun pc ls w2 H locs hw hH hdg => ?_) ls hl
  subst hw
  exact W.vret B.exec B.bytes B.returns (fun t ht hW => ⟨⟨rfl, by rw [ht]; exact hH.1, va_K.moved hW.alike hK, hH.2.1⟩, hH.2.2.F ht⟩) hH.2.2.2.2 hdg
/-- what a call of a method needs of the tables, whoever calls it -/
def MV (y : MethodName) (b : ByteArray) (mL : Nat) (ret : Option FieldType) (n : Nat) : Prop := Cond.instanceMethod y ∈ TB ∧ Cond.selects y.cls y y ∈ TB ∧ Cond.initialized y.cls ∈ TB ∧ Cond.code y b mL ret ∈ TB ∧ y.cls ≠ "java/lang/invoke/MethodHandle" ∧ y.cls ≠ "java/lang/invoke/VarHandle" ∧ (parseMethodDescriptor y.desc).map (fun d => d.parameters.length) = some n
def MS (y : MethodName) (b : ByteArray) (mL : Nat) (ret : Option FieldType) (n : Nat) : Prop := Cond.static y ∈ TB ∧ Cond.initialized y.cls ∈ TB ∧ Cond.code y b mL ret ∈ TB ∧ y.cls ≠ "java/lang/invoke/MethodHandle" ∧ y.cls ≠ "java/lang/invoke/VarHandle" ∧ (parseMethodDescriptor y.desc).map (fun d => d.parameters.length) = some n
section MyCalls
variable {p : Program} {l : Launch} {e : Env} {s : State} {m : MethodId} {args : Array Value} {below : List Frame} {meth : Method} {c : Code} {H : Heap} {locs : List Loc} {cells slots : Nat} {Q : State → Prop}
variable {pc : Nat} {ls : Array Slot} {rest : List Value} {D : va_G} {T : List (ClassId × FieldType)} {y : MethodName} {b cc : ByteArray} {mL nL n k kR index : Nat} {own : String} {A : Nat → Prop} {H0 : Heap}
theorem roomOK {r : Value} {ty : Option FieldType} {hd : Room} (_ : k + 1 ≤ kR) : True := trivial
/-- behind a call that reads alone the heap is the same one -/
theorem after_P {R : Room} {r : Value} {st0 : List Value} {a : Array Value} (hr : va_Run p l e R s m args below meth c H locs cells slots 0 0 (F0 m pc ls st0) rest (QP r a) (fun _ => False))
    (kk : W p l e R s m args below meth c H locs cells slots Q (F0 m (pc + 3) ls (r :: rest))) : W p l e R s m args below meth c H locs cells slots Q (F0 m pc ls st0) := by
  intro T hT X
  obtain ⟨v, st₀, t, T', L, h0, X', hL, e1, e2, ⟨hv, hh⟩, st⟩ := hr T hT X
  cases hv
  have hL0 : L = [] := by
    cases L with
    | nil => rfl
    | cons q L => exact absurd (hL q List.mem_cons_self) id
  subst hL0
  rw [List.append_nil] at X'
  obtain ⟨t2, a1, b1⟩ := kk T' (by rw [e1, hh, h0]) X'
  exact ⟨t2, st t2 a1, b1⟩
theorem callPV {ret : FieldType} {vs As : List Value} {b0 : Nat} {wc : va_W} {r : Value} {ci q0 : Nat} {fs : List Value} {TC : u_T} {NC : Nat} (G : CallFix p m c cc nL s args TB own) (K : va_K D vwCl T s) (F : MV y b mL (some ret) n) (C : CP l D T y b mL ret k vs wc r) (hP : va_P D vwCl wc H) (hlink : Cond.methodLink own index y ∈ TB)
    (hvs : vs = .ref b0 :: As) (hrec : wc[q0]? = some (b0, .inr (ci, fs))) (hci : vwCl[ci]? = some (y.cls, TC, NC)) (hk : k + 1 ≤ kR) (hm : mL ≤ 20) (hn : As.length = n) (hls : ls.size = nL) (hrest : (rest.map fun v => v.category).sum ≤ 8) (hdg : decode cc pc = .ok (.invokevirtual index, 3))
    (kk : W p l e (RM kR) s m args below meth c H locs 0 0 Q (F0 m (pc + 3) ls (r :: rest))) : W p l e (RM kR) s m args below meth c H locs 0 0 Q (F0 m pc ls (As.reverse ++ .ref b0 :: rest)) := by
  subst hvs
  obtain ⟨hx, hb, hml, hown, hts⟩ := G
  obtain ⟨f1, f2, f3, f4, f5, f6, f7⟩ := F
  have cw : CallW (RM kR) s args own y.cls index y b mL (some ret) (Cond.code y b mL (some ret) :: TB) (RM k) 0 0 n := ⟨callB_of n hts (TB_c f4) rfl rfl rfl (hts _ f3) (hts _ hlink) ⟨f5, f6, f7⟩ ⟨hk, by show 8 + (mL + 11) + 40 * k ≤ 40 * kR; omega⟩, hts _ f1, hts _ f2⟩
  refine after_P (va_runV (As := As) (rest := rest) ⟨hx, hb, hml, hown, hts⟩ C cw ⟨fun a U g mk q => ⟨q.1, Pin q.2⟩, va_recv K hP (ci := ci) hci hrec, fun U hU hW => ⟨rfl, by rw [hU]; exact hP, va_K.moved hW.alike K⟩⟩ rfl hn hls rfl (lv_room hrest) hdg ⟨Nat.le_refl 0, Nat.le_refl 0⟩) kk
theorem callPS {ret : FieldType} {vs : List Value} {wc : va_W} {r : Value} (G : CallFix p m c cc nL s args TB own) (K : va_K D vwCl T s) (F : MS y b mL (some ret) n) (C : CP l D T y b mL ret k vs wc r) (hP : va_P D vwCl wc H) (hlink : Cond.methodLink own index y ∈ TB)
    (hk : k + 1 ≤ kR) (hm : mL ≤ 20) (hn : vs.length = n) (hls : ls.size = nL) (hrest : (rest.map fun v => v.category).sum ≤ 8) (hdg : decode cc pc = .ok (.invokestatic index, 3))
    (kk : W p l e (RM kR) s m args below meth c H locs 0 0 Q (F0 m (pc + 3) ls (r :: rest))) : W p l e (RM kR) s m args below meth c H locs 0 0 Q (F0 m pc ls (vs.reverse ++ rest)) := by
  obtain ⟨hx, hb, hml, hown, hts⟩ := G
  obtain ⟨f1, f3, f4, f5, f6, f7⟩ := F
  have cw : CallB (RM kR) s args own index y b mL (some ret) (Cond.code y b mL (some ret) :: TB) (RM k) 0 0 n ∧ (Cond.static y).before args s = true := ⟨callB_of n hts (TB_c f4) rfl rfl rfl (hts _ f3) (hts _ hlink) ⟨f5, f6, f7⟩ ⟨hk, by show 8 + (mL + 11) + 40 * k ≤ 40 * kR; omega⟩, hts _ f1⟩
  refine after_P (va_runS (As := vs) (rest := rest) ⟨hx, hb, hml, hown, hts⟩ C cw ⟨fun a U g mk q => ⟨q.1, Pin q.2⟩, fun U hU hW => ⟨rfl, by rw [hU]; exact hP, va_K.moved hW.alike K⟩⟩ rfl hn hls rfl (lv_room hrest) hdg ⟨Nat.le_refl 0, Nat.le_refl 0⟩) kk
/-- behind a call that writes: the caller's own cells, with what came back in their places -/
theorem after_M {R : Room} {r : Option Value} {st0 : List Value} {a : Array Value} {A1 : Nat → Prop} {ws' : va_W} (hr : va_Run p l e R s m args below meth c H locs cells slots 0 0 (F0 m pc ls st0) rest (QM D T A1 r ws' a) A1) (hS : va_S A H0 H locs) (hA : ∀ q, A1 q → A q)
    (kk : ∀ (H1 : Heap) (locs1 : List Loc), va_P D vwCl ws' H1 → va_D A1 ws' → (∀ q : Nat, q < H.size → ¬ A1 q → H1[q]? = H[q]?) → va_S A H0 H1 locs1 → W p l e R s m args below meth c H1 locs1 cells slots Q (F0 m (pc + 3) ls (r.toList ++ rest))) : W p l e R s m args below meth c H locs cells slots Q (F0 m pc ls st0) := by
  intro T hT X
  obtain ⟨v, st₀, t, T', L, h0, X', hL, e1, e2, ⟨⟨hv, hp, hk9, hd⟩, hz, hk⟩, st⟩ := hr T hT X
  cases hv
  rw [h0] at hz hk
  obtain ⟨t2, a1, b1⟩ := kk T'.heap (locs ++ L) (by rw [e1]; exact hp) hd (fun q h1 h2 => by rw [e1]; exact hk q h1 h2)
    ⟨Nat.le_trans hS.1 (by rw [e1]; exact hz), fun q h1 h2 => by rw [e1, hk q (Nat.lt_of_lt_of_le h1 hS.1) (fun z => h2 (hA q z))]; exact hS.2.1 q h1 h2, fun q hq => by
      rcases List.mem_append.mp hq with h | h
      · exact hS.2.2 q h
      · exact hA _ (hL q h)⟩ T' rfl X'
  exact ⟨t2, st t2 a1, b1⟩
theorem callMV {ret : Option FieldType} {vs As : List Value} {b0 : Nat} {ws wc wc' : va_W} {r : Option Value} {ci q0 : Nat} {fs : List Value} {TC : u_T} {NC : Nat} (G : CallFix p m c cc nL s args TB own) (K : va_K D vwCl T s) (hA : ∀ q : Nat, H0.size ≤ q → A q) (w : WW D A H0 ws H locs) (F : MV y b mL ret n) (C : CM l D T y b mL ret k vs wc r wc') (hlink : Cond.methodLink own index y ∈ TB)
    (isC isR perm : List Nat) {wr ws2 : va_W} (hC : isC.map (fun i => ws[i]?) = wc.map some) (hR : isR.map (fun i => ws[i]?) = wr.map some) (hnC : va_nd isC = true) (hnR : va_nd isR = true) (hdis : isR.all (fun i => !isC.contains i) = true) (hnp : va_nd perm = true) (hp : perm.map (fun i => (wr ++ wc')[i]?) = ws2.map some)
    (hvs : vs = .ref b0 :: As) (hrec : wc[q0]? = some (b0, .inr (ci, fs))) (hci : vwCl[ci]? = some (y.cls, TC, NC)) (hk : k + 1 ≤ kR) (hm : mL ≤ 20) (hn : As.length = n) (hls : ls.size = nL) (hrest : (rest.map fun v => v.category).sum ≤ 8) (hdg : decode cc pc = .ok (.invokevirtual index, 3))
    (kk : ∀ (H1 : Heap) (locs1 : List Loc), WW D A H0 ws2 H1 locs1 → W p l e (RM kR) s m args below meth c H1 locs1 0 0 Q (F0 m (pc + 3) ls (r.toList ++ rest))) : W p l e (RM kR) s m args below meth c H locs 0 0 Q (F0 m pc ls (As.reverse ++ .ref b0 :: rest)) := by
  subst hvs
  obtain ⟨hx, hb, hml, hown, hts⟩ := G
  obtain ⟨f1, f2, f3, f4, f5, f6, f7⟩ := F
  obtain ⟨wP, wD, wS⟩ := w
  have cw : CallW (RM kR) s args own y.cls index y b mL ret (Cond.code y b mL ret :: TB) (RM k) 0 0 n := ⟨callB_of n hts (TB_c f4) rfl rfl rfl (hts _ f3) (hts _ hlink) ⟨f5, f6, f7⟩ ⟨hk, by show 8 + (mL + 11) + 40 * k ≤ 40 * kR; omega⟩, hts _ f1, hts _ f2⟩
  have hF := va_free (wc := wc) wD wS hA isC hC
  have hPc : va_P D vwCl wc H := by
    intro j q hj
    have h1 : (isC.map (fun i => ws[i]?))[j]? = some (some q) := by rw [hC, List.getElem?_map, hj]; rfl
    rw [List.getElem?_map] at h1
    cases hi : isC[j]? with
    | none => rw [hi] at h1; cases h1
    | some i => rw [hi] at h1; exact wP i q (by simpa using h1)
  have hDc := wD.sub (ws' := wc) isC hnC hC
  refine after_M (va_runV (As := As) (rest := rest) ⟨hx, hb, hml, hown, hts⟩ (C H.size) cw ⟨fun a U g mk q => ⟨q.1, q.2.1, q.2.2.1, va_K.moved (u := U) (U := U.calling g mk a) (Vm.Alike.refl U.vm) q.2.2.2.1, q.2.2.2.2⟩, va_recv K hPc (ci := ci) hci hrec, fun U hU hW => ⟨rfl, by rw [hU], by rw [hU]; exact hPc, va_K.moved hW.alike K, hDc.weaken (fun _ _ _ _ => trivial)⟩⟩ rfl hn hls rfl (lv_room hrest) hdg ⟨Nat.le_refl 0, Nat.le_refl 0⟩) wS hF (fun H1 locs1 hP1 hD1 hk1 hS1 => ?_)
  obtain ⟨jP, jD⟩ := va_join (wr := wr) (w1 := wc') wP wD isC isR hC hR hnR (fun i hi hc => by
    have := List.all_eq_true.mp hdis i hi
    simp at this
    exact this hc) hk1 hF hP1 hD1
  refine kk H1 locs1 ⟨?_, jD.sub (ws' := ws2) perm hnp hp, hS1⟩
  intro j q hj
  have h1 : (perm.map (fun i => (wr ++ wc')[i]?))[j]? = some (some q) := by rw [hp, List.getElem?_map, hj]; rfl
  rw [List.getElem?_map] at h1
  cases hi : perm[j]? with
  | none => rw [hi] at h1; cases h1
  | some i => rw [hi] at h1; exact jP i q (by simpa using h1)
/-- the callee's cells are all of the caller's -/
theorem callMF {ret : Option FieldType} {vs As : List Value} {b0 : Nat} {ws ws' : va_W} {r : Option Value} {ci q0 : Nat} {fs : List Value} {TC : u_T} {NC : Nat} (G : CallFix p m c cc nL s args TB own) (K : va_K D vwCl T s) (hA : ∀ q : Nat, H0.size ≤ q → A q) (w : WW D A H0 ws H locs) (F : MV y b mL ret n) (C : CM l D T y b mL ret k vs ws r ws') (hlink : Cond.methodLink own index y ∈ TB)
    (hvs : vs = .ref b0 :: As) (hrec : ws[q0]? = some (b0, .inr (ci, fs))) (hci : vwCl[ci]? = some (y.cls, TC, NC)) (hk : k + 1 ≤ kR) (hm : mL ≤ 20) (hn : As.length = n) (hls : ls.size = nL) (hrest : (rest.map fun v => v.category).sum ≤ 8) (hdg : decode cc pc = .ok (.invokevirtual index, 3))
    (kk : ∀ (H1 : Heap) (locs1 : List Loc), WW D A H0 ws' H1 locs1 → W p l e (RM kR) s m args below meth c H1 locs1 0 0 Q (F0 m (pc + 3) ls (r.toList ++ rest))) : W p l e (RM kR) s m args below meth c H locs 0 0 Q (F0 m pc ls (As.reverse ++ .ref b0 :: rest)) := by
  subst hvs
  obtain ⟨hx, hb, hml, hown, hts⟩ := G
  obtain ⟨f1, f2, f3, f4, f5, f6, f7⟩ := F
  obtain ⟨wP, wD, wS⟩ := w
  have cw : CallW (RM kR) s args own y.cls index y b mL ret (Cond.code y b mL ret :: TB) (RM k) 0 0 n := ⟨callB_of n hts (TB_c f4) rfl rfl rfl (hts _ f3) (hts _ hlink) ⟨f5, f6, f7⟩ ⟨hk, by show 8 + (mL + 11) + 40 * k ≤ 40 * kR; omega⟩, hts _ f1, hts _ f2⟩
  have hF : ∀ q, va_A ws H.size q → A q := by
    intro q h
    rcases h with ⟨j, e, h⟩ | h
    · exact wD.2 j _ h
    · exact hA q (Nat.le_trans wS.1 h)
  refine after_M (va_runV (As := As) (rest := rest) ⟨hx, hb, hml, hown, hts⟩ (C H.size) cw ⟨fun a U g mk q => ⟨q.1, q.2.1, q.2.2.1, va_K.moved (u := U) (U := U.calling g mk a) (Vm.Alike.refl U.vm) q.2.2.2.1, q.2.2.2.2⟩, va_recv K wP (ci := ci) hci hrec, fun U hU hW => ⟨rfl, by rw [hU], by rw [hU]; exact wP, va_K.moved hW.alike K, wD.weaken (fun _ _ _ _ => trivial)⟩⟩ rfl hn hls rfl (lv_room hrest) hdg ⟨Nat.le_refl 0, Nat.le_refl 0⟩) wS hF (fun H1 locs1 hP1 hD1 hk1 hS1 => ?_)
  exact kk H1 locs1 ⟨hP1, hD1.weaken (fun j q _ h => hF _ h), hS1⟩
end MyCalls
end
section
/-! rows of instructions over numbers: 'nI n' for an int that is n, 'bI p' for a truth -/
theorem nC (n : Nat) : Int32.ofInt (n : Int) = nI n := rfl
theorem nI_inc (i k : Nat) : nI i + Int32.ofInt (k : Int) = nI (i + k) := nI_add i k
theorem rd_dec {i k : Nat} (h : k ≤ i) : nI i + Int32.ofInt (-(k : Int)) = nI (i - k) := by
  have e : nI i - nI k = nI (i - k) := pk_sub h
  rw [← e, Int32.sub_eq_add_neg]
  congr 1
  rw [Int32.ofInt_neg]
  rfl
theorem upN (g : Nat → Nat) (k x : Nat) : upd (fun j => nI (g j)) k (nI x) = fun j => nI (va_up g k x j) := by
  funext j
  unfold upd va_up
  by_cases h : j = k <;> simp [h]
theorem upR (f : Nat → Int32) (k : Nat) (x : Int32) : upd f k x = va_up f k x := rfl
theorem upB (g : Nat → Prop) (k : Nat) (q : Prop) : upd (fun j => bI (g j)) k (bI q) = fun j => bI (va_up g k q j) := by
  funext j
  unfold upd va_up
  by_cases h : j = k <;> simp [h]
theorem vnarB (q : Prop) : vp_nar .boolean (bI q) = bI q := by
  unfold vp_nar
  rw [bI_nar]
section MyRows
variable {p : Program} {l : Launch} {e : Env} {R : Room} {s : State} {m : MethodId} {args : Array Value} {below : List Frame} {meth : Method} {c : Code} {H : Heap} {locs : List Loc} {cells slots : Nat} {Q : State → Prop}
variable {cc : ByteArray} {pc : Nat} {ls : Array Slot} {rest : List Value} {D : va_G} {A : Nat → Prop} {a : Nat} {T : List (ClassId × FieldType)} {ws : va_W} {H0 : Heap} {nL : Nat} {own : String}
theorem t_i {x y : Int32} (h : x = y) (k : W p l e R s m args below meth c H locs cells slots Q (F0 m pc ls (.int y :: rest))) : W p l e R s m args below meth c H locs cells slots Q (F0 m pc ls (.int x :: rest)) := h ▸ k
theorem t_l {x y : Int64} (h : x = y) (k : W p l e R s m args below meth c H locs cells slots Q (F0 m pc ls (.long y :: rest))) : W p l e R s m args below meth c H locs cells slots Q (F0 m pc ls (.long x :: rest)) := h ▸ k
theorem t_v {x y : Value} (h : x = y) (k : W p l e R s m args below meth c H locs cells slots Q (F0 m pc ls (y :: rest))) : W p l e R s m args below meth c H locs cells slots Q (F0 m pc ls (x :: rest)) := h ▸ k
theorem t_2 {x y : Value} {v : Value} (h : x = y) (k : W p l e R s m args below meth c H locs cells slots Q (F0 m pc ls (v :: y :: rest))) : W p l e R s m args below meth c H locs cells slots Q (F0 m pc ls (v :: x :: rest)) := h ▸ k
theorem lv_cv {nL i : Nat} {x y : Value} {lv lv' : List (Nat × Value)} (h : lv_has ls nL lv) (hxy : x = y) (e : lv = lv') : lv_has ls nL lv' := e ▸ h
theorem t_add (G : CallFix p m c cc nL s args TB own) {x y : Nat} (hdg : decode cc pc = .ok (.iadd, 1)) (k : W p l e R s m args below meth c H locs cells slots Q (F0 m (pc + 1) ls (.int (nI (x + y)) :: rest))) : W p l e R s m args below meth c H locs cells slots Q (F0 m pc ls (.int (nI y) :: .int (nI x) :: rest)) := lv_iadd G.1 G.2.1 hdg (t_i (nI_add x y) k)
theorem t_sub (G : CallFix p m c cc nL s args TB own) {x y : Nat} (h : y ≤ x) (hdg : decode cc pc = .ok (.isub, 1)) (k : W p l e R s m args below meth c H locs cells slots Q (F0 m (pc + 1) ls (.int (nI (x - y)) :: rest))) : W p l e R s m args below meth c H locs cells slots Q (F0 m pc ls (.int (nI y) :: .int (nI x) :: rest)) := lv_isub G.1 G.2.1 hdg (t_i (pk_sub h) k)
theorem t_mul (G : CallFix p m c cc nL s args TB own) {x y : Nat} (hdg : decode cc pc = .ok (.imul, 1)) (k : W p l e R s m args below meth c H locs cells slots Q (F0 m (pc + 1) ls (.int (nI (x * y)) :: rest))) : W p l e R s m args below meth c H locs cells slots Q (F0 m pc ls (.int (nI y) :: .int (nI x) :: rest)) := lv_imul G.1 G.2.1 hdg (t_i (pk_mul x y) k)
theorem t_div (G : CallFix p m c cc nL s args TB own) {x y : Nat} (hx : x < 2 ^ 31) (h0 : 0 < y) (hy : y < 2 ^ 31) (hdg : decode cc pc = .ok (.idiv, 1)) (k : W p l e R s m args below meth c H locs cells slots Q (F0 m (pc + 1) ls (.int (nI (x / y)) :: rest))) : W p l e R s m args below meth c H locs cells slots Q (F0 m pc ls (.int (nI y) :: .int (nI x) :: rest)) := lv_idiv G.1 G.2.1 hdg (nI_ne0 h0 hy) (t_i (pk_div hx h0 hy) k)
theorem t_rem (G : CallFix p m c cc nL s args TB own) {x y : Nat} (hx : x < 2 ^ 31) (h0 : 0 < y) (hy : y < 2 ^ 31) (hdg : decode cc pc = .ok (.irem, 1)) (k : W p l e R s m args below meth c H locs cells slots Q (F0 m (pc + 1) ls (.int (nI (x % y)) :: rest))) : W p l e R s m args below meth c H locs cells slots Q (F0 m pc ls (.int (nI y) :: .int (nI x) :: rest)) := lv_irem G.1 G.2.1 hdg (nI_ne0 h0 hy) (t_i (pk_rem hx h0 hy) k)
theorem c_eq (G : CallFix p m c cc nL s args TB own) {x y : Nat} {off : Int} {tgt : Nat} (hx : x < 2 ^ 31) (hy : y < 2 ^ 31) (hdg : decode cc pc = .ok (.if_icmp .eq off, 3)) (ht : (pc : Int) + off = (tgt : Int)) (kt : x = y → W p l e R s m args below meth c H locs cells slots Q (F0 m tgt ls rest)) (kf : x ≠ y → W p l e R s m args below meth c H locs cells slots Q (F0 m (pc + 3) ls rest)) : W p l e R s m args below meth c H locs cells slots Q (F0 m pc ls (.int (nI y) :: .int (nI x) :: rest)) := lv_icmp_eq G.1 G.2.1 hdg ht (fun h => kt ((nI_eq hx hy).mp h)) (fun h => kf (fun e => h ((nI_eq hx hy).mpr e)))
theorem c_ne (G : CallFix p m c cc nL s args TB own) {x y : Nat} {off : Int} {tgt : Nat} (hx : x < 2 ^ 31) (hy : y < 2 ^ 31) (hdg : decode cc pc = .ok (.if_icmp .ne off, 3)) (ht : (pc : Int) + off = (tgt : Int)) (kt : x ≠ y → W p l e R s m args below meth c H locs cells slots Q (F0 m tgt ls rest)) (kf : x = y → W p l e R s m args below meth c H locs cells slots Q (F0 m (pc + 3) ls rest)) : W p l e R s m args below meth c H locs cells slots Q (F0 m pc ls (.int (nI y) :: .int (nI x) :: rest)) := by
  refine lv_icmp_ne G.1 G.2.1 hdg ht (fun h => ?_) (fun h => ?_)
  · exact kt (fun e => h ((nI_eq hx hy).mpr e))
  · exact kf ((nI_eq hx hy).mp h)
theorem c_lt (G : CallFix p m c cc nL s args TB own) {x y : Nat} {off : Int} {tgt : Nat} (hx : x < 2 ^ 31) (hy : y < 2 ^ 31) (hdg : decode cc pc = .ok (.if_icmp .lt off, 3)) (ht : (pc : Int) + off = (tgt : Int)) (kt : x < y → W p l e R s m args below meth c H locs cells slots Q (F0 m tgt ls rest)) (kf : y ≤ x → W p l e R s m args below meth c H locs cells slots Q (F0 m (pc + 3) ls rest)) : W p l e R s m args below meth c H locs cells slots Q (F0 m pc ls (.int (nI y) :: .int (nI x) :: rest)) := lv_icmp_lt G.1 G.2.1 hdg ht (fun h => kt ((nI_ltI hx hy).mp h)) (fun h => kf (Nat.not_lt.mp fun e => h ((nI_ltI hx hy).mpr e)))
theorem c_ge (G : CallFix p m c cc nL s args TB own) {x y : Nat} {off : Int} {tgt : Nat} (hx : x < 2 ^ 31) (hy : y < 2 ^ 31) (hdg : decode cc pc = .ok (.if_icmp .ge off, 3)) (ht : (pc : Int) + off = (tgt : Int)) (kt : y ≤ x → W p l e R s m args below meth c H locs cells slots Q (F0 m tgt ls rest)) (kf : x < y → W p l e R s m args below meth c H locs cells slots Q (F0 m (pc + 3) ls rest)) : W p l e R s m args below meth c H locs cells slots Q (F0 m pc ls (.int (nI y) :: .int (nI x) :: rest)) := lv_icmp_ge G.1 G.2.1 hdg ht (fun h => kt ((nI_leI hy hx).mp h)) (fun h => kf (Nat.not_le.mp fun e => h ((nI_leI hy hx).mpr e)))
theorem c_gt (G : CallFix p m c cc nL s args TB own) {x y : Nat} {off : Int} {tgt : Nat} (hx : x < 2 ^ 31) (hy : y < 2 ^ 31) (hdg : decode cc pc = .ok (.if_icmp .gt off, 3)) (ht : (pc : Int) + off = (tgt : Int)) (kt : y < x → W p l e R s m args below meth c H locs cells slots Q (F0 m tgt ls rest)) (kf : x ≤ y → W p l e R s m args below meth c H locs cells slots Q (F0 m (pc + 3) ls rest)) : W p l e R s m args below meth c H locs cells slots Q (F0 m pc ls (.int (nI y) :: .int (nI x) :: rest)) := lv_icmp_gt G.1 G.2.1 hdg ht (fun h => kt ((nI_ltI hy hx).mp h)) (fun h => kf (Nat.not_lt.mp fun e => h ((nI_ltI hy hx).mpr e)))
theorem c_le (G : CallFix p m c cc nL s args TB own) {x y : Nat} {off : Int} {tgt : Nat} (hx : x < 2 ^ 31) (hy : y < 2 ^ 31) (hdg : decode cc pc = .ok (.if_icmp .le off, 3)) (ht : (pc : Int) + off = (tgt : Int)) (kt : x ≤ y → W p l e R s m args below meth c H locs cells slots Q (F0 m tgt ls rest)) (kf : y < x → W p l e R s m args below meth c H locs cells slots Q (F0 m (pc + 3) ls rest)) : W p l e R s m args below meth c H locs cells slots Q (F0 m pc ls (.int (nI y) :: .int (nI x) :: rest)) := lv_icmp_le G.1 G.2.1 hdg ht (fun h => kt ((nI_leI hx hy).mp h)) (fun h => kf (Nat.not_le.mp fun e => h ((nI_leI hx hy).mpr e)))
theorem z_eq (G : CallFix p m c cc nL s args TB own) {x : Nat} {off : Int} {tgt : Nat} (hx : x < 2 ^ 31) (hdg : decode cc pc = .ok (.ifCond .eq off, 3)) (ht : (pc : Int) + off = (tgt : Int)) (kt : x = 0 → W p l e R s m args below meth c H locs cells slots Q (F0 m tgt ls rest)) (kf : 0 < x → W p l e R s m args below meth c H locs cells slots Q (F0 m (pc + 3) ls rest)) : W p l e R s m args below meth c H locs cells slots Q (F0 m pc ls (.int (nI x) :: rest)) := lv_if_eq G.1 G.2.1 hdg ht (fun h => kt ((nI_eq hx (by decide)).mp (h.trans nI_0.symm))) (fun h => kf (Nat.pos_of_ne_zero fun e => h (by rw [e]; exact nI_0)))
theorem z_ne (G : CallFix p m c cc nL s args TB own) {x : Nat} {off : Int} {tgt : Nat} (hx : x < 2 ^ 31) (hdg : decode cc pc = .ok (.ifCond .ne off, 3)) (ht : (pc : Int) + off = (tgt : Int)) (kt : 0 < x → W p l e R s m args below meth c H locs cells slots Q (F0 m tgt ls rest)) (kf : x = 0 → W p l e R s m args below meth c H locs cells slots Q (F0 m (pc + 3) ls rest)) : W p l e R s m args below meth c H locs cells slots Q (F0 m pc ls (.int (nI x) :: rest)) := lv_if_ne G.1 G.2.1 hdg ht (fun h => kt (Nat.pos_of_ne_zero fun e => h (by rw [e]; exact nI_0))) (fun h => kf ((nI_eq hx (by decide)).mp (h.trans nI_0.symm)))
theorem z_le (G : CallFix p m c cc nL s args TB own) {x : Nat} {off : Int} {tgt : Nat} (hx : x < 2 ^ 31) (hdg : decode cc pc = .ok (.ifCond .le off, 3)) (ht : (pc : Int) + off = (tgt : Int)) (kt : x = 0 → W p l e R s m args below meth c H locs cells slots Q (F0 m tgt ls rest)) (kf : 0 < x → W p l e R s m args below meth c H locs cells slots Q (F0 m (pc + 3) ls rest)) : W p l e R s m args below meth c H locs cells slots Q (F0 m pc ls (.int (nI x) :: rest)) := lv_if_le G.1 G.2.1 hdg ht (fun h => kt (Nat.le_zero.mp ((nI_leI hx (by decide : 0 < 2 ^ 31)).mp (by rw [nI_0]; exact h)))) (fun h => kf (Nat.pos_of_ne_zero fun e => h (by rw [e, nI_0]; exact Int32.le_refl 0)))
theorem z_gt (G : CallFix p m c cc nL s args TB own) {x : Nat} {off : Int} {tgt : Nat} (hx : x < 2 ^ 31) (hdg : decode cc pc = .ok (.ifCond .gt off, 3)) (ht : (pc : Int) + off = (tgt : Int)) (kt : 0 < x → W p l e R s m args below meth c H locs cells slots Q (F0 m tgt ls rest)) (kf : x = 0 → W p l e R s m args below meth c H locs cells slots Q (F0 m (pc + 3) ls rest)) : W p l e R s m args below meth c H locs cells slots Q (F0 m pc ls (.int (nI x) :: rest)) := lv_if_gt G.1 G.2.1 hdg ht (fun h => kt ((nI_ltI (by decide : 0 < 2 ^ 31) hx).mp (by rw [nI_0]; exact h))) (fun h => kf (Nat.eq_zero_of_not_pos fun e => h (by have := (nI_ltI (by decide : 0 < 2 ^ 31) hx).mpr e; rw [nI_0] at this; exact this)))
theorem z_lt (G : CallFix p m c cc nL s args TB own) {x : Nat} {off : Int} {tgt : Nat} (hx : x < 2 ^ 31) (hdg : decode cc pc = .ok (.ifCond .lt off, 3)) (ht : (pc : Int) + off = (tgt : Int)) (kf : W p l e R s m args below meth c H locs cells slots Q (F0 m (pc + 3) ls rest)) : W p l e R s m args below meth c H locs cells slots Q (F0 m pc ls (.int (nI x) :: rest)) := lv_if_lt G.1 G.2.1 hdg ht (fun h => absurd h (nI_pos hx)) (fun _ => kf)
theorem z_ge (G : CallFix p m c cc nL s args TB own) {x : Nat} {off : Int} {tgt : Nat} (hx : x < 2 ^ 31) (hdg : decode cc pc = .ok (.ifCond .ge off, 3)) (ht : (pc : Int) + off = (tgt : Int)) (kt : W p l e R s m args below meth c H locs cells slots Q (F0 m tgt ls rest)) : W p l e R s m args below meth c H locs cells slots Q (F0 m pc ls (.int (nI x) :: rest)) := lv_if_ge G.1 G.2.1 hdg ht (fun _ => kt) (fun h => absurd (nI_pos' hx) h)
theorem b_eq (G : CallFix p m c cc nL s args TB own) {q : Prop} {off : Int} {tgt : Nat} (hdg : decode cc pc = .ok (.ifCond .eq off, 3)) (ht : (pc : Int) + off = (tgt : Int)) (kt : ¬ q → W p l e R s m args below meth c H locs cells slots Q (F0 m tgt ls rest)) (kf : q → W p l e R s m args below meth c H locs cells slots Q (F0 m (pc + 3) ls rest)) : W p l e R s m args below meth c H locs cells slots Q (F0 m pc ls (.int (bI q) :: rest)) := lv_if_eq G.1 G.2.1 hdg ht (fun h => kt (bI_eq0.mp h)) (fun h => kf (Classical.not_not.mp fun e => h (bI_eq0.mpr e)))
theorem b_ne (G : CallFix p m c cc nL s args TB own) {q : Prop} {off : Int} {tgt : Nat} (hdg : decode cc pc = .ok (.ifCond .ne off, 3)) (ht : (pc : Int) + off = (tgt : Int)) (kt : q → W p l e R s m args below meth c H locs cells slots Q (F0 m tgt ls rest)) (kf : ¬ q → W p l e R s m args below meth c H locs cells slots Q (F0 m (pc + 3) ls rest)) : W p l e R s m args below meth c H locs cells slots Q (F0 m pc ls (.int (bI q) :: rest)) := lv_if_ne G.1 G.2.1 hdg ht (fun h => kt (Classical.not_not.mp fun e => h (bI_eq0.mpr e))) (fun h => kf (bI_eq0.mp h))
theorem a_ld (G : CallFix p m c cc nL s args TB own) (K : va_K D vwCl T s) (hP : va_P D vwCl ws H) (q0 t0 : Nat) {cA : ClassId} {n : Nat} {f : Nat → Int32} (ha : ws[q0]? = some (a, .inl (cA, n, .inl f))) (ht : T[t0]? = some (cA, .int)) {k : Nat} (hk : k < n) (hn : n < 2 ^ 31) (hdg : decode cc pc = .ok (.iaload, 1))
    (kk : W p l e R s m args below meth c H locs cells slots Q (F0 m (pc + 1) ls (.int (f k) :: rest))) : W p l e R s m args below meth c H locs cells slots Q (F0 m pc ls (.int (nI k) :: .ref a :: rest)) := va_iald G.1 G.2.1 K hP q0 t0 ha ht (vp_in_nI hk hn) hdg (t_i (by rw [nI_clamp (Nat.lt_trans hk hn)]) kk)
theorem a_ldN (G : CallFix p m c cc nL s args TB own) (K : va_K D vwCl T s) (hP : va_P D vwCl ws H) (q0 t0 : Nat) {cA : ClassId} {n : Nat} {g : Nat → Nat} (ha : ws[q0]? = some (a, .inl (cA, n, .inl (fun j => nI (g j))))) (ht : T[t0]? = some (cA, .int)) {k : Nat} (hk : k < n) (hn : n < 2 ^ 31) (hdg : decode cc pc = .ok (.iaload, 1))
    (kk : W p l e R s m args below meth c H locs cells slots Q (F0 m (pc + 1) ls (.int (nI (g k)) :: rest))) : W p l e R s m args below meth c H locs cells slots Q (F0 m pc ls (.int (nI k) :: .ref a :: rest)) := a_ld G K hP q0 t0 ha ht hk hn hdg kk
theorem a_ldB (G : CallFix p m c cc nL s args TB own) (K : va_K D vwCl T s) (hP : va_P D vwCl ws H) (q0 t0 : Nat) {cA : ClassId} {n : Nat} {g : Nat → Prop} (ha : ws[q0]? = some (a, .inl (cA, n, .inl (fun j => bI (g j))))) (ht : T[t0]? = some (cA, .boolean)) {k : Nat} (hk : k < n) (hn : n < 2 ^ 31) (hdg : decode cc pc = .ok (.baload, 1))
    (kk : W p l e R s m args below meth c H locs cells slots Q (F0 m (pc + 1) ls (.int (bI (g k)) :: rest))) : W p l e R s m args below meth c H locs cells slots Q (F0 m pc ls (.int (nI k) :: .ref a :: rest)) := va_zald G.1 G.2.1 K hP q0 t0 ha ht (vp_in_nI hk hn) hdg (t_i (by rw [nI_clamp (Nat.lt_trans hk hn)]) kk)
theorem a_st (G : CallFix p m c cc nL s args TB own) (K : va_K D vwCl T s) (w : WW D A H0 ws H locs) (q0 t0 : Nat) {cA : ClassId} {n : Nat} {f : Nat → Int32} (ha : ws[q0]? = some (a, .inl (cA, n, .inl f))) (ht : T[t0]? = some (cA, .int)) {k : Nat} (hk : k < n) (hn : n < 2 ^ 31) {x : Int32} (hdg : decode cc pc = .ok (.iastore, 1)) {w2 : va_W} (hw : ws.set q0 (a, .inl (cA, n, .inl (va_up f k x))) = w2)
    (kk : ∀ (H1 : Heap) (locs1 : List Loc), WW D A H0 w2 H1 locs1 → W p l e R s m args below meth c H1 locs1 cells slots Q (F0 m (pc + 1) ls rest)) : W p l e R s m args below meth c H locs cells slots Q (F0 m pc ls (.int x :: .int (nI k) :: .ref a :: rest)) := by
  refine va_iast G.1 G.2.1 K w.1 w.2.1 w.2.2 q0 t0 ha ht (vp_in_nI hk hn) hdg (fun H1 locs1 hP hD hS => ?_)
  rw [nI_clamp (Nat.lt_trans hk hn)] at hP hD
  exact kk H1 locs1 ⟨hw ▸ hP, hw ▸ hD, hS⟩
theorem a_stN (G : CallFix p m c cc nL s args TB own) (K : va_K D vwCl T s) (w : WW D A H0 ws H locs) (q0 t0 : Nat) {cA : ClassId} {n : Nat} {g : Nat → Nat} (ha : ws[q0]? = some (a, .inl (cA, n, .inl (fun j => nI (g j))))) (ht : T[t0]? = some (cA, .int)) {k : Nat} (hk : k < n) (hn : n < 2 ^ 31) {x : Nat} (hdg : decode cc pc = .ok (.iastore, 1)) {w2 : va_W} (hw : ws.set q0 (a, .inl (cA, n, .inl (fun j => nI (va_up g k x j)))) = w2)
    (kk : ∀ (H1 : Heap) (locs1 : List Loc), WW D A H0 w2 H1 locs1 → W p l e R s m args below meth c H1 locs1 cells slots Q (F0 m (pc + 1) ls rest)) : W p l e R s m args below meth c H locs cells slots Q (F0 m pc ls (.int (nI x) :: .int (nI k) :: .ref a :: rest)) := a_st G K w q0 t0 ha ht hk hn hdg (by rw [← upR, upN]; exact hw) kk
theorem a_stB (G : CallFix p m c cc nL s args TB own) (K : va_K D vwCl T s) (w : WW D A H0 ws H locs) (q0 t0 : Nat) {cA : ClassId} {n : Nat} {g : Nat → Prop} (ha : ws[q0]? = some (a, .inl (cA, n, .inl (fun j => bI (g j))))) (ht : T[t0]? = some (cA, .boolean)) {k : Nat} (hk : k < n) (hn : n < 2 ^ 31) {q : Prop} {x : Int32} (hq : x = bI q) (hdg : decode cc pc = .ok (.bastore, 1)) {w2 : va_W} (hw : ws.set q0 (a, .inl (cA, n, .inl (fun j => bI (va_up g k q j)))) = w2)
    (kk : ∀ (H1 : Heap) (locs1 : List Loc), WW D A H0 w2 H1 locs1 → W p l e R s m args below meth c H1 locs1 cells slots Q (F0 m (pc + 1) ls rest)) : W p l e R s m args below meth c H locs cells slots Q (F0 m pc ls (.int x :: .int (nI k) :: .ref a :: rest)) := by
  subst hq
  refine va_zast G.1 G.2.1 K w.1 w.2.1 w.2.2 q0 t0 ha ht (vp_in_nI hk hn) hdg (fun H1 locs1 hP hD hS => ?_)
  rw [nI_clamp (Nat.lt_trans hk hn), vnarB, upB] at hP hD
  exact kk H1 locs1 ⟨hw ▸ hP, hw ▸ hD, hS⟩
theorem f_get (G : CallFix p m c cc nL s args TB own) (K : va_K D vwCl T s) (hP : va_P D vwCl ws H) {C : String} {TC : u_T} {N ci index : Nat} (hin : ∀ w ∈ u_ws C TC N, w ∈ TB) (q0 : Nat) {fs : List Value} (he : ws[q0]? = some (a, .inr (ci, fs))) (hc : vwCl[ci]? = some (C, TC, N)) (k : Nat) (hk : Nat.blt k N = true) (hl : Cond.fieldLink own index (TC k).1 (TC k).2.1 (TC k).2.2.1 ∈ TB) {v : Value} (hv : fs[k]? = some v) (hdg : decode cc pc = .ok (.getfield index, 3))
    (kk : W p l e R s m args below meth c H locs cells slots Q (F0 m (pc + 3) ls (v :: rest))) : W p l e R s m args below meth c H locs cells slots Q (F0 m pc ls (.ref a :: rest)) := va_get G.1 G.2.1 G.2.2.2.2 hin G.2.2.2.1 K hP q0 he hc k (Nat.blt_eq.mp hk) (G.2.2.2.2 _ hl) (fun _ h => h) hv hdg kk
theorem f_put (G : CallFix p m c cc nL s args TB own) (K : va_K D vwCl T s) (w : WW D A H0 ws H locs) {C : String} {TC : u_T} {N ci index : Nat} (hin : ∀ w ∈ u_ws C TC N, w ∈ TB) (ty0 : Nat → FieldType) (hty : ∀ k, k < N → parseFieldDescriptor (TC k).2.2.1 = some (ty0 k)) (hnm : ∀ a, a < N → ∀ b, b < N → a ≠ b → (TC a).2.1 ≠ (TC b).2.1) (q0 : Nat) {fs : List Value} (he : ws[q0]? = some (a, .inr (ci, fs))) (hc : vwCl[ci]? = some (C, TC, N)) (k : Nat) (hk : Nat.blt k N = true) (hl : Cond.fieldLink own index (TC k).1 (TC k).2.1 (TC k).2.2.1 ∈ TB) (hfin : (TC k).2.2.2 = false) {v : Value} (hn : narrow (ty0 k) v = v) (hfit : fits (ty0 k) v = true) (hlen : Nat.blt k fs.length = true) (hdg : decode cc pc = .ok (.putfield index, 3)) {w2 : va_W} (hw : ws.set q0 (a, .inr (ci, fs.set k v)) = w2)
    (kk : ∀ (H1 : Heap) (locs1 : List Loc), WW D A H0 w2 H1 locs1 → W p l e R s m args below meth c H1 locs1 cells slots Q (F0 m (pc + 3) ls rest)) : W p l e R s m args below meth c H locs cells slots Q (F0 m pc ls (v :: .ref a :: rest)) :=
  va_put G.1 G.2.1 G.2.2.2.2 hin ty0 hty hnm G.2.2.2.1 K w.1 w.2.1 w.2.2 q0 he hc k (Nat.blt_eq.mp hk) (G.2.2.2.2 _ hl) (fun _ h => h) hfin (hty k (Nat.blt_eq.mp hk)) hn hfit (Nat.blt_eq.mp hlen) hdg (fun H1 locs1 hP hD hS => kk H1 locs1 ⟨hw ▸ hP, hw ▸ hD, hS⟩)
end MyRows
end
section
theorem F_X0_has : MV yX0_has cX0_has 2 (some .boolean) 1 := ⟨im_X0_has, se_X0_has, in_X0, cd_X0_has, by decide +kernel, by decide +kernel, by decide +kernel⟩
theorem F_X0_appendWrite : MV yX0_appendWrite cX0_appendWrite 4 none 3 := ⟨im_X0_appendWrite, se_X0_appendWrite, in_X0, cd_X0_appendWrite, by decide +kernel, by decide +kernel, by decide +kernel⟩
theorem F_X0_appendClosing : MV yX0_appendClosing cX0_appendClosing 2 none 1 := ⟨im_X0_appendClosing, se_X0_appendClosing, in_X0, cd_X0_appendClosing, by decide +kernel, by decide +kernel, by decide +kernel⟩
theorem F_X0_dropWrite : MV yX0_dropWrite cX0_dropWrite 1 none 0 := ⟨im_X0_dropWrite, se_X0_dropWrite, in_X0, cd_X0_dropWrite, by decide +kernel, by decide +kernel, by decide +kernel⟩
theorem F_X0_layValue : MV yX0_layValue cX0_layValue 3 none 2 := ⟨im_X0_layValue, se_X0_layValue, in_X0, cd_X0_layValue, by decide +kernel, by decide +kernel, by decide +kernel⟩
theorem F_X0_lengthWithin : MV yX0_lengthWithin cX0_lengthWithin 3 (some .int) 2 := ⟨im_X0_lengthWithin, se_X0_lengthWithin, in_X0, cd_X0_lengthWithin, by decide +kernel, by decide +kernel, by decide +kernel⟩
theorem F_X0_numberOver : MV yX0_numberOver cX0_numberOver 7 (some .int) 3 := ⟨im_X0_numberOver, se_X0_numberOver, in_X0, cd_X0_numberOver, by decide +kernel, by decide +kernel, by decide +kernel⟩
theorem F_X1_forget : MV yX1_forget cX1_forget 2 none 1 := ⟨im_X1_forget, se_X1_forget, in_X1, cd_X1_forget, by decide +kernel, by decide +kernel, by decide +kernel⟩
theorem F_X1_keepEdges : MV yX1_keepEdges cX1_keepEdges 6 none 5 := ⟨im_X1_keepEdges, se_X1_keepEdges, in_X1, cd_X1_keepEdges, by decide +kernel, by decide +kernel, by decide +kernel⟩
theorem F_X1_edge : MV yX1_edge cX1_edge 3 (some .int) 2 := ⟨im_X1_edge, se_X1_edge, in_X1, cd_X1_edge, by decide +kernel, by decide +kernel, by decide +kernel⟩
theorem F_X1_bytesWithin : MV yX1_bytesWithin cX1_bytesWithin 2 (some .int) 1 := ⟨im_X1_bytesWithin, se_X1_bytesWithin, in_X1, cd_X1_bytesWithin, by decide +kernel, by decide +kernel, by decide +kernel⟩
theorem F_X1_keepNumbers : MV yX1_keepNumbers cX1_keepNumbers 3 none 1 := ⟨im_X1_keepNumbers, se_X1_keepNumbers, in_X1, cd_X1_keepNumbers, by decide +kernel, by decide +kernel, by decide +kernel⟩
theorem F_X1_reckonAll : MV yX1_reckonAll cX1_reckonAll 2 none 0 := ⟨im_X1_reckonAll, se_X1_reckonAll, in_X1, cd_X1_reckonAll, by decide +kernel, by decide +kernel, by decide +kernel⟩
theorem F_X1_numberNow : MV yX1_numberNow cX1_numberNow 3 (some .int) 1 := ⟨im_X1_numberNow, se_X1_numberNow, in_X1, cd_X1_numberNow, by decide +kernel, by decide +kernel, by decide +kernel⟩
theorem F_X1_flawsOfEdges : MV yX1_flawsOfEdges cX1_flawsOfEdges 3 (some .int) 1 := ⟨im_X1_flawsOfEdges, se_X1_flawsOfEdges, in_X1, cd_X1_flawsOfEdges, by decide +kernel, by decide +kernel, by decide +kernel⟩
theorem F_X1_edgeIfUntold : MV yX1_edgeIfUntold cX1_edgeIfUntold 3 (some .int) 2 := ⟨im_X1_edgeIfUntold, se_X1_edgeIfUntold, in_X1, cd_X1_edgeIfUntold, by decide +kernel, by decide +kernel, by decide +kernel⟩
theorem F_X2_retell : MV yX2_retell cX2_retell 3 none 1 := ⟨im_X2_retell, se_X2_retell, in_X2, cd_X2_retell, by decide +kernel, by decide +kernel, by decide +kernel⟩
theorem F_X2_latestOf : MV yX2_latestOf cX2_latestOf 3 (some .int) 2 := ⟨im_X2_latestOf, se_X2_latestOf, in_X2, cd_X2_latestOf, by decide +kernel, by decide +kernel, by decide +kernel⟩
theorem F_X2_changesBehind : MV yX2_changesBehind cX2_changesBehind 2 (some .int) 1 := ⟨im_X2_changesBehind, se_X2_changesBehind, in_X2, cd_X2_changesBehind, by decide +kernel, by decide +kernel, by decide +kernel⟩
theorem F_X2_sortOf : MV yX2_sortOf cX2_sortOf 11 (some .int) 2 := ⟨im_X2_sortOf, se_X2_sortOf, in_X2, cd_X2_sortOf, by decide +kernel, by decide +kernel, by decide +kernel⟩
theorem F_X2_judgeBehind : MV yX2_judgeBehind cX2_judgeBehind 4 none 1 := ⟨im_X2_judgeBehind, se_X2_judgeBehind, in_X2, cd_X2_judgeBehind, by decide +kernel, by decide +kernel, by decide +kernel⟩
theorem F_X2_startRow : MV yX2_startRow cX2_startRow 3 none 1 := ⟨im_X2_startRow, se_X2_startRow, in_X2, cd_X2_startRow, by decide +kernel, by decide +kernel, by decide +kernel⟩
theorem F_X2_takeWrites : MV yX2_takeWrites cX2_takeWrites 6 none 2 := ⟨im_X2_takeWrites, se_X2_takeWrites, in_X2, cd_X2_takeWrites, by decide +kernel, by decide +kernel, by decide +kernel⟩
theorem F_X2_thingsThere : MV yX2_thingsThere cX2_thingsThere 4 (some .int) 1 := ⟨im_X2_thingsThere, se_X2_thingsThere, in_X2, cd_X2_thingsThere, by decide +kernel, by decide +kernel, by decide +kernel⟩
theorem F_X2_noteChanges : MV yX2_noteChanges cX2_noteChanges 3 none 1 := ⟨im_X2_noteChanges, se_X2_noteChanges, in_X2, cd_X2_noteChanges, by decide +kernel, by decide +kernel, by decide +kernel⟩
theorem F_X2_isOther : MV yX2_isOther cX2_isOther 5 (some .boolean) 2 := ⟨im_X2_isOther, se_X2_isOther, in_X2, cd_X2_isOther, by decide +kernel, by decide +kernel, by decide +kernel⟩
theorem F_X2_isIn : MS yX2_isIn cX2_isIn 2 (some .boolean) 2 := ⟨st_X2_isIn, in_X2, cd_X2_isIn, by decide +kernel, by decide +kernel, by decide +kernel⟩
theorem F_X2_isFilling : MS yX2_isFilling cX2_isFilling 2 (some .boolean) 2 := ⟨st_X2_isFilling, in_X2, cd_X2_isFilling, by decide +kernel, by decide +kernel, by decide +kernel⟩
theorem F_X2_isNoteOrGone : MS yX2_isNoteOrGone cX2_isNoteOrGone 1 (some .boolean) 1 := ⟨st_X2_isNoteOrGone, in_X2, cd_X2_isNoteOrGone, by decide +kernel, by decide +kernel, by decide +kernel⟩
theorem F_X3_renew : MV yX3_renew cX3_renew 3 none 2 := ⟨im_X3_renew, se_X3_renew, in_X3, cd_X3_renew, by decide +kernel, by decide +kernel, by decide +kernel⟩
theorem F_X3_findingAt : MV yX3_findingAt cX3_findingAt 3 (some .int) 2 := ⟨im_X3_findingAt, se_X3_findingAt, in_X3, cd_X3_findingAt, by decide +kernel, by decide +kernel, by decide +kernel⟩
theorem F_X3_hasItems : MV yX3_hasItems cX3_hasItems 3 (some .boolean) 2 := ⟨im_X3_hasItems, se_X3_hasItems, in_X3, cd_X3_hasItems, by decide +kernel, by decide +kernel, by decide +kernel⟩
theorem F_X3_layItem : MV yX3_layItem cX3_layItem 3 none 2 := ⟨im_X3_layItem, se_X3_layItem, in_X3, cd_X3_layItem, by decide +kernel, by decide +kernel, by decide +kernel⟩
theorem F_X4_append : MV yX4_append cX4_append 4 none 3 := ⟨im_X4_append, se_X4_append, in_X4, cd_X4_append, by decide +kernel, by decide +kernel, by decide +kernel⟩
theorem F_X4_openNext : MV yX4_openNext cX4_openNext 1 none 0 := ⟨im_X4_openNext, se_X4_openNext, in_X4, cd_X4_openNext, by decide +kernel, by decide +kernel, by decide +kernel⟩
theorem F_X4_has : MV yX4_has cX4_has 2 (some .boolean) 1 := ⟨im_X4_has, se_X4_has, in_X4, cd_X4_has, by decide +kernel, by decide +kernel, by decide +kernel⟩
theorem F_X4_hasRevision : MV yX4_hasRevision cX4_hasRevision 2 (some .boolean) 1 := ⟨im_X4_hasRevision, se_X4_hasRevision, in_X4, cd_X4_hasRevision, by decide +kernel, by decide +kernel, by decide +kernel⟩
theorem F_X4_openIsEmpty : MV yX4_openIsEmpty cX4_openIsEmpty 1 (some .boolean) 0 := ⟨im_X4_openIsEmpty, se_X4_openIsEmpty, in_X4, cd_X4_openIsEmpty, by decide +kernel, by decide +kernel, by decide +kernel⟩
theorem F_X4_isSeal : MV yX4_isSeal cX4_isSeal 2 (some .boolean) 1 := ⟨im_X4_isSeal, se_X4_isSeal, in_X4, cd_X4_isSeal, by decide +kernel, by decide +kernel, by decide +kernel⟩
theorem F_X4_isClosed : MV yX4_isClosed cX4_isClosed 2 (some .boolean) 1 := ⟨im_X4_isClosed, se_X4_isClosed, in_X4, cd_X4_isClosed, by decide +kernel, by decide +kernel, by decide +kernel⟩
theorem F_X4_isClosedSeal : MV yX4_isClosedSeal cX4_isClosedSeal 2 (some .boolean) 1 := ⟨im_X4_isClosedSeal, se_X4_isClosedSeal, in_X4, cd_X4_isClosedSeal, by decide +kernel, by decide +kernel, by decide +kernel⟩
theorem F_X4_unlike : MV yX4_unlike cX4_unlike 3 (some .boolean) 2 := ⟨im_X4_unlike, se_X4_unlike, in_X4, cd_X4_unlike, by decide +kernel, by decide +kernel, by decide +kernel⟩
theorem F_X4_kindOrGone : MV yX4_kindOrGone cX4_kindOrGone 2 (some .int) 1 := ⟨im_X4_kindOrGone, se_X4_kindOrGone, in_X4, cd_X4_kindOrGone, by decide +kernel, by decide +kernel, by decide +kernel⟩
theorem F_X4_behind : MV yX4_behind cX4_behind 2 (some .int) 1 := ⟨im_X4_behind, se_X4_behind, in_X4, cd_X4_behind, by decide +kernel, by decide +kernel, by decide +kernel⟩
theorem F_X4_firstByte : MV yX4_firstByte cX4_firstByte 2 (some .int) 1 := ⟨im_X4_firstByte, se_X4_firstByte, in_X4, cd_X4_firstByte, by decide +kernel, by decide +kernel, by decide +kernel⟩
theorem F_X4_firstByteOf : MV yX4_firstByteOf cX4_firstByteOf 2 (some .int) 1 := ⟨im_X4_firstByteOf, se_X4_firstByteOf, in_X4, cd_X4_firstByteOf, by decide +kernel, by decide +kernel, by decide +kernel⟩
theorem F_X4_behindBytesOf : MV yX4_behindBytesOf cX4_behindBytesOf 2 (some .int) 1 := ⟨im_X4_behindBytesOf, se_X4_behindBytesOf, in_X4, cd_X4_behindBytesOf, by decide +kernel, by decide +kernel, by decide +kernel⟩
theorem F_X5_put : MV yX5_put cX5_put 5 (some .int) 3 := ⟨im_X5_put, se_X5_put, in_X5, cd_X5_put, by decide +kernel, by decide +kernel, by decide +kernel⟩
theorem F_X5_close : MV yX5_close cX5_close 1 (some .int) 0 := ⟨im_X5_close, se_X5_close, in_X5, cd_X5_close, by decide +kernel, by decide +kernel, by decide +kernel⟩
theorem F_X5_undo : MV yX5_undo cX5_undo 1 (some .int) 0 := ⟨im_X5_undo, se_X5_undo, in_X5, cd_X5_undo, by decide +kernel, by decide +kernel, by decide +kernel⟩
theorem F_X5_cover : MV yX5_cover cX5_cover 7 (some .int) 5 := ⟨im_X5_cover, se_X5_cover, in_X5, cd_X5_cover, by decide +kernel, by decide +kernel, by decide +kernel⟩
theorem F_X5_alter : MV yX5_alter cX5_alter 4 (some .int) 2 := ⟨im_X5_alter, se_X5_alter, in_X5, cd_X5_alter, by decide +kernel, by decide +kernel, by decide +kernel⟩
theorem F_X5_read : MV yX5_read cX5_read 5 (some .int) 1 := ⟨im_X5_read, se_X5_read, in_X5, cd_X5_read, by decide +kernel, by decide +kernel, by decide +kernel⟩
theorem F_X5_write : MV yX5_write cX5_write 3 (some .int) 2 := ⟨im_X5_write, se_X5_write, in_X5, cd_X5_write, by decide +kernel, by decide +kernel, by decide +kernel⟩
theorem F_X5_revision : MV yX5_revision cX5_revision 3 (some .int) 2 := ⟨im_X5_revision, se_X5_revision, in_X5, cd_X5_revision, by decide +kernel, by decide +kernel, by decide +kernel⟩
theorem F_X5_bytes : MV yX5_bytes cX5_bytes 2 (some .int) 1 := ⟨im_X5_bytes, se_X5_bytes, in_X5, cd_X5_bytes, by decide +kernel, by decide +kernel, by decide +kernel⟩
theorem F_X5_thing : MV yX5_thing cX5_thing 5 (some .int) 3 := ⟨im_X5_thing, se_X5_thing, in_X5, cd_X5_thing, by decide +kernel, by decide +kernel, by decide +kernel⟩
theorem F_X5_shadows : MV yX5_shadows cX5_shadows 2 (some .int) 1 := ⟨im_X5_shadows, se_X5_shadows, in_X5, cd_X5_shadows, by decide +kernel, by decide +kernel, by decide +kernel⟩
theorem F_X5_covers : MV yX5_covers cX5_covers 3 (some .int) 2 := ⟨im_X5_covers, se_X5_covers, in_X5, cd_X5_covers, by decide +kernel, by decide +kernel, by decide +kernel⟩
theorem F_X5_covered : MV yX5_covered cX5_covered 2 (some .int) 1 := ⟨im_X5_covered, se_X5_covered, in_X5, cd_X5_covered, by decide +kernel, by decide +kernel, by decide +kernel⟩
theorem F_X5_number : MV yX5_number cX5_number 3 (some .int) 2 := ⟨im_X5_number, se_X5_number, in_X5, cd_X5_number, by decide +kernel, by decide +kernel, by decide +kernel⟩
theorem F_X5_flaws : MV yX5_flaws cX5_flaws 2 (some .int) 1 := ⟨im_X5_flaws, se_X5_flaws, in_X5, cd_X5_flaws, by decide +kernel, by decide +kernel, by decide +kernel⟩
theorem F_X5_judge : MV yX5_judge cX5_judge 4 (some .int) 2 := ⟨im_X5_judge, se_X5_judge, in_X5, cd_X5_judge, by decide +kernel, by decide +kernel, by decide +kernel⟩
theorem F_X5_change : MV yX5_change cX5_change 6 (some .int) 3 := ⟨im_X5_change, se_X5_change, in_X5, cd_X5_change, by decide +kernel, by decide +kernel, by decide +kernel⟩
theorem F_X5_allowed : MV yX5_allowed cX5_allowed 4 (some .int) 1 := ⟨im_X5_allowed, se_X5_allowed, in_X5, cd_X5_allowed, by decide +kernel, by decide +kernel, by decide +kernel⟩
theorem F_X5_first : MV yX5_first cX5_first 4 (some .int) 1 := ⟨im_X5_first, se_X5_first, in_X5, cd_X5_first, by decide +kernel, by decide +kernel, by decide +kernel⟩
theorem F_X5_holding : MV yX5_holding cX5_holding 2 (some .int) 1 := ⟨im_X5_holding, se_X5_holding, in_X5, cd_X5_holding, by decide +kernel, by decide +kernel, by decide +kernel⟩
theorem F_X5_better : MV yX5_better cX5_better 6 (some .int) 1 := ⟨im_X5_better, se_X5_better, in_X5, cd_X5_better, by decide +kernel, by decide +kernel, by decide +kernel⟩
theorem F_X5_sheet : MV yX5_sheet cX5_sheet 4 (some .int) 3 := ⟨im_X5_sheet, se_X5_sheet, in_X5, cd_X5_sheet, by decide +kernel, by decide +kernel, by decide +kernel⟩
theorem F_X5_lose : MV yX5_lose cX5_lose 2 (some .int) 1 := ⟨im_X5_lose, se_X5_lose, in_X5, cd_X5_lose, by decide +kernel, by decide +kernel, by decide +kernel⟩
theorem F_X5_lay : MV yX5_lay cX5_lay 6 (some .int) 4 := ⟨im_X5_lay, se_X5_lay, in_X5, cd_X5_lay, by decide +kernel, by decide +kernel, by decide +kernel⟩
theorem F_X5_get : MV yX5_get cX5_get 5 (some .int) 3 := ⟨im_X5_get, se_X5_get, in_X5, cd_X5_get, by decide +kernel, by decide +kernel, by decide +kernel⟩
theorem F_X5_copy : MV yX5_copy cX5_copy 8 (some .int) 5 := ⟨im_X5_copy, se_X5_copy, in_X5, cd_X5_copy, by decide +kernel, by decide +kernel, by decide +kernel⟩
theorem F_X5_tell : MV yX5_tell cX5_tell 6 (some .int) 2 := ⟨im_X5_tell, se_X5_tell, in_X5, cd_X5_tell, by decide +kernel, by decide +kernel, by decide +kernel⟩
theorem F_X5_count : MV yX5_count cX5_count 2 (some .int) 1 := ⟨im_X5_count, se_X5_count, in_X5, cd_X5_count, by decide +kernel, by decide +kernel, by decide +kernel⟩
theorem F_X5_digest : MV yX5_digest cX5_digest 4 (some .long) 0 := ⟨im_X5_digest, se_X5_digest, in_X5, cd_X5_digest, by decide +kernel, by decide +kernel, by decide +kernel⟩
theorem F_X5_digestRevision : MV yX5_digestRevision cX5_digestRevision 7 (some .long) 2 := ⟨im_X5_digestRevision, se_X5_digestRevision, in_X5, cd_X5_digestRevision, by decide +kernel, by decide +kernel, by decide +kernel⟩
theorem F_X5_digestThing : MV yX5_digestThing cX5_digestThing 7 (some .long) 2 := ⟨im_X5_digestThing, se_X5_digestThing, in_X5, cd_X5_digestThing, by decide +kernel, by decide +kernel, by decide +kernel⟩
theorem F_X5_digestWrite : MV yX5_digestWrite cX5_digestWrite 7 (some .long) 2 := ⟨im_X5_digestWrite, se_X5_digestWrite, in_X5, cd_X5_digestWrite, by decide +kernel, by decide +kernel, by decide +kernel⟩
theorem F_X5_digestChanges : MV yX5_digestChanges cX5_digestChanges 8 (some .long) 2 := ⟨im_X5_digestChanges, se_X5_digestChanges, in_X5, cd_X5_digestChanges, by decide +kernel, by decide +kernel, by decide +kernel⟩
theorem F_X5_digestFile : MV yX5_digestFile cX5_digestFile 6 (some .long) 1 := ⟨im_X5_digestFile, se_X5_digestFile, in_X5, cd_X5_digestFile, by decide +kernel, by decide +kernel, by decide +kernel⟩
theorem F_X5_isThing : MS yX5_isThing cX5_isThing 1 (some .boolean) 1 := ⟨st_X5_isThing, in_X5, cd_X5_isThing, by decide +kernel, by decide +kernel, by decide +kernel⟩
theorem F_X5_mayBeValue : MS yX5_mayBeValue cX5_mayBeValue 2 (some .boolean) 2 := ⟨st_X5_mayBeValue, in_X5, cd_X5_mayBeValue, by decide +kernel, by decide +kernel, by decide +kernel⟩
theorem F_X5_mayBeWrite : MS yX5_mayBeWrite cX5_mayBeWrite 3 (some .boolean) 3 := ⟨st_X5_mayBeWrite, in_X5, cd_X5_mayBeWrite, by decide +kernel, by decide +kernel, by decide +kernel⟩
theorem F_X5_isSheet : MS yX5_isSheet cX5_isSheet 1 (some .boolean) 1 := ⟨st_X5_isSheet, in_X5, cd_X5_isSheet, by decide +kernel, by decide +kernel, by decide +kernel⟩
theorem F_X5_isForm : MS yX5_isForm cX5_isForm 1 (some .boolean) 1 := ⟨st_X5_isForm, in_X5, cd_X5_isForm, by decide +kernel, by decide +kernel, by decide +kernel⟩
theorem F_X5_find : MV yX5_find cX5_find 2 (some .int) 1 := ⟨im_X5_find, se_X5_find, in_X5, cd_X5_find, by decide +kernel, by decide +kernel, by decide +kernel⟩
theorem F_X5_takeWrite : MV yX5_takeWrite cX5_takeWrite 4 (some .int) 3 := ⟨im_X5_takeWrite, se_X5_takeWrite, in_X5, cd_X5_takeWrite, by decide +kernel, by decide +kernel, by decide +kernel⟩
theorem F_X5_reckon : MV yX5_reckon cX5_reckon 1 none 0 := ⟨im_X5_reckon, se_X5_reckon, in_X5, cd_X5_reckon, by decide +kernel, by decide +kernel, by decide +kernel⟩
theorem F_X5_holds : MV yX5_holds cX5_holds 3 (some .boolean) 2 := ⟨im_X5_holds, se_X5_holds, in_X5, cd_X5_holds, by decide +kernel, by decide +kernel, by decide +kernel⟩
theorem F_X5_howManyHold : MV yX5_howManyHold cX5_howManyHold 5 (some .int) 2 := ⟨im_X5_howManyHold, se_X5_howManyHold, in_X5, cd_X5_howManyHold, by decide +kernel, by decide +kernel, by decide +kernel⟩
theorem F_X5_howManyClosedSeals : MV yX5_howManyClosedSeals cX5_howManyClosedSeals 3 (some .int) 0 := ⟨im_X5_howManyClosedSeals, se_X5_howManyClosedSeals, in_X5, cd_X5_howManyClosedSeals, by decide +kernel, by decide +kernel, by decide +kernel⟩
theorem F_X5_howManyShadowed : MV yX5_howManyShadowed cX5_howManyShadowed 3 (some .int) 0 := ⟨im_X5_howManyShadowed, se_X5_howManyShadowed, in_X5, cd_X5_howManyShadowed, by decide +kernel, by decide +kernel, by decide +kernel⟩
theorem F_X5_firstSealAgainst : MV yX5_firstSealAgainst cX5_firstSealAgainst 4 (some .int) 1 := ⟨im_X5_firstSealAgainst, se_X5_firstSealAgainst, in_X5, cd_X5_firstSealAgainst, by decide +kernel, by decide +kernel, by decide +kernel⟩
theorem F_X6_in : MS yX6_in cX6_in 6 (some .boolean) 3 := ⟨st_X6_in, in_X6, cd_X6_in, by decide +kernel, by decide +kernel, by decide +kernel⟩
theorem F_X6_isTwo : MS yX6_isTwo cX6_isTwo 1 (some .boolean) 1 := ⟨st_X6_isTwo, in_X6, cd_X6_isTwo, by decide +kernel, by decide +kernel, by decide +kernel⟩
theorem F_X6_isIn : MS yX6_isIn cX6_isIn 2 (some .boolean) 2 := ⟨st_X6_isIn, in_X6, cd_X6_isIn, by decide +kernel, by decide +kernel, by decide +kernel⟩
theorem F_X6_lesser : MS yX6_lesser cX6_lesser 2 (some .int) 2 := ⟨st_X6_lesser, in_X6, cd_X6_lesser, by decide +kernel, by decide +kernel, by decide +kernel⟩
theorem F_X6_greater : MS yX6_greater cX6_greater 2 (some .int) 2 := ⟨st_X6_greater, in_X6, cd_X6_greater, by decide +kernel, by decide +kernel, by decide +kernel⟩
theorem F_X6_finds : MV yX6_finds cX6_finds 2 (some .int) 1 := ⟨im_X6_finds, se_X6_finds, in_X6, cd_X6_finds, by decide +kernel, by decide +kernel, by decide +kernel⟩
theorem F_X6_isSheet : MS yX6_isSheet cX6_isSheet 1 (some .boolean) 1 := ⟨st_X6_isSheet, in_X6, cd_X6_isSheet, by decide +kernel, by decide +kernel, by decide +kernel⟩
theorem F_X6_sheet : MV yX6_sheet cX6_sheet 5 (some .int) 3 := ⟨im_X6_sheet, se_X6_sheet, in_X6, cd_X6_sheet, by decide +kernel, by decide +kernel, by decide +kernel⟩
theorem F_X6_lose : MV yX6_lose cX6_lose 2 (some .int) 1 := ⟨im_X6_lose, se_X6_lose, in_X6, cd_X6_lose, by decide +kernel, by decide +kernel, by decide +kernel⟩
theorem F_X6_lacks : MV yX6_lacks cX6_lacks 4 (some .int) 3 := ⟨im_X6_lacks, se_X6_lacks, in_X6, cd_X6_lacks, by decide +kernel, by decide +kernel, by decide +kernel⟩
theorem F_X6_cut : MS yX6_cut cX6_cut 2 (some .int) 2 := ⟨st_X6_cut, in_X6, cd_X6_cut, by decide +kernel, by decide +kernel, by decide +kernel⟩
theorem F_X6_lay : MV yX6_lay cX6_lay 6 (some .int) 4 := ⟨im_X6_lay, se_X6_lay, in_X6, cd_X6_lay, by decide +kernel, by decide +kernel, by decide +kernel⟩
theorem F_X6_get : MV yX6_get cX6_get 4 (some .int) 3 := ⟨im_X6_get, se_X6_get, in_X6, cd_X6_get, by decide +kernel, by decide +kernel, by decide +kernel⟩
theorem F_X6_copy : MV yX6_copy cX6_copy 7 (some .int) 5 := ⟨im_X6_copy, se_X6_copy, in_X6, cd_X6_copy, by decide +kernel, by decide +kernel, by decide +kernel⟩
theorem F_X6_isValue : MS yX6_isValue cX6_isValue 2 (some .boolean) 2 := ⟨st_X6_isValue, in_X6, cd_X6_isValue, by decide +kernel, by decide +kernel, by decide +kernel⟩
theorem F_X6_put : MV yX6_put cX6_put 4 (some .int) 3 := ⟨im_X6_put, se_X6_put, in_X6, cd_X6_put, by decide +kernel, by decide +kernel, by decide +kernel⟩
theorem F_X6_manyOf : MV yX6_manyOf cX6_manyOf 4 (some .int) 1 := ⟨im_X6_manyOf, se_X6_manyOf, in_X6, cd_X6_manyOf, by decide +kernel, by decide +kernel, by decide +kernel⟩
theorem F_X6_close : MV yX6_close cX6_close 2 (some .int) 0 := ⟨im_X6_close, se_X6_close, in_X6, cd_X6_close, by decide +kernel, by decide +kernel, by decide +kernel⟩
theorem F_X6_undo : MV yX6_undo cX6_undo 1 (some .int) 0 := ⟨im_X6_undo, se_X6_undo, in_X6, cd_X6_undo, by decide +kernel, by decide +kernel, by decide +kernel⟩
theorem F_X6_isWrite : MV yX6_isWrite cX6_isWrite 2 (some .boolean) 1 := ⟨im_X6_isWrite, se_X6_isWrite, in_X6, cd_X6_isWrite, by decide +kernel, by decide +kernel, by decide +kernel⟩
theorem F_X6_isSeal : MV yX6_isSeal cX6_isSeal 2 (some .boolean) 1 := ⟨im_X6_isSeal, se_X6_isSeal, in_X6, cd_X6_isSeal, by decide +kernel, by decide +kernel, by decide +kernel⟩
theorem F_X6_isClosed : MV yX6_isClosed cX6_isClosed 2 (some .boolean) 1 := ⟨im_X6_isClosed, se_X6_isClosed, in_X6, cd_X6_isClosed, by decide +kernel, by decide +kernel, by decide +kernel⟩
theorem F_X6_isCover : MS yX6_isCover cX6_isCover 4 (some .boolean) 4 := ⟨st_X6_isCover, in_X6, cd_X6_isCover, by decide +kernel, by decide +kernel, by decide +kernel⟩
theorem F_X6_cover : MV yX6_cover cX6_cover 6 (some .int) 5 := ⟨im_X6_cover, se_X6_cover, in_X6, cd_X6_cover, by decide +kernel, by decide +kernel, by decide +kernel⟩
theorem F_X6_alter : MV yX6_alter cX6_alter 4 (some .int) 2 := ⟨im_X6_alter, se_X6_alter, in_X6, cd_X6_alter, by decide +kernel, by decide +kernel, by decide +kernel⟩
theorem F_X6_read : MV yX6_read cX6_read 5 (some .int) 1 := ⟨im_X6_read, se_X6_read, in_X6, cd_X6_read, by decide +kernel, by decide +kernel, by decide +kernel⟩
theorem F_X6_placeOf : MV yX6_placeOf cX6_placeOf 2 (some .int) 1 := ⟨im_X6_placeOf, se_X6_placeOf, in_X6, cd_X6_placeOf, by decide +kernel, by decide +kernel, by decide +kernel⟩
theorem F_X6_firstOf : MV yX6_firstOf cX6_firstOf 4 (some .int) 1 := ⟨im_X6_firstOf, se_X6_firstOf, in_X6, cd_X6_firstOf, by decide +kernel, by decide +kernel, by decide +kernel⟩
theorem F_X6_beginOf : MV yX6_beginOf cX6_beginOf 2 (some .int) 1 := ⟨im_X6_beginOf, se_X6_beginOf, in_X6, cd_X6_beginOf, by decide +kernel, by decide +kernel, by decide +kernel⟩
theorem F_X6_endOf : MV yX6_endOf cX6_endOf 2 (some .int) 1 := ⟨im_X6_endOf, se_X6_endOf, in_X6, cd_X6_endOf, by decide +kernel, by decide +kernel, by decide +kernel⟩
theorem F_X6_allBytes : MV yX6_allBytes cX6_allBytes 1 (some .int) 0 := ⟨im_X6_allBytes, se_X6_allBytes, in_X6, cd_X6_allBytes, by decide +kernel, by decide +kernel, by decide +kernel⟩
theorem F_X6_byteOf : MV yX6_byteOf cX6_byteOf 3 (some .int) 2 := ⟨im_X6_byteOf, se_X6_byteOf, in_X6, cd_X6_byteOf, by decide +kernel, by decide +kernel, by decide +kernel⟩
theorem F_X6_byteAt : MV yX6_byteAt cX6_byteAt 5 (some .int) 1 := ⟨im_X6_byteAt, se_X6_byteAt, in_X6, cd_X6_byteAt, by decide +kernel, by decide +kernel, by decide +kernel⟩
theorem F_X6_bytes : MV yX6_bytes cX6_bytes 2 (some .int) 1 := ⟨im_X6_bytes, se_X6_bytes, in_X6, cd_X6_bytes, by decide +kernel, by decide +kernel, by decide +kernel⟩
theorem F_X6_writeBy : MV yX6_writeBy cX6_writeBy 3 (some .int) 2 := ⟨im_X6_writeBy, se_X6_writeBy, in_X6, cd_X6_writeBy, by decide +kernel, by decide +kernel, by decide +kernel⟩
theorem F_X6_write : MV yX6_write cX6_write 3 (some .int) 2 := ⟨im_X6_write, se_X6_write, in_X6, cd_X6_write, by decide +kernel, by decide +kernel, by decide +kernel⟩
theorem F_X6_isRevision : MV yX6_isRevision cX6_isRevision 2 (some .boolean) 1 := ⟨im_X6_isRevision, se_X6_isRevision, in_X6, cd_X6_isRevision, by decide +kernel, by decide +kernel, by decide +kernel⟩
theorem F_X6_revisionBy : MV yX6_revisionBy cX6_revisionBy 3 (some .int) 2 := ⟨im_X6_revisionBy, se_X6_revisionBy, in_X6, cd_X6_revisionBy, by decide +kernel, by decide +kernel, by decide +kernel⟩
theorem F_X6_revision : MV yX6_revision cX6_revision 3 (some .int) 2 := ⟨im_X6_revision, se_X6_revision, in_X6, cd_X6_revision, by decide +kernel, by decide +kernel, by decide +kernel⟩
theorem F_X6_lastOf : MV yX6_lastOf cX6_lastOf 5 (some .int) 2 := ⟨im_X6_lastOf, se_X6_lastOf, in_X6, cd_X6_lastOf, by decide +kernel, by decide +kernel, by decide +kernel⟩
theorem F_X6_thingBy : MV yX6_thingBy cX6_thingBy 5 (some .int) 3 := ⟨im_X6_thingBy, se_X6_thingBy, in_X6, cd_X6_thingBy, by decide +kernel, by decide +kernel, by decide +kernel⟩
theorem F_X6_isThing : MS yX6_isThing cX6_isThing 1 (some .boolean) 1 := ⟨st_X6_isThing, in_X6, cd_X6_isThing, by decide +kernel, by decide +kernel, by decide +kernel⟩
theorem F_X6_thing : MV yX6_thing cX6_thing 4 (some .int) 3 := ⟨im_X6_thing, se_X6_thing, in_X6, cd_X6_thing, by decide +kernel, by decide +kernel, by decide +kernel⟩
theorem F_X6_isShadowed : MV yX6_isShadowed cX6_isShadowed 6 (some .boolean) 2 := ⟨im_X6_isShadowed, se_X6_isShadowed, in_X6, cd_X6_isShadowed, by decide +kernel, by decide +kernel, by decide +kernel⟩
theorem F_X6_shadowsIn : MV yX6_shadowsIn cX6_shadowsIn 4 (some .int) 1 := ⟨im_X6_shadowsIn, se_X6_shadowsIn, in_X6, cd_X6_shadowsIn, by decide +kernel, by decide +kernel, by decide +kernel⟩
theorem F_X6_shadows : MV yX6_shadows cX6_shadows 2 (some .int) 1 := ⟨im_X6_shadows, se_X6_shadows, in_X6, cd_X6_shadows, by decide +kernel, by decide +kernel, by decide +kernel⟩
theorem F_X6_usual : MV yX6_usual cX6_usual 3 (some .int) 2 := ⟨im_X6_usual, se_X6_usual, in_X6, cd_X6_usual, by decide +kernel, by decide +kernel, by decide +kernel⟩
theorem F_X6_coverOf : MV yX6_coverOf cX6_coverOf 3 (some .int) 2 := ⟨im_X6_coverOf, se_X6_coverOf, in_X6, cd_X6_coverOf, by decide +kernel, by decide +kernel, by decide +kernel⟩
theorem F_X6_covers : MV yX6_covers cX6_covers 3 (some .int) 2 := ⟨im_X6_covers, se_X6_covers, in_X6, cd_X6_covers, by decide +kernel, by decide +kernel, by decide +kernel⟩
theorem F_X6_coveredBy : MV yX6_coveredBy cX6_coveredBy 5 (some .int) 1 := ⟨im_X6_coveredBy, se_X6_coveredBy, in_X6, cd_X6_coveredBy, by decide +kernel, by decide +kernel, by decide +kernel⟩
theorem F_X6_covered : MV yX6_covered cX6_covered 2 (some .int) 1 := ⟨im_X6_covered, se_X6_covered, in_X6, cd_X6_covered, by decide +kernel, by decide +kernel, by decide +kernel⟩
theorem F_X6_numberOf : MV yX6_numberOf cX6_numberOf 6 (some .int) 1 := ⟨im_X6_numberOf, se_X6_numberOf, in_X6, cd_X6_numberOf, by decide +kernel, by decide +kernel, by decide +kernel⟩
theorem F_X6_numberBy : MV yX6_numberBy cX6_numberBy 3 (some .int) 2 := ⟨im_X6_numberBy, se_X6_numberBy, in_X6, cd_X6_numberBy, by decide +kernel, by decide +kernel, by decide +kernel⟩
theorem F_X6_number : MV yX6_number cX6_number 3 (some .int) 2 := ⟨im_X6_number, se_X6_number, in_X6, cd_X6_number, by decide +kernel, by decide +kernel, by decide +kernel⟩
theorem F_X6_flawsOf : MV yX6_flawsOf cX6_flawsOf 3 (some .int) 1 := ⟨im_X6_flawsOf, se_X6_flawsOf, in_X6, cd_X6_flawsOf, by decide +kernel, by decide +kernel, by decide +kernel⟩
theorem F_X6_flaws : MV yX6_flaws cX6_flaws 2 (some .int) 1 := ⟨im_X6_flaws, se_X6_flaws, in_X6, cd_X6_flaws, by decide +kernel, by decide +kernel, by decide +kernel⟩
theorem F_X6_kindAt : MV yX6_kindAt cX6_kindAt 2 (some .int) 1 := ⟨im_X6_kindAt, se_X6_kindAt, in_X6, cd_X6_kindAt, by decide +kernel, by decide +kernel, by decide +kernel⟩
theorem F_X6_isNoteOrNone : MS yX6_isNoteOrNone cX6_isNoteOrNone 1 (some .boolean) 1 := ⟨st_X6_isNoteOrNone, in_X6, cd_X6_isNoteOrNone, by decide +kernel, by decide +kernel, by decide +kernel⟩
theorem F_X6_isFree : MV yX6_isFree cX6_isFree 6 (some .boolean) 3 := ⟨im_X6_isFree, se_X6_isFree, in_X6, cd_X6_isFree, by decide +kernel, by decide +kernel, by decide +kernel⟩
theorem F_X6_sortOf : MV yX6_sortOf cX6_sortOf 10 (some .int) 3 := ⟨im_X6_sortOf, se_X6_sortOf, in_X6, cd_X6_sortOf, by decide +kernel, by decide +kernel, by decide +kernel⟩
theorem F_X6_verdictOf : MV yX6_verdictOf cX6_verdictOf 4 (some .int) 1 := ⟨im_X6_verdictOf, se_X6_verdictOf, in_X6, cd_X6_verdictOf, by decide +kernel, by decide +kernel, by decide +kernel⟩
theorem F_X6_manyChanges : MV yX6_manyChanges cX6_manyChanges 5 (some .int) 2 := ⟨im_X6_manyChanges, se_X6_manyChanges, in_X6, cd_X6_manyChanges, by decide +kernel, by decide +kernel, by decide +kernel⟩
theorem F_X6_isHolding : MV yX6_isHolding cX6_isHolding 3 (some .boolean) 2 := ⟨im_X6_isHolding, se_X6_isHolding, in_X6, cd_X6_isHolding, by decide +kernel, by decide +kernel, by decide +kernel⟩
theorem F_X6_judgeBy : MV yX6_judgeBy cX6_judgeBy 3 (some .int) 2 := ⟨im_X6_judgeBy, se_X6_judgeBy, in_X6, cd_X6_judgeBy, by decide +kernel, by decide +kernel, by decide +kernel⟩
theorem F_X6_judge : MV yX6_judge cX6_judge 3 (some .int) 2 := ⟨im_X6_judge, se_X6_judge, in_X6, cd_X6_judge, by decide +kernel, by decide +kernel, by decide +kernel⟩
theorem F_X6_changeBy : MV yX6_changeBy cX6_changeBy 7 (some .int) 3 := ⟨im_X6_changeBy, se_X6_changeBy, in_X6, cd_X6_changeBy, by decide +kernel, by decide +kernel, by decide +kernel⟩
theorem F_X6_change : MV yX6_change cX6_change 4 (some .int) 3 := ⟨im_X6_change, se_X6_change, in_X6, cd_X6_change, by decide +kernel, by decide +kernel, by decide +kernel⟩
theorem F_X6_allowedIn : MV yX6_allowedIn cX6_allowedIn 4 (some .int) 1 := ⟨im_X6_allowedIn, se_X6_allowedIn, in_X6, cd_X6_allowedIn, by decide +kernel, by decide +kernel, by decide +kernel⟩
theorem F_X6_allowed : MV yX6_allowed cX6_allowed 2 (some .int) 1 := ⟨im_X6_allowed, se_X6_allowed, in_X6, cd_X6_allowed, by decide +kernel, by decide +kernel, by decide +kernel⟩
theorem F_X6_firstBy : MV yX6_firstBy cX6_firstBy 4 (some .int) 1 := ⟨im_X6_firstBy, se_X6_firstBy, in_X6, cd_X6_firstBy, by decide +kernel, by decide +kernel, by decide +kernel⟩
theorem F_X6_first : MV yX6_first cX6_first 2 (some .int) 1 := ⟨im_X6_first, se_X6_first, in_X6, cd_X6_first, by decide +kernel, by decide +kernel, by decide +kernel⟩
theorem F_X6_looks : MV yX6_looks cX6_looks 2 none 0 := ⟨im_X6_looks, se_X6_looks, in_X6, cd_X6_looks, by decide +kernel, by decide +kernel, by decide +kernel⟩
theorem F_X6_manyHold : MV yX6_manyHold cX6_manyHold 3 (some .int) 0 := ⟨im_X6_manyHold, se_X6_manyHold, in_X6, cd_X6_manyHold, by decide +kernel, by decide +kernel, by decide +kernel⟩
theorem F_X6_manySeals : MV yX6_manySeals cX6_manySeals 3 (some .int) 0 := ⟨im_X6_manySeals, se_X6_manySeals, in_X6, cd_X6_manySeals, by decide +kernel, by decide +kernel, by decide +kernel⟩
theorem F_X6_holdingBy : MV yX6_holdingBy cX6_holdingBy 2 (some .int) 1 := ⟨im_X6_holdingBy, se_X6_holdingBy, in_X6, cd_X6_holdingBy, by decide +kernel, by decide +kernel, by decide +kernel⟩
theorem F_X6_holding : MV yX6_holding cX6_holding 2 (some .int) 1 := ⟨im_X6_holding, se_X6_holding, in_X6, cd_X6_holding, by decide +kernel, by decide +kernel, by decide +kernel⟩
theorem F_X6_betterBy : MV yX6_betterBy cX6_betterBy 6 (some .int) 1 := ⟨im_X6_betterBy, se_X6_betterBy, in_X6, cd_X6_betterBy, by decide +kernel, by decide +kernel, by decide +kernel⟩
theorem F_X6_better : MV yX6_better cX6_better 2 (some .int) 1 := ⟨im_X6_better, se_X6_better, in_X6, cd_X6_better, by decide +kernel, by decide +kernel, by decide +kernel⟩
theorem F_X6_tell : MV yX6_tell cX6_tell 5 (some .int) 2 := ⟨im_X6_tell, se_X6_tell, in_X6, cd_X6_tell, by decide +kernel, by decide +kernel, by decide +kernel⟩
theorem F_X6_manyThere : MV yX6_manyThere cX6_manyThere 3 (some .int) 0 := ⟨im_X6_manyThere, se_X6_manyThere, in_X6, cd_X6_manyThere, by decide +kernel, by decide +kernel, by decide +kernel⟩
theorem F_X6_manyShadowed : MV yX6_manyShadowed cX6_manyShadowed 3 (some .int) 0 := ⟨im_X6_manyShadowed, se_X6_manyShadowed, in_X6, cd_X6_manyShadowed, by decide +kernel, by decide +kernel, by decide +kernel⟩
theorem F_X6_count : MV yX6_count cX6_count 2 (some .int) 1 := ⟨im_X6_count, se_X6_count, in_X6, cd_X6_count, by decide +kernel, by decide +kernel, by decide +kernel⟩
theorem F_X6_tellsWrite : MV yX6_tellsWrite cX6_tellsWrite 8 (some .long) 2 := ⟨im_X6_tellsWrite, se_X6_tellsWrite, in_X6, cd_X6_tellsWrite, by decide +kernel, by decide +kernel, by decide +kernel⟩
theorem F_X6_digest : MV yX6_digest cX6_digest 5 (some .long) 0 := ⟨im_X6_digest, se_X6_digest, in_X6, cd_X6_digest, by decide +kernel, by decide +kernel, by decide +kernel⟩
theorem F_J6_bitCount_0f7a4 : MS yJ6_bitCount_0f7a4 cJ6_bitCount_0f7a4 1 (some .int) 1 := ⟨st_J6_bitCount_0f7a4, in_J6, cd_J6_bitCount_0f7a4, by decide +kernel, by decide +kernel, by decide +kernel⟩
theorem F_J9_max_7cf53 : MS yJ9_max_7cf53 cJ9_max_7cf53 2 (some .int) 2 := ⟨st_J9_max_7cf53, in_J9, cd_J9_max_7cf53, by decide +kernel, by decide +kernel, by decide +kernel⟩
theorem F_J9_min_7cf53 : MS yJ9_min_7cf53 cJ9_min_7cf53 2 (some .int) 2 := ⟨st_J9_min_7cf53, in_J9, cd_J9_min_7cf53, by decide +kernel, by decide +kernel, by decide +kernel⟩
theorem F_J7_rangeCheck_23922 : MS yJ7_rangeCheck_23922 cJ7_rangeCheck_23922 3 none 3 := ⟨st_J7_rangeCheck_23922, in_J7, cd_J7_rangeCheck_23922, by decide +kernel, by decide +kernel, by decide +kernel⟩
theorem F_J7_fill_53178 : MS yJ7_fill_53178 cJ7_fill_53178 4 none 2 := ⟨st_J7_fill_53178, in_J7, cd_J7_fill_53178, by decide +kernel, by decide +kernel, by decide +kernel⟩
theorem F_J7_fill_fda19 : MS yJ7_fill_fda19 cJ7_fill_fda19 5 none 4 := ⟨st_J7_fill_fda19, in_J7, cd_J7_fill_fda19, by decide +kernel, by decide +kernel, by decide +kernel⟩
end
section
/-! the cells of each class as a list, by what they hold -/
def TY (cI cZ cS : ClassId) : List (ClassId × FieldType) := [(cI, .int), (cZ, .boolean), (cS, .object "SealedFile$Sheet")]
def oI (o : Option Nat) : Int32 := match o with
  | none => -1
  | some w => nI w
/-- the reference's cells -/
noncomputable def wM (cI cZ : ClassId) (a : Nat → Nat) (la : Int32) (n cl : Nat) (go : Option Nat) (fo : Nat → Int32) (si : Nat → Nat) (it mo : Nat → Int32) (th ki va re : Nat → Nat) (to : Nat → Prop) (co : Nat → Nat) (ke : Nat → Int32) (fw : Nat → Nat) : va_W :=
  [(a 0, .inr (6, [.ref (a 1), .ref (a 2), .ref (a 3), .ref (a 4), .int la, .int (nI n), .ref (a 5), .ref (a 6), .ref (a 7), .ref (a 8), .ref (a 9), .ref (a 10), .ref (a 11), .int (nI cl), .int (oI go), .ref (a 12)])),
   (a 1, .inl (cI, 4, .inl fo)), (a 2, .inl (cI, 4, .inl (fun j => nI (si j)))), (a 3, .inl (cI, 240, .inl it)), (a 4, .inl (cI, 60, .inl mo)),
   (a 5, .inl (cI, 40, .inl (fun j => nI (th j)))), (a 6, .inl (cI, 40, .inl (fun j => nI (ki j)))), (a 7, .inl (cI, 40, .inl (fun j => nI (va j)))), (a 8, .inl (cI, 40, .inl (fun j => nI (re j)))),
   (a 9, .inl (cZ, 40, .inl (fun j => bI (to j)))), (a 10, .inl (cI, 160, .inl (fun j => nI (co j)))), (a 11, .inl (cI, 40, .inl ke)), (a 12, .inl (cI, 40, .inl (fun j => nI (fw j))))]
/-- Writes -/
def wW (cI : ClassId) (a : Nat → Nat) (n cl : Nat) (th ki va re fi : Nat → Nat) : va_W :=
  [(a 0, .inr (4, [.ref (a 1), .ref (a 2), .ref (a 3), .ref (a 4), .ref (a 5), .int (nI n), .int (nI cl)])),
   (a 1, .inl (cI, 40, .inl (fun j => nI (th j)))), (a 2, .inl (cI, 40, .inl (fun j => nI (ki j)))), (a 3, .inl (cI, 40, .inl (fun j => nI (va j)))), (a 4, .inl (cI, 40, .inl (fun j => nI (re j)))), (a 5, .inl (cI, 8, .inl (fun j => nI (fi j))))]
/-- ByteFile -/
def wB (cI : ClassId) (a : Nat → Nat) (bt : Nat → Nat) (bs : Nat) : va_W :=
  [(a 0, .inr (0, [.ref (a 1), .int (nI bs)])), (a 1, .inl (cI, 216, .inl (fun j => nI (bt j))))]
/-- Covers -/
noncomputable def wC (cI cZ : ClassId) (a : Nat → Nat) (hW hB : Nat) (to : Nat → Prop) (co : Nat → Nat) (ke nu : Nat → Int32) (fw : Nat → Nat) : va_W :=
  [(a 0, .inr (1, [.ref hW, .ref hB, .ref (a 1), .ref (a 2), .ref (a 3), .ref (a 4), .ref (a 5)])),
   (a 1, .inl (cZ, 40, .inl (fun j => bI (to j)))), (a 2, .inl (cI, 160, .inl (fun j => nI (co j)))), (a 3, .inl (cI, 40, .inl ke)), (a 4, .inl (cI, 40, .inl nu)), (a 5, .inl (cI, 40, .inl (fun j => nI (fw j))))]
/-- History -/
def wH (cI : ClassId) (a : Nat → Nat) (hW : Nat) (lt : Nat → Option Nat) (tr sh cr ct cu ve ta : Nat → Nat) (ch : Nat) : va_W :=
  [(a 0, .inr (2, [.ref hW, .ref (a 1), .ref (a 2), .ref (a 3), .ref (a 4), .ref (a 5), .ref (a 6), .ref (a 7), .ref (a 8), .int (nI ch)])),
   (a 1, .inl (cI, 128, .inl (fun j => oI (lt j)))), (a 2, .inl (cI, 8, .inl (fun j => nI (tr j)))), (a 3, .inl (cI, 8, .inl (fun j => nI (sh j)))), (a 4, .inl (cI, 128, .inl (fun j => nI (cr j)))), (a 5, .inl (cI, 128, .inl (fun j => nI (ct j)))), (a 6, .inl (cI, 8, .inl (fun j => nI (cu j)))), (a 7, .inl (cI, 8, .inl (fun j => nI (ve j)))), (a 8, .inl (cI, 8, .inl (fun j => nI (ta j))))]
theorem va_P_nil (D : va_G) (H : Heap) : va_P D vwCl [] H := fun k q h => by simp at h
theorem b1 {q : Prop} (h : q) : nI 1 = bI q := (bI_t h).symm
theorem b0 {q : Prop} (h : ¬ q) : nI 0 = bI q := (bI_f h).symm
theorem oI_some (w : Nat) : oI (some w) = nI w := rfl
theorem oI_none : oI none = -1 := rfl
theorem nI_nm1 {n : Nat} (h : n < 2 ^ 31) : nI n ≠ -1 := by
  intro e
  have := nI_pos h
  rw [e] at this
  exact this (by decide)
theorem oI_eqn {o : Option Nat} (h : ∀ w, o = some w → w < 2 ^ 31) : oI o = -1 ↔ o = none := by
  cases o with
  | none => exact ⟨fun _ => rfl, fun _ => rfl⟩
  | some w => exact ⟨fun e => absurd e (nI_nm1 (h w rfl)), fun e => by cases e⟩
theorem oI_inj {o q : Option Nat} (h : ∀ w, o = some w → w < 2 ^ 31) (h' : ∀ w, q = some w → w < 2 ^ 31) : oI o = oI q ↔ o = q := by
  cases o with
  | none => cases q with
    | none => exact ⟨fun _ => rfl, fun _ => rfl⟩
    | some w => exact ⟨fun e => absurd e.symm (nI_nm1 (h' w rfl)), fun e => by cases e⟩
  | some v => cases q with
    | none => exact ⟨fun e => absurd e (nI_nm1 (h v rfl)), fun e => by cases e⟩
    | some w => exact ⟨fun e => by rw [(nI_eq (h v rfl) (h' w rfl)).mp e], fun e => by rw [e]⟩
theorem nI_oI {w : Nat} {o : Option Nat} (hw : w < 2 ^ 31) (h : ∀ w, o = some w → w < 2 ^ 31) : nI w = oI o ↔ o = some w := by
  rw [← oI_some w, oI_inj (fun v e => by cases e; exact hw) h]
  exact eq_comm
theorem sw1 (x : Int32) : x = nI 0 ∨ x = nI 1 ∨ (x.toInt < 0 ∨ 1 < x.toInt) := by
  have h : x = nI 0 ↔ x.toInt = 0 := by rw [← Int32.toInt_inj]; exact Iff.rfl
  have h1 : x = nI 1 ↔ x.toInt = 1 := by rw [← Int32.toInt_inj]; exact Iff.rfl
  rw [h, h1]; omega
theorem sw2 (x : Int32) : x = nI 0 ∨ x = nI 1 ∨ x = nI 2 ∨ (x.toInt < 0 ∨ 2 < x.toInt) := by
  have h2 : x = nI 2 ↔ x.toInt = 2 := by rw [← Int32.toInt_inj]; exact Iff.rfl
  rcases sw1 x with h | h | h
  · exact Or.inl h
  · exact Or.inr (Or.inl h)
  · rw [h2]; omega
theorem sw3 (x : Int32) : x = nI 0 ∨ x = nI 1 ∨ x = nI 2 ∨ x = nI 3 ∨ (x.toInt < 0 ∨ 3 < x.toInt) := by
  have h2 : x = nI 3 ↔ x.toInt = 3 := by rw [← Int32.toInt_inj]; exact Iff.rfl
  rcases sw2 x with h | h | h | h
  · exact Or.inl h
  · exact Or.inr (Or.inl h)
  · exact Or.inr (Or.inr (Or.inl h))
  · rw [h2]; omega
theorem sw4 (x : Int32) : x = nI 0 ∨ x = nI 1 ∨ x = nI 2 ∨ x = nI 3 ∨ x = nI 4 ∨ (x.toInt < 0 ∨ 4 < x.toInt) := by
  have h2 : x = nI 4 ↔ x.toInt = 4 := by rw [← Int32.toInt_inj]; exact Iff.rfl
  rcases sw3 x with h | h | h | h | h
  · exact Or.inl h
  · exact Or.inr (Or.inl h)
  · exact Or.inr (Or.inr (Or.inl h))
  · exact Or.inr (Or.inr (Or.inr (Or.inl h)))
  · rw [h2]; omega
theorem sw_of {k : Nat} (hk : k < 2 ^ 31) (x : Int32) : x = nI k ↔ x.toInt = (k : Int) := by rw [← Int32.toInt_inj, nI_toInt hk]
theorem sw8 (x : Int32) : x = nI 0 ∨ x = nI 1 ∨ x = nI 2 ∨ x = nI 3 ∨ x = nI 4 ∨ x = nI 5 ∨ x = nI 6 ∨ x = nI 7 ∨ x = nI 8 ∨ (x.toInt < 0 ∨ 8 < x.toInt) := by
  simp only [sw_of (by decide : (0 : Nat) < 2 ^ 31), sw_of (by decide : (1 : Nat) < 2 ^ 31), sw_of (by decide : (2 : Nat) < 2 ^ 31), sw_of (by decide : (3 : Nat) < 2 ^ 31), sw_of (by decide : (4 : Nat) < 2 ^ 31), sw_of (by decide : (5 : Nat) < 2 ^ 31), sw_of (by decide : (6 : Nat) < 2 ^ 31), sw_of (by decide : (7 : Nat) < 2 ^ 31), sw_of (by decide : (8 : Nat) < 2 ^ 31)]
  omega
theorem m_min {x y : Nat} (hx : x < 2 ^ 31) (hy : y < 2 ^ 31) : (if nI y < nI x then nI y else nI x) = nI (min x y) := by
  by_cases h : y < x
  · rw [if_pos ((nI_ltI hy hx).mpr h), Nat.min_eq_right (Nat.le_of_lt h)]
  · rw [if_neg (fun e => h ((nI_ltI hy hx).mp e)), Nat.min_eq_left (Nat.not_lt.mp h)]
theorem i64_le (x y : Int32) : x.toInt64 ≤ y.toInt64 ↔ x ≤ y := by
  rw [Int64.le_iff_toInt_le, Int32.le_iff_toInt_le, Int32.toInt_toInt64, Int32.toInt_toInt64]
theorem i64_lt (x y : Int32) : x.toInt64 < y.toInt64 ↔ x < y := by
  rw [Int64.lt_iff_toInt_lt, Int32.lt_iff_toInt_lt, Int32.toInt_toInt64, Int32.toInt_toInt64]
section MyRows2
variable {p : Program} {l : Launch} {e : Env} {R : Room} {s : State} {m : MethodId} {args : Array Value} {below : List Frame} {meth : Method} {c : Code} {H : Heap} {locs : List Loc} {cells slots : Nat} {Q : State → Prop}
variable {cc : ByteArray} {pc : Nat} {ls : Array Slot} {rest : List Value} {D : va_G} {A : Nat → Prop} {a : Nat} {T : List (ClassId × FieldType)} {ws : va_W} {H0 : Heap} {nL : Nat} {own : String}
/-- against -1, of a number or none: two goals, with the number named -/
theorem o_eq (G : CallFix p m c cc nL s args TB own) {o : Option Nat} {off : Int} {tgt : Nat} (ho : ∀ w, o = some w → w < 2 ^ 31) (hdg : decode cc pc = .ok (.if_icmp .eq off, 3)) (ht : (pc : Int) + off = (tgt : Int)) (kt : o = none → W p l e R s m args below meth c H locs cells slots Q (F0 m tgt ls rest)) (kf : ¬ o = none → W p l e R s m args below meth c H locs cells slots Q (F0 m (pc + 3) ls rest)) : W p l e R s m args below meth c H locs cells slots Q (F0 m pc ls (.int (-1) :: .int (oI o) :: rest)) := lv_icmp_eq G.1 G.2.1 hdg ht (fun h => kt ((oI_eqn ho).mp h)) (fun h => kf (fun e => h ((oI_eqn ho).mpr e)))
theorem o_ne (G : CallFix p m c cc nL s args TB own) {o : Option Nat} {off : Int} {tgt : Nat} (ho : ∀ w, o = some w → w < 2 ^ 31) (hdg : decode cc pc = .ok (.if_icmp .ne off, 3)) (ht : (pc : Int) + off = (tgt : Int)) (kt : ¬ o = none → W p l e R s m args below meth c H locs cells slots Q (F0 m tgt ls rest)) (kf : o = none → W p l e R s m args below meth c H locs cells slots Q (F0 m (pc + 3) ls rest)) : W p l e R s m args below meth c H locs cells slots Q (F0 m pc ls (.int (-1) :: .int (oI o) :: rest)) := lv_icmp_ne G.1 G.2.1 hdg ht (fun h => kt (fun e => h ((oI_eqn ho).mpr e))) (fun h => kf ((oI_eqn ho).mp h))
theorem oo_eq (G : CallFix p m c cc nL s args TB own) {x y : Option Nat} {off : Int} {tgt : Nat} (hx : ∀ w, x = some w → w < 2 ^ 31) (hy : ∀ w, y = some w → w < 2 ^ 31) (hdg : decode cc pc = .ok (.if_icmp .eq off, 3)) (ht : (pc : Int) + off = (tgt : Int)) (kt : x = y → W p l e R s m args below meth c H locs cells slots Q (F0 m tgt ls rest)) (kf : ¬ x = y → W p l e R s m args below meth c H locs cells slots Q (F0 m (pc + 3) ls rest)) : W p l e R s m args below meth c H locs cells slots Q (F0 m pc ls (.int (oI y) :: .int (oI x) :: rest)) := lv_icmp_eq G.1 G.2.1 hdg ht (fun h => kt ((oI_inj hx hy).mp h)) (fun h => kf (fun e => h ((oI_inj hx hy).mpr e)))
theorem oo_ne (G : CallFix p m c cc nL s args TB own) {x y : Option Nat} {off : Int} {tgt : Nat} (hx : ∀ w, x = some w → w < 2 ^ 31) (hy : ∀ w, y = some w → w < 2 ^ 31) (hdg : decode cc pc = .ok (.if_icmp .ne off, 3)) (ht : (pc : Int) + off = (tgt : Int)) (kt : ¬ x = y → W p l e R s m args below meth c H locs cells slots Q (F0 m tgt ls rest)) (kf : x = y → W p l e R s m args below meth c H locs cells slots Q (F0 m (pc + 3) ls rest)) : W p l e R s m args below meth c H locs cells slots Q (F0 m pc ls (.int (oI y) :: .int (oI x) :: rest)) := lv_icmp_ne G.1 G.2.1 hdg ht (fun h => kt (fun e => h ((oI_inj hx hy).mpr e))) (fun h => kf ((oI_inj hx hy).mp h))
theorem no_eq (G : CallFix p m c cc nL s args TB own) {w : Nat} {o : Option Nat} {off : Int} {tgt : Nat} (hw : w < 2 ^ 31) (ho : ∀ w, o = some w → w < 2 ^ 31) (hdg : decode cc pc = .ok (.if_icmp .eq off, 3)) (ht : (pc : Int) + off = (tgt : Int)) (kt : o = some w → W p l e R s m args below meth c H locs cells slots Q (F0 m tgt ls rest)) (kf : ¬ o = some w → W p l e R s m args below meth c H locs cells slots Q (F0 m (pc + 3) ls rest)) : W p l e R s m args below meth c H locs cells slots Q (F0 m pc ls (.int (oI o) :: .int (nI w) :: rest)) := lv_icmp_eq G.1 G.2.1 hdg ht (fun h => kt ((nI_oI hw ho).mp h)) (fun h => kf (fun e => h ((nI_oI hw ho).mpr e)))
theorem no_ne (G : CallFix p m c cc nL s args TB own) {w : Nat} {o : Option Nat} {off : Int} {tgt : Nat} (hw : w < 2 ^ 31) (ho : ∀ w, o = some w → w < 2 ^ 31) (hdg : decode cc pc = .ok (.if_icmp .ne off, 3)) (ht : (pc : Int) + off = (tgt : Int)) (kt : ¬ o = some w → W p l e R s m args below meth c H locs cells slots Q (F0 m tgt ls rest)) (kf : o = some w → W p l e R s m args below meth c H locs cells slots Q (F0 m (pc + 3) ls rest)) : W p l e R s m args below meth c H locs cells slots Q (F0 m pc ls (.int (oI o) :: .int (nI w) :: rest)) := lv_icmp_ne G.1 G.2.1 hdg ht (fun h => kt (fun e => h ((nI_oI hw ho).mpr e))) (fun h => kf ((nI_oI hw ho).mp h))
theorem on_eq (G : CallFix p m c cc nL s args TB own) {w : Nat} {o : Option Nat} {off : Int} {tgt : Nat} (hw : w < 2 ^ 31) (ho : ∀ w, o = some w → w < 2 ^ 31) (hdg : decode cc pc = .ok (.if_icmp .eq off, 3)) (ht : (pc : Int) + off = (tgt : Int)) (kt : o = some w → W p l e R s m args below meth c H locs cells slots Q (F0 m tgt ls rest)) (kf : ¬ o = some w → W p l e R s m args below meth c H locs cells slots Q (F0 m (pc + 3) ls rest)) : W p l e R s m args below meth c H locs cells slots Q (F0 m pc ls (.int (nI w) :: .int (oI o) :: rest)) := lv_icmp_eq G.1 G.2.1 hdg ht (fun h => kt ((nI_oI hw ho).mp h.symm)) (fun h => kf (fun e => h ((nI_oI hw ho).mpr e).symm))
theorem on_ne (G : CallFix p m c cc nL s args TB own) {w : Nat} {o : Option Nat} {off : Int} {tgt : Nat} (hw : w < 2 ^ 31) (ho : ∀ w, o = some w → w < 2 ^ 31) (hdg : decode cc pc = .ok (.if_icmp .ne off, 3)) (ht : (pc : Int) + off = (tgt : Int)) (kt : ¬ o = some w → W p l e R s m args below meth c H locs cells slots Q (F0 m tgt ls rest)) (kf : o = some w → W p l e R s m args below meth c H locs cells slots Q (F0 m (pc + 3) ls rest)) : W p l e R s m args below meth c H locs cells slots Q (F0 m pc ls (.int (nI w) :: .int (oI o) :: rest)) := lv_icmp_ne G.1 G.2.1 hdg ht (fun h => kt (fun e => h ((nI_oI hw ho).mpr e).symm)) (fun h => kf ((nI_oI hw ho).mp h.symm))
end MyRows2
theorem upO (g : Nat → Option Nat) (k : Nat) (x : Option Nat) : upd (fun j => oI (g j)) k (oI x) = fun j => oI (va_up g k x j) := by
  funext j
  unfold upd va_up
  by_cases h : j = k <;> simp [h]
section MyRows3
variable {p : Program} {l : Launch} {e : Env} {R : Room} {s : State} {m : MethodId} {args : Array Value} {below : List Frame} {meth : Method} {c : Code} {H : Heap} {locs : List Loc} {cells slots : Nat} {Q : State → Prop}
variable {cc : ByteArray} {pc : Nat} {ls : Array Slot} {rest : List Value} {D : va_G} {A : Nat → Prop} {a : Nat} {T : List (ClassId × FieldType)} {ws : va_W} {H0 : Heap} {nL : Nat} {own : String}
theorem a_ldO (G : CallFix p m c cc nL s args TB own) (K : va_K D vwCl T s) (hP : va_P D vwCl ws H) (q0 t0 : Nat) {cA : ClassId} {n : Nat} {g : Nat → Option Nat} (ha : ws[q0]? = some (a, .inl (cA, n, .inl (fun j => oI (g j))))) (ht : T[t0]? = some (cA, .int)) {k : Nat} (hk : k < n) (hn : n < 2 ^ 31) (hdg : decode cc pc = .ok (.iaload, 1))
    (kk : W p l e R s m args below meth c H locs cells slots Q (F0 m (pc + 1) ls (.int (oI (g k)) :: rest))) : W p l e R s m args below meth c H locs cells slots Q (F0 m pc ls (.int (nI k) :: .ref a :: rest)) := a_ld G K hP q0 t0 ha ht hk hn hdg kk
theorem a_stO (G : CallFix p m c cc nL s args TB own) (K : va_K D vwCl T s) (w : WW D A H0 ws H locs) (q0 t0 : Nat) {cA : ClassId} {n : Nat} {g : Nat → Option Nat} (ha : ws[q0]? = some (a, .inl (cA, n, .inl (fun j => oI (g j))))) (ht : T[t0]? = some (cA, .int)) {k : Nat} (hk : k < n) (hn : n < 2 ^ 31) {x : Option Nat} {v : Int32} (hv : v = oI x) (hdg : decode cc pc = .ok (.iastore, 1)) {w2 : va_W} (hw : ws.set q0 (a, .inl (cA, n, .inl (fun j => oI (va_up g k x j)))) = w2)
    (kk : ∀ (H1 : Heap) (locs1 : List Loc), WW D A H0 w2 H1 locs1 → W p l e R s m args below meth c H1 locs1 cells slots Q (F0 m (pc + 1) ls rest)) : W p l e R s m args below meth c H locs cells slots Q (F0 m pc ls (.int v :: .int (nI k) :: .ref a :: rest)) := by
  subst hv
  exact a_st G K w q0 t0 ha ht hk hn hdg (by rw [← upR, upO]; exact hw) kk
end MyRows3
end
section
/-! the words of the document as functions of the writes: counts, places, bytes, the last write of a thing -/
def cntEq (re : Nat → Nat) (r : Nat) : Nat → Nat
  | 0 => 0
  | i + 1 => cntEq re r i + (if re i = r then 1 else 0)
def cntLt (re : Nat → Nat) (r : Nat) : Nat → Nat
  | 0 => 0
  | i + 1 => cntLt re r i + (if re i < r then 1 else 0)
theorem cntEq_t {re : Nat → Nat} {r i : Nat} (h : re i = r) : cntEq re r (i + 1) = cntEq re r i + 1 := by simp [cntEq, h]
theorem cntEq_f {re : Nat → Nat} {r i : Nat} (h : re i ≠ r) : cntEq re r (i + 1) = cntEq re r i + 0 := by simp [cntEq, h]
theorem cntLt_t {re : Nat → Nat} {r i : Nat} (h : re i < r) : cntLt re r (i + 1) = cntLt re r i + 1 := by simp [cntLt, h]
theorem cntLt_f {re : Nat → Nat} {r i : Nat} (h : r ≤ re i) : cntLt re r (i + 1) = cntLt re r i + 0 := by simp [cntLt, Nat.not_lt.mpr h]
theorem cnt_le (re : Nat → Nat) (r n : Nat) : cntLt re r n + cntEq re r n ≤ n := by
  induction n with
  | zero => simp [cntLt, cntEq]
  | succ n ih => simp only [cntLt, cntEq]; split <;> split <;> omega
def begB (re : Nat → Nat) (n r : Nat) : Nat := 5 * cntLt re r n + 2 * r
def endB (re : Nat → Nat) (n cl r : Nat) : Nat := begB re n r + 5 * cntEq re r n + (if r < cl then 2 else 0)
def byteO (th ki va : Nat → Nat) (w i : Nat) : Nat := if i = 0 then 79 else if i = 1 then th w else if i = 2 then ki w else if i = 3 then va w / 256 else va w % 256
def byteF (th ki va re : Nat → Nat) (n cl i : Nat) : Nat → Nat → Option Nat
  | 0, _ => none
  | d + 1, r => if begB re n r ≤ i ∧ i < begB re n r + 5 * cntEq re r n then some (byteO th ki va (cntLt re r n + (i - begB re n r) / 5) ((i - begB re n r) % 5))
      else if r < cl ∧ begB re n r + 5 * cntEq re r n ≤ i ∧ i < begB re n r + 5 * cntEq re r n + 2 then some (if i = begB re n r + 5 * cntEq re r n then 0 else r) else byteF th ki va re n cl i d (r + 1)
def byteA (th ki va re : Nat → Nat) (n cl i : Nat) : Option Nat := byteF th ki va re n cl i (cl + 1) 0
def lastW (th re : Nat → Nat) (go : Option Nat) (t r : Nat) : Nat → Option Nat
  | 0 => none
  | i + 1 => if th i = t ∧ re i ≤ r ∧ ¬ go = some i then some i else lastW th re go t r i
def nonG (ki : Nat → Nat) (o : Option Nat) : Option Nat := match o with
  | none => none
  | some w => if ki w = 5 then none else some w
def lastT (th ki re : Nat → Nat) (go : Option Nat) (t r n : Nat) : Option Nat := nonG ki (lastW th re go t r n)
theorem lastW_lt (th re : Nat → Nat) (go : Option Nat) (t r n : Nat) : ∀ w, lastW th re go t r n = some w → w < n := by
  induction n with
  | zero => intro w h; cases h
  | succ n ih =>
    intro w h
    simp only [lastW] at h
    split at h
    · cases h; omega
    · have := ih w h; omega
theorem nonG_of {ki : Nat → Nat} {o : Option Nat} {w : Nat} (h : nonG ki o = some w) : o = some w ∧ ki w ≠ 5 := by
  cases o with
  | none => cases h
  | some v =>
    simp only [nonG] at h
    split at h
    · cases h
    · rename_i hk; cases h; exact ⟨rfl, hk⟩
theorem lastT_lt (th ki re : Nat → Nat) (go : Option Nat) (t r n : Nat) : ∀ w, lastT th ki re go t r n = some w → w < n := fun w h => lastW_lt th re go t r n w (nonG_of h).1
/-- the reference's numbers are in their bounds -/
def IM (n cl : Nat) (go : Option Nat) (th ki va re si co fw : Nat → Nat) : Prop := n ≤ 40 ∧ cl ≤ 7 ∧ (∀ w, go = some w → w < 40) ∧ (∀ j, th j ≤ 15) ∧ (∀ j, ki j ≤ 5) ∧ (∀ j, va j ≤ 65535) ∧ (∀ j, re j ≤ 7) ∧ (∀ j, si j ≤ 60) ∧ (∀ j, co j ≤ 400) ∧ (∀ j, fw j ≤ 15)
def okW (n : Nat) (w : Int32) : Prop := ∃ k, k < n ∧ w = nI k
def okR (cl : Nat) (r : Int32) : Prop := ∃ k, k ≤ cl ∧ r = nI k
theorem okN {m : Nat} (hm : m < 2 ^ 31) {x : Int32} : (0 ≤ x ∧ x ≤ nI m) ↔ ∃ k, k ≤ m ∧ x = nI k := by
  constructor
  · rintro ⟨h1, h2⟩
    obtain ⟨j, hj, rfl⟩ := nI_of (x := x) (fun h => by rw [Int32.lt_iff_toInt_lt] at h; rw [Int32.le_iff_toInt_le] at h1; omega)
    exact ⟨j, (nI_leI hj hm).mp h2, rfl⟩
  · rintro ⟨k, hk, rfl⟩
    exact ⟨nI_pos' (by omega), nI_le hk hm⟩
theorem okW_iff {n : Nat} (hn : n ≤ 40) {w : Int32} : (0 ≤ w ∧ w ≤ nI n - 1) ↔ okW n w := by
  cases n with
  | zero =>
    constructor
    · rintro ⟨h1, h2⟩
      rw [Int32.le_iff_toInt_le] at h1 h2
      have : (nI 0 - 1).toInt = -1 := by decide
      have : (0 : Int32).toInt = 0 := by decide
      omega
    · rintro ⟨k, hk, _⟩; omega
  | succ n =>
    rw [nI_pred, okN (by omega)]
    exact ⟨fun ⟨k, h, e⟩ => ⟨k, by omega, e⟩, fun ⟨k, h, e⟩ => ⟨k, by omega, e⟩⟩
theorem okR_iff {cl : Nat} (h : cl ≤ 7) {x : Int32} : (0 ≤ x ∧ x ≤ nI cl) ↔ okR cl x := okN (by omega)
theorem in_lt {x lo hi : Int32} (h : lg_cmp x.toInt64 lo.toInt64 < 0) : nI 0 = bI (lo ≤ x ∧ x ≤ hi) := b0 (fun q => by
  rw [lg_cmp_lt, i64_lt, Int32.lt_iff_toInt_lt] at h
  have := Int32.le_iff_toInt_le.mp q.1
  omega)
theorem in_gt {x lo hi : Int32} (h : 0 < lg_cmp x.toInt64 hi.toInt64) : nI 0 = bI (lo ≤ x ∧ x ≤ hi) := b0 (fun q => by
  rw [lg_cmp_gt, i64_lt, Int32.lt_iff_toInt_lt] at h
  have := Int32.le_iff_toInt_le.mp q.2
  omega)
theorem in_ok {x lo hi : Int32} (h : ¬ lg_cmp x.toInt64 lo.toInt64 < 0) (h2 : ¬ 0 < lg_cmp x.toInt64 hi.toInt64) : nI 1 = bI (lo ≤ x ∧ x ≤ hi) := b1 (by
  rw [lg_cmp_lt, i64_lt, Int32.lt_iff_toInt_lt] at h
  rw [lg_cmp_gt, i64_lt, Int32.lt_iff_toInt_lt] at h2
  rw [Int32.le_iff_toInt_le, Int32.le_iff_toInt_le]
  omega)
theorem sh_bit {x k : Nat} (hx : x < 65536) (hk : k < 16) : (nI x >>> (nI k &&& 31) &&& nI 1) = nI (x / 2 ^ k % 2) := by
  have h1 : ∀ k, k < 16 → ((nI k &&& 31).toBitVec.smod 32).toNat = k := by decide +kernel
  rw [pk_shrN (by omega) _ k (h1 k hk)]
  exact pk_andN (Nat.lt_of_le_of_lt (Nat.div_le_self _ _) (by omega)) 1 (by decide)
theorem tb_iff (x k : Nat) : x / 2 ^ k % 2 = 1 ↔ x.testBit k = true := by
  rw [Nat.testBit_eq_decide_div_mod_eq]; simp
def wrB (th ki va re : Nat → Nat) (w q : Nat) : Nat := if q = 0 then th w else if q = 1 then ki w else if q = 2 then va w else if q = 3 then re w else 5 * w + 2 * re w
def rvB (re : Nat → Nat) (n cl r q : Nat) : Nat := if q = 0 then cntLt re r n else if q = 1 then cntEq re r n else if q = 2 then begB re n r else endB re n cl r
theorem lastW_t {th re : Nat → Nat} {go : Option Nat} {t r i : Nat} (h1 : th i = t) (h2 : re i ≤ r) (h3 : ¬ go = some i) : some i = lastW th re go t r (i + 1) := by simp [lastW, h1, h2, h3]
theorem lastW_f1 {th re : Nat → Nat} {go : Option Nat} {t r i : Nat} (h1 : th i ≠ t) : lastW th re go t r i = lastW th re go t r (i + 1) := by simp [lastW, h1]
theorem lastW_f2 {th re : Nat → Nat} {go : Option Nat} {t r i : Nat} (h1 : r < re i) : lastW th re go t r i = lastW th re go t r (i + 1) := by simp [lastW, Nat.not_le.mpr h1]
theorem lastW_f3 {th re : Nat → Nat} {go : Option Nat} {t r i : Nat} (h1 : go = some i) : lastW th re go t r i = lastW th re go t r (i + 1) := by simp [lastW, h1]
theorem lastT_n {th ki re : Nat → Nat} {go : Option Nat} {t r n : Nat} (h : lastW th re go t r n = none) : none = lastT th ki re go t r n := by simp [lastT, h, nonG]
theorem lastT_g {th ki re : Nat → Nat} {go : Option Nat} {t r n v : Nat} (h : lastW th re go t r n = some v) (hk : ki v = 5) : none = lastT th ki re go t r n := by simp [lastT, h, nonG, hk]
theorem lastT_s {th ki re : Nat → Nat} {go : Option Nat} {t r n v : Nat} (h : lastW th re go t r n = some v) (hk : ki v ≠ 5) : lastW th re go t r n = lastT th ki re go t r n := by simp [lastT, h, nonG, hk]
end
section
section
variable {l : Launch} {D : va_G} {cI cZ cS : ClassId}

set_option maxHeartbeats 4000000 in
set_option maxRecDepth 100000 in
theorem c_X6_in (x : Int32) (lo : Int32) (hi : Int32) : CP l D (TY cI cZ cS) yX6_in cX6_in 6 .boolean 0 [.long x.toInt64, .long lo.toInt64, .long hi.toInt64] [] (.int (bI (lo ≤ x ∧ x ≤ hi))) := by
  refine CP.ofI (by decide +kernel) (Nat.le_of_ble_eq_true rfl) (bI_nar _) ?_
  intro p e s m args below meth c Q G K hP hret ls hl
  obtain ⟨hx, hb, hml, hown, hts⟩ := id G
  have hl : lv_has ls 6 [(0, .long x.toInt64), (2, .long lo.toInt64), (4, .long hi.toInt64)] := hl
  refine lv_lload_n hx hb dX6_in_0 rfl (lv_at hl 0 rfl) ?_
  refine lv_lload_n hx hb dX6_in_1 rfl (lv_at hl 1 rfl) ?_
  refine W.lcmp hx hb dX6_in_2 ?_
  refine lv_if_lt (tgt := 17) hx hb dX6_in_3 (by decide) (fun c3 => ?_) (fun c3 => ?_)
  · -- taken at 3
    refine lv_iconst (v := (nI 0)) hx hb dX6_in_17 (by decide) ?_
    exact hret _ _ _ (by first | exact in_lt c3 | exact in_gt c10 | exact in_ok c3 c10) dX6_in_18
  · -- not taken at 3
    refine lv_lload_n hx hb dX6_in_6 rfl (lv_at hl 0 rfl) ?_
    refine lv_lload hx hb dX6_in_7 (lv_at hl 2 rfl) ?_
    refine W.lcmp hx hb dX6_in_9 ?_
    refine lv_if_gt (tgt := 17) hx hb dX6_in_10 (by decide) (fun c10 => ?_) (fun c10 => ?_)
    · -- taken at 10
      refine lv_iconst (v := (nI 0)) hx hb dX6_in_17 (by decide) ?_
      exact hret _ _ _ (by first | exact in_lt c3 | exact in_gt c10 | exact in_ok c3 c10) dX6_in_18
    · -- not taken at 10
      refine lv_iconst (v := (nI 1)) hx hb dX6_in_13 (by decide) ?_
      refine lv_goto (tgt := 18) hx hb dX6_in_14 (by decide) ?_
      exact hret _ _ _ (by first | exact in_lt c3 | exact in_gt c10 | exact in_ok c3 c10) dX6_in_18
set_option maxHeartbeats 4000000 in
set_option maxRecDepth 100000 in
theorem c_X6_isTwo (x : Int32) : CP l D (TY cI cZ cS) yX6_isTwo cX6_isTwo 1 .boolean 1 [.int x] [] (.int (bI ((0 : Int32) ≤ x ∧ x ≤ (1 : Int32)))) := by
  refine CP.ofI (by decide +kernel) (Nat.le_of_ble_eq_true rfl) (bI_nar _) ?_
  intro p e s m args below meth c Q G K hP hret ls hl
  obtain ⟨hx, hb, hml, hown, hts⟩ := id G
  have hl : lv_has ls 1 [(0, .int x)] := hl
  refine lv_iload_n hx hb dX6_isTwo_0 rfl (lv_at hl 0 rfl) ?_
  refine lv_i2l (v := x.toInt64) hx hb dX6_isTwo_1 rfl ?_
  refine lv_lconst (v := ((0 : Int32)).toInt64) hx hb dX6_isTwo_2 (by decide) ?_
  refine lv_lconst (v := ((1 : Int32)).toInt64) hx hb dX6_isTwo_3 (by decide) ?_
  refine callPS (rest := []) G K F_X6_in (c_X6_in x (0 : Int32) (1 : Int32)) (va_P_nil D s.heap) ml_X6_51 (by decide) (by decide) rfl hl.1 (Nat.le_of_ble_eq_true rfl) dX6_isTwo_4 ?_
  exact hret _ _ _ rfl dX6_isTwo_7
set_option maxHeartbeats 4000000 in
set_option maxRecDepth 100000 in
theorem c_X6_isSheet (x : Int32) : CP l D (TY cI cZ cS) yX6_isSheet cX6_isSheet 1 .boolean 1 [.int x] [] (.int (bI ((0 : Int32) ≤ x ∧ x ≤ (3 : Int32)))) := by
  refine CP.ofI (by decide +kernel) (Nat.le_of_ble_eq_true rfl) (bI_nar _) ?_
  intro p e s m args below meth c Q G K hP hret ls hl
  obtain ⟨hx, hb, hml, hown, hts⟩ := id G
  have hl : lv_has ls 1 [(0, .int x)] := hl
  refine lv_iload_n hx hb dX6_isSheet_0 rfl (lv_at hl 0 rfl) ?_
  refine lv_i2l (v := x.toInt64) hx hb dX6_isSheet_1 rfl ?_
  refine lv_lconst (v := ((0 : Int32)).toInt64) hx hb dX6_isSheet_2 (by decide) ?_
  refine lv_ldc2 hx hb hown (hts _ kl_X6_58) dX6_isSheet_3 ?_
  refine t_l (y := (3 : Int32).toInt64) (by decide) ?_
  refine callPS (rest := []) G K F_X6_in (c_X6_in x (0 : Int32) (3 : Int32)) (va_P_nil D s.heap) ml_X6_51 (by decide) (by decide) rfl hl.1 (Nat.le_of_ble_eq_true rfl) dX6_isSheet_6 ?_
  exact hret _ _ _ rfl dX6_isSheet_9
set_option maxHeartbeats 4000000 in
set_option maxRecDepth 100000 in
theorem c_X6_isThing (x : Int32) : CP l D (TY cI cZ cS) yX6_isThing cX6_isThing 1 .boolean 1 [.int x] [] (.int (bI ((0 : Int32) ≤ x ∧ x ≤ (15 : Int32)))) := by
  refine CP.ofI (by decide +kernel) (Nat.le_of_ble_eq_true rfl) (bI_nar _) ?_
  intro p e s m args below meth c Q G K hP hret ls hl
  obtain ⟨hx, hb, hml, hown, hts⟩ := id G
  have hl : lv_has ls 1 [(0, .int x)] := hl
  refine lv_iload_n hx hb dX6_isThing_0 rfl (lv_at hl 0 rfl) ?_
  refine lv_i2l (v := x.toInt64) hx hb dX6_isThing_1 rfl ?_
  refine lv_lconst (v := ((0 : Int32)).toInt64) hx hb dX6_isThing_2 (by decide) ?_
  refine lv_ldc2 hx hb hown (hts _ kl_X6_81) dX6_isThing_3 ?_
  refine t_l (y := (15 : Int32).toInt64) (by decide) ?_
  refine callPS (rest := []) G K F_X6_in (c_X6_in x (0 : Int32) (15 : Int32)) (va_P_nil D s.heap) ml_X6_51 (by decide) (by decide) rfl hl.1 (Nat.le_of_ble_eq_true rfl) dX6_isThing_6 ?_
  exact hret _ _ _ rfl dX6_isThing_9
set_option maxHeartbeats 4000000 in
set_option maxRecDepth 100000 in
theorem c_X6_isIn (x : Nat) (k : Nat) (hx9 : x < 65536) (hk9 : k < 16) : CP l D (TY cI cZ cS) yX6_isIn cX6_isIn 2 .boolean 0 [.int (nI x), .int (nI k)] [] (.int (bI (x.testBit k = true))) := by
  refine CP.ofI (by decide +kernel) (Nat.le_of_ble_eq_true rfl) (bI_nar _) ?_
  intro p e s m args below meth c Q G K hP hret ls hl
  obtain ⟨hx, hb, hml, hown, hts⟩ := id G
  have hl : lv_has ls 2 [(0, .int (nI x)), (1, .int (nI k))] := hl
  refine lv_iload_n hx hb dX6_isIn_0 rfl (lv_at hl 0 rfl) ?_
  refine lv_iload_n hx hb dX6_isIn_1 rfl (lv_at hl 1 rfl) ?_
  refine lv_ishr hx hb dX6_isIn_2 ?_
  refine lv_iconst (v := (nI 1)) hx hb dX6_isIn_3 (by decide) ?_
  refine lv_iand hx hb dX6_isIn_4 ?_
  refine t_i (y := (nI (x / 2 ^ k % 2))) (sh_bit hx9 hk9) ?_
  refine lv_iconst (v := (nI 1)) hx hb dX6_isIn_5 (by decide) ?_
  refine c_ne G (tgt := 13) (Nat.lt_of_lt_of_le (Nat.mod_lt _ (by decide)) (by decide)) (by omega) dX6_isIn_6 (by decide) (fun c6 => ?_) (fun c6 => ?_)
  · -- taken at 6
    refine lv_iconst (v := (nI 0)) hx hb dX6_isIn_13 (by decide) ?_
    exact hret _ _ _ (by first | exact b1 ((tb_iff x k).mp c6) | exact b0 (fun h => c6 ((tb_iff x k).mpr h))) dX6_isIn_14
  · -- not taken at 6
    refine lv_iconst (v := (nI 1)) hx hb dX6_isIn_9 (by decide) ?_
    refine lv_goto (tgt := 14) hx hb dX6_isIn_10 (by decide) ?_
    exact hret _ _ _ (by first | exact b1 ((tb_iff x k).mp c6) | exact b0 (fun h => c6 ((tb_iff x k).mpr h))) dX6_isIn_14
set_option maxHeartbeats 4000000 in
set_option maxRecDepth 100000 in
theorem c_X6_lesser (x : Nat) (y : Nat) (hx9 : x < 2 ^ 31) (hy9 : y < 2 ^ 31) : CP l D (TY cI cZ cS) yX6_lesser cX6_lesser 2 .int 0 [.int (nI x), .int (nI y)] [] (.int (nI (min x y))) := by
  refine CP.ofI (by decide +kernel) (Nat.le_of_ble_eq_true rfl) (nar_int _) ?_
  intro p e s m args below meth c Q G K hP hret ls hl
  obtain ⟨hx, hb, hml, hown, hts⟩ := id G
  have hl : lv_has ls 2 [(0, .int (nI x)), (1, .int (nI y))] := hl
  refine lv_iload_n hx hb dX6_lesser_0 rfl (lv_at hl 0 rfl) ?_
  refine lv_iload_n hx hb dX6_lesser_1 rfl (lv_at hl 1 rfl) ?_
  refine c_ge G (tgt := 9) (by omega) (by omega) dX6_lesser_2 (by decide) (fun c2 => ?_) (fun c2 => ?_)
  · -- taken at 2
    refine lv_iload_n hx hb dX6_lesser_9 rfl (lv_at hl 1 rfl) ?_
    exact hret _ _ _ (congrArg nI (by omega)) dX6_lesser_10
  · -- not taken at 2
    refine lv_iload_n hx hb dX6_lesser_5 rfl (lv_at hl 0 rfl) ?_
    refine lv_goto (tgt := 10) hx hb dX6_lesser_6 (by decide) ?_
    exact hret _ _ _ (congrArg nI (by omega)) dX6_lesser_10
set_option maxHeartbeats 4000000 in
set_option maxRecDepth 100000 in
theorem c_X6_greater (x : Nat) (y : Nat) (hx9 : x < 2 ^ 31) (hy9 : y < 2 ^ 31) : CP l D (TY cI cZ cS) yX6_greater cX6_greater 2 .int 0 [.int (nI x), .int (nI y)] [] (.int (nI (max x y))) := by
  refine CP.ofI (by decide +kernel) (Nat.le_of_ble_eq_true rfl) (nar_int _) ?_
  intro p e s m args below meth c Q G K hP hret ls hl
  obtain ⟨hx, hb, hml, hown, hts⟩ := id G
  have hl : lv_has ls 2 [(0, .int (nI x)), (1, .int (nI y))] := hl
  refine lv_iload_n hx hb dX6_greater_0 rfl (lv_at hl 0 rfl) ?_
  refine lv_iload_n hx hb dX6_greater_1 rfl (lv_at hl 1 rfl) ?_
  refine c_le G (tgt := 9) (by omega) (by omega) dX6_greater_2 (by decide) (fun c2 => ?_) (fun c2 => ?_)
  · -- taken at 2
    refine lv_iload_n hx hb dX6_greater_9 rfl (lv_at hl 1 rfl) ?_
    exact hret _ _ _ (congrArg nI (by omega)) dX6_greater_10
  · -- not taken at 2
    refine lv_iload_n hx hb dX6_greater_5 rfl (lv_at hl 0 rfl) ?_
    refine lv_goto (tgt := 10) hx hb dX6_greater_6 (by decide) ?_
    exact hret _ _ _ (congrArg nI (by omega)) dX6_greater_10
set_option maxHeartbeats 4000000 in
set_option maxRecDepth 100000 in
theorem c_X6_isValue (k : Int32) (v : Int32) : CP l D (TY cI cZ cS) yX6_isValue cX6_isValue 2 .boolean 1 [.int k, .int v] [] (.int (bI (0 ≤ v ∧ v ≤ (if k = nI 4 then 2 else 65535)))) := by
  refine CP.ofI (by decide +kernel) (Nat.le_of_ble_eq_true rfl) (bI_nar _) ?_
  intro p e s m args below meth c Q G K hP hret ls hl
  obtain ⟨hx, hb, hml, hown, hts⟩ := id G
  have hl : lv_has ls 2 [(0, .int k), (1, .int v)] := hl
  refine lv_iload_n hx hb dX6_isValue_0 rfl (lv_at hl 1 rfl) ?_
  refine lv_i2l (v := v.toInt64) hx hb dX6_isValue_1 rfl ?_
  refine lv_lconst (v := ((0 : Int32)).toInt64) hx hb dX6_isValue_2 (by decide) ?_
  refine lv_iload_n hx hb dX6_isValue_3 rfl (lv_at hl 0 rfl) ?_
  refine lv_iconst (v := (nI 4)) hx hb dX6_isValue_4 (by decide) ?_
  refine lv_icmp_ne (tgt := 14) hx hb dX6_isValue_5 (by decide) (fun c5 => ?_) (fun c5 => ?_)
  · -- taken at 5
    refine lv_ldc2 hx hb hown (hts _ kl_X6_79) dX6_isValue_14 ?_
    refine t_l (y := (65535 : Int32).toInt64) (by decide) ?_
    refine callPS (rest := []) G K F_X6_in (c_X6_in v (0 : Int32) (65535 : Int32)) (va_P_nil D s.heap) ml_X6_51 (by decide) (by decide) rfl hl.1 (Nat.le_of_ble_eq_true rfl) dX6_isValue_17 ?_
    exact hret _ _ _ (bI_iff (by first | rw [if_pos c5] | rw [if_neg c5])) dX6_isValue_20
  · -- not taken at 5
    refine lv_ldc2 hx hb hown (hts _ kl_X6_64) dX6_isValue_8 ?_
    refine t_l (y := (2 : Int32).toInt64) (by decide) ?_
    refine lv_goto (tgt := 17) hx hb dX6_isValue_11 (by decide) ?_
    refine callPS (rest := []) G K F_X6_in (c_X6_in v (0 : Int32) (2 : Int32)) (va_P_nil D s.heap) ml_X6_51 (by decide) (by decide) rfl hl.1 (Nat.le_of_ble_eq_true rfl) dX6_isValue_17 ?_
    exact hret _ _ _ (bI_iff (by first | rw [if_pos c5] | rw [if_neg c5])) dX6_isValue_20
set_option maxHeartbeats 4000000 in
set_option maxRecDepth 100000 in
theorem c_X6_manyOf (a : Nat → Nat) (la : Int32) (n : Nat) (cl : Nat) (go : Option Nat) (fo : Nat → Int32) (si : Nat → Nat) (it : Nat → Int32) (mo : Nat → Int32) (th : Nat → Nat) (ki : Nat → Nat) (va : Nat → Nat) (re : Nat → Nat) (to : Nat → Prop) (co : Nat → Nat) (ke : Nat → Int32) (fw : Nat → Nat) (r : Nat) (I : IM n cl go th ki va re si co fw) (hr9 : r < 2 ^ 31) : CP l D (TY cI cZ cS) yX6_manyOf cX6_manyOf 4 .int 0 [.ref (a 0), .int (nI r)] (wM cI cZ a la n cl go fo si it mo th ki va re to co ke fw) (.int (nI (cntEq re r n))) := by
  refine CP.ofI (by decide +kernel) (Nat.le_of_ble_eq_true rfl) (nar_int _) ?_
  intro p e s m args below meth c Q G K hP hret ls hl
  obtain ⟨hx, hb, hml, hown, hts⟩ := id G
  obtain ⟨hn, hcl, hgo, hth, hki, hva, hre, hsi, hco, hfw⟩ := id I
  have hl : lv_has ls 4 [(0, .ref (a 0)), (1, .int (nI r))] := hl
  refine lv_iconst (v := (nI 0)) hx hb dX6_manyOf_0 (by decide) ?_
  refine lv_istore_n (lv' := [(2, .int (nI 0)), (0, .ref (a 0)), (1, .int (nI r))]) hx hb dX6_manyOf_1 rfl hl (by decide) rfl (fun ls hl => ?_)
  refine lv_iconst (v := (nI 0)) hx hb dX6_manyOf_2 (by decide) ?_
  refine lv_istore_n (lv' := [(3, .int (nI 0)), (2, .int (nI 0)), (0, .ref (a 0)), (1, .int (nI r))]) hx hb dX6_manyOf_3 rfl hl (by decide) rfl (fun ls hl => ?_)
  have L4 : ∀ (d i : Nat), 0 ≤ i → i + d = n → ∀ (ls : Array Slot), lv_has ls 4 [(0, .ref (a 0)), (1, .int (nI r)), (2, .int (nI (cntEq re r i))), (3, .int (nI i))] → W p l e (RM 0) s m args below meth c s.heap [] 0 0 Q (F0 m 4 ls []) := by
    intro d
    induction d with
    | zero =>
      intro i hlo4 hhi4 ls hl
      refine lv_iload_n hx hb dX6_manyOf_4 rfl (lv_at hl 3 rfl) ?_
      refine lv_aload_n hx hb dX6_manyOf_5 rfl (lv_at hl 0 rfl) ?_
      refine f_get G K hP inX6 0 (ci := 6) rfl rfl 5 rfl fl_X6_89 (v := .int (nI n)) rfl dX6_manyOf_6 ?_
      refine c_ge G (tgt := 36) (by omega) (by omega) dX6_manyOf_9 (by decide) (fun c9 => ?_) (fun c9 => ?_)
      · -- taken at 9
        refine lv_iload_n hx hb dX6_manyOf_36 rfl (lv_at hl 2 rfl) ?_
        exact hret _ _ _ (congrArg nI (by rw [show i = n by omega])) dX6_manyOf_37
      · -- not taken at 9
        exact absurd c9 (by omega)
    | succ d ih =>
      intro i hlo4 hhi4 ls hl
      refine lv_iload_n hx hb dX6_manyOf_4 rfl (lv_at hl 3 rfl) ?_
      refine lv_aload_n hx hb dX6_manyOf_5 rfl (lv_at hl 0 rfl) ?_
      refine f_get G K hP inX6 0 (ci := 6) rfl rfl 5 rfl fl_X6_89 (v := .int (nI n)) rfl dX6_manyOf_6 ?_
      refine c_ge G (tgt := 36) (by omega) (by omega) dX6_manyOf_9 (by decide) (fun c9 => ?_) (fun c9 => ?_)
      · -- taken at 9
        exact absurd c9 (by omega)
      · -- not taken at 9
        refine lv_iload_n hx hb dX6_manyOf_12 rfl (lv_at hl 2 rfl) ?_
        refine lv_aload_n hx hb dX6_manyOf_13 rfl (lv_at hl 0 rfl) ?_
        refine f_get G K hP inX6 0 (ci := 6) rfl rfl 9 rfl fl_X6_31 (v := .ref (a 8)) rfl dX6_manyOf_14 ?_
        refine lv_iload_n hx hb dX6_manyOf_17 rfl (lv_at hl 3 rfl) ?_
        refine a_ldN G K hP 8 0 (a := (a 8)) rfl rfl (by omega) (by decide) dX6_manyOf_18 ?_
        have hb1 := hre i
        refine lv_iload_n hx hb dX6_manyOf_19 rfl (lv_at hl 1 rfl) ?_
        refine c_ne G (tgt := 27) (by omega) (by omega) dX6_manyOf_20 (by decide) (fun c20 => ?_) (fun c20 => ?_)
        · -- taken at 20
          refine lv_iconst (v := (nI 0)) hx hb dX6_manyOf_27 (by decide) ?_
          refine t_add G dX6_manyOf_28 ?_
          refine t_i (y := (nI (cntEq re r (i + 1)))) (congrArg nI (by first | exact (cntEq_t c20).symm | exact (cntEq_f c20).symm)) ?_
          refine lv_istore_n (lv' := [(2, .int (nI (cntEq re r (i + 1)))), (0, .ref (a 0)), (1, .int (nI r)), (3, .int (nI i))]) hx hb dX6_manyOf_29 rfl hl (by decide) rfl (fun ls hl => ?_)
          refine lv_iinc (v := (nI (i + 1))) (lv' := [(3, .int (nI (i + 1))), (2, .int (nI (cntEq re r (i + 1)))), (0, .ref (a 0)), (1, .int (nI r))]) hx hb dX6_manyOf_30 hl (k := 3) rfl (nI_inc _ 1) (by decide) rfl (fun ls hl => ?_)
          refine lv_goto (tgt := 4) hx hb dX6_manyOf_33 (by decide) ?_
          -- slot 3: have n:i + 1, want n:(i + 1)
          exact ih (i + 1) (by omega) (by omega) ls (lv_sub hl [2, 3, 1, 0] rfl)
        · -- not taken at 20
          refine lv_iconst (v := (nI 1)) hx hb dX6_manyOf_23 (by decide) ?_
          refine lv_goto (tgt := 28) hx hb dX6_manyOf_24 (by decide) ?_
          refine t_add G dX6_manyOf_28 ?_
          refine t_i (y := (nI (cntEq re r (i + 1)))) (congrArg nI (by first | exact (cntEq_t c20).symm | exact (cntEq_f c20).symm)) ?_
          refine lv_istore_n (lv' := [(2, .int (nI (cntEq re r (i + 1)))), (0, .ref (a 0)), (1, .int (nI r)), (3, .int (nI i))]) hx hb dX6_manyOf_29 rfl hl (by decide) rfl (fun ls hl => ?_)
          refine lv_iinc (v := (nI (i + 1))) (lv' := [(3, .int (nI (i + 1))), (2, .int (nI (cntEq re r (i + 1)))), (0, .ref (a 0)), (1, .int (nI r))]) hx hb dX6_manyOf_30 hl (k := 3) rfl (nI_inc _ 1) (by decide) rfl (fun ls hl => ?_)
          refine lv_goto (tgt := 4) hx hb dX6_manyOf_33 (by decide) ?_
          -- slot 3: have n:i + 1, want n:(i + 1)
          exact ih (i + 1) (by omega) (by omega) ls (lv_sub hl [2, 3, 1, 0] rfl)
  exact L4 (n - 0) (0) (Nat.le_refl _) (by omega) ls (lv_sub hl [2, 3, 1, 0] rfl)
set_option maxHeartbeats 4000000 in
set_option maxRecDepth 100000 in
theorem c_X6_firstOf (a : Nat → Nat) (la : Int32) (n : Nat) (cl : Nat) (go : Option Nat) (fo : Nat → Int32) (si : Nat → Nat) (it : Nat → Int32) (mo : Nat → Int32) (th : Nat → Nat) (ki : Nat → Nat) (va : Nat → Nat) (re : Nat → Nat) (to : Nat → Prop) (co : Nat → Nat) (ke : Nat → Int32) (fw : Nat → Nat) (r : Nat) (I : IM n cl go th ki va re si co fw) (hr9 : r < 2 ^ 31) : CP l D (TY cI cZ cS) yX6_firstOf cX6_firstOf 4 .int 0 [.ref (a 0), .int (nI r)] (wM cI cZ a la n cl go fo si it mo th ki va re to co ke fw) (.int (nI (cntLt re r n))) := by
  refine CP.ofI (by decide +kernel) (Nat.le_of_ble_eq_true rfl) (nar_int _) ?_
  intro p e s m args below meth c Q G K hP hret ls hl
  obtain ⟨hx, hb, hml, hown, hts⟩ := id G
  obtain ⟨hn, hcl, hgo, hth, hki, hva, hre, hsi, hco, hfw⟩ := id I
  have hl : lv_has ls 4 [(0, .ref (a 0)), (1, .int (nI r))] := hl
  refine lv_iconst (v := (nI 0)) hx hb dX6_firstOf_0 (by decide) ?_
  refine lv_istore_n (lv' := [(2, .int (nI 0)), (0, .ref (a 0)), (1, .int (nI r))]) hx hb dX6_firstOf_1 rfl hl (by decide) rfl (fun ls hl => ?_)
  refine lv_iconst (v := (nI 0)) hx hb dX6_firstOf_2 (by decide) ?_
  refine lv_istore_n (lv' := [(3, .int (nI 0)), (2, .int (nI 0)), (0, .ref (a 0)), (1, .int (nI r))]) hx hb dX6_firstOf_3 rfl hl (by decide) rfl (fun ls hl => ?_)
  have L4 : ∀ (d i : Nat), 0 ≤ i → i + d = n → ∀ (ls : Array Slot), lv_has ls 4 [(0, .ref (a 0)), (1, .int (nI r)), (2, .int (nI (cntLt re r i))), (3, .int (nI i))] → W p l e (RM 0) s m args below meth c s.heap [] 0 0 Q (F0 m 4 ls []) := by
    intro d
    induction d with
    | zero =>
      intro i hlo4 hhi4 ls hl
      refine lv_iload_n hx hb dX6_firstOf_4 rfl (lv_at hl 3 rfl) ?_
      refine lv_aload_n hx hb dX6_firstOf_5 rfl (lv_at hl 0 rfl) ?_
      refine f_get G K hP inX6 0 (ci := 6) rfl rfl 5 rfl fl_X6_89 (v := .int (nI n)) rfl dX6_firstOf_6 ?_
      refine c_ge G (tgt := 36) (by omega) (by omega) dX6_firstOf_9 (by decide) (fun c9 => ?_) (fun c9 => ?_)
      · -- taken at 9
        refine lv_iload_n hx hb dX6_firstOf_36 rfl (lv_at hl 2 rfl) ?_
        exact hret _ _ _ (congrArg nI (by rw [show i = n by omega])) dX6_firstOf_37
      · -- not taken at 9
        exact absurd c9 (by omega)
    | succ d ih =>
      intro i hlo4 hhi4 ls hl
      refine lv_iload_n hx hb dX6_firstOf_4 rfl (lv_at hl 3 rfl) ?_
      refine lv_aload_n hx hb dX6_firstOf_5 rfl (lv_at hl 0 rfl) ?_
      refine f_get G K hP inX6 0 (ci := 6) rfl rfl 5 rfl fl_X6_89 (v := .int (nI n)) rfl dX6_firstOf_6 ?_
      refine c_ge G (tgt := 36) (by omega) (by omega) dX6_firstOf_9 (by decide) (fun c9 => ?_) (fun c9 => ?_)
      · -- taken at 9
        exact absurd c9 (by omega)
      · -- not taken at 9
        refine lv_iload_n hx hb dX6_firstOf_12 rfl (lv_at hl 2 rfl) ?_
        refine lv_aload_n hx hb dX6_firstOf_13 rfl (lv_at hl 0 rfl) ?_
        refine f_get G K hP inX6 0 (ci := 6) rfl rfl 9 rfl fl_X6_31 (v := .ref (a 8)) rfl dX6_firstOf_14 ?_
        refine lv_iload_n hx hb dX6_firstOf_17 rfl (lv_at hl 3 rfl) ?_
        refine a_ldN G K hP 8 0 (a := (a 8)) rfl rfl (by omega) (by decide) dX6_firstOf_18 ?_
        have hb1 := hre i
        refine lv_iload_n hx hb dX6_firstOf_19 rfl (lv_at hl 1 rfl) ?_
        refine c_ge G (tgt := 27) (by omega) (by omega) dX6_firstOf_20 (by decide) (fun c20 => ?_) (fun c20 => ?_)
        · -- taken at 20
          refine lv_iconst (v := (nI 0)) hx hb dX6_firstOf_27 (by decide) ?_
          refine t_add G dX6_firstOf_28 ?_
          refine t_i (y := (nI (cntLt re r (i + 1)))) (congrArg nI (by first | exact (cntLt_t c20).symm | exact (cntLt_f c20).symm)) ?_
          refine lv_istore_n (lv' := [(2, .int (nI (cntLt re r (i + 1)))), (0, .ref (a 0)), (1, .int (nI r)), (3, .int (nI i))]) hx hb dX6_firstOf_29 rfl hl (by decide) rfl (fun ls hl => ?_)
          refine lv_iinc (v := (nI (i + 1))) (lv' := [(3, .int (nI (i + 1))), (2, .int (nI (cntLt re r (i + 1)))), (0, .ref (a 0)), (1, .int (nI r))]) hx hb dX6_firstOf_30 hl (k := 3) rfl (nI_inc _ 1) (by decide) rfl (fun ls hl => ?_)
          refine lv_goto (tgt := 4) hx hb dX6_firstOf_33 (by decide) ?_
          -- slot 3: have n:i + 1, want n:(i + 1)
          exact ih (i + 1) (by omega) (by omega) ls (lv_sub hl [2, 3, 1, 0] rfl)
        · -- not taken at 20
          refine lv_iconst (v := (nI 1)) hx hb dX6_firstOf_23 (by decide) ?_
          refine lv_goto (tgt := 28) hx hb dX6_firstOf_24 (by decide) ?_
          refine t_add G dX6_firstOf_28 ?_
          refine t_i (y := (nI (cntLt re r (i + 1)))) (congrArg nI (by first | exact (cntLt_t c20).symm | exact (cntLt_f c20).symm)) ?_
          refine lv_istore_n (lv' := [(2, .int (nI (cntLt re r (i + 1)))), (0, .ref (a 0)), (1, .int (nI r)), (3, .int (nI i))]) hx hb dX6_firstOf_29 rfl hl (by decide) rfl (fun ls hl => ?_)
          refine lv_iinc (v := (nI (i + 1))) (lv' := [(3, .int (nI (i + 1))), (2, .int (nI (cntLt re r (i + 1)))), (0, .ref (a 0)), (1, .int (nI r))]) hx hb dX6_firstOf_30 hl (k := 3) rfl (nI_inc _ 1) (by decide) rfl (fun ls hl => ?_)
          refine lv_goto (tgt := 4) hx hb dX6_firstOf_33 (by decide) ?_
          -- slot 3: have n:i + 1, want n:(i + 1)
          exact ih (i + 1) (by omega) (by omega) ls (lv_sub hl [2, 3, 1, 0] rfl)
  exact L4 (n - 0) (0) (Nat.le_refl _) (by omega) ls (lv_sub hl [2, 3, 1, 0] rfl)
set_option maxHeartbeats 4000000 in
set_option maxRecDepth 100000 in
theorem c_X6_isWrite (a : Nat → Nat) (la : Int32) (n : Nat) (cl : Nat) (go : Option Nat) (fo : Nat → Int32) (si : Nat → Nat) (it : Nat → Int32) (mo : Nat → Int32) (th : Nat → Nat) (ki : Nat → Nat) (va : Nat → Nat) (re : Nat → Nat) (to : Nat → Prop) (co : Nat → Nat) (ke : Nat → Int32) (fw : Nat → Nat) (w : Int32) (I : IM n cl go th ki va re si co fw) : CP l D (TY cI cZ cS) yX6_isWrite cX6_isWrite 2 .boolean 1 [.ref (a 0), .int w] (wM cI cZ a la n cl go fo si it mo th ki va re to co ke fw) (.int (bI (okW n w))) := by
  refine CP.ofI (by decide +kernel) (Nat.le_of_ble_eq_true rfl) (bI_nar _) ?_
  intro p e s m args below meth c Q G K hP hret ls hl
  obtain ⟨hx, hb, hml, hown, hts⟩ := id G
  obtain ⟨hn, hcl, hgo, hth, hki, hva, hre, hsi, hco, hfw⟩ := id I
  have hl : lv_has ls 2 [(0, .ref (a 0)), (1, .int w)] := hl
  refine lv_iload_n hx hb dX6_isWrite_0 rfl (lv_at hl 1 rfl) ?_
  refine lv_i2l (v := w.toInt64) hx hb dX6_isWrite_1 rfl ?_
  refine lv_lconst (v := ((0 : Int32)).toInt64) hx hb dX6_isWrite_2 (by decide) ?_
  refine lv_aload_n hx hb dX6_isWrite_3 rfl (lv_at hl 0 rfl) ?_
  refine f_get G K hP inX6 0 (ci := 6) rfl rfl 5 rfl fl_X6_89 (v := .int (nI n)) rfl dX6_isWrite_4 ?_
  refine lv_iconst (v := (nI 1)) hx hb dX6_isWrite_7 (by decide) ?_
  refine lv_isub hx hb dX6_isWrite_8 ?_
  refine lv_i2l (v := ((nI n) - (nI 1)).toInt64) hx hb dX6_isWrite_9 rfl ?_
  refine callPS (rest := []) G K F_X6_in (c_X6_in w (0 : Int32) ((nI n) - (nI 1))) (va_P_nil D s.heap) ml_X6_51 (by decide) (by decide) rfl hl.1 (Nat.le_of_ble_eq_true rfl) dX6_isWrite_10 ?_
  exact hret _ _ _ (bI_iff (okW_iff hn)) dX6_isWrite_13
set_option maxHeartbeats 4000000 in
set_option maxRecDepth 100000 in
theorem c_X6_isSeal (a : Nat → Nat) (la : Int32) (n : Nat) (cl : Nat) (go : Option Nat) (fo : Nat → Int32) (si : Nat → Nat) (it : Nat → Int32) (mo : Nat → Int32) (th : Nat → Nat) (ki : Nat → Nat) (va : Nat → Nat) (re : Nat → Nat) (to : Nat → Prop) (co : Nat → Nat) (ke : Nat → Int32) (fw : Nat → Nat) (w : Nat) (I : IM n cl go th ki va re si co fw) (hw9 : w < 40) : CP l D (TY cI cZ cS) yX6_isSeal cX6_isSeal 2 .boolean 0 [.ref (a 0), .int (nI w)] (wM cI cZ a la n cl go fo si it mo th ki va re to co ke fw) (.int (bI (ki w = 4))) := by
  refine CP.ofI (by decide +kernel) (Nat.le_of_ble_eq_true rfl) (bI_nar _) ?_
  intro p e s m args below meth c Q G K hP hret ls hl
  obtain ⟨hx, hb, hml, hown, hts⟩ := id G
  obtain ⟨hn, hcl, hgo, hth, hki, hva, hre, hsi, hco, hfw⟩ := id I
  have hl : lv_has ls 2 [(0, .ref (a 0)), (1, .int (nI w))] := hl
  refine lv_aload_n hx hb dX6_isSeal_0 rfl (lv_at hl 0 rfl) ?_
  refine f_get G K hP inX6 0 (ci := 6) rfl rfl 7 rfl fl_X6_25 (v := .ref (a 6)) rfl dX6_isSeal_1 ?_
  refine lv_iload_n hx hb dX6_isSeal_4 rfl (lv_at hl 1 rfl) ?_
  refine a_ldN G K hP 6 0 (a := (a 6)) rfl rfl (by omega) (by decide) dX6_isSeal_5 ?_
  have hb1 := hki w
  refine lv_iconst (v := (nI 4)) hx hb dX6_isSeal_6 (by decide) ?_
  refine c_ne G (tgt := 14) (by omega) (by omega) dX6_isSeal_7 (by decide) (fun c7 => ?_) (fun c7 => ?_)
  · -- taken at 7
    refine lv_iconst (v := (nI 0)) hx hb dX6_isSeal_14 (by decide) ?_
    exact hret _ _ _ (by first | exact b1 c7 | exact b0 c7) dX6_isSeal_15
  · -- not taken at 7
    refine lv_iconst (v := (nI 1)) hx hb dX6_isSeal_10 (by decide) ?_
    refine lv_goto (tgt := 15) hx hb dX6_isSeal_11 (by decide) ?_
    exact hret _ _ _ (by first | exact b1 c7 | exact b0 c7) dX6_isSeal_15
set_option maxHeartbeats 4000000 in
set_option maxRecDepth 100000 in
theorem c_X6_isClosed (a : Nat → Nat) (la : Int32) (n : Nat) (cl : Nat) (go : Option Nat) (fo : Nat → Int32) (si : Nat → Nat) (it : Nat → Int32) (mo : Nat → Int32) (th : Nat → Nat) (ki : Nat → Nat) (va : Nat → Nat) (re : Nat → Nat) (to : Nat → Prop) (co : Nat → Nat) (ke : Nat → Int32) (fw : Nat → Nat) (w : Nat) (I : IM n cl go th ki va re si co fw) (hw9 : w < 40) : CP l D (TY cI cZ cS) yX6_isClosed cX6_isClosed 2 .boolean 1 [.ref (a 0), .int (nI w)] (wM cI cZ a la n cl go fo si it mo th ki va re to co ke fw) (.int (bI (ki w = 4 ∧ re w < cl))) := by
  refine CP.ofI (by decide +kernel) (Nat.le_of_ble_eq_true rfl) (bI_nar _) ?_
  intro p e s m args below meth c Q G K hP hret ls hl
  obtain ⟨hx, hb, hml, hown, hts⟩ := id G
  obtain ⟨hn, hcl, hgo, hth, hki, hva, hre, hsi, hco, hfw⟩ := id I
  have hl : lv_has ls 2 [(0, .ref (a 0)), (1, .int (nI w))] := hl
  refine lv_aload_n hx hb dX6_isClosed_0 rfl (lv_at hl 0 rfl) ?_
  refine lv_iload_n hx hb dX6_isClosed_1 rfl (lv_at hl 1 rfl) ?_
  refine callPV (As := [.int (nI w)]) (rest := []) (q0 := 0) (ci := 6) G K F_X6_isSeal (c_X6_isSeal a la n cl go fo si it mo th ki va re to co ke fw w I (by omega)) hP ml_X6_101 rfl rfl rfl (by decide) (by decide) rfl hl.1 (Nat.le_of_ble_eq_true rfl) dX6_isClosed_2 ?_
  refine b_eq G (tgt := 25) dX6_isClosed_5 (by decide) (fun c5 => ?_) (fun c5 => ?_)
  · -- taken at 5
    refine lv_iconst (v := (nI 0)) hx hb dX6_isClosed_25 (by decide) ?_
    exact hret _ _ _ (by first | exact b1 ⟨c5, c18⟩ | exact b0 (fun h => c5 h.1) | exact b0 (fun h => Nat.not_lt.mpr c18 h.2)) dX6_isClosed_26
  · -- not taken at 5
    refine lv_aload_n hx hb dX6_isClosed_8 rfl (lv_at hl 0 rfl) ?_
    refine f_get G K hP inX6 0 (ci := 6) rfl rfl 9 rfl fl_X6_31 (v := .ref (a 8)) rfl dX6_isClosed_9 ?_
    refine lv_iload_n hx hb dX6_isClosed_12 rfl (lv_at hl 1 rfl) ?_
    refine a_ldN G K hP 8 0 (a := (a 8)) rfl rfl (by omega) (by decide) dX6_isClosed_13 ?_
    have hb1 := hre w
    refine lv_aload_n hx hb dX6_isClosed_14 rfl (lv_at hl 0 rfl) ?_
    refine f_get G K hP inX6 0 (ci := 6) rfl rfl 13 rfl fl_X6_92 (v := .int (nI cl)) rfl dX6_isClosed_15 ?_
    refine c_ge G (tgt := 25) (by omega) (by omega) dX6_isClosed_18 (by decide) (fun c18 => ?_) (fun c18 => ?_)
    · -- taken at 18
      refine lv_iconst (v := (nI 0)) hx hb dX6_isClosed_25 (by decide) ?_
      exact hret _ _ _ (by first | exact b1 ⟨c5, c18⟩ | exact b0 (fun h => c5 h.1) | exact b0 (fun h => Nat.not_lt.mpr c18 h.2)) dX6_isClosed_26
    · -- not taken at 18
      refine lv_iconst (v := (nI 1)) hx hb dX6_isClosed_21 (by decide) ?_
      refine lv_goto (tgt := 26) hx hb dX6_isClosed_22 (by decide) ?_
      exact hret _ _ _ (by first | exact b1 ⟨c5, c18⟩ | exact b0 (fun h => c5 h.1) | exact b0 (fun h => Nat.not_lt.mpr c18 h.2)) dX6_isClosed_26
set_option maxHeartbeats 4000000 in
set_option maxRecDepth 100000 in
theorem c_X6_placeOf (a : Nat → Nat) (la : Int32) (n : Nat) (cl : Nat) (go : Option Nat) (fo : Nat → Int32) (si : Nat → Nat) (it : Nat → Int32) (mo : Nat → Int32) (th : Nat → Nat) (ki : Nat → Nat) (va : Nat → Nat) (re : Nat → Nat) (to : Nat → Prop) (co : Nat → Nat) (ke : Nat → Int32) (fw : Nat → Nat) (w : Nat) (I : IM n cl go th ki va re si co fw) (hw9 : w < 40) : CP l D (TY cI cZ cS) yX6_placeOf cX6_placeOf 2 .int 0 [.ref (a 0), .int (nI w)] (wM cI cZ a la n cl go fo si it mo th ki va re to co ke fw) (.int (nI (5 * w + 2 * re w))) := by
  refine CP.ofI (by decide +kernel) (Nat.le_of_ble_eq_true rfl) (nar_int _) ?_
  intro p e s m args below meth c Q G K hP hret ls hl
  obtain ⟨hx, hb, hml, hown, hts⟩ := id G
  obtain ⟨hn, hcl, hgo, hth, hki, hva, hre, hsi, hco, hfw⟩ := id I
  have hl : lv_has ls 2 [(0, .ref (a 0)), (1, .int (nI w))] := hl
  refine lv_iconst (v := (nI 5)) hx hb dX6_placeOf_0 (by decide) ?_
  refine lv_iload_n hx hb dX6_placeOf_1 rfl (lv_at hl 1 rfl) ?_
  refine t_mul G dX6_placeOf_2 ?_
  refine lv_iconst (v := (nI 2)) hx hb dX6_placeOf_3 (by decide) ?_
  refine lv_aload_n hx hb dX6_placeOf_4 rfl (lv_at hl 0 rfl) ?_
  refine f_get G K hP inX6 0 (ci := 6) rfl rfl 9 rfl fl_X6_31 (v := .ref (a 8)) rfl dX6_placeOf_5 ?_
  refine lv_iload_n hx hb dX6_placeOf_8 rfl (lv_at hl 1 rfl) ?_
  refine a_ldN G K hP 8 0 (a := (a 8)) rfl rfl (by omega) (by decide) dX6_placeOf_9 ?_
  have hb1 := hre w
  refine t_mul G dX6_placeOf_10 ?_
  refine t_add G dX6_placeOf_11 ?_
  exact hret _ _ _ rfl dX6_placeOf_12
set_option maxHeartbeats 4000000 in
set_option maxRecDepth 100000 in
theorem c_X6_beginOf (a : Nat → Nat) (la : Int32) (n : Nat) (cl : Nat) (go : Option Nat) (fo : Nat → Int32) (si : Nat → Nat) (it : Nat → Int32) (mo : Nat → Int32) (th : Nat → Nat) (ki : Nat → Nat) (va : Nat → Nat) (re : Nat → Nat) (to : Nat → Prop) (co : Nat → Nat) (ke : Nat → Int32) (fw : Nat → Nat) (r : Nat) (I : IM n cl go th ki va re si co fw) (hr9 : r < 2 ^ 31) : CP l D (TY cI cZ cS) yX6_beginOf cX6_beginOf 2 .int 1 [.ref (a 0), .int (nI r)] (wM cI cZ a la n cl go fo si it mo th ki va re to co ke fw) (.int (nI (begB re n r))) := by
  refine CP.ofI (by decide +kernel) (Nat.le_of_ble_eq_true rfl) (nar_int _) ?_
  intro p e s m args below meth c Q G K hP hret ls hl
  obtain ⟨hx, hb, hml, hown, hts⟩ := id G
  obtain ⟨hn, hcl, hgo, hth, hki, hva, hre, hsi, hco, hfw⟩ := id I
  have hl : lv_has ls 2 [(0, .ref (a 0)), (1, .int (nI r))] := hl
  refine lv_iconst (v := (nI 5)) hx hb dX6_beginOf_0 (by decide) ?_
  refine lv_aload_n hx hb dX6_beginOf_1 rfl (lv_at hl 0 rfl) ?_
  refine lv_iload_n hx hb dX6_beginOf_2 rfl (lv_at hl 1 rfl) ?_
  refine callPV (As := [.int (nI r)]) (rest := [.int (nI 5)]) (q0 := 0) (ci := 6) G K F_X6_firstOf (c_X6_firstOf a la n cl go fo si it mo th ki va re to co ke fw r I (by omega)) hP ml_X6_119 rfl rfl rfl (by decide) (by decide) rfl hl.1 (Nat.le_of_ble_eq_true rfl) dX6_beginOf_3 ?_
  have hf1 := cnt_le re r n
  refine t_mul G dX6_beginOf_6 ?_
  refine lv_iconst (v := (nI 2)) hx hb dX6_beginOf_7 (by decide) ?_
  refine lv_iload_n hx hb dX6_beginOf_8 rfl (lv_at hl 1 rfl) ?_
  refine t_mul G dX6_beginOf_9 ?_
  refine t_add G dX6_beginOf_10 ?_
  exact hret _ _ _ rfl dX6_beginOf_11
set_option maxHeartbeats 4000000 in
set_option maxRecDepth 100000 in
theorem c_X6_endOf (a : Nat → Nat) (la : Int32) (n : Nat) (cl : Nat) (go : Option Nat) (fo : Nat → Int32) (si : Nat → Nat) (it : Nat → Int32) (mo : Nat → Int32) (th : Nat → Nat) (ki : Nat → Nat) (va : Nat → Nat) (re : Nat → Nat) (to : Nat → Prop) (co : Nat → Nat) (ke : Nat → Int32) (fw : Nat → Nat) (r : Nat) (I : IM n cl go th ki va re si co fw) (hr9 : r < 2 ^ 31) : CP l D (TY cI cZ cS) yX6_endOf cX6_endOf 2 .int 2 [.ref (a 0), .int (nI r)] (wM cI cZ a la n cl go fo si it mo th ki va re to co ke fw) (.int (nI (endB re n cl r))) := by
  refine CP.ofI (by decide +kernel) (Nat.le_of_ble_eq_true rfl) (nar_int _) ?_
  intro p e s m args below meth c Q G K hP hret ls hl
  obtain ⟨hx, hb, hml, hown, hts⟩ := id G
  obtain ⟨hn, hcl, hgo, hth, hki, hva, hre, hsi, hco, hfw⟩ := id I
  have hl : lv_has ls 2 [(0, .ref (a 0)), (1, .int (nI r))] := hl
  refine lv_aload_n hx hb dX6_endOf_0 rfl (lv_at hl 0 rfl) ?_
  refine lv_iload_n hx hb dX6_endOf_1 rfl (lv_at hl 1 rfl) ?_
  refine callPV (As := [.int (nI r)]) (rest := []) (q0 := 0) (ci := 6) G K F_X6_beginOf (c_X6_beginOf a la n cl go fo si it mo th ki va re to co ke fw r I (by omega)) hP ml_X6_122 rfl rfl rfl (by decide) (by decide) rfl hl.1 (Nat.le_of_ble_eq_true rfl) dX6_endOf_2 ?_
  have hf1 := cnt_le re r n
  have hf2 := (rfl : begB re n r = 5 * cntLt re r n + 2 * r)
  refine lv_iconst (v := (nI 5)) hx hb dX6_endOf_5 (by decide) ?_
  refine lv_aload_n hx hb dX6_endOf_6 rfl (lv_at hl 0 rfl) ?_
  refine lv_iload_n hx hb dX6_endOf_7 rfl (lv_at hl 1 rfl) ?_
  refine callPV (As := [.int (nI r)]) (rest := [.int (nI 5), .int (nI (begB re n r))]) (q0 := 0) (ci := 6) G K F_X6_manyOf (c_X6_manyOf a la n cl go fo si it mo th ki va re to co ke fw r I (by omega)) hP ml_X6_95 rfl rfl rfl (by decide) (by decide) rfl hl.1 (Nat.le_of_ble_eq_true rfl) dX6_endOf_8 ?_
  have hf3 := cnt_le re r n
  refine t_mul G dX6_endOf_11 ?_
  refine t_add G dX6_endOf_12 ?_
  refine lv_iload_n hx hb dX6_endOf_13 rfl (lv_at hl 1 rfl) ?_
  refine lv_aload_n hx hb dX6_endOf_14 rfl (lv_at hl 0 rfl) ?_
  refine f_get G K hP inX6 0 (ci := 6) rfl rfl 13 rfl fl_X6_92 (v := .int (nI cl)) rfl dX6_endOf_15 ?_
  refine c_ge G (tgt := 25) (by omega) (by omega) dX6_endOf_18 (by decide) (fun c18 => ?_) (fun c18 => ?_)
  · -- taken at 18
    refine lv_iconst (v := (nI 0)) hx hb dX6_endOf_25 (by decide) ?_
    refine t_add G dX6_endOf_26 ?_
    exact hret _ _ _ (congrArg nI (by unfold endB; first | rw [if_pos c18] | rw [if_neg (Nat.not_lt.mpr c18)])) dX6_endOf_27
  · -- not taken at 18
    refine lv_iconst (v := (nI 2)) hx hb dX6_endOf_21 (by decide) ?_
    refine lv_goto (tgt := 26) hx hb dX6_endOf_22 (by decide) ?_
    refine t_add G dX6_endOf_26 ?_
    exact hret _ _ _ (congrArg nI (by unfold endB; first | rw [if_pos c18] | rw [if_neg (Nat.not_lt.mpr c18)])) dX6_endOf_27
set_option maxHeartbeats 4000000 in
set_option maxRecDepth 100000 in
theorem c_X6_allBytes (a : Nat → Nat) (la : Int32) (n : Nat) (cl : Nat) (go : Option Nat) (fo : Nat → Int32) (si : Nat → Nat) (it : Nat → Int32) (mo : Nat → Int32) (th : Nat → Nat) (ki : Nat → Nat) (va : Nat → Nat) (re : Nat → Nat) (to : Nat → Prop) (co : Nat → Nat) (ke : Nat → Int32) (fw : Nat → Nat) (I : IM n cl go th ki va re si co fw) : CP l D (TY cI cZ cS) yX6_allBytes cX6_allBytes 1 .int 0 [.ref (a 0)] (wM cI cZ a la n cl go fo si it mo th ki va re to co ke fw) (.int (nI (5 * n + 2 * cl))) := by
  refine CP.ofI (by decide +kernel) (Nat.le_of_ble_eq_true rfl) (nar_int _) ?_
  intro p e s m args below meth c Q G K hP hret ls hl
  obtain ⟨hx, hb, hml, hown, hts⟩ := id G
  obtain ⟨hn, hcl, hgo, hth, hki, hva, hre, hsi, hco, hfw⟩ := id I
  have hl : lv_has ls 1 [(0, .ref (a 0))] := hl
  refine lv_iconst (v := (nI 5)) hx hb dX6_allBytes_0 (by decide) ?_
  refine lv_aload_n hx hb dX6_allBytes_1 rfl (lv_at hl 0 rfl) ?_
  refine f_get G K hP inX6 0 (ci := 6) rfl rfl 5 rfl fl_X6_89 (v := .int (nI n)) rfl dX6_allBytes_2 ?_
  refine t_mul G dX6_allBytes_5 ?_
  refine lv_iconst (v := (nI 2)) hx hb dX6_allBytes_6 (by decide) ?_
  refine lv_aload_n hx hb dX6_allBytes_7 rfl (lv_at hl 0 rfl) ?_
  refine f_get G K hP inX6 0 (ci := 6) rfl rfl 13 rfl fl_X6_92 (v := .int (nI cl)) rfl dX6_allBytes_8 ?_
  refine t_mul G dX6_allBytes_11 ?_
  refine t_add G dX6_allBytes_12 ?_
  exact hret _ _ _ rfl dX6_allBytes_13
set_option maxHeartbeats 4000000 in
set_option maxRecDepth 100000 in
theorem c_X6_byteOf (a : Nat → Nat) (la : Int32) (n : Nat) (cl : Nat) (go : Option Nat) (fo : Nat → Int32) (si : Nat → Nat) (it : Nat → Int32) (mo : Nat → Int32) (th : Nat → Nat) (ki : Nat → Nat) (va : Nat → Nat) (re : Nat → Nat) (to : Nat → Prop) (co : Nat → Nat) (ke : Nat → Int32) (fw : Nat → Nat) (w : Nat) (i : Nat) (I : IM n cl go th ki va re si co fw) (hw9 : w < 40) (hi9 : i < 2 ^ 31) : CP l D (TY cI cZ cS) yX6_byteOf cX6_byteOf 3 .int 0 [.ref (a 0), .int (nI w), .int (nI i)] (wM cI cZ a la n cl go fo si it mo th ki va re to co ke fw) (.int (nI (byteO th ki va w i))) := by
  refine CP.ofI (by decide +kernel) (Nat.le_of_ble_eq_true rfl) (nar_int _) ?_
  intro p e s m args below meth c Q G K hP hret ls hl
  obtain ⟨hx, hb, hml, hown, hts⟩ := id G
  obtain ⟨hn, hcl, hgo, hth, hki, hva, hre, hsi, hco, hfw⟩ := id I
  have hl : lv_has ls 3 [(0, .ref (a 0)), (1, .int (nI w)), (2, .int (nI i))] := hl
  refine lv_iload_n hx hb dX6_byteOf_0 rfl (lv_at hl 2 rfl) ?_
  rcases (show i = 0 ∨ i = 1 ∨ i = 2 ∨ i = 3 ∨ 3 < i by omega) with rfl | rfl | rfl | rfl | hsw1
  · -- 0
    refine lv_tableIn (off := 31) (tgt := 32) hx hb dX6_byteOf_1 (by decide) (by decide) (by decide) (by decide) ?_
    refine lv_bipush (v := (nI 79)) hx hb dX6_byteOf_32 (by decide) ?_
    exact hret _ _ _ (congrArg nI (by unfold byteO; (repeat' split) <;> first | rfl | omega)) dX6_byteOf_34
  · -- 1
    refine lv_tableIn (off := 34) (tgt := 35) hx hb dX6_byteOf_1 (by decide) (by decide) (by decide) (by decide) ?_
    refine lv_aload_n hx hb dX6_byteOf_35 rfl (lv_at hl 0 rfl) ?_
    refine f_get G K hP inX6 0 (ci := 6) rfl rfl 6 rfl fl_X6_22 (v := .ref (a 5)) rfl dX6_byteOf_36 ?_
    refine lv_iload_n hx hb dX6_byteOf_39 rfl (lv_at hl 1 rfl) ?_
    refine a_ldN G K hP 5 0 (a := (a 5)) rfl rfl (by omega) (by decide) dX6_byteOf_40 ?_
    have hb1 := hth w
    exact hret _ _ _ (congrArg nI (by unfold byteO; (repeat' split) <;> first | rfl | omega)) dX6_byteOf_41
  · -- 2
    refine lv_tableIn (off := 41) (tgt := 42) hx hb dX6_byteOf_1 (by decide) (by decide) (by decide) (by decide) ?_
    refine lv_aload_n hx hb dX6_byteOf_42 rfl (lv_at hl 0 rfl) ?_
    refine f_get G K hP inX6 0 (ci := 6) rfl rfl 7 rfl fl_X6_25 (v := .ref (a 6)) rfl dX6_byteOf_43 ?_
    refine lv_iload_n hx hb dX6_byteOf_46 rfl (lv_at hl 1 rfl) ?_
    refine a_ldN G K hP 6 0 (a := (a 6)) rfl rfl (by omega) (by decide) dX6_byteOf_47 ?_
    have hb2 := hki w
    exact hret _ _ _ (congrArg nI (by unfold byteO; (repeat' split) <;> first | rfl | omega)) dX6_byteOf_48
  · -- 3
    refine lv_tableIn (off := 48) (tgt := 49) hx hb dX6_byteOf_1 (by decide) (by decide) (by decide) (by decide) ?_
    refine lv_aload_n hx hb dX6_byteOf_49 rfl (lv_at hl 0 rfl) ?_
    refine f_get G K hP inX6 0 (ci := 6) rfl rfl 8 rfl fl_X6_28 (v := .ref (a 7)) rfl dX6_byteOf_50 ?_
    refine lv_iload_n hx hb dX6_byteOf_53 rfl (lv_at hl 1 rfl) ?_
    refine a_ldN G K hP 7 0 (a := (a 7)) rfl rfl (by omega) (by decide) dX6_byteOf_54 ?_
    have hb3 := hva w
    refine lv_sipush (v := (nI 256)) hx hb dX6_byteOf_55 (by decide) ?_
    refine t_div G (by omega) (by decide) (by decide) dX6_byteOf_58 ?_
    exact hret _ _ _ (congrArg nI (by unfold byteO; (repeat' split) <;> first | rfl | omega)) dX6_byteOf_59
  · -- other
    refine lv_tableOut (tgt := 60) hx hb dX6_byteOf_1 (Or.inr (by rw [nI_toInt (by omega)]; omega)) (by decide) ?_
    refine lv_aload_n hx hb dX6_byteOf_60 rfl (lv_at hl 0 rfl) ?_
    refine f_get G K hP inX6 0 (ci := 6) rfl rfl 8 rfl fl_X6_28 (v := .ref (a 7)) rfl dX6_byteOf_61 ?_
    refine lv_iload_n hx hb dX6_byteOf_64 rfl (lv_at hl 1 rfl) ?_
    refine a_ldN G K hP 7 0 (a := (a 7)) rfl rfl (by omega) (by decide) dX6_byteOf_65 ?_
    have hb4 := hva w
    refine lv_sipush (v := (nI 256)) hx hb dX6_byteOf_66 (by decide) ?_
    refine t_rem G (by omega) (by decide) (by decide) dX6_byteOf_69 ?_
    exact hret _ _ _ (congrArg nI (by unfold byteO; (repeat' split) <;> first | rfl | omega)) dX6_byteOf_70
set_option maxHeartbeats 4000000 in
set_option maxRecDepth 100000 in
theorem c_X6_writeBy (a : Nat → Nat) (la : Int32) (n : Nat) (cl : Nat) (go : Option Nat) (fo : Nat → Int32) (si : Nat → Nat) (it : Nat → Int32) (mo : Nat → Int32) (th : Nat → Nat) (ki : Nat → Nat) (va : Nat → Nat) (re : Nat → Nat) (to : Nat → Prop) (co : Nat → Nat) (ke : Nat → Int32) (fw : Nat → Nat) (w : Nat) (q : Nat) (I : IM n cl go th ki va re si co fw) (hw9 : w < 40) (hq9 : q < 2 ^ 31) : CP l D (TY cI cZ cS) yX6_writeBy cX6_writeBy 3 .int 1 [.ref (a 0), .int (nI w), .int (nI q)] (wM cI cZ a la n cl go fo si it mo th ki va re to co ke fw) (.int (nI (wrB th ki va re w q))) := by
  refine CP.ofI (by decide +kernel) (Nat.le_of_ble_eq_true rfl) (nar_int _) ?_
  intro p e s m args below meth c Q G K hP hret ls hl
  obtain ⟨hx, hb, hml, hown, hts⟩ := id G
  obtain ⟨hn, hcl, hgo, hth, hki, hva, hre, hsi, hco, hfw⟩ := id I
  have hl : lv_has ls 3 [(0, .ref (a 0)), (1, .int (nI w)), (2, .int (nI q))] := hl
  refine lv_iload_n hx hb dX6_writeBy_0 rfl (lv_at hl 2 rfl) ?_
  rcases (show q = 0 ∨ q = 1 ∨ q = 2 ∨ q = 3 ∨ 3 < q by omega) with rfl | rfl | rfl | rfl | hsw1
  · -- 0
    refine lv_tableIn (off := 31) (tgt := 32) hx hb dX6_writeBy_1 (by decide) (by decide) (by decide) (by decide) ?_
    refine lv_aload_n hx hb dX6_writeBy_32 rfl (lv_at hl 0 rfl) ?_
    refine f_get G K hP inX6 0 (ci := 6) rfl rfl 6 rfl fl_X6_22 (v := .ref (a 5)) rfl dX6_writeBy_33 ?_
    refine lv_iload_n hx hb dX6_writeBy_36 rfl (lv_at hl 1 rfl) ?_
    refine a_ldN G K hP 5 0 (a := (a 5)) rfl rfl (by omega) (by decide) dX6_writeBy_37 ?_
    have hb1 := hth w
    exact hret _ _ _ (congrArg nI (by unfold wrB; (repeat' split) <;> first | rfl | omega)) dX6_writeBy_38
  · -- 1
    refine lv_tableIn (off := 38) (tgt := 39) hx hb dX6_writeBy_1 (by decide) (by decide) (by decide) (by decide) ?_
    refine lv_aload_n hx hb dX6_writeBy_39 rfl (lv_at hl 0 rfl) ?_
    refine f_get G K hP inX6 0 (ci := 6) rfl rfl 7 rfl fl_X6_25 (v := .ref (a 6)) rfl dX6_writeBy_40 ?_
    refine lv_iload_n hx hb dX6_writeBy_43 rfl (lv_at hl 1 rfl) ?_
    refine a_ldN G K hP 6 0 (a := (a 6)) rfl rfl (by omega) (by decide) dX6_writeBy_44 ?_
    have hb2 := hki w
    exact hret _ _ _ (congrArg nI (by unfold wrB; (repeat' split) <;> first | rfl | omega)) dX6_writeBy_45
  · -- 2
    refine lv_tableIn (off := 45) (tgt := 46) hx hb dX6_writeBy_1 (by decide) (by decide) (by decide) (by decide) ?_
    refine lv_aload_n hx hb dX6_writeBy_46 rfl (lv_at hl 0 rfl) ?_
    refine f_get G K hP inX6 0 (ci := 6) rfl rfl 8 rfl fl_X6_28 (v := .ref (a 7)) rfl dX6_writeBy_47 ?_
    refine lv_iload_n hx hb dX6_writeBy_50 rfl (lv_at hl 1 rfl) ?_
    refine a_ldN G K hP 7 0 (a := (a 7)) rfl rfl (by omega) (by decide) dX6_writeBy_51 ?_
    have hb3 := hva w
    exact hret _ _ _ (congrArg nI (by unfold wrB; (repeat' split) <;> first | rfl | omega)) dX6_writeBy_52
  · -- 3
    refine lv_tableIn (off := 52) (tgt := 53) hx hb dX6_writeBy_1 (by decide) (by decide) (by decide) (by decide) ?_
    refine lv_aload_n hx hb dX6_writeBy_53 rfl (lv_at hl 0 rfl) ?_
    refine f_get G K hP inX6 0 (ci := 6) rfl rfl 9 rfl fl_X6_31 (v := .ref (a 8)) rfl dX6_writeBy_54 ?_
    refine lv_iload_n hx hb dX6_writeBy_57 rfl (lv_at hl 1 rfl) ?_
    refine a_ldN G K hP 8 0 (a := (a 8)) rfl rfl (by omega) (by decide) dX6_writeBy_58 ?_
    have hb4 := hre w
    exact hret _ _ _ (congrArg nI (by unfold wrB; (repeat' split) <;> first | rfl | omega)) dX6_writeBy_59
  · -- other
    refine lv_tableOut (tgt := 60) hx hb dX6_writeBy_1 (Or.inr (by rw [nI_toInt (by omega)]; omega)) (by decide) ?_
    refine lv_aload_n hx hb dX6_writeBy_60 rfl (lv_at hl 0 rfl) ?_
    refine lv_iload_n hx hb dX6_writeBy_61 rfl (lv_at hl 1 rfl) ?_
    refine callPV (As := [.int (nI w)]) (rest := []) (q0 := 0) (ci := 6) G K F_X6_placeOf (c_X6_placeOf a la n cl go fo si it mo th ki va re to co ke fw w I (by omega)) hP ml_X6_135 rfl rfl rfl (by decide) (by decide) rfl hl.1 (Nat.le_of_ble_eq_true rfl) dX6_writeBy_62 ?_
    exact hret _ _ _ (congrArg nI (by unfold wrB; (repeat' split) <;> first | rfl | omega)) dX6_writeBy_65
set_option maxHeartbeats 4000000 in
set_option maxRecDepth 100000 in
theorem c_X6_isRevision (a : Nat → Nat) (la : Int32) (n : Nat) (cl : Nat) (go : Option Nat) (fo : Nat → Int32) (si : Nat → Nat) (it : Nat → Int32) (mo : Nat → Int32) (th : Nat → Nat) (ki : Nat → Nat) (va : Nat → Nat) (re : Nat → Nat) (to : Nat → Prop) (co : Nat → Nat) (ke : Nat → Int32) (fw : Nat → Nat) (x : Int32) (I : IM n cl go th ki va re si co fw) : CP l D (TY cI cZ cS) yX6_isRevision cX6_isRevision 2 .boolean 1 [.ref (a 0), .int x] (wM cI cZ a la n cl go fo si it mo th ki va re to co ke fw) (.int (bI (okR cl x))) := by
  refine CP.ofI (by decide +kernel) (Nat.le_of_ble_eq_true rfl) (bI_nar _) ?_
  intro p e s m args below meth c Q G K hP hret ls hl
  obtain ⟨hx, hb, hml, hown, hts⟩ := id G
  obtain ⟨hn, hcl, hgo, hth, hki, hva, hre, hsi, hco, hfw⟩ := id I
  have hl : lv_has ls 2 [(0, .ref (a 0)), (1, .int x)] := hl
  refine lv_iload_n hx hb dX6_isRevision_0 rfl (lv_at hl 1 rfl) ?_
  refine lv_i2l (v := x.toInt64) hx hb dX6_isRevision_1 rfl ?_
  refine lv_lconst (v := ((0 : Int32)).toInt64) hx hb dX6_isRevision_2 (by decide) ?_
  refine lv_aload_n hx hb dX6_isRevision_3 rfl (lv_at hl 0 rfl) ?_
  refine f_get G K hP inX6 0 (ci := 6) rfl rfl 13 rfl fl_X6_92 (v := .int (nI cl)) rfl dX6_isRevision_4 ?_
  refine lv_i2l (v := (nI cl).toInt64) hx hb dX6_isRevision_7 rfl ?_
  refine callPS (rest := []) G K F_X6_in (c_X6_in x (0 : Int32) (nI cl)) (va_P_nil D s.heap) ml_X6_51 (by decide) (by decide) rfl hl.1 (Nat.le_of_ble_eq_true rfl) dX6_isRevision_8 ?_
  exact hret _ _ _ (bI_iff (okR_iff hcl)) dX6_isRevision_11
set_option maxHeartbeats 4000000 in
set_option maxRecDepth 100000 in
theorem c_X6_revisionBy (a : Nat → Nat) (la : Int32) (n : Nat) (cl : Nat) (go : Option Nat) (fo : Nat → Int32) (si : Nat → Nat) (it : Nat → Int32) (mo : Nat → Int32) (th : Nat → Nat) (ki : Nat → Nat) (va : Nat → Nat) (re : Nat → Nat) (to : Nat → Prop) (co : Nat → Nat) (ke : Nat → Int32) (fw : Nat → Nat) (r : Nat) (q : Nat) (I : IM n cl go th ki va re si co fw) (hr9 : r < 2 ^ 31) (hq9 : q < 2 ^ 31) : CP l D (TY cI cZ cS) yX6_revisionBy cX6_revisionBy 3 .int 3 [.ref (a 0), .int (nI r), .int (nI q)] (wM cI cZ a la n cl go fo si it mo th ki va re to co ke fw) (.int (nI (rvB re n cl r q))) := by
  refine CP.ofI (by decide +kernel) (Nat.le_of_ble_eq_true rfl) (nar_int _) ?_
  intro p e s m args below meth c Q G K hP hret ls hl
  obtain ⟨hx, hb, hml, hown, hts⟩ := id G
  obtain ⟨hn, hcl, hgo, hth, hki, hva, hre, hsi, hco, hfw⟩ := id I
  have hl : lv_has ls 3 [(0, .ref (a 0)), (1, .int (nI r)), (2, .int (nI q))] := hl
  refine lv_iload_n hx hb dX6_revisionBy_0 rfl (lv_at hl 2 rfl) ?_
  refine z_ne G (tgt := 12) (by omega) dX6_revisionBy_1 (by decide) (fun c1 => ?_) (fun c1 => ?_)
  · -- taken at 1
    refine lv_iload_n hx hb dX6_revisionBy_12 rfl (lv_at hl 2 rfl) ?_
    refine lv_iconst (v := (nI 1)) hx hb dX6_revisionBy_13 (by decide) ?_
    refine c_ne G (tgt := 25) (by omega) (by omega) dX6_revisionBy_14 (by decide) (fun c14 => ?_) (fun c14 => ?_)
    · -- taken at 14
      refine lv_iload_n hx hb dX6_revisionBy_25 rfl (lv_at hl 2 rfl) ?_
      refine lv_iconst (v := (nI 2)) hx hb dX6_revisionBy_26 (by decide) ?_
      refine c_ne G (tgt := 38) (by omega) (by omega) dX6_revisionBy_27 (by decide) (fun c27 => ?_) (fun c27 => ?_)
      · -- taken at 27
        refine lv_aload_n hx hb dX6_revisionBy_38 rfl (lv_at hl 0 rfl) ?_
        refine lv_iload_n hx hb dX6_revisionBy_39 rfl (lv_at hl 1 rfl) ?_
        refine callPV (As := [.int (nI r)]) (rest := []) (q0 := 0) (ci := 6) G K F_X6_endOf (c_X6_endOf a la n cl go fo si it mo th ki va re to co ke fw r I (by omega)) hP ml_X6_143 rfl rfl rfl (by decide) (by decide) rfl hl.1 (Nat.le_of_ble_eq_true rfl) dX6_revisionBy_40 ?_
        exact hret _ _ _ (congrArg nI (by unfold rvB; (repeat' split) <;> first | rfl | omega)) dX6_revisionBy_43
      · -- not taken at 27
        refine lv_aload_n hx hb dX6_revisionBy_30 rfl (lv_at hl 0 rfl) ?_
        refine lv_iload_n hx hb dX6_revisionBy_31 rfl (lv_at hl 1 rfl) ?_
        refine callPV (As := [.int (nI r)]) (rest := []) (q0 := 0) (ci := 6) G K F_X6_beginOf (c_X6_beginOf a la n cl go fo si it mo th ki va re to co ke fw r I (by omega)) hP ml_X6_122 rfl rfl rfl (by decide) (by decide) rfl hl.1 (Nat.le_of_ble_eq_true rfl) dX6_revisionBy_32 ?_
        have hf1 := cnt_le re r n
        have hf2 := (rfl : begB re n r = 5 * cntLt re r n + 2 * r)
        refine lv_goto (tgt := 43) hx hb dX6_revisionBy_35 (by decide) ?_
        exact hret _ _ _ (congrArg nI (by unfold rvB; (repeat' split) <;> first | rfl | omega)) dX6_revisionBy_43
    · -- not taken at 14
      refine lv_aload_n hx hb dX6_revisionBy_17 rfl (lv_at hl 0 rfl) ?_
      refine lv_iload_n hx hb dX6_revisionBy_18 rfl (lv_at hl 1 rfl) ?_
      refine callPV (As := [.int (nI r)]) (rest := []) (q0 := 0) (ci := 6) G K F_X6_manyOf (c_X6_manyOf a la n cl go fo si it mo th ki va re to co ke fw r I (by omega)) hP ml_X6_95 rfl rfl rfl (by decide) (by decide) rfl hl.1 (Nat.le_of_ble_eq_true rfl) dX6_revisionBy_19 ?_
      have hf3 := cnt_le re r n
      refine lv_goto (tgt := 43) hx hb dX6_revisionBy_22 (by decide) ?_
      exact hret _ _ _ (congrArg nI (by unfold rvB; (repeat' split) <;> first | rfl | omega)) dX6_revisionBy_43
  · -- not taken at 1
    refine lv_aload_n hx hb dX6_revisionBy_4 rfl (lv_at hl 0 rfl) ?_
    refine lv_iload_n hx hb dX6_revisionBy_5 rfl (lv_at hl 1 rfl) ?_
    refine callPV (As := [.int (nI r)]) (rest := []) (q0 := 0) (ci := 6) G K F_X6_firstOf (c_X6_firstOf a la n cl go fo si it mo th ki va re to co ke fw r I (by omega)) hP ml_X6_119 rfl rfl rfl (by decide) (by decide) rfl hl.1 (Nat.le_of_ble_eq_true rfl) dX6_revisionBy_6 ?_
    have hf4 := cnt_le re r n
    refine lv_goto (tgt := 43) hx hb dX6_revisionBy_9 (by decide) ?_
    exact hret _ _ _ (congrArg nI (by unfold rvB; (repeat' split) <;> first | rfl | omega)) dX6_revisionBy_43
set_option maxHeartbeats 4000000 in
set_option maxRecDepth 100000 in
theorem c_X6_lastOf (a : Nat → Nat) (la : Int32) (n : Nat) (cl : Nat) (go : Option Nat) (fo : Nat → Int32) (si : Nat → Nat) (it : Nat → Int32) (mo : Nat → Int32) (th : Nat → Nat) (ki : Nat → Nat) (va : Nat → Nat) (re : Nat → Nat) (to : Nat → Prop) (co : Nat → Nat) (ke : Nat → Int32) (fw : Nat → Nat) (t : Nat) (r : Nat) (I : IM n cl go th ki va re si co fw) (ht9 : t < 2 ^ 31) (hr9 : r < 2 ^ 31) : CP l D (TY cI cZ cS) yX6_lastOf cX6_lastOf 5 .int 0 [.ref (a 0), .int (nI t), .int (nI r)] (wM cI cZ a la n cl go fo si it mo th ki va re to co ke fw) (.int (oI (lastT th ki re go t r n))) := by
  refine CP.ofI (by decide +kernel) (Nat.le_of_ble_eq_true rfl) (nar_int _) ?_
  intro p e s m args below meth c Q G K hP hret ls hl
  obtain ⟨hx, hb, hml, hown, hts⟩ := id G
  obtain ⟨hn, hcl, hgo, hth, hki, hva, hre, hsi, hco, hfw⟩ := id I
  have hl : lv_has ls 5 [(0, .ref (a 0)), (1, .int (nI t)), (2, .int (nI r))] := hl
  refine lv_iconst (v := (-1)) hx hb dX6_lastOf_0 (by decide) ?_
  refine lv_istore_n (lv' := [(3, .int (-1)), (0, .ref (a 0)), (1, .int (nI t)), (2, .int (nI r))]) hx hb dX6_lastOf_1 rfl hl (by decide) rfl (fun ls hl => ?_)
  refine lv_iconst (v := (nI 0)) hx hb dX6_lastOf_2 (by decide) ?_
  refine lv_istore (lv' := [(4, .int (nI 0)), (3, .int (-1)), (0, .ref (a 0)), (1, .int (nI t)), (2, .int (nI r))]) hx hb dX6_lastOf_3 hl (by decide) rfl (fun ls hl => ?_)
  have L5 : ∀ (d i : Nat), 0 ≤ i → i + d = n → ∀ (ls : Array Slot), lv_has ls 5 [(0, .ref (a 0)), (1, .int (nI t)), (2, .int (nI r)), (3, .int (oI (lastW th re go t r i))), (4, .int (nI i))] → W p l e (RM 0) s m args below meth c s.heap [] 0 0 Q (F0 m 5 ls []) := by
    intro d
    induction d with
    | zero =>
      intro i hlo5 hhi5 ls hl
      refine lv_iload hx hb dX6_lastOf_5 (lv_at hl 4 rfl) ?_
      refine lv_aload_n hx hb dX6_lastOf_7 rfl (lv_at hl 0 rfl) ?_
      refine f_get G K hP inX6 0 (ci := 6) rfl rfl 5 rfl fl_X6_89 (v := .int (nI n)) rfl dX6_lastOf_8 ?_
      refine c_ge G (tgt := 58) (by omega) (by omega) dX6_lastOf_11 (by decide) (fun c11 => ?_) (fun c11 => ?_)
      · -- taken at 11
        obtain rfl : i = n := by omega
        refine lv_iload_n hx hb dX6_lastOf_58 rfl (lv_at hl 3 rfl) ?_
        refine lv_iconst (v := (-1)) hx hb dX6_lastOf_59 (by decide) ?_
        refine o_eq G (tgt := 73) (fun w h => by have := (lastW_lt th re go t r i) w h; omega) dX6_lastOf_60 (by decide) (fun c60 => ?_) (fun c60 => ?_)
        · -- taken at 60
          refine lv_iconst (v := (-1)) hx hb dX6_lastOf_73 (by decide) ?_
          refine lv_goto (tgt := 78) hx hb dX6_lastOf_74 (by decide) ?_
          exact hret _ _ _ (by first | exact congrArg oI (lastT_n c60) | exact congrArg oI (lastT_g hv c70) | exact congrArg oI (lastT_s hv c70)) dX6_lastOf_78
        · -- not taken at 60
          obtain ⟨v, hv⟩ := Option.ne_none_iff_exists'.mp c60
          have hv9 := lastW_lt th re go t r i v hv
          refine lv_aload_n hx hb dX6_lastOf_63 rfl (lv_at hl 0 rfl) ?_
          refine f_get G K hP inX6 0 (ci := 6) rfl rfl 7 rfl fl_X6_25 (v := .ref (a 6)) rfl dX6_lastOf_64 ?_
          refine lv_iload_n hx hb dX6_lastOf_67 rfl (lv_at hl 3 rfl) ?_
          refine t_i (y := (nI v)) (by rw [hv]; rfl) ?_
          refine a_ldN G K hP 6 0 (a := (a 6)) rfl rfl (by omega) (by decide) dX6_lastOf_68 ?_
          have hb1 := hki v
          refine lv_iconst (v := (nI 5)) hx hb dX6_lastOf_69 (by decide) ?_
          refine c_ne G (tgt := 77) (by omega) (by omega) dX6_lastOf_70 (by decide) (fun c70 => ?_) (fun c70 => ?_)
          · -- taken at 70
            refine lv_iload_n hx hb dX6_lastOf_77 rfl (lv_at hl 3 rfl) ?_
            exact hret _ _ _ (by first | exact congrArg oI (lastT_n c60) | exact congrArg oI (lastT_g hv c70) | exact congrArg oI (lastT_s hv c70)) dX6_lastOf_78
          · -- not taken at 70
            refine lv_iconst (v := (-1)) hx hb dX6_lastOf_73 (by decide) ?_
            refine lv_goto (tgt := 78) hx hb dX6_lastOf_74 (by decide) ?_
            exact hret _ _ _ (by first | exact congrArg oI (lastT_n c60) | exact congrArg oI (lastT_g hv c70) | exact congrArg oI (lastT_s hv c70)) dX6_lastOf_78
      · -- not taken at 11
        exact absurd c11 (by omega)
    | succ d ih =>
      intro i hlo5 hhi5 ls hl
      refine lv_iload hx hb dX6_lastOf_5 (lv_at hl 4 rfl) ?_
      refine lv_aload_n hx hb dX6_lastOf_7 rfl (lv_at hl 0 rfl) ?_
      refine f_get G K hP inX6 0 (ci := 6) rfl rfl 5 rfl fl_X6_89 (v := .int (nI n)) rfl dX6_lastOf_8 ?_
      refine c_ge G (tgt := 58) (by omega) (by omega) dX6_lastOf_11 (by decide) (fun c11 => ?_) (fun c11 => ?_)
      · -- taken at 11
        exact absurd c11 (by omega)
      · -- not taken at 11
        refine lv_aload_n hx hb dX6_lastOf_14 rfl (lv_at hl 0 rfl) ?_
        refine f_get G K hP inX6 0 (ci := 6) rfl rfl 6 rfl fl_X6_22 (v := .ref (a 5)) rfl dX6_lastOf_15 ?_
        refine lv_iload hx hb dX6_lastOf_18 (lv_at hl 4 rfl) ?_
        refine a_ldN G K hP 5 0 (a := (a 5)) rfl rfl (by omega) (by decide) dX6_lastOf_20 ?_
        have hb2 := hth i
        refine lv_iload_n hx hb dX6_lastOf_21 rfl (lv_at hl 1 rfl) ?_
        refine c_ne G (tgt := 50) (by omega) (by omega) dX6_lastOf_22 (by decide) (fun c22 => ?_) (fun c22 => ?_)
        · -- taken at 22
          refine lv_iload_n hx hb dX6_lastOf_50 rfl (lv_at hl 3 rfl) ?_
          refine t_i (y := (oI (lastW th re go t r (i + 1)))) (by first | exact congrArg oI (lastW_t c22 c33 c42) | exact congrArg oI (lastW_f1 c22) | exact congrArg oI (lastW_f2 c33) | exact congrArg oI (lastW_f3 c42)) ?_
          refine lv_istore_n (lv' := [(3, .int (oI (lastW th re go t r (i + 1)))), (0, .ref (a 0)), (1, .int (nI t)), (2, .int (nI r)), (4, .int (nI i))]) hx hb dX6_lastOf_51 rfl hl (by decide) rfl (fun ls hl => ?_)
          refine lv_iinc (v := (nI (i + 1))) (lv' := [(4, .int (nI (i + 1))), (3, .int (oI (lastW th re go t r (i + 1)))), (0, .ref (a 0)), (1, .int (nI t)), (2, .int (nI r))]) hx hb dX6_lastOf_52 hl (k := 4) rfl (nI_inc _ 1) (by decide) rfl (fun ls hl => ?_)
          refine lv_goto (tgt := 5) hx hb dX6_lastOf_55 (by decide) ?_
          -- slot 4: have n:i + 1, want n:(i + 1)
          exact ih (i + 1) (by omega) (by omega) ls (lv_sub hl [2, 3, 4, 1, 0] rfl)
        · -- not taken at 22
          refine lv_aload_n hx hb dX6_lastOf_25 rfl (lv_at hl 0 rfl) ?_
          refine f_get G K hP inX6 0 (ci := 6) rfl rfl 9 rfl fl_X6_31 (v := .ref (a 8)) rfl dX6_lastOf_26 ?_
          refine lv_iload hx hb dX6_lastOf_29 (lv_at hl 4 rfl) ?_
          refine a_ldN G K hP 8 0 (a := (a 8)) rfl rfl (by omega) (by decide) dX6_lastOf_31 ?_
          have hb3 := hre i
          refine lv_iload_n hx hb dX6_lastOf_32 rfl (lv_at hl 2 rfl) ?_
          refine c_gt G (tgt := 50) (by omega) (by omega) dX6_lastOf_33 (by decide) (fun c33 => ?_) (fun c33 => ?_)
          · -- taken at 33
            refine lv_iload_n hx hb dX6_lastOf_50 rfl (lv_at hl 3 rfl) ?_
            refine t_i (y := (oI (lastW th re go t r (i + 1)))) (by first | exact congrArg oI (lastW_t c22 c33 c42) | exact congrArg oI (lastW_f1 c22) | exact congrArg oI (lastW_f2 c33) | exact congrArg oI (lastW_f3 c42)) ?_
            refine lv_istore_n (lv' := [(3, .int (oI (lastW th re go t r (i + 1)))), (0, .ref (a 0)), (1, .int (nI t)), (2, .int (nI r)), (4, .int (nI i))]) hx hb dX6_lastOf_51 rfl hl (by decide) rfl (fun ls hl => ?_)
            refine lv_iinc (v := (nI (i + 1))) (lv' := [(4, .int (nI (i + 1))), (3, .int (oI (lastW th re go t r (i + 1)))), (0, .ref (a 0)), (1, .int (nI t)), (2, .int (nI r))]) hx hb dX6_lastOf_52 hl (k := 4) rfl (nI_inc _ 1) (by decide) rfl (fun ls hl => ?_)
            refine lv_goto (tgt := 5) hx hb dX6_lastOf_55 (by decide) ?_
            -- slot 4: have n:i + 1, want n:(i + 1)
            exact ih (i + 1) (by omega) (by omega) ls (lv_sub hl [2, 3, 4, 1, 0] rfl)
          · -- not taken at 33
            refine lv_iload hx hb dX6_lastOf_36 (lv_at hl 4 rfl) ?_
            refine lv_aload_n hx hb dX6_lastOf_38 rfl (lv_at hl 0 rfl) ?_
            refine f_get G K hP inX6 0 (ci := 6) rfl rfl 14 rfl fl_X6_44 (v := .int (oI go)) rfl dX6_lastOf_39 ?_
            refine no_eq G (tgt := 50) (by omega) (fun w h => by have := hgo w h; omega) dX6_lastOf_42 (by decide) (fun c42 => ?_) (fun c42 => ?_)
            · -- taken at 42
              refine lv_iload_n hx hb dX6_lastOf_50 rfl (lv_at hl 3 rfl) ?_
              refine t_i (y := (oI (lastW th re go t r (i + 1)))) (by first | exact congrArg oI (lastW_t c22 c33 c42) | exact congrArg oI (lastW_f1 c22) | exact congrArg oI (lastW_f2 c33) | exact congrArg oI (lastW_f3 c42)) ?_
              refine lv_istore_n (lv' := [(3, .int (oI (lastW th re go t r (i + 1)))), (0, .ref (a 0)), (1, .int (nI t)), (2, .int (nI r)), (4, .int (nI i))]) hx hb dX6_lastOf_51 rfl hl (by decide) rfl (fun ls hl => ?_)
              refine lv_iinc (v := (nI (i + 1))) (lv' := [(4, .int (nI (i + 1))), (3, .int (oI (lastW th re go t r (i + 1)))), (0, .ref (a 0)), (1, .int (nI t)), (2, .int (nI r))]) hx hb dX6_lastOf_52 hl (k := 4) rfl (nI_inc _ 1) (by decide) rfl (fun ls hl => ?_)
              refine lv_goto (tgt := 5) hx hb dX6_lastOf_55 (by decide) ?_
              -- slot 4: have n:i + 1, want n:(i + 1)
              exact ih (i + 1) (by omega) (by omega) ls (lv_sub hl [2, 3, 4, 1, 0] rfl)
            · -- not taken at 42
              refine lv_iload hx hb dX6_lastOf_45 (lv_at hl 4 rfl) ?_
              refine lv_goto (tgt := 51) hx hb dX6_lastOf_47 (by decide) ?_
              refine t_i (y := (oI (lastW th re go t r (i + 1)))) (by first | exact congrArg oI (lastW_t c22 c33 c42) | exact congrArg oI (lastW_f1 c22) | exact congrArg oI (lastW_f2 c33) | exact congrArg oI (lastW_f3 c42)) ?_
              refine lv_istore_n (lv' := [(3, .int (oI (lastW th re go t r (i + 1)))), (0, .ref (a 0)), (1, .int (nI t)), (2, .int (nI r)), (4, .int (nI i))]) hx hb dX6_lastOf_51 rfl hl (by decide) rfl (fun ls hl => ?_)
              refine lv_iinc (v := (nI (i + 1))) (lv' := [(4, .int (nI (i + 1))), (3, .int (oI (lastW th re go t r (i + 1)))), (0, .ref (a 0)), (1, .int (nI t)), (2, .int (nI r))]) hx hb dX6_lastOf_52 hl (k := 4) rfl (nI_inc _ 1) (by decide) rfl (fun ls hl => ?_)
              refine lv_goto (tgt := 5) hx hb dX6_lastOf_55 (by decide) ?_
              -- slot 4: have n:i + 1, want n:(i + 1)
              exact ih (i + 1) (by omega) (by omega) ls (lv_sub hl [2, 3, 4, 1, 0] rfl)
  exact L5 (n - 0) (0) (Nat.le_refl _) (by omega) ls (lv_sub hl [2, 3, 4, 1, 0] rfl)

end
end
